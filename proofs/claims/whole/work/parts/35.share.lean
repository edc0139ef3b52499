/-! MODULE: shared lines, the class -/
theorem xle_nil : xle [] [] := ⟨rfl, fun k v h => by simp at h⟩
theorem xle_cons {a b : xL} {x : Option xV} (h : xle a b) : xle (x :: a) (x :: b) := by
  refine ⟨by simp [h.1], fun k v hk => ?_⟩
  cases k with
  | zero => exact hk
  | succ k => exact h.2 k v hk
theorem xle_none {a b : xL} {x : Option xV} (h : xle a b) : xle (none :: a) (x :: b) := by
  refine ⟨by simp [h.1], fun k v hk => ?_⟩
  cases k with
  | zero => cases hk
  | succ k => exact h.2 k v hk
theorem pCnt_zero {P : Nat → Bool} : ∀ {n : Nat}, (∀ j, j < n → P j = false) → pCnt P n = 0
  | 0, _ => rfl
  | n + 1, h => by rw [pCnt_s, pCnt_zero (fun j hj => h j (by omega)), h n (by omega)]; rfl
theorem pCnt_congr {P P' : Nat → Bool} : ∀ {n : Nat}, (∀ j, j < n → P j = P' j) → pCnt P n = pCnt P' n
  | 0, _ => rfl
  | n + 1, h => by rw [pCnt_s, pCnt_s, pCnt_congr (fun j hj => h j (by omega)), h n (by omega)]
theorem pCnt_dec {P P' : Nat → Bool} {j0 : Nat} (h0 : P j0 = true) (h1 : P' j0 = false) : ∀ {n : Nat}, j0 < n → (∀ j, j < n → j ≠ j0 → P j = P' j) → pCnt P n = pCnt P' n + 1
  | 0, h, _ => by omega
  | n + 1, h, hc => by
    rw [pCnt_s, pCnt_s]
    by_cases hn : n = j0
    · subst hn
      rw [pCnt_congr (P := P) (P' := P') (fun j hj => hc j (by omega) (by omega)), h0, h1]
      simp
    · rw [pCnt_dec h0 h1 (n := n) (by omega) (fun j hj hne => hc j (by omega) hne), hc n (by omega) hn]
      omega
/-- the sum over 1 .. n -/
def pSum (f : Nat → Nat) : Nat → Nat
  | 0 => 0
  | n + 1 => pSum f n + f (n + 1)
theorem pSum_congr {f g : Nat → Nat} : ∀ {n : Nat}, (∀ v, 1 ≤ v → v ≤ n → f v = g v) → pSum f n = pSum g n
  | 0, _ => rfl
  | n + 1, h => by
    show pSum f n + f (n + 1) = pSum g n + g (n + 1)
    rw [pSum_congr (fun v h1 h2 => h v h1 (by omega)), h (n + 1) (by omega) (Nat.le_refl _)]
theorem pSum_inc {f g : Nat → Nat} {v0 : Nat} (h0 : g v0 = f v0 + 1) (h1 : 1 ≤ v0) : ∀ {n : Nat}, v0 ≤ n → (∀ v, 1 ≤ v → v ≤ n → v ≠ v0 → f v = g v) → pSum g n = pSum f n + 1
  | 0, h, _ => by omega
  | n + 1, h, hc => by
    show pSum g n + g (n + 1) = pSum f n + f (n + 1) + 1
    by_cases hn : n + 1 = v0
    · subst hn
      rw [pSum_congr (f := g) (g := f) (n := n) (fun v h1 h2 => (hc v h1 (by omega) (by omega)).symm), h0]
      omega
    · rw [pSum_inc h0 h1 (n := n) (by omega) (fun v h1 h2 h3 => hc v h1 (by omega) h3), hc (n + 1) (by omega) (Nat.le_refl _) hn]
      omega
theorem pSum_le {f : Nat → Nat} {c : Nat} : ∀ {n : Nat}, (∀ v, 1 ≤ v → v ≤ n → f v ≤ c) → pSum f n ≤ n * c
  | 0, _ => Nat.zero_le _
  | n + 1, h => by
    have := pSum_le (f := f) (c := c) (n := n) (fun v h1 h2 => h v h1 (by omega))
    have h2 := h (n + 1) (by omega) (Nat.le_refl _)
    show pSum f n + f (n + 1) ≤ (n + 1) * c
    rw [Nat.succ_mul]
    omega
/-- how often v stands among the first n -/
def pVc (l : List Int32) (v n : Nat) : Nat := pCnt (fun j => decide (l.getD j 0 = nI v)) n
def pShare (l1 l2 : List Int32) : Nat := pSum (fun v => min (pVc l1 v l1.length) (pVc l2 v l2.length)) 19
def pOK (l : List Int32) : Prop := ∀ j, j < l.length → ∃ v, 1 ≤ v ∧ v ≤ 19 ∧ l.getD j 0 = nI v
set_option maxRecDepth 100000 in
theorem mk_all : ∀ M : Fin 256, ∀ j : Fin 8, (decide ((nI M.val &&& (nI 1 <<< (nI j.val &&& 31))) = 0) = !M.val.testBit j.val) ∧ (nI M.val ||| (nI 1 <<< (nI j.val &&& 31))) = nI (M.val ||| 2 ^ j.val) ∧ M.val ||| 2 ^ j.val < 256 := by decide +kernel
theorem mk_test {M j : Nat} (hM : M < 256) (hj : j < 8) : (nI M &&& (nI 1 <<< (nI j &&& 31))) = 0 ↔ M.testBit j = false := by
  have := (mk_all ⟨M, hM⟩ ⟨j, hj⟩).1
  simp only at this
  constructor
  · intro h
    rw [decide_eq_true h] at this
    cases hb : M.testBit j with
    | false => rfl
    | true => rw [hb] at this; cases this
  · intro h
    rw [h] at this
    exact of_decide_eq_true this
theorem mk_set {M j : Nat} (hM : M < 256) (hj : j < 8) : (nI M ||| (nI 1 <<< (nI j &&& 31))) = nI (M ||| 2 ^ j) ∧ M ||| 2 ^ j < 256 := (mk_all ⟨M, hM⟩ ⟨j, hj⟩).2
theorem mk_bit (M j k : Nat) : (M ||| 2 ^ j).testBit k = (M.testBit k || decide (j = k)) := by rw [Nat.testBit_or, Nat.testBit_two_pow]
theorem mn_nI {a b : Nat} (ha : a < 2147483648) (hb : b < 2147483648) : (if nI b < nI a then nI b else nI a) = nI (min a b) := by
  by_cases h : b < a
  · rw [if_pos ((nI_ltI hb ha).mpr h), Nat.min_eq_right (by omega)]
  · rw [if_neg (fun z => h ((nI_ltI hb ha).mp z)), Nat.min_eq_left (by omega)]
theorem mx_nI {a b : Nat} (ha : a < 2147483648) (hb : b < 2147483648) : (if nI a < nI b then nI b else nI a) = nI (max a b) := by
  by_cases h : a < b
  · rw [if_pos ((nI_ltI ha hb).mpr h), Nat.max_eq_right (by omega)]
  · rw [if_neg (fun z => h ((nI_ltI ha hb).mp z)), Nat.max_eq_left (by omega)]
/-- those of v that are not taken -/
def pU (l : List Int32) (M v n : Nat) : Nat := pCnt (fun j => decide (l.getD j 0 = nI v) && !M.testBit j) n
theorem m_countShared (d : Nat) {σ : xS} {q1 q2 : Nat} {F1 F2 : pF} (h1 : hFile σ q1 F1) (h2 : hFile σ q2 F2) (hl : F2.2.length ≤ 8) (ok : pOK F1.2) : xEx (d + 1) 6 [.inr (some q1), .inr (some q2)] σ (some (.inl (nI (pShare F1.2 F2.2)))) σ := by
  obtain ⟨b1, c1, ⟨f1, c2, c3⟩, c4, -, -⟩ := h1
  obtain ⟨b2, e1, ⟨f2, e2, e3⟩, e4, -, -⟩ := h2
  generalize F1.2 = l1 at c2 c3 c4 ok ⊢
  generalize hn2 : F2.2 = l2 at e2 e3 e4 hl ⊢
  refine ⟨by decide, rfl, ?_⟩
  show xGo (xEx d) xtb_6 _ (0, [some (.inr (some q1)), some (.inr (some q2)), none, none, none, none, none], [], σ)
  have outer : ∀ k i M S, i + k = l1.length → M < 256 → (∀ v, 1 ≤ v → v ≤ 19 → pU l2 M v l2.length = pVc l2 v l2.length - pVc l1 v i) → S = pSum (fun v => min (pVc l1 v i) (pVc l2 v l2.length)) 19 → xGo (xEx d) xtb_6 (fun r0 σ0 => r0 = some (.inl (nI (pShare l1 l2))) ∧ σ0 = σ) (26, [some (.inr (some q1)), some (.inr (some q2)), some (.inl (nI l2.length)), some (.inl (nI M)), some (.inl (nI S)), some (.inl (nI i)), none], [.inl (nI l1.length), .inl (nI i)], σ) := by
    intro k
    induction k with
    | zero =>
      intro i M S hi hM hU hS
      obtain rfl : i = l1.length := by omega
      refine gct rfl (show nI _ ≤ nI _ from nI_le (by omega) (by omega)) ?_
      repeat (first | refine gp rfl rfl rfl ?_ | refine ggf rfl (by assumption) (by rfl) ?_ | refine gal rfl (by assumption) (by rfl) (by omega) (by omega) ?_ | refine gil rfl (by assumption) (by rfl) (by omega) (by omega) ?_ | refine gbl rfl (by assumption) (by rfl) (by omega) (by omega) ?_ | refine gln rfl (xlen_i (by assumption)) ?_ | refine gln rfl (xlen_q (by assumption)) ?_)
      exact gri rfl (fun h => absurd h (by decide)) ⟨by rw [hS]; rfl, rfl⟩
    | succ k ih =>
      intro i M S hi hM hU hS
      refine gcf rfl (nI_ge (by omega) (by omega)) ?_
      obtain ⟨v0, hv1, hv2, hv3⟩ := ok i (by omega)
      have hc1 : ∀ v, pVc l1 v (i + 1) = pVc l1 v i + (if l1.getD i 0 = nI v then 1 else 0) := fun v => by
        unfold pVc; rw [pCnt_s]; simp
      have hne : ∀ v, 1 ≤ v → v ≤ 19 → v ≠ v0 → ¬ l1.getD i 0 = nI v := fun v g1 g2 g3 z => g3 ((nI_eq (by omega) (by omega)).mp (z.symm.trans hv3))
      have inner : ∀ k2 j, j + k2 = l2.length → (∀ j', j' < j → ¬ (l2.getD j' 0 = nI v0 ∧ M.testBit j' = false)) → xGo (xEx d) xtb_6 (fun r0 σ0 => r0 = some (.inl (nI (pShare l1 l2))) ∧ σ0 = σ) (35, [some (.inr (some q1)), some (.inr (some q2)), some (.inl (nI l2.length)), some (.inl (nI M)), some (.inl (nI S)), some (.inl (nI i)), some (.inl (nI j))], [.inl (nI l2.length), .inl (nI j)], σ) := by
        intro k2
        induction k2 with
        | zero =>
          intro j hj hno
          obtain rfl : j = l2.length := by omega
          refine gct rfl (show nI _ ≤ nI _ from nI_le (by omega) (by omega)) ?_
          repeat (first | refine gp rfl rfl rfl ?_ | refine ggf rfl (by assumption) (by rfl) ?_ | refine gal rfl (by assumption) (by rfl) (by omega) (by omega) ?_ | refine gil rfl (by assumption) (by rfl) (by omega) (by omega) ?_ | refine gbl rfl (by assumption) (by rfl) (by omega) (by omega) ?_ | refine gln rfl (xlen_i (by assumption)) ?_ | refine gln rfl (xlen_q (by assumption)) ?_)
          rw [nI_s]
          have hz : pU l2 M v0 l2.length = 0 := pCnt_zero (fun j' hj' => by
            have := hno j' hj'
            cases hb : M.testBit j' with
            | true => simp
            | false =>
              have h9 : ¬ l2.getD j' 0 = nI v0 := fun z => this ⟨z, hb⟩
              simp only [decide_eq_false h9, Bool.false_and])
          have hle := hU v0 hv1 hv2
          rw [hz] at hle
          refine xGo_weak (ih (i + 1) M S (by omega) hM (fun v g1 g2 => ?_) ?_) (xle_cons (xle_cons (xle_cons (xle_cons (xle_cons (xle_cons (xle_none xle_nil)))))))
          · rw [hc1 v]
            by_cases hv : v = v0
            · subst hv; rw [if_pos hv3, hz]; omega
            · rw [if_neg (hne v g1 g2 hv), hU v g1 g2]; rfl
          · rw [hS]
            refine pSum_congr (fun v g1 g2 => ?_)
            rw [hc1 v]
            by_cases hv : v = v0
            · subst hv; rw [if_pos hv3]; omega
            · rw [if_neg (hne v g1 g2 hv)]; rfl
        | succ k2 ih2 =>
          intro j hj hno
          refine gcf rfl (nI_ge (by omega) (by omega)) ?_
          repeat (first | refine gp rfl rfl rfl ?_ | refine ggf rfl (by assumption) (by rfl) ?_ | refine gal rfl (by assumption) (by rfl) (by omega) (by omega) ?_ | refine gil rfl (by assumption) (by rfl) (by omega) (by omega) ?_ | refine gbl rfl (by assumption) (by rfl) (by omega) (by omega) ?_ | refine gln rfl (xlen_i (by assumption)) ?_ | refine gln rfl (xlen_q (by assumption)) ?_)
          refine gif' rfl (fun ht => ?_) (fun ht => ?_)
          · have ht : M.testBit j = true := by
              cases hb : M.testBit j with
              | true => rfl
              | false => exact absurd ((mk_test hM (by omega)).mpr hb) ht
            repeat (first | refine gp rfl rfl rfl ?_ | refine ggf rfl (by assumption) (by rfl) ?_ | refine gal rfl (by assumption) (by rfl) (by omega) (by omega) ?_ | refine gil rfl (by assumption) (by rfl) (by omega) (by omega) ?_ | refine gbl rfl (by assumption) (by rfl) (by omega) (by omega) ?_ | refine gln rfl (xlen_i (by assumption)) ?_ | refine gln rfl (xlen_q (by assumption)) ?_)
            rw [nI_s]
            refine ih2 (j + 1) (by omega) (fun j' hj' => ?_)
            by_cases hjj : j' = j
            · subst hjj; rintro ⟨-, z⟩; rw [ht] at z; cases z
            · exact hno j' (by omega)
          · have ht : M.testBit j = false := (mk_test hM (by omega)).mp (by
              by_cases hz : (nI M &&& (nI 1 <<< (nI j &&& 31))) = 0
              · exact hz
              · exact absurd hz ht)
            repeat (first | refine gp rfl rfl rfl ?_ | refine ggf rfl (by assumption) (by rfl) ?_ | refine gal rfl (by assumption) (by rfl) (by omega) (by omega) ?_ | refine gil rfl (by assumption) (by rfl) (by omega) (by omega) ?_ | refine gbl rfl (by assumption) (by rfl) (by omega) (by omega) ?_ | refine gln rfl (xlen_i (by assumption)) ?_ | refine gln rfl (xlen_q (by assumption)) ?_)
            rw [c3 i (by omega), e3 j (by omega), hv3]
            refine gcp rfl (fun hq => ?_) (fun hq => ?_)
            · have hq : ¬ nI v0 = l2.getD j 0 := hq
              repeat (first | refine gp rfl rfl rfl ?_ | refine ggf rfl (by assumption) (by rfl) ?_ | refine gal rfl (by assumption) (by rfl) (by omega) (by omega) ?_ | refine gil rfl (by assumption) (by rfl) (by omega) (by omega) ?_ | refine gbl rfl (by assumption) (by rfl) (by omega) (by omega) ?_ | refine gln rfl (xlen_i (by assumption)) ?_ | refine gln rfl (xlen_q (by assumption)) ?_)
              rw [nI_s]
              refine ih2 (j + 1) (by omega) (fun j' hj' => ?_)
              by_cases hjj : j' = j
              · subst hjj; rintro ⟨z, -⟩; exact hq z.symm
              · exact hno j' (by omega)
            · have hq : nI v0 = l2.getD j 0 := by
                by_cases hz : nI v0 = l2.getD j 0
                · exact hz
                · exact absurd hz hq
              obtain ⟨hs1, hs2⟩ := mk_set hM (show j < 8 by omega)
              repeat (first | refine gp rfl rfl rfl ?_ | refine ggf rfl (by assumption) (by rfl) ?_ | refine gal rfl (by assumption) (by rfl) (by omega) (by omega) ?_ | refine gil rfl (by assumption) (by rfl) (by omega) (by omega) ?_ | refine gbl rfl (by assumption) (by rfl) (by omega) (by omega) ?_ | refine gln rfl (xlen_i (by assumption)) ?_ | refine gln rfl (xlen_q (by assumption)) ?_)
              rw [nI_s, nI_s, show nI M ||| xk 1 0 <<< (nI j &&& 31) = nI (M ||| 2 ^ j) from hs1]
              have hd1 : pU l2 M v0 l2.length = pU l2 (M ||| 2 ^ j) v0 l2.length + 1 := by
                refine pCnt_dec (j0 := j) ?_ ?_ (by omega) (fun j' hj' hne' => ?_)
                · show (decide (l2.getD j 0 = nI v0) && !M.testBit j) = true
                  rw [ht, decide_eq_true hq.symm]; rfl
                · simp [mk_bit]
                · rw [mk_bit, decide_eq_false (Ne.symm hne')]; simp
              have hd2 : ∀ v, 1 ≤ v → v ≤ 19 → v ≠ v0 → pU l2 (M ||| 2 ^ j) v l2.length = pU l2 M v l2.length := fun v g1 g2 g3 => by
                refine pCnt_congr (fun j' hj' => ?_)
                by_cases hjj : j' = j
                · subst hjj
                  have h9 : ¬ l2.getD j' 0 = nI v := fun z => g3 ((nI_eq (by omega) (by omega)).mp (z.symm.trans hq.symm))
                  simp only [decide_eq_false h9, Bool.false_and]
                · rw [mk_bit, decide_eq_false (Ne.symm hjj)]; simp
              have hle := hU v0 hv1 hv2
              refine xGo_weak (ih (i + 1) (M ||| 2 ^ j) (S + 1) (by omega) hs2 (fun v g1 g2 => ?_) ?_) (xle_cons (xle_cons (xle_cons (xle_cons (xle_cons (xle_cons (xle_none xle_nil)))))))
              · rw [hc1 v]
                by_cases hv : v = v0
                · subst hv; rw [if_pos hv3]; omega
                · rw [if_neg (hne v g1 g2 hv), hd2 v g1 g2 hv, hU v g1 g2]; rfl
              · rw [hS]
                refine (pSum_inc (v0 := v0) ?_ hv1 hv2 (fun v g1 g2 g3 => ?_)).symm
                · rw [hc1 v0, if_pos hv3]; omega
                · rw [hc1 v, if_neg (hne v g1 g2 g3)]; rfl
      repeat (first | refine gp rfl rfl rfl ?_ | refine ggf rfl (by assumption) (by rfl) ?_ | refine gal rfl (by assumption) (by rfl) (by omega) (by omega) ?_ | refine gil rfl (by assumption) (by rfl) (by omega) (by omega) ?_ | refine gbl rfl (by assumption) (by rfl) (by omega) (by omega) ?_ | refine gln rfl (xlen_i (by assumption)) ?_ | refine gln rfl (xlen_q (by assumption)) ?_)
      exact inner l2.length 0 (by omega) (fun j' hj' => absurd hj' (by omega))
  repeat (first | refine gp rfl rfl rfl ?_ | refine ggf rfl (by assumption) (by rfl) ?_ | refine gal rfl (by assumption) (by rfl) (by omega) (by omega) ?_ | refine gil rfl (by assumption) (by rfl) (by omega) (by omega) ?_ | refine gbl rfl (by assumption) (by rfl) (by omega) (by omega) ?_ | refine gln rfl (xlen_i (by assumption)) ?_ | refine gln rfl (xlen_q (by assumption)) ?_)
  refine gmn rfl (by decide) ?_
  rw [show (if xk 8 0 < nI l2.length then xk 8 0 else nI l2.length) = nI (min l2.length 8) from mn_nI (by omega) (by decide), Nat.min_eq_left hl]
  repeat (first | refine gp rfl rfl rfl ?_ | refine ggf rfl (by assumption) (by rfl) ?_ | refine gal rfl (by assumption) (by rfl) (by omega) (by omega) ?_ | refine gil rfl (by assumption) (by rfl) (by omega) (by omega) ?_ | refine gbl rfl (by assumption) (by rfl) (by omega) (by omega) ?_ | refine gln rfl (xlen_i (by assumption)) ?_ | refine gln rfl (xlen_q (by assumption)) ?_)
  refine outer l1.length 0 0 0 (by omega) (by decide) (fun v g1 g2 => ?_) ?_
  · show pU l2 0 v l2.length = _ - 0
    refine pCnt_congr (fun j hj => ?_)
    simp
  · refine (Nat.le_zero.mp ?_).symm
    have := pSum_le (f := fun v => min (pVc l1 v 0) (pVc l2 v l2.length)) (c := 0) (n := 19) (fun v _ _ => Nat.min_le_left _ _)
    omega
