/-! MODULE: the table of the longest matchings, and the first of them, the class -/
def dI : Nat → Int32
  | 0 => -1
  | k + 1 => nI k
theorem dI_dec (k : Nat) : nI k + xk 1 1 = dI k := by
  cases k with
  | zero => decide
  | succ k =>
    show nI (k + 1) + xk 1 1 = nI k
    rw [← nI_add, Int32.add_assoc, show nI 1 + xk 1 1 = 0 by decide, Int32.add_zero]
theorem dI_sub (k : Nat) : nI k - xk 1 0 = dI k := by
  cases k with
  | zero => decide
  | succ k => exact pk_sub (a := k + 1) (b := 1) (by omega)
/-- the nine rows -/
def hTb (σ : xS) (F : Nat → Nat → Int32) : Prop := σ.1 22 = some (.inr (.inl (2, 9, fun i => some (23 + i)))) ∧ ∀ i, i < 9 → σ.1 (23 + i) = some (.inl (0, 77, F i))
theorem hTb_up {σ : xS} {F : Nat → Nat → Int32} {i0 j0 : Nat} {v : Int32} (h : hTb σ F) : hTb (xup σ (23 + i0) (.inl (0, 77, upd (F i0) j0 v))) (fun i => if i = i0 then upd (F i0) j0 v else F i) := by
  refine ⟨by rw [xup_ne (by omega)]; exact h.1, fun i hi => ?_⟩
  by_cases hii : i = i0
  · subst hii
    rw [xup_eq]
    simp only [if_pos]
  · rw [xup_ne (by omega), h.2 i hi]
    simp only [if_neg hii]
theorem hInts.fr {lo hi : Nat} {σ σ' : xS} {b : Nat} {l : List Int32} (h : hInts σ b l) (hf : hFr lo hi σ σ') (hb : b < lo ∨ hi < b) : hInts σ' b l := by
  obtain ⟨f, h1, h2⟩ := h
  exact ⟨f, by rw [hf.2 b hb]; exact h1, h2⟩
def pCm (lo lx : List Int32) (i j : Nat) : Nat := pL (lo.drop i) (lx.drop j)
theorem drop_step {l : List Int32} {i : Nat} (h : i < l.length) : l.drop i = l.getD i 0 :: l.drop (i + 1) := by
  rw [List.drop_eq_getElem_cons h, List.getD_eq_getElem?_getD, List.getElem?_eq_getElem h]
  rfl
theorem pCm_top {lo lx : List Int32} {j : Nat} : pCm lo lx lo.length j = 0 := by unfold pCm; rw [List.drop_length]; rfl
theorem pCm_end {lo lx : List Int32} {i : Nat} : pCm lo lx i lx.length = 0 := by unfold pCm; rw [List.drop_length, pL_nil2]
theorem pCm_rule {lo lx : List Int32} {i j : Nat} (hi : i < lo.length) (hj : j < lx.length) : pCm lo lx i j = if lo.getD i 0 = lx.getD j 0 then pCm lo lx (i + 1) (j + 1) + 1 else max (pCm lo lx (i + 1) j) (pCm lo lx i (j + 1)) := by
  unfold pCm
  rw [drop_step hi, drop_step hj, pL_rule]
theorem pL_le : ∀ o x : List Int32, pL o x ≤ o.length
  | [], _ => Nat.le_refl _
  | c :: o, x => by
    have h1 := pL_le o
    show max (pL o x) _ ≤ o.length + 1
    have h2 := h1 x
    split
    · rename_i r _
      have := h1 r
      omega
    · omega
theorem pCm_le (lo lx : List Int32) (i j : Nat) : pCm lo lx i j ≤ lo.length := Nat.le_trans (pL_le _ _) (by rw [List.length_drop]; omega)
theorem m_countCommon (d : Nat) {σ : xS} {w : List Int32} {c : Bool} {o x : Nat} {lo lx : List Int32} {F : Nat → Nat → Int32} (h : hLM σ w c) (ht : hTb σ F) (hlo : hInts σ o lo) (hlx : hInts σ x lx) (ho : far o) (hx : far x) (so : lo.length ≤ 8) (sx : lx.length ≤ 76) :
    ∃ (σ' : xS) (F' : Nat → Nat → Int32), xEx (d + 1) 46 [.inr (some 21), .inr (some o), .inl (nI lo.length), .inr (some x), .inl (nI lx.length)] σ none σ' ∧ hTb σ' F' ∧ (∀ i j, i ≤ lo.length → j ≤ lx.length → F' i j = nI (pCm lo lx i j)) ∧ hFr 23 31 σ σ' := by
  obtain ⟨h1, -⟩ := h
  obtain ⟨fo, o1, o2⟩ := hlo
  obtain ⟨fx, x1, x2⟩ := hlx
  unfold far at ho hx
  let K : Option xV → xS → Prop := fun r0 σ0 => r0 = none ∧ ∃ F', hTb σ0 F' ∧ (∀ i j, i ≤ lo.length → j ≤ lx.length → F' i j = nI (pCm lo lx i j)) ∧ hFr 23 31 σ σ0
  have outer : ∀ k (σ1 : xS) (F1 : Nat → Nat → Int32) (y : Option xV), k ≤ lo.length → hTb σ1 F1 → hFr 23 31 σ σ1 → (∀ i j, k ≤ i → i ≤ lo.length → j ≤ lx.length → F1 i j = nI (pCm lo lx i j)) → xGo (xEx d) xtb_46 K (33, [some (.inr (some 21)), some (.inr (some o)), some (.inl (nI lo.length)), some (.inr (some x)), some (.inl (nI lx.length)), some (.inl (dI k)), y], [.inl (dI k)], σ1) := by
    intro k
    induction k with
    | zero =>
      intro σ1 F1 y hk ht1 hf hall
      refine git rfl (show dI 0 < 0 by decide) ?_
      exact grv rfl ⟨rfl, F1, ht1, fun i j hi hj => hall i j (by omega) hi hj, hf⟩
    | succ k ih =>
      intro σ1 F1 y hk ht1 hf hall
      have inner : ∀ q (σ2 : xS) (F2 : Nat → Nat → Int32), q ≤ lx.length → hTb σ2 F2 → hFr 23 31 σ σ2 → (∀ i j, k + 1 ≤ i → i ≤ lo.length → j ≤ lx.length → F2 i j = nI (pCm lo lx i j)) → (∀ j, q ≤ j → j ≤ lx.length → F2 k j = nI (pCm lo lx k j)) → xGo (xEx d) xtb_46 K (55, [some (.inr (some 21)), some (.inr (some o)), some (.inl (nI lo.length)), some (.inr (some x)), some (.inl (nI lx.length)), some (.inl (nI k)), some (.inl (dI q))], [.inl (dI q)], σ2) := by
        intro q
        induction q with
        | zero =>
          intro σ2 F2 hq ht2 hf2 hall2 hrow
          refine git rfl (show dI 0 < 0 by decide) ?_
          repeat (first | refine gp rfl rfl rfl ?_ | refine ggf rfl (by assumption) (by rfl) ?_ | refine gal rfl (by assumption) (by rfl) (by omega) (by omega) ?_ | refine gil rfl (by assumption) (by rfl) (by omega) (by omega) ?_ | refine gbl rfl (by assumption) (by rfl) (by omega) (by omega) ?_ | refine gln rfl (xlen_i (by assumption)) ?_ | refine gln rfl (xlen_q (by assumption)) ?_)
          rw [dI_dec]
          refine ih σ2 F2 _ (by omega) ht2 hf2 (fun i j h1 h2 h3 => ?_)
          by_cases hik : i = k
          · subst hik; exact hrow j (by omega) h3
          · exact hall2 i j (by omega) h2 h3
        | succ q ihq =>
          intro σ2 F2 hq ht2 hf2 hall2 hrow
          have e21 : σ2.1 21 = some (.inr (.inr (6, [.inr (some 22), .inr (some 32), .inr (some 33), .inr (some 34), .inr (some 35), .inr (some 36), .inr (some 37), .inl (nI w.length), .inl (bI c)]))) := by rw [hf2.2 21 (by omega)]; exact h1
          have e22 := ht2.1
          have eo : σ2.1 o = some (.inl (0, lo.length, fo)) := by rw [hf2.2 o (by omega)]; exact o1
          have ex : σ2.1 x = some (.inl (0, lx.length, fx)) := by rw [hf2.2 x (by omega)]; exact x1
          have rk := ht2.2 k (by omega)
          have rk1 := ht2.2 (k + 1) (by omega)
          refine giff rfl (show ¬ nI q < 0 from nI_pos (by omega)) ?_
          have next : ∀ v : Int32, v = nI (pCm lo lx k q) → xGo (xEx d) xtb_46 K (124, [some (.inr (some 21)), some (.inr (some o)), some (.inl (nI lo.length)), some (.inr (some x)), some (.inl (nI lx.length)), some (.inl (nI k)), some (.inl (nI q))], [.inl v, .inl (nI q), .inr (some (23 + k))], σ2) := by
            intro v hv
            refine gis rfl rk rfl (by omega) (by omega) (by omega) ?_
            repeat (first | refine gp rfl rfl rfl ?_ | refine ggf rfl (by assumption) (by rfl) ?_ | refine gal rfl (by assumption) (by rfl) (by omega) (by omega) ?_ | refine gil rfl (by assumption) (by rfl) (by omega) (by omega) ?_ | refine gbl rfl (by assumption) (by rfl) (by omega) (by omega) ?_ | refine gln rfl (xlen_i (by assumption)) ?_ | refine gln rfl (xlen_q (by assumption)) ?_)
            rw [dI_dec]
            refine ihq _ _ (by omega) (hTb_up (i0 := k) (j0 := q) (v := v) ht2) (hf2.trans (hFr.up (by omega) (by omega))) (fun i j h1 h2 h3 => ?_) (fun j h1 h2 => ?_)
            · rw [if_neg (by omega)]; exact hall2 i j h1 h2 h3
            · rw [if_pos rfl]
              by_cases hjq : j = q
              · subst hjq; simp only [upd, if_pos]; exact hv
              · simp only [upd, if_neg hjq]; exact hrow j (by omega) h2
          show xGo (xEx d) xtb_46 K (58, [some (.inr (some 21)), some (.inr (some o)), some (.inl (nI lo.length)), some (.inr (some x)), some (.inl (nI lx.length)), some (.inl (nI k)), some (.inl (nI q))], [], σ2)
          repeat (first | refine gp rfl rfl rfl ?_ | refine ggf rfl (by assumption) (by rfl) ?_ | refine gal rfl (by assumption) (by rfl) (by omega) (by omega) ?_ | refine gil rfl (by assumption) (by rfl) (by omega) (by omega) ?_ | refine gbl rfl (by assumption) (by rfl) (by omega) (by omega) ?_ | refine gln rfl (xlen_i (by assumption)) ?_ | refine gln rfl (xlen_q (by assumption)) ?_)
          rw [o2 k (by omega), x2 q (by omega)]
          refine gcp rfl (fun hne => ?_) (fun heq => ?_)
          · repeat (first | refine gp rfl rfl rfl ?_ | refine ggf rfl (by assumption) (by rfl) ?_ | refine gal rfl (by assumption) (by rfl) (by omega) (by omega) ?_ | refine gil rfl (by assumption) (by rfl) (by omega) (by omega) ?_ | refine gbl rfl (by assumption) (by rfl) (by omega) (by omega) ?_ | refine gln rfl (xlen_i (by assumption)) ?_ | refine gln rfl (xlen_q (by assumption)) ?_)
            rw [nI_s k]
            repeat (first | refine gp rfl rfl rfl ?_ | refine ggf rfl (by assumption) (by rfl) ?_ | refine gal rfl (by assumption) (by rfl) (by omega) (by omega) ?_ | refine gil rfl (by assumption) (by rfl) (by omega) (by omega) ?_ | refine gbl rfl (by assumption) (by rfl) (by omega) (by omega) ?_ | refine gln rfl (xlen_i (by assumption)) ?_ | refine gln rfl (xlen_q (by assumption)) ?_)
            rw [nI_s q]
            repeat (first | refine gp rfl rfl rfl ?_ | refine ggf rfl (by assumption) (by rfl) ?_ | refine gal rfl (by assumption) (by rfl) (by omega) (by omega) ?_ | refine gil rfl (by assumption) (by rfl) (by omega) (by omega) ?_ | refine gbl rfl (by assumption) (by rfl) (by omega) (by omega) ?_ | refine gln rfl (xlen_i (by assumption)) ?_ | refine gln rfl (xlen_q (by assumption)) ?_)
            refine gmx rfl (Nat.le_of_ble_eq_true rfl) ?_
            refine next _ ?_
            rw [hall2 (k + 1) q (by omega) (by omega) (by omega), hrow (q + 1) (by omega) (by omega), pCm_rule (i := k) (j := q) (by omega) (by omega), if_neg hne]
            have l1 := pCm_le lo lx (k + 1) q
            have l2 := pCm_le lo lx k (q + 1)
            exact mx_nI (by omega) (by omega)
          · have heq' : lo.getD k 0 = lx.getD q 0 := by
              by_cases hz : lo.getD k 0 = lx.getD q 0
              · exact hz
              · exact absurd hz heq
            repeat (first | refine gp rfl rfl rfl ?_ | refine ggf rfl (by assumption) (by rfl) ?_ | refine gal rfl (by assumption) (by rfl) (by omega) (by omega) ?_ | refine gil rfl (by assumption) (by rfl) (by omega) (by omega) ?_ | refine gbl rfl (by assumption) (by rfl) (by omega) (by omega) ?_ | refine gln rfl (xlen_i (by assumption)) ?_ | refine gln rfl (xlen_q (by assumption)) ?_)
            rw [nI_s k]
            repeat (first | refine gp rfl rfl rfl ?_ | refine ggf rfl (by assumption) (by rfl) ?_ | refine gal rfl (by assumption) (by rfl) (by omega) (by omega) ?_ | refine gil rfl (by assumption) (by rfl) (by omega) (by omega) ?_ | refine gbl rfl (by assumption) (by rfl) (by omega) (by omega) ?_ | refine gln rfl (xlen_i (by assumption)) ?_ | refine gln rfl (xlen_q (by assumption)) ?_)
            rw [nI_s q]
            repeat (first | refine gp rfl rfl rfl ?_ | refine ggf rfl (by assumption) (by rfl) ?_ | refine gal rfl (by assumption) (by rfl) (by omega) (by omega) ?_ | refine gil rfl (by assumption) (by rfl) (by omega) (by omega) ?_ | refine gbl rfl (by assumption) (by rfl) (by omega) (by omega) ?_ | refine gln rfl (xlen_i (by assumption)) ?_ | refine gln rfl (xlen_q (by assumption)) ?_)
            refine next _ ?_
            rw [hall2 (k + 1) (q + 1) (by omega) (by omega) (by omega), pCm_rule (i := k) (j := q) (by omega) (by omega), if_pos heq']
            exact nI_s _
      have e21 : σ1.1 21 = some (.inr (.inr (6, [.inr (some 22), .inr (some 32), .inr (some 33), .inr (some 34), .inr (some 35), .inr (some 36), .inr (some 37), .inl (nI w.length), .inl (bI c)]))) := by rw [hf.2 21 (by omega)]; exact h1
      have e22 := ht1.1
      have rk := ht1.2 k (by omega)
      refine giff rfl (show ¬ nI k < 0 from nI_pos (by omega)) ?_
      show xGo (xEx d) xtb_46 K (36, [some (.inr (some 21)), some (.inr (some o)), some (.inl (nI lo.length)), some (.inr (some x)), some (.inl (nI lx.length)), some (.inl (nI k)), y], [], σ1)
      repeat (first | refine gp rfl rfl rfl ?_ | refine ggf rfl (by assumption) (by rfl) ?_ | refine gal rfl (by assumption) (by rfl) (by omega) (by omega) ?_ | refine gil rfl (by assumption) (by rfl) (by omega) (by omega) ?_ | refine gbl rfl (by assumption) (by rfl) (by omega) (by omega) ?_ | refine gln rfl (xlen_i (by assumption)) ?_ | refine gln rfl (xlen_q (by assumption)) ?_)
      refine gis rfl rk rfl (by omega) (by omega) (by omega) ?_
      repeat (first | refine gp rfl rfl rfl ?_ | refine ggf rfl (by assumption) (by rfl) ?_ | refine gal rfl (by assumption) (by rfl) (by omega) (by omega) ?_ | refine gil rfl (by assumption) (by rfl) (by omega) (by omega) ?_ | refine gbl rfl (by assumption) (by rfl) (by omega) (by omega) ?_ | refine gln rfl (xlen_i (by assumption)) ?_ | refine gln rfl (xlen_q (by assumption)) ?_)
      rw [dI_sub]
      refine inner lx.length _ _ (Nat.le_refl _) (hTb_up (i0 := k) (j0 := lx.length) (v := nI 0) ht1) (hf.trans (hFr.up (by omega) (by omega))) (fun i j h1 h2 h3 => ?_) (fun j h1 h2 => ?_)
      · rw [if_neg (by omega)]; exact hall i j h1 h2 h3
      · obtain rfl : j = lx.length := by omega
        rw [if_pos rfl, pCm_end]
        simp only [upd, if_pos]
  have first : ∀ k i (σ1 : xS) (F1 : Nat → Nat → Int32), i + k = lx.length + 1 → hTb σ1 F1 → hFr 23 31 σ σ1 → (∀ j, j < i → F1 lo.length j = nI 0) → xGo (xEx d) xtb_46 K (7, [some (.inr (some 21)), some (.inr (some o)), some (.inl (nI lo.length)), some (.inr (some x)), some (.inl (nI lx.length)), some (.inl (nI i)), none], [.inl (nI lx.length), .inl (nI i)], σ1) := by
    intro k
    induction k with
    | zero =>
      intro i σ1 F1 hi ht1 hf hall
      refine gct rfl (show nI lx.length < nI i from nI_lt (by omega) (by omega)) ?_
      repeat (first | refine gp rfl rfl rfl ?_ | refine ggf rfl (by assumption) (by rfl) ?_ | refine gal rfl (by assumption) (by rfl) (by omega) (by omega) ?_ | refine gil rfl (by assumption) (by rfl) (by omega) (by omega) ?_ | refine gbl rfl (by assumption) (by rfl) (by omega) (by omega) ?_ | refine gln rfl (xlen_i (by assumption)) ?_ | refine gln rfl (xlen_q (by assumption)) ?_)
      rw [dI_sub]
      refine outer lo.length σ1 F1 _ (Nat.le_refl _) ht1 hf (fun i' j h1 h2 h3 => ?_)
      obtain rfl : i' = lo.length := by omega
      rw [pCm_top]
      exact hall j (by omega)
    | succ k ih =>
      intro i σ1 F1 hi ht1 hf hall
      have e21 : σ1.1 21 = some (.inr (.inr (6, [.inr (some 22), .inr (some 32), .inr (some 33), .inr (some 34), .inr (some 35), .inr (some 36), .inr (some 37), .inl (nI w.length), .inl (bI c)]))) := by rw [hf.2 21 (by omega)]; exact h1
      have e22 := ht1.1
      have rk := ht1.2 lo.length (by omega)
      refine gcf rfl (show ¬ nI lx.length < nI i from fun z => absurd ((nI_ltI (by omega) (by omega)).mp z) (by omega)) ?_
      repeat (first | refine gp rfl rfl rfl ?_ | refine ggf rfl (by assumption) (by rfl) ?_ | refine gal rfl (by assumption) (by rfl) (by omega) (by omega) ?_ | refine gil rfl (by assumption) (by rfl) (by omega) (by omega) ?_ | refine gbl rfl (by assumption) (by rfl) (by omega) (by omega) ?_ | refine gln rfl (xlen_i (by assumption)) ?_ | refine gln rfl (xlen_q (by assumption)) ?_)
      refine gis rfl rk rfl (by omega) (by omega) (by omega) ?_
      repeat (first | refine gp rfl rfl rfl ?_ | refine ggf rfl (by assumption) (by rfl) ?_ | refine gal rfl (by assumption) (by rfl) (by omega) (by omega) ?_ | refine gil rfl (by assumption) (by rfl) (by omega) (by omega) ?_ | refine gbl rfl (by assumption) (by rfl) (by omega) (by omega) ?_ | refine gln rfl (xlen_i (by assumption)) ?_ | refine gln rfl (xlen_q (by assumption)) ?_)
      rw [nI_s]
      refine ih (i + 1) _ _ (by omega) (hTb_up (i0 := lo.length) (j0 := i) (v := nI 0) ht1) (hf.trans (hFr.up (by omega) (by omega))) (fun j hj => ?_)
      rw [if_pos rfl]
      by_cases hji : j = i
      · subst hji; simp only [upd, if_pos]
      · simp only [upd, if_neg hji]; exact hall j (by omega)
  obtain ⟨r, σ', hex, rfl, F', g1, g2, g3⟩ := ex_of (d := d) (y := 46) (as := [.inr (some 21), .inr (some o), .inl (nI lo.length), .inr (some x), .inl (nI lx.length)]) (σ := σ) (K := K) (by decide) rfl (by
    show xGo (xEx d) xtb_46 K (0, [some (.inr (some 21)), some (.inr (some o)), some (.inl (nI lo.length)), some (.inr (some x)), some (.inl (nI lx.length)), none, none], [], σ)
    repeat (first | refine gp rfl rfl rfl ?_ | refine ggf rfl (by assumption) (by rfl) ?_ | refine gal rfl (by assumption) (by rfl) (by omega) (by omega) ?_ | refine gil rfl (by assumption) (by rfl) (by omega) (by omega) ?_ | refine gbl rfl (by assumption) (by rfl) (by omega) (by omega) ?_ | refine gln rfl (xlen_i (by assumption)) ?_ | refine gln rfl (xlen_q (by assumption)) ?_)
    exact first (lx.length + 1) 0 σ F (by omega) ht (hFr.refl _ _ _) (fun j hj => absurd hj (by omega)))
  exact ⟨σ', F', hex, g1, g2, g3⟩
