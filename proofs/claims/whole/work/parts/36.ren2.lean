/-! MODULE: renames of one side, the class: equal files, names -/
def pScore (F1 F2 : Option pF) : Int32 := match F1, F2 with
  | some (false, l1), some (false, l2) => if max l1.length l2.length = 0 then 0 else nI (100 * pShare l1 l2 / max l1.length l2.length)
  | _, _ => -1
/-- at most 8 lines, each of 1 .. 19 -/
def pFok (F : Option pF) : Prop := ∀ G, F = some G → G.2.length ≤ 8 ∧ pOK G.2
def pTok (T : pT) : Prop := ∀ p, p < 64 → pFok (T p)
theorem pShare_le (l1 l2 : List Int32) (h : l1.length ≤ 8) : pShare l1 l2 ≤ 152 := by
  refine Nat.le_trans (pSum_le (c := 8) (fun v _ _ => ?_)) (by decide)
  refine Nat.le_trans (Nat.min_le_left _ _) (Nat.le_trans (pCnt_le _ _) h)
theorem m_likeness (d : Nat) {σ : xS} {q1 q2 : Option Nat} {F1 F2 : Option pF} (h1 : hOpt σ q1 F1) (h2 : hOpt σ q2 F2) (k1 : pFok F1) (k2 : pFok F2) : xEx (d + 2) 5 [.inr q1, .inr q2] σ (some (.inl (pScore F1 F2))) σ := by
  refine ⟨by decide, rfl, ?_⟩
  show xGo (xEx (d + 1)) xtb_5 _ (0, [some (.inr q1), some (.inr q2), none], [], σ)
  match q1, F1, h1, q2, F2, h2 with
  | none, none, _, q2, F2, _ =>
    repeat (first | refine gp rfl rfl rfl ?_ | refine ggf rfl (by assumption) (by rfl) ?_ | refine gal rfl (by assumption) (by rfl) (by omega) (by omega) ?_ | refine gil rfl (by assumption) (by rfl) (by omega) (by omega) ?_ | refine gbl rfl (by assumption) (by rfl) (by omega) (by omega) ?_ | refine gln rfl (xlen_i (by assumption)) ?_ | refine gln rfl (xlen_q (by assumption)) ?_)
    refine gnl rfl (fun _ => ?_) (fun z hz => by cases hz)
    repeat (first | refine gp rfl rfl rfl ?_ | refine ggf rfl (by assumption) (by rfl) ?_ | refine gal rfl (by assumption) (by rfl) (by omega) (by omega) ?_ | refine gil rfl (by assumption) (by rfl) (by omega) (by omega) ?_ | refine gbl rfl (by assumption) (by rfl) (by omega) (by omega) ?_ | refine gln rfl (xlen_i (by assumption)) ?_ | refine gln rfl (xlen_q (by assumption)) ?_)
    exact gri rfl (fun h => absurd h (by decide)) ⟨by rw [xk_m1]; rfl, rfl⟩
  | some q1, some F1, _, none, none, _ =>
    repeat (first | refine gp rfl rfl rfl ?_ | refine ggf rfl (by assumption) (by rfl) ?_ | refine gal rfl (by assumption) (by rfl) (by omega) (by omega) ?_ | refine gil rfl (by assumption) (by rfl) (by omega) (by omega) ?_ | refine gbl rfl (by assumption) (by rfl) (by omega) (by omega) ?_ | refine gln rfl (xlen_i (by assumption)) ?_ | refine gln rfl (xlen_q (by assumption)) ?_)
    refine gnl rfl (fun hz => by cases hz) (fun z hz => ?_)
    repeat (first | refine gp rfl rfl rfl ?_ | refine ggf rfl (by assumption) (by rfl) ?_ | refine gal rfl (by assumption) (by rfl) (by omega) (by omega) ?_ | refine gil rfl (by assumption) (by rfl) (by omega) (by omega) ?_ | refine gbl rfl (by assumption) (by rfl) (by omega) (by omega) ?_ | refine gln rfl (xlen_i (by assumption)) ?_ | refine gln rfl (xlen_q (by assumption)) ?_)
    refine gnl rfl (fun _ => ?_) (fun z hz => by cases hz)
    repeat (first | refine gp rfl rfl rfl ?_ | refine ggf rfl (by assumption) (by rfl) ?_ | refine gal rfl (by assumption) (by rfl) (by omega) (by omega) ?_ | refine gil rfl (by assumption) (by rfl) (by omega) (by omega) ?_ | refine gbl rfl (by assumption) (by rfl) (by omega) (by omega) ?_ | refine gln rfl (xlen_i (by assumption)) ?_ | refine gln rfl (xlen_q (by assumption)) ?_)
    refine gri rfl (fun h => absurd h (by decide)) ⟨?_, rfl⟩
    rw [xk_m1]
    obtain ⟨b, l⟩ := F1
    cases b <;> rfl
  | some q1, some F1, h1, some q2, some F2, h2 =>
    have hh1 : hFile σ q1 F1 := h1
    have hh2 : hFile σ q2 F2 := h2
    obtain ⟨b1, c1, ⟨f1, c2, c3⟩, c4, -, -⟩ := h1
    obtain ⟨b2, e1, ⟨f2, e2, e3⟩, e4, -, -⟩ := h2
    obtain ⟨g1, o1⟩ := k1 F1 rfl
    obtain ⟨g2, o2⟩ := k2 F2 rfl
    repeat (first | refine gp rfl rfl rfl ?_ | refine ggf rfl (by assumption) (by rfl) ?_ | refine gal rfl (by assumption) (by rfl) (by omega) (by omega) ?_ | refine gil rfl (by assumption) (by rfl) (by omega) (by omega) ?_ | refine gbl rfl (by assumption) (by rfl) (by omega) (by omega) ?_ | refine gln rfl (xlen_i (by assumption)) ?_ | refine gln rfl (xlen_q (by assumption)) ?_)
    refine gnl rfl (fun hz => by cases hz) (fun z hz => ?_)
    repeat (first | refine gp rfl rfl rfl ?_ | refine ggf rfl (by assumption) (by rfl) ?_ | refine gal rfl (by assumption) (by rfl) (by omega) (by omega) ?_ | refine gil rfl (by assumption) (by rfl) (by omega) (by omega) ?_ | refine gbl rfl (by assumption) (by rfl) (by omega) (by omega) ?_ | refine gln rfl (xlen_i (by assumption)) ?_ | refine gln rfl (xlen_q (by assumption)) ?_)
    refine gnl rfl (fun hz => by cases hz) (fun z hz => ?_)
    repeat (first | refine gp rfl rfl rfl ?_ | refine ggf rfl (by assumption) (by rfl) ?_ | refine gal rfl (by assumption) (by rfl) (by omega) (by omega) ?_ | refine gil rfl (by assumption) (by rfl) (by omega) (by omega) ?_ | refine gbl rfl (by assumption) (by rfl) (by omega) (by omega) ?_ | refine gln rfl (xlen_i (by assumption)) ?_ | refine gln rfl (xlen_q (by assumption)) ?_)
    obtain ⟨k1', l1⟩ := F1
    obtain ⟨k2', l2⟩ := F2
    cases k1' with
    | true =>
      refine git rfl (show ¬ (1 : Int32) = 0 by decide) ?_
      repeat (first | refine gp rfl rfl rfl ?_ | refine ggf rfl (by assumption) (by rfl) ?_ | refine gal rfl (by assumption) (by rfl) (by omega) (by omega) ?_ | refine gil rfl (by assumption) (by rfl) (by omega) (by omega) ?_ | refine gbl rfl (by assumption) (by rfl) (by omega) (by omega) ?_ | refine gln rfl (xlen_i (by assumption)) ?_ | refine gln rfl (xlen_q (by assumption)) ?_)
      exact gri rfl (fun h => absurd h (by decide)) ⟨by rw [xk_m1]; rfl, rfl⟩
    | false =>
      refine giff rfl (fun h => h (show (0 : Int32) = 0 from rfl)) ?_
      repeat (first | refine gp rfl rfl rfl ?_ | refine ggf rfl (by assumption) (by rfl) ?_ | refine gal rfl (by assumption) (by rfl) (by omega) (by omega) ?_ | refine gil rfl (by assumption) (by rfl) (by omega) (by omega) ?_ | refine gbl rfl (by assumption) (by rfl) (by omega) (by omega) ?_ | refine gln rfl (xlen_i (by assumption)) ?_ | refine gln rfl (xlen_q (by assumption)) ?_)
      cases k2' with
      | true =>
        refine giff rfl (fun h => absurd (show (1 : Int32) = 0 from h) (by decide)) ?_
        repeat (first | refine gp rfl rfl rfl ?_ | refine ggf rfl (by assumption) (by rfl) ?_ | refine gal rfl (by assumption) (by rfl) (by omega) (by omega) ?_ | refine gil rfl (by assumption) (by rfl) (by omega) (by omega) ?_ | refine gbl rfl (by assumption) (by rfl) (by omega) (by omega) ?_ | refine gln rfl (xlen_i (by assumption)) ?_ | refine gln rfl (xlen_q (by assumption)) ?_)
        exact gri rfl (fun h => absurd h (by decide)) ⟨by rw [xk_m1]; rfl, rfl⟩
      | false =>
        refine git rfl (show (0 : Int32) = 0 from rfl) ?_
        have c2 : σ.1 b1 = some (.inl (0, l1.length, f1)) := c2
        have e2 : σ.1 b2 = some (.inl (0, l2.length, f2)) := e2
        have g1 : l1.length ≤ 8 := g1
        have g2 : l2.length ≤ 8 := g2
        repeat (first | refine gp rfl rfl rfl ?_ | refine ggf rfl (by assumption) (by rfl) ?_ | refine gal rfl (by assumption) (by rfl) (by omega) (by omega) ?_ | refine gil rfl (by assumption) (by rfl) (by omega) (by omega) ?_ | refine gbl rfl (by assumption) (by rfl) (by omega) (by omega) ?_ | refine gln rfl (xlen_i (by assumption)) ?_ | refine gln rfl (xlen_q (by assumption)) ?_)
        refine gmx rfl (by decide) ?_
        rw [mx_nI (by omega) (by omega)]
        repeat (first | refine gp rfl rfl rfl ?_ | refine ggf rfl (by assumption) (by rfl) ?_ | refine gal rfl (by assumption) (by rfl) (by omega) (by omega) ?_ | refine gil rfl (by assumption) (by rfl) (by omega) (by omega) ?_ | refine gbl rfl (by assumption) (by rfl) (by omega) (by omega) ?_ | refine gln rfl (xlen_i (by assumption)) ?_ | refine gln rfl (xlen_q (by assumption)) ?_)
        refine gif' rfl (fun hz => ?_) (fun hz => ?_)
        · repeat (first | refine gp rfl rfl rfl ?_ | refine ggf rfl (by assumption) (by rfl) ?_ | refine gal rfl (by assumption) (by rfl) (by omega) (by omega) ?_ | refine gil rfl (by assumption) (by rfl) (by omega) (by omega) ?_ | refine gbl rfl (by assumption) (by rfl) (by omega) (by omega) ?_ | refine gln rfl (xlen_i (by assumption)) ?_ | refine gln rfl (xlen_q (by assumption)) ?_)
          refine gcv (As := [.inr (some q2)]) (rest := [.inl (xk 100 0)]) rfl (by decide) (m_countShared d hh1 hh2 g2 o1) c1 rfl rfl (Nat.le_of_ble_eq_true rfl) ?_
          have hs := pShare_le l1 l2 g1
          have hm : max l1.length l2.length ≠ 0 := fun z => hz (show nI (max l1.length l2.length) = 0 by rw [z]; rfl)
          have hm9 : max l1.length l2.length ≤ 8 := Nat.max_le.mpr ⟨g1, g2⟩
          repeat (first | refine gp rfl rfl rfl ?_ | refine ggf rfl (by assumption) (by rfl) ?_ | refine gal rfl (by assumption) (by rfl) (by omega) (by omega) ?_ | refine gil rfl (by assumption) (by rfl) (by omega) (by omega) ?_ | refine gbl rfl (by assumption) (by rfl) (by omega) (by omega) ?_ | refine gln rfl (xlen_i (by assumption)) ?_ | refine gln rfl (xlen_q (by assumption)) ?_)
          refine gp rfl rfl ⟨fun z => hz z, rfl⟩ ?_
          refine gri rfl (fun h => absurd h (by decide)) ⟨?_, rfl⟩
          show some (Sum.inl (nI 100 * nI (pShare l1 l2) / nI (max l1.length l2.length))) = _
          rw [pk_mul, pk_div (by omega) (by omega) (by omega)]
          show _ = some (Sum.inl (if max l1.length l2.length = 0 then 0 else _))
          rw [if_neg hm]
        · have hm : max l1.length l2.length = 0 := by
            by_cases hz2 : nI (max l1.length l2.length) = 0
            · exact (nI_eq (by omega) (by decide)).mp hz2
            · exact absurd hz2 hz
          repeat (first | refine gp rfl rfl rfl ?_ | refine ggf rfl (by assumption) (by rfl) ?_ | refine gal rfl (by assumption) (by rfl) (by omega) (by omega) ?_ | refine gil rfl (by assumption) (by rfl) (by omega) (by omega) ?_ | refine gbl rfl (by assumption) (by rfl) (by omega) (by omega) ?_ | refine gln rfl (xlen_i (by assumption)) ?_ | refine gln rfl (xlen_q (by assumption)) ?_)
          refine gri rfl (fun h => absurd h (by decide)) ⟨?_, rfl⟩
          show _ = some (Sum.inl (if max l1.length l2.length = 0 then 0 else _))
          rw [if_pos hm]
          rfl
/-- the first of 0 .. n - 1 -/
def pFst (P : Nat → Bool) : Nat → Option Nat
  | 0 => none
  | n + 1 => match pFst P n with
    | some i => some i
    | none => if P n then some n else none
theorem pFst_hit {P : Nat → Bool} {i : Nat} (h : pFst P i = none) (hi : P i = true) : ∀ {n : Nat}, i < n → pFst P n = some i
  | 0, hn => by omega
  | n + 1, hn => by
    by_cases hin : i = n
    · subst hin
      rw [pFst, h]
      simp [hi]
    · rw [pFst, pFst_hit h hi (n := n) (by omega)]
theorem pFst_keep {P : Nat → Bool} {i j : Nat} (h : pFst P i = some j) : ∀ {n : Nat}, i ≤ n → pFst P n = some j
  | 0, hn => by obtain rfl : i = 0 := by omega
                exact h
  | n + 1, hn => by
    by_cases hin : i = n + 1
    · subst hin; exact h
    · rw [pFst, pFst_keep h (n := n) (by omega)]
theorem pFst_in {P : Nat → Bool} : ∀ {n i : Nat}, pFst P n = some i → i < n ∧ P i = true
  | 0, _, h => by cases h
  | n + 1, i, h => by
    rw [pFst] at h
    cases hp : pFst P n with
    | some k =>
      rw [hp] at h
      cases h
      obtain ⟨h1, h2⟩ := pFst_in hp
      exact ⟨by omega, h2⟩
    | none =>
      rw [hp] at h
      simp only at h
      split at h
      · cases h
        exact ⟨by omega, by assumption⟩
      · cases h
theorem pFst_s (P : Nat → Bool) (n : Nat) : pFst P (n + 1) = match pFst P n with
    | some i => some i
    | none => if P n then some n else none := rfl
/-- the first with the name, else the first -/
def pPick (P : Nat → Bool) (m : Nat) : Option Nat := match pFst (fun p => P p && decide (p % 8 = m)) 64 with
  | some p => some p
  | none => pFst P 64
theorem pPick_in {P : Nat → Bool} {m p : Nat} (h : pPick P m = some p) : p < 64 ∧ P p = true := by
  unfold pPick at h
  cases h1 : pFst (fun p => P p && decide (p % 8 = m)) 64 with
  | some z =>
    rw [h1] at h
    cases h
    obtain ⟨g1, g2⟩ := pFst_in h1
    exact ⟨g1, by simp at g2; exact g2.1⟩
  | none =>
    rw [h1] at h
    exact pFst_in h
theorem m_findEqualSource (d : Nat) {σ : xS} {a t m : Nat} {B T : pT} {R : pR} {q : Option Nat} {F : Option pF} (h : hRen σ a B T R) (hB : hT σ t B) (hq : hOpt σ q F) (hm : m < 8) : xEx (d + 3) 19 [.inr (some a), .inr (some t), .inr q, .inl (nI m)] σ (some (.inl (oI (pPick (fun p => rSL B T R p && decide (B p = F)) m)))) σ := by
  obtain ⟨h0, ft, fs, fl, h1, h2, h3, h4⟩ := h
  have h0 : σ.1 a = some (.inr (.inr (3, [.inr (some (a + 1)), .inr (some (a + 2)), .inr (some (a + 3)), .inr (some (a + 4)), .inr (some (a + 5)), .inr (some (a + 6))]))) := h0
  have hobj := hB.obj
  refine ⟨by decide, rfl, ?_⟩
  show xGo (xEx (d + 2)) xtb_19 _ (0, [some (.inr (some a)), some (.inr (some t)), some (.inr q), some (.inl (nI m)), none, none], [], σ)
  generalize hPe : (fun p => rSL B T R p && decide (B p = F)) = P
  have hP : ∀ p, P p = (rSL B T R p && decide (B p = F)) := fun p => by rw [← hPe]
  have loop : ∀ k i, i + k = 64 → pFst (fun p => P p && decide (p % 8 = m)) i = none → xGo (xEx (d + 2)) xtb_19 (fun r0 σ0 => r0 = some (.inl (oI (pPick P m))) ∧ σ0 = σ) (10, [some (.inr (some a)), some (.inr (some t)), some (.inr q), some (.inl (nI m)), some (.inl (oI (pFst P i))), some (.inl (nI i))], [.inl (nI 64), .inl (nI i)], σ) := by
    intro k
    induction k with
    | zero =>
      intro i hi hn
      obtain rfl : i = 64 := by omega
      refine gct rfl (show nI 64 ≤ nI _ from nI_le (by omega) (by omega)) ?_
      repeat (first | refine gp rfl rfl rfl ?_ | refine ggf rfl (by assumption) (by rfl) ?_ | refine gal rfl (by assumption) (by rfl) (by omega) (by omega) ?_ | refine gil rfl (by assumption) (by rfl) (by omega) (by omega) ?_ | refine gbl rfl (by assumption) (by rfl) (by omega) (by omega) ?_ | refine gln rfl (xlen_i (by assumption)) ?_ | refine gln rfl (xlen_q (by assumption)) ?_)
      refine gri rfl (fun h => absurd h (by decide)) ⟨?_, rfl⟩
      unfold pPick
      rw [hn]
    | succ k ih =>
      intro i hi hn
      have hi64 : i < 64 := by omega
      refine gcf rfl (nI_ge (by omega) (by omega)) ?_
      repeat (first | refine gp rfl rfl rfl ?_ | refine ggf rfl (by assumption) (by rfl) ?_ | refine gal rfl (by assumption) (by rfl) (by omega) (by omega) ?_ | refine gil rfl (by assumption) (by rfl) (by omega) (by omega) ?_ | refine gbl rfl (by assumption) (by rfl) (by omega) (by omega) ?_ | refine gln rfl (xlen_i (by assumption)) ?_ | refine gln rfl (xlen_q (by assumption)) ?_)
      rw [(h4 i (by omega)).2.1]
      have ih' := ih (i + 1) (by omega)
      rw [pFst_s, pFst_s, hn] at ih'
      simp only at ih'
      have hskip : P i = false → xGo (xEx (d + 2)) xtb_19 (fun r0 σ0 => r0 = some (.inl (oI (pPick P m))) ∧ σ0 = σ) (58, [some (.inr (some a)), some (.inr (some t)), some (.inr q), some (.inl (nI m)), some (.inl (oI (pFst P i))), some (.inl (nI i))], [], σ) := by
        intro hp
        rw [hp] at ih'
        have e : (match pFst P i with
          | some i => some i
          | none => if false = true then some i else none) = pFst P i := by cases pFst P i <;> rfl
        rw [e] at ih'
        repeat (first | refine gp rfl rfl rfl ?_ | refine ggf rfl (by assumption) (by rfl) ?_ | refine gal rfl (by assumption) (by rfl) (by omega) (by omega) ?_ | refine gil rfl (by assumption) (by rfl) (by omega) (by omega) ?_ | refine gbl rfl (by assumption) (by rfl) (by omega) (by omega) ?_ | refine gln rfl (xlen_i (by assumption)) ?_ | refine gln rfl (xlen_q (by assumption)) ?_)
        rw [nI_s]
        exact ih' (by simp)
      cases hs : rSL B T R i with
      | false =>
        refine git rfl (show (0 : Int32) = 0 from rfl) ?_
        exact hskip (by rw [hP, hs]; rfl)
      | true =>
        refine giff rfl (fun h => absurd (show (1 : Int32) = 0 from h) (by decide)) ?_
        repeat (first | refine gp rfl rfl rfl ?_ | refine ggf rfl (by assumption) (by rfl) ?_ | refine gal rfl (by assumption) (by rfl) (by omega) (by omega) ?_ | refine gil rfl (by assumption) (by rfl) (by omega) (by omega) ?_ | refine gbl rfl (by assumption) (by rfl) (by omega) (by omega) ?_ | refine gln rfl (xlen_i (by assumption)) ?_ | refine gln rfl (xlen_q (by assumption)) ?_)
        obtain ⟨qi, hqi, hoi⟩ := m_fileAtT d hB hi64
        refine gcv (As := [.inl (nI i)]) (rest := []) rfl (by decide) hqi hobj rfl rfl (by decide) ?_
        repeat (first | refine gp rfl rfl rfl ?_ | refine ggf rfl (by assumption) (by rfl) ?_ | refine gal rfl (by assumption) (by rfl) (by omega) (by omega) ?_ | refine gil rfl (by assumption) (by rfl) (by omega) (by omega) ?_ | refine gbl rfl (by assumption) (by rfl) (by omega) (by omega) ?_ | refine gln rfl (xlen_i (by assumption)) ?_ | refine gln rfl (xlen_q (by assumption)) ?_)
        refine gcs (As := [.inr qi, .inr q]) (rest := []) rfl (by decide) (m_same d hoi hq) rfl rfl (by decide) ?_
        by_cases hBF : B i = F
        · rw [decide_eq_true hBF]
          refine giff rfl (fun h => absurd (show (1 : Int32) = 0 from h) (by decide)) ?_
          have hPi : P i = true := by rw [hP, hs, decide_eq_true hBF]; rfl
          repeat (first | refine gp rfl rfl rfl ?_ | refine ggf rfl (by assumption) (by rfl) ?_ | refine gal rfl (by assumption) (by rfl) (by omega) (by omega) ?_ | refine gil rfl (by assumption) (by rfl) (by omega) (by omega) ?_ | refine gbl rfl (by assumption) (by rfl) (by omega) (by omega) ?_ | refine gln rfl (xlen_i (by assumption)) ?_ | refine gln rfl (xlen_q (by assumption)) ?_)
          refine gcs (As := [.inl (nI i)]) (rest := []) rfl (by decide) (m_nameOf (d + 1) (by omega)) rfl rfl (by decide) ?_
          repeat (first | refine gp rfl rfl rfl ?_ | refine ggf rfl (by assumption) (by rfl) ?_ | refine gal rfl (by assumption) (by rfl) (by omega) (by omega) ?_ | refine gil rfl (by assumption) (by rfl) (by omega) (by omega) ?_ | refine gbl rfl (by assumption) (by rfl) (by omega) (by omega) ?_ | refine gln rfl (xlen_i (by assumption)) ?_ | refine gln rfl (xlen_q (by assumption)) ?_)
          refine gcp rfl (fun hne => ?_) (fun heq => ?_)
          · have hne : ¬ i % 8 = m := fun z => hne (show nI (i % 8) = nI m by rw [z])
            rw [hPi, decide_eq_false hne] at ih'
            repeat (first | refine gp rfl rfl rfl ?_ | refine ggf rfl (by assumption) (by rfl) ?_ | refine gal rfl (by assumption) (by rfl) (by omega) (by omega) ?_ | refine gil rfl (by assumption) (by rfl) (by omega) (by omega) ?_ | refine gbl rfl (by assumption) (by rfl) (by omega) (by omega) ?_ | refine gln rfl (xlen_i (by assumption)) ?_ | refine gln rfl (xlen_q (by assumption)) ?_)
            rw [xk_m1]
            cases hf : pFst P i with
            | some z =>
              have hz := (pFst_in hf).1
              refine gct rfl (show ¬ nI z = -1 from oI_ne (by omega)) ?_
              rw [hf] at ih'
              repeat (first | refine gp rfl rfl rfl ?_ | refine ggf rfl (by assumption) (by rfl) ?_ | refine gal rfl (by assumption) (by rfl) (by omega) (by omega) ?_ | refine gil rfl (by assumption) (by rfl) (by omega) (by omega) ?_ | refine gbl rfl (by assumption) (by rfl) (by omega) (by omega) ?_ | refine gln rfl (xlen_i (by assumption)) ?_ | refine gln rfl (xlen_q (by assumption)) ?_)
              rw [nI_s]
              exact ih' (by simp)
            | none =>
              refine gcf rfl (fun h => h (show (-1 : Int32) = -1 from rfl)) ?_
              rw [hf] at ih'
              repeat (first | refine gp rfl rfl rfl ?_ | refine ggf rfl (by assumption) (by rfl) ?_ | refine gal rfl (by assumption) (by rfl) (by omega) (by omega) ?_ | refine gil rfl (by assumption) (by rfl) (by omega) (by omega) ?_ | refine gbl rfl (by assumption) (by rfl) (by omega) (by omega) ?_ | refine gln rfl (xlen_i (by assumption)) ?_ | refine gln rfl (xlen_q (by assumption)) ?_)
              rw [nI_s]
              exact ih' (by simp)
          · have heq : i % 8 = m := by
              by_cases hz : nI (i % 8) = nI m
              · exact (nI_eq (by omega) (by omega)).mp hz
              · exact absurd hz heq
            repeat (first | refine gp rfl rfl rfl ?_ | refine ggf rfl (by assumption) (by rfl) ?_ | refine gal rfl (by assumption) (by rfl) (by omega) (by omega) ?_ | refine gil rfl (by assumption) (by rfl) (by omega) (by omega) ?_ | refine gbl rfl (by assumption) (by rfl) (by omega) (by omega) ?_ | refine gln rfl (xlen_i (by assumption)) ?_ | refine gln rfl (xlen_q (by assumption)) ?_)
            refine gri rfl (fun h => absurd h (by decide)) ⟨?_, rfl⟩
            unfold pPick
            rw [pFst_hit hn (by simp [hPi, heq]) hi64]
            rfl
        · rw [decide_eq_false hBF]
          refine git rfl (show (0 : Int32) = 0 from rfl) ?_
          exact hskip (by rw [hP, decide_eq_false hBF]; simp)
  repeat (first | refine gp rfl rfl rfl ?_ | refine ggf rfl (by assumption) (by rfl) ?_ | refine gal rfl (by assumption) (by rfl) (by omega) (by omega) ?_ | refine gil rfl (by assumption) (by rfl) (by omega) (by omega) ?_ | refine gbl rfl (by assumption) (by rfl) (by omega) (by omega) ?_ | refine gln rfl (xlen_i (by assumption)) ?_ | refine gln rfl (xlen_q (by assumption)) ?_)
  rw [xk_m1]
  exact loop 64 0 rfl rfl
