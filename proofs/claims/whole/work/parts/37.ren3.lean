/-! MODULE: renames of one side, the class: the steps -/
def rExS (B T : pT) (R : pR) (q : Nat) : pR := if rTL B T R q then (match pPick (fun p => rSL B T R p && decide (B p = T q)) (q % 8) with
  | some p => rJ R p q
  | none => R) else R
def rExA (B T : pT) (R : pR) : Nat → pR
  | 0 => R
  | n + 1 => rExS B T (rExA B T R n) n
theorem hSd.fr {lo hi a : Nat} {σ σ' : xS} (h : hSd σ a) (hf : hFr lo hi σ σ') (ha : a < lo ∨ hi < a) : hSd σ' a := by
  unfold hSd
  rw [hf.2 a ha]
  exact h
theorem m_pairEqualFiles (d : Nat) {σ : xS} {a t u : Nat} {B T : pT} {R : pR} (h : hRen σ a B T R) (hB : hT σ t B) (hTt : hT σ u T) (ha : 2 ≤ a ∧ a + 6 < 38) (ht : 38 ≤ t) (hu : 38 ≤ u) : ∃ σ', xEx (d + 4) 18 [.inr (some a), .inr (some t), .inr (some u)] σ none σ' ∧ hRen σ' a B T (rExA B T R 64) ∧ hFr (a + 1) (a + 3) σ σ' := by
  have loop : ∀ k i (σi : xS), i + k = 64 → hRen σi a B T (rExA B T R i) → hFr (a + 1) (a + 3) σ σi → ∀ l4, xGo (xEx (d + 3)) xtb_18 (fun r0 σ0 => r0 = none ∧ hRen σ0 a B T (rExA B T R 64) ∧ hFr (a + 1) (a + 3) σ σ0) (5, [some (.inr (some a)), some (.inr (some t)), some (.inr (some u)), some (.inl (nI i)), l4], [.inl (nI 64), .inl (nI i)], σi) := by
    intro k
    induction k with
    | zero =>
      intro i σi hi hR hF l4
      obtain rfl : i = 64 := by omega
      refine gct rfl (show nI 64 ≤ nI _ from nI_le (by omega) (by omega)) ?_
      exact grv rfl ⟨rfl, hR, hF⟩
    | succ k ih =>
      intro i σi hi hR hF l4
      have hi64 : i < 64 := by omega
      have hB' := hB.fr hF (by omega) (Or.inl (by omega))
      have hT' := hTt.fr hF (by omega) (Or.inl (by omega))
      have hR0 := hR
      obtain ⟨h0, ft, fs, fl, h1, h2, h3, h4⟩ := hR
      have h0 : σi.1 a = some (.inr (.inr (3, [.inr (some (a + 1)), .inr (some (a + 2)), .inr (some (a + 3)), .inr (some (a + 4)), .inr (some (a + 5)), .inr (some (a + 6))]))) := h0
      have ho1 := hB'.obj
      have ho2 := hT'.obj
      refine gcf rfl (nI_ge (by omega) (by omega)) ?_
      repeat (first | refine gp rfl rfl rfl ?_ | refine ggf rfl (by assumption) (by rfl) ?_ | refine gal rfl (by assumption) (by rfl) (by omega) (by omega) ?_ | refine gil rfl (by assumption) (by rfl) (by omega) (by omega) ?_ | refine gbl rfl (by assumption) (by rfl) (by omega) (by omega) ?_ | refine gln rfl (xlen_i (by assumption)) ?_ | refine gln rfl (xlen_q (by assumption)) ?_)
      rw [(h4 i hi64).2.2]
      have hstep : rExA B T R (i + 1) = rExS B T (rExA B T R i) i := rfl
      cases hl : rTL B T (rExA B T R i) i with
      | false =>
        refine git rfl (show (0 : Int32) = 0 from rfl) ?_
        repeat (first | refine gp rfl rfl rfl ?_ | refine ggf rfl (by assumption) (by rfl) ?_ | refine gal rfl (by assumption) (by rfl) (by omega) (by omega) ?_ | refine gil rfl (by assumption) (by rfl) (by omega) (by omega) ?_ | refine gbl rfl (by assumption) (by rfl) (by omega) (by omega) ?_ | refine gln rfl (xlen_i (by assumption)) ?_ | refine gln rfl (xlen_q (by assumption)) ?_)
        rw [nI_s]
        refine ih (i + 1) σi (by omega) ?_ hF _
        rw [hstep, rExS, hl]
        exact hR0
      | true =>
        refine giff rfl (fun h => absurd (show (1 : Int32) = 0 from h) (by decide)) ?_
        repeat (first | refine gp rfl rfl rfl ?_ | refine ggf rfl (by assumption) (by rfl) ?_ | refine gal rfl (by assumption) (by rfl) (by omega) (by omega) ?_ | refine gil rfl (by assumption) (by rfl) (by omega) (by omega) ?_ | refine gbl rfl (by assumption) (by rfl) (by omega) (by omega) ?_ | refine gln rfl (xlen_i (by assumption)) ?_ | refine gln rfl (xlen_q (by assumption)) ?_)
        obtain ⟨qi, hqi, hoi⟩ := m_fileAtT (d + 1) hT' hi64
        refine gcv (As := [.inl (nI i)]) (rest := [.inr (some t), .inr (some a)]) rfl (by decide) hqi ho2 rfl rfl (Nat.le_of_ble_eq_true rfl) ?_
        repeat (first | refine gp rfl rfl rfl ?_ | refine ggf rfl (by assumption) (by rfl) ?_ | refine gal rfl (by assumption) (by rfl) (by omega) (by omega) ?_ | refine gil rfl (by assumption) (by rfl) (by omega) (by omega) ?_ | refine gbl rfl (by assumption) (by rfl) (by omega) (by omega) ?_ | refine gln rfl (xlen_i (by assumption)) ?_ | refine gln rfl (xlen_q (by assumption)) ?_)
        refine gcs (As := [.inl (nI i)]) (rest := [.inr qi, .inr (some t), .inr (some a)]) rfl (by decide) (m_nameOf (d + 2) (by omega)) rfl rfl (Nat.le_of_ble_eq_true rfl) ?_
        refine gcv (As := [.inr (some t), .inr qi, .inl (nI (i % 8))]) (rest := []) rfl (by decide) (m_findEqualSource d hR0 hB' hoi (by omega)) h0 rfl rfl (by decide) ?_
        repeat (first | refine gp rfl rfl rfl ?_ | refine ggf rfl (by assumption) (by rfl) ?_ | refine gal rfl (by assumption) (by rfl) (by omega) (by omega) ?_ | refine gil rfl (by assumption) (by rfl) (by omega) (by omega) ?_ | refine gbl rfl (by assumption) (by rfl) (by omega) (by omega) ?_ | refine gln rfl (xlen_i (by assumption)) ?_ | refine gln rfl (xlen_q (by assumption)) ?_)
        rw [xk_m1]
        cases hp : pPick (fun p => rSL B T (rExA B T R i) p && decide (B p = T i)) (i % 8) with
        | none =>
          refine gct rfl (show (-1 : Int32) = -1 from rfl) ?_
          repeat (first | refine gp rfl rfl rfl ?_ | refine ggf rfl (by assumption) (by rfl) ?_ | refine gal rfl (by assumption) (by rfl) (by omega) (by omega) ?_ | refine gil rfl (by assumption) (by rfl) (by omega) (by omega) ?_ | refine gbl rfl (by assumption) (by rfl) (by omega) (by omega) ?_ | refine gln rfl (xlen_i (by assumption)) ?_ | refine gln rfl (xlen_q (by assumption)) ?_)
          rw [nI_s]
          refine ih (i + 1) σi (by omega) ?_ hF _
          rw [hstep, rExS, hl, if_pos rfl, hp]
          exact hR0
        | some p =>
          have hpi := (pPick_in hp).1
          refine gcf rfl (oI_ne (by omega)) ?_
          repeat (first | refine gp rfl rfl rfl ?_ | refine ggf rfl (by assumption) (by rfl) ?_ | refine gal rfl (by assumption) (by rfl) (by omega) (by omega) ?_ | refine gil rfl (by assumption) (by rfl) (by omega) (by omega) ?_ | refine gbl rfl (by assumption) (by rfl) (by omega) (by omega) ?_ | refine gln rfl (xlen_i (by assumption)) ?_ | refine gln rfl (xlen_q (by assumption)) ?_)
          obtain ⟨σ2, hex, hR2, hF2⟩ := m_pair (d + 2) hR0 hpi hi64 ha.1
          refine gcv (As := [.inl (nI p), .inl (nI i)]) (rest := []) rfl (by decide) hex h0 rfl rfl (by decide) ?_
          repeat (first | refine gp rfl rfl rfl ?_ | refine ggf rfl (by assumption) (by rfl) ?_ | refine gal rfl (by assumption) (by rfl) (by omega) (by omega) ?_ | refine gil rfl (by assumption) (by rfl) (by omega) (by omega) ?_ | refine gbl rfl (by assumption) (by rfl) (by omega) (by omega) ?_ | refine gln rfl (xlen_i (by assumption)) ?_ | refine gln rfl (xlen_q (by assumption)) ?_)
          rw [nI_s]
          refine ih (i + 1) σ2 (by omega) ?_ (hF.trans hF2) _
          rw [hstep, rExS, hl, if_pos rfl, hp]
          exact hR2
  obtain ⟨r, σ', hex, rfl, h1, h2⟩ := ex_of (d := d + 3) (y := 18) (as := [.inr (some a), .inr (some t), .inr (some u)]) (σ := σ) (K := fun r0 σ0 => r0 = none ∧ hRen σ0 a B T (rExA B T R 64) ∧ hFr (a + 1) (a + 3) σ σ0) (by decide) rfl (by
    show xGo (xEx (d + 3)) xtb_18 _ (0, [some (.inr (some a)), some (.inr (some t)), some (.inr (some u)), none, none], [], σ)
    repeat (first | refine gp rfl rfl rfl ?_ | refine ggf rfl (by assumption) (by rfl) ?_ | refine gal rfl (by assumption) (by rfl) (by omega) (by omega) ?_ | refine gil rfl (by assumption) (by rfl) (by omega) (by omega) ?_ | refine gbl rfl (by assumption) (by rfl) (by omega) (by omega) ?_ | refine gln rfl (xlen_i (by assumption)) ?_ | refine gln rfl (xlen_q (by assumption)) ?_)
    exact loop 64 0 σ rfl h (hFr.refl _ _ _) none)
  exact ⟨σ', hex, h1, h2⟩
def rNaS (B T : pT) (ls : Int32) (R : pR) (m : Nat) : pR := match pOnly (rSL B T R) m, pOnly (rTL B T R) m with
  | some p, some q => if ls ≤ pScore (B p) (T q) then rJ R p q else R
  | _, _ => R
def rNaA (B T : pT) (ls : Int32) (R : pR) : Nat → pR
  | 0 => R
  | n + 1 => rNaS B T ls (rNaA B T ls R n) n
theorem pOnly_lt {P : Nat → Bool} {m p : Nat} (h : pOnly P m = some p) (hm : m < 8) : p < 64 := by
  unfold pOnly at h
  split at h
  · rename_i h1
    obtain ⟨k, hk, e⟩ := (pOn_some P m 8).2 (by omega)
    rw [e] at h
    cases h
    omega
  · cases h
theorem m_pairOnlyNames (d : Nat) {σ : xS} {a t u : Nat} {B T : pT} {R : pR} {ls : Int32} (h : hRen σ a B T R) (hB : hT σ t B) (hTt : hT σ u T) (kB : pTok B) (kT : pTok T) (ha : 2 ≤ a ∧ a + 6 < 38) (ht : 38 ≤ t) (hu : 38 ≤ u) : ∃ σ', xEx (d + 3) 21 [.inr (some a), .inr (some t), .inr (some u), .inl ls] σ none σ' ∧ hRen σ' a B T (rNaA B T ls R 8) ∧ hFr (a + 1) (a + 3) σ σ' := by
  have loop : ∀ k i (σi : xS), i + k = 8 → hRen σi a B T (rNaA B T ls R i) → hFr (a + 1) (a + 3) σ σi → ∀ l5 l6, xGo (xEx (d + 2)) xtb_21 (fun r0 σ0 => r0 = none ∧ hRen σ0 a B T (rNaA B T ls R 8) ∧ hFr (a + 1) (a + 3) σ σ0) (7, [some (.inr (some a)), some (.inr (some t)), some (.inr (some u)), some (.inl ls), some (.inl (nI i)), l5, l6], [.inl (nI 8), .inl (nI i)], σi) := by
    intro k
    induction k with
    | zero =>
      intro i σi hi hR hF l5 l6
      obtain rfl : i = 8 := by omega
      refine gct rfl (show nI 8 ≤ nI _ from nI_le (by omega) (by omega)) ?_
      exact grv rfl ⟨rfl, hR, hF⟩
    | succ k ih =>
      intro i σi hi hR hF l5 l6
      have hi8 : i < 8 := by omega
      have hB' := hB.fr hF (by omega) (Or.inl (by omega))
      have hT' := hTt.fr hF (by omega) (Or.inl (by omega))
      have hR0 := hR
      obtain ⟨h0, ft, fs, fl, h1, h2, h3, h4⟩ := hR
      have h0 : σi.1 a = some (.inr (.inr (3, [.inr (some (a + 1)), .inr (some (a + 2)), .inr (some (a + 3)), .inr (some (a + 4)), .inr (some (a + 5)), .inr (some (a + 6))]))) := h0
      have ho1 := hB'.obj
      have ho2 := hT'.obj
      have hstep : rNaA B T ls R (i + 1) = rNaS B T ls (rNaA B T ls R i) i := rfl
      refine gcf rfl (nI_ge (by omega) (by omega)) ?_
      repeat (first | refine gp rfl rfl rfl ?_ | refine ggf rfl (by assumption) (by rfl) ?_ | refine gal rfl (by assumption) (by rfl) (by omega) (by omega) ?_ | refine gil rfl (by assumption) (by rfl) (by omega) (by omega) ?_ | refine gbl rfl (by assumption) (by rfl) (by omega) (by omega) ?_ | refine gln rfl (xlen_i (by assumption)) ?_ | refine gln rfl (xlen_q (by assumption)) ?_)
      refine gcs (As := [.inr (some (a + 2)), .inl (nI i)]) (rest := []) rfl (by decide) (m_findOnly (d + 1) h2 (fun p hp => (h4 p hp).2.1) hi8) rfl rfl (by decide) ?_
      repeat (first | refine gp rfl rfl rfl ?_ | refine ggf rfl (by assumption) (by rfl) ?_ | refine gal rfl (by assumption) (by rfl) (by omega) (by omega) ?_ | refine gil rfl (by assumption) (by rfl) (by omega) (by omega) ?_ | refine gbl rfl (by assumption) (by rfl) (by omega) (by omega) ?_ | refine gln rfl (xlen_i (by assumption)) ?_ | refine gln rfl (xlen_q (by assumption)) ?_)
      refine gcs (As := [.inr (some (a + 3)), .inl (nI i)]) (rest := []) rfl (by decide) (m_findOnly (d + 1) h3 (fun p hp => (h4 p hp).2.2) hi8) rfl rfl (by decide) ?_
      repeat (first | refine gp rfl rfl rfl ?_ | refine ggf rfl (by assumption) (by rfl) ?_ | refine gal rfl (by assumption) (by rfl) (by omega) (by omega) ?_ | refine gil rfl (by assumption) (by rfl) (by omega) (by omega) ?_ | refine gbl rfl (by assumption) (by rfl) (by omega) (by omega) ?_ | refine gln rfl (xlen_i (by assumption)) ?_ | refine gln rfl (xlen_q (by assumption)) ?_)
      rw [xk_m1]
      cases hp : pOnly (rSL B T (rNaA B T ls R i)) i with
      | none =>
        refine gct rfl (show (-1 : Int32) = -1 from rfl) ?_
        repeat (first | refine gp rfl rfl rfl ?_ | refine ggf rfl (by assumption) (by rfl) ?_ | refine gal rfl (by assumption) (by rfl) (by omega) (by omega) ?_ | refine gil rfl (by assumption) (by rfl) (by omega) (by omega) ?_ | refine gbl rfl (by assumption) (by rfl) (by omega) (by omega) ?_ | refine gln rfl (xlen_i (by assumption)) ?_ | refine gln rfl (xlen_q (by assumption)) ?_)
        rw [nI_s]
        refine ih (i + 1) σi (by omega) ?_ hF _ _
        rw [hstep, rNaS, hp]
        exact hR0
      | some p =>
        have hpl := pOnly_lt hp hi8
        refine gcf rfl (oI_ne (by omega)) ?_
        repeat (first | refine gp rfl rfl rfl ?_ | refine ggf rfl (by assumption) (by rfl) ?_ | refine gal rfl (by assumption) (by rfl) (by omega) (by omega) ?_ | refine gil rfl (by assumption) (by rfl) (by omega) (by omega) ?_ | refine gbl rfl (by assumption) (by rfl) (by omega) (by omega) ?_ | refine gln rfl (xlen_i (by assumption)) ?_ | refine gln rfl (xlen_q (by assumption)) ?_)
        rw [xk_m1]
        cases hq : pOnly (rTL B T (rNaA B T ls R i)) i with
        | none =>
          refine gct rfl (show (-1 : Int32) = -1 from rfl) ?_
          repeat (first | refine gp rfl rfl rfl ?_ | refine ggf rfl (by assumption) (by rfl) ?_ | refine gal rfl (by assumption) (by rfl) (by omega) (by omega) ?_ | refine gil rfl (by assumption) (by rfl) (by omega) (by omega) ?_ | refine gbl rfl (by assumption) (by rfl) (by omega) (by omega) ?_ | refine gln rfl (xlen_i (by assumption)) ?_ | refine gln rfl (xlen_q (by assumption)) ?_)
          rw [nI_s]
          refine ih (i + 1) σi (by omega) ?_ hF _ _
          rw [hstep, rNaS, hp, hq]
          exact hR0
        | some q =>
          have hql := pOnly_lt hq hi8
          refine gcf rfl (oI_ne (by omega)) ?_
          repeat (first | refine gp rfl rfl rfl ?_ | refine ggf rfl (by assumption) (by rfl) ?_ | refine gal rfl (by assumption) (by rfl) (by omega) (by omega) ?_ | refine gil rfl (by assumption) (by rfl) (by omega) (by omega) ?_ | refine gbl rfl (by assumption) (by rfl) (by omega) (by omega) ?_ | refine gln rfl (xlen_i (by assumption)) ?_ | refine gln rfl (xlen_q (by assumption)) ?_)
          obtain ⟨q1, hq1, ho3⟩ := m_fileAtT d hB' hpl
          refine gcv (As := [.inl (nI p)]) (rest := []) rfl (by decide) hq1 ho1 rfl rfl (by decide) ?_
          repeat (first | refine gp rfl rfl rfl ?_ | refine ggf rfl (by assumption) (by rfl) ?_ | refine gal rfl (by assumption) (by rfl) (by omega) (by omega) ?_ | refine gil rfl (by assumption) (by rfl) (by omega) (by omega) ?_ | refine gbl rfl (by assumption) (by rfl) (by omega) (by omega) ?_ | refine gln rfl (xlen_i (by assumption)) ?_ | refine gln rfl (xlen_q (by assumption)) ?_)
          obtain ⟨q2, hq2, ho4⟩ := m_fileAtT d hT' hql
          refine gcv (As := [.inl (nI q)]) (rest := [.inr q1]) rfl (by decide) hq2 ho2 rfl rfl (Nat.le_of_ble_eq_true rfl) ?_
          refine gcs (As := [.inr q1, .inr q2]) (rest := []) rfl (by decide) (m_likeness d ho3 ho4 (kB p hpl) (kT q hql)) rfl rfl (by decide) ?_
          repeat (first | refine gp rfl rfl rfl ?_ | refine ggf rfl (by assumption) (by rfl) ?_ | refine gal rfl (by assumption) (by rfl) (by omega) (by omega) ?_ | refine gil rfl (by assumption) (by rfl) (by omega) (by omega) ?_ | refine gbl rfl (by assumption) (by rfl) (by omega) (by omega) ?_ | refine gln rfl (xlen_i (by assumption)) ?_ | refine gln rfl (xlen_q (by assumption)) ?_)
          refine gcp rfl (fun hlt => ?_) (fun hge => ?_)
          · repeat (first | refine gp rfl rfl rfl ?_ | refine ggf rfl (by assumption) (by rfl) ?_ | refine gal rfl (by assumption) (by rfl) (by omega) (by omega) ?_ | refine gil rfl (by assumption) (by rfl) (by omega) (by omega) ?_ | refine gbl rfl (by assumption) (by rfl) (by omega) (by omega) ?_ | refine gln rfl (xlen_i (by assumption)) ?_ | refine gln rfl (xlen_q (by assumption)) ?_)
            rw [nI_s]
            refine ih (i + 1) σi (by omega) ?_ hF _ _
            rw [hstep, rNaS, hp, hq]
            show hRen σi a B T (if ls ≤ pScore (B p) (T q) then _ else _)
            rw [if_neg (Int32.not_le.mpr hlt)]
            exact hR0
          · repeat (first | refine gp rfl rfl rfl ?_ | refine ggf rfl (by assumption) (by rfl) ?_ | refine gal rfl (by assumption) (by rfl) (by omega) (by omega) ?_ | refine gil rfl (by assumption) (by rfl) (by omega) (by omega) ?_ | refine gbl rfl (by assumption) (by rfl) (by omega) (by omega) ?_ | refine gln rfl (xlen_i (by assumption)) ?_ | refine gln rfl (xlen_q (by assumption)) ?_)
            obtain ⟨σ2, hex, hR2, hF2⟩ := m_pair (d + 1) hR0 hpl hql ha.1
            refine gcv (As := [.inl (nI p), .inl (nI q)]) (rest := []) rfl (by decide) hex h0 rfl rfl (by decide) ?_
            repeat (first | refine gp rfl rfl rfl ?_ | refine ggf rfl (by assumption) (by rfl) ?_ | refine gal rfl (by assumption) (by rfl) (by omega) (by omega) ?_ | refine gil rfl (by assumption) (by rfl) (by omega) (by omega) ?_ | refine gbl rfl (by assumption) (by rfl) (by omega) (by omega) ?_ | refine gln rfl (xlen_i (by assumption)) ?_ | refine gln rfl (xlen_q (by assumption)) ?_)
            rw [nI_s]
            refine ih (i + 1) σ2 (by omega) ?_ (hF.trans hF2) _ _
            rw [hstep, rNaS, hp, hq]
            show hRen σ2 a B T (if ls ≤ pScore (B p) (T q) then _ else _)
            rw [if_pos (Int32.not_lt.mp hge)]
            exact hR2
  obtain ⟨r, σ', hex, rfl, h1, h2⟩ := ex_of (d := d + 2) (y := 21) (as := [.inr (some a), .inr (some t), .inr (some u), .inl ls]) (σ := σ) (K := fun r0 σ0 => r0 = none ∧ hRen σ0 a B T (rNaA B T ls R 8) ∧ hFr (a + 1) (a + 3) σ σ0) (by decide) rfl (by
    show xGo (xEx (d + 2)) xtb_21 _ (0, [some (.inr (some a)), some (.inr (some t)), some (.inr (some u)), some (.inl ls), none, none, none], [], σ)
    repeat (first | refine gp rfl rfl rfl ?_ | refine ggf rfl (by assumption) (by rfl) ?_ | refine gal rfl (by assumption) (by rfl) (by omega) (by omega) ?_ | refine gil rfl (by assumption) (by rfl) (by omega) (by omega) ?_ | refine gbl rfl (by assumption) (by rfl) (by omega) (by omega) ?_ | refine gln rfl (xlen_i (by assumption)) ?_ | refine gln rfl (xlen_q (by assumption)) ?_)
    exact loop 8 0 σ rfl h (hFr.refl _ _ _) none none)
  exact ⟨σ', hex, h1, h2⟩
