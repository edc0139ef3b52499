/-! MODULE: renames of one side, the class: all -/
def rIt (f : pR → pR) (R : pR) : Nat → pR
  | 0 => R
  | n + 1 => f (rIt f R n)
def rScA (B T : pT) (th : Int32) (R : pR) : pR := if 20 < pCnt (rSL B T R) 64 * pCnt (rTL B T R) 64 then R else rIt (rBS B T th) R (min (pCnt (rSL B T R) 64) (pCnt (rTL B T R) 64))
theorem m_pairByScore (d : Nat) {σ : xS} {a t u : Nat} {B T : pT} {R : pR} {th : Int32} (h : hRen σ a B T R) (hB : hT σ t B) (hTt : hT σ u T) (kB : pTok B) (kT : pTok T) (ha : 2 ≤ a ∧ a + 6 < 38) (ht : 38 ≤ t) (hu : 38 ≤ u) : ∃ σ', xEx (d + 4) 23 [.inr (some a), .inr (some t), .inr (some u), .inl th] σ none σ' ∧ hRen σ' a B T (rScA B T th R) ∧ hFr (a + 1) (a + 3) σ σ' := by
  have hR0 := h
  obtain ⟨h0, ft, fs, fl, h1, h2, h3, h4⟩ := h
  have h0 : σ.1 a = some (.inr (.inr (3, [.inr (some (a + 1)), .inr (some (a + 2)), .inr (some (a + 3)), .inr (some (a + 4)), .inr (some (a + 5)), .inr (some (a + 6))]))) := h0
  have hs := pCnt_le (rSL B T R) 64
  have hl := pCnt_le (rTL B T R) 64
  have hmul : pCnt (rSL B T R) 64 * pCnt (rTL B T R) 64 ≤ 64 * 64 := Nat.mul_le_mul hs hl
  have hmin : min (pCnt (rSL B T R) 64) (pCnt (rTL B T R) 64) ≤ 64 := Nat.le_trans (Nat.min_le_left _ _) hs
  have loop : ¬ 20 < pCnt (rSL B T R) 64 * pCnt (rTL B T R) 64 → ∀ k i (σi : xS), i + k = min (pCnt (rSL B T R) 64) (pCnt (rTL B T R) 64) → hRen σi a B T (rIt (rBS B T th) R i) → hFr (a + 1) (a + 3) σ σi → xGo (xEx (d + 3)) xtb_23 (fun r0 σ0 => r0 = none ∧ hRen σ0 a B T (rScA B T th R) ∧ hFr (a + 1) (a + 3) σ σ0) (45, [some (.inr (some a)), some (.inr (some t)), some (.inr (some u)), some (.inl th), some (.inl (nI (pCnt (rSL B T R) 64))), some (.inl (nI (pCnt (rTL B T R) 64))), some (.inl (nI (min (pCnt (rSL B T R) 64) (pCnt (rTL B T R) 64)))), some (.inl (nI i))], [.inl (nI (min (pCnt (rSL B T R) 64) (pCnt (rTL B T R) 64))), .inl (nI i)], σi) := by
    intro hno k
    induction k with
    | zero =>
      intro i σi hi hR hF
      refine gct rfl (show nI _ ≤ nI _ from nI_le (by omega) (by omega)) ?_
      refine grv rfl ⟨rfl, ?_, hF⟩
      unfold rScA
      rw [if_neg hno, ← hi]
      exact hR
    | succ k ih =>
      intro i σi hi hR hF
      have hB' := hB.fr hF (by omega) (Or.inl (by omega))
      have hT' := hTt.fr hF (by omega) (Or.inl (by omega))
      have hobj : σi.1 a = some (.inr (.inr (3, [.inr (some (a + 1)), .inr (some (a + 2)), .inr (some (a + 3)), .inr (some (a + 4)), .inr (some (a + 5)), .inr (some (a + 6))]))) := hR.1
      refine gcf rfl (nI_ge (by omega) (by omega)) ?_
      repeat (first | refine gp rfl rfl rfl ?_ | refine ggf rfl (by assumption) (by rfl) ?_ | refine gal rfl (by assumption) (by rfl) (by omega) (by omega) ?_ | refine gil rfl (by assumption) (by rfl) (by omega) (by omega) ?_ | refine gbl rfl (by assumption) (by rfl) (by omega) (by omega) ?_ | refine gln rfl (xlen_i (by assumption)) ?_ | refine gln rfl (xlen_q (by assumption)) ?_)
      obtain ⟨σ2, hex, hR2, hF2⟩ := m_pairBest d (th := th) hR hB' hT' kB kT ha ht hu
      refine gcv (As := [.inr (some t), .inr (some u), .inl th]) (rest := []) rfl (by decide) hex hobj rfl rfl (by decide) ?_
      repeat (first | refine gp rfl rfl rfl ?_ | refine ggf rfl (by assumption) (by rfl) ?_ | refine gal rfl (by assumption) (by rfl) (by omega) (by omega) ?_ | refine gil rfl (by assumption) (by rfl) (by omega) (by omega) ?_ | refine gbl rfl (by assumption) (by rfl) (by omega) (by omega) ?_ | refine gln rfl (xlen_i (by assumption)) ?_ | refine gln rfl (xlen_q (by assumption)) ?_)
      rw [nI_s]
      exact ih (i + 1) σ2 (by omega) hR2 (hF.trans hF2)
  obtain ⟨r, σ', hex, rfl, h1, h2⟩ := ex_of (d := d + 3) (y := 23) (as := [.inr (some a), .inr (some t), .inr (some u), .inl th]) (σ := σ) (K := fun r0 σ0 => r0 = none ∧ hRen σ0 a B T (rScA B T th R) ∧ hFr (a + 1) (a + 3) σ σ0) (by decide) rfl (by
    show xGo (xEx (d + 3)) xtb_23 _ (0, [some (.inr (some a)), some (.inr (some t)), some (.inr (some u)), some (.inl th), none, none, none, none], [], σ)
    repeat (first | refine gp rfl rfl rfl ?_ | refine ggf rfl (by assumption) (by rfl) ?_ | refine gal rfl (by assumption) (by rfl) (by omega) (by omega) ?_ | refine gil rfl (by assumption) (by rfl) (by omega) (by omega) ?_ | refine gbl rfl (by assumption) (by rfl) (by omega) (by omega) ?_ | refine gln rfl (xlen_i (by assumption)) ?_ | refine gln rfl (xlen_q (by assumption)) ?_)
    refine gcs (As := [.inr (some (a + 2))]) (rest := []) rfl (by decide) (m_countLeft (d + 2) h2 (fun p hp => (h4 p hp).2.1)) rfl rfl (by decide) ?_
    repeat (first | refine gp rfl rfl rfl ?_ | refine ggf rfl (by assumption) (by rfl) ?_ | refine gal rfl (by assumption) (by rfl) (by omega) (by omega) ?_ | refine gil rfl (by assumption) (by rfl) (by omega) (by omega) ?_ | refine gbl rfl (by assumption) (by rfl) (by omega) (by omega) ?_ | refine gln rfl (xlen_i (by assumption)) ?_ | refine gln rfl (xlen_q (by assumption)) ?_)
    refine gcs (As := [.inr (some (a + 3))]) (rest := []) rfl (by decide) (m_countLeft (d + 2) h3 (fun p hp => (h4 p hp).2.2)) rfl rfl (by decide) ?_
    repeat (first | refine gp rfl rfl rfl ?_ | refine ggf rfl (by assumption) (by rfl) ?_ | refine gal rfl (by assumption) (by rfl) (by omega) (by omega) ?_ | refine gil rfl (by assumption) (by rfl) (by omega) (by omega) ?_ | refine gbl rfl (by assumption) (by rfl) (by omega) (by omega) ?_ | refine gln rfl (xlen_i (by assumption)) ?_ | refine gln rfl (xlen_q (by assumption)) ?_)
    rw [pk_mul]
    refine gcp rfl (fun hle => ?_) (fun hgt => ?_)
    · have hle : ¬ 20 < pCnt (rSL B T R) 64 * pCnt (rTL B T R) 64 := by
        have := (nI_leI (by omega) (by decide)).mp (show nI _ ≤ nI 20 from hle)
        omega
      repeat (first | refine gp rfl rfl rfl ?_ | refine ggf rfl (by assumption) (by rfl) ?_ | refine gal rfl (by assumption) (by rfl) (by omega) (by omega) ?_ | refine gil rfl (by assumption) (by rfl) (by omega) (by omega) ?_ | refine gbl rfl (by assumption) (by rfl) (by omega) (by omega) ?_ | refine gln rfl (xlen_i (by assumption)) ?_ | refine gln rfl (xlen_q (by assumption)) ?_)
      refine gmn rfl (by decide) ?_
      rw [mn_nI (by omega) (by omega)]
      repeat (first | refine gp rfl rfl rfl ?_ | refine ggf rfl (by assumption) (by rfl) ?_ | refine gal rfl (by assumption) (by rfl) (by omega) (by omega) ?_ | refine gil rfl (by assumption) (by rfl) (by omega) (by omega) ?_ | refine gbl rfl (by assumption) (by rfl) (by omega) (by omega) ?_ | refine gln rfl (xlen_i (by assumption)) ?_ | refine gln rfl (xlen_q (by assumption)) ?_)
      exact loop hle (min (pCnt (rSL B T R) 64) (pCnt (rTL B T R) 64)) 0 σ (Nat.zero_add _) hR0 (hFr.refl _ _ _)
    · have hgt : 20 < pCnt (rSL B T R) 64 * pCnt (rTL B T R) 64 := by
        rcases Nat.lt_or_ge 20 (pCnt (rSL B T R) 64 * pCnt (rTL B T R) 64) with z | z
        · exact z
        · exact absurd (show nI (pCnt (rSL B T R) 64 * pCnt (rTL B T R) 64) ≤ nI 20 from (nI_leI (by omega) (by decide)).mpr z) hgt
      refine grv rfl ⟨rfl, ?_, hFr.refl _ _ _⟩
      unfold rScA
      rw [if_pos hgt]
      exact hR0)
  exact ⟨σ', hex, h1, h2⟩
/-- all renames of a side -/
def rAll (B T : pT) (th : Nat) : pR := rScA B T (nI th) (rNaA B T (nI ((101 + th) / 2)) (rExA B T (fun _ => none, fun _ => none) 64) 8)
theorem xnar_b (b : Bool) : xnar 2 (bI b) = bI b := by cases b <;> decide
theorem m_findRenames (d : Nat) {σ : xS} {a t u th : Nat} {B T : pT} {ft fs fl : Nat → Int32} (h0 : hSd σ a) (h1 : σ.1 (a + 1) = some (.inl (0, 64, ft))) (h2 : σ.1 (a + 2) = some (.inl (2, 64, fs))) (h3 : σ.1 (a + 3) = some (.inl (2, 64, fl))) (hB : hT σ t B) (hTt : hT σ u T) (kB : pTok B) (kT : pTok T) (ha : 2 ≤ a ∧ a + 6 < 38) (ht : 38 ≤ t) (hu : 38 ≤ u) (hth : th ≤ 100) : ∃ σ', xEx (d + 5) 17 [.inr (some a), .inr (some t), .inr (some u), .inl (nI th)] σ none σ' ∧ hRen σ' a B T (rAll B T th) ∧ hFr (a + 1) (a + 3) σ σ' := by
  have h0 : σ.1 a = some (.inr (.inr (3, [.inr (some (a + 1)), .inr (some (a + 2)), .inr (some (a + 3)), .inr (some (a + 4)), .inr (some (a + 5)), .inr (some (a + 6))]))) := h0
  obtain ⟨ft', hft, hfill⟩ := m_fill (d + 3) (x := -1) h1 (by decide) (by omega)
  have hF1 : hFr (a + 1) (a + 3) σ (xup σ (a + 1) (.inl (0, 64, ft'))) := hFr.up (Nat.le_refl _) (by omega)
  have loop : ∀ k i (σi : xS) (gs gl : Nat → Int32), i + k = 64 → hFr (a + 1) (a + 3) σ σi → σi.1 (a + 1) = some (.inl (0, 64, ft')) → σi.1 (a + 2) = some (.inl (2, 64, gs)) → σi.1 (a + 3) = some (.inl (2, 64, gl)) → (∀ p, p < i → gs p = bI (rSL B T (fun _ => none, fun _ => none) p) ∧ gl p = bI (rTL B T (fun _ => none, fun _ => none) p)) →
      xGo (xEx (d + 4)) xtb_17 (fun r0 σ0 => r0 = none ∧ hRen σ0 a B T (rAll B T th) ∧ hFr (a + 1) (a + 3) σ σ0) (15, [some (.inr (some a)), some (.inr (some t)), some (.inr (some u)), some (.inl (nI th)), some (.inl (nI i))], [.inl (nI 64), .inl (nI i)], σi) := by
    intro k
    induction k with
    | zero =>
      intro i σi gs gl hi hF c1 c2 c3 c4
      obtain rfl : i = 64 := by omega
      have hobj : σi.1 a = some (.inr (.inr (3, [.inr (some (a + 1)), .inr (some (a + 2)), .inr (some (a + 3)), .inr (some (a + 4)), .inr (some (a + 5)), .inr (some (a + 6))]))) := by rw [hF.2 a (by omega)]; exact h0
      have hR : hRen σi a B T (fun _ => none, fun _ => none) := ⟨hobj, ft', gs, gl, c1, c2, c3, fun p hp => ⟨hft p hp, (c4 p hp).1, (c4 p hp).2⟩⟩
      refine gct rfl (show nI 64 ≤ nI _ from nI_le (by omega) (by omega)) ?_
      repeat (first | refine gp rfl rfl rfl ?_ | refine ggf rfl (by assumption) (by rfl) ?_ | refine gal rfl (by assumption) (by rfl) (by omega) (by omega) ?_ | refine gil rfl (by assumption) (by rfl) (by omega) (by omega) ?_ | refine gbl rfl (by assumption) (by rfl) (by omega) (by omega) ?_ | refine gln rfl (xlen_i (by assumption)) ?_ | refine gln rfl (xlen_q (by assumption)) ?_)
      obtain ⟨σ2, hex2, hR2, hF2⟩ := m_pairEqualFiles d hR (hB.fr hF (by omega) (Or.inl (by omega))) (hTt.fr hF (by omega) (Or.inl (by omega))) ha ht hu
      refine gcv (As := [.inr (some t), .inr (some u)]) (rest := []) rfl (by decide) hex2 hobj rfl rfl (by decide) ?_
      have hF2 := hF.trans hF2
      repeat (first | refine gp rfl rfl rfl ?_ | refine ggf rfl (by assumption) (by rfl) ?_ | refine gal rfl (by assumption) (by rfl) (by omega) (by omega) ?_ | refine gil rfl (by assumption) (by rfl) (by omega) (by omega) ?_ | refine gbl rfl (by assumption) (by rfl) (by omega) (by omega) ?_ | refine gln rfl (xlen_i (by assumption)) ?_ | refine gln rfl (xlen_q (by assumption)) ?_)
      refine gp rfl rfl ⟨by decide, rfl⟩ ?_
      rw [show (xk 101 0 + nI th) / xk 2 0 = nI ((101 + th) / 2) by
        show (nI 101 + nI th) / nI 2 = _
        rw [nI_add, pk_div (by omega) (by decide) (by decide)]]
      obtain ⟨σ3, hex3, hR3, hF3⟩ := m_pairOnlyNames (d + 1) (ls := nI ((101 + th) / 2)) hR2 (hB.fr hF2 (by omega) (Or.inl (by omega))) (hTt.fr hF2 (by omega) (Or.inl (by omega))) kB kT ha ht hu
      refine gcv (As := [.inr (some t), .inr (some u), .inl (nI ((101 + th) / 2))]) (rest := []) rfl (by decide) hex3 hR2.1 rfl rfl (by decide) ?_
      have hF3 := hF2.trans hF3
      repeat (first | refine gp rfl rfl rfl ?_ | refine ggf rfl (by assumption) (by rfl) ?_ | refine gal rfl (by assumption) (by rfl) (by omega) (by omega) ?_ | refine gil rfl (by assumption) (by rfl) (by omega) (by omega) ?_ | refine gbl rfl (by assumption) (by rfl) (by omega) (by omega) ?_ | refine gln rfl (xlen_i (by assumption)) ?_ | refine gln rfl (xlen_q (by assumption)) ?_)
      obtain ⟨σ4, hex4, hR4, hF4⟩ := m_pairByScore d (th := nI th) hR3 (hB.fr hF3 (by omega) (Or.inl (by omega))) (hTt.fr hF3 (by omega) (Or.inl (by omega))) kB kT ha ht hu
      refine gcv (As := [.inr (some t), .inr (some u), .inl (nI th)]) (rest := []) rfl (by decide) hex4 hR3.1 rfl rfl (by decide) ?_
      exact grv rfl ⟨rfl, hR4, hF3.trans hF4⟩
    | succ k ih =>
      intro i σi gs gl hi hF c1 c2 c3 c4
      have hi64 : i < 64 := by omega
      have hobj : σi.1 a = some (.inr (.inr (3, [.inr (some (a + 1)), .inr (some (a + 2)), .inr (some (a + 3)), .inr (some (a + 4)), .inr (some (a + 5)), .inr (some (a + 6))]))) := by rw [hF.2 a (by omega)]; exact h0
      have hB' := hB.fr hF (by omega) (Or.inl (by omega))
      have hT' := hTt.fr hF (by omega) (Or.inl (by omega))
      refine gcf rfl (nI_ge (by omega) (by omega)) ?_
      have half2 : ∀ σj : xS, hFr (a + 1) (a + 3) σ σj → σj.1 (a + 1) = some (.inl (0, 64, ft')) → σj.1 (a + 2) = some (.inl (2, 64, upd gs i (bI (rSL B T (fun _ => none, fun _ => none) i)))) → σj.1 (a + 3) = some (.inl (2, 64, gl)) → xGo (xEx (d + 4)) xtb_17 (fun r0 σ0 => r0 = none ∧ hRen σ0 a B T (rAll B T th) ∧ hFr (a + 1) (a + 3) σ σ0) (48, [some (.inr (some a)), some (.inr (some t)), some (.inr (some u)), some (.inl (nI th)), some (.inl (nI i))], [], σj) := by
        intro σj hFj e1 e2 e3
        have hobj : σj.1 a = some (.inr (.inr (3, [.inr (some (a + 1)), .inr (some (a + 2)), .inr (some (a + 3)), .inr (some (a + 4)), .inr (some (a + 5)), .inr (some (a + 6))]))) := by rw [hFj.2 a (by omega)]; exact h0
        have hB2 := hB.fr hFj (by omega) (Or.inl (by omega))
        have hT2 := hTt.fr hFj (by omega) (Or.inl (by omega))
        have fin : ∀ b : Bool, rTL B T (fun _ => none, fun _ => none) i = b → xGo (xEx (d + 4)) xtb_17 (fun r0 σ0 => r0 = none ∧ hRen σ0 a B T (rAll B T th) ∧ hFr (a + 1) (a + 3) σ σ0) (77, [some (.inr (some a)), some (.inr (some t)), some (.inr (some u)), some (.inl (nI th)), some (.inl (nI i))], [.inl (bI b), .inl (nI i), .inr (some (a + 3))], σj) := by
          intro b hb
          refine gbs rfl e3 rfl hi64 (by omega) ?_
          rw [xnar_b]
          repeat (first | refine gp rfl rfl rfl ?_ | refine ggf rfl (by assumption) (by rfl) ?_ | refine gal rfl (by assumption) (by rfl) (by omega) (by omega) ?_ | refine gil rfl (by assumption) (by rfl) (by omega) (by omega) ?_ | refine gbl rfl (by assumption) (by rfl) (by omega) (by omega) ?_ | refine gln rfl (xlen_i (by assumption)) ?_ | refine gln rfl (xlen_q (by assumption)) ?_)
          rw [nI_s]
          refine ih (i + 1) _ (upd gs i (bI (rSL B T (fun _ => none, fun _ => none) i))) (upd gl i (bI b)) (by omega) (hFj.trans (hFr.up (by omega) (by omega))) ?_ ?_ (xup_eq _ _ _) (fun p hp => ?_)
          · rw [xup_ne (by omega)]; exact e1
          · rw [xup_ne (by omega)]; exact e2
          · by_cases hpi : p = i
            · subst hpi; simp [upd, hb]
            · simp only [upd, if_neg hpi]; exact c4 p (by omega)
        repeat (first | refine gp rfl rfl rfl ?_ | refine ggf rfl (by assumption) (by rfl) ?_ | refine gal rfl (by assumption) (by rfl) (by omega) (by omega) ?_ | refine gil rfl (by assumption) (by rfl) (by omega) (by omega) ?_ | refine gbl rfl (by assumption) (by rfl) (by omega) (by omega) ?_ | refine gln rfl (xlen_i (by assumption)) ?_ | refine gln rfl (xlen_q (by assumption)) ?_)
        refine gcv (As := [.inl (nI i)]) (rest := [.inl (nI i), .inr (some (a + 3))]) rfl (by decide) (m_hasT (d + 1) hT2 hi64) hT2.obj rfl rfl (Nat.le_of_ble_eq_true rfl) ?_
        cases hti : (T i).isSome with
        | false =>
          refine git rfl (show (0 : Int32) = 0 from rfl) ?_
          refine gp rfl rfl rfl ?_
          exact fin false (by unfold rTL; rw [hti]; rfl)
        | true =>
          refine giff rfl (fun h => absurd (show (1 : Int32) = 0 from h) (by decide)) ?_
          repeat (first | refine gp rfl rfl rfl ?_ | refine ggf rfl (by assumption) (by rfl) ?_ | refine gal rfl (by assumption) (by rfl) (by omega) (by omega) ?_ | refine gil rfl (by assumption) (by rfl) (by omega) (by omega) ?_ | refine gbl rfl (by assumption) (by rfl) (by omega) (by omega) ?_ | refine gln rfl (xlen_i (by assumption)) ?_ | refine gln rfl (xlen_q (by assumption)) ?_)
          refine gcv (As := [.inl (nI i)]) (rest := [.inl (nI i), .inr (some (a + 3))]) rfl (by decide) (m_hasT (d + 1) hB2 hi64) hB2.obj rfl rfl (Nat.le_of_ble_eq_true rfl) ?_
          cases hbi : B i with
          | none =>
            refine giff rfl (fun h => h (show (0 : Int32) = 0 from rfl)) ?_
            refine gp rfl rfl rfl ?_
            refine gp rfl rfl rfl ?_
            exact fin true (by unfold rTL; rw [hti, hbi]; rfl)
          | some F =>
            refine git rfl (show ¬ (1 : Int32) = 0 by decide) ?_
            refine gp rfl rfl rfl ?_
            exact fin false (by unfold rTL; rw [hti, hbi]; rfl)
      have fin1 : ∀ b : Bool, rSL B T (fun _ => none, fun _ => none) i = b → xGo (xEx (d + 4)) xtb_17 (fun r0 σ0 => r0 = none ∧ hRen σ0 a B T (rAll B T th) ∧ hFr (a + 1) (a + 3) σ σ0) (47, [some (.inr (some a)), some (.inr (some t)), some (.inr (some u)), some (.inl (nI th)), some (.inl (nI i))], [.inl (bI b), .inl (nI i), .inr (some (a + 2))], σi) := by
        intro b hb
        refine gbs rfl c2 rfl hi64 (by omega) ?_
        rw [xnar_b, ← hb]
        exact half2 _ (hF.trans (hFr.up (by omega) (by omega))) (by rw [xup_ne (by omega)]; exact c1) (xup_eq _ _ _) (by rw [xup_ne (by omega)]; exact c3)
      repeat (first | refine gp rfl rfl rfl ?_ | refine ggf rfl (by assumption) (by rfl) ?_ | refine gal rfl (by assumption) (by rfl) (by omega) (by omega) ?_ | refine gil rfl (by assumption) (by rfl) (by omega) (by omega) ?_ | refine gbl rfl (by assumption) (by rfl) (by omega) (by omega) ?_ | refine gln rfl (xlen_i (by assumption)) ?_ | refine gln rfl (xlen_q (by assumption)) ?_)
      refine gcv (As := [.inl (nI i)]) (rest := [.inl (nI i), .inr (some (a + 2))]) rfl (by decide) (m_hasT (d + 1) hB' hi64) hB'.obj rfl rfl (Nat.le_of_ble_eq_true rfl) ?_
      cases hbi : (B i).isSome with
      | false =>
        refine git rfl (show (0 : Int32) = 0 from rfl) ?_
        refine gp rfl rfl rfl ?_
        exact fin1 false (by unfold rSL; rw [hbi]; rfl)
      | true =>
        refine giff rfl (fun h => absurd (show (1 : Int32) = 0 from h) (by decide)) ?_
        repeat (first | refine gp rfl rfl rfl ?_ | refine ggf rfl (by assumption) (by rfl) ?_ | refine gal rfl (by assumption) (by rfl) (by omega) (by omega) ?_ | refine gil rfl (by assumption) (by rfl) (by omega) (by omega) ?_ | refine gbl rfl (by assumption) (by rfl) (by omega) (by omega) ?_ | refine gln rfl (xlen_i (by assumption)) ?_ | refine gln rfl (xlen_q (by assumption)) ?_)
        refine gcv (As := [.inl (nI i)]) (rest := [.inl (nI i), .inr (some (a + 2))]) rfl (by decide) (m_hasT (d + 1) hT' hi64) hT'.obj rfl rfl (Nat.le_of_ble_eq_true rfl) ?_
        cases hti : T i with
        | none =>
          refine giff rfl (fun h => h (show (0 : Int32) = 0 from rfl)) ?_
          refine gp rfl rfl rfl ?_
          refine gp rfl rfl rfl ?_
          exact fin1 true (by unfold rSL; rw [hbi, hti]; rfl)
        | some F =>
          refine git rfl (show ¬ (1 : Int32) = 0 by decide) ?_
          refine gp rfl rfl rfl ?_
          exact fin1 false (by unfold rSL; rw [hbi, hti]; rfl)
  obtain ⟨r, σ', hex, rfl, g1, g2⟩ := ex_of (d := d + 4) (y := 17) (as := [.inr (some a), .inr (some t), .inr (some u), .inl (nI th)]) (σ := σ) (K := fun r0 σ0 => r0 = none ∧ hRen σ0 a B T (rAll B T th) ∧ hFr (a + 1) (a + 3) σ σ0) (by decide) rfl (by
    show xGo (xEx (d + 4)) xtb_17 _ (0, [some (.inr (some a)), some (.inr (some t)), some (.inr (some u)), some (.inl (nI th)), none], [], σ)
    repeat (first | refine gp rfl rfl rfl ?_ | refine ggf rfl (by assumption) (by rfl) ?_ | refine gal rfl (by assumption) (by rfl) (by omega) (by omega) ?_ | refine gil rfl (by assumption) (by rfl) (by omega) (by omega) ?_ | refine gbl rfl (by assumption) (by rfl) (by omega) (by omega) ?_ | refine gln rfl (xlen_i (by assumption)) ?_ | refine gln rfl (xlen_q (by assumption)) ?_)
    rw [xk_m1]
    refine gcs (As := [.inr (some (a + 1)), .inl (-1)]) (rest := []) rfl (by decide) hfill rfl rfl (by decide) ?_
    repeat (first | refine gp rfl rfl rfl ?_ | refine ggf rfl (by assumption) (by rfl) ?_ | refine gal rfl (by assumption) (by rfl) (by omega) (by omega) ?_ | refine gil rfl (by assumption) (by rfl) (by omega) (by omega) ?_ | refine gbl rfl (by assumption) (by rfl) (by omega) (by omega) ?_ | refine gln rfl (xlen_i (by assumption)) ?_ | refine gln rfl (xlen_q (by assumption)) ?_)
    exact loop 64 0 _ fs fl rfl hF1 (xup_eq _ _ _) (by rw [xup_ne (by omega)]; exact h2) (by rw [xup_ne (by omega)]; exact h3) (fun p hp => absurd hp (by omega)))
  exact ⟨σ', hex, g1, g2⟩
