/-! MODULE: the reference: renames, names and scores -/
theorem pOn_s (P : Nat → Bool) (m i : Nat) : pOn P m (i + 1) = if P (m + 8 * i) then (some (m + 8 * i), (pOn P m i).2 + 1) else pOn P m i := rfl
theorem pOn_le (P : Nat → Bool) (m : Nat) : ∀ i, (pOn P m i).2 ≤ i
  | 0 => Nat.le_refl _
  | i + 1 => by
    have := pOn_le P m i
    rw [pOn_s]
    split
    · show (pOn P m i).2 + 1 ≤ i + 1
      omega
    · omega
theorem rNaS_B {B T : pT} {ls : Int32} {R : pR} {m : Nat} (h : rB R) (hm : m < 8) : rB (rNaS B T ls R m) := by
  unfold rNaS
  split
  · rename_i p q hp hq
    split
    · exact rJ_B h (pOnly_lt hp hm) (pOnly_lt hq hm)
    · exact h
  · exact h
def bE (b : Option (Nat × Nat)) : Int32 := match b with
  | none => -1
  | some (p, q) => nI (64 * p + q)
section REF
variable {σ : xS} {I : Nat → Int32} {A : Nat → Nat → Int32} {W : Nat → pT} {s th : Nat}
theorem r_names (d : Nat) {R : pR} (h : mV A W) (hR : mR A s R) (hs : s = 1 ∨ s = 2) (hI : I 0 = nI th) (hth : th ≤ 100) : ∃ A', xEx (d + 5) 110 [.inr (some 52), .inl (nI s)] (mU σ I A) none (mU σ I A') ∧ mR A' s (rNaA (W 0) (W s) (nI ((101 + th) / 2)) R 8) ∧ aR s A A' := by
  let K : Option xV → xS → Prop := fun r0 σ0 => r0 = none ∧ ∃ A', σ0 = mU σ I A' ∧ mR A' s (rNaA (W 0) (W s) (nI ((101 + th) / 2)) R 8) ∧ aR s A A'
  have outer : ∀ k m (B : Nat → Nat → Int32) (x y z u v : Option xV), m + k = 8 → mR B s (rNaA (W 0) (W s) (nI ((101 + th) / 2)) R m) → aR s A B → xGo (xEx (d + 4)) xtb_110 K (5, [some (.inr (some 52)), some (.inl (nI s)), some (.inl (nI m)), x, y, z, u, v], [.inl (nI 8), .inl (nI m)], mU σ I B) := by
    intro k
    induction k with
    | zero =>
      intro m B x y z u v hm hB hF
      obtain rfl : m = 8 := by omega
      first | refine gtN rfl (by omega) (by omega) (xN_ge (by omega)) ?_ | refine gtN rfl (by omega) (by omega) (xN_lt (by omega)) ?_ | refine gtN rfl (by omega) (by omega) (xN_eq (by omega)) ?_ | refine gtN rfl (by omega) (by omega) (xN_ne (by omega)) ?_ | refine gtN rfl (by omega) (by omega) (xN_gt (by omega)) ?_ | refine gtN rfl (by omega) (by omega) (xN_le (by omega)) ?_
      exact grv rfl ⟨rfl, B, rfl, hB, hF⟩
    | succ k ih =>
      intro m B x y z u v hm hB hF
      have hm8 : m < 8 := by omega
      have hV := h.aR hF
      have ih' := fun B x y z u v => ih (m + 1) B x y z u v (by omega)
      have eX : rNaA (W 0) (W s) (nI ((101 + th) / 2)) R (m + 1) = rNaS (W 0) (W s) (nI ((101 + th) / 2)) (rNaA (W 0) (W s) (nI ((101 + th) / 2)) R m) m := rfl
      rw [eX] at ih'
      generalize rNaA (W 0) (W s) (nI ((101 + th) / 2)) R m = R1 at *
      have skip : rNaS (W 0) (W s) (nI ((101 + th) / 2)) R1 m = R1 → ∀ x y z u v, xGo (xEx (d + 4)) xtb_110 K (108, [some (.inr (some 52)), some (.inl (nI s)), some (.inl (nI m)), x, y, z, u, v], [], mU σ I B) := by
        intro e x y z u v
        repeat (first | refine gkn rfl rfl ?_ | refine gkm rfl rfl ?_ | refine gad rfl ?_ | refine gml rfl ?_ | refine gsb rfl (by omega) ?_ | refine gdv rfl (by omega) (by omega) (by omega) ?_ | refine grm rfl (by omega) (by omega) (by omega) ?_ | refine gic rfl rfl ?_ | refine gp rfl rfl rfl ?_ | refine gFl rfl (by rfl) ?_ | refine gAl rfl rfl (by rfl) (by omega) ?_ | refine gBl rfl rfl (by rfl) (by omega) ?_)
        exact ih' B _ _ _ _ _ (by rw [e]; exact hB) hF
      have inner : ∀ k i, i + k = 8 → xGo (xEx (d + 4)) xtb_110 K (26, [some (.inr (some 52)), some (.inl (nI s)), some (.inl (nI m)), some (.inl (oI (pOn (rSL (W 0) (W s) R1) m i).1)), some (.inl (oI (pOn (rTL (W 0) (W s) R1) m i).1)), some (.inl (nI (pOn (rSL (W 0) (W s) R1) m i).2)), some (.inl (nI (pOn (rTL (W 0) (W s) R1) m i).2)), some (.inl (nI (m + 8 * i)))], [.inl (nI 64), .inl (nI (m + 8 * i))], mU σ I B) := by
        intro k
        induction k with
        | zero =>
          intro i hi
          obtain rfl : i = 8 := by omega
          have l1 := pOn_le (rSL (W 0) (W s) R1) m 8
          have l2 := pOn_le (rTL (W 0) (W s) R1) m 8
          first | refine gtN rfl (by omega) (by omega) (xN_ge (by omega)) ?_ | refine gtN rfl (by omega) (by omega) (xN_lt (by omega)) ?_ | refine gtN rfl (by omega) (by omega) (xN_eq (by omega)) ?_ | refine gtN rfl (by omega) (by omega) (xN_ne (by omega)) ?_ | refine gtN rfl (by omega) (by omega) (xN_gt (by omega)) ?_ | refine gtN rfl (by omega) (by omega) (xN_le (by omega)) ?_
          repeat (first | refine gkn rfl rfl ?_ | refine gkm rfl rfl ?_ | refine gad rfl ?_ | refine gml rfl ?_ | refine gsb rfl (by omega) ?_ | refine gdv rfl (by omega) (by omega) (by omega) ?_ | refine grm rfl (by omega) (by omega) (by omega) ?_ | refine gic rfl rfl ?_ | refine gp rfl rfl rfl ?_ | refine gFl rfl (by rfl) ?_ | refine gAl rfl rfl (by rfl) (by omega) ?_ | refine gBl rfl rfl (by rfl) (by omega) ?_)
          refine gcN rfl (by omega) (by omega) (fun hne => ?_) (fun heq => ?_)
          · refine skip ?_ _ _ _ _ _
            have e : pOnly (rSL (W 0) (W s) R1) m = none := by unfold pOnly; rw [if_neg hne]
            unfold rNaS
            rw [e]
          · have heq : (pOn (rSL (W 0) (W s) R1) m 8).2 = 1 := by
              by_cases z : (pOn (rSL (W 0) (W s) R1) m 8).2 = 1
              · exact z
              · exact absurd z heq
            obtain ⟨k1, hk1, e1⟩ := (pOn_some (rSL (W 0) (W s) R1) m 8).2 (by omega)
            have f1 : pOnly (rSL (W 0) (W s) R1) m = some (m + 8 * k1) := by unfold pOnly; rw [if_pos heq, e1]
            rw [e1]
            repeat (first | refine gkn rfl rfl ?_ | refine gkm rfl rfl ?_ | refine gad rfl ?_ | refine gml rfl ?_ | refine gsb rfl (by omega) ?_ | refine gdv rfl (by omega) (by omega) (by omega) ?_ | refine grm rfl (by omega) (by omega) (by omega) ?_ | refine gic rfl rfl ?_ | refine gp rfl rfl rfl ?_ | refine gFl rfl (by rfl) ?_ | refine gAl rfl rfl (by rfl) (by omega) ?_ | refine gBl rfl rfl (by rfl) (by omega) ?_)
            refine gcN rfl (by omega) (by omega) (fun hne => ?_) (fun heq2 => ?_)
            · refine skip ?_ _ _ _ _ _
              have e : pOnly (rTL (W 0) (W s) R1) m = none := by unfold pOnly; rw [if_neg hne]
              unfold rNaS
              rw [e, f1]
            · have heq2 : (pOn (rTL (W 0) (W s) R1) m 8).2 = 1 := by
                by_cases z : (pOn (rTL (W 0) (W s) R1) m 8).2 = 1
                · exact z
                · exact absurd z heq2
              obtain ⟨k2, hk2, e2⟩ := (pOn_some (rTL (W 0) (W s) R1) m 8).2 (by omega)
              have f2 : pOnly (rTL (W 0) (W s) R1) m = some (m + 8 * k2) := by unfold pOnly; rw [if_pos heq2, e2]
              rw [e2]
              show xGo (xEx (d + 4)) xtb_110 K (80, [some (.inr (some 52)), some (.inl (nI s)), some (.inl (nI m)), some (.inl (nI (m + 8 * k1))), some (.inl (nI (m + 8 * k2))), some (.inl (nI (pOn (rSL (W 0) (W s) R1) m 8).2)), some (.inl (nI (pOn (rTL (W 0) (W s) R1) m 8).2)), some (.inl (nI (m + 8 * 8)))], [], mU σ I B)
              repeat (first | refine gkn rfl rfl ?_ | refine gkm rfl rfl ?_ | refine gad rfl ?_ | refine gml rfl ?_ | refine gsb rfl (by omega) ?_ | refine gdv rfl (by omega) (by omega) (by omega) ?_ | refine grm rfl (by omega) (by omega) (by omega) ?_ | refine gic rfl rfl ?_ | refine gp rfl rfl rfl ?_ | refine gFl rfl (by rfl) ?_ | refine gAl rfl rfl (by rfl) (by omega) ?_ | refine gBl rfl rfl (by rfl) (by omega) ?_)
              refine gcv (As := [.inl (nI s), .inl (nI (m + 8 * k1)), .inl (nI (m + 8 * k2))]) (rest := []) rfl (by decide) (r_score d hV hs (by omega) (by omega)) (mU_obj _ _ _) rfl rfl (by decide) ?_
              repeat (first | refine gkn rfl rfl ?_ | refine gkm rfl rfl ?_ | refine gad rfl ?_ | refine gml rfl ?_ | refine gsb rfl (by omega) ?_ | refine gdv rfl (by omega) (by omega) (by omega) ?_ | refine grm rfl (by omega) (by omega) (by omega) ?_ | refine gic rfl rfl ?_ | refine gp rfl rfl rfl ?_ | refine gFl rfl (by rfl) ?_ | refine gAl rfl rfl (by rfl) (by omega) ?_ | refine gBl rfl rfl (by rfl) (by omega) ?_)
              rw [hI, nI_add]
              repeat (first | refine gkn rfl rfl ?_ | refine gkm rfl rfl ?_ | refine gad rfl ?_ | refine gml rfl ?_ | refine gsb rfl (by omega) ?_ | refine gdv rfl (by omega) (by omega) (by omega) ?_ | refine grm rfl (by omega) (by omega) (by omega) ?_ | refine gic rfl rfl ?_ | refine gp rfl rfl rfl ?_ | refine gFl rfl (by rfl) ?_ | refine gAl rfl rfl (by rfl) (by omega) ?_ | refine gBl rfl rfl (by rfl) (by omega) ?_)
              refine gcp rfl (fun hlt => ?_) (fun hge => ?_)
              · have hlt : pScore (W 0 (m + 8 * k1)) (W s (m + 8 * k2)) < nI ((101 + th) / 2) := hlt
                refine skip ?_ _ _ _ _ _
                unfold rNaS
                rw [f1, f2]
                simp only
                rw [if_neg (Int32.not_le.mpr hlt)]
              · have hge : ¬ pScore (W 0 (m + 8 * k1)) (W s (m + 8 * k2)) < nI ((101 + th) / 2) := hge
                obtain ⟨B', y1, y2, y3⟩ := r_join (σ := σ) (I := I) (d + 3) (p := m + 8 * k1) (q := m + 8 * k2) hB hs (by omega) (by omega)
                repeat (first | refine gkn rfl rfl ?_ | refine gkm rfl rfl ?_ | refine gad rfl ?_ | refine gml rfl ?_ | refine gsb rfl (by omega) ?_ | refine gdv rfl (by omega) (by omega) (by omega) ?_ | refine grm rfl (by omega) (by omega) (by omega) ?_ | refine gic rfl rfl ?_ | refine gp rfl rfl rfl ?_ | refine gFl rfl (by rfl) ?_ | refine gAl rfl rfl (by rfl) (by omega) ?_ | refine gBl rfl rfl (by rfl) (by omega) ?_)
                refine gcv (As := [.inl (nI s), .inl (nI (m + 8 * k1)), .inl (nI (m + 8 * k2))]) (rest := []) rfl (by decide) y1 (mU_obj _ _ _) rfl rfl (by decide) ?_
                repeat (first | refine gkn rfl rfl ?_ | refine gkm rfl rfl ?_ | refine gad rfl ?_ | refine gml rfl ?_ | refine gsb rfl (by omega) ?_ | refine gdv rfl (by omega) (by omega) (by omega) ?_ | refine grm rfl (by omega) (by omega) (by omega) ?_ | refine gic rfl rfl ?_ | refine gp rfl rfl rfl ?_ | refine gFl rfl (by rfl) ?_ | refine gAl rfl rfl (by rfl) (by omega) ?_ | refine gBl rfl rfl (by rfl) (by omega) ?_)
                refine ih' B' _ _ _ _ _ ?_ (hF.trans y3)
                have e : rNaS (W 0) (W s) (nI ((101 + th) / 2)) R1 m = rJ R1 (m + 8 * k1) (m + 8 * k2) := by
                  unfold rNaS
                  rw [f1, f2]
                  simp only
                  rw [if_pos (Int32.not_lt.mp hge)]
                rw [e]
                exact y2
        | succ k ih2 =>
          intro i hi
          have ih2 := ih2 (i + 1) (by omega)
          rw [pOn_s (rSL (W 0) (W s) R1) m i, pOn_s (rTL (W 0) (W s) R1) m i] at ih2
          first | refine gfN rfl (by omega) (by omega) (nN_ge (by omega)) ?_ | refine gfN rfl (by omega) (by omega) (nN_lt (by omega)) ?_ | refine gfN rfl (by omega) (by omega) (nN_eq (by omega)) ?_ | refine gfN rfl (by omega) (by omega) (nN_ne (by omega)) ?_ | refine gfN rfl (by omega) (by omega) (nN_gt (by omega)) ?_ | refine gfN rfl (by omega) (by omega) (nN_le (by omega)) ?_
          repeat (first | refine gkn rfl rfl ?_ | refine gkm rfl rfl ?_ | refine gad rfl ?_ | refine gml rfl ?_ | refine gsb rfl (by omega) ?_ | refine gdv rfl (by omega) (by omega) (by omega) ?_ | refine grm rfl (by omega) (by omega) (by omega) ?_ | refine gic rfl rfl ?_ | refine gp rfl rfl rfl ?_ | refine gFl rfl (by rfl) ?_ | refine gAl rfl rfl (by rfl) (by omega) ?_ | refine gBl rfl rfl (by rfl) (by omega) ?_)
          refine gcv (As := [.inl (nI s), .inl (nI (m + 8 * i))]) (rest := []) rfl (by decide) (r_sourceLeft (d + 2) hV hB hs (show m + 8 * i < 64 by omega)) (mU_obj _ _ _) rfl rfl (by decide) ?_
          refine gbe rfl (fun hz => ?_) (fun hz => ?_)
          · rw [hz] at ih2
            repeat (first | refine gkn rfl rfl ?_ | refine gkm rfl rfl ?_ | refine gad rfl ?_ | refine gml rfl ?_ | refine gsb rfl (by omega) ?_ | refine gdv rfl (by omega) (by omega) (by omega) ?_ | refine grm rfl (by omega) (by omega) (by omega) ?_ | refine gic rfl rfl ?_ | refine gp rfl rfl rfl ?_ | refine gFl rfl (by rfl) ?_ | refine gAl rfl rfl (by rfl) (by omega) ?_ | refine gBl rfl rfl (by rfl) (by omega) ?_)
            refine gcv (As := [.inl (nI s), .inl (nI (m + 8 * i))]) (rest := []) rfl (by decide) (r_targetLeft (d + 2) hV hB hs (show m + 8 * i < 64 by omega)) (mU_obj _ _ _) rfl rfl (by decide) ?_
            refine gbe rfl (fun hz2 => ?_) (fun hz2 => ?_)
            · rw [hz2] at ih2
              repeat (first | refine gkn rfl rfl ?_ | refine gkm rfl rfl ?_ | refine gad rfl ?_ | refine gml rfl ?_ | refine gsb rfl (by omega) ?_ | refine gdv rfl (by omega) (by omega) (by omega) ?_ | refine grm rfl (by omega) (by omega) (by omega) ?_ | refine gic rfl rfl ?_ | refine gp rfl rfl rfl ?_ | refine gFl rfl (by rfl) ?_ | refine gAl rfl rfl (by rfl) (by omega) ?_ | refine gBl rfl rfl (by rfl) (by omega) ?_)
              exact ih2
            · rw [hz2] at ih2
              repeat (first | refine gkn rfl rfl ?_ | refine gkm rfl rfl ?_ | refine gad rfl ?_ | refine gml rfl ?_ | refine gsb rfl (by omega) ?_ | refine gdv rfl (by omega) (by omega) (by omega) ?_ | refine grm rfl (by omega) (by omega) (by omega) ?_ | refine gic rfl rfl ?_ | refine gp rfl rfl rfl ?_ | refine gFl rfl (by rfl) ?_ | refine gAl rfl rfl (by rfl) (by omega) ?_ | refine gBl rfl rfl (by rfl) (by omega) ?_)
              exact ih2
          · rw [hz] at ih2
            repeat (first | refine gkn rfl rfl ?_ | refine gkm rfl rfl ?_ | refine gad rfl ?_ | refine gml rfl ?_ | refine gsb rfl (by omega) ?_ | refine gdv rfl (by omega) (by omega) (by omega) ?_ | refine grm rfl (by omega) (by omega) (by omega) ?_ | refine gic rfl rfl ?_ | refine gp rfl rfl rfl ?_ | refine gFl rfl (by rfl) ?_ | refine gAl rfl rfl (by rfl) (by omega) ?_ | refine gBl rfl rfl (by rfl) (by omega) ?_)
            refine gcv (As := [.inl (nI s), .inl (nI (m + 8 * i))]) (rest := []) rfl (by decide) (r_targetLeft (d + 2) hV hB hs (show m + 8 * i < 64 by omega)) (mU_obj _ _ _) rfl rfl (by decide) ?_
            refine gbe rfl (fun hz2 => ?_) (fun hz2 => ?_)
            · rw [hz2] at ih2
              repeat (first | refine gkn rfl rfl ?_ | refine gkm rfl rfl ?_ | refine gad rfl ?_ | refine gml rfl ?_ | refine gsb rfl (by omega) ?_ | refine gdv rfl (by omega) (by omega) (by omega) ?_ | refine grm rfl (by omega) (by omega) (by omega) ?_ | refine gic rfl rfl ?_ | refine gp rfl rfl rfl ?_ | refine gFl rfl (by rfl) ?_ | refine gAl rfl rfl (by rfl) (by omega) ?_ | refine gBl rfl rfl (by rfl) (by omega) ?_)
              exact ih2
            · rw [hz2] at ih2
              repeat (first | refine gkn rfl rfl ?_ | refine gkm rfl rfl ?_ | refine gad rfl ?_ | refine gml rfl ?_ | refine gsb rfl (by omega) ?_ | refine gdv rfl (by omega) (by omega) (by omega) ?_ | refine grm rfl (by omega) (by omega) (by omega) ?_ | refine gic rfl rfl ?_ | refine gp rfl rfl rfl ?_ | refine gFl rfl (by rfl) ?_ | refine gAl rfl rfl (by rfl) (by omega) ?_ | refine gBl rfl rfl (by rfl) (by omega) ?_)
              exact ih2
      first | refine gfN rfl (by omega) (by omega) (nN_ge (by omega)) ?_ | refine gfN rfl (by omega) (by omega) (nN_lt (by omega)) ?_ | refine gfN rfl (by omega) (by omega) (nN_eq (by omega)) ?_ | refine gfN rfl (by omega) (by omega) (nN_ne (by omega)) ?_ | refine gfN rfl (by omega) (by omega) (nN_gt (by omega)) ?_ | refine gfN rfl (by omega) (by omega) (nN_le (by omega)) ?_
      repeat (first | refine gkn rfl rfl ?_ | refine gkm rfl rfl ?_ | refine gad rfl ?_ | refine gml rfl ?_ | refine gsb rfl (by omega) ?_ | refine gdv rfl (by omega) (by omega) (by omega) ?_ | refine grm rfl (by omega) (by omega) (by omega) ?_ | refine gic rfl rfl ?_ | refine gp rfl rfl rfl ?_ | refine gFl rfl (by rfl) ?_ | refine gAl rfl rfl (by rfl) (by omega) ?_ | refine gBl rfl rfl (by rfl) (by omega) ?_)
      exact inner 8 0 rfl
  have main : xGo (xEx (d + 4)) xtb_110 K (0, [some (.inr (some 52)), some (.inl (nI s)), none, none, none, none, none, none], [], mU σ I A) := by
    repeat (first | refine gkn rfl rfl ?_ | refine gkm rfl rfl ?_ | refine gad rfl ?_ | refine gml rfl ?_ | refine gsb rfl (by omega) ?_ | refine gdv rfl (by omega) (by omega) (by omega) ?_ | refine grm rfl (by omega) (by omega) (by omega) ?_ | refine gic rfl rfl ?_ | refine gp rfl rfl rfl ?_ | refine gFl rfl (by rfl) ?_ | refine gAl rfl rfl (by rfl) (by omega) ?_ | refine gBl rfl rfl (by rfl) (by omega) ?_)
    exact outer 8 0 A none none none none none rfl hR (aR.refl _ _)
  obtain ⟨r, σ', hex, rfl, A', rfl, g⟩ := ex_of (d := d + 4) (y := 110) (as := [.inr (some 52), .inl (nI s)]) (σ := mU σ I A) (K := K) (by decide) rfl main
  exact ⟨A', hex, g⟩
theorem r_leftsS (d : Nat) {R : pR} (h : mV A W) (hR : mR A s R) (hs : s = 1 ∨ s = 2) : xEx (d + 3) 111 [.inr (some 52), .inl (nI s), .inl (nI 1)] (mU σ I A) (some (.inl (nI (pCnt (rSL (W 0) (W s) R) 64)))) (mU σ I A) := by
  refine ⟨by decide, rfl, ?_⟩
  show xGo (xEx (d + 2)) xtb_111 _ (0, [some (.inr (some 52)), some (.inl (nI s)), some (.inl (nI 1)), none, none], [], mU σ I A)
  have loop : ∀ k i, i + k = 64 → xGo (xEx (d + 2)) xtb_111 (fun r0 σ0 => r0 = some (.inl (nI (pCnt (rSL (W 0) (W s) R) 64))) ∧ σ0 = mU σ I A) (9, [some (.inr (some 52)), some (.inl (nI s)), some (.inl (nI 1)), some (.inl (nI (pCnt (rSL (W 0) (W s) R) i))), some (.inl (nI i))], [.inl (nI 64), .inl (nI i)], mU σ I A) := by
    intro k
    induction k with
    | zero =>
      intro i hi
      obtain rfl : i = 64 := by omega
      first | refine gtN rfl (by omega) (by omega) (xN_ge (by omega)) ?_ | refine gtN rfl (by omega) (by omega) (xN_lt (by omega)) ?_ | refine gtN rfl (by omega) (by omega) (xN_eq (by omega)) ?_ | refine gtN rfl (by omega) (by omega) (xN_ne (by omega)) ?_ | refine gtN rfl (by omega) (by omega) (xN_gt (by omega)) ?_ | refine gtN rfl (by omega) (by omega) (xN_le (by omega)) ?_
      repeat (first | refine gkn rfl rfl ?_ | refine gkm rfl rfl ?_ | refine gad rfl ?_ | refine gml rfl ?_ | refine gsb rfl (by omega) ?_ | refine gdv rfl (by omega) (by omega) (by omega) ?_ | refine grm rfl (by omega) (by omega) (by omega) ?_ | refine gic rfl rfl ?_ | refine gp rfl rfl rfl ?_ | refine gFl rfl (by rfl) ?_ | refine gAl rfl rfl (by rfl) (by omega) ?_ | refine gBl rfl rfl (by rfl) (by omega) ?_)
      exact gri rfl (fun h => absurd h (by decide)) ⟨rfl, rfl⟩
    | succ k ih =>
      intro i hi
      have ih' := ih (i + 1) (by omega)
      rw [pCnt_s _ i] at ih'
      first | refine gfN rfl (by omega) (by omega) (nN_ge (by omega)) ?_ | refine gfN rfl (by omega) (by omega) (nN_lt (by omega)) ?_ | refine gfN rfl (by omega) (by omega) (nN_eq (by omega)) ?_ | refine gfN rfl (by omega) (by omega) (nN_ne (by omega)) ?_ | refine gfN rfl (by omega) (by omega) (nN_gt (by omega)) ?_ | refine gfN rfl (by omega) (by omega) (nN_le (by omega)) ?_
      repeat (first | refine gkn rfl rfl ?_ | refine gkm rfl rfl ?_ | refine gad rfl ?_ | refine gml rfl ?_ | refine gsb rfl (by omega) ?_ | refine gdv rfl (by omega) (by omega) (by omega) ?_ | refine grm rfl (by omega) (by omega) (by omega) ?_ | refine gic rfl rfl ?_ | refine gp rfl rfl rfl ?_ | refine gFl rfl (by rfl) ?_ | refine gAl rfl rfl (by rfl) (by omega) ?_ | refine gBl rfl rfl (by rfl) (by omega) ?_)
      first | refine gf0 rfl (by omega) (nN_ge (by omega)) ?_ | refine gf0 rfl (by omega) (nN_lt (by omega)) ?_ | refine gf0 rfl (by omega) (nN_eq (by omega)) ?_ | refine gf0 rfl (by omega) (nN_ne (by omega)) ?_ | refine gf0 rfl (by omega) (nN_gt (by omega)) ?_ | refine gf0 rfl (by omega) (nN_le (by omega)) ?_
      repeat (first | refine gkn rfl rfl ?_ | refine gkm rfl rfl ?_ | refine gad rfl ?_ | refine gml rfl ?_ | refine gsb rfl (by omega) ?_ | refine gdv rfl (by omega) (by omega) (by omega) ?_ | refine grm rfl (by omega) (by omega) (by omega) ?_ | refine gic rfl rfl ?_ | refine gp rfl rfl rfl ?_ | refine gFl rfl (by rfl) ?_ | refine gAl rfl rfl (by rfl) (by omega) ?_ | refine gBl rfl rfl (by rfl) (by omega) ?_)
      refine gcv (As := [.inl (nI s), .inl (nI i)]) (rest := []) rfl (by decide) (r_sourceLeft d h hR hs (show i < 64 by omega)) (mU_obj _ _ _) rfl rfl (by decide) ?_
      refine gbe rfl (fun hz => ?_) (fun hz => ?_)
      · rw [hz] at ih'
        repeat (first | refine gkn rfl rfl ?_ | refine gkm rfl rfl ?_ | refine gad rfl ?_ | refine gml rfl ?_ | refine gsb rfl (by omega) ?_ | refine gdv rfl (by omega) (by omega) (by omega) ?_ | refine grm rfl (by omega) (by omega) (by omega) ?_ | refine gic rfl rfl ?_ | refine gp rfl rfl rfl ?_ | refine gFl rfl (by rfl) ?_ | refine gAl rfl rfl (by rfl) (by omega) ?_ | refine gBl rfl rfl (by rfl) (by omega) ?_)
        exact ih'
      · rw [hz] at ih'
        repeat (first | refine gkn rfl rfl ?_ | refine gkm rfl rfl ?_ | refine gad rfl ?_ | refine gml rfl ?_ | refine gsb rfl (by omega) ?_ | refine gdv rfl (by omega) (by omega) (by omega) ?_ | refine grm rfl (by omega) (by omega) (by omega) ?_ | refine gic rfl rfl ?_ | refine gp rfl rfl rfl ?_ | refine gFl rfl (by rfl) ?_ | refine gAl rfl rfl (by rfl) (by omega) ?_ | refine gBl rfl rfl (by rfl) (by omega) ?_)
        exact ih'
  repeat (first | refine gkn rfl rfl ?_ | refine gkm rfl rfl ?_ | refine gad rfl ?_ | refine gml rfl ?_ | refine gsb rfl (by omega) ?_ | refine gdv rfl (by omega) (by omega) (by omega) ?_ | refine grm rfl (by omega) (by omega) (by omega) ?_ | refine gic rfl rfl ?_ | refine gp rfl rfl rfl ?_ | refine gFl rfl (by rfl) ?_ | refine gAl rfl rfl (by rfl) (by omega) ?_ | refine gBl rfl rfl (by rfl) (by omega) ?_)
  exact loop 64 0 rfl
theorem r_leftsT (d : Nat) {R : pR} (h : mV A W) (hR : mR A s R) (hs : s = 1 ∨ s = 2) : xEx (d + 3) 111 [.inr (some 52), .inl (nI s), .inl (nI 0)] (mU σ I A) (some (.inl (nI (pCnt (rTL (W 0) (W s) R) 64)))) (mU σ I A) := by
  refine ⟨by decide, rfl, ?_⟩
  show xGo (xEx (d + 2)) xtb_111 _ (0, [some (.inr (some 52)), some (.inl (nI s)), some (.inl (nI 0)), none, none], [], mU σ I A)
  have loop : ∀ k i, i + k = 64 → xGo (xEx (d + 2)) xtb_111 (fun r0 σ0 => r0 = some (.inl (nI (pCnt (rTL (W 0) (W s) R) 64))) ∧ σ0 = mU σ I A) (9, [some (.inr (some 52)), some (.inl (nI s)), some (.inl (nI 0)), some (.inl (nI (pCnt (rTL (W 0) (W s) R) i))), some (.inl (nI i))], [.inl (nI 64), .inl (nI i)], mU σ I A) := by
    intro k
    induction k with
    | zero =>
      intro i hi
      obtain rfl : i = 64 := by omega
      first | refine gtN rfl (by omega) (by omega) (xN_ge (by omega)) ?_ | refine gtN rfl (by omega) (by omega) (xN_lt (by omega)) ?_ | refine gtN rfl (by omega) (by omega) (xN_eq (by omega)) ?_ | refine gtN rfl (by omega) (by omega) (xN_ne (by omega)) ?_ | refine gtN rfl (by omega) (by omega) (xN_gt (by omega)) ?_ | refine gtN rfl (by omega) (by omega) (xN_le (by omega)) ?_
      repeat (first | refine gkn rfl rfl ?_ | refine gkm rfl rfl ?_ | refine gad rfl ?_ | refine gml rfl ?_ | refine gsb rfl (by omega) ?_ | refine gdv rfl (by omega) (by omega) (by omega) ?_ | refine grm rfl (by omega) (by omega) (by omega) ?_ | refine gic rfl rfl ?_ | refine gp rfl rfl rfl ?_ | refine gFl rfl (by rfl) ?_ | refine gAl rfl rfl (by rfl) (by omega) ?_ | refine gBl rfl rfl (by rfl) (by omega) ?_)
      exact gri rfl (fun h => absurd h (by decide)) ⟨rfl, rfl⟩
    | succ k ih =>
      intro i hi
      have ih' := ih (i + 1) (by omega)
      rw [pCnt_s _ i] at ih'
      first | refine gfN rfl (by omega) (by omega) (nN_ge (by omega)) ?_ | refine gfN rfl (by omega) (by omega) (nN_lt (by omega)) ?_ | refine gfN rfl (by omega) (by omega) (nN_eq (by omega)) ?_ | refine gfN rfl (by omega) (by omega) (nN_ne (by omega)) ?_ | refine gfN rfl (by omega) (by omega) (nN_gt (by omega)) ?_ | refine gfN rfl (by omega) (by omega) (nN_le (by omega)) ?_
      repeat (first | refine gkn rfl rfl ?_ | refine gkm rfl rfl ?_ | refine gad rfl ?_ | refine gml rfl ?_ | refine gsb rfl (by omega) ?_ | refine gdv rfl (by omega) (by omega) (by omega) ?_ | refine grm rfl (by omega) (by omega) (by omega) ?_ | refine gic rfl rfl ?_ | refine gp rfl rfl rfl ?_ | refine gFl rfl (by rfl) ?_ | refine gAl rfl rfl (by rfl) (by omega) ?_ | refine gBl rfl rfl (by rfl) (by omega) ?_)
      first | refine gt0 rfl (by omega) (xN_ge (by omega)) ?_ | refine gt0 rfl (by omega) (xN_lt (by omega)) ?_ | refine gt0 rfl (by omega) (xN_eq (by omega)) ?_ | refine gt0 rfl (by omega) (xN_ne (by omega)) ?_ | refine gt0 rfl (by omega) (xN_gt (by omega)) ?_ | refine gt0 rfl (by omega) (xN_le (by omega)) ?_
      repeat (first | refine gkn rfl rfl ?_ | refine gkm rfl rfl ?_ | refine gad rfl ?_ | refine gml rfl ?_ | refine gsb rfl (by omega) ?_ | refine gdv rfl (by omega) (by omega) (by omega) ?_ | refine grm rfl (by omega) (by omega) (by omega) ?_ | refine gic rfl rfl ?_ | refine gp rfl rfl rfl ?_ | refine gFl rfl (by rfl) ?_ | refine gAl rfl rfl (by rfl) (by omega) ?_ | refine gBl rfl rfl (by rfl) (by omega) ?_)
      refine gcv (As := [.inl (nI s), .inl (nI i)]) (rest := []) rfl (by decide) (r_targetLeft d h hR hs (show i < 64 by omega)) (mU_obj _ _ _) rfl rfl (by decide) ?_
      refine gbe rfl (fun hz => ?_) (fun hz => ?_)
      · rw [hz] at ih'
        repeat (first | refine gkn rfl rfl ?_ | refine gkm rfl rfl ?_ | refine gad rfl ?_ | refine gml rfl ?_ | refine gsb rfl (by omega) ?_ | refine gdv rfl (by omega) (by omega) (by omega) ?_ | refine grm rfl (by omega) (by omega) (by omega) ?_ | refine gic rfl rfl ?_ | refine gp rfl rfl rfl ?_ | refine gFl rfl (by rfl) ?_ | refine gAl rfl rfl (by rfl) (by omega) ?_ | refine gBl rfl rfl (by rfl) (by omega) ?_)
        exact ih'
      · rw [hz] at ih'
        repeat (first | refine gkn rfl rfl ?_ | refine gkm rfl rfl ?_ | refine gad rfl ?_ | refine gml rfl ?_ | refine gsb rfl (by omega) ?_ | refine gdv rfl (by omega) (by omega) (by omega) ?_ | refine grm rfl (by omega) (by omega) (by omega) ?_ | refine gic rfl rfl ?_ | refine gp rfl rfl rfl ?_ | refine gFl rfl (by rfl) ?_ | refine gAl rfl rfl (by rfl) (by omega) ?_ | refine gBl rfl rfl (by rfl) (by omega) ?_)
        exact ih'
  repeat (first | refine gkn rfl rfl ?_ | refine gkm rfl rfl ?_ | refine gad rfl ?_ | refine gml rfl ?_ | refine gsb rfl (by omega) ?_ | refine gdv rfl (by omega) (by omega) (by omega) ?_ | refine grm rfl (by omega) (by omega) (by omega) ?_ | refine gic rfl rfl ?_ | refine gp rfl rfl rfl ?_ | refine gFl rfl (by rfl) ?_ | refine gAl rfl rfl (by rfl) (by omega) ?_ | refine gBl rfl rfl (by rfl) (by omega) ?_)
  exact loop 64 0 rfl
theorem r_bestLeft (d : Nat) {R : pR} (h : mV A W) (hR : mR A s R) (hs : s = 1 ∨ s = 2) (hI : I 0 = nI th) (h1 : 1 ≤ th) (hth : th ≤ 100) : xEx (d + 5) 112 [.inr (some 52), .inl (nI s)] (mU σ I A) (some (.inl (bE (rBp (W 0) (W s) (nI th) R 64).2))) (mU σ I A) := by
  refine ⟨by decide, rfl, ?_⟩
  show xGo (xEx (d + 4)) xtb_112 _ (0, [some (.inr (some 52)), some (.inl (nI s)), none, none, none, none, none, none], [], mU σ I A)
  have outer : ∀ k p (x y z : Option xV), p + k = 64 → xGo (xEx (d + 4)) xtb_112 (fun r0 σ0 => r0 = some (.inl (bE (rBp (W 0) (W s) (nI th) R 64).2)) ∧ σ0 = mU σ I A) (11, [some (.inr (some 52)), some (.inl (nI s)), some (.inl (bE (rBp (W 0) (W s) (nI th) R p).2)), some (.inl (rBp (W 0) (W s) (nI th) R p).1), some (.inl (nI p)), x, y, z], [.inl (nI 64), .inl (nI p)], mU σ I A) := by
    intro k
    induction k with
    | zero =>
      intro p x y z hp
      obtain rfl : p = 64 := by omega
      first | refine gtN rfl (by omega) (by omega) (xN_ge (by omega)) ?_ | refine gtN rfl (by omega) (by omega) (xN_lt (by omega)) ?_ | refine gtN rfl (by omega) (by omega) (xN_eq (by omega)) ?_ | refine gtN rfl (by omega) (by omega) (xN_ne (by omega)) ?_ | refine gtN rfl (by omega) (by omega) (xN_gt (by omega)) ?_ | refine gtN rfl (by omega) (by omega) (xN_le (by omega)) ?_
      repeat (first | refine gkn rfl rfl ?_ | refine gkm rfl rfl ?_ | refine gad rfl ?_ | refine gml rfl ?_ | refine gsb rfl (by omega) ?_ | refine gdv rfl (by omega) (by omega) (by omega) ?_ | refine grm rfl (by omega) (by omega) (by omega) ?_ | refine gic rfl rfl ?_ | refine gp rfl rfl rfl ?_ | refine gFl rfl (by rfl) ?_ | refine gAl rfl rfl (by rfl) (by omega) ?_ | refine gBl rfl rfl (by rfl) (by omega) ?_)
      exact gri rfl (fun h => absurd h (by decide)) ⟨rfl, rfl⟩
    | succ k ih =>
      intro p x y z hp
      have hp64 : p < 64 := by omega
      have ih' := fun x y z => ih (p + 1) x y z (by omega)
      have eB : rBp (W 0) (W s) (nI th) R (p + 1) = if rSL (W 0) (W s) R p then rBr (W 0) (W s) (nI th) R p (rBp (W 0) (W s) (nI th) R p) 64 else rBp (W 0) (W s) (nI th) R p := rfl
      rw [eB] at ih'
      generalize hb0 : rBp (W 0) (W s) (nI th) R p = b0 at ih' ⊢
      cases hsl : rSL (W 0) (W s) R p with
      | false =>
        rw [hsl] at ih'
        first | refine gfN rfl (by omega) (by omega) (nN_ge (by omega)) ?_ | refine gfN rfl (by omega) (by omega) (nN_lt (by omega)) ?_ | refine gfN rfl (by omega) (by omega) (nN_eq (by omega)) ?_ | refine gfN rfl (by omega) (by omega) (nN_ne (by omega)) ?_ | refine gfN rfl (by omega) (by omega) (nN_gt (by omega)) ?_ | refine gfN rfl (by omega) (by omega) (nN_le (by omega)) ?_
        repeat (first | refine gkn rfl rfl ?_ | refine gkm rfl rfl ?_ | refine gad rfl ?_ | refine gml rfl ?_ | refine gsb rfl (by omega) ?_ | refine gdv rfl (by omega) (by omega) (by omega) ?_ | refine grm rfl (by omega) (by omega) (by omega) ?_ | refine gic rfl rfl ?_ | refine gp rfl rfl rfl ?_ | refine gFl rfl (by rfl) ?_ | refine gAl rfl rfl (by rfl) (by omega) ?_ | refine gBl rfl rfl (by rfl) (by omega) ?_)
        first | refine gfN rfl (by omega) (by omega) (nN_ge (by omega)) ?_ | refine gfN rfl (by omega) (by omega) (nN_lt (by omega)) ?_ | refine gfN rfl (by omega) (by omega) (nN_eq (by omega)) ?_ | refine gfN rfl (by omega) (by omega) (nN_ne (by omega)) ?_ | refine gfN rfl (by omega) (by omega) (nN_gt (by omega)) ?_ | refine gfN rfl (by omega) (by omega) (nN_le (by omega)) ?_
        repeat (first | refine gkn rfl rfl ?_ | refine gkm rfl rfl ?_ | refine gad rfl ?_ | refine gml rfl ?_ | refine gsb rfl (by omega) ?_ | refine gdv rfl (by omega) (by omega) (by omega) ?_ | refine grm rfl (by omega) (by omega) (by omega) ?_ | refine gic rfl rfl ?_ | refine gp rfl rfl rfl ?_ | refine gFl rfl (by rfl) ?_ | refine gAl rfl rfl (by rfl) (by omega) ?_ | refine gBl rfl rfl (by rfl) (by omega) ?_)
        refine gcv (As := [.inl (nI s), .inl (nI p)]) (rest := []) rfl (by decide) (r_sourceLeft (d + 2) h hR hs hp64) (mU_obj _ _ _) rfl rfl (by decide) ?_
        refine gbe rfl (fun hz => ?_) (fun hz => by rw [hsl] at hz; cases hz)
        repeat (first | refine gkn rfl rfl ?_ | refine gkm rfl rfl ?_ | refine gad rfl ?_ | refine gml rfl ?_ | refine gsb rfl (by omega) ?_ | refine gdv rfl (by omega) (by omega) (by omega) ?_ | refine grm rfl (by omega) (by omega) (by omega) ?_ | refine gic rfl rfl ?_ | refine gp rfl rfl rfl ?_ | refine gFl rfl (by rfl) ?_ | refine gAl rfl rfl (by rfl) (by omega) ?_ | refine gBl rfl rfl (by rfl) (by omega) ?_)
        exact ih' _ _ _
      | true =>
        rw [hsl] at ih'
        have inner : ∀ k q (y z : Option xV), q + k = 64 → xGo (xEx (d + 4)) xtb_112 (fun r0 σ0 => r0 = some (.inl (bE (rBp (W 0) (W s) (nI th) R 64).2)) ∧ σ0 = mU σ I A) (21, [some (.inr (some 52)), some (.inl (nI s)), some (.inl (bE (rBr (W 0) (W s) (nI th) R p b0 q).2)), some (.inl (rBr (W 0) (W s) (nI th) R p b0 q).1), some (.inl (nI p)), some (.inl (nI q)), y, z], [.inl (nI 64), .inl (nI q)], mU σ I A) := by
          intro k
          induction k with
          | zero =>
            intro q y z hq
            obtain rfl : q = 64 := by omega
            first | refine gtN rfl (by omega) (by omega) (xN_ge (by omega)) ?_ | refine gtN rfl (by omega) (by omega) (xN_lt (by omega)) ?_ | refine gtN rfl (by omega) (by omega) (xN_eq (by omega)) ?_ | refine gtN rfl (by omega) (by omega) (xN_ne (by omega)) ?_ | refine gtN rfl (by omega) (by omega) (xN_gt (by omega)) ?_ | refine gtN rfl (by omega) (by omega) (xN_le (by omega)) ?_
            repeat (first | refine gkn rfl rfl ?_ | refine gkm rfl rfl ?_ | refine gad rfl ?_ | refine gml rfl ?_ | refine gsb rfl (by omega) ?_ | refine gdv rfl (by omega) (by omega) (by omega) ?_ | refine grm rfl (by omega) (by omega) (by omega) ?_ | refine gic rfl rfl ?_ | refine gp rfl rfl rfl ?_ | refine gFl rfl (by rfl) ?_ | refine gAl rfl rfl (by rfl) (by omega) ?_ | refine gBl rfl rfl (by rfl) (by omega) ?_)
            exact ih' _ _ _
          | succ k ih2 =>
            intro q y z hq
            have hq64 : q < 64 := by omega
            have ih2 := fun y z => ih2 (q + 1) y z (by omega)
            have eQ : rBr (W 0) (W s) (nI th) R p b0 (q + 1) = rBq (W 0) (W s) (nI th) R p (rBr (W 0) (W s) (nI th) R p b0 q) q := rfl
            rw [eQ] at ih2
            generalize rBr (W 0) (W s) (nI th) R p b0 q = b at ih2 ⊢
            have fin : ∀ v : Int32, rBq (W 0) (W s) (nI th) R p b q = (if nI th ≤ v ∧ b.1 < nI 2 * v + (if p % 8 = q % 8 then 1 else 0) then (nI 2 * v + (if p % 8 = q % 8 then 1 else 0), some (p, q)) else b) → xGo (xEx (d + 4)) xtb_112 (fun r0 σ0 => r0 = some (.inl (bE (rBp (W 0) (W s) (nI th) R 64).2)) ∧ σ0 = mU σ I A) (57, [some (.inr (some 52)), some (.inl (nI s)), some (.inl (bE b.2)), some (.inl b.1), some (.inl (nI p)), some (.inl (nI q)), y, z], [.inl v], mU σ I A) := by
              intro v hv
              have bit : ∀ u : Int32, u = (if p % 8 = q % 8 then 1 else 0) → xGo (xEx (d + 4)) xtb_112 (fun r0 σ0 => r0 = some (.inl (bE (rBp (W 0) (W s) (nI th) R 64).2)) ∧ σ0 = mU σ I A) (81, [some (.inr (some 52)), some (.inl (nI s)), some (.inl (bE b.2)), some (.inl b.1), some (.inl (nI p)), some (.inl (nI q)), some (.inl v), z], [.inl u, .inl (nI 2 * v)], mU σ I A) := by
                intro u hu
                rw [← hu] at hv
                refine gp rfl rfl rfl ?_
                refine gp rfl rfl rfl ?_
                refine gp rfl rfl rfl ?_
                repeat (first | refine gkn rfl rfl ?_ | refine gkm rfl rfl ?_ | refine gad rfl ?_ | refine gml rfl ?_ | refine gsb rfl (by omega) ?_ | refine gdv rfl (by omega) (by omega) (by omega) ?_ | refine grm rfl (by omega) (by omega) (by omega) ?_ | refine gic rfl rfl ?_ | refine gp rfl rfl rfl ?_ | refine gFl rfl (by rfl) ?_ | refine gAl rfl rfl (by rfl) (by omega) ?_ | refine gBl rfl rfl (by rfl) (by omega) ?_)
                rw [hI]
                refine gcp rfl (fun hlt => ?_) (fun hge => ?_)
                · have hlt : v < nI th := hlt
                  rw [if_neg (fun q => Int32.not_le.mpr hlt q.1)] at hv
                  rw [hv] at ih2
                  repeat (first | refine gkn rfl rfl ?_ | refine gkm rfl rfl ?_ | refine gad rfl ?_ | refine gml rfl ?_ | refine gsb rfl (by omega) ?_ | refine gdv rfl (by omega) (by omega) (by omega) ?_ | refine grm rfl (by omega) (by omega) (by omega) ?_ | refine gic rfl rfl ?_ | refine gp rfl rfl rfl ?_ | refine gFl rfl (by rfl) ?_ | refine gAl rfl rfl (by rfl) (by omega) ?_ | refine gBl rfl rfl (by rfl) (by omega) ?_)
                  exact ih2 _ _
                · have hge : ¬ v < nI th := hge
                  refine gp rfl rfl rfl ?_
                  refine gp rfl rfl rfl ?_
                  refine gcp rfl (fun hle => ?_) (fun hgt => ?_)
                  · have hle : nI 2 * v + u ≤ b.1 := hle
                    rw [if_neg (fun q => Int32.not_lt.mpr hle q.2)] at hv
                    rw [hv] at ih2
                    repeat (first | refine gkn rfl rfl ?_ | refine gkm rfl rfl ?_ | refine gad rfl ?_ | refine gml rfl ?_ | refine gsb rfl (by omega) ?_ | refine gdv rfl (by omega) (by omega) (by omega) ?_ | refine grm rfl (by omega) (by omega) (by omega) ?_ | refine gic rfl rfl ?_ | refine gp rfl rfl rfl ?_ | refine gFl rfl (by rfl) ?_ | refine gAl rfl rfl (by rfl) (by omega) ?_ | refine gBl rfl rfl (by rfl) (by omega) ?_)
                    exact ih2 _ _
                  · have hgt : ¬ nI 2 * v + u ≤ b.1 := hgt
                    rw [if_pos ⟨Int32.not_lt.mp hge, Int32.not_le.mp hgt⟩] at hv
                    rw [hv] at ih2
                    repeat (first | refine gkn rfl rfl ?_ | refine gkm rfl rfl ?_ | refine gad rfl ?_ | refine gml rfl ?_ | refine gsb rfl (by omega) ?_ | refine gdv rfl (by omega) (by omega) (by omega) ?_ | refine grm rfl (by omega) (by omega) (by omega) ?_ | refine gic rfl rfl ?_ | refine gp rfl rfl rfl ?_ | refine gFl rfl (by rfl) ?_ | refine gAl rfl rfl (by rfl) (by omega) ?_ | refine gBl rfl rfl (by rfl) (by omega) ?_)
                    exact ih2 _ _
              refine gp rfl rfl rfl ?_
              refine gkn rfl rfl ?_
              refine gp rfl rfl rfl ?_
              refine gp rfl rfl rfl ?_
              repeat (first | refine gkn rfl rfl ?_ | refine gkm rfl rfl ?_ | refine gad rfl ?_ | refine gml rfl ?_ | refine gsb rfl (by omega) ?_ | refine gdv rfl (by omega) (by omega) (by omega) ?_ | refine grm rfl (by omega) (by omega) (by omega) ?_ | refine gic rfl rfl ?_ | refine gp rfl rfl rfl ?_ | refine gFl rfl (by rfl) ?_ | refine gAl rfl rfl (by rfl) (by omega) ?_ | refine gBl rfl rfl (by rfl) (by omega) ?_)
              refine gcN rfl (by omega) (by omega) (fun hne => ?_) (fun heq => ?_)
              · have hne : ¬ p % 8 = q % 8 := hne
                refine gkn rfl rfl ?_
                exact bit (nI 0) (by rw [if_neg hne]; rfl)
              · have heq : p % 8 = q % 8 := by
                  by_cases z : p % 8 = q % 8
                  · exact z
                  · exact absurd z heq
                refine gkn rfl rfl ?_
                refine gp rfl rfl rfl ?_
                exact bit (nI 1) (by rw [if_pos heq]; rfl)
            first | refine gfN rfl (by omega) (by omega) (nN_ge (by omega)) ?_ | refine gfN rfl (by omega) (by omega) (nN_lt (by omega)) ?_ | refine gfN rfl (by omega) (by omega) (nN_eq (by omega)) ?_ | refine gfN rfl (by omega) (by omega) (nN_ne (by omega)) ?_ | refine gfN rfl (by omega) (by omega) (nN_gt (by omega)) ?_ | refine gfN rfl (by omega) (by omega) (nN_le (by omega)) ?_
            repeat (first | refine gkn rfl rfl ?_ | refine gkm rfl rfl ?_ | refine gad rfl ?_ | refine gml rfl ?_ | refine gsb rfl (by omega) ?_ | refine gdv rfl (by omega) (by omega) (by omega) ?_ | refine grm rfl (by omega) (by omega) (by omega) ?_ | refine gic rfl rfl ?_ | refine gp rfl rfl rfl ?_ | refine gFl rfl (by rfl) ?_ | refine gAl rfl rfl (by rfl) (by omega) ?_ | refine gBl rfl rfl (by rfl) (by omega) ?_)
            refine gcv (As := [.inl (nI s), .inl (nI p)]) (rest := []) rfl (by decide) (r_sourceLeft (d + 2) h hR hs hp64) (mU_obj _ _ _) rfl rfl (by decide) ?_
            refine gbe rfl (fun hz => by rw [hsl] at hz; cases hz) (fun hz => ?_)
            repeat (first | refine gkn rfl rfl ?_ | refine gkm rfl rfl ?_ | refine gad rfl ?_ | refine gml rfl ?_ | refine gsb rfl (by omega) ?_ | refine gdv rfl (by omega) (by omega) (by omega) ?_ | refine grm rfl (by omega) (by omega) (by omega) ?_ | refine gic rfl rfl ?_ | refine gp rfl rfl rfl ?_ | refine gFl rfl (by rfl) ?_ | refine gAl rfl rfl (by rfl) (by omega) ?_ | refine gBl rfl rfl (by rfl) (by omega) ?_)
            refine gcv (As := [.inl (nI s), .inl (nI q)]) (rest := []) rfl (by decide) (r_targetLeft (d + 2) h hR hs hq64) (mU_obj _ _ _) rfl rfl (by decide) ?_
            refine gbe rfl (fun hz => ?_) (fun hz => ?_)
            · refine gkm rfl rfl ?_
              refine fin (-1) ?_
              have hno : ¬ nI th ≤ (-1 : Int32) := fun z => by
                have : nI th < 0 := Int32.not_le.mp (fun y => absurd (Int32.le_trans y z) (by decide))
                exact nI_pos (by omega) this
              refine Eq.trans ?_ (if_neg (fun q => hno q.1)).symm
              unfold rBq
              rw [hz]
              rfl
            · repeat (first | refine gkn rfl rfl ?_ | refine gkm rfl rfl ?_ | refine gad rfl ?_ | refine gml rfl ?_ | refine gsb rfl (by omega) ?_ | refine gdv rfl (by omega) (by omega) (by omega) ?_ | refine grm rfl (by omega) (by omega) (by omega) ?_ | refine gic rfl rfl ?_ | refine gp rfl rfl rfl ?_ | refine gFl rfl (by rfl) ?_ | refine gAl rfl rfl (by rfl) (by omega) ?_ | refine gBl rfl rfl (by rfl) (by omega) ?_)
              refine gcv (As := [.inl (nI s), .inl (nI p), .inl (nI q)]) (rest := []) rfl (by decide) (r_score d h hs hp64 hq64) (mU_obj _ _ _) rfl rfl (by decide) ?_
              refine gp rfl rfl rfl ?_
              refine fin (pScore (W 0 p) (W s q)) ?_
              by_cases c1 : nI th ≤ pScore (W 0 p) (W s q)
              · by_cases c2 : b.1 < nI 2 * pScore (W 0 p) (W s q) + (if p % 8 = q % 8 then 1 else 0)
                · refine Eq.trans ?_ (if_pos ⟨c1, c2⟩).symm
                  unfold rBq
                  rw [hz, decide_eq_true c1, decide_eq_true c2]; rfl
                · refine Eq.trans ?_ (if_neg (fun q => c2 q.2)).symm
                  unfold rBq
                  rw [hz, decide_eq_true c1, decide_eq_false c2]; rfl
              · refine Eq.trans ?_ (if_neg (fun q => c1 q.1)).symm
                unfold rBq
                rw [hz, decide_eq_false c1]; rfl
        first | refine gfN rfl (by omega) (by omega) (nN_ge (by omega)) ?_ | refine gfN rfl (by omega) (by omega) (nN_lt (by omega)) ?_ | refine gfN rfl (by omega) (by omega) (nN_eq (by omega)) ?_ | refine gfN rfl (by omega) (by omega) (nN_ne (by omega)) ?_ | refine gfN rfl (by omega) (by omega) (nN_gt (by omega)) ?_ | refine gfN rfl (by omega) (by omega) (nN_le (by omega)) ?_
        repeat (first | refine gkn rfl rfl ?_ | refine gkm rfl rfl ?_ | refine gad rfl ?_ | refine gml rfl ?_ | refine gsb rfl (by omega) ?_ | refine gdv rfl (by omega) (by omega) (by omega) ?_ | refine grm rfl (by omega) (by omega) (by omega) ?_ | refine gic rfl rfl ?_ | refine gp rfl rfl rfl ?_ | refine gFl rfl (by rfl) ?_ | refine gAl rfl rfl (by rfl) (by omega) ?_ | refine gBl rfl rfl (by rfl) (by omega) ?_)
        exact inner 64 0 _ _ rfl
  repeat (first | refine gkn rfl rfl ?_ | refine gkm rfl rfl ?_ | refine gad rfl ?_ | refine gml rfl ?_ | refine gsb rfl (by omega) ?_ | refine gdv rfl (by omega) (by omega) (by omega) ?_ | refine grm rfl (by omega) (by omega) (by omega) ?_ | refine gic rfl rfl ?_ | refine gp rfl rfl rfl ?_ | refine gFl rfl (by rfl) ?_ | refine gAl rfl rfl (by rfl) (by omega) ?_ | refine gBl rfl rfl (by rfl) (by omega) ?_)
  exact outer 64 0 none none none rfl
end REF
