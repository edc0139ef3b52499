/-! MODULE: merge, the class -/
theorem hTop.q {σ σ' : xS} {Ts V V' : Nat → pT} {C C' : Nat → Int32} {th st c s : Nat} {mg : Bool} {D1 D2 : pD} (h : hTop σ Ts V C th st mg D1 D2) (hm : hMS σ' V' C') (hg : hGq σ σ' c s) : hTop σ' Ts V' C' th st mg D1 D2 ∧ hTf σ σ' c s := by
  obtain ⟨h2, ⟨g, h3, hg'⟩, hTs, -, s1, s2⟩ := h
  refine ⟨⟨by rw [hg.2.1 2 (by omega) (by omega)]; exact h2, ⟨g, by rw [hg.2.1 3 (by omega) (by omega)]; exact h3, hg'⟩, fun i hi => ?_, hm, hSide.of s1 (fun k h1 h2 => hg.2.1 k (by omega) (by omega)), hSide.of s2 (fun k h1 h2 => hg.2.1 k (by omega) (by omega))⟩, hg.1, fun k hk => hg.2.1 k (by omega) (by omega), hg.2.2.1, hg.2.2.2.1, hg.2.2.2.2.1⟩
  obtain ⟨g, ⟨a1, a2⟩, a3⟩ := hTs i hi
  exact ⟨g, ⟨by rw [hg.2.1 _ (by omega) (by omega)]; exact a1, by rw [hg.2.1 _ (by omega) (by omega)]; exact a2⟩, fun p hp => (a3 p hp).keep hg.1⟩
/-- at most 8 lines -/
def vS (T : pT) : Prop := ∀ p, p < 64 → ∀ O, T p = some O → O.2.length ≤ 8
theorem vS.mv {T : pT} {i j : Nat} (h : vS T) (hi : i < 64) : vS (pMv T i j) := by
  intro p hp O hO
  unfold pMv at hO
  split at hO
  · exact h i hi O hO
  · split at hO
    · cases hO
    · exact h p hp O hO
theorem vS.ly {T : pT} {i : Nat} (h : vS T) : vS (pLy T i none) := by
  intro p hp O hO
  unfold pLy at hO
  split at hO
  · cases hO
  · exact h p hp O hO
theorem vU_eq (V : Nat → pT) (i : Nat) (T : pT) : vU V i T i = T := if_pos rfl
theorem vS.one {st s q p t : Nat} {V : Nat → pT} (h : vS (V 0)) (hp : p < 64) (hq : q ≠ 0) : vS (pOneV st s q V p t 0) := by
  unfold pOneV
  split
  · split
    · rw [vU_eq]; exact h.ly
    · rw [vU_eq]; exact h.mv hp
  · split
    · rw [vU_ne (Ne.symm hq), vU_eq]; exact h.mv hp
    · rw [vU_ne (Ne.symm hq), vU_eq]; exact h.ly
theorem vS.car {st p : Nat} {i j : Option Nat} {V : Nat → pT} (h : vS (V 0)) (hp : p < 64) : vS (pCarV st i j V p 0) := by
  unfold pCarV
  split
  · split
    · rw [vU_eq]; exact h.mv hp
    · exact h
  · exact h.one hp (by decide)
  · exact h.one hp (by decide)
  · exact h
def mC (st : Nat) (D1 D2 : pD) (V : Nat → pT) (C : Nat → Int32) : Nat → (Nat → pT) × (Nat → Int32)
  | 0 => (V, C)
  | n + 1 => (pCarV st (pTo D1.1 D1.2.2 n) (pTo D2.1 D2.2.2 n) (mC st D1 D2 V C n).1 n, pCarC st (pTo D1.1 D1.2.2 n) (pTo D2.1 D2.2.2 n) (mC st D1 D2 V C n).1 (mC st D1 D2 V C n).2 n)
theorem mC_s {st : Nat} {D1 D2 : pD} {V : Nat → pT} {C : Nat → Int32} (h : vS (V 0)) : ∀ n, n ≤ 64 → vS ((mC st D1 D2 V C n).1 0)
  | 0, _ => h
  | n + 1, hn => (mC_s h n (by omega)).car (by omega)
def mS (st : Nat) (V : Nat → pT) (T3 : pT) (C : Nat → Int32) : Nat → pT × (Nat → Int32)
  | 0 => (T3, C)
  | n + 1 => (pLy (mS st V T3 C n).1 n (pSettle st (mS st V T3 C n).2 V n).1, cUp (mS st V T3 C n).2 n (pSettle st (mS st V T3 C n).2 V n).2)
def mD (B X Y : pT) (th : Nat) : pD := ((rAll B X th).1, bP B X th, bS B X Y th)
def mVC (Ts : Nat → pT) (th st : Nat) : (Nat → pT) × (Nat → Int32) := mC st (mD (Ts 0) (Ts 1) (Ts 2) th) (mD (Ts 0) (Ts 2) (Ts 1) th) (bV (Ts 0) (Ts 1) (Ts 2) th) (bC (Ts 0) (Ts 1) (Ts 2) th) 64
def mRS (Ts : Nat → pT) (th st : Nat) : pT × (Nat → Int32) := mS st (mVC Ts th st).1 (Ts 3) (mVC Ts th st).2 64
theorem m_merge (d : Nat) {σ : xS} {Ts V : Nat → pT} {C : Nat → Int32} {th st : Nat} {mg : Bool} {D1 D2 : pD} (h : hTop σ Ts V C th st mg D1 D2) (k0 : pTok (Ts 0)) (k1 : pTok (Ts 1)) (k2 : pTok (Ts 2)) (hth : th ≤ 100) (hst : st < 1000) (ok1 : rOk (rAll (Ts 0) (Ts 1) th)) (ok2 : rOk (rAll (Ts 0) (Ts 2) th)) :
    ∃ σ', xEx (d + 7) 73 [.inr (some 2)] σ (some (.inl (nI (pCnt (fun p => decide (¬ (mRS Ts th st).2 p = 0)) 64)))) σ' ∧ hTop σ' (vU Ts 3 (mRS Ts th st).1) (mVC Ts th st).1 (mRS Ts th st).2 th st true (mD (Ts 0) (Ts 1) (Ts 2) th) (mD (Ts 0) (Ts 2) (Ts 1) th) ∧ hTf σ σ' 256 9984 := by
  let K : Option xV → xS → Prop := fun r0 σ0 => r0 = some (.inl (nI (pCnt (fun p => decide (¬ (mRS Ts th st).2 p = 0)) 64))) ∧ hTop σ0 (vU Ts 3 (mRS Ts th st).1) (mVC Ts th st).1 (mRS Ts th st).2 th st true (mD (Ts 0) (Ts 1) (Ts 2) th) (mD (Ts 0) (Ts 2) (Ts 1) th) ∧ hTf σ σ0 256 9984
  have main : xGo (xEx (d + 6)) xtb_73 K (0, [some (.inr (some 2)), none], [], σ) := by
    obtain ⟨h2, ⟨g, h3, hg⟩, hTs, hm, s1, s2⟩ := id h
    have h4 := hm.1.1
    obtain ⟨m1, m2, m3, m4, m5, m6⟩ := id hm
    obtain ⟨σ1, x1, M1, S1, S2, n1, F1⟩ := m_begin d (th := th) m1 m2 m3 m4 m5 s1 s2 (m6 0 (by decide)) (m6 1 (by decide)) (m6 2 (by decide)) (hTs 0 (by decide)) (hTs 1 (by decide)) (hTs 2 (by decide)) k0 k1 k2 hth ok1 ok2
    repeat (first | refine gp rfl rfl rfl ?_ | refine ggf rfl (by assumption) (by rfl) ?_ | refine gal rfl (by assumption) (by rfl) (by omega) (by omega) ?_ | refine gil rfl (by assumption) (by rfl) (by omega) (by omega) ?_ | refine gbl rfl (by assumption) (by rfl) (by omega) (by omega) ?_ | refine gln rfl (xlen_i (by assumption)) ?_ | refine gln rfl (xlen_q (by assumption)) ?_)
    rw [hg 0 (by decide), hg 1 (by decide), hg 2 (by decide)]
    refine gcv (As := [.inr (some (44 + 2 * 0)), .inr (some (44 + 2 * 1)), .inr (some (44 + 2 * 2)), .inl (nI th)]) (rest := []) rfl (by decide) x1 h4 rfl rfl (by decide) ?_
    have kp1 : hKeep σ σ1 := fun k e hk hs => by rw [F1 k (by omega)]; exact hs
    have H1 : hTop σ1 Ts (bV (Ts 0) (Ts 1) (Ts 2) th) (bC (Ts 0) (Ts 1) (Ts 2) th) th st mg (mD (Ts 0) (Ts 1) (Ts 2) th) (mD (Ts 0) (Ts 2) (Ts 1) th) := by
      refine ⟨by rw [F1 2 (by decide)]; exact h2, ⟨g, by rw [F1 3 (by decide)]; exact h3, hg⟩, fun i hi => ?_, M1, S1, S2⟩
      obtain ⟨g, ⟨a1, a2⟩, a3⟩ := hTs i hi
      exact ⟨g, ⟨by rw [F1 _ (by omega)]; exact a1, by rw [F1 _ (by omega)]; exact a2⟩, fun p hp => (a3 p hp).keep kp1⟩
    have T1 : hTf σ σ1 0 0 := ⟨kp1, fun k hk => F1 k (by omega), by rw [n1]; exact Nat.le_refl _, by rw [n1]; omega, by rw [n1]; omega⟩
    have V0 : vS (bV (Ts 0) (Ts 1) (Ts 2) th 0) := fun p hp O hO => (k0 p hp O hO).1
    clear x1 M1 S1 S2 F1 kp1 h2 h4 hm m1 m2 m3 m4 m5 m6 s1 s2 h3 hTs
    generalize hD1 : mD (Ts 0) (Ts 1) (Ts 2) th = E1 at *
    generalize hD2 : mD (Ts 0) (Ts 2) (Ts 1) th = E2 at *
    have lt1 : oLt E1.1 := by rw [← hD1]; exact ok1
    have lt2 : oLt E2.1 := by rw [← hD2]; exact ok2
    have lt3 : oLt E1.2.2 := by rw [← hD1]; exact bS_lt
    have lt4 : oLt E2.2.2 := by rw [← hD2]; exact bS_lt
    have eVC : mVC Ts th st = mC st E1 E2 (bV (Ts 0) (Ts 1) (Ts 2) th) (bC (Ts 0) (Ts 1) (Ts 2) th) 64 := by unfold mVC; rw [hD1, hD2]
    have vE : vS ((mVC Ts th st).1 0) := by rw [eVC]; exact mC_s V0 64 (Nat.le_refl _)
    have loop2 : ∀ k i (σ2 : xS), i + k = 64 → hTop σ2 (vU Ts 3 (mS st (mVC Ts th st).1 (Ts 3) (mVC Ts th st).2 i).1) (mVC Ts th st).1 (mS st (mVC Ts th st).1 (Ts 3) (mVC Ts th st).2 i).2 th st mg E1 E2 → hTf σ σ2 (128 + 2 * i) (4992 + 78 * i) → xGo (xEx (d + 6)) xtb_73 K (60, [some (.inr (some 2)), some (.inl (nI i))], [.inl (nI 64), .inl (nI i)], σ2) := by
      intro k
      induction k with
      | zero =>
        intro i σ2 hi H T
        obtain rfl : i = 64 := by omega
        refine gct rfl (show nI 64 ≤ nI _ from nI_le (by omega) (by omega)) ?_
        have H : hTop σ2 (vU Ts 3 (mRS Ts th st).1) (mVC Ts th st).1 (mRS Ts th st).2 th st mg E1 E2 := H
        obtain ⟨c2, ⟨g, c3, hg⟩, hTs, hm, s1, s2⟩ := id H
        repeat (first | refine gp rfl rfl rfl ?_ | refine ggf rfl (by assumption) (by rfl) ?_ | refine gal rfl (by assumption) (by rfl) (by omega) (by omega) ?_ | refine gil rfl (by assumption) (by rfl) (by omega) (by omega) ?_ | refine gbl rfl (by assumption) (by rfl) (by omega) (by omega) ?_ | refine gln rfl (xlen_i (by assumption)) ?_ | refine gln rfl (xlen_q (by assumption)) ?_)
        refine gpf rfl c2 (Nat.le_of_ble_eq_true rfl) (Or.inr ⟨rfl, Or.inr rfl⟩) ?_
        show xGo (xEx (d + 6)) xtb_73 K (96, [some (.inr (some 2)), some (.inl (nI 64))], [], xup σ2 2 (.inr (.inr (0, [.inr (some 3), .inr (some 4), .inl (nI th), .inl (nI st), .inl (bI true)]))))
        have fr : hFr 2 2 σ2 (xup σ2 2 (.inr (.inr (0, [.inr (some 3), .inr (some 4), .inl (nI th), .inl (nI st), .inl (bI true)])))) := hFr.up (by decide) (by decide)
        have H3 : hTop (xup σ2 2 (.inr (.inr (0, [.inr (some 3), .inr (some 4), .inl (nI th), .inl (nI st), .inl (bI true)])))) (vU Ts 3 (mRS Ts th st).1) (mVC Ts th st).1 (mRS Ts th st).2 th st true E1 E2 := ⟨xup_eq _ _ _, ⟨g, by rw [fr.2 3 (by omega)]; exact c3, hg⟩, fun k hk => (hTs k hk).fr fr (by omega) (by omega), hm.of (fun k hk => fr.2 k (by omega)) (fr.keep (by omega)) (hm.2.2.2.2.1.of2 fr.1 (fun k hk => fr.2 k (by omega))), hSide.of s1 (fun k h1 h2 => fr.2 k (by omega)), hSide.of s2 (fun k h1 h2 => fr.2 k (by omega))⟩
        have T3 := T.trans (hTf.of_fr fr (by omega) (by omega))
        generalize xup σ2 2 (.inr (.inr (0, [.inr (some 3), .inr (some 4), .inl (nI th), .inl (nI st), .inl (bI true)]))) = σ3 at H3 T3 ⊢
        have c2 := H3.1
        have c4 := H3.2.2.2.1.1.1
        repeat (first | refine gp rfl rfl rfl ?_ | refine ggf rfl (by assumption) (by rfl) ?_ | refine gal rfl (by assumption) (by rfl) (by omega) (by omega) ?_ | refine gil rfl (by assumption) (by rfl) (by omega) (by omega) ?_ | refine gbl rfl (by assumption) (by rfl) (by omega) (by omega) ?_ | refine gln rfl (xlen_i (by assumption)) ?_ | refine gln rfl (xlen_q (by assumption)) ?_)
        refine gcv (As := []) (rest := []) rfl (by decide) (m_countConflictPaths (d + 5) H3.2.2.2.1.1 H3.2.2.2.1.2.2.1) c4 rfl rfl (by decide) ?_
        refine gri rfl (fun h => absurd h (by decide)) ⟨rfl, ?_, T3⟩
        rw [hD1, hD2]
        exact H3
      | succ k ih =>
        intro i σ2 hi H T
        obtain ⟨c2, ⟨g, c3, hg⟩, hTs, hm, s1, s2⟩ := id H
        have c4 := hm.1.1
        refine gcf rfl (nI_ge (by omega) (by omega)) ?_
        repeat (first | refine gp rfl rfl rfl ?_ | refine ggf rfl (by assumption) (by rfl) ?_ | refine gal rfl (by assumption) (by rfl) (by omega) (by omega) ?_ | refine gil rfl (by assumption) (by rfl) (by omega) (by omega) ?_ | refine gbl rfl (by assumption) (by rfl) (by omega) (by omega) ?_ | refine gln rfl (xlen_i (by assumption)) ?_ | refine gln rfl (xlen_q (by assumption)) ?_)
        rw [hg 3 (by decide)]
        obtain ⟨σ3, r, y1, y2, y3, y4⟩ := m_settle (d + 1) (p := i) (st := st) hm (fun O hO => vE i (by omega) O hO) (by omega) hst
        refine gcv (As := [.inl (nI i), .inl (nI st)]) (rest := [.inl (nI i), .inr (some (44 + 2 * 3))]) rfl (by decide) y1 c4 rfl rfl (Nat.le_of_ble_eq_true rfl) ?_
        obtain ⟨H3, T3⟩ := H.q y3 y4.q
        have t3 := H3.2.2.1 3 (by decide)
        obtain ⟨σ4, z1, z2, z3⟩ := m_layT (d + 4) (i := i) t3 y2 (by omega) (by decide)
        refine gcv (As := [.inl (nI i), .inr r]) (rest := []) rfl (by decide) z1 t3.obj rfl rfl (by decide) ?_
        obtain ⟨H4, T4⟩ := H3.tree (by decide) z2 z3
        repeat (first | refine gp rfl rfl rfl ?_ | refine ggf rfl (by assumption) (by rfl) ?_ | refine gal rfl (by assumption) (by rfl) (by omega) (by omega) ?_ | refine gil rfl (by assumption) (by rfl) (by omega) (by omega) ?_ | refine gbl rfl (by assumption) (by rfl) (by omega) (by omega) ?_ | refine gln rfl (xlen_i (by assumption)) ?_ | refine gln rfl (xlen_q (by assumption)) ?_)
        rw [nI_s]
        refine ih (i + 1) σ4 (by omega) ?_ (((T.trans T3).trans T4).wide (by omega) (by omega))
        have e : vU (vU Ts 3 (mS st (mVC Ts th st).1 (Ts 3) (mVC Ts th st).2 i).1) 3 (pLy (vU Ts 3 (mS st (mVC Ts th st).1 (Ts 3) (mVC Ts th st).2 i).1 3) i (pSettle st (mS st (mVC Ts th st).1 (Ts 3) (mVC Ts th st).2 i).2 (mVC Ts th st).1 i).1) = vU Ts 3 (mS st (mVC Ts th st).1 (Ts 3) (mVC Ts th st).2 (i + 1)).1 := by
          rw [vU_eq]
          funext z
          unfold vU
          split
          · rfl
          · rfl
        rw [e] at H4
        exact H4
    have loop1 : ∀ k i (σ2 : xS), i + k = 64 → hTop σ2 Ts (mC st E1 E2 (bV (Ts 0) (Ts 1) (Ts 2) th) (bC (Ts 0) (Ts 1) (Ts 2) th) i).1 (mC st E1 E2 (bV (Ts 0) (Ts 1) (Ts 2) th) (bC (Ts 0) (Ts 1) (Ts 2) th) i).2 th st mg E1 E2 → hTf σ σ2 (2 * i) (78 * i) → xGo (xEx (d + 6)) xtb_73 K (34, [some (.inr (some 2)), some (.inl (nI i))], [.inl (nI 64), .inl (nI i)], σ2) := by
      intro k
      induction k with
      | zero =>
        intro i σ2 hi H T
        obtain rfl : i = 64 := by omega
        refine gct rfl (show nI 64 ≤ nI _ from nI_le (by omega) (by omega)) ?_
        repeat (first | refine gp rfl rfl rfl ?_ | refine ggf rfl (by assumption) (by rfl) ?_ | refine gal rfl (by assumption) (by rfl) (by omega) (by omega) ?_ | refine gil rfl (by assumption) (by rfl) (by omega) (by omega) ?_ | refine gbl rfl (by assumption) (by rfl) (by omega) (by omega) ?_ | refine gln rfl (xlen_i (by assumption)) ?_ | refine gln rfl (xlen_q (by assumption)) ?_)
        rw [← eVC] at H
        refine loop2 64 0 σ2 rfl ?_ T
        have e : vU Ts 3 (Ts 3) = Ts := by
          funext z
          unfold vU
          split
          · rename_i hz; rw [hz]
          · rfl
        show hTop σ2 (vU Ts 3 (Ts 3)) _ _ th st mg E1 E2
        rw [e]
        exact H
      | succ k ih =>
        intro i σ2 hi H T
        obtain ⟨c2, -, -, hm, s1, s2⟩ := id H
        have c4 := hm.1.1
        refine gcf rfl (nI_ge (by omega) (by omega)) ?_
        repeat (first | refine gp rfl rfl rfl ?_ | refine ggf rfl (by assumption) (by rfl) ?_ | refine gal rfl (by assumption) (by rfl) (by omega) (by omega) ?_ | refine gil rfl (by assumption) (by rfl) (by omega) (by omega) ?_ | refine gbl rfl (by assumption) (by rfl) (by omega) (by omega) ?_ | refine gln rfl (xlen_i (by assumption)) ?_ | refine gln rfl (xlen_q (by assumption)) ?_)
        obtain ⟨σ3, y1, y2, y3⟩ := m_carryRename d (p := i) (st := st) hm s1 s2 lt1 lt3 lt2 lt4 (fun O hO => mC_s V0 i (by omega) i (by omega) O hO) (by omega) hst
        refine gcv (As := [.inl (nI i), .inl (nI st)]) (rest := []) rfl (by decide) y1 c4 rfl rfl (by decide) ?_
        obtain ⟨H3, T3⟩ := H.q y2 y3
        repeat (first | refine gp rfl rfl rfl ?_ | refine ggf rfl (by assumption) (by rfl) ?_ | refine gal rfl (by assumption) (by rfl) (by omega) (by omega) ?_ | refine gil rfl (by assumption) (by rfl) (by omega) (by omega) ?_ | refine gbl rfl (by assumption) (by rfl) (by omega) (by omega) ?_ | refine gln rfl (xlen_i (by assumption)) ?_ | refine gln rfl (xlen_q (by assumption)) ?_)
        rw [nI_s]
        exact ih (i + 1) σ3 (by omega) H3 ((T.trans T3).wide (by omega) (by omega))
    repeat (first | refine gp rfl rfl rfl ?_ | refine ggf rfl (by assumption) (by rfl) ?_ | refine gal rfl (by assumption) (by rfl) (by omega) (by omega) ?_ | refine gil rfl (by assumption) (by rfl) (by omega) (by omega) ?_ | refine gbl rfl (by assumption) (by rfl) (by omega) (by omega) ?_ | refine gln rfl (xlen_i (by assumption)) ?_ | refine gln rfl (xlen_q (by assumption)) ?_)
    exact loop1 64 0 σ1 rfl H1 T1
  obtain ⟨r, σ', hex, rfl, g1, g2⟩ := ex_of (d := d + 6) (y := 73) (as := [.inr (some 2)]) (σ := σ) (K := K) (by decide) rfl main
  exact ⟨σ', hex, g1, g2⟩
