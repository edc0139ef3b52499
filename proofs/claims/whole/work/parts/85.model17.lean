/-! MODULE: the reference: merge -/
section REF
variable {σ : xS} {I : Nat → Int32} {A : Nat → Nat → Int32} {W V : Nat → pT} {C : Nat → Int32} {st : Nat}
theorem r_finish (d : Nat) {x : Nat} (h : mV A (wSet W V)) (hC : mCo A C) (hx : x < 64) (hst : I 1 = nI st) (hst2 : st ≤ 2) (hJ : (pJoin st (pLn (V 0 x)) (pLn (V 1 x)) (pLn (V 2 x))).length ≤ 76) :
    ∃ I' A', xEx (d + 6) 132 [.inr (some 52), .inl (nI x)] (mU σ I A) none (mU σ I' A') ∧ mV A' (wSet (vU W 3 (pLy (W 3) x (pSettle st C V x).1)) V) ∧ mCo A' (cUp C x (pSettle st C V x).2) ∧ iG I I' ∧ aG A A' := by
  let K : Option xV → xS → Prop := fun r0 σ0 => r0 = none ∧ ∃ I' A', σ0 = mU σ I' A' ∧ mV A' (wSet (vU W 3 (pLy (W 3) x (pSettle st C V x).1)) V) ∧ mCo A' (cUp C x (pSettle st C V x).2) ∧ iG I I' ∧ aG A A'
  have fin : ∀ I1 A1, I1 13 = nI (pK (pSettle st C V x).1) → mO I1 A1 (pLn (pSettle st C V x).1) → pOK (pLn (pSettle st C V x).1) → mV A1 (wSet W V) → mCo A1 (cUp C x (pSettle st C V x).2) → iG I I1 → aG A A1 → xGo (xEx (d + 5)) xtb_132 K (74, [some (.inr (some 52)), some (.inl (nI x))], [], mU σ I1 A1) := by
    intro I1 A1 h13 hO ho hV hC1 hI hA
    obtain ⟨A2, y1, y2, y3⟩ := r_putOut (σ := σ) (I := I1) (d + 3) (t := 3) (p := x) hV (by decide) hx h13 hO ho (show _ ≤ 76 from hO.2.1)
    rw [wSet_lt (show 3 < 4 by decide), wSet_vU3] at y2
    repeat (first | refine gkn rfl rfl ?_ | refine gkm rfl rfl ?_ | refine gad rfl ?_ | refine gml rfl ?_ | refine gsb rfl (by omega) ?_ | refine gdv rfl (by omega) (by omega) (by omega) ?_ | refine grm rfl (by omega) (by omega) (by omega) ?_ | refine gic rfl rfl ?_ | refine gp rfl rfl rfl ?_ | refine gFl rfl (by rfl) ?_ | refine gAl rfl rfl (by rfl) (by omega) ?_ | refine gBl rfl rfl (by rfl) (by omega) ?_)
    refine gcv (As := [.inl (nI 3), .inl (nI x)]) (rest := []) rfl (by decide) y1 (mU_obj _ _ _) rfl rfl (by decide) ?_
    exact grv rfl ⟨rfl, I1, A2, rfl, y2, hC1.of (y3 60 (by decide)), hI, hA.trans y3.g⟩
  have take : ∀ t (F : Option pF), t < 7 → wSet W V t x = F → pSettle st C V x = (F, 0) → xGo (xEx (d + 5)) xtb_132 K (47, [some (.inr (some 52)), some (.inl (nI x))], [.inl (nI t), .inr (some 52)], mU σ I A) := by
    intro t F ht hF e
    obtain ⟨I1, A1, y1, y2, y3, y4, y5⟩ := r_takeFile (σ := σ) (I := I) (d + 3) (t := t) (p := x) h ht hx
    rw [hF] at y2 y3
    have ho := (h t x ht hx).2.2.2.1
    rw [hF] at ho
    repeat (first | refine gkn rfl rfl ?_ | refine gkm rfl rfl ?_ | refine gad rfl ?_ | refine gml rfl ?_ | refine gsb rfl (by omega) ?_ | refine gdv rfl (by omega) (by omega) (by omega) ?_ | refine grm rfl (by omega) (by omega) (by omega) ?_ | refine gic rfl rfl ?_ | refine gp rfl rfl rfl ?_ | refine gFl rfl (by rfl) ?_ | refine gAl rfl rfl (by rfl) (by omega) ?_ | refine gBl rfl rfl (by rfl) (by omega) ?_)
    refine gcv (As := [.inl (nI t), .inl (nI x)]) (rest := []) rfl (by decide) y1 (mU_obj _ _ _) rfl rfl (by decide) ?_
    refine gp rfl rfl rfl ?_
    refine fin I1 A1 (by rw [e]; exact y2) (by rw [e]; exact y3) (by rw [e]; exact ho) (h.of (fun k hk => y5 k (by omega))) ?_ (fun j hj => y4 j (by omega) (by omega)) (fun k a b => y5 k (by omega))
    rw [e]
    show mCo A1 (cUp C x 0)
    rw [cUp_zero]
    exact hC.of (y5 60 (by decide))
  have merge : pSettle st C V x = pMerge st (V 0 x) (V 1 x) (V 2 x) → xGo (xEx (d + 5)) xtb_132 K (54, [some (.inr (some 52)), some (.inl (nI x))], [], mU σ I A) := by
    intro e
    have m := r_mergeFiles (σ := σ) d (o := x) (a := x) (b := x) (W := wSet W V) h hx hx hx hst hst2 (by
      rw [show wSet W V 4 = V 0 from wSet_ge W V 0, show wSet W V 5 = V 1 from wSet_ge W V 1, show wSet W V 6 = V 2 from wSet_ge W V 2]
      exact hJ)
    rw [show wSet W V 4 = V 0 from wSet_ge W V 0, show wSet W V 5 = V 1 from wSet_ge W V 1, show wSet W V 6 = V 2 from wSet_ge W V 2, ← e] at m
    obtain ⟨I1, A1, y1, y2, y3, y4⟩ := m
    obtain ⟨x1, x2, x3, x4⟩ := y2
    have hC1 : mCo A1 C := hC.of (y4 60 (by decide) (by decide))
    repeat (first | refine gkn rfl rfl ?_ | refine gkm rfl rfl ?_ | refine gad rfl ?_ | refine gml rfl ?_ | refine gsb rfl (by omega) ?_ | refine gdv rfl (by omega) (by omega) (by omega) ?_ | refine grm rfl (by omega) (by omega) (by omega) ?_ | refine gic rfl rfl ?_ | refine gp rfl rfl rfl ?_ | refine gFl rfl (by rfl) ?_ | refine gAl rfl rfl (by rfl) (by omega) ?_ | refine gBl rfl rfl (by rfl) (by omega) ?_)
    refine gcv (As := [.inl (nI x), .inl (nI x), .inl (nI x)]) (rest := []) rfl (by decide) y1 (mU_obj _ _ _) rfl rfl (by decide) ?_
    repeat (first | refine gkn rfl rfl ?_ | refine gkm rfl rfl ?_ | refine gad rfl ?_ | refine gml rfl ?_ | refine gsb rfl (by omega) ?_ | refine gdv rfl (by omega) (by omega) (by omega) ?_ | refine grm rfl (by omega) (by omega) (by omega) ?_ | refine gic rfl rfl ?_ | refine gp rfl rfl rfl ?_ | refine gFl rfl (by rfl) ?_ | refine gAl rfl rfl (by rfl) (by omega) ?_ | refine gBl rfl rfl (by rfl) (by omega) ?_)
    rw [x4]
    refine gAs rfl rfl rfl (by omega) ?_
    refine fin I1 _ x1 ⟨x2.1, x2.2.1, fun j hj => by rw [aU_ne (by decide)]; exact x2.2.2 j hj⟩ x3 (h.of (fun k hk => (aU_ne (by omega)).trans (y4 k (by omega) (by omega)))) (hC1.up hx) (fun j hj => y3 j (Or.inl hj)) (fun k a b => (aU_ne (by omega)).trans (y4 k (by omega) (by omega)))
  have main : xGo (xEx (d + 5)) xtb_132 K (0, [some (.inr (some 52)), some (.inl (nI x))], [], mU σ I A) := by
    have has5 : xEx (d + 5) 91 [.inr (some 52), .inl (nI 5), .inl (nI x)] (mU σ I A) (some (.inl (bI (V 1 x).isSome))) (mU σ I A) := by
      have := r_has (σ := σ) (I := I) (d + 4) (t := 5) (p := x) h (by decide) hx
      rwa [show wSet W V 5 = V 1 from wSet_ge W V 1] at this
    have has6 : xEx (d + 5) 91 [.inr (some 52), .inl (nI 6), .inl (nI x)] (mU σ I A) (some (.inl (bI (V 2 x).isSome))) (mU σ I A) := by
      have := r_has (σ := σ) (I := I) (d + 4) (t := 6) (p := x) h (by decide) hx
      rwa [show wSet W V 6 = V 2 from wSet_ge W V 2] at this
    have takeG : ¬ C x &&& nI 16 = 0 → ((V 1 x).isNone = true ∨ (V 2 x).isNone = true) → xGo (xEx (d + 5)) xtb_132 K (31, [some (.inr (some 52)), some (.inl (nI x))], [], mU σ I A) := by
      intro hc hor
      have e : pSettle st C V x = (if (V 1 x).isNone then V 2 x else V 1 x, 0) := by unfold pSettle; rw [if_pos ⟨hc, hor⟩]
      repeat (first | refine gkn rfl rfl ?_ | refine gkm rfl rfl ?_ | refine gad rfl ?_ | refine gml rfl ?_ | refine gsb rfl (by omega) ?_ | refine gdv rfl (by omega) (by omega) (by omega) ?_ | refine grm rfl (by omega) (by omega) (by omega) ?_ | refine gic rfl rfl ?_ | refine gp rfl rfl rfl ?_ | refine gFl rfl (by rfl) ?_ | refine gAl rfl rfl (by rfl) (by omega) ?_ | refine gBl rfl rfl (by rfl) (by omega) ?_)
      refine gcv (As := [.inl (nI 5), .inl (nI x)]) (rest := [.inr (some 52)]) rfl (by decide) has5 (mU_obj _ _ _) rfl rfl (Nat.le_of_ble_eq_true rfl) ?_
      cases h1 : V 1 x with
      | none =>
        rw [h1] at e
        refine gbe rfl (fun _ => ?_) (fun z => by cases z)
        refine gkn rfl rfl ?_
        exact take 6 (V 2 x) (by decide) (by rw [show wSet W V 6 = V 2 from wSet_ge W V 2]) e
      | some F =>
        rw [h1] at e
        refine gbe rfl (fun z => by cases z) (fun _ => ?_)
        refine gkn rfl rfl ?_
        refine gp rfl rfl rfl ?_
        exact take 5 (some F) (by decide) (by rw [show wSet W V 5 = V 1 from wSet_ge W V 1, h1]) e
    repeat (first | refine gkn rfl rfl ?_ | refine gkm rfl rfl ?_ | refine gad rfl ?_ | refine gml rfl ?_ | refine gsb rfl (by omega) ?_ | refine gdv rfl (by omega) (by omega) (by omega) ?_ | refine grm rfl (by omega) (by omega) (by omega) ?_ | refine gic rfl rfl ?_ | refine gp rfl rfl rfl ?_ | refine gFl rfl (by rfl) ?_ | refine gAl rfl rfl (by rfl) (by omega) ?_ | refine gBl rfl rfl (by rfl) (by omega) ?_)
    rw [hC x hx]
    by_cases hc : C x &&& nI 16 = 0
    · refine git rfl (show C x &&& nI 16 = 0 from hc) ?_
      exact merge (by unfold pSettle; rw [if_neg (fun z => z.1 hc)])
    · refine giff rfl (show ¬ C x &&& nI 16 = 0 from hc) ?_
      repeat (first | refine gkn rfl rfl ?_ | refine gkm rfl rfl ?_ | refine gad rfl ?_ | refine gml rfl ?_ | refine gsb rfl (by omega) ?_ | refine gdv rfl (by omega) (by omega) (by omega) ?_ | refine grm rfl (by omega) (by omega) (by omega) ?_ | refine gic rfl rfl ?_ | refine gp rfl rfl rfl ?_ | refine gFl rfl (by rfl) ?_ | refine gAl rfl rfl (by rfl) (by omega) ?_ | refine gBl rfl rfl (by rfl) (by omega) ?_)
      refine gcv (As := [.inl (nI 5), .inl (nI x)]) (rest := []) rfl (by decide) has5 (mU_obj _ _ _) rfl rfl (by decide) ?_
      cases h1 : V 1 x with
      | none =>
        refine gbe rfl (fun _ => ?_) (fun z => by cases z)
        exact takeG hc (Or.inl (by rw [h1]; rfl))
      | some F =>
        refine gbe rfl (fun z => by cases z) (fun _ => ?_)
        repeat (first | refine gkn rfl rfl ?_ | refine gkm rfl rfl ?_ | refine gad rfl ?_ | refine gml rfl ?_ | refine gsb rfl (by omega) ?_ | refine gdv rfl (by omega) (by omega) (by omega) ?_ | refine grm rfl (by omega) (by omega) (by omega) ?_ | refine gic rfl rfl ?_ | refine gp rfl rfl rfl ?_ | refine gFl rfl (by rfl) ?_ | refine gAl rfl rfl (by rfl) (by omega) ?_ | refine gBl rfl rfl (by rfl) (by omega) ?_)
        refine gcv (As := [.inl (nI 6), .inl (nI x)]) (rest := []) rfl (by decide) has6 (mU_obj _ _ _) rfl rfl (by decide) ?_
        cases h2 : V 2 x with
        | none =>
          refine gbn rfl (fun z => by cases z) (fun _ => ?_)
          exact takeG hc (Or.inr (by rw [h2]; rfl))
        | some G =>
          refine gbn rfl (fun _ => ?_) (fun z => by cases z)
          refine merge ?_
          unfold pSettle
          rw [if_neg (fun z => by rw [h1, h2] at z; rcases z.2 with q | q <;> cases q)]
  obtain ⟨r, σ', hex, rfl, I', A', rfl, g⟩ := ex_of (d := d + 5) (y := 132) (as := [.inr (some 52), .inl (nI x)]) (σ := mU σ I A) (K := K) (by decide) rfl main
  exact ⟨I', A', hex, g⟩
end REF
theorem mS_keep1 {st : Nat} {V : Nat → pT} {T : pT} {C : Nat → Int32} {n p : Nat} (h : p < n) : (mS st V T C (n + 1)).2 p = (mS st V T C n).2 p := by
  show cUp (mS st V T C n).2 n (pSettle st (mS st V T C n).2 V n).2 p = _
  unfold cUp
  rw [if_neg (by omega)]
theorem mS_keep {st : Nat} {V : Nat → pT} {T : pT} {C : Nat → Int32} {n p : Nat} (h : p < n) : ∀ k, (mS st V T C (n + k)).2 p = (mS st V T C n).2 p
  | 0 => rfl
  | k + 1 => by
    show (mS st V T C (n + k + 1)).2 p = _
    rw [mS_keep1 (by omega), mS_keep h k]
/-- the new places of both sides -/
def bPs (W : Nat → pT) (th : Nat) : Nat → Nat → pP := fun s => if s = 1 then bP (W 0) (W 1) th else bP (W 0) (W 2) th
theorem mV.tok {A : Nat → Nat → Int32} {W : Nat → pT} {t : Nat} (h : mV A W) (ht : t < 3) : pTok (W t) := by
  intro p hp G e
  obtain ⟨-, -, g3, g4, -⟩ := h t p (by omega) hp
  rw [e] at g3 g4
  rw [rRm_lt3 ht] at g3
  exact ⟨g3, g4⟩
theorem mDs.g {A A' : Nat → Nat → Int32} {s : Nat} {D : pD} (h : mDs A s D) (e : aG A A') : mDs A' s D := ⟨fun p hp => by rw [e 56 (by decide) (by decide)]; exact h.1 p hp, fun f hf => by rw [e 59 (by decide) (by decide)]; exact h.2.1 f hf, fun p hp => by rw [e 58 (by decide) (by decide)]; exact h.2.2 p hp⟩
section REF
variable {σ : xS} {I : Nat → Int32} {A : Nat → Nat → Int32} {W : Nat → pT} {st th : Nat}
theorem r_merge (d : Nat) (h : mV A W) (hI0 : I 0 = nI th) (h1 : 1 ≤ th) (hth : th ≤ 100) (hst : I 1 = nI st) (hst2 : st ≤ 2) :
    ∃ I' A', xEx (d + 8) 103 [.inr (some 52)] (mU σ I A) (some (.inl (nI (pCnt (fun p => decide (¬ (mRS W th st).2 p = 0)) 64)))) (mU σ I' A') ∧ mV A' (wSet (vU W 3 (mRS W th st).1) (mVC W th st).1) ∧ mCo A' (mRS W th st).2 ∧ mDs A' 1 (mD (W 0) (W 1) (W 2) th) ∧ mDs A' 2 (mD (W 0) (W 2) (W 1) th) ∧ I' 2 = bI true ∧ I' 0 = nI th ∧ I' 1 = nI st := by
  let K : Option xV → xS → Prop := fun r0 σ0 => r0 = some (.inl (nI (pCnt (fun p => decide (¬ (mRS W th st).2 p = 0)) 64))) ∧ ∃ I' A', σ0 = mU σ I' A' ∧ mV A' (wSet (vU W 3 (mRS W th st).1) (mVC W th st).1) ∧ mCo A' (mRS W th st).2 ∧ mDs A' 1 (mD (W 0) (W 1) (W 2) th) ∧ mDs A' 2 (mD (W 0) (W 2) (W 1) th) ∧ I' 2 = bI true ∧ I' 0 = nI th ∧ I' 1 = nI st
  have k0 := h.tok (t := 0) (by decide)
  have k1 := h.tok (t := 1) (by decide)
  have k2 := h.tok (t := 2) (by decide)
  have hVI := VI_mC (Ts := W) (th := th) (st := st) k0 k1 k2
  have hXI := XI_b W th
  have L6 : ∀ k n (I2 : Nat → Int32) (A2 : Nat → Nat → Int32), n + k = 64 → mV A2 (wSet (vU W 3 (mS st (mVC W th st).1 (W 3) (mVC W th st).2 n).1) (mVC W th st).1) → mCo A2 (mS st (mVC W th st).1 (W 3) (mVC W th st).2 n).2 → mDs A2 1 (mD (W 0) (W 1) (W 2) th) → mDs A2 2 (mD (W 0) (W 2) (W 1) th) → I2 2 = bI true → I2 0 = nI th → I2 1 = nI st → xGo (xEx (d + 7)) xtb_103 K (133, [some (.inr (some 52)), some (.inl (nI (pCnt (fun p => decide (¬ (mRS W th st).2 p = 0)) n))), some (.inl (nI n))], [.inl (nI 64), .inl (nI n)], mU σ I2 A2) := by
    intro k
    induction k with
    | zero =>
      intro n I2 A2 hn a1 a2 a3 a4 a5 a6 a7
      obtain rfl : n = 64 := by omega
      first | refine gtN rfl (by omega) (by omega) (xN_ge (by omega)) ?_ | refine gtN rfl (by omega) (by omega) (xN_lt (by omega)) ?_ | refine gtN rfl (by omega) (by omega) (xN_eq (by omega)) ?_ | refine gtN rfl (by omega) (by omega) (xN_ne (by omega)) ?_ | refine gtN rfl (by omega) (by omega) (xN_gt (by omega)) ?_ | refine gtN rfl (by omega) (by omega) (xN_le (by omega)) ?_
      repeat (first | refine gkn rfl rfl ?_ | refine gkm rfl rfl ?_ | refine gad rfl ?_ | refine gml rfl ?_ | refine gsb rfl (by omega) ?_ | refine gdv rfl (by omega) (by omega) (by omega) ?_ | refine grm rfl (by omega) (by omega) (by omega) ?_ | refine gic rfl rfl ?_ | refine gp rfl rfl rfl ?_ | refine gFl rfl (by rfl) ?_ | refine gAl rfl rfl (by rfl) (by omega) ?_ | refine gBl rfl rfl (by rfl) (by omega) ?_)
      exact gri rfl (fun h => absurd h (by decide)) ⟨rfl, I2, A2, rfl, a1, a2, a3, a4, a5, a6, a7⟩
    | succ k ih =>
      intro n I2 A2 hn a1 a2 a3 a4 a5 a6 a7
      have hn64 : n < 64 := by omega
      have ih' := ih (n + 1)
      rw [pCnt_s _ n] at ih'
      have eK : (mS st (mVC W th st).1 (W 3) (mVC W th st).2 (n + 1)).2 n = (mRS W th st).2 n := by
        have := mS_keep (st := st) (V := (mVC W th st).1) (T := W 3) (C := (mVC W th st).2) (n := n + 1) (p := n) (by omega) (64 - (n + 1))
        rw [show n + 1 + (64 - (n + 1)) = 64 by omega] at this
        exact this.symm
      have hJ : (pJoin st (pLn ((mVC W th st).1 0 n)) (pLn ((mVC W th st).1 1 n)) (pLn ((mVC W th st).1 2 n))).length ≤ 76 := (hVI 64).fin hXI hn64
      obtain ⟨I3, A3, y1, y2, y3, y4, y5⟩ := r_finish (σ := σ) (I := I2) (d + 1) a1 a2 hn64 a7 hst2 hJ
      have y2 : mV A3 (wSet (vU W 3 (mS st (mVC W th st).1 (W 3) (mVC W th st).2 (n + 1)).1) (mVC W th st).1) := by
        rw [vU_vU, vU_eq] at y2
        exact y2
      have y3 : mCo A3 (mS st (mVC W th st).1 (W 3) (mVC W th st).2 (n + 1)).2 := y3
      have e60 : A3 60 n = (mRS W th st).2 n := by rw [y3 n hn64, eK]
      have go := ih' I3 A3 (by omega) y2 y3 (a3.g y5) (a4.g y5) ((y4 2 (by decide)).trans a5) ((y4 0 (by decide)).trans a6) ((y4 1 (by decide)).trans a7)
      first | refine gfN rfl (by omega) (by omega) (nN_ge (by omega)) ?_ | refine gfN rfl (by omega) (by omega) (nN_lt (by omega)) ?_ | refine gfN rfl (by omega) (by omega) (nN_eq (by omega)) ?_ | refine gfN rfl (by omega) (by omega) (nN_ne (by omega)) ?_ | refine gfN rfl (by omega) (by omega) (nN_gt (by omega)) ?_ | refine gfN rfl (by omega) (by omega) (nN_le (by omega)) ?_
      repeat (first | refine gkn rfl rfl ?_ | refine gkm rfl rfl ?_ | refine gad rfl ?_ | refine gml rfl ?_ | refine gsb rfl (by omega) ?_ | refine gdv rfl (by omega) (by omega) (by omega) ?_ | refine grm rfl (by omega) (by omega) (by omega) ?_ | refine gic rfl rfl ?_ | refine gp rfl rfl rfl ?_ | refine gFl rfl (by rfl) ?_ | refine gAl rfl rfl (by rfl) (by omega) ?_ | refine gBl rfl rfl (by rfl) (by omega) ?_)
      refine gcv (As := [.inl (nI n)]) (rest := []) rfl (by decide) y1 (mU_obj _ _ _) rfl rfl (by decide) ?_
      repeat (first | refine gkn rfl rfl ?_ | refine gkm rfl rfl ?_ | refine gad rfl ?_ | refine gml rfl ?_ | refine gsb rfl (by omega) ?_ | refine gdv rfl (by omega) (by omega) (by omega) ?_ | refine grm rfl (by omega) (by omega) (by omega) ?_ | refine gic rfl rfl ?_ | refine gp rfl rfl rfl ?_ | refine gFl rfl (by rfl) ?_ | refine gAl rfl rfl (by rfl) (by omega) ?_ | refine gBl rfl rfl (by rfl) (by omega) ?_)
      rw [e60]
      refine gif' rfl (fun hz => ?_) (fun hz => ?_)
      · have hz : (mRS W th st).2 n = 0 := hz
        rw [decide_eq_false (fun q => q hz)] at go
        repeat (first | refine gkn rfl rfl ?_ | refine gkm rfl rfl ?_ | refine gad rfl ?_ | refine gml rfl ?_ | refine gsb rfl (by omega) ?_ | refine gdv rfl (by omega) (by omega) (by omega) ?_ | refine grm rfl (by omega) (by omega) (by omega) ?_ | refine gic rfl rfl ?_ | refine gp rfl rfl rfl ?_ | refine gFl rfl (by rfl) ?_ | refine gAl rfl rfl (by rfl) (by omega) ?_ | refine gBl rfl rfl (by rfl) (by omega) ?_)
        exact go
      · have hz : ¬ (mRS W th st).2 n = 0 := hz
        rw [decide_eq_true hz] at go
        repeat (first | refine gkn rfl rfl ?_ | refine gkm rfl rfl ?_ | refine gad rfl ?_ | refine gml rfl ?_ | refine gsb rfl (by omega) ?_ | refine gdv rfl (by omega) (by omega) (by omega) ?_ | refine grm rfl (by omega) (by omega) (by omega) ?_ | refine gic rfl rfl ?_ | refine gp rfl rfl rfl ?_ | refine gFl rfl (by rfl) ?_ | refine gAl rfl rfl (by rfl) (by omega) ?_ | refine gBl rfl rfl (by rfl) (by omega) ?_)
        exact go
  have L5 : ∀ k n (I2 : Nat → Int32) (A2 : Nat → Nat → Int32) (v : Option xV), n + k = 64 → mV A2 (wSet W (mC st (mD (W 0) (W 1) (W 2) th) (mD (W 0) (W 2) (W 1) th) (bV (W 0) (W 1) (W 2) th) (bC (W 0) (W 1) (W 2) th) n).1) → mCo A2 (mC st (mD (W 0) (W 1) (W 2) th) (mD (W 0) (W 2) (W 1) th) (bV (W 0) (W 1) (W 2) th) (bC (W 0) (W 1) (W 2) th) n).2 → mDs A2 1 (mD (W 0) (W 1) (W 2) th) → mDs A2 2 (mD (W 0) (W 2) (W 1) th) → I2 2 = bI true → I2 0 = nI th → I2 1 = nI st → xGo (xEx (d + 7)) xtb_103 K (112, [some (.inr (some 52)), some (.inl (nI n)), v], [.inl (nI 64), .inl (nI n)], mU σ I2 A2) := by
    intro k
    induction k with
    | zero =>
      intro n I2 A2 v hn a1 a2 a3 a4 a5 a6 a7
      obtain rfl : n = 64 := by omega
      first | refine gtN rfl (by omega) (by omega) (xN_ge (by omega)) ?_ | refine gtN rfl (by omega) (by omega) (xN_lt (by omega)) ?_ | refine gtN rfl (by omega) (by omega) (xN_eq (by omega)) ?_ | refine gtN rfl (by omega) (by omega) (xN_ne (by omega)) ?_ | refine gtN rfl (by omega) (by omega) (xN_gt (by omega)) ?_ | refine gtN rfl (by omega) (by omega) (xN_le (by omega)) ?_
      repeat (first | refine gkn rfl rfl ?_ | refine gkm rfl rfl ?_ | refine gad rfl ?_ | refine gml rfl ?_ | refine gsb rfl (by omega) ?_ | refine gdv rfl (by omega) (by omega) (by omega) ?_ | refine grm rfl (by omega) (by omega) (by omega) ?_ | refine gic rfl rfl ?_ | refine gp rfl rfl rfl ?_ | refine gFl rfl (by rfl) ?_ | refine gAl rfl rfl (by rfl) (by omega) ?_ | refine gBl rfl rfl (by rfl) (by omega) ?_)
      refine L6 64 0 I2 A2 rfl ?_ a2 a3 a4 a5 a6 a7
      show mV A2 (wSet (vU W 3 (W 3)) (mVC W th st).1)
      rw [vU_same]
      exact a1
    | succ k ih =>
      intro n I2 A2 v hn a1 a2 a3 a4 a5 a6 a7
      have hn64 : n < 64 := by omega
      have ok := (hVI n).ok (st := st) hXI
      obtain ⟨I3, A3, y1, y2, y3, y4, y5⟩ := r_follow (σ := σ) (I := I2) d a1 a2 a3 a4 hn64 a7 hst2 (fun q hq => bTo_some hq) (fun q hq => bTo_some hq) ok
      first | refine gfN rfl (by omega) (by omega) (nN_ge (by omega)) ?_ | refine gfN rfl (by omega) (by omega) (nN_lt (by omega)) ?_ | refine gfN rfl (by omega) (by omega) (nN_eq (by omega)) ?_ | refine gfN rfl (by omega) (by omega) (nN_ne (by omega)) ?_ | refine gfN rfl (by omega) (by omega) (nN_gt (by omega)) ?_ | refine gfN rfl (by omega) (by omega) (nN_le (by omega)) ?_
      repeat (first | refine gkn rfl rfl ?_ | refine gkm rfl rfl ?_ | refine gad rfl ?_ | refine gml rfl ?_ | refine gsb rfl (by omega) ?_ | refine gdv rfl (by omega) (by omega) (by omega) ?_ | refine grm rfl (by omega) (by omega) (by omega) ?_ | refine gic rfl rfl ?_ | refine gp rfl rfl rfl ?_ | refine gFl rfl (by rfl) ?_ | refine gAl rfl rfl (by rfl) (by omega) ?_ | refine gBl rfl rfl (by rfl) (by omega) ?_)
      refine gcv (As := [.inl (nI n)]) (rest := []) rfl (by decide) y1 (mU_obj _ _ _) rfl rfl (by decide) ?_
      repeat (first | refine gkn rfl rfl ?_ | refine gkm rfl rfl ?_ | refine gad rfl ?_ | refine gml rfl ?_ | refine gsb rfl (by omega) ?_ | refine gdv rfl (by omega) (by omega) (by omega) ?_ | refine grm rfl (by omega) (by omega) (by omega) ?_ | refine gic rfl rfl ?_ | refine gp rfl rfl rfl ?_ | refine gFl rfl (by rfl) ?_ | refine gAl rfl rfl (by rfl) (by omega) ?_ | refine gBl rfl rfl (by rfl) (by omega) ?_)
      exact ih (n + 1) I3 A3 _ (by omega) y2 y3 (a3.g y5) (a4.g y5) ((y4 2 (by decide)).trans a5) ((y4 0 (by decide)).trans a6) ((y4 1 (by decide)).trans a7)
  have hPok : ∀ s, plOk (bPs W th s) := fun s => by
    unfold bPs
    split
    · exact plOk_place _ _
    · exact plOk_place _ _
  have L4 : ∀ k n (I2 : Nat → Int32) (A2 : Nat → Nat → Int32) (v : Option xV), n + k = 64 → mV A2 W → (∀ s p, (s = 1 ∨ s = 2) → p < 64 → A2 56 (64 * (s - 1) + p) = oI ((rAll (W 0) (W s) th).1 p)) → mPl A2 (bPs W th) → (∀ s x, (s = 1 ∨ s = 2) → x < n → A2 58 (64 * (s - 1) + x) = oI (tS W (bPs W th) s x)) → (∀ x, x < 64 → A2 60 x = if x < n then bC (W 0) (W 1) (W 2) th x else 0) → I2 2 = bI true → I2 0 = nI th → I2 1 = nI st → xGo (xEx (d + 7)) xtb_103 K (82, [some (.inr (some 52)), some (.inl (nI n)), v], [.inl (nI 64), .inl (nI n)], mU σ I2 A2) := by
    intro k
    induction k with
    | zero =>
      intro n I2 A2 v hn a1 a2 a3 a4 a5 a6 a7 a8
      obtain rfl : n = 64 := by omega
      obtain ⟨A3, y1, y2, y3⟩ := r_versions (σ := σ) (I := I2) (d + 4) (S := tS W (bPs W th)) a1 a4 (fun t x ht hx hw => by
        obtain ⟨y, hy⟩ := sSt_some (B := W 0) (O := W (3 - t)) (Wt := tW W (bPs W th) t) hw
        exact ⟨y, sSt_lt (fun x y hx e => tW_lt hPok hx e) hx hy, hy⟩)
      have hV3 : mV A3 (wSet W (bV (W 0) (W 1) (W 2) th)) := y2.congr (fun t p ht hp => by
        unfold vBeg
        by_cases h6 : t = 6
        · subst h6; rw [vU_eq]; rfl
        · rw [vU_ne h6]
          by_cases h5 : t = 5
          · subst h5; rw [vU_eq]; rfl
          · rw [vU_ne h5]
            by_cases h4 : t = 4
            · subst h4; rw [vU_eq]; rfl
            · rw [vU_ne h4, wSet_lt (by omega)])
      first | refine gtN rfl (by omega) (by omega) (xN_ge (by omega)) ?_ | refine gtN rfl (by omega) (by omega) (xN_lt (by omega)) ?_ | refine gtN rfl (by omega) (by omega) (xN_eq (by omega)) ?_ | refine gtN rfl (by omega) (by omega) (xN_ne (by omega)) ?_ | refine gtN rfl (by omega) (by omega) (xN_gt (by omega)) ?_ | refine gtN rfl (by omega) (by omega) (xN_le (by omega)) ?_
      repeat (first | refine gkn rfl rfl ?_ | refine gkm rfl rfl ?_ | refine gad rfl ?_ | refine gml rfl ?_ | refine gsb rfl (by omega) ?_ | refine gdv rfl (by omega) (by omega) (by omega) ?_ | refine grm rfl (by omega) (by omega) (by omega) ?_ | refine gic rfl rfl ?_ | refine gp rfl rfl rfl ?_ | refine gFl rfl (by rfl) ?_ | refine gAl rfl rfl (by rfl) (by omega) ?_ | refine gBl rfl rfl (by rfl) (by omega) ?_)
      refine gcv (As := []) (rest := []) rfl (by decide) y1 (mU_obj _ _ _) rfl rfl (by decide) ?_
      repeat (first | refine gkn rfl rfl ?_ | refine gkm rfl rfl ?_ | refine gad rfl ?_ | refine gml rfl ?_ | refine gsb rfl (by omega) ?_ | refine gdv rfl (by omega) (by omega) (by omega) ?_ | refine grm rfl (by omega) (by omega) (by omega) ?_ | refine gic rfl rfl ?_ | refine gp rfl rfl rfl ?_ | refine gFl rfl (by rfl) ?_ | refine gAl rfl rfl (by rfl) (by omega) ?_ | refine gBl rfl rfl (by rfl) (by omega) ?_)
      refine L5 64 0 I2 A3 _ rfl hV3 (fun p hp => ?_) ⟨fun p hp => ?_, fun f hf => ?_, fun p hp => ?_⟩ ⟨fun p hp => ?_, fun f hf => ?_, fun p hp => ?_⟩ a6 a7 a8
      · rw [y3 60 (by decide), a5 p hp, if_pos hp]; rfl
      · rw [y3 56 (by decide)]; exact a2 1 p (Or.inl rfl) hp
      · rw [y3 59 (by decide)]; exact a3.1 1 f (Or.inl rfl) hf
      · rw [y3 58 (by decide)]; exact a4 1 p (Or.inl rfl) hp
      · rw [y3 56 (by decide)]; exact a2 2 p (Or.inr rfl) hp
      · rw [y3 59 (by decide)]; exact a3.1 2 f (Or.inr rfl) hf
      · rw [y3 58 (by decide)]; exact a4 2 p (Or.inr rfl) hp
    | succ k ih =>
      intro n I2 A2 v hn a1 a2 a3 a4 a5 a6 a7 a8
      have hn64 : n < 64 := by omega
      obtain ⟨A3, y1, y2, y3, y4⟩ := r_settle (σ := σ) (I := I2) (d + 4) (t := 1) (x := n) a1 a3 (Or.inl rfl) hn64
      have b1 : mV A3 W := a1.of (fun k hk => y4 k (by omega) (by omega))
      have b3 : mPl A3 (bPs W th) := ⟨fun s f hs hf => by rw [y4 59 (by decide) (by decide)]; exact a3.1 s f hs hf, a3.2⟩
      obtain ⟨A4, z1, z2, z3, z4⟩ := r_settle (σ := σ) (I := I2) (d + 4) (t := 2) (x := n) b1 b3 (Or.inr rfl) hn64
      first | refine gfN rfl (by omega) (by omega) (nN_ge (by omega)) ?_ | refine gfN rfl (by omega) (by omega) (nN_lt (by omega)) ?_ | refine gfN rfl (by omega) (by omega) (nN_eq (by omega)) ?_ | refine gfN rfl (by omega) (by omega) (nN_ne (by omega)) ?_ | refine gfN rfl (by omega) (by omega) (nN_gt (by omega)) ?_ | refine gfN rfl (by omega) (by omega) (nN_le (by omega)) ?_
      repeat (first | refine gkn rfl rfl ?_ | refine gkm rfl rfl ?_ | refine gad rfl ?_ | refine gml rfl ?_ | refine gsb rfl (by omega) ?_ | refine gdv rfl (by omega) (by omega) (by omega) ?_ | refine grm rfl (by omega) (by omega) (by omega) ?_ | refine gic rfl rfl ?_ | refine gp rfl rfl rfl ?_ | refine gFl rfl (by rfl) ?_ | refine gAl rfl rfl (by rfl) (by omega) ?_ | refine gBl rfl rfl (by rfl) (by omega) ?_)
      refine gcv (As := [.inl (nI 1), .inl (nI n)]) (rest := []) rfl (by decide) y1 (mU_obj _ _ _) rfl rfl (by decide) ?_
      repeat (first | refine gkn rfl rfl ?_ | refine gkm rfl rfl ?_ | refine gad rfl ?_ | refine gml rfl ?_ | refine gsb rfl (by omega) ?_ | refine gdv rfl (by omega) (by omega) (by omega) ?_ | refine grm rfl (by omega) (by omega) (by omega) ?_ | refine gic rfl rfl ?_ | refine gp rfl rfl rfl ?_ | refine gFl rfl (by rfl) ?_ | refine gAl rfl rfl (by rfl) (by omega) ?_ | refine gBl rfl rfl (by rfl) (by omega) ?_)
      refine gcv (As := [.inl (nI 2), .inl (nI n)]) (rest := []) rfl (by decide) z1 (mU_obj _ _ _) rfl rfl (by decide) ?_
      repeat (first | refine gkn rfl rfl ?_ | refine gkm rfl rfl ?_ | refine gad rfl ?_ | refine gml rfl ?_ | refine gsb rfl (by omega) ?_ | refine gdv rfl (by omega) (by omega) (by omega) ?_ | refine grm rfl (by omega) (by omega) (by omega) ?_ | refine gic rfl rfl ?_ | refine gp rfl rfl rfl ?_ | refine gFl rfl (by rfl) ?_ | refine gAl rfl rfl (by rfl) (by omega) ?_ | refine gBl rfl rfl (by rfl) (by omega) ?_)
      refine ih (n + 1) I2 A4 _ (by omega) (b1.of (fun k hk => z4 k (by omega) (by omega))) (fun s p hs hp => ?_) ⟨fun s f hs hf => by rw [z4 59 (by decide) (by decide)]; exact b3.1 s f hs hf, b3.2⟩ (fun s x hs hx => ?_) (fun x hx => ?_) a6 a7 a8
      · rw [z4 56 (by decide) (by decide), y4 56 (by decide) (by decide)]; exact a2 s p hs hp
      · rw [z2, y2]
        rcases hs with rfl | rfl
        · rw [upd_ne (by omega)]
          by_cases e : x = n
          · subst e; rw [upd_eq]
          · rw [upd_ne (by omega)]; exact a4 1 x (Or.inl rfl) (by omega)
        · by_cases e : x = n
          · subst e; rw [upd_eq]
          · rw [upd_ne (by omega), upd_ne (by omega)]; exact a4 2 x (Or.inr rfl) (by omega)
      · rw [z3, y3]
        by_cases e : x = n
        · subst e
          have e2 : A2 60 x = 0 := by rw [a5 x hx]; exact if_neg (Nat.lt_irrefl _)
          rw [upd_eq, upd_eq, e2, show (if x < x + 1 then bC (W 0) (W 1) (W 2) th x else (0 : Int32)) = bC (W 0) (W 1) (W 2) th x from if_pos (by omega)]
          rfl
        · rw [upd_ne e, upd_ne e, a5 x hx]
          by_cases e2 : x < n
          · rw [if_pos e2, if_pos (by omega)]
          · rw [if_neg e2, if_neg (by omega)]
  have places : ∀ s, (s = 1 ∨ s = 2) → ∀ (I2 : Nat → Int32) (A1 : Nat → Nat → Int32), mV A1 W → mR A1 s (rAll (W 0) (W s) th) → (∀ A2 : Nat → Nat → Int32, (∀ f, f < 8 → A2 59 (8 * (s - 1) + f) = plI (bPs W th s f)) → (∀ x, (x < 8 * (s - 1) ∨ 8 * (s - 1) + 8 ≤ x) → A2 59 x = A1 59 x) → (∀ k, k ≠ 59 → A2 k = A1 k) → xGo (xEx (d + 7)) xtb_103 K (71, [some (.inr (some 52)), some (.inl (nI s)), some (.inl (nI 8))], [], mU σ I2 A2)) → ∀ k f (A2 : Nat → Nat → Int32), f + k = 8 → (∀ g, g < f → A2 59 (8 * (s - 1) + g) = plI (bPs W th s g)) → (∀ x, (x < 8 * (s - 1) ∨ 8 * (s - 1) + 8 ≤ x) → A2 59 x = A1 59 x) → (∀ k, k ≠ 59 → A2 k = A1 k) → xGo (xEx (d + 7)) xtb_103 K (43, [some (.inr (some 52)), some (.inl (nI s)), some (.inl (nI f))], [.inl (nI 8), .inl (nI f)], mU σ I2 A2) := by
    intro s hs I2 A1 hV hR hend k
    induction k with
    | zero =>
      intro f A2 hf b1 b2 b3
      obtain rfl : f = 8 := by omega
      first | refine gtN rfl (by omega) (by omega) (xN_ge (by omega)) ?_ | refine gtN rfl (by omega) (by omega) (xN_lt (by omega)) ?_ | refine gtN rfl (by omega) (by omega) (xN_eq (by omega)) ?_ | refine gtN rfl (by omega) (by omega) (xN_ne (by omega)) ?_ | refine gtN rfl (by omega) (by omega) (xN_gt (by omega)) ?_ | refine gtN rfl (by omega) (by omega) (xN_le (by omega)) ?_
      exact hend A2 b1 b2 b3
    | succ k ih =>
      intro f A2 hf b1 b2 b3
      have hV2 : mV A2 W := hV.of (fun k hk => b3 k (by omega))
      have hR2 : mR A2 s (rAll (W 0) (W s) th) := ⟨hR.1, fun p hp => by rw [b3 56 (by decide)]; exact hR.2.1 p hp, fun p hp => by rw [b3 57 (by decide)]; exact hR.2.2 p hp⟩
      have y := r_newPlaceOf (σ := σ) (I := I2) (d + 5) (f := f) hV2 hR2 hs (by omega)
      have eP : pPlace (W s) (rAll (W 0) (W s) th) f = bPs W th s f := by
        rcases hs with rfl | rfl
        · rfl
        · rfl
      rw [eP] at y
      first | refine gfN rfl (by omega) (by omega) (nN_ge (by omega)) ?_ | refine gfN rfl (by omega) (by omega) (nN_lt (by omega)) ?_ | refine gfN rfl (by omega) (by omega) (nN_eq (by omega)) ?_ | refine gfN rfl (by omega) (by omega) (nN_ne (by omega)) ?_ | refine gfN rfl (by omega) (by omega) (nN_gt (by omega)) ?_ | refine gfN rfl (by omega) (by omega) (nN_le (by omega)) ?_
      repeat (first | refine gkn rfl rfl ?_ | refine gkm rfl rfl ?_ | refine gad rfl ?_ | refine gml rfl ?_ | refine gsb rfl (by omega) ?_ | refine gdv rfl (by omega) (by omega) (by omega) ?_ | refine grm rfl (by omega) (by omega) (by omega) ?_ | refine gic rfl rfl ?_ | refine gp rfl rfl rfl ?_ | refine gFl rfl (by rfl) ?_ | refine gAl rfl rfl (by rfl) (by omega) ?_ | refine gBl rfl rfl (by rfl) (by omega) ?_)
      refine gcv (As := [.inl (nI s), .inl (nI f)]) (rest := [.inl (nI (8 * (s - 1) + f)), .inr (some 59)]) rfl (by decide) y (mU_obj _ _ _) rfl rfl (Nat.le_of_ble_eq_true rfl) ?_
      refine gAs rfl rfl rfl (by omega) ?_
      repeat (first | refine gkn rfl rfl ?_ | refine gkm rfl rfl ?_ | refine gad rfl ?_ | refine gml rfl ?_ | refine gsb rfl (by omega) ?_ | refine gdv rfl (by omega) (by omega) (by omega) ?_ | refine grm rfl (by omega) (by omega) (by omega) ?_ | refine gic rfl rfl ?_ | refine gp rfl rfl rfl ?_ | refine gFl rfl (by rfl) ?_ | refine gAl rfl rfl (by rfl) (by omega) ?_ | refine gBl rfl rfl (by rfl) (by omega) ?_)
      refine ih (f + 1) _ (by omega) (fun g hg => ?_) (fun x hx => ?_) (fun k hk => (aU_ne hk).trans (b3 k hk))
      · rw [aU_eq]
        by_cases e : g = f
        · rw [e, upd_eq]
        · rw [upd_ne (by omega)]; exact b1 g (by omega)
      · rw [aU_eq, upd_ne (by omega)]; exact b2 x hx
  have L2 : ∀ (I2 : Nat → Int32) (A1 : Nat → Nat → Int32), mV A1 W → (∀ x, x < 64 → A1 60 x = 0) → I2 2 = bI true → I2 0 = nI th → I2 1 = nI st → xGo (xEx (d + 7)) xtb_103 K (26, [some (.inr (some 52)), some (.inl (nI 64)), none], [], mU σ I2 A1) := by
    intro I2 A1 hV h60 a6 a7 a8
    obtain ⟨A2, y1, y2, y3⟩ := r_renames (σ := σ) (I := I2) (d + 1) (s := 1) hV (Or.inl rfl) a7 h1 hth
    rw [rAll8_eq] at y2
    have hV2 := hV.aR y3
    repeat (first | refine gkn rfl rfl ?_ | refine gkm rfl rfl ?_ | refine gad rfl ?_ | refine gml rfl ?_ | refine gsb rfl (by omega) ?_ | refine gdv rfl (by omega) (by omega) (by omega) ?_ | refine grm rfl (by omega) (by omega) (by omega) ?_ | refine gic rfl rfl ?_ | refine gp rfl rfl rfl ?_ | refine gFl rfl (by rfl) ?_ | refine gAl rfl rfl (by rfl) (by omega) ?_ | refine gBl rfl rfl (by rfl) (by omega) ?_)
    first | refine gfN rfl (by omega) (by omega) (nN_ge (by omega)) ?_ | refine gfN rfl (by omega) (by omega) (nN_lt (by omega)) ?_ | refine gfN rfl (by omega) (by omega) (nN_eq (by omega)) ?_ | refine gfN rfl (by omega) (by omega) (nN_ne (by omega)) ?_ | refine gfN rfl (by omega) (by omega) (nN_gt (by omega)) ?_ | refine gfN rfl (by omega) (by omega) (nN_le (by omega)) ?_
    repeat (first | refine gkn rfl rfl ?_ | refine gkm rfl rfl ?_ | refine gad rfl ?_ | refine gml rfl ?_ | refine gsb rfl (by omega) ?_ | refine gdv rfl (by omega) (by omega) (by omega) ?_ | refine grm rfl (by omega) (by omega) (by omega) ?_ | refine gic rfl rfl ?_ | refine gp rfl rfl rfl ?_ | refine gFl rfl (by rfl) ?_ | refine gAl rfl rfl (by rfl) (by omega) ?_ | refine gBl rfl rfl (by rfl) (by omega) ?_)
    refine gcv (As := [.inl (nI 1)]) (rest := []) rfl (by decide) y1 (mU_obj _ _ _) rfl rfl (by decide) ?_
    repeat (first | refine gkn rfl rfl ?_ | refine gkm rfl rfl ?_ | refine gad rfl ?_ | refine gml rfl ?_ | refine gsb rfl (by omega) ?_ | refine gdv rfl (by omega) (by omega) (by omega) ?_ | refine grm rfl (by omega) (by omega) (by omega) ?_ | refine gic rfl rfl ?_ | refine gp rfl rfl rfl ?_ | refine gFl rfl (by rfl) ?_ | refine gAl rfl rfl (by rfl) (by omega) ?_ | refine gBl rfl rfl (by rfl) (by omega) ?_)
    refine places 1 (Or.inl rfl) I2 A2 hV2 y2 (fun A3 b1 b2 b3 => ?_) 8 0 A2 rfl (fun g hg => absurd hg (Nat.not_lt_zero _)) (fun _ _ => rfl) (fun _ _ => rfl)
    have hV3 : mV A3 W := hV2.of (fun k hk => b3 k (by omega))
    obtain ⟨A4, z1, z2, z3⟩ := r_renames (σ := σ) (I := I2) (d + 1) (s := 2) hV3 (Or.inr rfl) a7 h1 hth
    rw [rAll8_eq] at z2
    have hV4 := hV3.aR z3
    repeat (first | refine gkn rfl rfl ?_ | refine gkm rfl rfl ?_ | refine gad rfl ?_ | refine gml rfl ?_ | refine gsb rfl (by omega) ?_ | refine gdv rfl (by omega) (by omega) (by omega) ?_ | refine grm rfl (by omega) (by omega) (by omega) ?_ | refine gic rfl rfl ?_ | refine gp rfl rfl rfl ?_ | refine gFl rfl (by rfl) ?_ | refine gAl rfl rfl (by rfl) (by omega) ?_ | refine gBl rfl rfl (by rfl) (by omega) ?_)
    first | refine gfN rfl (by omega) (by omega) (nN_ge (by omega)) ?_ | refine gfN rfl (by omega) (by omega) (nN_lt (by omega)) ?_ | refine gfN rfl (by omega) (by omega) (nN_eq (by omega)) ?_ | refine gfN rfl (by omega) (by omega) (nN_ne (by omega)) ?_ | refine gfN rfl (by omega) (by omega) (nN_gt (by omega)) ?_ | refine gfN rfl (by omega) (by omega) (nN_le (by omega)) ?_
    repeat (first | refine gkn rfl rfl ?_ | refine gkm rfl rfl ?_ | refine gad rfl ?_ | refine gml rfl ?_ | refine gsb rfl (by omega) ?_ | refine gdv rfl (by omega) (by omega) (by omega) ?_ | refine grm rfl (by omega) (by omega) (by omega) ?_ | refine gic rfl rfl ?_ | refine gp rfl rfl rfl ?_ | refine gFl rfl (by rfl) ?_ | refine gAl rfl rfl (by rfl) (by omega) ?_ | refine gBl rfl rfl (by rfl) (by omega) ?_)
    refine gcv (As := [.inl (nI 2)]) (rest := []) rfl (by decide) z1 (mU_obj _ _ _) rfl rfl (by decide) ?_
    repeat (first | refine gkn rfl rfl ?_ | refine gkm rfl rfl ?_ | refine gad rfl ?_ | refine gml rfl ?_ | refine gsb rfl (by omega) ?_ | refine gdv rfl (by omega) (by omega) (by omega) ?_ | refine grm rfl (by omega) (by omega) (by omega) ?_ | refine gic rfl rfl ?_ | refine gp rfl rfl rfl ?_ | refine gFl rfl (by rfl) ?_ | refine gAl rfl rfl (by rfl) (by omega) ?_ | refine gBl rfl rfl (by rfl) (by omega) ?_)
    refine places 2 (Or.inr rfl) I2 A4 hV4 z2 (fun A5 c1 c2 c3 => ?_) 8 0 A4 rfl (fun g hg => absurd hg (Nat.not_lt_zero _)) (fun _ _ => rfl) (fun _ _ => rfl)
    repeat (first | refine gkn rfl rfl ?_ | refine gkm rfl rfl ?_ | refine gad rfl ?_ | refine gml rfl ?_ | refine gsb rfl (by omega) ?_ | refine gdv rfl (by omega) (by omega) (by omega) ?_ | refine grm rfl (by omega) (by omega) (by omega) ?_ | refine gic rfl rfl ?_ | refine gp rfl rfl rfl ?_ | refine gFl rfl (by rfl) ?_ | refine gAl rfl rfl (by rfl) (by omega) ?_ | refine gBl rfl rfl (by rfl) (by omega) ?_)
    first | refine gtN rfl (by omega) (by omega) (xN_ge (by omega)) ?_ | refine gtN rfl (by omega) (by omega) (xN_lt (by omega)) ?_ | refine gtN rfl (by omega) (by omega) (xN_eq (by omega)) ?_ | refine gtN rfl (by omega) (by omega) (xN_ne (by omega)) ?_ | refine gtN rfl (by omega) (by omega) (xN_gt (by omega)) ?_ | refine gtN rfl (by omega) (by omega) (xN_le (by omega)) ?_
    repeat (first | refine gkn rfl rfl ?_ | refine gkm rfl rfl ?_ | refine gad rfl ?_ | refine gml rfl ?_ | refine gsb rfl (by omega) ?_ | refine gdv rfl (by omega) (by omega) (by omega) ?_ | refine grm rfl (by omega) (by omega) (by omega) ?_ | refine gic rfl rfl ?_ | refine gp rfl rfl rfl ?_ | refine gFl rfl (by rfl) ?_ | refine gAl rfl rfl (by rfl) (by omega) ?_ | refine gBl rfl rfl (by rfl) (by omega) ?_)
    refine L4 64 0 I2 A5 _ rfl (hV4.of (fun k hk => c3 k (by omega))) (fun s p hs hp => ?_) ⟨fun s f hs hf => ?_, hPok⟩ (fun s x hs hx => absurd hx (Nat.not_lt_zero _)) (fun x hx => ?_) a6 a7 a8
    · rw [c3 56 (by decide)]
      rcases hs with rfl | rfl
      · rw [(z3.2 (64 * (1 - 1) + p) (by omega)).1, b3 56 (by decide)]
        exact y2.2.1 p hp
      · exact z2.2.1 p hp
    · rcases hs with rfl | rfl
      · rw [c2 (8 * (1 - 1) + f) (by omega), z3.1 59 (by decide) (by decide)]
        exact b1 f hf
      · exact c1 f hf
    · rw [c3 60 (by decide), z3.1 60 (by decide) (by decide), b3 60 (by decide), y3.1 60 (by decide) (by decide), h60 x hx, if_neg (Nat.not_lt_zero _)]
  have L1 : ∀ k n (I2 : Nat → Int32) (A2 : Nat → Nat → Int32), n + k = 64 → mV A2 W → (∀ x, x < n → A2 60 x = 0) → I2 2 = bI true → I2 0 = nI th → I2 1 = nI st → xGo (xEx (d + 7)) xtb_103 K (10, [some (.inr (some 52)), some (.inl (nI n)), none], [.inl (nI 64), .inl (nI n)], mU σ I2 A2) := by
    intro k
    induction k with
    | zero =>
      intro n I2 A2 hn a1 a2 a6 a7 a8
      obtain rfl : n = 64 := by omega
      first | refine gtN rfl (by omega) (by omega) (xN_ge (by omega)) ?_ | refine gtN rfl (by omega) (by omega) (xN_lt (by omega)) ?_ | refine gtN rfl (by omega) (by omega) (xN_eq (by omega)) ?_ | refine gtN rfl (by omega) (by omega) (xN_ne (by omega)) ?_ | refine gtN rfl (by omega) (by omega) (xN_gt (by omega)) ?_ | refine gtN rfl (by omega) (by omega) (xN_le (by omega)) ?_
      exact L2 I2 A2 a1 a2 a6 a7 a8
    | succ k ih =>
      intro n I2 A2 hn a1 a2 a6 a7 a8
      first | refine gfN rfl (by omega) (by omega) (nN_ge (by omega)) ?_ | refine gfN rfl (by omega) (by omega) (nN_lt (by omega)) ?_ | refine gfN rfl (by omega) (by omega) (nN_eq (by omega)) ?_ | refine gfN rfl (by omega) (by omega) (nN_ne (by omega)) ?_ | refine gfN rfl (by omega) (by omega) (nN_gt (by omega)) ?_ | refine gfN rfl (by omega) (by omega) (nN_le (by omega)) ?_
      repeat (first | refine gkn rfl rfl ?_ | refine gkm rfl rfl ?_ | refine gad rfl ?_ | refine gml rfl ?_ | refine gsb rfl (by omega) ?_ | refine gdv rfl (by omega) (by omega) (by omega) ?_ | refine grm rfl (by omega) (by omega) (by omega) ?_ | refine gic rfl rfl ?_ | refine gp rfl rfl rfl ?_ | refine gFl rfl (by rfl) ?_ | refine gAl rfl rfl (by rfl) (by omega) ?_ | refine gBl rfl rfl (by rfl) (by omega) ?_)
      refine gAs rfl rfl rfl (by omega) ?_
      repeat (first | refine gkn rfl rfl ?_ | refine gkm rfl rfl ?_ | refine gad rfl ?_ | refine gml rfl ?_ | refine gsb rfl (by omega) ?_ | refine gdv rfl (by omega) (by omega) (by omega) ?_ | refine grm rfl (by omega) (by omega) (by omega) ?_ | refine gic rfl rfl ?_ | refine gp rfl rfl rfl ?_ | refine gFl rfl (by rfl) ?_ | refine gAl rfl rfl (by rfl) (by omega) ?_ | refine gBl rfl rfl (by rfl) (by omega) ?_)
      refine ih (n + 1) I2 _ (by omega) (a1.of (fun k hk => aU_ne (by omega))) (fun x hx => ?_) a6 a7 a8
      rw [aU_eq]
      by_cases e : x = n
      · rw [e, upd_eq]; rfl
      · rw [upd_ne e]; exact a2 x (by omega)
  have main : xGo (xEx (d + 7)) xtb_103 K (0, [some (.inr (some 52)), none, none], [], mU σ I A) := by
    repeat (first | refine gkn rfl rfl ?_ | refine gkm rfl rfl ?_ | refine gad rfl ?_ | refine gml rfl ?_ | refine gsb rfl (by omega) ?_ | refine gdv rfl (by omega) (by omega) (by omega) ?_ | refine grm rfl (by omega) (by omega) (by omega) ?_ | refine gic rfl rfl ?_ | refine gp rfl rfl rfl ?_ | refine gFl rfl (by rfl) ?_ | refine gAl rfl rfl (by rfl) (by omega) ?_ | refine gBl rfl rfl (by rfl) (by omega) ?_)
    refine gFs rfl (by decide) (Or.inr ⟨rfl, Or.inr rfl⟩) ?_
    repeat (first | refine gkn rfl rfl ?_ | refine gkm rfl rfl ?_ | refine gad rfl ?_ | refine gml rfl ?_ | refine gsb rfl (by omega) ?_ | refine gdv rfl (by omega) (by omega) (by omega) ?_ | refine grm rfl (by omega) (by omega) (by omega) ?_ | refine gic rfl rfl ?_ | refine gp rfl rfl rfl ?_ | refine gFl rfl (by rfl) ?_ | refine gAl rfl rfl (by rfl) (by omega) ?_ | refine gBl rfl rfl (by rfl) (by omega) ?_)
    exact L1 64 0 _ A rfl h (fun x hx => absurd hx (Nat.not_lt_zero _)) (by rw [upd_eq]; rfl) (by rw [upd_ne (by decide)]; exact hI0) (by rw [upd_ne (by decide)]; exact hst)
  obtain ⟨r, σ', hex, rfl, I', A', rfl, g⟩ := ex_of (d := d + 7) (y := 103) (as := [.inr (some 52)]) (σ := mU σ I A) (K := K) (by decide) rfl main
  exact ⟨I', A', hex, g⟩
end REF
