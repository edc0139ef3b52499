/-! MODULE: the reference: a gap, the joined text -/
theorem pOK_sub {X : List Int32} {s t : Nat} (h : pOK X) (hst : s ≤ t) (ht : t ≤ X.length) : pOK (pCut X s t) := by
  intro j hj
  unfold pCut at hj ⊢
  rw [pSub_len (by omega)] at hj
  rw [pSub_get hj]
  exact h (s + j) (by omega)
theorem pCut_len {X : List Int32} {s t : Nat} (hst : s ≤ t) (ht : t ≤ X.length) : (pCut X s t).length = t - s := pSub_len (by omega)
theorem sg.cut {A : Nat → Nat → Int32} {x s t : Nat} {X : List Int32} (h : sg A x X) (hst : s ≤ t) (ht : t ≤ X.length) : sg A (x + s) (pCut X s t) := by
  obtain ⟨h1, h2, h3⟩ := h
  refine ⟨by rw [pCut_len hst ht]; omega, pOK_sub h2 hst ht, fun j hj => ?_⟩
  rw [pCut_len hst ht] at hj
  unfold pCut
  rw [pSub_get hj, Nat.add_assoc]
  exact h3 (s + j) (by omega)
/-- nothing changed but what is written -/
def wS (I : Nat → Int32) (A : Nat → Nat → Int32) (I' : Nat → Int32) (A' : Nat → Nat → Int32) : Prop := (∀ j, j ≠ 12 → I' j = I j) ∧ (∀ j, j ≠ 61 → A' j = A j)
theorem wS.trans {I I' I'' : Nat → Int32} {A A' A'' : Nat → Nat → Int32} (h1 : wS I A I' A') (h2 : wS I' A' I'' A'') : wS I A I'' A'' := ⟨fun j hj => (h2.1 j hj).trans (h1.1 j hj), fun j hj => (h2.2 j hj).trans (h1.2 j hj)⟩
section REF
variable {σ : xS} {I : Nat → Int32} {A : Nat → Nat → Int32}
theorem r_wA (d : Nat) {w X : List Int32} {x s t e1 e2 : Nat} (h : mO I A w) (hX : sg A x X) (hst : s ≤ t) (ht : t ≤ X.length) (hw : w.length + (t - s) ≤ 76) (q1 : e1 = x + s) (q2 : e2 = x + t) : ∃ I' A', xEx (d + 2) 130 [.inr (some 52), .inl (nI e1), .inl (nI e2)] (mU σ I A) none (mU σ I' A') ∧ mO I' A' (w ++ pCut X s t) ∧ wS I A I' A' := by
  obtain ⟨I', A', y1, y2, y3, y4⟩ := r_writeAll (σ := σ) d h (hX.cut hst ht) (by rw [pCut_len hst ht]; exact hw)
  rw [pCut_len hst ht, show x + s + (t - s) = x + t by omega] at y1
  rw [q1, q2]
  exact ⟨I', A', y1, y2, y3, y4⟩
theorem r_gap (d : Nat) {w O X Y : List Int32} {o x y oo xx yy st : Nat} {c : Bool} (h : mO I A w) (hO : sg A o O) (hX : sg A x X) (hY : sg A y Y) (eo : oo = o + O.length) (ex : xx = x + X.length) (ey : yy = y + Y.length) (hst : I 1 = nI st) (hst2 : st ≤ 2) (hc : I 18 = bI c) (hw : w.length + (pGap st O X Y).length ≤ 76) : ∃ I' A', xEx (d + 3) 128 [.inr (some 52), .inl (nI o), .inl (nI oo), .inl (nI x), .inl (nI xx), .inl (nI y), .inl (nI yy)] (mU σ I A) none (mU σ I' A') ∧ mO I' A' (w ++ pGap st O X Y) ∧ I' 18 = bI (c || pBad O X Y) ∧ (∀ j, j ≠ 12 → j ≠ 18 → I' j = I j) ∧ (∀ j, j ≠ 61 → A' j = A j) := by
  subst eo ex ey
  let K : Option xV → xS → Prop := fun r0 σ0 => r0 = none ∧ ∃ I' A', σ0 = mU σ I' A' ∧ mO I' A' (w ++ pGap st O X Y) ∧ I' 18 = bI (c || pBad O X Y) ∧ (∀ j, j ≠ 12 → j ≠ 18 → I' j = I j) ∧ (∀ j, j ≠ 61 → A' j = A j)
  have last : ¬ X = O → ¬ Y = O → ¬ X = Y → ∀ (I1 : Nat → Int32), mO I1 A w → I1 18 = bI true → (∀ j, j ≠ 12 → j ≠ 18 → I1 j = I j) → ∀ b e, b = pBn st X Y → e = pEn st X Y → xGo (xEx (d + 2)) xtb_128 K (180, [some (.inr (some 52)), some (.inl (nI o)), some (.inl (nI (o + O.length))), some (.inl (nI x)), some (.inl (nI (x + X.length))), some (.inl (nI y)), some (.inl (nI (y + Y.length))), some (.inl (nI b)), some (.inl (nI e))], [], mU σ I1 A) := by
    intro n1 n2 n3 I1 h1 h18 hI1 b e hb he
    have hle := pBE_le st X Y
    rw [← hb, ← he] at hle
    have eG : pGap st O X Y = pClash st O X Y b e := by
      unfold pGap
      rw [if_neg n1, if_neg (fun q => q.elim n2 n3), hb, he]
    have eB : (c || pBad O X Y) = true := by
      unfold pBad
      rw [decide_eq_false n1, decide_eq_false n2, decide_eq_false n3]
      simp
    have hlen := hw
    rw [eG] at hlen
    unfold pClash at hlen
    simp only [List.length_append, List.length_cons, List.length_nil] at hlen
    rw [pCut_len (X := X) (s := 0) (t := b) (Nat.zero_le _) (by omega), pCut_len (X := X) (s := b) (t := X.length - e) (by omega) (by omega), pCut_len (X := Y) (s := b) (t := Y.length - e) (by omega) (by omega), pCut_len (X := X) (s := X.length - e) (t := X.length) (by omega) (Nat.le_refl _)] at hlen
    have hX1 := hX.1
    have hY1 := hY.1
    have hO1 := hO.1
    obtain ⟨I2, A2, y1, y2, y3⟩ := r_wA (σ := σ) d (s := 0) (t := b) (e1 := x) (e2 := x + b) h1 hX (Nat.zero_le _) (by omega) (by omega) rfl rfl
    obtain ⟨I3, A3, u1, u2, u3, u4⟩ := r_write (σ := σ) (d + 1) (k := 16) y2 (by decide) (by decide) (by rw [List.length_append, pCut_len (Nat.zero_le _) (by omega)]; omega)
    have f3 : wS I1 A I3 A3 := y3.trans ⟨u3, u4⟩
    obtain ⟨I4, A4, v1, v2, v3⟩ := r_wA (σ := σ) d (s := b) (t := X.length - e) (e1 := x + b) (e2 := x + X.length - e) u2 (hX.of (f3.2 55 (by decide))) (by omega) (by omega) (by simp only [List.length_append, List.length_cons, List.length_nil]; rw [pCut_len (Nat.zero_le _) (by omega)]; omega) rfl (by omega)
    have f4 := f3.trans v3
    repeat (first | refine gkn rfl rfl ?_ | refine gkm rfl rfl ?_ | refine gad rfl ?_ | refine gml rfl ?_ | refine gsb rfl (by omega) ?_ | refine gdv rfl (by omega) (by omega) (by omega) ?_ | refine grm rfl (by omega) (by omega) (by omega) ?_ | refine gic rfl rfl ?_ | refine gp rfl rfl rfl ?_ | refine gFl rfl (by rfl) ?_ | refine gAl rfl rfl (by rfl) (by omega) ?_ | refine gBl rfl rfl (by rfl) (by omega) ?_)
    refine gcv (As := [.inl (nI x), .inl (nI (x + b))]) (rest := []) rfl (by decide) y1 (mU_obj _ _ _) rfl rfl (by decide) ?_
    repeat (first | refine gkn rfl rfl ?_ | refine gkm rfl rfl ?_ | refine gad rfl ?_ | refine gml rfl ?_ | refine gsb rfl (by omega) ?_ | refine gdv rfl (by omega) (by omega) (by omega) ?_ | refine grm rfl (by omega) (by omega) (by omega) ?_ | refine gic rfl rfl ?_ | refine gp rfl rfl rfl ?_ | refine gFl rfl (by rfl) ?_ | refine gAl rfl rfl (by rfl) (by omega) ?_ | refine gBl rfl rfl (by rfl) (by omega) ?_)
    refine gcv (As := [.inl (nI 16)]) (rest := []) rfl (by decide) u1 (mU_obj _ _ _) rfl rfl (by decide) ?_
    repeat (first | refine gkn rfl rfl ?_ | refine gkm rfl rfl ?_ | refine gad rfl ?_ | refine gml rfl ?_ | refine gsb rfl (by omega) ?_ | refine gdv rfl (by omega) (by omega) (by omega) ?_ | refine grm rfl (by omega) (by omega) (by omega) ?_ | refine gic rfl rfl ?_ | refine gp rfl rfl rfl ?_ | refine gFl rfl (by rfl) ?_ | refine gAl rfl rfl (by rfl) (by omega) ?_ | refine gBl rfl rfl (by rfl) (by omega) ?_)
    refine gcv (As := [.inl (nI (x + b)), .inl (nI (x + X.length - e))]) (rest := []) rfl (by decide) v1 (mU_obj _ _ _) rfl rfl (by decide) ?_
    repeat (first | refine gkn rfl rfl ?_ | refine gkm rfl rfl ?_ | refine gad rfl ?_ | refine gml rfl ?_ | refine gsb rfl (by omega) ?_ | refine gdv rfl (by omega) (by omega) (by omega) ?_ | refine grm rfl (by omega) (by omega) (by omega) ?_ | refine gic rfl rfl ?_ | refine gp rfl rfl rfl ?_ | refine gFl rfl (by rfl) ?_ | refine gAl rfl rfl (by rfl) (by omega) ?_ | refine gBl rfl rfl (by rfl) (by omega) ?_)
    rw [f4.1 1 (by decide), hI1 1 (by decide) (by decide), hst]
    have tail : ∀ (w5 : List Int32) (I5 : Nat → Int32) (A5 : Nat → Nat → Int32), mO I5 A5 w5 → wS I1 A I5 A5 → w5 = w ++ pCut X 0 b ++ [nI 16] ++ pCut X b (X.length - e) ++ (if st = 0 then [] else [nI 17] ++ O) → xGo (xEx (d + 2)) xtb_128 K (227, [some (.inr (some 52)), some (.inl (nI o)), some (.inl (nI (o + O.length))), some (.inl (nI x)), some (.inl (nI (x + X.length))), some (.inl (nI y)), some (.inl (nI (y + Y.length))), some (.inl (nI b)), some (.inl (nI e))], [], mU σ I5 A5) := by
      intro w5 I5 A5 o5 f5 e5
      have l5 : w5.length = w.length + b + 1 + (X.length - e - b) + (if st = 0 then [] else [nI 17] ++ O).length := by
        rw [e5]
        simp only [List.length_append, List.length_cons, List.length_nil]
        rw [pCut_len (X := X) (s := 0) (t := b) (Nat.zero_le _) (by omega), pCut_len (X := X) (s := b) (t := X.length - e) (by omega) (by omega)]
        omega
      obtain ⟨I6, A6, a1, a2, a3, a4⟩ := r_write (σ := σ) (d + 1) (k := 18) o5 (by decide) (by decide) (by omega)
      have f6 : wS I1 A I6 A6 := f5.trans ⟨a3, a4⟩
      obtain ⟨I7, A7, b1, b2, b3⟩ := r_wA (σ := σ) d (s := b) (t := Y.length - e) (e1 := y + b) (e2 := y + Y.length - e) a2 (hY.of (f6.2 55 (by decide))) (by omega) (by omega) (by simp only [List.length_append, List.length_cons, List.length_nil]; omega) rfl (by omega)
      have f7 := f6.trans b3
      obtain ⟨I8, A8, c1, c2, c3, c4⟩ := r_write (σ := σ) (d + 1) (k := 19) b2 (by decide) (by decide) (by simp only [List.length_append, List.length_cons, List.length_nil]; rw [pCut_len (by omega) (by omega)]; omega)
      have f8 : wS I1 A I8 A8 := f7.trans ⟨c3, c4⟩
      obtain ⟨I9, A9, d1, d2, d3⟩ := r_wA (σ := σ) d (s := X.length - e) (t := X.length) (e1 := x + X.length - e) (e2 := x + X.length) c2 (hX.of (f8.2 55 (by decide))) (by omega) (Nat.le_refl _) (by simp only [List.length_append, List.length_cons, List.length_nil]; rw [pCut_len (by omega) (by omega)]; omega) (by omega) rfl
      have f9 := f8.trans d3
      repeat (first | refine gkn rfl rfl ?_ | refine gkm rfl rfl ?_ | refine gad rfl ?_ | refine gml rfl ?_ | refine gsb rfl (by omega) ?_ | refine gdv rfl (by omega) (by omega) (by omega) ?_ | refine grm rfl (by omega) (by omega) (by omega) ?_ | refine gic rfl rfl ?_ | refine gp rfl rfl rfl ?_ | refine gFl rfl (by rfl) ?_ | refine gAl rfl rfl (by rfl) (by omega) ?_ | refine gBl rfl rfl (by rfl) (by omega) ?_)
      refine gcv (As := [.inl (nI 18)]) (rest := []) rfl (by decide) a1 (mU_obj _ _ _) rfl rfl (by decide) ?_
      repeat (first | refine gkn rfl rfl ?_ | refine gkm rfl rfl ?_ | refine gad rfl ?_ | refine gml rfl ?_ | refine gsb rfl (by omega) ?_ | refine gdv rfl (by omega) (by omega) (by omega) ?_ | refine grm rfl (by omega) (by omega) (by omega) ?_ | refine gic rfl rfl ?_ | refine gp rfl rfl rfl ?_ | refine gFl rfl (by rfl) ?_ | refine gAl rfl rfl (by rfl) (by omega) ?_ | refine gBl rfl rfl (by rfl) (by omega) ?_)
      refine gcv (As := [.inl (nI (y + b)), .inl (nI (y + Y.length - e))]) (rest := []) rfl (by decide) b1 (mU_obj _ _ _) rfl rfl (by decide) ?_
      repeat (first | refine gkn rfl rfl ?_ | refine gkm rfl rfl ?_ | refine gad rfl ?_ | refine gml rfl ?_ | refine gsb rfl (by omega) ?_ | refine gdv rfl (by omega) (by omega) (by omega) ?_ | refine grm rfl (by omega) (by omega) (by omega) ?_ | refine gic rfl rfl ?_ | refine gp rfl rfl rfl ?_ | refine gFl rfl (by rfl) ?_ | refine gAl rfl rfl (by rfl) (by omega) ?_ | refine gBl rfl rfl (by rfl) (by omega) ?_)
      refine gcv (As := [.inl (nI 19)]) (rest := []) rfl (by decide) c1 (mU_obj _ _ _) rfl rfl (by decide) ?_
      repeat (first | refine gkn rfl rfl ?_ | refine gkm rfl rfl ?_ | refine gad rfl ?_ | refine gml rfl ?_ | refine gsb rfl (by omega) ?_ | refine gdv rfl (by omega) (by omega) (by omega) ?_ | refine grm rfl (by omega) (by omega) (by omega) ?_ | refine gic rfl rfl ?_ | refine gp rfl rfl rfl ?_ | refine gFl rfl (by rfl) ?_ | refine gAl rfl rfl (by rfl) (by omega) ?_ | refine gBl rfl rfl (by rfl) (by omega) ?_)
      refine gcv (As := [.inl (nI (x + X.length - e)), .inl (nI (x + X.length))]) (rest := []) rfl (by decide) d1 (mU_obj _ _ _) rfl rfl (by decide) ?_
      refine grv rfl ⟨rfl, I9, A9, rfl, ?_, ?_, fun j j1 j2 => (f9.1 j j1).trans (hI1 j j1 j2), f9.2⟩
      · rw [eG]
        unfold pClash
        rw [e5] at d2
        simp only [List.append_assoc] at d2 ⊢
        exact d2
      · rw [f9.1 18 (by decide), h18, eB]
    by_cases h0 : st = 0
    · first | refine gt0 rfl (by omega) (xN_ge (by omega)) ?_ | refine gt0 rfl (by omega) (xN_lt (by omega)) ?_ | refine gt0 rfl (by omega) (xN_eq (by omega)) ?_ | refine gt0 rfl (by omega) (xN_ne (by omega)) ?_ | refine gt0 rfl (by omega) (xN_gt (by omega)) ?_ | refine gt0 rfl (by omega) (xN_le (by omega)) ?_
      refine tail _ I4 A4 v2 f4 ?_
      rw [if_pos h0, List.append_nil]
    · rw [if_neg h0] at hlen
      simp only [List.length_append, List.length_cons, List.length_nil] at hlen
      obtain ⟨I5, A5, g1, g2, g3, g4⟩ := r_write (σ := σ) (d + 1) (k := 17) v2 (by decide) (by decide) (by simp only [List.length_append, List.length_cons, List.length_nil]; rw [pCut_len (Nat.zero_le _) (by omega), pCut_len (by omega) (by omega)]; omega)
      have f5 : wS I1 A I5 A5 := f4.trans ⟨g3, g4⟩
      obtain ⟨I6, A6, k1, k2, k3⟩ := r_wA (σ := σ) d (s := 0) (t := O.length) (e1 := o) (e2 := o + O.length) g2 (hO.of (f5.2 55 (by decide))) (Nat.zero_le _) (Nat.le_refl _) (by simp only [List.length_append, List.length_cons, List.length_nil]; rw [pCut_len (Nat.zero_le _) (by omega), pCut_len (by omega) (by omega)]; omega) rfl rfl
      rw [pCut_all] at k2
      first | refine gf0 rfl (by omega) (nN_ge (by omega)) ?_ | refine gf0 rfl (by omega) (nN_lt (by omega)) ?_ | refine gf0 rfl (by omega) (nN_eq (by omega)) ?_ | refine gf0 rfl (by omega) (nN_ne (by omega)) ?_ | refine gf0 rfl (by omega) (nN_gt (by omega)) ?_ | refine gf0 rfl (by omega) (nN_le (by omega)) ?_
      repeat (first | refine gkn rfl rfl ?_ | refine gkm rfl rfl ?_ | refine gad rfl ?_ | refine gml rfl ?_ | refine gsb rfl (by omega) ?_ | refine gdv rfl (by omega) (by omega) (by omega) ?_ | refine grm rfl (by omega) (by omega) (by omega) ?_ | refine gic rfl rfl ?_ | refine gp rfl rfl rfl ?_ | refine gFl rfl (by rfl) ?_ | refine gAl rfl rfl (by rfl) (by omega) ?_ | refine gBl rfl rfl (by rfl) (by omega) ?_)
      refine gcv (As := [.inl (nI 17)]) (rest := []) rfl (by decide) g1 (mU_obj _ _ _) rfl rfl (by decide) ?_
      repeat (first | refine gkn rfl rfl ?_ | refine gkm rfl rfl ?_ | refine gad rfl ?_ | refine gml rfl ?_ | refine gsb rfl (by omega) ?_ | refine gdv rfl (by omega) (by omega) (by omega) ?_ | refine grm rfl (by omega) (by omega) (by omega) ?_ | refine gic rfl rfl ?_ | refine gp rfl rfl rfl ?_ | refine gFl rfl (by rfl) ?_ | refine gAl rfl rfl (by rfl) (by omega) ?_ | refine gBl rfl rfl (by rfl) (by omega) ?_)
      refine gcv (As := [.inl (nI o), .inl (nI (o + O.length))]) (rest := []) rfl (by decide) k1 (mU_obj _ _ _) rfl rfl (by decide) ?_
      refine tail _ I6 A6 k2 (f5.trans k3) ?_
      rw [if_neg h0]
      simp only [List.append_assoc]
  have main : xGo (xEx (d + 2)) xtb_128 K (0, [some (.inr (some 52)), some (.inl (nI o)), some (.inl (nI (o + O.length))), some (.inl (nI x)), some (.inl (nI (x + X.length))), some (.inl (nI y)), some (.inl (nI (y + Y.length))), none, none], [], mU σ I A) := by
    have hX1 := hX.1
    have hY1 := hY.1
    repeat (first | refine gkn rfl rfl ?_ | refine gkm rfl rfl ?_ | refine gad rfl ?_ | refine gml rfl ?_ | refine gsb rfl (by omega) ?_ | refine gdv rfl (by omega) (by omega) (by omega) ?_ | refine grm rfl (by omega) (by omega) (by omega) ?_ | refine gic rfl rfl ?_ | refine gp rfl rfl rfl ?_ | refine gFl rfl (by rfl) ?_ | refine gAl rfl rfl (by rfl) (by omega) ?_ | refine gBl rfl rfl (by rfl) (by omega) ?_)
    refine gcv (As := [.inl (nI x), .inl (nI (x + X.length)), .inl (nI o), .inl (nI (o + O.length))]) (rest := []) rfl (by decide) (r_same (d + 1) hX hO) (mU_obj _ _ _) rfl rfl (by decide) ?_
    refine gbe rfl (fun hz => ?_) (fun hz => ?_)
    · have n1 : ¬ X = O := of_decide_eq_false hz
      repeat (first | refine gkn rfl rfl ?_ | refine gkm rfl rfl ?_ | refine gad rfl ?_ | refine gml rfl ?_ | refine gsb rfl (by omega) ?_ | refine gdv rfl (by omega) (by omega) (by omega) ?_ | refine grm rfl (by omega) (by omega) (by omega) ?_ | refine gic rfl rfl ?_ | refine gp rfl rfl rfl ?_ | refine gFl rfl (by rfl) ?_ | refine gAl rfl rfl (by rfl) (by omega) ?_ | refine gBl rfl rfl (by rfl) (by omega) ?_)
      refine gcv (As := [.inl (nI y), .inl (nI (y + Y.length)), .inl (nI o), .inl (nI (o + O.length))]) (rest := []) rfl (by decide) (r_same (d + 1) hY hO) (mU_obj _ _ _) rfl rfl (by decide) ?_
      have takeA : (Y = O ∨ X = Y) → xGo (xEx (d + 2)) xtb_128 K (48, [some (.inr (some 52)), some (.inl (nI o)), some (.inl (nI (o + O.length))), some (.inl (nI x)), some (.inl (nI (x + X.length))), some (.inl (nI y)), some (.inl (nI (y + Y.length))), none, none], [], mU σ I A) := by
        intro hor
        have eG : pGap st O X Y = X := by unfold pGap; rw [if_neg n1, if_pos hor]
        have eB : (c || pBad O X Y) = c := by
          unfold pBad
          rcases hor with e | e
          · rw [decide_eq_true e]; simp
          · rw [decide_eq_true e]; simp
        rw [eG] at hw
        obtain ⟨I2, A2, y1, y2, y3, y4⟩ := r_writeAll (σ := σ) d h hX hw
        repeat (first | refine gkn rfl rfl ?_ | refine gkm rfl rfl ?_ | refine gad rfl ?_ | refine gml rfl ?_ | refine gsb rfl (by omega) ?_ | refine gdv rfl (by omega) (by omega) (by omega) ?_ | refine grm rfl (by omega) (by omega) (by omega) ?_ | refine gic rfl rfl ?_ | refine gp rfl rfl rfl ?_ | refine gFl rfl (by rfl) ?_ | refine gAl rfl rfl (by rfl) (by omega) ?_ | refine gBl rfl rfl (by rfl) (by omega) ?_)
        refine gcv (As := [.inl (nI x), .inl (nI (x + X.length))]) (rest := []) rfl (by decide) y1 (mU_obj _ _ _) rfl rfl (by decide) ?_
        exact grv rfl ⟨rfl, I2, A2, rfl, by rw [eG]; exact y2, by rw [eB, y3 18 (by decide)]; exact hc, fun j j1 j2 => y3 j j1, y4⟩
      refine gbn rfl (fun hz2 => takeA (Or.inl (of_decide_eq_true hz2))) (fun hz2 => ?_)
      have n2 : ¬ Y = O := of_decide_eq_false hz2
      repeat (first | refine gkn rfl rfl ?_ | refine gkm rfl rfl ?_ | refine gad rfl ?_ | refine gml rfl ?_ | refine gsb rfl (by omega) ?_ | refine gdv rfl (by omega) (by omega) (by omega) ?_ | refine grm rfl (by omega) (by omega) (by omega) ?_ | refine gic rfl rfl ?_ | refine gp rfl rfl rfl ?_ | refine gFl rfl (by rfl) ?_ | refine gAl rfl rfl (by rfl) (by omega) ?_ | refine gBl rfl rfl (by rfl) (by omega) ?_)
      refine gcv (As := [.inl (nI x), .inl (nI (x + X.length)), .inl (nI y), .inl (nI (y + Y.length))]) (rest := []) rfl (by decide) (r_same (d + 1) hX hY) (mU_obj _ _ _) rfl rfl (by decide) ?_
      refine gbe rfl (fun hz3 => ?_) (fun hz3 => takeA (Or.inr (of_decide_eq_true hz3)))
      have n3 : ¬ X = Y := of_decide_eq_false hz3
      repeat (first | refine gkn rfl rfl ?_ | refine gkm rfl rfl ?_ | refine gad rfl ?_ | refine gml rfl ?_ | refine gsb rfl (by omega) ?_ | refine gdv rfl (by omega) (by omega) (by omega) ?_ | refine grm rfl (by omega) (by omega) (by omega) ?_ | refine gic rfl rfl ?_ | refine gp rfl rfl rfl ?_ | refine gFl rfl (by rfl) ?_ | refine gAl rfl rfl (by rfl) (by omega) ?_ | refine gBl rfl rfl (by rfl) (by omega) ?_)
      refine gFs rfl (by decide) (Or.inr ⟨rfl, Or.inr rfl⟩) ?_
      have o1 : mO (upd I 18 (nI 1)) A w := ⟨by rw [upd_ne (by decide)]; exact h.1, h.2.1, h.2.2⟩
      have i18 : upd I 18 (nI 1) 18 = bI true := by rw [upd_eq]; rfl
      have iF : ∀ j, j ≠ 12 → j ≠ 18 → upd I 18 (nI 1) j = I j := fun j _ j2 => upd_ne j2
      have fin := last n1 n2 n3 (upd I 18 (nI 1)) o1 i18 iF
      repeat (first | refine gkn rfl rfl ?_ | refine gkm rfl rfl ?_ | refine gad rfl ?_ | refine gml rfl ?_ | refine gsb rfl (by omega) ?_ | refine gdv rfl (by omega) (by omega) (by omega) ?_ | refine grm rfl (by omega) (by omega) (by omega) ?_ | refine gic rfl rfl ?_ | refine gp rfl rfl rfl ?_ | refine gFl rfl (by rfl) ?_ | refine gAl rfl rfl (by rfl) (by omega) ?_ | refine gBl rfl rfl (by rfl) (by omega) ?_)
      rw [upd_ne (show 1 ≠ 18 by decide), hst]
      by_cases h2 : st = 2
      · refine gfN rfl (by omega) (by omega) (show ¬ ¬ st = 2 from fun z => z h2) ?_
        have eb : pBn st X Y = pHead X Y := by unfold pBn; rw [if_pos h2]
        have ee : pEn st X Y = pTail X Y (pHead X Y) := by unfold pEn; rw [if_pos h2]
        have tailL : ∀ k t, t + k = min X.length Y.length - pHead X Y → (∀ j, j < t → (fun j => decide (X.getD (X.length - 1 - j) 0 = Y.getD (Y.length - 1 - j) 0)) j = true) → xGo (xEx (d + 2)) xtb_128 K (131, [some (.inr (some 52)), some (.inl (nI o)), some (.inl (nI (o + O.length))), some (.inl (nI x)), some (.inl (nI (x + X.length))), some (.inl (nI y)), some (.inl (nI (y + Y.length))), some (.inl (nI (pHead X Y))), some (.inl (nI t))], [.inl (nI (x + X.length - x - pHead X Y)), .inl (nI t)], mU σ (upd I 18 (nI 1)) A) := by
          have hph : pHead X Y ≤ min X.length Y.length := pRun_le _ _
          intro k
          induction k with
          | zero =>
            intro t ht hall
            have et : pTail X Y (pHead X Y) = t := by
              have := pRun_all (n := t) hall
              unfold pTail
              rw [← ht]
              exact this
            by_cases hx : X.length - pHead X Y ≤ t
            · first | refine gtN rfl (by omega) (by omega) (xN_ge (by omega)) ?_ | refine gtN rfl (by omega) (by omega) (xN_lt (by omega)) ?_ | refine gtN rfl (by omega) (by omega) (xN_eq (by omega)) ?_ | refine gtN rfl (by omega) (by omega) (xN_ne (by omega)) ?_ | refine gtN rfl (by omega) (by omega) (xN_gt (by omega)) ?_ | refine gtN rfl (by omega) (by omega) (xN_le (by omega)) ?_
              exact fin (pHead X Y) t eb.symm (by rw [ee, et])
            · first | refine gfN rfl (by omega) (by omega) (nN_ge (by omega)) ?_ | refine gfN rfl (by omega) (by omega) (nN_lt (by omega)) ?_ | refine gfN rfl (by omega) (by omega) (nN_eq (by omega)) ?_ | refine gfN rfl (by omega) (by omega) (nN_ne (by omega)) ?_ | refine gfN rfl (by omega) (by omega) (nN_gt (by omega)) ?_ | refine gfN rfl (by omega) (by omega) (nN_le (by omega)) ?_
              repeat (first | refine gkn rfl rfl ?_ | refine gkm rfl rfl ?_ | refine gad rfl ?_ | refine gml rfl ?_ | refine gsb rfl (by omega) ?_ | refine gdv rfl (by omega) (by omega) (by omega) ?_ | refine grm rfl (by omega) (by omega) (by omega) ?_ | refine gic rfl rfl ?_ | refine gp rfl rfl rfl ?_ | refine gFl rfl (by rfl) ?_ | refine gAl rfl rfl (by rfl) (by omega) ?_ | refine gBl rfl rfl (by rfl) (by omega) ?_)
              first | refine gtN rfl (by omega) (by omega) (xN_ge (by omega)) ?_ | refine gtN rfl (by omega) (by omega) (xN_lt (by omega)) ?_ | refine gtN rfl (by omega) (by omega) (xN_eq (by omega)) ?_ | refine gtN rfl (by omega) (by omega) (xN_ne (by omega)) ?_ | refine gtN rfl (by omega) (by omega) (xN_gt (by omega)) ?_ | refine gtN rfl (by omega) (by omega) (xN_le (by omega)) ?_
              exact fin (pHead X Y) t eb.symm (by rw [ee, et])
          | succ k ih =>
            intro t ht hall
            first | refine gfN rfl (by omega) (by omega) (nN_ge (by omega)) ?_ | refine gfN rfl (by omega) (by omega) (nN_lt (by omega)) ?_ | refine gfN rfl (by omega) (by omega) (nN_eq (by omega)) ?_ | refine gfN rfl (by omega) (by omega) (nN_ne (by omega)) ?_ | refine gfN rfl (by omega) (by omega) (nN_gt (by omega)) ?_ | refine gfN rfl (by omega) (by omega) (nN_le (by omega)) ?_
            repeat (first | refine gkn rfl rfl ?_ | refine gkm rfl rfl ?_ | refine gad rfl ?_ | refine gml rfl ?_ | refine gsb rfl (by omega) ?_ | refine gdv rfl (by omega) (by omega) (by omega) ?_ | refine grm rfl (by omega) (by omega) (by omega) ?_ | refine gic rfl rfl ?_ | refine gp rfl rfl rfl ?_ | refine gFl rfl (by rfl) ?_ | refine gAl rfl rfl (by rfl) (by omega) ?_ | refine gBl rfl rfl (by rfl) (by omega) ?_)
            first | refine gfN rfl (by omega) (by omega) (nN_ge (by omega)) ?_ | refine gfN rfl (by omega) (by omega) (nN_lt (by omega)) ?_ | refine gfN rfl (by omega) (by omega) (nN_eq (by omega)) ?_ | refine gfN rfl (by omega) (by omega) (nN_ne (by omega)) ?_ | refine gfN rfl (by omega) (by omega) (nN_gt (by omega)) ?_ | refine gfN rfl (by omega) (by omega) (nN_le (by omega)) ?_
            repeat (first | refine gkn rfl rfl ?_ | refine gkm rfl rfl ?_ | refine gad rfl ?_ | refine gml rfl ?_ | refine gsb rfl (by omega) ?_ | refine gdv rfl (by omega) (by omega) (by omega) ?_ | refine grm rfl (by omega) (by omega) (by omega) ?_ | refine gic rfl rfl ?_ | refine gp rfl rfl rfl ?_ | refine gFl rfl (by rfl) ?_ | refine gAl rfl rfl (by rfl) (by omega) ?_ | refine gBl rfl rfl (by rfl) (by omega) ?_)
            have s1 := hX.2.2 (X.length - 1 - t) (by omega)
            have s2 := hY.2.2 (Y.length - 1 - t) (by omega)
            rw [show x + X.length - 1 - t = x + (X.length - 1 - t) by omega, show y + Y.length - 1 - t = y + (Y.length - 1 - t) by omega, s1, s2]
            refine gcp rfl (fun hne => ?_) (fun heq => ?_)
            · refine fin (pHead X Y) t eb.symm ?_
              rw [ee]
              refine (pRun_stop hall (by omega) ?_).symm
              exact decide_eq_false hne
            · have heq : X.getD (X.length - 1 - t) 0 = Y.getD (Y.length - 1 - t) 0 := by
                by_cases z : X.getD (X.length - 1 - t) 0 = Y.getD (Y.length - 1 - t) 0
                · exact z
                · exact absurd z heq
              repeat (first | refine gkn rfl rfl ?_ | refine gkm rfl rfl ?_ | refine gad rfl ?_ | refine gml rfl ?_ | refine gsb rfl (by omega) ?_ | refine gdv rfl (by omega) (by omega) (by omega) ?_ | refine grm rfl (by omega) (by omega) (by omega) ?_ | refine gic rfl rfl ?_ | refine gp rfl rfl rfl ?_ | refine gFl rfl (by rfl) ?_ | refine gAl rfl rfl (by rfl) (by omega) ?_ | refine gBl rfl rfl (by rfl) (by omega) ?_)
              refine ih (t + 1) (by omega) (fun j hj => ?_)
              by_cases e : j = t
              · rw [e]; exact decide_eq_true heq
              · exact hall j (by omega)
        have headL : ∀ k t, t + k = min X.length Y.length → (∀ j, j < t → (fun j => decide (X.getD j 0 = Y.getD j 0)) j = true) → xGo (xEx (d + 2)) xtb_128 K (81, [some (.inr (some 52)), some (.inl (nI o)), some (.inl (nI (o + O.length))), some (.inl (nI x)), some (.inl (nI (x + X.length))), some (.inl (nI y)), some (.inl (nI (y + Y.length))), some (.inl (nI t)), some (.inl (nI 0))], [.inl (nI (x + X.length - x)), .inl (nI t)], mU σ (upd I 18 (nI 1)) A) := by
          intro k
          induction k with
          | zero =>
            intro t ht hall
            have et : t = pHead X Y := by
              have := pRun_all (n := t) hall
              unfold pHead
              rw [← ht]
              exact this.symm
            have tl := tailL (min X.length Y.length - pHead X Y) 0 (Nat.zero_add _) (fun j hj => absurd hj (Nat.not_lt_zero _))
            rw [← et] at tl
            by_cases hx : X.length ≤ t
            · first | refine gtN rfl (by omega) (by omega) (xN_ge (by omega)) ?_ | refine gtN rfl (by omega) (by omega) (xN_lt (by omega)) ?_ | refine gtN rfl (by omega) (by omega) (xN_eq (by omega)) ?_ | refine gtN rfl (by omega) (by omega) (xN_ne (by omega)) ?_ | refine gtN rfl (by omega) (by omega) (xN_gt (by omega)) ?_ | refine gtN rfl (by omega) (by omega) (xN_le (by omega)) ?_
              repeat (first | refine gkn rfl rfl ?_ | refine gkm rfl rfl ?_ | refine gad rfl ?_ | refine gml rfl ?_ | refine gsb rfl (by omega) ?_ | refine gdv rfl (by omega) (by omega) (by omega) ?_ | refine grm rfl (by omega) (by omega) (by omega) ?_ | refine gic rfl rfl ?_ | refine gp rfl rfl rfl ?_ | refine gFl rfl (by rfl) ?_ | refine gAl rfl rfl (by rfl) (by omega) ?_ | refine gBl rfl rfl (by rfl) (by omega) ?_)
              exact tl
            · first | refine gfN rfl (by omega) (by omega) (nN_ge (by omega)) ?_ | refine gfN rfl (by omega) (by omega) (nN_lt (by omega)) ?_ | refine gfN rfl (by omega) (by omega) (nN_eq (by omega)) ?_ | refine gfN rfl (by omega) (by omega) (nN_ne (by omega)) ?_ | refine gfN rfl (by omega) (by omega) (nN_gt (by omega)) ?_ | refine gfN rfl (by omega) (by omega) (nN_le (by omega)) ?_
              repeat (first | refine gkn rfl rfl ?_ | refine gkm rfl rfl ?_ | refine gad rfl ?_ | refine gml rfl ?_ | refine gsb rfl (by omega) ?_ | refine gdv rfl (by omega) (by omega) (by omega) ?_ | refine grm rfl (by omega) (by omega) (by omega) ?_ | refine gic rfl rfl ?_ | refine gp rfl rfl rfl ?_ | refine gFl rfl (by rfl) ?_ | refine gAl rfl rfl (by rfl) (by omega) ?_ | refine gBl rfl rfl (by rfl) (by omega) ?_)
              first | refine gtN rfl (by omega) (by omega) (xN_ge (by omega)) ?_ | refine gtN rfl (by omega) (by omega) (xN_lt (by omega)) ?_ | refine gtN rfl (by omega) (by omega) (xN_eq (by omega)) ?_ | refine gtN rfl (by omega) (by omega) (xN_ne (by omega)) ?_ | refine gtN rfl (by omega) (by omega) (xN_gt (by omega)) ?_ | refine gtN rfl (by omega) (by omega) (xN_le (by omega)) ?_
              repeat (first | refine gkn rfl rfl ?_ | refine gkm rfl rfl ?_ | refine gad rfl ?_ | refine gml rfl ?_ | refine gsb rfl (by omega) ?_ | refine gdv rfl (by omega) (by omega) (by omega) ?_ | refine grm rfl (by omega) (by omega) (by omega) ?_ | refine gic rfl rfl ?_ | refine gp rfl rfl rfl ?_ | refine gFl rfl (by rfl) ?_ | refine gAl rfl rfl (by rfl) (by omega) ?_ | refine gBl rfl rfl (by rfl) (by omega) ?_)
              exact tl
          | succ k ih =>
            intro t ht hall
            first | refine gfN rfl (by omega) (by omega) (nN_ge (by omega)) ?_ | refine gfN rfl (by omega) (by omega) (nN_lt (by omega)) ?_ | refine gfN rfl (by omega) (by omega) (nN_eq (by omega)) ?_ | refine gfN rfl (by omega) (by omega) (nN_ne (by omega)) ?_ | refine gfN rfl (by omega) (by omega) (nN_gt (by omega)) ?_ | refine gfN rfl (by omega) (by omega) (nN_le (by omega)) ?_
            repeat (first | refine gkn rfl rfl ?_ | refine gkm rfl rfl ?_ | refine gad rfl ?_ | refine gml rfl ?_ | refine gsb rfl (by omega) ?_ | refine gdv rfl (by omega) (by omega) (by omega) ?_ | refine grm rfl (by omega) (by omega) (by omega) ?_ | refine gic rfl rfl ?_ | refine gp rfl rfl rfl ?_ | refine gFl rfl (by rfl) ?_ | refine gAl rfl rfl (by rfl) (by omega) ?_ | refine gBl rfl rfl (by rfl) (by omega) ?_)
            first | refine gfN rfl (by omega) (by omega) (nN_ge (by omega)) ?_ | refine gfN rfl (by omega) (by omega) (nN_lt (by omega)) ?_ | refine gfN rfl (by omega) (by omega) (nN_eq (by omega)) ?_ | refine gfN rfl (by omega) (by omega) (nN_ne (by omega)) ?_ | refine gfN rfl (by omega) (by omega) (nN_gt (by omega)) ?_ | refine gfN rfl (by omega) (by omega) (nN_le (by omega)) ?_
            repeat (first | refine gkn rfl rfl ?_ | refine gkm rfl rfl ?_ | refine gad rfl ?_ | refine gml rfl ?_ | refine gsb rfl (by omega) ?_ | refine gdv rfl (by omega) (by omega) (by omega) ?_ | refine grm rfl (by omega) (by omega) (by omega) ?_ | refine gic rfl rfl ?_ | refine gp rfl rfl rfl ?_ | refine gFl rfl (by rfl) ?_ | refine gAl rfl rfl (by rfl) (by omega) ?_ | refine gBl rfl rfl (by rfl) (by omega) ?_)
            rw [hX.2.2 t (by omega), hY.2.2 t (by omega)]
            refine gcp rfl (fun hne => ?_) (fun heq => ?_)
            · have et : t = pHead X Y := (pRun_stop hall (by omega) (decide_eq_false hne)).symm
              have tl := tailL (min X.length Y.length - pHead X Y) 0 (Nat.zero_add _) (fun j hj => absurd hj (Nat.not_lt_zero _))
              rw [← et] at tl
              repeat (first | refine gkn rfl rfl ?_ | refine gkm rfl rfl ?_ | refine gad rfl ?_ | refine gml rfl ?_ | refine gsb rfl (by omega) ?_ | refine gdv rfl (by omega) (by omega) (by omega) ?_ | refine grm rfl (by omega) (by omega) (by omega) ?_ | refine gic rfl rfl ?_ | refine gp rfl rfl rfl ?_ | refine gFl rfl (by rfl) ?_ | refine gAl rfl rfl (by rfl) (by omega) ?_ | refine gBl rfl rfl (by rfl) (by omega) ?_)
              exact tl
            · have heq : X.getD t 0 = Y.getD t 0 := by
                by_cases z : X.getD t 0 = Y.getD t 0
                · exact z
                · exact absurd z heq
              repeat (first | refine gkn rfl rfl ?_ | refine gkm rfl rfl ?_ | refine gad rfl ?_ | refine gml rfl ?_ | refine gsb rfl (by omega) ?_ | refine gdv rfl (by omega) (by omega) (by omega) ?_ | refine grm rfl (by omega) (by omega) (by omega) ?_ | refine gic rfl rfl ?_ | refine gp rfl rfl rfl ?_ | refine gFl rfl (by rfl) ?_ | refine gAl rfl rfl (by rfl) (by omega) ?_ | refine gBl rfl rfl (by rfl) (by omega) ?_)
              refine ih (t + 1) (by omega) (fun j hj => ?_)
              by_cases e : j = t
              · rw [e]; exact decide_eq_true heq
              · exact hall j (by omega)
        repeat (first | refine gkn rfl rfl ?_ | refine gkm rfl rfl ?_ | refine gad rfl ?_ | refine gml rfl ?_ | refine gsb rfl (by omega) ?_ | refine gdv rfl (by omega) (by omega) (by omega) ?_ | refine grm rfl (by omega) (by omega) (by omega) ?_ | refine gic rfl rfl ?_ | refine gp rfl rfl rfl ?_ | refine gFl rfl (by rfl) ?_ | refine gAl rfl rfl (by rfl) (by omega) ?_ | refine gBl rfl rfl (by rfl) (by omega) ?_)
        exact headL (min X.length Y.length) 0 (Nat.zero_add _) (fun j hj => absurd hj (Nat.not_lt_zero _))
      · refine gtN rfl (by omega) (by omega) (show ¬ st = 2 from h2) ?_
        exact fin 0 0 (by unfold pBn; rw [if_neg h2]) (by unfold pEn; rw [if_neg h2])
    · have e1 : X = O := of_decide_eq_true hz
      have eG : pGap st O X Y = Y := by unfold pGap; rw [if_pos e1]
      have eB : (c || pBad O X Y) = c := by
        unfold pBad
        rw [decide_eq_true e1]
        simp
      rw [eG] at hw
      obtain ⟨I2, A2, y1, y2, y3, y4⟩ := r_writeAll (σ := σ) d h hY hw
      repeat (first | refine gkn rfl rfl ?_ | refine gkm rfl rfl ?_ | refine gad rfl ?_ | refine gml rfl ?_ | refine gsb rfl (by omega) ?_ | refine gdv rfl (by omega) (by omega) (by omega) ?_ | refine grm rfl (by omega) (by omega) (by omega) ?_ | refine gic rfl rfl ?_ | refine gp rfl rfl rfl ?_ | refine gFl rfl (by rfl) ?_ | refine gAl rfl rfl (by rfl) (by omega) ?_ | refine gBl rfl rfl (by rfl) (by omega) ?_)
      refine gcv (As := [.inl (nI y), .inl (nI (y + Y.length))]) (rest := []) rfl (by decide) y1 (mU_obj _ _ _) rfl rfl (by decide) ?_
      exact grv rfl ⟨rfl, I2, A2, rfl, by rw [eG]; exact y2, by rw [eB, y3 18 (by decide)]; exact hc, fun j j1 j2 => y3 j j1, y4⟩
  obtain ⟨r, σ', hex, rfl, I', A', rfl, g⟩ := ex_of (d := d + 2) (y := 128) (as := [.inr (some 52), .inl (nI o), .inl (nI (o + O.length)), .inl (nI x), .inl (nI (x + X.length)), .inl (nI y), .inl (nI (y + Y.length))]) (σ := mU σ I A) (K := K) (by decide) rfl main
  exact ⟨I', A', hex, g⟩
end REF
