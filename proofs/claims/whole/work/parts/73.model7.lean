/-! MODULE: the reference: questions -/
section REF
variable {σ : xS} {I : Nat → Int32} {A : Nat → Nat → Int32} {W : Nat → pT}
theorem oN_lt {n i : Nat} (h : i < n) (hn : n < 2147483648) : oN n (nI i) = some i := by
  rcases oN_cases (n := n) hn (nI i) with ⟨j, hj, e, e2⟩ | ⟨hn, -⟩
  · rw [e2, (nI_eq (by omega) (by omega)).mp e]
  · exact absurd ⟨nI_pos' (by omega), nI_lt h (by omega)⟩ hn
theorem oN_neg {n : Nat} {x : Int32} (h : x < 0) : oN n x = none := by
  unfold oN
  rw [if_neg (fun z => Int32.not_lt.mpr z.1 h)]
theorem cFile_lt {W : Nat → pT} {t : Nat} (h : t < 4) (y : Int32) : cFile W (nI t) y = aAt (W t) y := by
  unfold cFile aAt
  rw [oN_lt h (by decide)]
  cases oN 64 y <;> rfl
theorem cFile_no {W : Nat → pT} {x : Int32} (h : oN 4 x = none) (y : Int32) : cFile W x y = none := by
  unfold cFile
  rw [h]
theorem aKind_pK (F : Option pF) : aKind F = nI (pK F) := by
  cases F with
  | none => rfl
  | some F => unfold aKind pK; simp only; split <;> rfl
/-- the number of the tree is below 4, or below 0, or above 3 -/
theorem t4_cases (x : Int32) : (∃ t, t < 4 ∧ x = nI t) ∨ (oN 4 x = none ∧ x < 0) ∨ (oN 4 x = none ∧ nI 3 < x) := by
  rcases oN_cases (n := 4) (by decide) x with ⟨t, ht, rfl, e1⟩ | ⟨hn, e1⟩
  · exact Or.inl ⟨t, ht, rfl⟩
  · by_cases h0 : x < 0
    · exact Or.inr (Or.inl ⟨e1, h0⟩)
    · exact Or.inr (Or.inr ⟨e1, oN_hi (by decide) hn h0⟩)
theorem wAt_neg {W : Nat → pT} {x : Int32} (h : x < 0) (y : Int32) : wAt W x y = none := by
  unfold wAt
  rw [oN_neg h]
theorem aAt_some {T : pT} {y : Int32} (h : (aAt T y).isSome = true) : ∃ p, p < 64 ∧ y = nI p := by
  rcases oN_cases (n := 64) (by decide) y with ⟨p, hp, e, e1⟩ | ⟨hn, e1⟩
  · exact ⟨p, hp, e⟩
  · unfold aAt at h; rw [e1] at h; cases h
theorem r_kind (d : Nat) (h : mV A W) (x y : Int32) : xEx (d + 2) 133 [.inr (some 52), .inl x, .inl y] (mU σ I A) (some (.inl (aKind (cFile W x y)))) (mU σ I A) := by
  refine ⟨by decide, rfl, ?_⟩
  show xGo (xEx (d + 1)) xtb_133 _ (0, [some (.inr (some 52)), some (.inl x), some (.inl y)], [], mU σ I A)
  have e0 := r_hasX (σ := σ) (I := I) d (x := x) (y := y) h
  rcases t4_cases x with ⟨t, ht, rfl⟩ | ⟨e1, h0⟩ | ⟨e1, h0⟩
  · rw [cFile_lt ht]
    rw [wAt_lt (by omega)] at e0
    repeat (first | refine gkn rfl rfl ?_ | refine gkm rfl rfl ?_ | refine gad rfl ?_ | refine gml rfl ?_ | refine gsb rfl (by omega) ?_ | refine gdv rfl (by omega) (by omega) (by omega) ?_ | refine grm rfl (by omega) (by omega) (by omega) ?_ | refine gic rfl rfl ?_ | refine gp rfl rfl rfl ?_ | refine gFl rfl (by rfl) ?_ | refine gAl rfl rfl (by rfl) (by omega) ?_ | refine gBl rfl rfl (by rfl) (by omega) ?_ | refine gfN rfl (by omega) (by omega) (nN_ge (by omega)) ?_ | refine gfN rfl (by omega) (by omega) (nN_lt (by omega)) ?_ | refine gfN rfl (by omega) (by omega) (nN_eq (by omega)) ?_ | refine gfN rfl (by omega) (by omega) (nN_ne (by omega)) ?_ | refine gfN rfl (by omega) (by omega) (nN_gt (by omega)) ?_ | refine gfN rfl (by omega) (by omega) (nN_le (by omega)) ?_ | refine gtN rfl (by omega) (by omega) (xN_ge (by omega)) ?_ | refine gtN rfl (by omega) (by omega) (xN_lt (by omega)) ?_ | refine gtN rfl (by omega) (by omega) (xN_eq (by omega)) ?_ | refine gtN rfl (by omega) (by omega) (xN_ne (by omega)) ?_ | refine gtN rfl (by omega) (by omega) (xN_gt (by omega)) ?_ | refine gtN rfl (by omega) (by omega) (xN_le (by omega)) ?_ | refine gf0 rfl (by omega) (nN_ge (by omega)) ?_ | refine gf0 rfl (by omega) (nN_lt (by omega)) ?_ | refine gf0 rfl (by omega) (nN_eq (by omega)) ?_ | refine gf0 rfl (by omega) (nN_ne (by omega)) ?_ | refine gf0 rfl (by omega) (nN_gt (by omega)) ?_ | refine gf0 rfl (by omega) (nN_le (by omega)) ?_ | refine gt0 rfl (by omega) (xN_ge (by omega)) ?_ | refine gt0 rfl (by omega) (xN_lt (by omega)) ?_ | refine gt0 rfl (by omega) (xN_eq (by omega)) ?_ | refine gt0 rfl (by omega) (xN_ne (by omega)) ?_ | refine gt0 rfl (by omega) (xN_gt (by omega)) ?_ | refine gt0 rfl (by omega) (xN_le (by omega)) ?_)
    refine gcv (As := [.inl (nI t), .inl y]) (rest := []) rfl (by decide) e0 (mU_obj _ _ _) rfl rfl (by decide) ?_
    refine gbe rfl (fun hz => ?_) (fun hz => ?_)
    · repeat (first | refine gkn rfl rfl ?_ | refine gkm rfl rfl ?_ | refine gad rfl ?_ | refine gml rfl ?_ | refine gsb rfl (by omega) ?_ | refine gdv rfl (by omega) (by omega) (by omega) ?_ | refine grm rfl (by omega) (by omega) (by omega) ?_ | refine gic rfl rfl ?_ | refine gp rfl rfl rfl ?_ | refine gFl rfl (by rfl) ?_ | refine gAl rfl rfl (by rfl) (by omega) ?_ | refine gBl rfl rfl (by rfl) (by omega) ?_)
      refine gri rfl (fun h => absurd h (by decide)) ⟨?_, rfl⟩
      cases ha : aAt (W t) y with
      | none => rfl
      | some F => rw [ha] at hz; cases hz
    · obtain ⟨p, hp, rfl⟩ := aAt_some hz
      obtain ⟨g1, -⟩ := h t p (by omega) hp
      repeat (first | refine gkn rfl rfl ?_ | refine gkm rfl rfl ?_ | refine gad rfl ?_ | refine gml rfl ?_ | refine gsb rfl (by omega) ?_ | refine gdv rfl (by omega) (by omega) (by omega) ?_ | refine grm rfl (by omega) (by omega) (by omega) ?_ | refine gic rfl rfl ?_ | refine gp rfl rfl rfl ?_ | refine gFl rfl (by rfl) ?_ | refine gAl rfl rfl (by rfl) (by omega) ?_ | refine gBl rfl rfl (by rfl) (by omega) ?_)
      refine gri rfl (fun h => absurd h (by decide)) ⟨?_, rfl⟩
      rw [aAt_lt hp, aKind_pK, g1]
  · rw [cFile_no e1]
    rw [wAt_neg h0] at e0
    repeat (first | refine gkn rfl rfl ?_ | refine gkm rfl rfl ?_ | refine gad rfl ?_ | refine gml rfl ?_ | refine gsb rfl (by omega) ?_ | refine gdv rfl (by omega) (by omega) (by omega) ?_ | refine grm rfl (by omega) (by omega) (by omega) ?_ | refine gic rfl rfl ?_ | refine gp rfl rfl rfl ?_ | refine gFl rfl (by rfl) ?_ | refine gAl rfl rfl (by rfl) (by omega) ?_ | refine gBl rfl rfl (by rfl) (by omega) ?_)
    refine gcf rfl (show ¬ nI 3 < x from fun z => absurd (Int32.lt_trans h0 (Int32.lt_trans (nI_lt (a := 0) (b := 3) (by decide) (by decide)) z)) (Int32.lt_irrefl)) ?_
    repeat (first | refine gkn rfl rfl ?_ | refine gkm rfl rfl ?_ | refine gad rfl ?_ | refine gml rfl ?_ | refine gsb rfl (by omega) ?_ | refine gdv rfl (by omega) (by omega) (by omega) ?_ | refine grm rfl (by omega) (by omega) (by omega) ?_ | refine gic rfl rfl ?_ | refine gp rfl rfl rfl ?_ | refine gFl rfl (by rfl) ?_ | refine gAl rfl rfl (by rfl) (by omega) ?_ | refine gBl rfl rfl (by rfl) (by omega) ?_)
    refine gcv (As := [.inl x, .inl y]) (rest := []) rfl (by decide) e0 (mU_obj _ _ _) rfl rfl (by decide) ?_
    refine gbe rfl (fun hz => ?_) (fun hz => by cases hz)
    repeat (first | refine gkn rfl rfl ?_ | refine gkm rfl rfl ?_ | refine gad rfl ?_ | refine gml rfl ?_ | refine gsb rfl (by omega) ?_ | refine gdv rfl (by omega) (by omega) (by omega) ?_ | refine grm rfl (by omega) (by omega) (by omega) ?_ | refine gic rfl rfl ?_ | refine gp rfl rfl rfl ?_ | refine gFl rfl (by rfl) ?_ | refine gAl rfl rfl (by rfl) (by omega) ?_ | refine gBl rfl rfl (by rfl) (by omega) ?_)
    exact gri rfl (fun h => absurd h (by decide)) ⟨rfl, rfl⟩
  · rw [cFile_no e1]
    repeat (first | refine gkn rfl rfl ?_ | refine gkm rfl rfl ?_ | refine gad rfl ?_ | refine gml rfl ?_ | refine gsb rfl (by omega) ?_ | refine gdv rfl (by omega) (by omega) (by omega) ?_ | refine grm rfl (by omega) (by omega) (by omega) ?_ | refine gic rfl rfl ?_ | refine gp rfl rfl rfl ?_ | refine gFl rfl (by rfl) ?_ | refine gAl rfl rfl (by rfl) (by omega) ?_ | refine gBl rfl rfl (by rfl) (by omega) ?_)
    refine gct rfl (show nI 3 < x from h0) ?_
    repeat (first | refine gkn rfl rfl ?_ | refine gkm rfl rfl ?_ | refine gad rfl ?_ | refine gml rfl ?_ | refine gsb rfl (by omega) ?_ | refine gdv rfl (by omega) (by omega) (by omega) ?_ | refine grm rfl (by omega) (by omega) (by omega) ?_ | refine gic rfl rfl ?_ | refine gp rfl rfl rfl ?_ | refine gFl rfl (by rfl) ?_ | refine gAl rfl rfl (by rfl) (by omega) ?_ | refine gBl rfl rfl (by rfl) (by omega) ?_)
    exact gri rfl (fun h => absurd h (by decide)) ⟨rfl, rfl⟩
theorem aLen_some {F : Option pF} (h : F.isSome = true) : aLen F = nI (pLn F).length := by
  cases F with
  | none => cases h
  | some F => rfl
theorem r_length (d : Nat) (h : mV A W) (x y : Int32) : xEx (d + 2) 134 [.inr (some 52), .inl x, .inl y] (mU σ I A) (some (.inl (aLen (cFile W x y)))) (mU σ I A) := by
  refine ⟨by decide, rfl, ?_⟩
  show xGo (xEx (d + 1)) xtb_134 _ (0, [some (.inr (some 52)), some (.inl x), some (.inl y)], [], mU σ I A)
  have e0 := r_hasX (σ := σ) (I := I) d (x := x) (y := y) h
  rcases t4_cases x with ⟨t, ht, rfl⟩ | ⟨e1, h0⟩ | ⟨e1, h0⟩
  · rw [cFile_lt ht]
    rw [wAt_lt (by omega)] at e0
    repeat (first | refine gkn rfl rfl ?_ | refine gkm rfl rfl ?_ | refine gad rfl ?_ | refine gml rfl ?_ | refine gsb rfl (by omega) ?_ | refine gdv rfl (by omega) (by omega) (by omega) ?_ | refine grm rfl (by omega) (by omega) (by omega) ?_ | refine gic rfl rfl ?_ | refine gp rfl rfl rfl ?_ | refine gFl rfl (by rfl) ?_ | refine gAl rfl rfl (by rfl) (by omega) ?_ | refine gBl rfl rfl (by rfl) (by omega) ?_ | refine gfN rfl (by omega) (by omega) (nN_ge (by omega)) ?_ | refine gfN rfl (by omega) (by omega) (nN_lt (by omega)) ?_ | refine gfN rfl (by omega) (by omega) (nN_eq (by omega)) ?_ | refine gfN rfl (by omega) (by omega) (nN_ne (by omega)) ?_ | refine gfN rfl (by omega) (by omega) (nN_gt (by omega)) ?_ | refine gfN rfl (by omega) (by omega) (nN_le (by omega)) ?_ | refine gtN rfl (by omega) (by omega) (xN_ge (by omega)) ?_ | refine gtN rfl (by omega) (by omega) (xN_lt (by omega)) ?_ | refine gtN rfl (by omega) (by omega) (xN_eq (by omega)) ?_ | refine gtN rfl (by omega) (by omega) (xN_ne (by omega)) ?_ | refine gtN rfl (by omega) (by omega) (xN_gt (by omega)) ?_ | refine gtN rfl (by omega) (by omega) (xN_le (by omega)) ?_ | refine gf0 rfl (by omega) (nN_ge (by omega)) ?_ | refine gf0 rfl (by omega) (nN_lt (by omega)) ?_ | refine gf0 rfl (by omega) (nN_eq (by omega)) ?_ | refine gf0 rfl (by omega) (nN_ne (by omega)) ?_ | refine gf0 rfl (by omega) (nN_gt (by omega)) ?_ | refine gf0 rfl (by omega) (nN_le (by omega)) ?_ | refine gt0 rfl (by omega) (xN_ge (by omega)) ?_ | refine gt0 rfl (by omega) (xN_lt (by omega)) ?_ | refine gt0 rfl (by omega) (xN_eq (by omega)) ?_ | refine gt0 rfl (by omega) (xN_ne (by omega)) ?_ | refine gt0 rfl (by omega) (xN_gt (by omega)) ?_ | refine gt0 rfl (by omega) (xN_le (by omega)) ?_)
    refine gcv (As := [.inl (nI t), .inl y]) (rest := []) rfl (by decide) e0 (mU_obj _ _ _) rfl rfl (by decide) ?_
    refine gbe rfl (fun hz => ?_) (fun hz => ?_)
    · repeat (first | refine gkn rfl rfl ?_ | refine gkm rfl rfl ?_ | refine gad rfl ?_ | refine gml rfl ?_ | refine gsb rfl (by omega) ?_ | refine gdv rfl (by omega) (by omega) (by omega) ?_ | refine grm rfl (by omega) (by omega) (by omega) ?_ | refine gic rfl rfl ?_ | refine gp rfl rfl rfl ?_ | refine gFl rfl (by rfl) ?_ | refine gAl rfl rfl (by rfl) (by omega) ?_ | refine gBl rfl rfl (by rfl) (by omega) ?_)
      refine gri rfl (fun h => absurd h (by decide)) ⟨?_, rfl⟩
      cases ha : aAt (W t) y with
      | none => rfl
      | some F => rw [ha] at hz; cases hz
    · obtain ⟨p, hp, rfl⟩ := aAt_some hz
      obtain ⟨-, g2, -⟩ := h t p (by omega) hp
      rw [aAt_lt hp] at hz ⊢
      repeat (first | refine gkn rfl rfl ?_ | refine gkm rfl rfl ?_ | refine gad rfl ?_ | refine gml rfl ?_ | refine gsb rfl (by omega) ?_ | refine gdv rfl (by omega) (by omega) (by omega) ?_ | refine grm rfl (by omega) (by omega) (by omega) ?_ | refine gic rfl rfl ?_ | refine gp rfl rfl rfl ?_ | refine gFl rfl (by rfl) ?_ | refine gAl rfl rfl (by rfl) (by omega) ?_ | refine gBl rfl rfl (by rfl) (by omega) ?_)
      refine gri rfl (fun h => absurd h (by decide)) ⟨?_, rfl⟩
      rw [aLen_some hz, g2]
  · rw [cFile_no e1]
    rw [wAt_neg h0] at e0
    repeat (first | refine gkn rfl rfl ?_ | refine gkm rfl rfl ?_ | refine gad rfl ?_ | refine gml rfl ?_ | refine gsb rfl (by omega) ?_ | refine gdv rfl (by omega) (by omega) (by omega) ?_ | refine grm rfl (by omega) (by omega) (by omega) ?_ | refine gic rfl rfl ?_ | refine gp rfl rfl rfl ?_ | refine gFl rfl (by rfl) ?_ | refine gAl rfl rfl (by rfl) (by omega) ?_ | refine gBl rfl rfl (by rfl) (by omega) ?_)
    refine gcf rfl (show ¬ nI 3 < x from fun z => absurd (Int32.lt_trans h0 (Int32.lt_trans (nI_lt (a := 0) (b := 3) (by decide) (by decide)) z)) (Int32.lt_irrefl)) ?_
    repeat (first | refine gkn rfl rfl ?_ | refine gkm rfl rfl ?_ | refine gad rfl ?_ | refine gml rfl ?_ | refine gsb rfl (by omega) ?_ | refine gdv rfl (by omega) (by omega) (by omega) ?_ | refine grm rfl (by omega) (by omega) (by omega) ?_ | refine gic rfl rfl ?_ | refine gp rfl rfl rfl ?_ | refine gFl rfl (by rfl) ?_ | refine gAl rfl rfl (by rfl) (by omega) ?_ | refine gBl rfl rfl (by rfl) (by omega) ?_)
    refine gcv (As := [.inl x, .inl y]) (rest := []) rfl (by decide) e0 (mU_obj _ _ _) rfl rfl (by decide) ?_
    refine gbe rfl (fun hz => ?_) (fun hz => by cases hz)
    repeat (first | refine gkn rfl rfl ?_ | refine gkm rfl rfl ?_ | refine gad rfl ?_ | refine gml rfl ?_ | refine gsb rfl (by omega) ?_ | refine gdv rfl (by omega) (by omega) (by omega) ?_ | refine grm rfl (by omega) (by omega) (by omega) ?_ | refine gic rfl rfl ?_ | refine gp rfl rfl rfl ?_ | refine gFl rfl (by rfl) ?_ | refine gAl rfl rfl (by rfl) (by omega) ?_ | refine gBl rfl rfl (by rfl) (by omega) ?_)
    exact gri rfl (fun h => absurd h (by decide)) ⟨rfl, rfl⟩
  · rw [cFile_no e1]
    repeat (first | refine gkn rfl rfl ?_ | refine gkm rfl rfl ?_ | refine gad rfl ?_ | refine gml rfl ?_ | refine gsb rfl (by omega) ?_ | refine gdv rfl (by omega) (by omega) (by omega) ?_ | refine grm rfl (by omega) (by omega) (by omega) ?_ | refine gic rfl rfl ?_ | refine gp rfl rfl rfl ?_ | refine gFl rfl (by rfl) ?_ | refine gAl rfl rfl (by rfl) (by omega) ?_ | refine gBl rfl rfl (by rfl) (by omega) ?_)
    refine gct rfl (show nI 3 < x from h0) ?_
    repeat (first | refine gkn rfl rfl ?_ | refine gkm rfl rfl ?_ | refine gad rfl ?_ | refine gml rfl ?_ | refine gsb rfl (by omega) ?_ | refine gdv rfl (by omega) (by omega) (by omega) ?_ | refine grm rfl (by omega) (by omega) (by omega) ?_ | refine gic rfl rfl ?_ | refine gp rfl rfl rfl ?_ | refine gFl rfl (by rfl) ?_ | refine gAl rfl rfl (by rfl) (by omega) ?_ | refine gBl rfl rfl (by rfl) (by omega) ?_)
    exact gri rfl (fun h => absurd h (by decide)) ⟨rfl, rfl⟩
theorem aLine_neg {F : Option pF} {z : Int32} (h : z < 0) : aLine F z = 0 := by
  cases F with
  | none => rfl
  | some F => unfold aLine; simp only; rw [oN_neg h]
/-- a line of a file, asked by its place -/
theorem aLine_nI {F : Option pF} {j : Nat} (hF : F.isSome = true) (hj : j < 2147483648) (hl : (pLn F).length ≤ 76) : aLine F (nI j) = if j < (pLn F).length then (pLn F).getD j 0 else 0 := by
  cases F with
  | none => cases hF
  | some F =>
    have hl : F.2.length ≤ 76 := hl
    unfold aLine
    simp only
    show _ = if j < F.2.length then F.2.getD j 0 else 0
    by_cases h : j < F.2.length
    · rw [oN_lt h (by omega), if_pos h]
    · rw [if_neg h]
      rcases oN_cases (n := F.2.length) (by omega) (nI j) with ⟨i, hi, e, e2⟩ | ⟨hn, e2⟩
      · exact absurd ((nI_eq (by omega) (by omega)).mp e) (by omega)
      · rw [e2]
theorem nlt_m1 {j : Nat} (hj : j < 2147483648) : (-1 : Int32) ≤ nI j := by
  refine Int32.not_lt.mp (fun z => ?_)
  have h1 : nI j < 0 := Int32.lt_trans z (by decide)
  exact nI_pos hj h1
theorem r_line (d : Nat) (h : mV A W) (x y z : Int32) : xEx (d + 3) 135 [.inr (some 52), .inl x, .inl y, .inl z] (mU σ I A) (some (.inl (aLine (cFile W x y) z))) (mU σ I A) := by
  refine ⟨by decide, rfl, ?_⟩
  show xGo (xEx (d + 2)) xtb_135 _ (0, [some (.inr (some 52)), some (.inl x), some (.inl y), some (.inl z)], [], mU σ I A)
  have e0 := r_length (σ := σ) (I := I) d h x y
  by_cases hz0 : z < 0
  · rw [aLine_neg hz0]
    repeat (first | refine gkn rfl rfl ?_ | refine gkm rfl rfl ?_ | refine gad rfl ?_ | refine gml rfl ?_ | refine gsb rfl (by omega) ?_ | refine gdv rfl (by omega) (by omega) (by omega) ?_ | refine grm rfl (by omega) (by omega) (by omega) ?_ | refine gic rfl rfl ?_ | refine gp rfl rfl rfl ?_ | refine gFl rfl (by rfl) ?_ | refine gAl rfl rfl (by rfl) (by omega) ?_ | refine gBl rfl rfl (by rfl) (by omega) ?_)
    refine git rfl (show z < 0 from hz0) ?_
    repeat (first | refine gkn rfl rfl ?_ | refine gkm rfl rfl ?_ | refine gad rfl ?_ | refine gml rfl ?_ | refine gsb rfl (by omega) ?_ | refine gdv rfl (by omega) (by omega) (by omega) ?_ | refine grm rfl (by omega) (by omega) (by omega) ?_ | refine gic rfl rfl ?_ | refine gp rfl rfl rfl ?_ | refine gFl rfl (by rfl) ?_ | refine gAl rfl rfl (by rfl) (by omega) ?_ | refine gBl rfl rfl (by rfl) (by omega) ?_)
    exact gri rfl (fun h => absurd h (by decide)) ⟨rfl, rfl⟩
  · obtain ⟨j, hj, rfl⟩ := nI_of hz0
    repeat (first | refine gkn rfl rfl ?_ | refine gkm rfl rfl ?_ | refine gad rfl ?_ | refine gml rfl ?_ | refine gsb rfl (by omega) ?_ | refine gdv rfl (by omega) (by omega) (by omega) ?_ | refine grm rfl (by omega) (by omega) (by omega) ?_ | refine gic rfl rfl ?_ | refine gp rfl rfl rfl ?_ | refine gFl rfl (by rfl) ?_ | refine gAl rfl rfl (by rfl) (by omega) ?_ | refine gBl rfl rfl (by rfl) (by omega) ?_)
    refine gf0 rfl hj (by simp only [xcN]; omega) ?_
    repeat (first | refine gkn rfl rfl ?_ | refine gkm rfl rfl ?_ | refine gad rfl ?_ | refine gml rfl ?_ | refine gsb rfl (by omega) ?_ | refine gdv rfl (by omega) (by omega) (by omega) ?_ | refine grm rfl (by omega) (by omega) (by omega) ?_ | refine gic rfl rfl ?_ | refine gp rfl rfl rfl ?_ | refine gFl rfl (by rfl) ?_ | refine gAl rfl rfl (by rfl) (by omega) ?_ | refine gBl rfl rfl (by rfl) (by omega) ?_)
    refine gcv (As := [.inl x, .inl y]) (rest := [.inl (nI j)]) rfl (by decide) e0 (mU_obj _ _ _) rfl rfl (Nat.le_of_ble_eq_true rfl) ?_
    cases hF : (cFile W x y).isSome with
    | false =>
      have e : cFile W x y = none := by
        cases hc : cFile W x y with
        | none => rfl
        | some F => rw [hc] at hF; cases hF
      rw [e]
      refine gct rfl (show (-1 : Int32) ≤ nI j from nlt_m1 hj) ?_
      repeat (first | refine gkn rfl rfl ?_ | refine gkm rfl rfl ?_ | refine gad rfl ?_ | refine gml rfl ?_ | refine gsb rfl (by omega) ?_ | refine gdv rfl (by omega) (by omega) (by omega) ?_ | refine grm rfl (by omega) (by omega) (by omega) ?_ | refine gic rfl rfl ?_ | refine gp rfl rfl rfl ?_ | refine gFl rfl (by rfl) ?_ | refine gAl rfl rfl (by rfl) (by omega) ?_ | refine gBl rfl rfl (by rfl) (by omega) ?_)
      exact gri rfl (fun h => absurd h (by decide)) ⟨rfl, rfl⟩
    | true =>
      rcases t4_cases x with ⟨t, ht, rfl⟩ | ⟨e1, h0⟩ | ⟨e1, h0⟩
      · rw [cFile_lt ht] at hF ⊢
        obtain ⟨p, hp, rfl⟩ := aAt_some hF
        rw [aAt_lt hp] at hF ⊢
        obtain ⟨-, g2, g3, g4, g5⟩ := h t p (by omega) hp
        have hr := rRm_le (t := t)
        rw [aLen_some hF, aLine_nI hF hj (by omega)]
        refine gcN rfl hj (by omega) (fun hge => ?_) (fun hlt => ?_)
        · have hge : (pLn (W t p)).length ≤ j := hge
          repeat (first | refine gkn rfl rfl ?_ | refine gkm rfl rfl ?_ | refine gad rfl ?_ | refine gml rfl ?_ | refine gsb rfl (by omega) ?_ | refine gdv rfl (by omega) (by omega) (by omega) ?_ | refine grm rfl (by omega) (by omega) (by omega) ?_ | refine gic rfl rfl ?_ | refine gp rfl rfl rfl ?_ | refine gFl rfl (by rfl) ?_ | refine gAl rfl rfl (by rfl) (by omega) ?_ | refine gBl rfl rfl (by rfl) (by omega) ?_)
          exact gri rfl (fun h => absurd h (by decide)) ⟨by rw [if_neg (by omega)]; rfl, rfl⟩
        · have hlt : ¬ (pLn (W t p)).length ≤ j := hlt
          have b1 := rSt_lt (t := t) (p := p) (j := j) (by omega) hp (by omega)
          repeat (first | refine gkn rfl rfl ?_ | refine gkm rfl rfl ?_ | refine gad rfl ?_ | refine gml rfl ?_ | refine gsb rfl (by omega) ?_ | refine gdv rfl (by omega) (by omega) (by omega) ?_ | refine grm rfl (by omega) (by omega) (by omega) ?_ | refine gic rfl rfl ?_ | refine gp rfl rfl rfl ?_ | refine gFl rfl (by rfl) ?_ | refine gAl rfl rfl (by rfl) (by omega) ?_ | refine gBl rfl rfl (by rfl) (by omega) ?_)
          refine gcs (As := [.inl (nI t), .inl (nI p)]) (rest := [.inr (some 55)]) rfl (by decide) (m_start (d + 1) (by omega) hp) rfl rfl (Nat.le_of_ble_eq_true rfl) ?_
          repeat (first | refine gkn rfl rfl ?_ | refine gkm rfl rfl ?_ | refine gad rfl ?_ | refine gml rfl ?_ | refine gsb rfl (by omega) ?_ | refine gdv rfl (by omega) (by omega) (by omega) ?_ | refine grm rfl (by omega) (by omega) (by omega) ?_ | refine gic rfl rfl ?_ | refine gp rfl rfl rfl ?_ | refine gFl rfl (by rfl) ?_ | refine gAl rfl rfl (by rfl) (by omega) ?_ | refine gBl rfl rfl (by rfl) (by omega) ?_)
          refine gri rfl (fun h => absurd h (by decide)) ⟨?_, rfl⟩
          rw [if_pos (by omega), g5 j (by omega)]
      · rw [cFile_no e1] at hF; cases hF
      · rw [cFile_no e1] at hF; cases hF
def mCo (A : Nat → Nat → Int32) (C : Nat → Int32) : Prop := ∀ p, p < 64 → A 60 p = C p
theorem r_conflict (d : Nat) {C : Nat → Int32} (hC : mCo A C) (y : Int32) : xEx (d + 1) 136 [.inr (some 52), .inl y] (mU σ I A) (some (.inl (aCode C y))) (mU σ I A) := by
  refine ⟨by decide, rfl, ?_⟩
  show xGo (xEx d) xtb_136 _ (0, [some (.inr (some 52)), some (.inl y)], [], mU σ I A)
  unfold aCode
  rcases oN_cases (n := 64) (by decide) y with ⟨p, hp, rfl, e1⟩ | ⟨hn, e1⟩
  · rw [e1]
    repeat (first | refine gkn rfl rfl ?_ | refine gkm rfl rfl ?_ | refine gad rfl ?_ | refine gml rfl ?_ | refine gsb rfl (by omega) ?_ | refine gdv rfl (by omega) (by omega) (by omega) ?_ | refine grm rfl (by omega) (by omega) (by omega) ?_ | refine gic rfl rfl ?_ | refine gp rfl rfl rfl ?_ | refine gFl rfl (by rfl) ?_ | refine gAl rfl rfl (by rfl) (by omega) ?_ | refine gBl rfl rfl (by rfl) (by omega) ?_ | refine gfN rfl (by omega) (by omega) (nN_ge (by omega)) ?_ | refine gfN rfl (by omega) (by omega) (nN_lt (by omega)) ?_ | refine gfN rfl (by omega) (by omega) (nN_eq (by omega)) ?_ | refine gfN rfl (by omega) (by omega) (nN_ne (by omega)) ?_ | refine gfN rfl (by omega) (by omega) (nN_gt (by omega)) ?_ | refine gfN rfl (by omega) (by omega) (nN_le (by omega)) ?_ | refine gtN rfl (by omega) (by omega) (xN_ge (by omega)) ?_ | refine gtN rfl (by omega) (by omega) (xN_lt (by omega)) ?_ | refine gtN rfl (by omega) (by omega) (xN_eq (by omega)) ?_ | refine gtN rfl (by omega) (by omega) (xN_ne (by omega)) ?_ | refine gtN rfl (by omega) (by omega) (xN_gt (by omega)) ?_ | refine gtN rfl (by omega) (by omega) (xN_le (by omega)) ?_ | refine gf0 rfl (by omega) (nN_ge (by omega)) ?_ | refine gf0 rfl (by omega) (nN_lt (by omega)) ?_ | refine gf0 rfl (by omega) (nN_eq (by omega)) ?_ | refine gf0 rfl (by omega) (nN_ne (by omega)) ?_ | refine gf0 rfl (by omega) (nN_gt (by omega)) ?_ | refine gf0 rfl (by omega) (nN_le (by omega)) ?_ | refine gt0 rfl (by omega) (xN_ge (by omega)) ?_ | refine gt0 rfl (by omega) (xN_lt (by omega)) ?_ | refine gt0 rfl (by omega) (xN_eq (by omega)) ?_ | refine gt0 rfl (by omega) (xN_ne (by omega)) ?_ | refine gt0 rfl (by omega) (xN_gt (by omega)) ?_ | refine gt0 rfl (by omega) (xN_le (by omega)) ?_)
    exact gri rfl (fun h => absurd h (by decide)) ⟨by rw [hC p hp], rfl⟩
  · rw [e1]
    repeat (first | refine gkn rfl rfl ?_ | refine gkm rfl rfl ?_ | refine gad rfl ?_ | refine gml rfl ?_ | refine gsb rfl (by omega) ?_ | refine gdv rfl (by omega) (by omega) (by omega) ?_ | refine grm rfl (by omega) (by omega) (by omega) ?_ | refine gic rfl rfl ?_ | refine gp rfl rfl rfl ?_ | refine gFl rfl (by rfl) ?_ | refine gAl rfl rfl (by rfl) (by omega) ?_ | refine gBl rfl rfl (by rfl) (by omega) ?_)
    refine gif' rfl (fun h0 => ?_) (fun h0 => ?_)
    · repeat (first | refine gkn rfl rfl ?_ | refine gkm rfl rfl ?_ | refine gad rfl ?_ | refine gml rfl ?_ | refine gsb rfl (by omega) ?_ | refine gdv rfl (by omega) (by omega) (by omega) ?_ | refine grm rfl (by omega) (by omega) (by omega) ?_ | refine gic rfl rfl ?_ | refine gp rfl rfl rfl ?_ | refine gFl rfl (by rfl) ?_ | refine gAl rfl rfl (by rfl) (by omega) ?_ | refine gBl rfl rfl (by rfl) (by omega) ?_)
      exact gri rfl (fun h => absurd h (by decide)) ⟨rfl, rfl⟩
    · repeat (first | refine gkn rfl rfl ?_ | refine gkm rfl rfl ?_ | refine gad rfl ?_ | refine gml rfl ?_ | refine gsb rfl (by omega) ?_ | refine gdv rfl (by omega) (by omega) (by omega) ?_ | refine grm rfl (by omega) (by omega) (by omega) ?_ | refine gic rfl rfl ?_ | refine gp rfl rfl rfl ?_ | refine gFl rfl (by rfl) ?_ | refine gAl rfl rfl (by rfl) (by omega) ?_ | refine gBl rfl rfl (by rfl) (by omega) ?_)
      refine gcf rfl (show ¬ y ≤ nI 63 from Int32.not_le.mpr (oN_hi (by decide) hn h0)) ?_
      repeat (first | refine gkn rfl rfl ?_ | refine gkm rfl rfl ?_ | refine gad rfl ?_ | refine gml rfl ?_ | refine gsb rfl (by omega) ?_ | refine gdv rfl (by omega) (by omega) (by omega) ?_ | refine grm rfl (by omega) (by omega) (by omega) ?_ | refine gic rfl rfl ?_ | refine gp rfl rfl rfl ?_ | refine gFl rfl (by rfl) ?_ | refine gAl rfl rfl (by rfl) (by omega) ?_ | refine gBl rfl rfl (by rfl) (by omega) ?_)
      exact gri rfl (fun h => absurd h (by decide)) ⟨rfl, rfl⟩
/-- the versions among the seven trees -/
def wV (W : Nat → pT) : Nat → pT := fun i => W (4 + i)
theorem cStaged_v {V : Nat → pT} {C : Nat → Int32} {v : Nat} (hv : v < 3) (y : Int32) : cStaged V C (nI v) y = if aCode C y = 0 then none else aAt (V v) y := by
  unfold cStaged aCode aAt
  rw [oN_lt hv (by decide)]
  cases oN 64 y with
  | none => simp
  | some j => rfl
theorem cStaged_no {V : Nat → pT} {C : Nat → Int32} {x : Int32} (h : oN 3 x = none) (y : Int32) : cStaged V C x y = none := by
  unfold cStaged
  rw [h]
theorem r_staged (d : Nat) {C : Nat → Int32} (h : mV A W) (hC : mCo A C) (x y : Int32) : xEx (d + 2) 137 [.inr (some 52), .inl x, .inl y] (mU σ I A) (some (.inl (aLen (cStaged (wV W) C x y)))) (mU σ I A) := by
  refine ⟨by decide, rfl, ?_⟩
  show xGo (xEx (d + 1)) xtb_137 _ (0, [some (.inr (some 52)), some (.inl x), some (.inl y)], [], mU σ I A)
  rcases oN_cases (n := 3) (by decide) x with ⟨v, hv, rfl, e1⟩ | ⟨hn, e1⟩
  · rw [cStaged_v hv]
    have e0 := r_hasX (σ := σ) (I := I) d (x := nI (4 + v)) (y := y) h
    rw [wAt_lt (by omega)] at e0
    repeat (first | refine gkn rfl rfl ?_ | refine gkm rfl rfl ?_ | refine gad rfl ?_ | refine gml rfl ?_ | refine gsb rfl (by omega) ?_ | refine gdv rfl (by omega) (by omega) (by omega) ?_ | refine grm rfl (by omega) (by omega) (by omega) ?_ | refine gic rfl rfl ?_ | refine gp rfl rfl rfl ?_ | refine gFl rfl (by rfl) ?_ | refine gAl rfl rfl (by rfl) (by omega) ?_ | refine gBl rfl rfl (by rfl) (by omega) ?_ | refine gfN rfl (by omega) (by omega) (nN_ge (by omega)) ?_ | refine gfN rfl (by omega) (by omega) (nN_lt (by omega)) ?_ | refine gfN rfl (by omega) (by omega) (nN_eq (by omega)) ?_ | refine gfN rfl (by omega) (by omega) (nN_ne (by omega)) ?_ | refine gfN rfl (by omega) (by omega) (nN_gt (by omega)) ?_ | refine gfN rfl (by omega) (by omega) (nN_le (by omega)) ?_ | refine gtN rfl (by omega) (by omega) (xN_ge (by omega)) ?_ | refine gtN rfl (by omega) (by omega) (xN_lt (by omega)) ?_ | refine gtN rfl (by omega) (by omega) (xN_eq (by omega)) ?_ | refine gtN rfl (by omega) (by omega) (xN_ne (by omega)) ?_ | refine gtN rfl (by omega) (by omega) (xN_gt (by omega)) ?_ | refine gtN rfl (by omega) (by omega) (xN_le (by omega)) ?_ | refine gf0 rfl (by omega) (nN_ge (by omega)) ?_ | refine gf0 rfl (by omega) (nN_lt (by omega)) ?_ | refine gf0 rfl (by omega) (nN_eq (by omega)) ?_ | refine gf0 rfl (by omega) (nN_ne (by omega)) ?_ | refine gf0 rfl (by omega) (nN_gt (by omega)) ?_ | refine gf0 rfl (by omega) (nN_le (by omega)) ?_ | refine gt0 rfl (by omega) (xN_ge (by omega)) ?_ | refine gt0 rfl (by omega) (xN_lt (by omega)) ?_ | refine gt0 rfl (by omega) (xN_eq (by omega)) ?_ | refine gt0 rfl (by omega) (xN_ne (by omega)) ?_ | refine gt0 rfl (by omega) (xN_gt (by omega)) ?_ | refine gt0 rfl (by omega) (xN_le (by omega)) ?_)
    refine gcv (As := [.inl y]) (rest := []) rfl (by decide) (r_conflict d hC y) (mU_obj _ _ _) rfl rfl (by decide) ?_
    refine gif' rfl (fun hz => ?_) (fun hz => ?_)
    · rw [if_pos (show aCode C y = 0 from hz)]
      repeat (first | refine gkn rfl rfl ?_ | refine gkm rfl rfl ?_ | refine gad rfl ?_ | refine gml rfl ?_ | refine gsb rfl (by omega) ?_ | refine gdv rfl (by omega) (by omega) (by omega) ?_ | refine grm rfl (by omega) (by omega) (by omega) ?_ | refine gic rfl rfl ?_ | refine gp rfl rfl rfl ?_ | refine gFl rfl (by rfl) ?_ | refine gAl rfl rfl (by rfl) (by omega) ?_ | refine gBl rfl rfl (by rfl) (by omega) ?_)
      exact gri rfl (fun h => absurd h (by decide)) ⟨rfl, rfl⟩
    · rw [if_neg (show ¬ aCode C y = 0 from hz)]
      repeat (first | refine gkn rfl rfl ?_ | refine gkm rfl rfl ?_ | refine gad rfl ?_ | refine gml rfl ?_ | refine gsb rfl (by omega) ?_ | refine gdv rfl (by omega) (by omega) (by omega) ?_ | refine grm rfl (by omega) (by omega) (by omega) ?_ | refine gic rfl rfl ?_ | refine gp rfl rfl rfl ?_ | refine gFl rfl (by rfl) ?_ | refine gAl rfl rfl (by rfl) (by omega) ?_ | refine gBl rfl rfl (by rfl) (by omega) ?_)
      refine gcv (As := [.inl (nI (4 + v)), .inl y]) (rest := []) rfl (by decide) e0 (mU_obj _ _ _) rfl rfl (by decide) ?_
      refine gbn rfl (fun hz => ?_) (fun hz => ?_)
      · obtain ⟨p, hp, rfl⟩ := aAt_some hz
        obtain ⟨-, g2, -⟩ := h (4 + v) p (by omega) hp
        rw [aAt_lt hp] at hz ⊢
        repeat (first | refine gkn rfl rfl ?_ | refine gkm rfl rfl ?_ | refine gad rfl ?_ | refine gml rfl ?_ | refine gsb rfl (by omega) ?_ | refine gdv rfl (by omega) (by omega) (by omega) ?_ | refine grm rfl (by omega) (by omega) (by omega) ?_ | refine gic rfl rfl ?_ | refine gp rfl rfl rfl ?_ | refine gFl rfl (by rfl) ?_ | refine gAl rfl rfl (by rfl) (by omega) ?_ | refine gBl rfl rfl (by rfl) (by omega) ?_)
        refine gri rfl (fun h => absurd h (by decide)) ⟨?_, rfl⟩
        show some (Sum.inl (A 54 (64 * (4 + v) + p))) = some (Sum.inl (aLen (W (4 + v) p)))
        rw [aLen_some hz, g2]
      · repeat (first | refine gkn rfl rfl ?_ | refine gkm rfl rfl ?_ | refine gad rfl ?_ | refine gml rfl ?_ | refine gsb rfl (by omega) ?_ | refine gdv rfl (by omega) (by omega) (by omega) ?_ | refine grm rfl (by omega) (by omega) (by omega) ?_ | refine gic rfl rfl ?_ | refine gp rfl rfl rfl ?_ | refine gFl rfl (by rfl) ?_ | refine gAl rfl rfl (by rfl) (by omega) ?_ | refine gBl rfl rfl (by rfl) (by omega) ?_)
        refine gri rfl (fun h => absurd h (by decide)) ⟨?_, rfl⟩
        show some (Sum.inl (-1)) = some (Sum.inl (aLen (aAt (W (4 + v)) y)))
        cases ha : aAt (W (4 + v)) y with
        | none => rfl
        | some F => rw [ha] at hz; cases hz
  · rw [cStaged_no e1]
    repeat (first | refine gkn rfl rfl ?_ | refine gkm rfl rfl ?_ | refine gad rfl ?_ | refine gml rfl ?_ | refine gsb rfl (by omega) ?_ | refine gdv rfl (by omega) (by omega) (by omega) ?_ | refine grm rfl (by omega) (by omega) (by omega) ?_ | refine gic rfl rfl ?_ | refine gp rfl rfl rfl ?_ | refine gFl rfl (by rfl) ?_ | refine gAl rfl rfl (by rfl) (by omega) ?_ | refine gBl rfl rfl (by rfl) (by omega) ?_)
    refine gif' rfl (fun h0 => ?_) (fun h0 => ?_)
    · repeat (first | refine gkn rfl rfl ?_ | refine gkm rfl rfl ?_ | refine gad rfl ?_ | refine gml rfl ?_ | refine gsb rfl (by omega) ?_ | refine gdv rfl (by omega) (by omega) (by omega) ?_ | refine grm rfl (by omega) (by omega) (by omega) ?_ | refine gic rfl rfl ?_ | refine gp rfl rfl rfl ?_ | refine gFl rfl (by rfl) ?_ | refine gAl rfl rfl (by rfl) (by omega) ?_ | refine gBl rfl rfl (by rfl) (by omega) ?_)
      exact gri rfl (fun h => absurd h (by decide)) ⟨rfl, rfl⟩
    · repeat (first | refine gkn rfl rfl ?_ | refine gkm rfl rfl ?_ | refine gad rfl ?_ | refine gml rfl ?_ | refine gsb rfl (by omega) ?_ | refine gdv rfl (by omega) (by omega) (by omega) ?_ | refine grm rfl (by omega) (by omega) (by omega) ?_ | refine gic rfl rfl ?_ | refine gp rfl rfl rfl ?_ | refine gFl rfl (by rfl) ?_ | refine gAl rfl rfl (by rfl) (by omega) ?_ | refine gBl rfl rfl (by rfl) (by omega) ?_)
      refine gct rfl (show nI 2 < x from oN_hi (by decide) hn h0) ?_
      repeat (first | refine gkn rfl rfl ?_ | refine gkm rfl rfl ?_ | refine gad rfl ?_ | refine gml rfl ?_ | refine gsb rfl (by omega) ?_ | refine gdv rfl (by omega) (by omega) (by omega) ?_ | refine grm rfl (by omega) (by omega) (by omega) ?_ | refine gic rfl rfl ?_ | refine gp rfl rfl rfl ?_ | refine gFl rfl (by rfl) ?_ | refine gAl rfl rfl (by rfl) (by omega) ?_ | refine gBl rfl rfl (by rfl) (by omega) ?_)
      exact gri rfl (fun h => absurd h (by decide)) ⟨rfl, rfl⟩
theorem r_stagedLine (d : Nat) {C : Nat → Int32} (h : mV A W) (hC : mCo A C) (x y z : Int32) : xEx (d + 3) 138 [.inr (some 52), .inl x, .inl y, .inl z] (mU σ I A) (some (.inl (aLine (cStaged (wV W) C x y) z))) (mU σ I A) := by
  refine ⟨by decide, rfl, ?_⟩
  show xGo (xEx (d + 2)) xtb_138 _ (0, [some (.inr (some 52)), some (.inl x), some (.inl y), some (.inl z)], [], mU σ I A)
  have e0 := r_staged (σ := σ) (I := I) d h hC x y
  by_cases hz0 : z < 0
  · rw [aLine_neg hz0]
    repeat (first | refine gkn rfl rfl ?_ | refine gkm rfl rfl ?_ | refine gad rfl ?_ | refine gml rfl ?_ | refine gsb rfl (by omega) ?_ | refine gdv rfl (by omega) (by omega) (by omega) ?_ | refine grm rfl (by omega) (by omega) (by omega) ?_ | refine gic rfl rfl ?_ | refine gp rfl rfl rfl ?_ | refine gFl rfl (by rfl) ?_ | refine gAl rfl rfl (by rfl) (by omega) ?_ | refine gBl rfl rfl (by rfl) (by omega) ?_)
    refine git rfl (show z < 0 from hz0) ?_
    repeat (first | refine gkn rfl rfl ?_ | refine gkm rfl rfl ?_ | refine gad rfl ?_ | refine gml rfl ?_ | refine gsb rfl (by omega) ?_ | refine gdv rfl (by omega) (by omega) (by omega) ?_ | refine grm rfl (by omega) (by omega) (by omega) ?_ | refine gic rfl rfl ?_ | refine gp rfl rfl rfl ?_ | refine gFl rfl (by rfl) ?_ | refine gAl rfl rfl (by rfl) (by omega) ?_ | refine gBl rfl rfl (by rfl) (by omega) ?_)
    exact gri rfl (fun h => absurd h (by decide)) ⟨rfl, rfl⟩
  · obtain ⟨j, hj, rfl⟩ := nI_of hz0
    repeat (first | refine gkn rfl rfl ?_ | refine gkm rfl rfl ?_ | refine gad rfl ?_ | refine gml rfl ?_ | refine gsb rfl (by omega) ?_ | refine gdv rfl (by omega) (by omega) (by omega) ?_ | refine grm rfl (by omega) (by omega) (by omega) ?_ | refine gic rfl rfl ?_ | refine gp rfl rfl rfl ?_ | refine gFl rfl (by rfl) ?_ | refine gAl rfl rfl (by rfl) (by omega) ?_ | refine gBl rfl rfl (by rfl) (by omega) ?_)
    refine gf0 rfl hj (by simp only [xcN]; omega) ?_
    repeat (first | refine gkn rfl rfl ?_ | refine gkm rfl rfl ?_ | refine gad rfl ?_ | refine gml rfl ?_ | refine gsb rfl (by omega) ?_ | refine gdv rfl (by omega) (by omega) (by omega) ?_ | refine grm rfl (by omega) (by omega) (by omega) ?_ | refine gic rfl rfl ?_ | refine gp rfl rfl rfl ?_ | refine gFl rfl (by rfl) ?_ | refine gAl rfl rfl (by rfl) (by omega) ?_ | refine gBl rfl rfl (by rfl) (by omega) ?_)
    refine gcv (As := [.inl x, .inl y]) (rest := [.inl (nI j)]) rfl (by decide) e0 (mU_obj _ _ _) rfl rfl (Nat.le_of_ble_eq_true rfl) ?_
    cases hF : (cStaged (wV W) C x y).isSome with
    | false =>
      have e : cStaged (wV W) C x y = none := by
        cases hc : cStaged (wV W) C x y with
        | none => rfl
        | some F => rw [hc] at hF; cases hF
      rw [e]
      refine gct rfl (show (-1 : Int32) ≤ nI j from nlt_m1 hj) ?_
      repeat (first | refine gkn rfl rfl ?_ | refine gkm rfl rfl ?_ | refine gad rfl ?_ | refine gml rfl ?_ | refine gsb rfl (by omega) ?_ | refine gdv rfl (by omega) (by omega) (by omega) ?_ | refine grm rfl (by omega) (by omega) (by omega) ?_ | refine gic rfl rfl ?_ | refine gp rfl rfl rfl ?_ | refine gFl rfl (by rfl) ?_ | refine gAl rfl rfl (by rfl) (by omega) ?_ | refine gBl rfl rfl (by rfl) (by omega) ?_)
      exact gri rfl (fun h => absurd h (by decide)) ⟨rfl, rfl⟩
    | true =>
      rcases oN_cases (n := 3) (by decide) x with ⟨v, hv, rfl, e1⟩ | ⟨hn, e1⟩
      · have ec : cStaged (wV W) C (nI v) y = aAt (W (4 + v)) y := by
          rw [cStaged_v hv] at hF ⊢
          by_cases hz : aCode C y = 0
          · rw [if_pos hz] at hF; cases hF
          · rw [if_neg hz]; rfl
        rw [ec] at hF ⊢
        obtain ⟨p, hp, rfl⟩ := aAt_some hF
        rw [aAt_lt hp] at hF ⊢
        obtain ⟨-, g2, g3, g4, g5⟩ := h (4 + v) p (by omega) hp
        have hr := rRm_le (t := 4 + v)
        rw [aLen_some hF, aLine_nI hF hj (by omega)]
        refine gcN rfl hj (by omega) (fun hge => ?_) (fun hlt => ?_)
        · have hge : (pLn (W (4 + v) p)).length ≤ j := hge
          repeat (first | refine gkn rfl rfl ?_ | refine gkm rfl rfl ?_ | refine gad rfl ?_ | refine gml rfl ?_ | refine gsb rfl (by omega) ?_ | refine gdv rfl (by omega) (by omega) (by omega) ?_ | refine grm rfl (by omega) (by omega) (by omega) ?_ | refine gic rfl rfl ?_ | refine gp rfl rfl rfl ?_ | refine gFl rfl (by rfl) ?_ | refine gAl rfl rfl (by rfl) (by omega) ?_ | refine gBl rfl rfl (by rfl) (by omega) ?_)
          exact gri rfl (fun h => absurd h (by decide)) ⟨by rw [if_neg (by omega)]; rfl, rfl⟩
        · have hlt : ¬ (pLn (W (4 + v) p)).length ≤ j := hlt
          have b1 := rSt_lt (t := 4 + v) (p := p) (j := j) (by omega) hp (by omega)
          repeat (first | refine gkn rfl rfl ?_ | refine gkm rfl rfl ?_ | refine gad rfl ?_ | refine gml rfl ?_ | refine gsb rfl (by omega) ?_ | refine gdv rfl (by omega) (by omega) (by omega) ?_ | refine grm rfl (by omega) (by omega) (by omega) ?_ | refine gic rfl rfl ?_ | refine gp rfl rfl rfl ?_ | refine gFl rfl (by rfl) ?_ | refine gAl rfl rfl (by rfl) (by omega) ?_ | refine gBl rfl rfl (by rfl) (by omega) ?_)
          refine gcs (As := [.inl (nI (4 + v)), .inl (nI p)]) (rest := [.inr (some 55)]) rfl (by decide) (m_start (d + 1) (by omega) hp) rfl rfl (Nat.le_of_ble_eq_true rfl) ?_
          repeat (first | refine gkn rfl rfl ?_ | refine gkm rfl rfl ?_ | refine gad rfl ?_ | refine gml rfl ?_ | refine gsb rfl (by omega) ?_ | refine gdv rfl (by omega) (by omega) (by omega) ?_ | refine grm rfl (by omega) (by omega) (by omega) ?_ | refine gic rfl rfl ?_ | refine gp rfl rfl rfl ?_ | refine gFl rfl (by rfl) ?_ | refine gAl rfl rfl (by rfl) (by omega) ?_ | refine gBl rfl rfl (by rfl) (by omega) ?_)
          refine gri rfl (fun h => absurd h (by decide)) ⟨?_, rfl⟩
          rw [if_pos (by omega), g5 j (by omega)]
      · rw [cStaged_no e1] at hF; cases hF
/-- what the last merge found of a side -/
def mDs (A : Nat → Nat → Int32) (s : Nat) (D : pD) : Prop := (∀ p, p < 64 → A 56 (64 * (s - 1) + p) = oI (D.1 p)) ∧ (∀ f, f < 8 → A 59 (8 * (s - 1) + f) = plI (D.2.1 f)) ∧ (∀ p, p < 64 → A 58 (64 * (s - 1) + p) = oI (D.2.2 p))
theorem r_renamed (d : Nat) {D1 D2 : pD} (h1 : mDs A 1 D1) (h2 : mDs A 2 D2) (x y : Int32) : xEx (d + 1) 139 [.inr (some 52), .inl x, .inl y] (mU σ I A) (some (.inl (aSide x (aTo D1.1 y) (aTo D2.1 y) (-1)))) (mU σ I A) := by
  refine ⟨by decide, rfl, ?_⟩
  show xGo (xEx d) xtb_139 _ (0, [some (.inr (some 52)), some (.inl x), some (.inl y)], [], mU σ I A)
  have hd : ∀ s, (s = 1 ∨ s = 2) → mDs A s (if s = 1 then D1 else D2) := fun s hs => by
    rcases hs with rfl | rfl
    · exact h1
    · exact h2
  rcases side_cases x with ⟨s, hs, rfl⟩ | ⟨g1, g2, g3⟩
  · rw [show aSide (nI s) (aTo D1.1 y) (aTo D2.1 y) (-1) = aTo (if s = 1 then D1 else D2).1 y from aSide_s hs (fun s => aTo (if s = 1 then D1 else D2).1 y) (-1)]
    obtain ⟨q1, -, -⟩ := hd s hs
    unfold aTo
    rcases oN_cases (n := 64) (by decide) y with ⟨p, hp, rfl, e1⟩ | ⟨hn, e1⟩
    · rw [e1]
      repeat (first | refine gkn rfl rfl ?_ | refine gkm rfl rfl ?_ | refine gad rfl ?_ | refine gml rfl ?_ | refine gsb rfl (by omega) ?_ | refine gdv rfl (by omega) (by omega) (by omega) ?_ | refine grm rfl (by omega) (by omega) (by omega) ?_ | refine gic rfl rfl ?_ | refine gp rfl rfl rfl ?_ | refine gFl rfl (by rfl) ?_ | refine gAl rfl rfl (by rfl) (by omega) ?_ | refine gBl rfl rfl (by rfl) (by omega) ?_ | refine gfN rfl (by omega) (by omega) (nN_ge (by omega)) ?_ | refine gfN rfl (by omega) (by omega) (nN_lt (by omega)) ?_ | refine gfN rfl (by omega) (by omega) (nN_eq (by omega)) ?_ | refine gfN rfl (by omega) (by omega) (nN_ne (by omega)) ?_ | refine gfN rfl (by omega) (by omega) (nN_gt (by omega)) ?_ | refine gfN rfl (by omega) (by omega) (nN_le (by omega)) ?_ | refine gtN rfl (by omega) (by omega) (xN_ge (by omega)) ?_ | refine gtN rfl (by omega) (by omega) (xN_lt (by omega)) ?_ | refine gtN rfl (by omega) (by omega) (xN_eq (by omega)) ?_ | refine gtN rfl (by omega) (by omega) (xN_ne (by omega)) ?_ | refine gtN rfl (by omega) (by omega) (xN_gt (by omega)) ?_ | refine gtN rfl (by omega) (by omega) (xN_le (by omega)) ?_ | refine gf0 rfl (by omega) (nN_ge (by omega)) ?_ | refine gf0 rfl (by omega) (nN_lt (by omega)) ?_ | refine gf0 rfl (by omega) (nN_eq (by omega)) ?_ | refine gf0 rfl (by omega) (nN_ne (by omega)) ?_ | refine gf0 rfl (by omega) (nN_gt (by omega)) ?_ | refine gf0 rfl (by omega) (nN_le (by omega)) ?_ | refine gt0 rfl (by omega) (xN_ge (by omega)) ?_ | refine gt0 rfl (by omega) (xN_lt (by omega)) ?_ | refine gt0 rfl (by omega) (xN_eq (by omega)) ?_ | refine gt0 rfl (by omega) (xN_ne (by omega)) ?_ | refine gt0 rfl (by omega) (xN_gt (by omega)) ?_ | refine gt0 rfl (by omega) (xN_le (by omega)) ?_)
      exact gri rfl (fun h => absurd h (by decide)) ⟨by rw [q1 p hp], rfl⟩
    · rw [e1]
      repeat (first | refine gkn rfl rfl ?_ | refine gkm rfl rfl ?_ | refine gad rfl ?_ | refine gml rfl ?_ | refine gsb rfl (by omega) ?_ | refine gdv rfl (by omega) (by omega) (by omega) ?_ | refine grm rfl (by omega) (by omega) (by omega) ?_ | refine gic rfl rfl ?_ | refine gp rfl rfl rfl ?_ | refine gFl rfl (by rfl) ?_ | refine gAl rfl rfl (by rfl) (by omega) ?_ | refine gBl rfl rfl (by rfl) (by omega) ?_ | refine gfN rfl (by omega) (by omega) (nN_ge (by omega)) ?_ | refine gfN rfl (by omega) (by omega) (nN_lt (by omega)) ?_ | refine gfN rfl (by omega) (by omega) (nN_eq (by omega)) ?_ | refine gfN rfl (by omega) (by omega) (nN_ne (by omega)) ?_ | refine gfN rfl (by omega) (by omega) (nN_gt (by omega)) ?_ | refine gfN rfl (by omega) (by omega) (nN_le (by omega)) ?_ | refine gtN rfl (by omega) (by omega) (xN_ge (by omega)) ?_ | refine gtN rfl (by omega) (by omega) (xN_lt (by omega)) ?_ | refine gtN rfl (by omega) (by omega) (xN_eq (by omega)) ?_ | refine gtN rfl (by omega) (by omega) (xN_ne (by omega)) ?_ | refine gtN rfl (by omega) (by omega) (xN_gt (by omega)) ?_ | refine gtN rfl (by omega) (by omega) (xN_le (by omega)) ?_ | refine gf0 rfl (by omega) (nN_ge (by omega)) ?_ | refine gf0 rfl (by omega) (nN_lt (by omega)) ?_ | refine gf0 rfl (by omega) (nN_eq (by omega)) ?_ | refine gf0 rfl (by omega) (nN_ne (by omega)) ?_ | refine gf0 rfl (by omega) (nN_gt (by omega)) ?_ | refine gf0 rfl (by omega) (nN_le (by omega)) ?_ | refine gt0 rfl (by omega) (xN_ge (by omega)) ?_ | refine gt0 rfl (by omega) (xN_lt (by omega)) ?_ | refine gt0 rfl (by omega) (xN_eq (by omega)) ?_ | refine gt0 rfl (by omega) (xN_ne (by omega)) ?_ | refine gt0 rfl (by omega) (xN_gt (by omega)) ?_ | refine gt0 rfl (by omega) (xN_le (by omega)) ?_)
      refine gif' rfl (fun h0 => ?_) (fun h0 => ?_)
      · repeat (first | refine gkn rfl rfl ?_ | refine gkm rfl rfl ?_ | refine gad rfl ?_ | refine gml rfl ?_ | refine gsb rfl (by omega) ?_ | refine gdv rfl (by omega) (by omega) (by omega) ?_ | refine grm rfl (by omega) (by omega) (by omega) ?_ | refine gic rfl rfl ?_ | refine gp rfl rfl rfl ?_ | refine gFl rfl (by rfl) ?_ | refine gAl rfl rfl (by rfl) (by omega) ?_ | refine gBl rfl rfl (by rfl) (by omega) ?_)
        exact gri rfl (fun h => absurd h (by decide)) ⟨rfl, rfl⟩
      · repeat (first | refine gkn rfl rfl ?_ | refine gkm rfl rfl ?_ | refine gad rfl ?_ | refine gml rfl ?_ | refine gsb rfl (by omega) ?_ | refine gdv rfl (by omega) (by omega) (by omega) ?_ | refine grm rfl (by omega) (by omega) (by omega) ?_ | refine gic rfl rfl ?_ | refine gp rfl rfl rfl ?_ | refine gFl rfl (by rfl) ?_ | refine gAl rfl rfl (by rfl) (by omega) ?_ | refine gBl rfl rfl (by rfl) (by omega) ?_)
        refine gcf rfl (show ¬ y ≤ nI 63 from Int32.not_le.mpr (oN_hi (by decide) hn h0)) ?_
        repeat (first | refine gkn rfl rfl ?_ | refine gkm rfl rfl ?_ | refine gad rfl ?_ | refine gml rfl ?_ | refine gsb rfl (by omega) ?_ | refine gdv rfl (by omega) (by omega) (by omega) ?_ | refine grm rfl (by omega) (by omega) (by omega) ?_ | refine gic rfl rfl ?_ | refine gp rfl rfl rfl ?_ | refine gFl rfl (by rfl) ?_ | refine gAl rfl rfl (by rfl) (by omega) ?_ | refine gBl rfl rfl (by rfl) (by omega) ?_)
        exact gri rfl (fun h => absurd h (by decide)) ⟨rfl, rfl⟩
  · rw [aSide_no g1 g2]
    repeat (first | refine gkn rfl rfl ?_ | refine gkm rfl rfl ?_ | refine gad rfl ?_ | refine gml rfl ?_ | refine gsb rfl (by omega) ?_ | refine gdv rfl (by omega) (by omega) (by omega) ?_ | refine grm rfl (by omega) (by omega) (by omega) ?_ | refine gic rfl rfl ?_ | refine gp rfl rfl rfl ?_ | refine gFl rfl (by rfl) ?_ | refine gAl rfl rfl (by rfl) (by omega) ?_ | refine gBl rfl rfl (by rfl) (by omega) ?_)
    refine gcp rfl (fun g => ?_) (fun g => ?_)
    · repeat (first | refine gkn rfl rfl ?_ | refine gkm rfl rfl ?_ | refine gad rfl ?_ | refine gml rfl ?_ | refine gsb rfl (by omega) ?_ | refine gdv rfl (by omega) (by omega) (by omega) ?_ | refine grm rfl (by omega) (by omega) (by omega) ?_ | refine gic rfl rfl ?_ | refine gp rfl rfl rfl ?_ | refine gFl rfl (by rfl) ?_ | refine gAl rfl rfl (by rfl) (by omega) ?_ | refine gBl rfl rfl (by rfl) (by omega) ?_)
      exact gri rfl (fun h => absurd h (by decide)) ⟨rfl, rfl⟩
    · repeat (first | refine gkn rfl rfl ?_ | refine gkm rfl rfl ?_ | refine gad rfl ?_ | refine gml rfl ?_ | refine gsb rfl (by omega) ?_ | refine gdv rfl (by omega) (by omega) (by omega) ?_ | refine grm rfl (by omega) (by omega) (by omega) ?_ | refine gic rfl rfl ?_ | refine gp rfl rfl rfl ?_ | refine gFl rfl (by rfl) ?_ | refine gAl rfl rfl (by rfl) (by omega) ?_ | refine gBl rfl rfl (by rfl) (by omega) ?_)
      refine gct rfl (show nI 2 < x from g3.elim (fun z => absurd z g) id) ?_
      repeat (first | refine gkn rfl rfl ?_ | refine gkm rfl rfl ?_ | refine gad rfl ?_ | refine gml rfl ?_ | refine gsb rfl (by omega) ?_ | refine gdv rfl (by omega) (by omega) (by omega) ?_ | refine grm rfl (by omega) (by omega) (by omega) ?_ | refine gic rfl rfl ?_ | refine gp rfl rfl rfl ?_ | refine gFl rfl (by rfl) ?_ | refine gAl rfl rfl (by rfl) (by omega) ?_ | refine gBl rfl rfl (by rfl) (by omega) ?_)
      exact gri rfl (fun h => absurd h (by decide)) ⟨rfl, rfl⟩
theorem r_newPlace (d : Nat) {D1 D2 : pD} (h1 : mDs A 1 D1) (h2 : mDs A 2 D2) (x y : Int32) : xEx (d + 1) 140 [.inr (some 52), .inl x, .inl y] (mU σ I A) (some (.inl (aSide x (aPl D1.2.1 y) (aPl D2.2.1 y) (-1)))) (mU σ I A) := by
  refine ⟨by decide, rfl, ?_⟩
  show xGo (xEx d) xtb_140 _ (0, [some (.inr (some 52)), some (.inl x), some (.inl y)], [], mU σ I A)
  have hd : ∀ s, (s = 1 ∨ s = 2) → mDs A s (if s = 1 then D1 else D2) := fun s hs => by
    rcases hs with rfl | rfl
    · exact h1
    · exact h2
  rcases side_cases x with ⟨s, hs, rfl⟩ | ⟨g1, g2, g3⟩
  · rw [show aSide (nI s) (aPl D1.2.1 y) (aPl D2.2.1 y) (-1) = aPl (if s = 1 then D1 else D2).2.1 y from aSide_s hs (fun s => aPl (if s = 1 then D1 else D2).2.1 y) (-1)]
    obtain ⟨-, q1, -⟩ := hd s hs
    unfold aPl
    rcases oN_cases (n := 8) (by decide) y with ⟨p, hp, rfl, e1⟩ | ⟨hn, e1⟩
    · rw [e1]
      repeat (first | refine gkn rfl rfl ?_ | refine gkm rfl rfl ?_ | refine gad rfl ?_ | refine gml rfl ?_ | refine gsb rfl (by omega) ?_ | refine gdv rfl (by omega) (by omega) (by omega) ?_ | refine grm rfl (by omega) (by omega) (by omega) ?_ | refine gic rfl rfl ?_ | refine gp rfl rfl rfl ?_ | refine gFl rfl (by rfl) ?_ | refine gAl rfl rfl (by rfl) (by omega) ?_ | refine gBl rfl rfl (by rfl) (by omega) ?_ | refine gfN rfl (by omega) (by omega) (nN_ge (by omega)) ?_ | refine gfN rfl (by omega) (by omega) (nN_lt (by omega)) ?_ | refine gfN rfl (by omega) (by omega) (nN_eq (by omega)) ?_ | refine gfN rfl (by omega) (by omega) (nN_ne (by omega)) ?_ | refine gfN rfl (by omega) (by omega) (nN_gt (by omega)) ?_ | refine gfN rfl (by omega) (by omega) (nN_le (by omega)) ?_ | refine gtN rfl (by omega) (by omega) (xN_ge (by omega)) ?_ | refine gtN rfl (by omega) (by omega) (xN_lt (by omega)) ?_ | refine gtN rfl (by omega) (by omega) (xN_eq (by omega)) ?_ | refine gtN rfl (by omega) (by omega) (xN_ne (by omega)) ?_ | refine gtN rfl (by omega) (by omega) (xN_gt (by omega)) ?_ | refine gtN rfl (by omega) (by omega) (xN_le (by omega)) ?_ | refine gf0 rfl (by omega) (nN_ge (by omega)) ?_ | refine gf0 rfl (by omega) (nN_lt (by omega)) ?_ | refine gf0 rfl (by omega) (nN_eq (by omega)) ?_ | refine gf0 rfl (by omega) (nN_ne (by omega)) ?_ | refine gf0 rfl (by omega) (nN_gt (by omega)) ?_ | refine gf0 rfl (by omega) (nN_le (by omega)) ?_ | refine gt0 rfl (by omega) (xN_ge (by omega)) ?_ | refine gt0 rfl (by omega) (xN_lt (by omega)) ?_ | refine gt0 rfl (by omega) (xN_eq (by omega)) ?_ | refine gt0 rfl (by omega) (xN_ne (by omega)) ?_ | refine gt0 rfl (by omega) (xN_gt (by omega)) ?_ | refine gt0 rfl (by omega) (xN_le (by omega)) ?_)
      exact gri rfl (fun h => absurd h (by decide)) ⟨by rw [q1 p hp], rfl⟩
    · rw [e1]
      repeat (first | refine gkn rfl rfl ?_ | refine gkm rfl rfl ?_ | refine gad rfl ?_ | refine gml rfl ?_ | refine gsb rfl (by omega) ?_ | refine gdv rfl (by omega) (by omega) (by omega) ?_ | refine grm rfl (by omega) (by omega) (by omega) ?_ | refine gic rfl rfl ?_ | refine gp rfl rfl rfl ?_ | refine gFl rfl (by rfl) ?_ | refine gAl rfl rfl (by rfl) (by omega) ?_ | refine gBl rfl rfl (by rfl) (by omega) ?_ | refine gfN rfl (by omega) (by omega) (nN_ge (by omega)) ?_ | refine gfN rfl (by omega) (by omega) (nN_lt (by omega)) ?_ | refine gfN rfl (by omega) (by omega) (nN_eq (by omega)) ?_ | refine gfN rfl (by omega) (by omega) (nN_ne (by omega)) ?_ | refine gfN rfl (by omega) (by omega) (nN_gt (by omega)) ?_ | refine gfN rfl (by omega) (by omega) (nN_le (by omega)) ?_ | refine gtN rfl (by omega) (by omega) (xN_ge (by omega)) ?_ | refine gtN rfl (by omega) (by omega) (xN_lt (by omega)) ?_ | refine gtN rfl (by omega) (by omega) (xN_eq (by omega)) ?_ | refine gtN rfl (by omega) (by omega) (xN_ne (by omega)) ?_ | refine gtN rfl (by omega) (by omega) (xN_gt (by omega)) ?_ | refine gtN rfl (by omega) (by omega) (xN_le (by omega)) ?_ | refine gf0 rfl (by omega) (nN_ge (by omega)) ?_ | refine gf0 rfl (by omega) (nN_lt (by omega)) ?_ | refine gf0 rfl (by omega) (nN_eq (by omega)) ?_ | refine gf0 rfl (by omega) (nN_ne (by omega)) ?_ | refine gf0 rfl (by omega) (nN_gt (by omega)) ?_ | refine gf0 rfl (by omega) (nN_le (by omega)) ?_ | refine gt0 rfl (by omega) (xN_ge (by omega)) ?_ | refine gt0 rfl (by omega) (xN_lt (by omega)) ?_ | refine gt0 rfl (by omega) (xN_eq (by omega)) ?_ | refine gt0 rfl (by omega) (xN_ne (by omega)) ?_ | refine gt0 rfl (by omega) (xN_gt (by omega)) ?_ | refine gt0 rfl (by omega) (xN_le (by omega)) ?_)
      refine gif' rfl (fun h0 => ?_) (fun h0 => ?_)
      · repeat (first | refine gkn rfl rfl ?_ | refine gkm rfl rfl ?_ | refine gad rfl ?_ | refine gml rfl ?_ | refine gsb rfl (by omega) ?_ | refine gdv rfl (by omega) (by omega) (by omega) ?_ | refine grm rfl (by omega) (by omega) (by omega) ?_ | refine gic rfl rfl ?_ | refine gp rfl rfl rfl ?_ | refine gFl rfl (by rfl) ?_ | refine gAl rfl rfl (by rfl) (by omega) ?_ | refine gBl rfl rfl (by rfl) (by omega) ?_)
        exact gri rfl (fun h => absurd h (by decide)) ⟨rfl, rfl⟩
      · repeat (first | refine gkn rfl rfl ?_ | refine gkm rfl rfl ?_ | refine gad rfl ?_ | refine gml rfl ?_ | refine gsb rfl (by omega) ?_ | refine gdv rfl (by omega) (by omega) (by omega) ?_ | refine grm rfl (by omega) (by omega) (by omega) ?_ | refine gic rfl rfl ?_ | refine gp rfl rfl rfl ?_ | refine gFl rfl (by rfl) ?_ | refine gAl rfl rfl (by rfl) (by omega) ?_ | refine gBl rfl rfl (by rfl) (by omega) ?_)
        refine gcf rfl (show ¬ y ≤ nI 7 from Int32.not_le.mpr (oN_hi (by decide) hn h0)) ?_
        repeat (first | refine gkn rfl rfl ?_ | refine gkm rfl rfl ?_ | refine gad rfl ?_ | refine gml rfl ?_ | refine gsb rfl (by omega) ?_ | refine gdv rfl (by omega) (by omega) (by omega) ?_ | refine grm rfl (by omega) (by omega) (by omega) ?_ | refine gic rfl rfl ?_ | refine gp rfl rfl rfl ?_ | refine gFl rfl (by rfl) ?_ | refine gAl rfl rfl (by rfl) (by omega) ?_ | refine gBl rfl rfl (by rfl) (by omega) ?_)
        exact gri rfl (fun h => absurd h (by decide)) ⟨rfl, rfl⟩
  · rw [aSide_no g1 g2]
    repeat (first | refine gkn rfl rfl ?_ | refine gkm rfl rfl ?_ | refine gad rfl ?_ | refine gml rfl ?_ | refine gsb rfl (by omega) ?_ | refine gdv rfl (by omega) (by omega) (by omega) ?_ | refine grm rfl (by omega) (by omega) (by omega) ?_ | refine gic rfl rfl ?_ | refine gp rfl rfl rfl ?_ | refine gFl rfl (by rfl) ?_ | refine gAl rfl rfl (by rfl) (by omega) ?_ | refine gBl rfl rfl (by rfl) (by omega) ?_)
    refine gcp rfl (fun g => ?_) (fun g => ?_)
    · repeat (first | refine gkn rfl rfl ?_ | refine gkm rfl rfl ?_ | refine gad rfl ?_ | refine gml rfl ?_ | refine gsb rfl (by omega) ?_ | refine gdv rfl (by omega) (by omega) (by omega) ?_ | refine grm rfl (by omega) (by omega) (by omega) ?_ | refine gic rfl rfl ?_ | refine gp rfl rfl rfl ?_ | refine gFl rfl (by rfl) ?_ | refine gAl rfl rfl (by rfl) (by omega) ?_ | refine gBl rfl rfl (by rfl) (by omega) ?_)
      exact gri rfl (fun h => absurd h (by decide)) ⟨rfl, rfl⟩
    · repeat (first | refine gkn rfl rfl ?_ | refine gkm rfl rfl ?_ | refine gad rfl ?_ | refine gml rfl ?_ | refine gsb rfl (by omega) ?_ | refine gdv rfl (by omega) (by omega) (by omega) ?_ | refine grm rfl (by omega) (by omega) (by omega) ?_ | refine gic rfl rfl ?_ | refine gp rfl rfl rfl ?_ | refine gFl rfl (by rfl) ?_ | refine gAl rfl rfl (by rfl) (by omega) ?_ | refine gBl rfl rfl (by rfl) (by omega) ?_)
      refine gct rfl (show nI 2 < x from g3.elim (fun z => absurd z g) id) ?_
      repeat (first | refine gkn rfl rfl ?_ | refine gkm rfl rfl ?_ | refine gad rfl ?_ | refine gml rfl ?_ | refine gsb rfl (by omega) ?_ | refine gdv rfl (by omega) (by omega) (by omega) ?_ | refine grm rfl (by omega) (by omega) (by omega) ?_ | refine gic rfl rfl ?_ | refine gp rfl rfl rfl ?_ | refine gFl rfl (by rfl) ?_ | refine gAl rfl rfl (by rfl) (by omega) ?_ | refine gBl rfl rfl (by rfl) (by omega) ?_)
      exact gri rfl (fun h => absurd h (by decide)) ⟨rfl, rfl⟩
theorem r_stands (d : Nat) {D1 D2 : pD} (h1 : mDs A 1 D1) (h2 : mDs A 2 D2) (x y : Int32) : xEx (d + 1) 141 [.inr (some 52), .inl x, .inl y] (mU σ I A) (some (.inl (aSide x (aTo D1.2.2 y) (aTo D2.2.2 y) (-1)))) (mU σ I A) := by
  refine ⟨by decide, rfl, ?_⟩
  show xGo (xEx d) xtb_141 _ (0, [some (.inr (some 52)), some (.inl x), some (.inl y)], [], mU σ I A)
  have hd : ∀ s, (s = 1 ∨ s = 2) → mDs A s (if s = 1 then D1 else D2) := fun s hs => by
    rcases hs with rfl | rfl
    · exact h1
    · exact h2
  rcases side_cases x with ⟨s, hs, rfl⟩ | ⟨g1, g2, g3⟩
  · rw [show aSide (nI s) (aTo D1.2.2 y) (aTo D2.2.2 y) (-1) = aTo (if s = 1 then D1 else D2).2.2 y from aSide_s hs (fun s => aTo (if s = 1 then D1 else D2).2.2 y) (-1)]
    obtain ⟨-, -, q1⟩ := hd s hs
    unfold aTo
    rcases oN_cases (n := 64) (by decide) y with ⟨p, hp, rfl, e1⟩ | ⟨hn, e1⟩
    · rw [e1]
      repeat (first | refine gkn rfl rfl ?_ | refine gkm rfl rfl ?_ | refine gad rfl ?_ | refine gml rfl ?_ | refine gsb rfl (by omega) ?_ | refine gdv rfl (by omega) (by omega) (by omega) ?_ | refine grm rfl (by omega) (by omega) (by omega) ?_ | refine gic rfl rfl ?_ | refine gp rfl rfl rfl ?_ | refine gFl rfl (by rfl) ?_ | refine gAl rfl rfl (by rfl) (by omega) ?_ | refine gBl rfl rfl (by rfl) (by omega) ?_ | refine gfN rfl (by omega) (by omega) (nN_ge (by omega)) ?_ | refine gfN rfl (by omega) (by omega) (nN_lt (by omega)) ?_ | refine gfN rfl (by omega) (by omega) (nN_eq (by omega)) ?_ | refine gfN rfl (by omega) (by omega) (nN_ne (by omega)) ?_ | refine gfN rfl (by omega) (by omega) (nN_gt (by omega)) ?_ | refine gfN rfl (by omega) (by omega) (nN_le (by omega)) ?_ | refine gtN rfl (by omega) (by omega) (xN_ge (by omega)) ?_ | refine gtN rfl (by omega) (by omega) (xN_lt (by omega)) ?_ | refine gtN rfl (by omega) (by omega) (xN_eq (by omega)) ?_ | refine gtN rfl (by omega) (by omega) (xN_ne (by omega)) ?_ | refine gtN rfl (by omega) (by omega) (xN_gt (by omega)) ?_ | refine gtN rfl (by omega) (by omega) (xN_le (by omega)) ?_ | refine gf0 rfl (by omega) (nN_ge (by omega)) ?_ | refine gf0 rfl (by omega) (nN_lt (by omega)) ?_ | refine gf0 rfl (by omega) (nN_eq (by omega)) ?_ | refine gf0 rfl (by omega) (nN_ne (by omega)) ?_ | refine gf0 rfl (by omega) (nN_gt (by omega)) ?_ | refine gf0 rfl (by omega) (nN_le (by omega)) ?_ | refine gt0 rfl (by omega) (xN_ge (by omega)) ?_ | refine gt0 rfl (by omega) (xN_lt (by omega)) ?_ | refine gt0 rfl (by omega) (xN_eq (by omega)) ?_ | refine gt0 rfl (by omega) (xN_ne (by omega)) ?_ | refine gt0 rfl (by omega) (xN_gt (by omega)) ?_ | refine gt0 rfl (by omega) (xN_le (by omega)) ?_)
      exact gri rfl (fun h => absurd h (by decide)) ⟨by rw [q1 p hp], rfl⟩
    · rw [e1]
      repeat (first | refine gkn rfl rfl ?_ | refine gkm rfl rfl ?_ | refine gad rfl ?_ | refine gml rfl ?_ | refine gsb rfl (by omega) ?_ | refine gdv rfl (by omega) (by omega) (by omega) ?_ | refine grm rfl (by omega) (by omega) (by omega) ?_ | refine gic rfl rfl ?_ | refine gp rfl rfl rfl ?_ | refine gFl rfl (by rfl) ?_ | refine gAl rfl rfl (by rfl) (by omega) ?_ | refine gBl rfl rfl (by rfl) (by omega) ?_ | refine gfN rfl (by omega) (by omega) (nN_ge (by omega)) ?_ | refine gfN rfl (by omega) (by omega) (nN_lt (by omega)) ?_ | refine gfN rfl (by omega) (by omega) (nN_eq (by omega)) ?_ | refine gfN rfl (by omega) (by omega) (nN_ne (by omega)) ?_ | refine gfN rfl (by omega) (by omega) (nN_gt (by omega)) ?_ | refine gfN rfl (by omega) (by omega) (nN_le (by omega)) ?_ | refine gtN rfl (by omega) (by omega) (xN_ge (by omega)) ?_ | refine gtN rfl (by omega) (by omega) (xN_lt (by omega)) ?_ | refine gtN rfl (by omega) (by omega) (xN_eq (by omega)) ?_ | refine gtN rfl (by omega) (by omega) (xN_ne (by omega)) ?_ | refine gtN rfl (by omega) (by omega) (xN_gt (by omega)) ?_ | refine gtN rfl (by omega) (by omega) (xN_le (by omega)) ?_ | refine gf0 rfl (by omega) (nN_ge (by omega)) ?_ | refine gf0 rfl (by omega) (nN_lt (by omega)) ?_ | refine gf0 rfl (by omega) (nN_eq (by omega)) ?_ | refine gf0 rfl (by omega) (nN_ne (by omega)) ?_ | refine gf0 rfl (by omega) (nN_gt (by omega)) ?_ | refine gf0 rfl (by omega) (nN_le (by omega)) ?_ | refine gt0 rfl (by omega) (xN_ge (by omega)) ?_ | refine gt0 rfl (by omega) (xN_lt (by omega)) ?_ | refine gt0 rfl (by omega) (xN_eq (by omega)) ?_ | refine gt0 rfl (by omega) (xN_ne (by omega)) ?_ | refine gt0 rfl (by omega) (xN_gt (by omega)) ?_ | refine gt0 rfl (by omega) (xN_le (by omega)) ?_)
      refine gif' rfl (fun h0 => ?_) (fun h0 => ?_)
      · repeat (first | refine gkn rfl rfl ?_ | refine gkm rfl rfl ?_ | refine gad rfl ?_ | refine gml rfl ?_ | refine gsb rfl (by omega) ?_ | refine gdv rfl (by omega) (by omega) (by omega) ?_ | refine grm rfl (by omega) (by omega) (by omega) ?_ | refine gic rfl rfl ?_ | refine gp rfl rfl rfl ?_ | refine gFl rfl (by rfl) ?_ | refine gAl rfl rfl (by rfl) (by omega) ?_ | refine gBl rfl rfl (by rfl) (by omega) ?_)
        exact gri rfl (fun h => absurd h (by decide)) ⟨rfl, rfl⟩
      · repeat (first | refine gkn rfl rfl ?_ | refine gkm rfl rfl ?_ | refine gad rfl ?_ | refine gml rfl ?_ | refine gsb rfl (by omega) ?_ | refine gdv rfl (by omega) (by omega) (by omega) ?_ | refine grm rfl (by omega) (by omega) (by omega) ?_ | refine gic rfl rfl ?_ | refine gp rfl rfl rfl ?_ | refine gFl rfl (by rfl) ?_ | refine gAl rfl rfl (by rfl) (by omega) ?_ | refine gBl rfl rfl (by rfl) (by omega) ?_)
        refine gcf rfl (show ¬ y ≤ nI 63 from Int32.not_le.mpr (oN_hi (by decide) hn h0)) ?_
        repeat (first | refine gkn rfl rfl ?_ | refine gkm rfl rfl ?_ | refine gad rfl ?_ | refine gml rfl ?_ | refine gsb rfl (by omega) ?_ | refine gdv rfl (by omega) (by omega) (by omega) ?_ | refine grm rfl (by omega) (by omega) (by omega) ?_ | refine gic rfl rfl ?_ | refine gp rfl rfl rfl ?_ | refine gFl rfl (by rfl) ?_ | refine gAl rfl rfl (by rfl) (by omega) ?_ | refine gBl rfl rfl (by rfl) (by omega) ?_)
        exact gri rfl (fun h => absurd h (by decide)) ⟨rfl, rfl⟩
  · rw [aSide_no g1 g2]
    repeat (first | refine gkn rfl rfl ?_ | refine gkm rfl rfl ?_ | refine gad rfl ?_ | refine gml rfl ?_ | refine gsb rfl (by omega) ?_ | refine gdv rfl (by omega) (by omega) (by omega) ?_ | refine grm rfl (by omega) (by omega) (by omega) ?_ | refine gic rfl rfl ?_ | refine gp rfl rfl rfl ?_ | refine gFl rfl (by rfl) ?_ | refine gAl rfl rfl (by rfl) (by omega) ?_ | refine gBl rfl rfl (by rfl) (by omega) ?_)
    refine gcp rfl (fun g => ?_) (fun g => ?_)
    · repeat (first | refine gkn rfl rfl ?_ | refine gkm rfl rfl ?_ | refine gad rfl ?_ | refine gml rfl ?_ | refine gsb rfl (by omega) ?_ | refine gdv rfl (by omega) (by omega) (by omega) ?_ | refine grm rfl (by omega) (by omega) (by omega) ?_ | refine gic rfl rfl ?_ | refine gp rfl rfl rfl ?_ | refine gFl rfl (by rfl) ?_ | refine gAl rfl rfl (by rfl) (by omega) ?_ | refine gBl rfl rfl (by rfl) (by omega) ?_)
      exact gri rfl (fun h => absurd h (by decide)) ⟨rfl, rfl⟩
    · repeat (first | refine gkn rfl rfl ?_ | refine gkm rfl rfl ?_ | refine gad rfl ?_ | refine gml rfl ?_ | refine gsb rfl (by omega) ?_ | refine gdv rfl (by omega) (by omega) (by omega) ?_ | refine grm rfl (by omega) (by omega) (by omega) ?_ | refine gic rfl rfl ?_ | refine gp rfl rfl rfl ?_ | refine gFl rfl (by rfl) ?_ | refine gAl rfl rfl (by rfl) (by omega) ?_ | refine gBl rfl rfl (by rfl) (by omega) ?_)
      refine gct rfl (show nI 2 < x from g3.elim (fun z => absurd z g) id) ?_
      repeat (first | refine gkn rfl rfl ?_ | refine gkm rfl rfl ?_ | refine gad rfl ?_ | refine gml rfl ?_ | refine gsb rfl (by omega) ?_ | refine gdv rfl (by omega) (by omega) (by omega) ?_ | refine grm rfl (by omega) (by omega) (by omega) ?_ | refine gic rfl rfl ?_ | refine gp rfl rfl rfl ?_ | refine gFl rfl (by rfl) ?_ | refine gAl rfl rfl (by rfl) (by omega) ?_ | refine gBl rfl rfl (by rfl) (by omega) ?_)
      exact gri rfl (fun h => absurd h (by decide)) ⟨rfl, rfl⟩
end REF
