/-! MODULE: the reference: adopt, put -/
theorem pLong_mono {T : pT} : ∀ k n, pLong T n ≤ pLong T (n + k)
  | 0, n => Nat.le_refl _
  | k + 1, n => by
    have := pLong_mono (T := T) k n
    show pLong T n ≤ max (pLong T (n + k)) _
    omega
theorem pNib_ok (x : Int32) (i : Nat) : ∃ k, k < 16 ∧ pNib x i = nI k := ⟨_, Nat.mod_lt _ (by decide), pk_and _ 4 (by decide)⟩
theorem nib_b {k : Nat} (h : k < 16) : (nI k).toInt8.toInt32 = nI k ∧ xnar 1 (nI k) = nI k := by
  have e : k = 0 ∨ k = 1 ∨ k = 2 ∨ k = 3 ∨ k = 4 ∨ k = 5 ∨ k = 6 ∨ k = 7 ∨ k = 8 ∨ k = 9 ∨ k = 10 ∨ k = 11 ∨ k = 12 ∨ k = 13 ∨ k = 14 ∨ k = 15 := by omega
  rcases e with rfl | rfl | rfl | rfl | rfl | rfl | rfl | rfl | rfl | rfl | rfl | rfl | rfl | rfl | rfl | rfl <;> decide
theorem pLs_ln (x : Int32) : ∀ i, (pLs x i).length ≤ i
  | 0 => Nat.le_refl _
  | i + 1 => by
    have := pLs_ln x i
    unfold pLs
    split
    · omega
    · simp; omega
theorem getD_app_lt {l : List Int32} {v : Int32} {j : Nat} (h : j < l.length) : (l ++ [v]).getD j 0 = l.getD j 0 := by
  rw [List.getD_eq_getElem?_getD, List.getElem?_append_left h, ← List.getD_eq_getElem?_getD]
theorem getD_app_eq {l : List Int32} {v : Int32} : (l ++ [v]).getD l.length 0 = v := by
  rw [List.getD_eq_getElem?_getD, List.getElem?_append_right (Nat.le_refl _)]
  simp
theorem pOK_nil : pOK [] := fun j hj => absurd hj (Nat.not_lt_zero _)
theorem pOK_snoc {l : List Int32} {k : Nat} (h : pOK l) (h1 : 1 ≤ k) (h2 : k ≤ 19) : pOK (l ++ [nI k]) := by
  intro j hj
  by_cases hj2 : j < l.length
  · rw [getD_app_lt hj2]; exact h j hj2
  · have e : j = l.length := by
      rw [List.length_append] at hj
      simp at hj
      omega
    rw [e, getD_app_eq]
    exact ⟨k, h1, h2, rfl⟩
theorem pLs_ok (x : Int32) : ∀ i, pOK (pLs x i)
  | 0 => pOK_nil
  | i + 1 => by
    have h := pLs_ok x i
    unfold pLs
    split
    · exact h
    · rename_i hne
      obtain ⟨k, hk, e⟩ := pNib_ok x i
      rw [e] at hne ⊢
      refine pOK_snoc h ?_ (by omega)
      rcases Nat.eq_zero_or_pos k with z | z
      · rw [z] at hne; exact absurd (show nI 0 = 0 from rfl) hne
      · exact z
section REF
variable {σ : xS} {I : Nat → Int32} {A : Nat → Nat → Int32} {W : Nat → pT}
theorem pSz_3 (W : Nat → pT) : pSz W (nI 3) = nI (pCnt (fun p => (W 3 p).isSome) 64) := rfl
theorem r_adopt (d : Nat) (h : mV A W) {mg : Bool} (hmg : I 2 = bI mg) (x : Int32) : ∃ A', xEx (d + 3) 98 [.inr (some 52), .inl x] (mU σ I A) (some (.inl (bI (aDo W mg x).isSome))) (mU σ I A') ∧ mV A' (aTs W mg x) ∧ aF A A' := by
  let K : Option xV → xS → Prop := fun r0 σ0 => r0 = some (.inl (bI (aDo W mg x).isSome)) ∧ ∃ A', σ0 = mU σ I A' ∧ mV A' (aTs W mg x) ∧ aF A A'
  have no : aDo W mg x = none → K (some (.inl (nI 0))) (mU σ I A) := fun e => ⟨by rw [e]; rfl, A, rfl, by unfold aTs; rw [e]; exact h, aF.refl _⟩
  have main : xGo (xEx (d + 2)) xtb_98 K (0, [some (.inr (some 52)), some (.inl x), none], [], mU σ I A) := by
    rcases oN_cases (n := 3) (by decide) x with ⟨t, ht, rfl, e1⟩ | ⟨hn, e1⟩
    · repeat (first | refine gkn rfl rfl ?_ | refine gkm rfl rfl ?_ | refine gad rfl ?_ | refine gml rfl ?_ | refine gsb rfl (by omega) ?_ | refine gdv rfl (by omega) (by omega) (by omega) ?_ | refine grm rfl (by omega) (by omega) (by omega) ?_ | refine gic rfl rfl ?_ | refine gp rfl rfl rfl ?_ | refine gFl rfl (by rfl) ?_ | refine gAl rfl rfl (by rfl) (by omega) ?_ | refine gBl rfl rfl (by rfl) (by omega) ?_ | refine gfN rfl (by omega) (by omega) (nN_ge (by omega)) ?_ | refine gfN rfl (by omega) (by omega) (nN_lt (by omega)) ?_ | refine gfN rfl (by omega) (by omega) (nN_eq (by omega)) ?_ | refine gfN rfl (by omega) (by omega) (nN_ne (by omega)) ?_ | refine gfN rfl (by omega) (by omega) (nN_gt (by omega)) ?_ | refine gfN rfl (by omega) (by omega) (nN_le (by omega)) ?_ | refine gtN rfl (by omega) (by omega) (xN_ge (by omega)) ?_ | refine gtN rfl (by omega) (by omega) (xN_lt (by omega)) ?_ | refine gtN rfl (by omega) (by omega) (xN_eq (by omega)) ?_ | refine gtN rfl (by omega) (by omega) (xN_ne (by omega)) ?_ | refine gtN rfl (by omega) (by omega) (xN_gt (by omega)) ?_ | refine gtN rfl (by omega) (by omega) (xN_le (by omega)) ?_ | refine gf0 rfl (by omega) (nN_ge (by omega)) ?_ | refine gf0 rfl (by omega) (nN_lt (by omega)) ?_ | refine gf0 rfl (by omega) (nN_eq (by omega)) ?_ | refine gf0 rfl (by omega) (nN_ne (by omega)) ?_ | refine gf0 rfl (by omega) (nN_gt (by omega)) ?_ | refine gf0 rfl (by omega) (nN_le (by omega)) ?_ | refine gt0 rfl (by omega) (xN_ge (by omega)) ?_ | refine gt0 rfl (by omega) (xN_lt (by omega)) ?_ | refine gt0 rfl (by omega) (xN_eq (by omega)) ?_ | refine gt0 rfl (by omega) (xN_ne (by omega)) ?_ | refine gt0 rfl (by omega) (xN_gt (by omega)) ?_ | refine gt0 rfl (by omega) (xN_le (by omega)) ?_)
      rw [hmg]
      refine gbe rfl (fun hz => ?_) (fun hz => ?_)
      · repeat (first | refine gkn rfl rfl ?_ | refine gkm rfl rfl ?_ | refine gad rfl ?_ | refine gml rfl ?_ | refine gsb rfl (by omega) ?_ | refine gdv rfl (by omega) (by omega) (by omega) ?_ | refine grm rfl (by omega) (by omega) (by omega) ?_ | refine gic rfl rfl ?_ | refine gp rfl rfl rfl ?_ | refine gFl rfl (by rfl) ?_ | refine gAl rfl rfl (by rfl) (by omega) ?_ | refine gBl rfl rfl (by rfl) (by omega) ?_)
        exact gri rfl (fun _ => Or.inl rfl) (no (by unfold aDo; rw [e1]; simp [hz]))
      · repeat (first | refine gkn rfl rfl ?_ | refine gkm rfl rfl ?_ | refine gad rfl ?_ | refine gml rfl ?_ | refine gsb rfl (by omega) ?_ | refine gdv rfl (by omega) (by omega) (by omega) ?_ | refine grm rfl (by omega) (by omega) (by omega) ?_ | refine gic rfl rfl ?_ | refine gp rfl rfl rfl ?_ | refine gFl rfl (by rfl) ?_ | refine gAl rfl rfl (by rfl) (by omega) ?_ | refine gBl rfl rfl (by rfl) (by omega) ?_)
        refine gcv (As := [.inl (nI 3)]) (rest := []) rfl (by decide) (r_size d h (nI 3)) (mU_obj _ _ _) rfl rfl (by decide) ?_
        rw [pSz_3]
        have hc := pCnt_le (fun p => (W 3 p).isSome) 64
        repeat (first | refine gkn rfl rfl ?_ | refine gkm rfl rfl ?_ | refine gad rfl ?_ | refine gml rfl ?_ | refine gsb rfl (by omega) ?_ | refine gdv rfl (by omega) (by omega) (by omega) ?_ | refine grm rfl (by omega) (by omega) (by omega) ?_ | refine gic rfl rfl ?_ | refine gp rfl rfl rfl ?_ | refine gFl rfl (by rfl) ?_ | refine gAl rfl rfl (by rfl) (by omega) ?_ | refine gBl rfl rfl (by rfl) (by omega) ?_)
        refine gcN rfl (by omega) (by omega) (fun hle => ?_) (fun hgt => ?_)
        · have hle : pCnt (fun p => (W 3 p).isSome) 64 ≤ 8 := hle
          have loop2 : pLong (W 3) 64 ≤ 8 → ∀ k i (B : Nat → Nat → Int32), i + k = 64 → mV B (cpN W 3 t i) → aF A B → xGo (xEx (d + 2)) xtb_98 K (73, [some (.inr (some 52)), some (.inl (nI t)), some (.inl (nI i))], [.inl (nI 64), .inl (nI i)], mU σ I B) := by
            intro hL k
            have e3 : aDo W mg (nI t) = some t := by unfold aDo; rw [e1]; simp only [hz, true_and]; rw [if_pos ⟨hle, hL⟩]
            induction k with
            | zero =>
              intro i B hi hB hF
              obtain rfl : i = 64 := by omega
              first | refine gtN rfl (by omega) (by omega) (xN_ge (by omega)) ?_ | refine gtN rfl (by omega) (by omega) (xN_lt (by omega)) ?_ | refine gtN rfl (by omega) (by omega) (xN_eq (by omega)) ?_ | refine gtN rfl (by omega) (by omega) (xN_ne (by omega)) ?_ | refine gtN rfl (by omega) (by omega) (xN_gt (by omega)) ?_ | refine gtN rfl (by omega) (by omega) (xN_le (by omega)) ?_
              repeat (first | refine gkn rfl rfl ?_ | refine gkm rfl rfl ?_ | refine gad rfl ?_ | refine gml rfl ?_ | refine gsb rfl (by omega) ?_ | refine gdv rfl (by omega) (by omega) (by omega) ?_ | refine grm rfl (by omega) (by omega) (by omega) ?_ | refine gic rfl rfl ?_ | refine gp rfl rfl rfl ?_ | refine gFl rfl (by rfl) ?_ | refine gAl rfl rfl (by rfl) (by omega) ?_ | refine gBl rfl rfl (by rfl) (by omega) ?_)
              exact gri rfl (fun _ => Or.inr rfl) ⟨by rw [e3]; rfl, B, rfl, by unfold aTs; rw [e3]; exact cpN_64 hB, hF⟩
            | succ k ih =>
              intro i B hi hB hF
              first | refine gfN rfl (by omega) (by omega) (nN_ge (by omega)) ?_ | refine gfN rfl (by omega) (by omega) (nN_lt (by omega)) ?_ | refine gfN rfl (by omega) (by omega) (nN_eq (by omega)) ?_ | refine gfN rfl (by omega) (by omega) (nN_ne (by omega)) ?_ | refine gfN rfl (by omega) (by omega) (nN_gt (by omega)) ?_ | refine gfN rfl (by omega) (by omega) (nN_le (by omega)) ?_
              repeat (first | refine gkn rfl rfl ?_ | refine gkm rfl rfl ?_ | refine gad rfl ?_ | refine gml rfl ?_ | refine gsb rfl (by omega) ?_ | refine gdv rfl (by omega) (by omega) (by omega) ?_ | refine grm rfl (by omega) (by omega) (by omega) ?_ | refine gic rfl rfl ?_ | refine gp rfl rfl rfl ?_ | refine gFl rfl (by rfl) ?_ | refine gAl rfl rfl (by rfl) (by omega) ?_ | refine gBl rfl rfl (by rfl) (by omega) ?_)
              have hl : (pLn (cpN W 3 t i 3 i)).length ≤ rRm t := by
                rw [cpN_src, show rRm t = 8 by unfold rRm; rw [if_pos ht]]
                have h2 := pLong_mono (T := W 3) (64 - (i + 1)) (i + 1)
                rw [show i + 1 + (64 - (i + 1)) = 64 by omega] at h2
                have h3 : max (pLong (W 3) i) (pLn (W 3 i)).length = pLong (W 3) (i + 1) := rfl
                omega
              obtain ⟨B', y1, y2, y3⟩ := r_copyFile (σ := σ) (I := I) d hB (show 3 < 7 by omega) (show i < 64 by omega) (show t < 7 by omega) (show i < 64 by omega) hl
              refine gcv (As := [.inl (nI 3), .inl (nI i), .inl (nI t), .inl (nI i)]) (rest := []) rfl (by decide) y1 (mU_obj _ _ _) rfl rfl (by decide) ?_
              repeat (first | refine gkn rfl rfl ?_ | refine gkm rfl rfl ?_ | refine gad rfl ?_ | refine gml rfl ?_ | refine gsb rfl (by omega) ?_ | refine gdv rfl (by omega) (by omega) (by omega) ?_ | refine grm rfl (by omega) (by omega) (by omega) ?_ | refine gic rfl rfl ?_ | refine gp rfl rfl rfl ?_ | refine gFl rfl (by rfl) ?_ | refine gAl rfl rfl (by rfl) (by omega) ?_ | refine gBl rfl rfl (by rfl) (by omega) ?_)
              rw [cpN_src, cpN_s] at y2
              exact ih (i + 1) B' (by omega) y2 (hF.trans y3)
          have loop1 : ∀ k i, i + k = 64 → pLong (W 3) i ≤ 8 → xGo (xEx (d + 2)) xtb_98 K (33, [some (.inr (some 52)), some (.inl (nI t)), some (.inl (nI i))], [.inl (nI 64), .inl (nI i)], mU σ I A) := by
            intro k
            induction k with
            | zero =>
              intro i hi hL
              obtain rfl : i = 64 := by omega
              first | refine gtN rfl (by omega) (by omega) (xN_ge (by omega)) ?_ | refine gtN rfl (by omega) (by omega) (xN_lt (by omega)) ?_ | refine gtN rfl (by omega) (by omega) (xN_eq (by omega)) ?_ | refine gtN rfl (by omega) (by omega) (xN_ne (by omega)) ?_ | refine gtN rfl (by omega) (by omega) (xN_gt (by omega)) ?_ | refine gtN rfl (by omega) (by omega) (xN_le (by omega)) ?_
              repeat (first | refine gkn rfl rfl ?_ | refine gkm rfl rfl ?_ | refine gad rfl ?_ | refine gml rfl ?_ | refine gsb rfl (by omega) ?_ | refine gdv rfl (by omega) (by omega) (by omega) ?_ | refine grm rfl (by omega) (by omega) (by omega) ?_ | refine gic rfl rfl ?_ | refine gp rfl rfl rfl ?_ | refine gFl rfl (by rfl) ?_ | refine gAl rfl rfl (by rfl) (by omega) ?_ | refine gBl rfl rfl (by rfl) (by omega) ?_)
              exact loop2 hL 64 0 A rfl (by rw [cpN_0]; exact h) (aF.refl _)
            | succ k ih =>
              intro i hi hL
              obtain ⟨g1, g2, g3, -⟩ := h 3 i (by decide) (by omega)
              have h3 : pLong (W 3) (i + 1) = max (pLong (W 3) i) (pLn (W 3 i)).length := rfl
              have h76 : (pLn (W 3 i)).length ≤ 76 := g3
              first | refine gfN rfl (by omega) (by omega) (nN_ge (by omega)) ?_ | refine gfN rfl (by omega) (by omega) (nN_lt (by omega)) ?_ | refine gfN rfl (by omega) (by omega) (nN_eq (by omega)) ?_ | refine gfN rfl (by omega) (by omega) (nN_ne (by omega)) ?_ | refine gfN rfl (by omega) (by omega) (nN_gt (by omega)) ?_ | refine gfN rfl (by omega) (by omega) (nN_le (by omega)) ?_
              repeat (first | refine gkn rfl rfl ?_ | refine gkm rfl rfl ?_ | refine gad rfl ?_ | refine gml rfl ?_ | refine gsb rfl (by omega) ?_ | refine gdv rfl (by omega) (by omega) (by omega) ?_ | refine grm rfl (by omega) (by omega) (by omega) ?_ | refine gic rfl rfl ?_ | refine gp rfl rfl rfl ?_ | refine gFl rfl (by rfl) ?_ | refine gAl rfl rfl (by rfl) (by omega) ?_ | refine gBl rfl rfl (by rfl) (by omega) ?_)
              refine gcv (As := [.inl (nI 3), .inl (nI i)]) (rest := []) rfl (by decide) (r_has (d + 1) h (by decide) (by omega)) (mU_obj _ _ _) rfl rfl (by decide) ?_
              refine gbe rfl (fun hs => ?_) (fun hs => ?_)
              · repeat (first | refine gkn rfl rfl ?_ | refine gkm rfl rfl ?_ | refine gad rfl ?_ | refine gml rfl ?_ | refine gsb rfl (by omega) ?_ | refine gdv rfl (by omega) (by omega) (by omega) ?_ | refine grm rfl (by omega) (by omega) (by omega) ?_ | refine gic rfl rfl ?_ | refine gp rfl rfl rfl ?_ | refine gFl rfl (by rfl) ?_ | refine gAl rfl rfl (by rfl) (by omega) ?_ | refine gBl rfl rfl (by rfl) (by omega) ?_)
                refine ih (i + 1) (by omega) ?_
                have e : pLn (W 3 i) = [] := by
                  cases hw : W 3 i with
                  | none => rfl
                  | some F => rw [hw] at hs; cases hs
                rw [h3, e]
                simpa using hL
              · repeat (first | refine gkn rfl rfl ?_ | refine gkm rfl rfl ?_ | refine gad rfl ?_ | refine gml rfl ?_ | refine gsb rfl (by omega) ?_ | refine gdv rfl (by omega) (by omega) (by omega) ?_ | refine grm rfl (by omega) (by omega) (by omega) ?_ | refine gic rfl rfl ?_ | refine gp rfl rfl rfl ?_ | refine gFl rfl (by rfl) ?_ | refine gAl rfl rfl (by rfl) (by omega) ?_ | refine gBl rfl rfl (by rfl) (by omega) ?_)
                rw [show A 54 (192 + i) = nI (pLn (W 3 i)).length from g2]
                refine gcN rfl (by omega) (by omega) (fun h8 => ?_) (fun h8 => ?_)
                · have h8 : (pLn (W 3 i)).length ≤ 8 := h8
                  repeat (first | refine gkn rfl rfl ?_ | refine gkm rfl rfl ?_ | refine gad rfl ?_ | refine gml rfl ?_ | refine gsb rfl (by omega) ?_ | refine gdv rfl (by omega) (by omega) (by omega) ?_ | refine grm rfl (by omega) (by omega) (by omega) ?_ | refine gic rfl rfl ?_ | refine gp rfl rfl rfl ?_ | refine gFl rfl (by rfl) ?_ | refine gAl rfl rfl (by rfl) (by omega) ?_ | refine gBl rfl rfl (by rfl) (by omega) ?_)
                  exact ih (i + 1) (by omega) (by omega)
                · have h8 : ¬ (pLn (W 3 i)).length ≤ 8 := h8
                  repeat (first | refine gkn rfl rfl ?_ | refine gkm rfl rfl ?_ | refine gad rfl ?_ | refine gml rfl ?_ | refine gsb rfl (by omega) ?_ | refine gdv rfl (by omega) (by omega) (by omega) ?_ | refine grm rfl (by omega) (by omega) (by omega) ?_ | refine gic rfl rfl ?_ | refine gp rfl rfl rfl ?_ | refine gFl rfl (by rfl) ?_ | refine gAl rfl rfl (by rfl) (by omega) ?_ | refine gBl rfl rfl (by rfl) (by omega) ?_)
                  refine gri rfl (fun _ => Or.inl rfl) (no ?_)
                  have h2 := pLong_mono (T := W 3) (64 - (i + 1)) (i + 1)
                  rw [show i + 1 + (64 - (i + 1)) = 64 by omega] at h2
                  unfold aDo
                  rw [e1]
                  simp only
                  rw [if_neg (fun z => by have := z.2.2; omega)]
          repeat (first | refine gkn rfl rfl ?_ | refine gkm rfl rfl ?_ | refine gad rfl ?_ | refine gml rfl ?_ | refine gsb rfl (by omega) ?_ | refine gdv rfl (by omega) (by omega) (by omega) ?_ | refine grm rfl (by omega) (by omega) (by omega) ?_ | refine gic rfl rfl ?_ | refine gp rfl rfl rfl ?_ | refine gFl rfl (by rfl) ?_ | refine gAl rfl rfl (by rfl) (by omega) ?_ | refine gBl rfl rfl (by rfl) (by omega) ?_)
          exact loop1 64 0 rfl (Nat.zero_le _)
        · repeat (first | refine gkn rfl rfl ?_ | refine gkm rfl rfl ?_ | refine gad rfl ?_ | refine gml rfl ?_ | refine gsb rfl (by omega) ?_ | refine gdv rfl (by omega) (by omega) (by omega) ?_ | refine grm rfl (by omega) (by omega) (by omega) ?_ | refine gic rfl rfl ?_ | refine gp rfl rfl rfl ?_ | refine gFl rfl (by rfl) ?_ | refine gAl rfl rfl (by rfl) (by omega) ?_ | refine gBl rfl rfl (by rfl) (by omega) ?_)
          refine gri rfl (fun _ => Or.inl rfl) (no ?_)
          unfold aDo
          rw [e1]
          simp only
          rw [if_neg (fun z => hgt z.2.1)]
    · have e3 : aDo W mg x = none := by unfold aDo; rw [e1]
      repeat (first | refine gkn rfl rfl ?_ | refine gkm rfl rfl ?_ | refine gad rfl ?_ | refine gml rfl ?_ | refine gsb rfl (by omega) ?_ | refine gdv rfl (by omega) (by omega) (by omega) ?_ | refine grm rfl (by omega) (by omega) (by omega) ?_ | refine gic rfl rfl ?_ | refine gp rfl rfl rfl ?_ | refine gFl rfl (by rfl) ?_ | refine gAl rfl rfl (by rfl) (by omega) ?_ | refine gBl rfl rfl (by rfl) (by omega) ?_)
      refine gif' rfl (fun h0 => ?_) (fun h0 => ?_)
      · repeat (first | refine gkn rfl rfl ?_ | refine gkm rfl rfl ?_ | refine gad rfl ?_ | refine gml rfl ?_ | refine gsb rfl (by omega) ?_ | refine gdv rfl (by omega) (by omega) (by omega) ?_ | refine grm rfl (by omega) (by omega) (by omega) ?_ | refine gic rfl rfl ?_ | refine gp rfl rfl rfl ?_ | refine gFl rfl (by rfl) ?_ | refine gAl rfl rfl (by rfl) (by omega) ?_ | refine gBl rfl rfl (by rfl) (by omega) ?_)
        exact gri rfl (fun _ => Or.inl rfl) (no e3)
      · repeat (first | refine gkn rfl rfl ?_ | refine gkm rfl rfl ?_ | refine gad rfl ?_ | refine gml rfl ?_ | refine gsb rfl (by omega) ?_ | refine gdv rfl (by omega) (by omega) (by omega) ?_ | refine grm rfl (by omega) (by omega) (by omega) ?_ | refine gic rfl rfl ?_ | refine gp rfl rfl rfl ?_ | refine gFl rfl (by rfl) ?_ | refine gAl rfl rfl (by rfl) (by omega) ?_ | refine gBl rfl rfl (by rfl) (by omega) ?_)
        refine gct rfl (show nI 2 < x from oN_hi (by decide) hn h0) ?_
        repeat (first | refine gkn rfl rfl ?_ | refine gkm rfl rfl ?_ | refine gad rfl ?_ | refine gml rfl ?_ | refine gsb rfl (by omega) ?_ | refine gdv rfl (by omega) (by omega) (by omega) ?_ | refine grm rfl (by omega) (by omega) (by omega) ?_ | refine gic rfl rfl ?_ | refine gp rfl rfl rfl ?_ | refine gFl rfl (by rfl) ?_ | refine gAl rfl rfl (by rfl) (by omega) ?_ | refine gBl rfl rfl (by rfl) (by omega) ?_)
        exact gri rfl (fun _ => Or.inl rfl) (no e3)
  obtain ⟨r, σ', hex, rfl, A', rfl, g⟩ := ex_of (d := d + 2) (y := 98) (as := [.inr (some 52), .inl x]) (σ := mU σ I A) (K := K) (by decide) rfl main
  exact ⟨A', hex, g⟩
theorem pSz_lt {W : Nat → pT} {t : Nat} (h : t < 4) : pSz W (nI t) = nI (pCnt (fun p => (W t p).isSome) 64) := by
  unfold pSz
  rcases oN_cases (n := 4) (by decide) (nI t) with ⟨j, hj, e, e2⟩ | ⟨hn, -⟩
  · rw [e2, (nI_eq (by omega) (by omega)).mp e]
  · exact absurd ⟨nI_pos' (by omega), nI_lt h (by decide)⟩ hn
theorem r_put (d : Nat) (h : mV A W) (x y z : Int32) (l : Bool) : ∃ A', xEx (d + 3) 92 [.inr (some 52), .inl x, .inl y, .inl z, .inl (bI l)] (mU σ I A) (some (.inl (bI (pDo W x y).isSome))) (mU σ I A') ∧ mV A' (pTs W x y z l) ∧ aF A A' := by
  let K : Option xV → xS → Prop := fun r0 σ0 => r0 = some (.inl (bI (pDo W x y).isSome)) ∧ ∃ A', σ0 = mU σ I A' ∧ mV A' (pTs W x y z l) ∧ aF A A'
  have no : pDo W x y = none → K (some (.inl (nI 0))) (mU σ I A) := fun e => ⟨by rw [e]; rfl, A, rfl, by unfold pTs; rw [e]; exact h, aF.refl _⟩
  have main : xGo (xEx (d + 2)) xtb_92 K (0, [some (.inr (some 52)), some (.inl x), some (.inl y), some (.inl z), some (.inl (bI l)), none, none, none], [], mU σ I A) := by
    rcases oN_cases (n := 3) (by decide) x with ⟨t, ht, rfl, e1⟩ | ⟨hn, e1⟩
    · rcases oN_cases (n := 64) (by decide) y with ⟨p, hp, rfl, e2⟩ | ⟨hn2, e2⟩
      · have hr8 : rRm t = 8 := by unfold rRm; rw [if_pos ht]
        have loop : pDo W (nI t) (nI p) = some (t, p) → ∀ k i (L : Nat → Int32) (v : Option xV), i + k = 8 → (∀ x, (x < rSt t p ∨ rSt t p + (pLs z i).length ≤ x) → L x = A 55 x) → (∀ j, j < (pLs z i).length → L (rSt t p + j) = (pLs z i).getD j 0) → xGo (xEx (d + 2)) xtb_92 K (52, [some (.inr (some 52)), some (.inl (nI t)), some (.inl (nI p)), some (.inl z), some (.inl (bI l)), some (.inl (nI (pLs z i).length)), some (.inl (nI i)), v], [.inl (nI 8), .inl (nI i)], mU σ I (aU A 55 L)) := by
          intro e3 k
          induction k with
          | zero =>
            intro i L v hi h1 h2
            obtain rfl : i = 8 := by omega
            have fin : ∀ c : Nat, c = pK (some (l, pLs z 8)) → xGo (xEx (d + 2)) xtb_92 K (116, [some (.inr (some 52)), some (.inl (nI t)), some (.inl (nI p)), some (.inl z), some (.inl (bI l)), some (.inl (nI (pLs z 8).length)), some (.inl (nI 8)), v], [.inl (nI c), .inl (nI (64 * t + p)), .inr (some 53)], mU σ I (aU A 55 L)) := by
              intro c hc
              refine gAs rfl rfl rfl (by omega) ?_
              repeat (first | refine gkn rfl rfl ?_ | refine gkm rfl rfl ?_ | refine gad rfl ?_ | refine gml rfl ?_ | refine gsb rfl (by omega) ?_ | refine gdv rfl (by omega) (by omega) (by omega) ?_ | refine grm rfl (by omega) (by omega) (by omega) ?_ | refine gic rfl rfl ?_ | refine gp rfl rfl rfl ?_ | refine gFl rfl (by rfl) ?_ | refine gAl rfl rfl (by rfl) (by omega) ?_ | refine gBl rfl rfl (by rfl) (by omega) ?_)
              refine gAs rfl rfl rfl (by omega) ?_
              repeat (first | refine gkn rfl rfl ?_ | refine gkm rfl rfl ?_ | refine gad rfl ?_ | refine gml rfl ?_ | refine gsb rfl (by omega) ?_ | refine gdv rfl (by omega) (by omega) (by omega) ?_ | refine grm rfl (by omega) (by omega) (by omega) ?_ | refine gic rfl rfl ?_ | refine gp rfl rfl rfl ?_ | refine gFl rfl (by rfl) ?_ | refine gAl rfl rfl (by rfl) (by omega) ?_ | refine gBl rfl rfl (by rfl) (by omega) ?_)
              refine gri rfl (fun _ => Or.inr rfl) ⟨by rw [e3]; rfl, _, rfl, ?_, ?_⟩
              · unfold pTs
                rw [e3]
                have q1 : ∀ f g, aU (aU (aU A 55 L) 53 f) 54 g 53 = f := fun f g => by rw [aU_ne (by decide), aU_eq]
                have q3 : ∀ f g, aU (aU (aU A 55 L) 53 f) 54 g 55 = L := fun f g => by rw [aU_ne (by decide), aU_ne (by decide), aU_eq]
                refine mV_put (F := some (l, pLs z 8)) h (by omega) hp (by rw [hr8]; exact pLs_ln z 8) (pLs_ok z 8) (fun x hx => ?_) ?_ (fun x hx => ?_) ?_ (fun x hx => ?_) (fun j hj => ?_)
                · rw [q1, upd_ne hx, aU_ne (by decide)]
                · rw [q1, upd_eq, hc]
                · rw [aU_eq, upd_ne hx, aU_ne (by decide), aU_ne (by decide)]
                · rw [aU_eq, upd_eq]; rfl
                · rw [q3]; exact h1 x hx
                · rw [q3]; exact h2 j hj
              · intro k hk
                rw [aU_ne (by omega), aU_ne (by omega), aU_ne (by omega)]
            first | refine gtN rfl (by omega) (by omega) (xN_ge (by omega)) ?_ | refine gtN rfl (by omega) (by omega) (xN_lt (by omega)) ?_ | refine gtN rfl (by omega) (by omega) (xN_eq (by omega)) ?_ | refine gtN rfl (by omega) (by omega) (xN_ne (by omega)) ?_ | refine gtN rfl (by omega) (by omega) (xN_gt (by omega)) ?_ | refine gtN rfl (by omega) (by omega) (xN_le (by omega)) ?_
            repeat (first | refine gkn rfl rfl ?_ | refine gkm rfl rfl ?_ | refine gad rfl ?_ | refine gml rfl ?_ | refine gsb rfl (by omega) ?_ | refine gdv rfl (by omega) (by omega) (by omega) ?_ | refine grm rfl (by omega) (by omega) (by omega) ?_ | refine gic rfl rfl ?_ | refine gp rfl rfl rfl ?_ | refine gFl rfl (by rfl) ?_ | refine gAl rfl rfl (by rfl) (by omega) ?_ | refine gBl rfl rfl (by rfl) (by omega) ?_)
            refine gbe rfl (fun hz => ?_) (fun hz => ?_)
            · repeat (first | refine gkn rfl rfl ?_ | refine gkm rfl rfl ?_ | refine gad rfl ?_ | refine gml rfl ?_ | refine gsb rfl (by omega) ?_ | refine gdv rfl (by omega) (by omega) (by omega) ?_ | refine grm rfl (by omega) (by omega) (by omega) ?_ | refine gic rfl rfl ?_ | refine gp rfl rfl rfl ?_ | refine gFl rfl (by rfl) ?_ | refine gAl rfl rfl (by rfl) (by omega) ?_ | refine gBl rfl rfl (by rfl) (by omega) ?_)
              exact fin 1 (by rw [hz]; rfl)
            · repeat (first | refine gkn rfl rfl ?_ | refine gkm rfl rfl ?_ | refine gad rfl ?_ | refine gml rfl ?_ | refine gsb rfl (by omega) ?_ | refine gdv rfl (by omega) (by omega) (by omega) ?_ | refine grm rfl (by omega) (by omega) (by omega) ?_ | refine gic rfl rfl ?_ | refine gp rfl rfl rfl ?_ | refine gFl rfl (by rfl) ?_ | refine gAl rfl rfl (by rfl) (by omega) ?_ | refine gBl rfl rfl (by rfl) (by omega) ?_)
              exact fin 2 (by rw [hz]; rfl)
          | succ k ih =>
            intro i L v hi h1 h2
            obtain ⟨c, hc, ec⟩ := pNib_ok z i
            have eN : (z.toUInt32 >>> ((nI (4 * i)).toUInt32 &&& Int32.toUInt32 31)).toInt32 &&& nI 15 = nI c := by rw [← ec, ← pk_mul]; rfl
            have hln := pLs_ln z i
            have b1 := rSt_lt (t := t) (p := p) (j := (pLs z i).length) (by omega) hp (by omega)
            have ih' := ih (i + 1)
            first | refine gfN rfl (by omega) (by omega) (nN_ge (by omega)) ?_ | refine gfN rfl (by omega) (by omega) (nN_lt (by omega)) ?_ | refine gfN rfl (by omega) (by omega) (nN_eq (by omega)) ?_ | refine gfN rfl (by omega) (by omega) (nN_ne (by omega)) ?_ | refine gfN rfl (by omega) (by omega) (nN_gt (by omega)) ?_ | refine gfN rfl (by omega) (by omega) (nN_le (by omega)) ?_
            repeat (first | refine gkn rfl rfl ?_ | refine gkm rfl rfl ?_ | refine gad rfl ?_ | refine gml rfl ?_ | refine gsb rfl (by omega) ?_ | refine gdv rfl (by omega) (by omega) (by omega) ?_ | refine grm rfl (by omega) (by omega) (by omega) ?_ | refine gic rfl rfl ?_ | refine gp rfl rfl rfl ?_ | refine gFl rfl (by rfl) ?_ | refine gAl rfl rfl (by rfl) (by omega) ?_ | refine gBl rfl rfl (by rfl) (by omega) ?_)
            rw [eN]
            by_cases hc0 : c = 0
            · have e4 : pLs z (i + 1) = pLs z i := by
                show (if pNib z i = 0 then pLs z i else pLs z i ++ [pNib z i]) = _
                rw [ec, hc0]
                exact if_pos rfl
              rw [e4] at ih'
              first | refine gt0 rfl (by omega) (xN_ge (by omega)) ?_ | refine gt0 rfl (by omega) (xN_lt (by omega)) ?_ | refine gt0 rfl (by omega) (xN_eq (by omega)) ?_ | refine gt0 rfl (by omega) (xN_ne (by omega)) ?_ | refine gt0 rfl (by omega) (xN_gt (by omega)) ?_ | refine gt0 rfl (by omega) (xN_le (by omega)) ?_
              repeat (first | refine gkn rfl rfl ?_ | refine gkm rfl rfl ?_ | refine gad rfl ?_ | refine gml rfl ?_ | refine gsb rfl (by omega) ?_ | refine gdv rfl (by omega) (by omega) (by omega) ?_ | refine grm rfl (by omega) (by omega) (by omega) ?_ | refine gic rfl rfl ?_ | refine gp rfl rfl rfl ?_ | refine gFl rfl (by rfl) ?_ | refine gAl rfl rfl (by rfl) (by omega) ?_ | refine gBl rfl rfl (by rfl) (by omega) ?_)
              exact ih' L _ (by omega) h1 h2
            · have e4 : pLs z (i + 1) = pLs z i ++ [nI c] := by
                show (if pNib z i = 0 then pLs z i else pLs z i ++ [pNib z i]) = _
                rw [ec]
                exact if_neg (nI_ne0 (by omega) (by omega))
              rw [e4] at ih'
              first | refine gf0 rfl (by omega) (nN_ge (by omega)) ?_ | refine gf0 rfl (by omega) (nN_lt (by omega)) ?_ | refine gf0 rfl (by omega) (nN_eq (by omega)) ?_ | refine gf0 rfl (by omega) (nN_ne (by omega)) ?_ | refine gf0 rfl (by omega) (nN_gt (by omega)) ?_ | refine gf0 rfl (by omega) (nN_le (by omega)) ?_
              repeat (first | refine gkn rfl rfl ?_ | refine gkm rfl rfl ?_ | refine gad rfl ?_ | refine gml rfl ?_ | refine gsb rfl (by omega) ?_ | refine gdv rfl (by omega) (by omega) (by omega) ?_ | refine grm rfl (by omega) (by omega) (by omega) ?_ | refine gic rfl rfl ?_ | refine gp rfl rfl rfl ?_ | refine gFl rfl (by rfl) ?_ | refine gAl rfl rfl (by rfl) (by omega) ?_ | refine gBl rfl rfl (by rfl) (by omega) ?_)
              refine gcs (As := [.inl (nI t), .inl (nI p)]) (rest := [.inr (some 55)]) rfl (by decide) (m_start (d + 1) (by omega) hp) rfl rfl (Nat.le_of_ble_eq_true rfl) ?_
              repeat (first | refine gkn rfl rfl ?_ | refine gkm rfl rfl ?_ | refine gad rfl ?_ | refine gml rfl ?_ | refine gsb rfl (by omega) ?_ | refine gdv rfl (by omega) (by omega) (by omega) ?_ | refine grm rfl (by omega) (by omega) (by omega) ?_ | refine gic rfl rfl ?_ | refine gp rfl rfl rfl ?_ | refine gFl rfl (by rfl) ?_ | refine gAl rfl rfl (by rfl) (by omega) ?_ | refine gBl rfl rfl (by rfl) (by omega) ?_)
              rw [(nib_b hc).1]
              refine gBs rfl rfl rfl (by omega) (nib_b hc).2 ?_
              rw [aU_aU, aU_eq]
              repeat (first | refine gkn rfl rfl ?_ | refine gkm rfl rfl ?_ | refine gad rfl ?_ | refine gml rfl ?_ | refine gsb rfl (by omega) ?_ | refine gdv rfl (by omega) (by omega) (by omega) ?_ | refine grm rfl (by omega) (by omega) (by omega) ?_ | refine gic rfl rfl ?_ | refine gp rfl rfl rfl ?_ | refine gFl rfl (by rfl) ?_ | refine gAl rfl rfl (by rfl) (by omega) ?_ | refine gBl rfl rfl (by rfl) (by omega) ?_)
              have e5 : (pLs z i ++ [nI c]).length = (pLs z i).length + 1 := by simp
              have ih2 := ih' (upd L (rSt t p + (pLs z i).length) (nI c)) (some (.inl (nI c))) (by omega) (fun x hx => ?_) (fun j hj => ?_)
              · rw [e5] at ih2
                exact ih2
              · rw [e5] at hx
                rw [upd_ne (by omega)]
                exact h1 x (by omega)
              · rw [e5] at hj
                by_cases hj2 : j = (pLs z i).length
                · rw [hj2, upd_eq, getD_app_eq]
                · rw [upd_ne (by omega), getD_app_lt (by omega)]
                  exact h2 j (by omega)
        repeat (first | refine gkn rfl rfl ?_ | refine gkm rfl rfl ?_ | refine gad rfl ?_ | refine gml rfl ?_ | refine gsb rfl (by omega) ?_ | refine gdv rfl (by omega) (by omega) (by omega) ?_ | refine grm rfl (by omega) (by omega) (by omega) ?_ | refine gic rfl rfl ?_ | refine gp rfl rfl rfl ?_ | refine gFl rfl (by rfl) ?_ | refine gAl rfl rfl (by rfl) (by omega) ?_ | refine gBl rfl rfl (by rfl) (by omega) ?_ | refine gfN rfl (by omega) (by omega) (nN_ge (by omega)) ?_ | refine gfN rfl (by omega) (by omega) (nN_lt (by omega)) ?_ | refine gfN rfl (by omega) (by omega) (nN_eq (by omega)) ?_ | refine gfN rfl (by omega) (by omega) (nN_ne (by omega)) ?_ | refine gfN rfl (by omega) (by omega) (nN_gt (by omega)) ?_ | refine gfN rfl (by omega) (by omega) (nN_le (by omega)) ?_ | refine gtN rfl (by omega) (by omega) (xN_ge (by omega)) ?_ | refine gtN rfl (by omega) (by omega) (xN_lt (by omega)) ?_ | refine gtN rfl (by omega) (by omega) (xN_eq (by omega)) ?_ | refine gtN rfl (by omega) (by omega) (xN_ne (by omega)) ?_ | refine gtN rfl (by omega) (by omega) (xN_gt (by omega)) ?_ | refine gtN rfl (by omega) (by omega) (xN_le (by omega)) ?_ | refine gf0 rfl (by omega) (nN_ge (by omega)) ?_ | refine gf0 rfl (by omega) (nN_lt (by omega)) ?_ | refine gf0 rfl (by omega) (nN_eq (by omega)) ?_ | refine gf0 rfl (by omega) (nN_ne (by omega)) ?_ | refine gf0 rfl (by omega) (nN_gt (by omega)) ?_ | refine gf0 rfl (by omega) (nN_le (by omega)) ?_ | refine gt0 rfl (by omega) (xN_ge (by omega)) ?_ | refine gt0 rfl (by omega) (xN_lt (by omega)) ?_ | refine gt0 rfl (by omega) (xN_eq (by omega)) ?_ | refine gt0 rfl (by omega) (xN_ne (by omega)) ?_ | refine gt0 rfl (by omega) (xN_gt (by omega)) ?_ | refine gt0 rfl (by omega) (xN_le (by omega)) ?_)
        refine gcv (As := [.inl (nI t), .inl (nI p)]) (rest := []) rfl (by decide) (r_has (d + 1) h (by omega) hp) (mU_obj _ _ _) rfl rfl (by decide) ?_
        refine gbn rfl (fun hs => ?_) (fun hs => ?_)
        · repeat (first | refine gkn rfl rfl ?_ | refine gkm rfl rfl ?_ | refine gad rfl ?_ | refine gml rfl ?_ | refine gsb rfl (by omega) ?_ | refine gdv rfl (by omega) (by omega) (by omega) ?_ | refine grm rfl (by omega) (by omega) (by omega) ?_ | refine gic rfl rfl ?_ | refine gp rfl rfl rfl ?_ | refine gFl rfl (by rfl) ?_ | refine gAl rfl rfl (by rfl) (by omega) ?_ | refine gBl rfl rfl (by rfl) (by omega) ?_)
          have := loop (by unfold pDo; rw [e1, e2]; simp only; rw [if_pos (Or.inl hs)]) 8 0 (A 55) none rfl (fun _ _ => rfl) (fun j hj => absurd hj (Nat.not_lt_zero _))
          rw [aU_same] at this
          exact this
        · have hc := pCnt_le (fun p => (W t p).isSome) 64
          repeat (first | refine gkn rfl rfl ?_ | refine gkm rfl rfl ?_ | refine gad rfl ?_ | refine gml rfl ?_ | refine gsb rfl (by omega) ?_ | refine gdv rfl (by omega) (by omega) (by omega) ?_ | refine grm rfl (by omega) (by omega) (by omega) ?_ | refine gic rfl rfl ?_ | refine gp rfl rfl rfl ?_ | refine gFl rfl (by rfl) ?_ | refine gAl rfl rfl (by rfl) (by omega) ?_ | refine gBl rfl rfl (by rfl) (by omega) ?_)
          refine gcv (As := [.inl (nI t)]) (rest := []) rfl (by decide) (r_size d h (nI t)) (mU_obj _ _ _) rfl rfl (by decide) ?_
          rw [pSz_lt (by omega)]
          repeat (first | refine gkn rfl rfl ?_ | refine gkm rfl rfl ?_ | refine gad rfl ?_ | refine gml rfl ?_ | refine gsb rfl (by omega) ?_ | refine gdv rfl (by omega) (by omega) (by omega) ?_ | refine grm rfl (by omega) (by omega) (by omega) ?_ | refine gic rfl rfl ?_ | refine gp rfl rfl rfl ?_ | refine gFl rfl (by rfl) ?_ | refine gAl rfl rfl (by rfl) (by omega) ?_ | refine gBl rfl rfl (by rfl) (by omega) ?_)
          refine gcN rfl (by omega) (by omega) (fun hlt => ?_) (fun hge => ?_)
          · have hlt : pCnt (fun p => (W t p).isSome) 64 < 8 := hlt
            repeat (first | refine gkn rfl rfl ?_ | refine gkm rfl rfl ?_ | refine gad rfl ?_ | refine gml rfl ?_ | refine gsb rfl (by omega) ?_ | refine gdv rfl (by omega) (by omega) (by omega) ?_ | refine grm rfl (by omega) (by omega) (by omega) ?_ | refine gic rfl rfl ?_ | refine gp rfl rfl rfl ?_ | refine gFl rfl (by rfl) ?_ | refine gAl rfl rfl (by rfl) (by omega) ?_ | refine gBl rfl rfl (by rfl) (by omega) ?_)
            have := loop (by unfold pDo; rw [e1, e2]; simp only; rw [if_pos (Or.inr hlt)]) 8 0 (A 55) none rfl (fun _ _ => rfl) (fun j hj => absurd hj (Nat.not_lt_zero _))
            rw [aU_same] at this
            exact this
          · have hge : ¬ pCnt (fun p => (W t p).isSome) 64 < 8 := hge
            repeat (first | refine gkn rfl rfl ?_ | refine gkm rfl rfl ?_ | refine gad rfl ?_ | refine gml rfl ?_ | refine gsb rfl (by omega) ?_ | refine gdv rfl (by omega) (by omega) (by omega) ?_ | refine grm rfl (by omega) (by omega) (by omega) ?_ | refine gic rfl rfl ?_ | refine gp rfl rfl rfl ?_ | refine gFl rfl (by rfl) ?_ | refine gAl rfl rfl (by rfl) (by omega) ?_ | refine gBl rfl rfl (by rfl) (by omega) ?_)
            refine gri rfl (fun _ => Or.inl rfl) (no ?_)
            unfold pDo
            rw [e1, e2]
            simp only
            rw [if_neg (fun q => q.elim (fun q => by rw [hs] at q; cases q) hge)]
      · have e3 : pDo W (nI t) y = none := by unfold pDo; rw [e1, e2]
        repeat (first | refine gkn rfl rfl ?_ | refine gkm rfl rfl ?_ | refine gad rfl ?_ | refine gml rfl ?_ | refine gsb rfl (by omega) ?_ | refine gdv rfl (by omega) (by omega) (by omega) ?_ | refine grm rfl (by omega) (by omega) (by omega) ?_ | refine gic rfl rfl ?_ | refine gp rfl rfl rfl ?_ | refine gFl rfl (by rfl) ?_ | refine gAl rfl rfl (by rfl) (by omega) ?_ | refine gBl rfl rfl (by rfl) (by omega) ?_ | refine gfN rfl (by omega) (by omega) (nN_ge (by omega)) ?_ | refine gfN rfl (by omega) (by omega) (nN_lt (by omega)) ?_ | refine gfN rfl (by omega) (by omega) (nN_eq (by omega)) ?_ | refine gfN rfl (by omega) (by omega) (nN_ne (by omega)) ?_ | refine gfN rfl (by omega) (by omega) (nN_gt (by omega)) ?_ | refine gfN rfl (by omega) (by omega) (nN_le (by omega)) ?_ | refine gtN rfl (by omega) (by omega) (xN_ge (by omega)) ?_ | refine gtN rfl (by omega) (by omega) (xN_lt (by omega)) ?_ | refine gtN rfl (by omega) (by omega) (xN_eq (by omega)) ?_ | refine gtN rfl (by omega) (by omega) (xN_ne (by omega)) ?_ | refine gtN rfl (by omega) (by omega) (xN_gt (by omega)) ?_ | refine gtN rfl (by omega) (by omega) (xN_le (by omega)) ?_ | refine gf0 rfl (by omega) (nN_ge (by omega)) ?_ | refine gf0 rfl (by omega) (nN_lt (by omega)) ?_ | refine gf0 rfl (by omega) (nN_eq (by omega)) ?_ | refine gf0 rfl (by omega) (nN_ne (by omega)) ?_ | refine gf0 rfl (by omega) (nN_gt (by omega)) ?_ | refine gf0 rfl (by omega) (nN_le (by omega)) ?_ | refine gt0 rfl (by omega) (xN_ge (by omega)) ?_ | refine gt0 rfl (by omega) (xN_lt (by omega)) ?_ | refine gt0 rfl (by omega) (xN_eq (by omega)) ?_ | refine gt0 rfl (by omega) (xN_ne (by omega)) ?_ | refine gt0 rfl (by omega) (xN_gt (by omega)) ?_ | refine gt0 rfl (by omega) (xN_le (by omega)) ?_)
        refine gif' rfl (fun h0 => ?_) (fun h0 => ?_)
        · repeat (first | refine gkn rfl rfl ?_ | refine gkm rfl rfl ?_ | refine gad rfl ?_ | refine gml rfl ?_ | refine gsb rfl (by omega) ?_ | refine gdv rfl (by omega) (by omega) (by omega) ?_ | refine grm rfl (by omega) (by omega) (by omega) ?_ | refine gic rfl rfl ?_ | refine gp rfl rfl rfl ?_ | refine gFl rfl (by rfl) ?_ | refine gAl rfl rfl (by rfl) (by omega) ?_ | refine gBl rfl rfl (by rfl) (by omega) ?_)
          exact gri rfl (fun _ => Or.inl rfl) (no e3)
        · repeat (first | refine gkn rfl rfl ?_ | refine gkm rfl rfl ?_ | refine gad rfl ?_ | refine gml rfl ?_ | refine gsb rfl (by omega) ?_ | refine gdv rfl (by omega) (by omega) (by omega) ?_ | refine grm rfl (by omega) (by omega) (by omega) ?_ | refine gic rfl rfl ?_ | refine gp rfl rfl rfl ?_ | refine gFl rfl (by rfl) ?_ | refine gAl rfl rfl (by rfl) (by omega) ?_ | refine gBl rfl rfl (by rfl) (by omega) ?_)
          refine gcf rfl (show ¬ y ≤ nI 63 from Int32.not_le.mpr (oN_hi (by decide) hn2 h0)) ?_
          repeat (first | refine gkn rfl rfl ?_ | refine gkm rfl rfl ?_ | refine gad rfl ?_ | refine gml rfl ?_ | refine gsb rfl (by omega) ?_ | refine gdv rfl (by omega) (by omega) (by omega) ?_ | refine grm rfl (by omega) (by omega) (by omega) ?_ | refine gic rfl rfl ?_ | refine gp rfl rfl rfl ?_ | refine gFl rfl (by rfl) ?_ | refine gAl rfl rfl (by rfl) (by omega) ?_ | refine gBl rfl rfl (by rfl) (by omega) ?_)
          exact gri rfl (fun _ => Or.inl rfl) (no e3)
    · have e3 : pDo W x y = none := by unfold pDo; rw [e1]
      repeat (first | refine gkn rfl rfl ?_ | refine gkm rfl rfl ?_ | refine gad rfl ?_ | refine gml rfl ?_ | refine gsb rfl (by omega) ?_ | refine gdv rfl (by omega) (by omega) (by omega) ?_ | refine grm rfl (by omega) (by omega) (by omega) ?_ | refine gic rfl rfl ?_ | refine gp rfl rfl rfl ?_ | refine gFl rfl (by rfl) ?_ | refine gAl rfl rfl (by rfl) (by omega) ?_ | refine gBl rfl rfl (by rfl) (by omega) ?_)
      refine gif' rfl (fun h0 => ?_) (fun h0 => ?_)
      · repeat (first | refine gkn rfl rfl ?_ | refine gkm rfl rfl ?_ | refine gad rfl ?_ | refine gml rfl ?_ | refine gsb rfl (by omega) ?_ | refine gdv rfl (by omega) (by omega) (by omega) ?_ | refine grm rfl (by omega) (by omega) (by omega) ?_ | refine gic rfl rfl ?_ | refine gp rfl rfl rfl ?_ | refine gFl rfl (by rfl) ?_ | refine gAl rfl rfl (by rfl) (by omega) ?_ | refine gBl rfl rfl (by rfl) (by omega) ?_)
        exact gri rfl (fun _ => Or.inl rfl) (no e3)
      · repeat (first | refine gkn rfl rfl ?_ | refine gkm rfl rfl ?_ | refine gad rfl ?_ | refine gml rfl ?_ | refine gsb rfl (by omega) ?_ | refine gdv rfl (by omega) (by omega) (by omega) ?_ | refine grm rfl (by omega) (by omega) (by omega) ?_ | refine gic rfl rfl ?_ | refine gp rfl rfl rfl ?_ | refine gFl rfl (by rfl) ?_ | refine gAl rfl rfl (by rfl) (by omega) ?_ | refine gBl rfl rfl (by rfl) (by omega) ?_)
        refine gct rfl (show nI 2 < x from oN_hi (by decide) hn h0) ?_
        repeat (first | refine gkn rfl rfl ?_ | refine gkm rfl rfl ?_ | refine gad rfl ?_ | refine gml rfl ?_ | refine gsb rfl (by omega) ?_ | refine gdv rfl (by omega) (by omega) (by omega) ?_ | refine grm rfl (by omega) (by omega) (by omega) ?_ | refine gic rfl rfl ?_ | refine gp rfl rfl rfl ?_ | refine gFl rfl (by rfl) ?_ | refine gAl rfl rfl (by rfl) (by omega) ?_ | refine gBl rfl rfl (by rfl) (by omega) ?_)
        exact gri rfl (fun _ => Or.inl rfl) (no e3)
  obtain ⟨r, σ', hex, rfl, A', rfl, g⟩ := ex_of (d := d + 2) (y := 92) (as := [.inr (some 52), .inl x, .inl y, .inl z, .inl (bI l)]) (σ := mU σ I A) (K := K) (by decide) rfl main
  exact ⟨A', hex, g⟩
end REF
