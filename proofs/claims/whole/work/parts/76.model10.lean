/-! MODULE: the reference: all renames, new places -/
def rSc8 (B T : pT) (th : Int32) (R : pR) : pR := if 20 < pCnt (rSL B T R) 64 * pCnt (rTL B T R) 64 then R else rIt (rBS B T th) R 8
def rAll8 (B T : pT) (th : Nat) : pR := rSc8 B T (nI th) (rNaA B T (nI ((101 + th) / 2)) (rExA B T (fun _ => none, fun _ => none) 64) 8)
theorem rBS_in {B T : pT} {th : Int32} {R : pR} {p q : Nat} (h : (rBp B T th R 64).2 = some (p, q)) : p < 64 ∧ q < 64 := rBp_ok 64 (Nat.le_refl _) p q h
section REF
variable {σ : xS} {I : Nat → Int32} {A : Nat → Nat → Int32} {W : Nat → pT} {s th : Nat}
theorem r_renames (d : Nat) (h : mV A W) (hs : s = 1 ∨ s = 2) (hI : I 0 = nI th) (h1 : 1 ≤ th) (hth : th ≤ 100) : ∃ A', xEx (d + 6) 104 [.inr (some 52), .inl (nI s)] (mU σ I A) none (mU σ I A') ∧ mR A' s (rAll8 (W 0) (W s) th) ∧ aR s A A' := by
  let K : Option xV → xS → Prop := fun r0 σ0 => r0 = none ∧ ∃ A', σ0 = mU σ I A' ∧ mR A' s (rAll8 (W 0) (W s) th) ∧ aR s A A'
  let R0 : pR := rNaA (W 0) (W s) (nI ((101 + th) / 2)) (rExA (W 0) (W s) (fun _ => none, fun _ => none) 64) 8
  have eAll : rAll8 (W 0) (W s) th = rSc8 (W 0) (W s) (nI th) R0 := rfl
  have loop2 : ¬ 20 < pCnt (rSL (W 0) (W s) R0) 64 * pCnt (rTL (W 0) (W s) R0) 64 → ∀ k i (B : Nat → Nat → Int32) (x : Option xV), i + k = 8 → mR B s (rIt (rBS (W 0) (W s) (nI th)) R0 i) → aR s A B → xGo (xEx (d + 5)) xtb_104 K (76, [some (.inr (some 52)), some (.inl (nI s)), some (.inl (nI i)), x], [.inl (nI 8), .inl (nI i)], mU σ I B) := by
    intro hno k
    induction k with
    | zero =>
      intro i B x hi hB hF
      obtain rfl : i = 8 := by omega
      first | refine gtN rfl (by omega) (by omega) (xN_ge (by omega)) ?_ | refine gtN rfl (by omega) (by omega) (xN_lt (by omega)) ?_ | refine gtN rfl (by omega) (by omega) (xN_eq (by omega)) ?_ | refine gtN rfl (by omega) (by omega) (xN_ne (by omega)) ?_ | refine gtN rfl (by omega) (by omega) (xN_gt (by omega)) ?_ | refine gtN rfl (by omega) (by omega) (xN_le (by omega)) ?_
      refine grv rfl ⟨rfl, B, rfl, ?_, hF⟩
      rw [eAll]
      unfold rSc8
      rw [if_neg hno]
      exact hB
    | succ k ih =>
      intro i B x hi hB hF
      have hV := h.aR hF
      have ih' := fun B x => ih (i + 1) B x (by omega)
      have eX : rIt (rBS (W 0) (W s) (nI th)) R0 (i + 1) = rBS (W 0) (W s) (nI th) (rIt (rBS (W 0) (W s) (nI th)) R0 i) := rfl
      rw [eX] at ih'
      generalize rIt (rBS (W 0) (W s) (nI th)) R0 i = R1 at *
      first | refine gfN rfl (by omega) (by omega) (nN_ge (by omega)) ?_ | refine gfN rfl (by omega) (by omega) (nN_lt (by omega)) ?_ | refine gfN rfl (by omega) (by omega) (nN_eq (by omega)) ?_ | refine gfN rfl (by omega) (by omega) (nN_ne (by omega)) ?_ | refine gfN rfl (by omega) (by omega) (nN_gt (by omega)) ?_ | refine gfN rfl (by omega) (by omega) (nN_le (by omega)) ?_
      repeat (first | refine gkn rfl rfl ?_ | refine gkm rfl rfl ?_ | refine gad rfl ?_ | refine gml rfl ?_ | refine gsb rfl (by omega) ?_ | refine gdv rfl (by omega) (by omega) (by omega) ?_ | refine grm rfl (by omega) (by omega) (by omega) ?_ | refine gic rfl rfl ?_ | refine gp rfl rfl rfl ?_ | refine gFl rfl (by rfl) ?_ | refine gAl rfl rfl (by rfl) (by omega) ?_ | refine gBl rfl rfl (by rfl) (by omega) ?_)
      refine gcv (As := [.inl (nI s)]) (rest := []) rfl (by decide) (r_bestLeft d hV hB hs hI h1 hth) (mU_obj _ _ _) rfl rfl (by decide) ?_
      cases hb : (rBp (W 0) (W s) (nI th) R1 64).2 with
      | none =>
        have e : rBS (W 0) (W s) (nI th) R1 = R1 := by unfold rBS; rw [hb]
        rw [e] at ih'
        repeat (first | refine gkn rfl rfl ?_ | refine gkm rfl rfl ?_ | refine gad rfl ?_ | refine gml rfl ?_ | refine gsb rfl (by omega) ?_ | refine gdv rfl (by omega) (by omega) (by omega) ?_ | refine grm rfl (by omega) (by omega) (by omega) ?_ | refine gic rfl rfl ?_ | refine gp rfl rfl rfl ?_ | refine gFl rfl (by rfl) ?_ | refine gAl rfl rfl (by rfl) (by omega) ?_ | refine gBl rfl rfl (by rfl) (by omega) ?_)
        refine git rfl (show (-1 : Int32) < 0 by decide) ?_
        repeat (first | refine gkn rfl rfl ?_ | refine gkm rfl rfl ?_ | refine gad rfl ?_ | refine gml rfl ?_ | refine gsb rfl (by omega) ?_ | refine gdv rfl (by omega) (by omega) (by omega) ?_ | refine grm rfl (by omega) (by omega) (by omega) ?_ | refine gic rfl rfl ?_ | refine gp rfl rfl rfl ?_ | refine gFl rfl (by rfl) ?_ | refine gAl rfl rfl (by rfl) (by omega) ?_ | refine gBl rfl rfl (by rfl) (by omega) ?_)
        exact ih' B _ hB hF
      | some pq =>
        obtain ⟨p, q⟩ := pq
        have e : rBS (W 0) (W s) (nI th) R1 = rJ R1 p q := by unfold rBS; rw [hb]
        rw [e] at ih'
        obtain ⟨hp, hq⟩ := rBS_in hb
        obtain ⟨B', y1, y2, y3⟩ := r_join (σ := σ) (I := I) (d + 4) hB hs hp hq
        show xGo (xEx (d + 5)) xtb_104 K (84, [some (.inr (some 52)), some (.inl (nI s)), some (.inl (nI i)), x], [.inl (nI (64 * p + q))], mU σ I B)
        repeat (first | refine gkn rfl rfl ?_ | refine gkm rfl rfl ?_ | refine gad rfl ?_ | refine gml rfl ?_ | refine gsb rfl (by omega) ?_ | refine gdv rfl (by omega) (by omega) (by omega) ?_ | refine grm rfl (by omega) (by omega) (by omega) ?_ | refine gic rfl rfl ?_ | refine gp rfl rfl rfl ?_ | refine gFl rfl (by rfl) ?_ | refine gAl rfl rfl (by rfl) (by omega) ?_ | refine gBl rfl rfl (by rfl) (by omega) ?_)
        first | refine gf0 rfl (by omega) (nN_ge (by omega)) ?_ | refine gf0 rfl (by omega) (nN_lt (by omega)) ?_ | refine gf0 rfl (by omega) (nN_eq (by omega)) ?_ | refine gf0 rfl (by omega) (nN_ne (by omega)) ?_ | refine gf0 rfl (by omega) (nN_gt (by omega)) ?_ | refine gf0 rfl (by omega) (nN_le (by omega)) ?_
        repeat (first | refine gkn rfl rfl ?_ | refine gkm rfl rfl ?_ | refine gad rfl ?_ | refine gml rfl ?_ | refine gsb rfl (by omega) ?_ | refine gdv rfl (by omega) (by omega) (by omega) ?_ | refine grm rfl (by omega) (by omega) (by omega) ?_ | refine gic rfl rfl ?_ | refine gp rfl rfl rfl ?_ | refine gFl rfl (by rfl) ?_ | refine gAl rfl rfl (by rfl) (by omega) ?_ | refine gBl rfl rfl (by rfl) (by omega) ?_)
        rw [show (64 * p + q) / 64 = p by omega, show (64 * p + q) % 64 = q by omega]
        refine gcv (As := [.inl (nI s), .inl (nI p), .inl (nI q)]) (rest := []) rfl (by decide) y1 (mU_obj _ _ _) rfl rfl (by decide) ?_
        repeat (first | refine gkn rfl rfl ?_ | refine gkm rfl rfl ?_ | refine gad rfl ?_ | refine gml rfl ?_ | refine gsb rfl (by omega) ?_ | refine gdv rfl (by omega) (by omega) (by omega) ?_ | refine grm rfl (by omega) (by omega) (by omega) ?_ | refine gic rfl rfl ?_ | refine gp rfl rfl rfl ?_ | refine gFl rfl (by rfl) ?_ | refine gAl rfl rfl (by rfl) (by omega) ?_ | refine gBl rfl rfl (by rfl) (by omega) ?_)
        exact ih' B' _ y2 (hF.trans y3)
  have loop1 : ∀ k i (B : Nat → Nat → Int32), i + k = 64 → (∀ p, p < i → B 56 (64 * (s - 1) + p) = -1 ∧ B 57 (64 * (s - 1) + p) = -1) → aR s A B → xGo (xEx (d + 5)) xtb_104 K (5, [some (.inr (some 52)), some (.inl (nI s)), some (.inl (nI i)), none], [.inl (nI 64), .inl (nI i)], mU σ I B) := by
    intro k
    induction k with
    | zero =>
      intro i B hi hB hF
      obtain rfl : i = 64 := by omega
      have hV := h.aR hF
      have hR : mR B s (fun _ => none, fun _ => none) := ⟨⟨fun p q z => (by cases z), fun p q z => (by cases z)⟩, fun p hp => (hB p hp).1, fun p hp => (hB p hp).2⟩
      first | refine gtN rfl (by omega) (by omega) (xN_ge (by omega)) ?_ | refine gtN rfl (by omega) (by omega) (xN_lt (by omega)) ?_ | refine gtN rfl (by omega) (by omega) (xN_eq (by omega)) ?_ | refine gtN rfl (by omega) (by omega) (xN_ne (by omega)) ?_ | refine gtN rfl (by omega) (by omega) (xN_gt (by omega)) ?_ | refine gtN rfl (by omega) (by omega) (xN_le (by omega)) ?_
      repeat (first | refine gkn rfl rfl ?_ | refine gkm rfl rfl ?_ | refine gad rfl ?_ | refine gml rfl ?_ | refine gsb rfl (by omega) ?_ | refine gdv rfl (by omega) (by omega) (by omega) ?_ | refine grm rfl (by omega) (by omega) (by omega) ?_ | refine gic rfl rfl ?_ | refine gp rfl rfl rfl ?_ | refine gFl rfl (by rfl) ?_ | refine gAl rfl rfl (by rfl) (by omega) ?_ | refine gBl rfl rfl (by rfl) (by omega) ?_)
      obtain ⟨B1, y1, y2, y3⟩ := r_exact (σ := σ) (I := I) (d + 2) hV hR hs
      refine gcv (As := [.inl (nI s)]) (rest := []) rfl (by decide) y1 (mU_obj _ _ _) rfl rfl (by decide) ?_
      have hV1 := hV.aR y3
      repeat (first | refine gkn rfl rfl ?_ | refine gkm rfl rfl ?_ | refine gad rfl ?_ | refine gml rfl ?_ | refine gsb rfl (by omega) ?_ | refine gdv rfl (by omega) (by omega) (by omega) ?_ | refine grm rfl (by omega) (by omega) (by omega) ?_ | refine gic rfl rfl ?_ | refine gp rfl rfl rfl ?_ | refine gFl rfl (by rfl) ?_ | refine gAl rfl rfl (by rfl) (by omega) ?_ | refine gBl rfl rfl (by rfl) (by omega) ?_)
      obtain ⟨B2, z1, z2, z3⟩ := r_names (σ := σ) (I := I) d hV1 y2 hs hI hth
      refine gcv (As := [.inl (nI s)]) (rest := []) rfl (by decide) z1 (mU_obj _ _ _) rfl rfl (by decide) ?_
      have hV2 := hV1.aR z3
      have z2 : mR B2 s R0 := z2
      repeat (first | refine gkn rfl rfl ?_ | refine gkm rfl rfl ?_ | refine gad rfl ?_ | refine gml rfl ?_ | refine gsb rfl (by omega) ?_ | refine gdv rfl (by omega) (by omega) (by omega) ?_ | refine grm rfl (by omega) (by omega) (by omega) ?_ | refine gic rfl rfl ?_ | refine gp rfl rfl rfl ?_ | refine gFl rfl (by rfl) ?_ | refine gAl rfl rfl (by rfl) (by omega) ?_ | refine gBl rfl rfl (by rfl) (by omega) ?_)
      refine gcv (As := [.inl (nI s), .inl (nI 1)]) (rest := []) rfl (by decide) (r_leftsS (d + 2) hV2 z2 hs) (mU_obj _ _ _) rfl rfl (by decide) ?_
      repeat (first | refine gkn rfl rfl ?_ | refine gkm rfl rfl ?_ | refine gad rfl ?_ | refine gml rfl ?_ | refine gsb rfl (by omega) ?_ | refine gdv rfl (by omega) (by omega) (by omega) ?_ | refine grm rfl (by omega) (by omega) (by omega) ?_ | refine gic rfl rfl ?_ | refine gp rfl rfl rfl ?_ | refine gFl rfl (by rfl) ?_ | refine gAl rfl rfl (by rfl) (by omega) ?_ | refine gBl rfl rfl (by rfl) (by omega) ?_)
      refine gcv (As := [.inl (nI s), .inl (nI 0)]) (rest := [.inl (nI (pCnt (rSL (W 0) (W s) R0) 64))]) rfl (by decide) (r_leftsT (d + 2) hV2 z2 hs) (mU_obj _ _ _) rfl rfl (Nat.le_of_ble_eq_true rfl) ?_
      have c1 := pCnt_le (rSL (W 0) (W s) R0) 64
      have c2 := pCnt_le (rTL (W 0) (W s) R0) 64
      have c3 : pCnt (rSL (W 0) (W s) R0) 64 * pCnt (rTL (W 0) (W s) R0) 64 ≤ 64 * 64 := Nat.mul_le_mul c1 c2
      refine gml rfl ?_
      repeat (first | refine gkn rfl rfl ?_ | refine gkm rfl rfl ?_ | refine gad rfl ?_ | refine gml rfl ?_ | refine gsb rfl (by omega) ?_ | refine gdv rfl (by omega) (by omega) (by omega) ?_ | refine grm rfl (by omega) (by omega) (by omega) ?_ | refine gic rfl rfl ?_ | refine gp rfl rfl rfl ?_ | refine gFl rfl (by rfl) ?_ | refine gAl rfl rfl (by rfl) (by omega) ?_ | refine gBl rfl rfl (by rfl) (by omega) ?_)
      refine gcN rfl (by omega) (by omega) (fun hle => ?_) (fun hgt => ?_)
      · have hle : pCnt (rSL (W 0) (W s) R0) 64 * pCnt (rTL (W 0) (W s) R0) 64 ≤ 20 := hle
        repeat (first | refine gkn rfl rfl ?_ | refine gkm rfl rfl ?_ | refine gad rfl ?_ | refine gml rfl ?_ | refine gsb rfl (by omega) ?_ | refine gdv rfl (by omega) (by omega) (by omega) ?_ | refine grm rfl (by omega) (by omega) (by omega) ?_ | refine gic rfl rfl ?_ | refine gp rfl rfl rfl ?_ | refine gFl rfl (by rfl) ?_ | refine gAl rfl rfl (by rfl) (by omega) ?_ | refine gBl rfl rfl (by rfl) (by omega) ?_)
        exact loop2 (by omega) 8 0 B2 none rfl z2 ((hF.trans y3).trans z3)
      · have hgt : ¬ pCnt (rSL (W 0) (W s) R0) 64 * pCnt (rTL (W 0) (W s) R0) 64 ≤ 20 := hgt
        refine grv rfl ⟨rfl, B2, rfl, ?_, (hF.trans y3).trans z3⟩
        rw [eAll]
        unfold rSc8
        rw [if_pos (by omega)]
        exact z2
    | succ k ih =>
      intro i B hi hB hF
      first | refine gfN rfl (by omega) (by omega) (nN_ge (by omega)) ?_ | refine gfN rfl (by omega) (by omega) (nN_lt (by omega)) ?_ | refine gfN rfl (by omega) (by omega) (nN_eq (by omega)) ?_ | refine gfN rfl (by omega) (by omega) (nN_ne (by omega)) ?_ | refine gfN rfl (by omega) (by omega) (nN_gt (by omega)) ?_ | refine gfN rfl (by omega) (by omega) (nN_le (by omega)) ?_
      repeat (first | refine gkn rfl rfl ?_ | refine gkm rfl rfl ?_ | refine gad rfl ?_ | refine gml rfl ?_ | refine gsb rfl (by omega) ?_ | refine gdv rfl (by omega) (by omega) (by omega) ?_ | refine grm rfl (by omega) (by omega) (by omega) ?_ | refine gic rfl rfl ?_ | refine gp rfl rfl rfl ?_ | refine gFl rfl (by rfl) ?_ | refine gAl rfl rfl (by rfl) (by omega) ?_ | refine gBl rfl rfl (by rfl) (by omega) ?_)
      refine gAs rfl rfl rfl (by omega) ?_
      repeat (first | refine gkn rfl rfl ?_ | refine gkm rfl rfl ?_ | refine gad rfl ?_ | refine gml rfl ?_ | refine gsb rfl (by omega) ?_ | refine gdv rfl (by omega) (by omega) (by omega) ?_ | refine grm rfl (by omega) (by omega) (by omega) ?_ | refine gic rfl rfl ?_ | refine gp rfl rfl rfl ?_ | refine gFl rfl (by rfl) ?_ | refine gAl rfl rfl (by rfl) (by omega) ?_ | refine gBl rfl rfl (by rfl) (by omega) ?_)
      refine gAs rfl rfl rfl (by omega) ?_
      repeat (first | refine gkn rfl rfl ?_ | refine gkm rfl rfl ?_ | refine gad rfl ?_ | refine gml rfl ?_ | refine gsb rfl (by omega) ?_ | refine gdv rfl (by omega) (by omega) (by omega) ?_ | refine grm rfl (by omega) (by omega) (by omega) ?_ | refine gic rfl rfl ?_ | refine gp rfl rfl rfl ?_ | refine gFl rfl (by rfl) ?_ | refine gAl rfl rfl (by rfl) (by omega) ?_ | refine gBl rfl rfl (by rfl) (by omega) ?_)
      refine ih (i + 1) _ (by omega) (fun p hp => ?_) (hF.trans ⟨fun k a b => ?_, fun x hx => ⟨?_, ?_⟩⟩)
      · rw [aU_ne (by decide), aU_eq, aU_eq, aU_ne (by decide)]
        by_cases e : p = i
        · subst e; rw [upd_eq, upd_eq]; exact ⟨rfl, rfl⟩
        · rw [upd_ne (by omega), upd_ne (by omega)]; exact hB p (by omega)
      · rw [aU_ne b, aU_ne a]
      · rw [aU_ne (by decide), aU_eq, upd_ne (by omega)]
      · rw [aU_eq, aU_ne (by decide), upd_ne (by omega)]
  have main : xGo (xEx (d + 5)) xtb_104 K (0, [some (.inr (some 52)), some (.inl (nI s)), none, none], [], mU σ I A) := by
    repeat (first | refine gkn rfl rfl ?_ | refine gkm rfl rfl ?_ | refine gad rfl ?_ | refine gml rfl ?_ | refine gsb rfl (by omega) ?_ | refine gdv rfl (by omega) (by omega) (by omega) ?_ | refine grm rfl (by omega) (by omega) (by omega) ?_ | refine gic rfl rfl ?_ | refine gp rfl rfl rfl ?_ | refine gFl rfl (by rfl) ?_ | refine gAl rfl rfl (by rfl) (by omega) ?_ | refine gBl rfl rfl (by rfl) (by omega) ?_)
    exact loop1 64 0 A rfl (fun p hp => absurd hp (by omega)) (aR.refl _ _)
  obtain ⟨r, σ', hex, rfl, A', rfl, g⟩ := ex_of (d := d + 5) (y := 104) (as := [.inr (some 52), .inl (nI s)]) (σ := mU σ I A) (K := K) (by decide) rfl main
  exact ⟨A', hex, g⟩
theorem r_moved (d : Nat) {R : pR} {f e : Nat} (hR : mR A s R) (hs : s = 1 ∨ s = 2) (hf : f < 8) (he : e < 8) : xEx (d + 1) 114 [.inr (some 52), .inl (nI s), .inl (nI f), .inl (nI e)] (mU σ I A) (some (.inl (nI (pCnt (sHit R f e) 8)))) (mU σ I A) := by
  obtain ⟨h1, h2, h3⟩ := hR
  refine ⟨by decide, rfl, ?_⟩
  show xGo (xEx d) xtb_114 _ (0, [some (.inr (some 52)), some (.inl (nI s)), some (.inl (nI f)), some (.inl (nI e)), none, none, none], [], mU σ I A)
  have loop : ∀ k i (x : Option xV), i + k = 8 → xGo (xEx d) xtb_114 (fun r0 σ0 => r0 = some (.inl (nI (pCnt (sHit R f e) 8))) ∧ σ0 = mU σ I A) (18, [some (.inr (some 52)), some (.inl (nI s)), some (.inl (nI f)), some (.inl (nI e)), some (.inl (nI (pCnt (sHit R f e) i))), some (.inl (nI (8 * f + i))), x], [.inl (nI (8 * f + 8)), .inl (nI (8 * f + i))], mU σ I A) := by
    intro k
    induction k with
    | zero =>
      intro i x hi
      obtain rfl : i = 8 := by omega
      first | refine gtN rfl (by omega) (by omega) (xN_ge (by omega)) ?_ | refine gtN rfl (by omega) (by omega) (xN_lt (by omega)) ?_ | refine gtN rfl (by omega) (by omega) (xN_eq (by omega)) ?_ | refine gtN rfl (by omega) (by omega) (xN_ne (by omega)) ?_ | refine gtN rfl (by omega) (by omega) (xN_gt (by omega)) ?_ | refine gtN rfl (by omega) (by omega) (xN_le (by omega)) ?_
      repeat (first | refine gkn rfl rfl ?_ | refine gkm rfl rfl ?_ | refine gad rfl ?_ | refine gml rfl ?_ | refine gsb rfl (by omega) ?_ | refine gdv rfl (by omega) (by omega) (by omega) ?_ | refine grm rfl (by omega) (by omega) (by omega) ?_ | refine gic rfl rfl ?_ | refine gp rfl rfl rfl ?_ | refine gFl rfl (by rfl) ?_ | refine gAl rfl rfl (by rfl) (by omega) ?_ | refine gBl rfl rfl (by rfl) (by omega) ?_)
      exact gri rfl (fun h => absurd h (by decide)) ⟨rfl, rfl⟩
    | succ k ih =>
      intro i x hi
      have ih' := fun x => ih (i + 1) x (by omega)
      rw [pCnt_s _ i] at ih'
      have eH : sHit R f e i = match R.1 (8 * f + i) with
        | some q => decide (q / 8 = e)
        | none => false := by
        unfold sHit
        rw [show f * 8 + i = 8 * f + i by omega]
        cases R.1 (8 * f + i) <;> rfl
      first | refine gfN rfl (by omega) (by omega) (nN_ge (by omega)) ?_ | refine gfN rfl (by omega) (by omega) (nN_lt (by omega)) ?_ | refine gfN rfl (by omega) (by omega) (nN_eq (by omega)) ?_ | refine gfN rfl (by omega) (by omega) (nN_ne (by omega)) ?_ | refine gfN rfl (by omega) (by omega) (nN_gt (by omega)) ?_ | refine gfN rfl (by omega) (by omega) (nN_le (by omega)) ?_
      repeat (first | refine gkn rfl rfl ?_ | refine gkm rfl rfl ?_ | refine gad rfl ?_ | refine gml rfl ?_ | refine gsb rfl (by omega) ?_ | refine gdv rfl (by omega) (by omega) (by omega) ?_ | refine grm rfl (by omega) (by omega) (by omega) ?_ | refine gic rfl rfl ?_ | refine gp rfl rfl rfl ?_ | refine gFl rfl (by rfl) ?_ | refine gAl rfl rfl (by rfl) (by omega) ?_ | refine gBl rfl rfl (by rfl) (by omega) ?_)
      rw [h2 (8 * f + i) (by omega)]
      cases hr : R.1 (8 * f + i) with
      | none =>
        rw [hr] at eH
        rw [show sHit R f e i = false from eH] at ih'
        refine git rfl (show (-1 : Int32) < 0 by decide) ?_
        repeat (first | refine gkn rfl rfl ?_ | refine gkm rfl rfl ?_ | refine gad rfl ?_ | refine gml rfl ?_ | refine gsb rfl (by omega) ?_ | refine gdv rfl (by omega) (by omega) (by omega) ?_ | refine grm rfl (by omega) (by omega) (by omega) ?_ | refine gic rfl rfl ?_ | refine gp rfl rfl rfl ?_ | refine gFl rfl (by rfl) ?_ | refine gAl rfl rfl (by rfl) (by omega) ?_ | refine gBl rfl rfl (by rfl) (by omega) ?_)
        exact ih' _
      | some q =>
        have hq := h1.1 _ _ hr
        rw [hr] at eH
        refine gf0 rfl (show q < 2147483648 by omega) (by simp only [xcN]; omega) ?_
        refine gp rfl rfl (s' := (_, _, [.inl (nI q)], _)) rfl ?_
        repeat (first | refine gkn rfl rfl ?_ | refine gkm rfl rfl ?_ | refine gad rfl ?_ | refine gml rfl ?_ | refine gsb rfl (by omega) ?_ | refine gdv rfl (by omega) (by omega) (by omega) ?_ | refine grm rfl (by omega) (by omega) (by omega) ?_ | refine gic rfl rfl ?_ | refine gp rfl rfl rfl ?_ | refine gFl rfl (by rfl) ?_ | refine gAl rfl rfl (by rfl) (by omega) ?_ | refine gBl rfl rfl (by rfl) (by omega) ?_)
        refine gcN rfl (by omega) (by omega) (fun hne => ?_) (fun heq => ?_)
        · have hne : ¬ q / 8 = e := hne
          rw [show sHit R f e i = false from eH.trans (decide_eq_false hne)] at ih'
          repeat (first | refine gkn rfl rfl ?_ | refine gkm rfl rfl ?_ | refine gad rfl ?_ | refine gml rfl ?_ | refine gsb rfl (by omega) ?_ | refine gdv rfl (by omega) (by omega) (by omega) ?_ | refine grm rfl (by omega) (by omega) (by omega) ?_ | refine gic rfl rfl ?_ | refine gp rfl rfl rfl ?_ | refine gFl rfl (by rfl) ?_ | refine gAl rfl rfl (by rfl) (by omega) ?_ | refine gBl rfl rfl (by rfl) (by omega) ?_)
          exact ih' _
        · have heq : q / 8 = e := by
            by_cases z : q / 8 = e
            · exact z
            · exact absurd z heq
          rw [show sHit R f e i = true from eH.trans (decide_eq_true heq)] at ih'
          repeat (first | refine gkn rfl rfl ?_ | refine gkm rfl rfl ?_ | refine gad rfl ?_ | refine gml rfl ?_ | refine gsb rfl (by omega) ?_ | refine gdv rfl (by omega) (by omega) (by omega) ?_ | refine grm rfl (by omega) (by omega) (by omega) ?_ | refine gic rfl rfl ?_ | refine gp rfl rfl rfl ?_ | refine gFl rfl (by rfl) ?_ | refine gAl rfl rfl (by rfl) (by omega) ?_ | refine gBl rfl rfl (by rfl) (by omega) ?_)
          exact ih' _
  repeat (first | refine gkn rfl rfl ?_ | refine gkm rfl rfl ?_ | refine gad rfl ?_ | refine gml rfl ?_ | refine gsb rfl (by omega) ?_ | refine gdv rfl (by omega) (by omega) (by omega) ?_ | refine grm rfl (by omega) (by omega) (by omega) ?_ | refine gic rfl rfl ?_ | refine gp rfl rfl rfl ?_ | refine gFl rfl (by rfl) ?_ | refine gAl rfl rfl (by rfl) (by omega) ?_ | refine gBl rfl rfl (by rfl) (by omega) ?_)
  exact loop 8 0 none rfl
theorem pAny_s (P : Nat → Bool) (n : Nat) : pAny P (n + 1) = (pAny P n || P n) := rfl
theorem pAny_up {P : Nat → Bool} {i : Nat} (h : P i = true) : ∀ {n : Nat}, i < n → pAny P n = true
  | 0, hn => by omega
  | n + 1, hn => by
    rw [pAny_s]
    by_cases e : i = n
    · rw [← e, h]; simp
    · rw [pAny_up h (n := n) (by omega)]; rfl
theorem sPl_s (R : pR) (f n : Nat) : sPl R f (n + 1) = if (sPl R f n).1 < pCnt (sHit R f n) 8 then (pCnt (sHit R f n) 8, some (some n)) else if pCnt (sHit R f n) 8 = (sPl R f n).1 ∧ 0 < pCnt (sHit R f n) 8 then ((sPl R f n).1, some none) else sPl R f n := rfl
theorem r_newPlaceOf (d : Nat) {R : pR} {f : Nat} (h : mV A W) (hR : mR A s R) (hs : s = 1 ∨ s = 2) (hf : f < 8) : xEx (d + 2) 113 [.inr (some 52), .inl (nI s), .inl (nI f)] (mU σ I A) (some (.inl (plI (pPlace (W s) R f)))) (mU σ I A) := by
  refine ⟨by decide, rfl, ?_⟩
  show xGo (xEx (d + 1)) xtb_113 _ (0, [some (.inr (some 52)), some (.inl (nI s)), some (.inl (nI f)), none, none, none, none], [], mU σ I A)
  have loop2 : pAny (fun i => (W s (f * 8 + i)).isSome) 8 = false → ∀ k e (x : Option xV), e + k = 8 → xGo (xEx (d + 1)) xtb_113 (fun r0 σ0 => r0 = some (.inl (plI (pPlace (W s) R f))) ∧ σ0 = mU σ I A) (45, [some (.inr (some 52)), some (.inl (nI s)), some (.inl (nI f)), some (.inl (nI (sPl R f e).1)), some (.inl (plI (sPl R f e).2)), some (.inl (nI e)), x], [.inl (nI 8), .inl (nI e)], mU σ I A) := by
    intro hno k
    induction k with
    | zero =>
      intro e x he
      obtain rfl : e = 8 := by omega
      first | refine gtN rfl (by omega) (by omega) (xN_ge (by omega)) ?_ | refine gtN rfl (by omega) (by omega) (xN_lt (by omega)) ?_ | refine gtN rfl (by omega) (by omega) (xN_eq (by omega)) ?_ | refine gtN rfl (by omega) (by omega) (xN_ne (by omega)) ?_ | refine gtN rfl (by omega) (by omega) (xN_gt (by omega)) ?_ | refine gtN rfl (by omega) (by omega) (xN_le (by omega)) ?_
      repeat (first | refine gkn rfl rfl ?_ | refine gkm rfl rfl ?_ | refine gad rfl ?_ | refine gml rfl ?_ | refine gsb rfl (by omega) ?_ | refine gdv rfl (by omega) (by omega) (by omega) ?_ | refine grm rfl (by omega) (by omega) (by omega) ?_ | refine gic rfl rfl ?_ | refine gp rfl rfl rfl ?_ | refine gFl rfl (by rfl) ?_ | refine gAl rfl rfl (by rfl) (by omega) ?_ | refine gBl rfl rfl (by rfl) (by omega) ?_)
      refine gri rfl (fun h => absurd h (by decide)) ⟨?_, rfl⟩
      unfold pPlace
      rw [hno]
      rfl
    | succ k ih =>
      intro e x he
      have ih' := fun x => ih (e + 1) x (by omega)
      rw [sPl_s R f e] at ih'
      have l1 := sPl_le R f e
      have l2 := pCnt_le (sHit R f e) 8
      first | refine gfN rfl (by omega) (by omega) (nN_ge (by omega)) ?_ | refine gfN rfl (by omega) (by omega) (nN_lt (by omega)) ?_ | refine gfN rfl (by omega) (by omega) (nN_eq (by omega)) ?_ | refine gfN rfl (by omega) (by omega) (nN_ne (by omega)) ?_ | refine gfN rfl (by omega) (by omega) (nN_gt (by omega)) ?_ | refine gfN rfl (by omega) (by omega) (nN_le (by omega)) ?_
      repeat (first | refine gkn rfl rfl ?_ | refine gkm rfl rfl ?_ | refine gad rfl ?_ | refine gml rfl ?_ | refine gsb rfl (by omega) ?_ | refine gdv rfl (by omega) (by omega) (by omega) ?_ | refine grm rfl (by omega) (by omega) (by omega) ?_ | refine gic rfl rfl ?_ | refine gp rfl rfl rfl ?_ | refine gFl rfl (by rfl) ?_ | refine gAl rfl rfl (by rfl) (by omega) ?_ | refine gBl rfl rfl (by rfl) (by omega) ?_)
      refine gcv (As := [.inl (nI s), .inl (nI f), .inl (nI e)]) (rest := []) rfl (by decide) (r_moved d hR hs hf (by omega)) (mU_obj _ _ _) rfl rfl (by decide) ?_
      repeat (first | refine gkn rfl rfl ?_ | refine gkm rfl rfl ?_ | refine gad rfl ?_ | refine gml rfl ?_ | refine gsb rfl (by omega) ?_ | refine gdv rfl (by omega) (by omega) (by omega) ?_ | refine grm rfl (by omega) (by omega) (by omega) ?_ | refine gic rfl rfl ?_ | refine gp rfl rfl rfl ?_ | refine gFl rfl (by rfl) ?_ | refine gAl rfl rfl (by rfl) (by omega) ?_ | refine gBl rfl rfl (by rfl) (by omega) ?_)
      refine gcN rfl (by omega) (by omega) (fun hle => ?_) (fun hgt => ?_)
      · have hle : pCnt (sHit R f e) 8 ≤ (sPl R f e).1 := hle
        rw [if_neg (by omega)] at ih'
        repeat (first | refine gkn rfl rfl ?_ | refine gkm rfl rfl ?_ | refine gad rfl ?_ | refine gml rfl ?_ | refine gsb rfl (by omega) ?_ | refine gdv rfl (by omega) (by omega) (by omega) ?_ | refine grm rfl (by omega) (by omega) (by omega) ?_ | refine gic rfl rfl ?_ | refine gp rfl rfl rfl ?_ | refine gFl rfl (by rfl) ?_ | refine gAl rfl rfl (by rfl) (by omega) ?_ | refine gBl rfl rfl (by rfl) (by omega) ?_)
        refine gcN rfl (by omega) (by omega) (fun hne => ?_) (fun heq => ?_)
        · have hne : ¬ pCnt (sHit R f e) 8 = (sPl R f e).1 := hne
          rw [if_neg (fun q => hne q.1)] at ih'
          repeat (first | refine gkn rfl rfl ?_ | refine gkm rfl rfl ?_ | refine gad rfl ?_ | refine gml rfl ?_ | refine gsb rfl (by omega) ?_ | refine gdv rfl (by omega) (by omega) (by omega) ?_ | refine grm rfl (by omega) (by omega) (by omega) ?_ | refine gic rfl rfl ?_ | refine gp rfl rfl rfl ?_ | refine gFl rfl (by rfl) ?_ | refine gAl rfl rfl (by rfl) (by omega) ?_ | refine gBl rfl rfl (by rfl) (by omega) ?_)
          first | refine gtN rfl (by omega) (by omega) (xN_ge (by omega)) ?_ | refine gtN rfl (by omega) (by omega) (xN_lt (by omega)) ?_ | refine gtN rfl (by omega) (by omega) (xN_eq (by omega)) ?_ | refine gtN rfl (by omega) (by omega) (xN_ne (by omega)) ?_ | refine gtN rfl (by omega) (by omega) (xN_gt (by omega)) ?_ | refine gtN rfl (by omega) (by omega) (xN_le (by omega)) ?_
          repeat (first | refine gkn rfl rfl ?_ | refine gkm rfl rfl ?_ | refine gad rfl ?_ | refine gml rfl ?_ | refine gsb rfl (by omega) ?_ | refine gdv rfl (by omega) (by omega) (by omega) ?_ | refine grm rfl (by omega) (by omega) (by omega) ?_ | refine gic rfl rfl ?_ | refine gp rfl rfl rfl ?_ | refine gFl rfl (by rfl) ?_ | refine gAl rfl rfl (by rfl) (by omega) ?_ | refine gBl rfl rfl (by rfl) (by omega) ?_)
          exact ih' _
        · have heq : pCnt (sHit R f e) 8 = (sPl R f e).1 := by
            by_cases z : pCnt (sHit R f e) 8 = (sPl R f e).1
            · exact z
            · exact absurd z heq
          repeat (first | refine gkn rfl rfl ?_ | refine gkm rfl rfl ?_ | refine gad rfl ?_ | refine gml rfl ?_ | refine gsb rfl (by omega) ?_ | refine gdv rfl (by omega) (by omega) (by omega) ?_ | refine grm rfl (by omega) (by omega) (by omega) ?_ | refine gic rfl rfl ?_ | refine gp rfl rfl rfl ?_ | refine gFl rfl (by rfl) ?_ | refine gAl rfl rfl (by rfl) (by omega) ?_ | refine gBl rfl rfl (by rfl) (by omega) ?_)
          by_cases hz : 0 < pCnt (sHit R f e) 8
          · rw [if_pos ⟨heq, hz⟩] at ih'
            first | refine gf0 rfl (by omega) (nN_ge (by omega)) ?_ | refine gf0 rfl (by omega) (nN_lt (by omega)) ?_ | refine gf0 rfl (by omega) (nN_eq (by omega)) ?_ | refine gf0 rfl (by omega) (nN_ne (by omega)) ?_ | refine gf0 rfl (by omega) (nN_gt (by omega)) ?_ | refine gf0 rfl (by omega) (nN_le (by omega)) ?_
            refine gp rfl rfl rfl ?_
            rw [xk_m2]
            repeat (first | refine gkn rfl rfl ?_ | refine gkm rfl rfl ?_ | refine gad rfl ?_ | refine gml rfl ?_ | refine gsb rfl (by omega) ?_ | refine gdv rfl (by omega) (by omega) (by omega) ?_ | refine grm rfl (by omega) (by omega) (by omega) ?_ | refine gic rfl rfl ?_ | refine gp rfl rfl rfl ?_ | refine gFl rfl (by rfl) ?_ | refine gAl rfl rfl (by rfl) (by omega) ?_ | refine gBl rfl rfl (by rfl) (by omega) ?_)
            first | refine gtN rfl (by omega) (by omega) (xN_ge (by omega)) ?_ | refine gtN rfl (by omega) (by omega) (xN_lt (by omega)) ?_ | refine gtN rfl (by omega) (by omega) (xN_eq (by omega)) ?_ | refine gtN rfl (by omega) (by omega) (xN_ne (by omega)) ?_ | refine gtN rfl (by omega) (by omega) (xN_gt (by omega)) ?_ | refine gtN rfl (by omega) (by omega) (xN_le (by omega)) ?_
            repeat (first | refine gkn rfl rfl ?_ | refine gkm rfl rfl ?_ | refine gad rfl ?_ | refine gml rfl ?_ | refine gsb rfl (by omega) ?_ | refine gdv rfl (by omega) (by omega) (by omega) ?_ | refine grm rfl (by omega) (by omega) (by omega) ?_ | refine gic rfl rfl ?_ | refine gp rfl rfl rfl ?_ | refine gFl rfl (by rfl) ?_ | refine gAl rfl rfl (by rfl) (by omega) ?_ | refine gBl rfl rfl (by rfl) (by omega) ?_)
            exact ih' _
          · rw [if_neg (fun q => hz q.2)] at ih'
            first | refine gt0 rfl (by omega) (xN_ge (by omega)) ?_ | refine gt0 rfl (by omega) (xN_lt (by omega)) ?_ | refine gt0 rfl (by omega) (xN_eq (by omega)) ?_ | refine gt0 rfl (by omega) (xN_ne (by omega)) ?_ | refine gt0 rfl (by omega) (xN_gt (by omega)) ?_ | refine gt0 rfl (by omega) (xN_le (by omega)) ?_
            repeat (first | refine gkn rfl rfl ?_ | refine gkm rfl rfl ?_ | refine gad rfl ?_ | refine gml rfl ?_ | refine gsb rfl (by omega) ?_ | refine gdv rfl (by omega) (by omega) (by omega) ?_ | refine grm rfl (by omega) (by omega) (by omega) ?_ | refine gic rfl rfl ?_ | refine gp rfl rfl rfl ?_ | refine gFl rfl (by rfl) ?_ | refine gAl rfl rfl (by rfl) (by omega) ?_ | refine gBl rfl rfl (by rfl) (by omega) ?_)
            first | refine gtN rfl (by omega) (by omega) (xN_ge (by omega)) ?_ | refine gtN rfl (by omega) (by omega) (xN_lt (by omega)) ?_ | refine gtN rfl (by omega) (by omega) (xN_eq (by omega)) ?_ | refine gtN rfl (by omega) (by omega) (xN_ne (by omega)) ?_ | refine gtN rfl (by omega) (by omega) (xN_gt (by omega)) ?_ | refine gtN rfl (by omega) (by omega) (xN_le (by omega)) ?_
            repeat (first | refine gkn rfl rfl ?_ | refine gkm rfl rfl ?_ | refine gad rfl ?_ | refine gml rfl ?_ | refine gsb rfl (by omega) ?_ | refine gdv rfl (by omega) (by omega) (by omega) ?_ | refine grm rfl (by omega) (by omega) (by omega) ?_ | refine gic rfl rfl ?_ | refine gp rfl rfl rfl ?_ | refine gFl rfl (by rfl) ?_ | refine gAl rfl rfl (by rfl) (by omega) ?_ | refine gBl rfl rfl (by rfl) (by omega) ?_)
            exact ih' _
      · have hgt : ¬ pCnt (sHit R f e) 8 ≤ (sPl R f e).1 := hgt
        rw [if_pos (by omega)] at ih'
        repeat (first | refine gkn rfl rfl ?_ | refine gkm rfl rfl ?_ | refine gad rfl ?_ | refine gml rfl ?_ | refine gsb rfl (by omega) ?_ | refine gdv rfl (by omega) (by omega) (by omega) ?_ | refine grm rfl (by omega) (by omega) (by omega) ?_ | refine gic rfl rfl ?_ | refine gp rfl rfl rfl ?_ | refine gFl rfl (by rfl) ?_ | refine gAl rfl rfl (by rfl) (by omega) ?_ | refine gBl rfl rfl (by rfl) (by omega) ?_)
        first | refine gfN rfl (by omega) (by omega) (nN_ge (by omega)) ?_ | refine gfN rfl (by omega) (by omega) (nN_lt (by omega)) ?_ | refine gfN rfl (by omega) (by omega) (nN_eq (by omega)) ?_ | refine gfN rfl (by omega) (by omega) (nN_ne (by omega)) ?_ | refine gfN rfl (by omega) (by omega) (nN_gt (by omega)) ?_ | refine gfN rfl (by omega) (by omega) (nN_le (by omega)) ?_
        repeat (first | refine gkn rfl rfl ?_ | refine gkm rfl rfl ?_ | refine gad rfl ?_ | refine gml rfl ?_ | refine gsb rfl (by omega) ?_ | refine gdv rfl (by omega) (by omega) (by omega) ?_ | refine grm rfl (by omega) (by omega) (by omega) ?_ | refine gic rfl rfl ?_ | refine gp rfl rfl rfl ?_ | refine gFl rfl (by rfl) ?_ | refine gAl rfl rfl (by rfl) (by omega) ?_ | refine gBl rfl rfl (by rfl) (by omega) ?_)
        exact ih' _
  have loop1 : ∀ k i, i + k = 8 → pAny (fun i => (W s (f * 8 + i)).isSome) i = false → xGo (xEx (d + 1)) xtb_113 (fun r0 σ0 => r0 = some (.inl (plI (pPlace (W s) R f))) ∧ σ0 = mU σ I A) (13, [some (.inr (some 52)), some (.inl (nI s)), some (.inl (nI f)), some (.inl (nI (8 * f + i))), none, none, none], [.inl (nI (8 * f + 8)), .inl (nI (8 * f + i))], mU σ I A) := by
    intro k
    induction k with
    | zero =>
      intro i hi hno
      obtain rfl : i = 8 := by omega
      first | refine gtN rfl (by omega) (by omega) (xN_ge (by omega)) ?_ | refine gtN rfl (by omega) (by omega) (xN_lt (by omega)) ?_ | refine gtN rfl (by omega) (by omega) (xN_eq (by omega)) ?_ | refine gtN rfl (by omega) (by omega) (xN_ne (by omega)) ?_ | refine gtN rfl (by omega) (by omega) (xN_gt (by omega)) ?_ | refine gtN rfl (by omega) (by omega) (xN_le (by omega)) ?_
      repeat (first | refine gkn rfl rfl ?_ | refine gkm rfl rfl ?_ | refine gad rfl ?_ | refine gml rfl ?_ | refine gsb rfl (by omega) ?_ | refine gdv rfl (by omega) (by omega) (by omega) ?_ | refine grm rfl (by omega) (by omega) (by omega) ?_ | refine gic rfl rfl ?_ | refine gp rfl rfl rfl ?_ | refine gFl rfl (by rfl) ?_ | refine gAl rfl rfl (by rfl) (by omega) ?_ | refine gBl rfl rfl (by rfl) (by omega) ?_)
      exact loop2 hno 8 0 none rfl
    | succ k ih =>
      intro i hi hno
      first | refine gfN rfl (by omega) (by omega) (nN_ge (by omega)) ?_ | refine gfN rfl (by omega) (by omega) (nN_lt (by omega)) ?_ | refine gfN rfl (by omega) (by omega) (nN_eq (by omega)) ?_ | refine gfN rfl (by omega) (by omega) (nN_ne (by omega)) ?_ | refine gfN rfl (by omega) (by omega) (nN_gt (by omega)) ?_ | refine gfN rfl (by omega) (by omega) (nN_le (by omega)) ?_
      repeat (first | refine gkn rfl rfl ?_ | refine gkm rfl rfl ?_ | refine gad rfl ?_ | refine gml rfl ?_ | refine gsb rfl (by omega) ?_ | refine gdv rfl (by omega) (by omega) (by omega) ?_ | refine grm rfl (by omega) (by omega) (by omega) ?_ | refine gic rfl rfl ?_ | refine gp rfl rfl rfl ?_ | refine gFl rfl (by rfl) ?_ | refine gAl rfl rfl (by rfl) (by omega) ?_ | refine gBl rfl rfl (by rfl) (by omega) ?_)
      refine gcv (As := [.inl (nI s), .inl (nI (8 * f + i))]) (rest := []) rfl (by decide) (r_has d h (by omega) (by omega)) (mU_obj _ _ _) rfl rfl (by decide) ?_
      refine gbe rfl (fun hz => ?_) (fun hz => ?_)
      · repeat (first | refine gkn rfl rfl ?_ | refine gkm rfl rfl ?_ | refine gad rfl ?_ | refine gml rfl ?_ | refine gsb rfl (by omega) ?_ | refine gdv rfl (by omega) (by omega) (by omega) ?_ | refine grm rfl (by omega) (by omega) (by omega) ?_ | refine gic rfl rfl ?_ | refine gp rfl rfl rfl ?_ | refine gFl rfl (by rfl) ?_ | refine gAl rfl rfl (by rfl) (by omega) ?_ | refine gBl rfl rfl (by rfl) (by omega) ?_)
        refine ih (i + 1) (by omega) ?_
        rw [pAny_s, hno, show f * 8 + i = 8 * f + i by omega, hz]
        rfl
      · repeat (first | refine gkn rfl rfl ?_ | refine gkm rfl rfl ?_ | refine gad rfl ?_ | refine gml rfl ?_ | refine gsb rfl (by omega) ?_ | refine gdv rfl (by omega) (by omega) (by omega) ?_ | refine grm rfl (by omega) (by omega) (by omega) ?_ | refine gic rfl rfl ?_ | refine gp rfl rfl rfl ?_ | refine gFl rfl (by rfl) ?_ | refine gAl rfl rfl (by rfl) (by omega) ?_ | refine gBl rfl rfl (by rfl) (by omega) ?_)
        refine gri rfl (fun h => absurd h (by decide)) ⟨?_, rfl⟩
        unfold pPlace
        rw [pAny_up (i := i) (show (W s (f * 8 + i)).isSome = true by rw [show f * 8 + i = 8 * f + i by omega]; exact hz) (by omega)]
        rfl
  repeat (first | refine gkn rfl rfl ?_ | refine gkm rfl rfl ?_ | refine gad rfl ?_ | refine gml rfl ?_ | refine gsb rfl (by omega) ?_ | refine gdv rfl (by omega) (by omega) (by omega) ?_ | refine grm rfl (by omega) (by omega) (by omega) ?_ | refine gic rfl rfl ?_ | refine gp rfl rfl rfl ?_ | refine gFl rfl (by rfl) ?_ | refine gAl rfl rfl (by rfl) (by omega) ?_ | refine gBl rfl rfl (by rfl) (by omega) ?_)
  exact loop1 8 0 rfl rfl
end REF
