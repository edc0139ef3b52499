/-! MODULE: the reference: versions, out, segments -/
theorem pMv_ly {T : pT} {p x : Nat} (h : p ≠ x) : pLy (pLy T x (T p)) p none = pMv T p x := by
  funext z
  unfold pLy pMv
  by_cases h1 : z = p
  · rw [if_pos h1, if_neg (by omega), if_pos h1]
  · rw [if_neg h1]
    by_cases h2 : z = x
    · rw [if_pos h2, if_pos h2]
    · rw [if_neg h2, if_neg h2, if_neg h1]
theorem vU_vU (W : Nat → pT) (i : Nat) (T T' : pT) : vU (vU W i T) i T' = vU W i T' := by
  funext k
  unfold vU
  by_cases h : k = i
  · rw [if_pos h, if_pos h]
  · rw [if_neg h, if_neg h, if_neg h]
theorem vU_same (W : Nat → pT) (i : Nat) : vU W i (W i) = W := by
  funext k
  unfold vU
  by_cases h : k = i
  · rw [if_pos h, h]
  · rw [if_neg h]
theorem vU_comm {W : Nat → pT} {i j : Nat} {T T' : pT} (h : i ≠ j) : vU (vU W i T) j T' = vU (vU W j T') i T := by
  funext k
  unfold vU
  by_cases h1 : k = j
  · rw [if_pos h1, if_neg (by omega), if_pos h1]
  · rw [if_neg h1]
    by_cases h2 : k = i
    · rw [if_pos h2, if_pos h2]
    · rw [if_neg h2, if_neg h2, if_neg h1]
theorem rRm_lt3 {t : Nat} (h : t < 3) : rRm t = 8 := by unfold rRm; rw [if_pos h]
theorem rRm_4 : rRm 4 = 8 := by decide
theorem rRm_5 {t : Nat} (h : 5 ≤ t) : rRm t = 36 := by
  unfold rRm
  rw [if_neg (by omega), if_neg (by omega), if_neg (by omega)]
theorem sVer_s (T : pT) (S : Nat → Option Nat) (n : Nat) : sVer T S (n + 1) = if (T n).isSome then (match S n with
    | some y => fun p => if p = y then T n else sVer T S n p
    | none => sVer T S n) else sVer T S n := rfl
section REF
variable {σ : xS} {I : Nat → Int32} {A : Nat → Nat → Int32} {W : Nat → pT}
theorem r_go (d : Nat) {t p x : Nat} (h : mV A W) (ht : t < 7) (hp : p < 64) (hx : x < 64) (hne : p ≠ x) : ∃ A', xEx (d + 3) 119 [.inr (some 52), .inl (nI t), .inl (nI p), .inl (nI x)] (mU σ I A) none (mU σ I A') ∧ mV A' (vU W t (pMv (W t) p x)) ∧ aF A A' := by
  obtain ⟨-, -, g3, -, -⟩ := h t p ht hp
  obtain ⟨A1, y1, y2, y3⟩ := r_copyFile (σ := σ) (I := I) d h ht hp ht hx g3
  obtain ⟨A2, z1, z2, z3⟩ := r_erase (σ := σ) (I := I) (d + 1) y2 ht hp
  refine ⟨A2, ⟨by decide, rfl, ?_⟩, ?_, y3.trans z3⟩
  · show xGo (xEx (d + 2)) xtb_119 _ (0, [some (.inr (some 52)), some (.inl (nI t)), some (.inl (nI p)), some (.inl (nI x))], [], mU σ I A)
    repeat (first | refine gkn rfl rfl ?_ | refine gkm rfl rfl ?_ | refine gad rfl ?_ | refine gml rfl ?_ | refine gsb rfl (by omega) ?_ | refine gdv rfl (by omega) (by omega) (by omega) ?_ | refine grm rfl (by omega) (by omega) (by omega) ?_ | refine gic rfl rfl ?_ | refine gp rfl rfl rfl ?_ | refine gFl rfl (by rfl) ?_ | refine gAl rfl rfl (by rfl) (by omega) ?_ | refine gBl rfl rfl (by rfl) (by omega) ?_)
    refine gcv (As := [.inl (nI t), .inl (nI p), .inl (nI t), .inl (nI x)]) (rest := []) rfl (by decide) y1 (mU_obj _ _ _) rfl rfl (by decide) ?_
    repeat (first | refine gkn rfl rfl ?_ | refine gkm rfl rfl ?_ | refine gad rfl ?_ | refine gml rfl ?_ | refine gsb rfl (by omega) ?_ | refine gdv rfl (by omega) (by omega) (by omega) ?_ | refine grm rfl (by omega) (by omega) (by omega) ?_ | refine gic rfl rfl ?_ | refine gp rfl rfl rfl ?_ | refine gFl rfl (by rfl) ?_ | refine gAl rfl rfl (by rfl) (by omega) ?_ | refine gBl rfl rfl (by rfl) (by omega) ?_)
    refine gcv (As := [.inl (nI t), .inl (nI p)]) (rest := []) rfl (by decide) z1 (mU_obj _ _ _) rfl rfl (by decide) ?_
    exact grv rfl ⟨rfl, rfl⟩
  · rw [vU_vU, vU_eq, pMv_ly hne] at z2
    exact z2
/-- the versions as they begin -/
def vBeg (W : Nat → pT) (S1 S2 : Nat → Option Nat) : Nat → pT := vU (vU (vU W 4 (W 0)) 5 (sVer (W 1) S1 64)) 6 (sVer (W 2) S2 64)
theorem r_versions (d : Nat) {S : Nat → Nat → Option Nat} (h : mV A W) (hS : ∀ t x, (t = 1 ∨ t = 2) → x < 64 → A 58 (64 * (t - 1) + x) = oI (S t x)) (hS2 : ∀ t x, (t = 1 ∨ t = 2) → x < 64 → (W t x).isSome = true → ∃ y, y < 64 ∧ S t x = some y) : ∃ A', xEx (d + 3) 117 [.inr (some 52)] (mU σ I A) none (mU σ I A') ∧ mV A' (vBeg W (S 1) (S 2)) ∧ aF A A' := by
  let K : Option xV → xS → Prop := fun r0 σ0 => r0 = none ∧ ∃ A', σ0 = mU σ I A' ∧ mV A' (vBeg W (S 1) (S 2)) ∧ aF A A'
  have inner : ∀ t (Y : Nat → pT), (t = 1 ∨ t = 2) → (∀ k, k < 3 → Y k = W k) → (∀ (B : Nat → Nat → Int32), mV B (vU Y (4 + t) (sVer (W t) (S t) 64)) → aF A B → xGo (xEx (d + 2)) xtb_117 K (87, [some (.inr (some 52)), some (.inl (nI t)), some (.inl (nI 64))], [], mU σ I B)) → ∀ k x (B : Nat → Nat → Int32), x + k = 64 → mV B (vU Y (4 + t) (sVer (W t) (S t) x)) → aF A B → xGo (xEx (d + 2)) xtb_117 K (47, [some (.inr (some 52)), some (.inl (nI t)), some (.inl (nI x))], [.inl (nI 64), .inl (nI x)], mU σ I B) := by
    intro t Y ht hY hend k
    induction k with
    | zero =>
      intro x B hx hB hF
      obtain rfl : x = 64 := by omega
      first | refine gtN rfl (by omega) (by omega) (xN_ge (by omega)) ?_ | refine gtN rfl (by omega) (by omega) (xN_lt (by omega)) ?_ | refine gtN rfl (by omega) (by omega) (xN_eq (by omega)) ?_ | refine gtN rfl (by omega) (by omega) (xN_ne (by omega)) ?_ | refine gtN rfl (by omega) (by omega) (xN_gt (by omega)) ?_ | refine gtN rfl (by omega) (by omega) (xN_le (by omega)) ?_
      exact hend B hB hF
    | succ k ih =>
      intro x B hx hB hF
      have eW : vU Y (4 + t) (sVer (W t) (S t) x) t = W t := by rw [vU_ne (by omega), hY t (by omega)]
      have hh := r_has (σ := σ) (I := I) (d + 1) (t := t) (p := x) hB (by omega) (by omega)
      rw [eW] at hh
      have ih' := ih (x + 1)
      rw [sVer_s (W t) (S t) x] at ih'
      first | refine gfN rfl (by omega) (by omega) (nN_ge (by omega)) ?_ | refine gfN rfl (by omega) (by omega) (nN_lt (by omega)) ?_ | refine gfN rfl (by omega) (by omega) (nN_eq (by omega)) ?_ | refine gfN rfl (by omega) (by omega) (nN_ne (by omega)) ?_ | refine gfN rfl (by omega) (by omega) (nN_gt (by omega)) ?_ | refine gfN rfl (by omega) (by omega) (nN_le (by omega)) ?_
      repeat (first | refine gkn rfl rfl ?_ | refine gkm rfl rfl ?_ | refine gad rfl ?_ | refine gml rfl ?_ | refine gsb rfl (by omega) ?_ | refine gdv rfl (by omega) (by omega) (by omega) ?_ | refine grm rfl (by omega) (by omega) (by omega) ?_ | refine gic rfl rfl ?_ | refine gp rfl rfl rfl ?_ | refine gFl rfl (by rfl) ?_ | refine gAl rfl rfl (by rfl) (by omega) ?_ | refine gBl rfl rfl (by rfl) (by omega) ?_)
      refine gcv (As := [.inl (nI t), .inl (nI x)]) (rest := []) rfl (by decide) hh (mU_obj _ _ _) rfl rfl (by decide) ?_
      refine gbe rfl (fun hz => ?_) (fun hz => ?_)
      · rw [hz] at ih'
        repeat (first | refine gkn rfl rfl ?_ | refine gkm rfl rfl ?_ | refine gad rfl ?_ | refine gml rfl ?_ | refine gsb rfl (by omega) ?_ | refine gdv rfl (by omega) (by omega) (by omega) ?_ | refine grm rfl (by omega) (by omega) (by omega) ?_ | refine gic rfl rfl ?_ | refine gp rfl rfl rfl ?_ | refine gFl rfl (by rfl) ?_ | refine gAl rfl rfl (by rfl) (by omega) ?_ | refine gBl rfl rfl (by rfl) (by omega) ?_)
        exact ih' B (by omega) hB hF
      · obtain ⟨y, hy, e⟩ := hS2 t x ht (by omega) hz
        rw [hz, e] at ih'
        have e58 : B 58 (64 * (t - 1) + x) = nI y := by rw [hF 58 (by decide), hS t x ht (by omega), e]; rfl
        have hl : (pLn (vU Y (4 + t) (sVer (W t) (S t) x) t x)).length ≤ rRm (4 + t) := by
          have := (hB t x (by omega) (by omega)).2.2.1
          rw [rRm_lt3 (by omega)] at this
          rw [rRm_5 (by omega)]
          omega
        obtain ⟨B1, y1, y2, y3⟩ := r_copyFile (σ := σ) (I := I) d hB (show t < 7 by omega) (show x < 64 by omega) (show 4 + t < 7 by omega) hy hl
        rw [vU_eq, vU_vU, eW] at y2
        repeat (first | refine gkn rfl rfl ?_ | refine gkm rfl rfl ?_ | refine gad rfl ?_ | refine gml rfl ?_ | refine gsb rfl (by omega) ?_ | refine gdv rfl (by omega) (by omega) (by omega) ?_ | refine grm rfl (by omega) (by omega) (by omega) ?_ | refine gic rfl rfl ?_ | refine gp rfl rfl rfl ?_ | refine gFl rfl (by rfl) ?_ | refine gAl rfl rfl (by rfl) (by omega) ?_ | refine gBl rfl rfl (by rfl) (by omega) ?_)
        rw [e58]
        refine gcv (As := [.inl (nI t), .inl (nI x), .inl (nI (4 + t)), .inl (nI y)]) (rest := []) rfl (by decide) y1 (mU_obj _ _ _) rfl rfl (by decide) ?_
        repeat (first | refine gkn rfl rfl ?_ | refine gkm rfl rfl ?_ | refine gad rfl ?_ | refine gml rfl ?_ | refine gsb rfl (by omega) ?_ | refine gdv rfl (by omega) (by omega) (by omega) ?_ | refine grm rfl (by omega) (by omega) (by omega) ?_ | refine gic rfl rfl ?_ | refine gp rfl rfl rfl ?_ | refine gFl rfl (by rfl) ?_ | refine gAl rfl rfl (by rfl) (by omega) ?_ | refine gBl rfl rfl (by rfl) (by omega) ?_)
        exact ih' B1 (by omega) y2 (hF.trans y3)
  let Y4 : Nat → Nat → pT := fun n => vU (vU (vU W 4 (fun p => if p < n then W 0 p else W 4 p)) 5 (fun p => if p < n then none else W 5 p)) 6 (fun p => if p < n then none else W 6 p)
  have loop1 : ∀ k n (B : Nat → Nat → Int32), n + k = 64 → mV B (Y4 n) → aF A B → xGo (xEx (d + 2)) xtb_117 K (5, [some (.inr (some 52)), some (.inl (nI n)), none], [.inl (nI 64), .inl (nI n)], mU σ I B) := by
    intro k
    induction k with
    | zero =>
      intro n B hn hB hF
      obtain rfl : n = 64 := by omega
      first | refine gtN rfl (by omega) (by omega) (xN_ge (by omega)) ?_ | refine gtN rfl (by omega) (by omega) (xN_lt (by omega)) ?_ | refine gtN rfl (by omega) (by omega) (xN_eq (by omega)) ?_ | refine gtN rfl (by omega) (by omega) (xN_ne (by omega)) ?_ | refine gtN rfl (by omega) (by omega) (xN_gt (by omega)) ?_ | refine gtN rfl (by omega) (by omega) (xN_le (by omega)) ?_
      repeat (first | refine gkn rfl rfl ?_ | refine gkm rfl rfl ?_ | refine gad rfl ?_ | refine gml rfl ?_ | refine gsb rfl (by omega) ?_ | refine gdv rfl (by omega) (by omega) (by omega) ?_ | refine grm rfl (by omega) (by omega) (by omega) ?_ | refine gic rfl rfl ?_ | refine gp rfl rfl rfl ?_ | refine gFl rfl (by rfl) ?_ | refine gAl rfl rfl (by rfl) (by omega) ?_ | refine gBl rfl rfl (by rfl) (by omega) ?_)
      first | refine gfN rfl (by omega) (by omega) (nN_ge (by omega)) ?_ | refine gfN rfl (by omega) (by omega) (nN_lt (by omega)) ?_ | refine gfN rfl (by omega) (by omega) (nN_eq (by omega)) ?_ | refine gfN rfl (by omega) (by omega) (nN_ne (by omega)) ?_ | refine gfN rfl (by omega) (by omega) (nN_gt (by omega)) ?_ | refine gfN rfl (by omega) (by omega) (nN_le (by omega)) ?_
      repeat (first | refine gkn rfl rfl ?_ | refine gkm rfl rfl ?_ | refine gad rfl ?_ | refine gml rfl ?_ | refine gsb rfl (by omega) ?_ | refine gdv rfl (by omega) (by omega) (by omega) ?_ | refine grm rfl (by omega) (by omega) (by omega) ?_ | refine gic rfl rfl ?_ | refine gp rfl rfl rfl ?_ | refine gFl rfl (by rfl) ?_ | refine gAl rfl rfl (by rfl) (by omega) ?_ | refine gBl rfl rfl (by rfl) (by omega) ?_)
      have hB1 : mV B (vU (vU (vU W 4 (W 0)) 6 (fun _ => none)) (4 + 1) (sVer (W 1) (S 1) 0)) := hB.congr (fun t p ht hp => by
        show vU (vU (vU W 4 (W 0)) 6 (fun _ => none)) 5 (fun _ => none) t p = vU (vU (vU W 4 (fun p => if p < 64 then W 0 p else W 4 p)) 5 (fun p => if p < 64 then none else W 5 p)) 6 (fun p => if p < 64 then none else W 6 p) t p
        rw [vU_comm (i := 6) (j := 5) (by decide)]
        unfold vU
        by_cases h6 : t = 6
        · rw [if_pos h6, if_pos h6, if_pos hp]
        · rw [if_neg h6, if_neg h6]
          by_cases h5 : t = 5
          · rw [if_pos h5, if_pos h5, if_pos hp]
          · rw [if_neg h5, if_neg h5]
            by_cases h4 : t = 4
            · rw [if_pos h4, if_pos h4, if_pos hp]
            · rw [if_neg h4, if_neg h4])
      refine inner 1 _ (Or.inl rfl) (fun k hk => by rw [vU_ne (by omega), vU_ne (by omega)]) (fun B2 hB2 hF2 => ?_) 64 0 B rfl hB1 hF
      repeat (first | refine gkn rfl rfl ?_ | refine gkm rfl rfl ?_ | refine gad rfl ?_ | refine gml rfl ?_ | refine gsb rfl (by omega) ?_ | refine gdv rfl (by omega) (by omega) (by omega) ?_ | refine grm rfl (by omega) (by omega) (by omega) ?_ | refine gic rfl rfl ?_ | refine gp rfl rfl rfl ?_ | refine gFl rfl (by rfl) ?_ | refine gAl rfl rfl (by rfl) (by omega) ?_ | refine gBl rfl rfl (by rfl) (by omega) ?_)
      first | refine gfN rfl (by omega) (by omega) (nN_ge (by omega)) ?_ | refine gfN rfl (by omega) (by omega) (nN_lt (by omega)) ?_ | refine gfN rfl (by omega) (by omega) (nN_eq (by omega)) ?_ | refine gfN rfl (by omega) (by omega) (nN_ne (by omega)) ?_ | refine gfN rfl (by omega) (by omega) (nN_gt (by omega)) ?_ | refine gfN rfl (by omega) (by omega) (nN_le (by omega)) ?_
      repeat (first | refine gkn rfl rfl ?_ | refine gkm rfl rfl ?_ | refine gad rfl ?_ | refine gml rfl ?_ | refine gsb rfl (by omega) ?_ | refine gdv rfl (by omega) (by omega) (by omega) ?_ | refine grm rfl (by omega) (by omega) (by omega) ?_ | refine gic rfl rfl ?_ | refine gp rfl rfl rfl ?_ | refine gFl rfl (by rfl) ?_ | refine gAl rfl rfl (by rfl) (by omega) ?_ | refine gBl rfl rfl (by rfl) (by omega) ?_)
      have hB3 : mV B2 (vU (vU (vU W 4 (W 0)) 5 (sVer (W 1) (S 1) 64)) (4 + 2) (sVer (W 2) (S 2) 0)) := by
        rw [show 4 + 2 = 6 from rfl, ← vU_comm (i := 6) (j := 5) (by decide)]
        exact hB2
      refine inner 2 _ (Or.inr rfl) (fun k hk => by rw [vU_ne (by omega), vU_ne (by omega)]) (fun B4 hB4 hF4 => ?_) 64 0 B2 rfl hB3 hF2
      repeat (first | refine gkn rfl rfl ?_ | refine gkm rfl rfl ?_ | refine gad rfl ?_ | refine gml rfl ?_ | refine gsb rfl (by omega) ?_ | refine gdv rfl (by omega) (by omega) (by omega) ?_ | refine grm rfl (by omega) (by omega) (by omega) ?_ | refine gic rfl rfl ?_ | refine gp rfl rfl rfl ?_ | refine gFl rfl (by rfl) ?_ | refine gAl rfl rfl (by rfl) (by omega) ?_ | refine gBl rfl rfl (by rfl) (by omega) ?_)
      first | refine gtN rfl (by omega) (by omega) (xN_ge (by omega)) ?_ | refine gtN rfl (by omega) (by omega) (xN_lt (by omega)) ?_ | refine gtN rfl (by omega) (by omega) (xN_eq (by omega)) ?_ | refine gtN rfl (by omega) (by omega) (xN_ne (by omega)) ?_ | refine gtN rfl (by omega) (by omega) (xN_gt (by omega)) ?_ | refine gtN rfl (by omega) (by omega) (xN_le (by omega)) ?_
      exact grv rfl ⟨rfl, B4, rfl, hB4, hF4⟩
    | succ k ih =>
      intro n B hn hB hF
      have hn64 : n < 64 := by omega
      first | refine gfN rfl (by omega) (by omega) (nN_ge (by omega)) ?_ | refine gfN rfl (by omega) (by omega) (nN_lt (by omega)) ?_ | refine gfN rfl (by omega) (by omega) (nN_eq (by omega)) ?_ | refine gfN rfl (by omega) (by omega) (nN_ne (by omega)) ?_ | refine gfN rfl (by omega) (by omega) (nN_gt (by omega)) ?_ | refine gfN rfl (by omega) (by omega) (nN_le (by omega)) ?_
      repeat (first | refine gkn rfl rfl ?_ | refine gkm rfl rfl ?_ | refine gad rfl ?_ | refine gml rfl ?_ | refine gsb rfl (by omega) ?_ | refine gdv rfl (by omega) (by omega) (by omega) ?_ | refine grm rfl (by omega) (by omega) (by omega) ?_ | refine gic rfl rfl ?_ | refine gp rfl rfl rfl ?_ | refine gFl rfl (by rfl) ?_ | refine gAl rfl rfl (by rfl) (by omega) ?_ | refine gBl rfl rfl (by rfl) (by omega) ?_)
      obtain ⟨B1, y1, y2, y3⟩ := r_erase (σ := σ) (I := I) (d + 1) (t := 5) (p := n) hB (by decide) hn64
      refine gcv (As := [.inl (nI 5), .inl (nI n)]) (rest := []) rfl (by decide) y1 (mU_obj _ _ _) rfl rfl (by decide) ?_
      repeat (first | refine gkn rfl rfl ?_ | refine gkm rfl rfl ?_ | refine gad rfl ?_ | refine gml rfl ?_ | refine gsb rfl (by omega) ?_ | refine gdv rfl (by omega) (by omega) (by omega) ?_ | refine grm rfl (by omega) (by omega) (by omega) ?_ | refine gic rfl rfl ?_ | refine gp rfl rfl rfl ?_ | refine gFl rfl (by rfl) ?_ | refine gAl rfl rfl (by rfl) (by omega) ?_ | refine gBl rfl rfl (by rfl) (by omega) ?_)
      obtain ⟨B2, z1, z2, z3⟩ := r_erase (σ := σ) (I := I) (d + 1) (t := 6) (p := n) y2 (by decide) hn64
      refine gcv (As := [.inl (nI 6), .inl (nI n)]) (rest := []) rfl (by decide) z1 (mU_obj _ _ _) rfl rfl (by decide) ?_
      repeat (first | refine gkn rfl rfl ?_ | refine gkm rfl rfl ?_ | refine gad rfl ?_ | refine gml rfl ?_ | refine gsb rfl (by omega) ?_ | refine gdv rfl (by omega) (by omega) (by omega) ?_ | refine grm rfl (by omega) (by omega) (by omega) ?_ | refine gic rfl rfl ?_ | refine gp rfl rfl rfl ?_ | refine gFl rfl (by rfl) ?_ | refine gAl rfl rfl (by rfl) (by omega) ?_ | refine gBl rfl rfl (by rfl) (by omega) ?_)
      have hl : (pLn (vU (vU (Y4 n) 5 (pLy (Y4 n 5) n none)) 6 (pLy (vU (Y4 n) 5 (pLy (Y4 n 5) n none) 6) n none) 0 n)).length ≤ rRm 4 := by
        have := (z2 0 n (by decide) hn64).2.2.1
        rw [rRm_lt3 (by decide)] at this
        rw [rRm_4]
        exact this
      obtain ⟨B3, w1, w2, w3⟩ := r_copyFile (σ := σ) (I := I) d z2 (show 0 < 7 by decide) hn64 (show 4 < 7 by decide) hn64 hl
      refine gcv (As := [.inl (nI 0), .inl (nI n), .inl (nI 4), .inl (nI n)]) (rest := []) rfl (by decide) w1 (mU_obj _ _ _) rfl rfl (by decide) ?_
      repeat (first | refine gkn rfl rfl ?_ | refine gkm rfl rfl ?_ | refine gad rfl ?_ | refine gml rfl ?_ | refine gsb rfl (by omega) ?_ | refine gdv rfl (by omega) (by omega) (by omega) ?_ | refine grm rfl (by omega) (by omega) (by omega) ?_ | refine gic rfl rfl ?_ | refine gp rfl rfl rfl ?_ | refine gFl rfl (by rfl) ?_ | refine gAl rfl rfl (by rfl) (by omega) ?_ | refine gBl rfl rfl (by rfl) (by omega) ?_)
      refine ih (n + 1) B3 (by omega) (w2.congr (fun t p ht hp => ?_)) (((hF.trans y3).trans z3).trans w3)
      show vU (vU (vU W 4 (fun p => if p < n + 1 then W 0 p else W 4 p)) 5 (fun p => if p < n + 1 then none else W 5 p)) 6 (fun p => if p < n + 1 then none else W 6 p) t p = _
      unfold pLy vU
      by_cases h4 : t = 4
      · subst h4
        by_cases hpn : p = n
        · subst hpn; simp [Y4, vU]
        · simp [Y4, vU, hpn]
          by_cases hlt : p < n
          · rw [if_pos hlt, if_pos (by omega)]
          · rw [if_neg hlt, if_neg (by omega)]
      · by_cases h5 : t = 5
        · subst h5
          by_cases hpn : p = n
          · subst hpn; simp [Y4, vU]
          · simp [Y4, vU, hpn]
            by_cases hlt : p < n
            · rw [if_pos hlt, if_pos (by omega)]
            · rw [if_neg hlt, if_neg (by omega)]
        · by_cases h6 : t = 6
          · subst h6
            by_cases hpn : p = n
            · subst hpn; simp [Y4, vU]
            · simp [Y4, vU, hpn]
              by_cases hlt : p < n
              · rw [if_pos hlt, if_pos (by omega)]
              · rw [if_neg hlt, if_neg (by omega)]
          · simp [Y4, vU, h4, h5, h6]
  have main : xGo (xEx (d + 2)) xtb_117 K (0, [some (.inr (some 52)), none, none], [], mU σ I A) := by
    repeat (first | refine gkn rfl rfl ?_ | refine gkm rfl rfl ?_ | refine gad rfl ?_ | refine gml rfl ?_ | refine gsb rfl (by omega) ?_ | refine gdv rfl (by omega) (by omega) (by omega) ?_ | refine grm rfl (by omega) (by omega) (by omega) ?_ | refine gic rfl rfl ?_ | refine gp rfl rfl rfl ?_ | refine gFl rfl (by rfl) ?_ | refine gAl rfl rfl (by rfl) (by omega) ?_ | refine gBl rfl rfl (by rfl) (by omega) ?_)
    refine loop1 64 0 A rfl (h.congr (fun t p ht hp => ?_)) (aF.refl _)
    show vU (vU (vU W 4 (fun p => if p < 0 then W 0 p else W 4 p)) 5 (fun p => if p < 0 then none else W 5 p)) 6 (fun p => if p < 0 then none else W 6 p) t p = _
    unfold vU
    by_cases h6 : t = 6
    · rw [if_pos h6, if_neg (by omega), h6]
    · rw [if_neg h6]
      by_cases h5 : t = 5
      · rw [if_pos h5, if_neg (by omega), h5]
      · rw [if_neg h5]
        by_cases h4 : t = 4
        · rw [if_pos h4, if_neg (by omega), h4]
        · rw [if_neg h4]
  obtain ⟨r, σ', hex, rfl, A', rfl, g⟩ := ex_of (d := d + 2) (y := 117) (as := [.inr (some 52)]) (σ := mU σ I A) (K := K) (by decide) rfl main
  exact ⟨A', hex, g⟩
/-- what is written out so far -/
def mO (I : Nat → Int32) (A : Nat → Nat → Int32) (w : List Int32) : Prop := I 12 = nI w.length ∧ w.length ≤ 76 ∧ ∀ j, j < w.length → A 61 j = w.getD j 0
theorem ok_b {k : Nat} (h1 : 1 ≤ k) (h2 : k ≤ 19) : (nI k).toInt8.toInt32 = nI k ∧ xnar 1 (nI k) = nI k := by
  have e : k = 1 ∨ k = 2 ∨ k = 3 ∨ k = 4 ∨ k = 5 ∨ k = 6 ∨ k = 7 ∨ k = 8 ∨ k = 9 ∨ k = 10 ∨ k = 11 ∨ k = 12 ∨ k = 13 ∨ k = 14 ∨ k = 15 ∨ k = 16 ∨ k = 17 ∨ k = 18 ∨ k = 19 := by omega
  rcases e with rfl | rfl | rfl | rfl | rfl | rfl | rfl | rfl | rfl | rfl | rfl | rfl | rfl | rfl | rfl | rfl | rfl | rfl | rfl <;> decide
theorem r_write (d : Nat) {w : List Int32} {k : Nat} (h : mO I A w) (h1 : 1 ≤ k) (h2 : k ≤ 19) (hw : w.length < 76) : ∃ I' A', xEx (d + 1) 123 [.inr (some 52), .inl (nI k)] (mU σ I A) none (mU σ I' A') ∧ mO I' A' (w ++ [nI k]) ∧ (∀ j, j ≠ 12 → I' j = I j) ∧ (∀ j, j ≠ 61 → A' j = A j) := by
  obtain ⟨g1, g2, g3⟩ := h
  obtain ⟨b1, b2⟩ := ok_b h1 h2
  refine ⟨upd I 12 (nI (w.length + 1)), aU A 61 (upd (A 61) w.length (nI k)), ⟨by decide, rfl, ?_⟩, ⟨?_, ?_, fun j hj => ?_⟩, fun j hj => upd_ne hj, fun j hj => aU_ne hj⟩
  · show xGo (xEx d) xtb_123 _ (0, [some (.inr (some 52)), some (.inl (nI k))], [], mU σ I A)
    repeat (first | refine gkn rfl rfl ?_ | refine gkm rfl rfl ?_ | refine gad rfl ?_ | refine gml rfl ?_ | refine gsb rfl (by omega) ?_ | refine gdv rfl (by omega) (by omega) (by omega) ?_ | refine grm rfl (by omega) (by omega) (by omega) ?_ | refine gic rfl rfl ?_ | refine gp rfl rfl rfl ?_ | refine gFl rfl (by rfl) ?_ | refine gAl rfl rfl (by rfl) (by omega) ?_ | refine gBl rfl rfl (by rfl) (by omega) ?_)
    rw [g1, b1]
    refine gBs rfl rfl rfl (by omega) b2 ?_
    repeat (first | refine gkn rfl rfl ?_ | refine gkm rfl rfl ?_ | refine gad rfl ?_ | refine gml rfl ?_ | refine gsb rfl (by omega) ?_ | refine gdv rfl (by omega) (by omega) (by omega) ?_ | refine grm rfl (by omega) (by omega) (by omega) ?_ | refine gic rfl rfl ?_ | refine gp rfl rfl rfl ?_ | refine gFl rfl (by rfl) ?_ | refine gAl rfl rfl (by rfl) (by omega) ?_ | refine gBl rfl rfl (by rfl) (by omega) ?_)
    rw [g1, nI_add]
    refine gFs rfl (by decide) (Or.inl rfl) ?_
    exact grv rfl ⟨rfl, rfl⟩
  · rw [upd_eq, List.length_append]; rfl
  · rw [List.length_append]; exact hw
  · rw [aU_eq]
    by_cases e : j = w.length
    · rw [e, upd_eq, getD_app']
    · rw [List.length_append] at hj
      have hj2 : j < w.length := by
        simp at hj
        omega
      rw [upd_ne e, getD_app hj2]
      exact g3 j hj2
/-- the lines of l lie from x on -/
def sg (A : Nat → Nat → Int32) (x : Nat) (l : List Int32) : Prop := x + l.length ≤ 11520 ∧ pOK l ∧ ∀ j, j < l.length → A 55 (x + j) = l.getD j 0
theorem sg.of {A A' : Nat → Nat → Int32} {x : Nat} {l : List Int32} (h : sg A x l) (e : A' 55 = A 55) : sg A' x l := ⟨h.1, h.2.1, fun j hj => by rw [e]; exact h.2.2 j hj⟩
theorem take_s {l : List Int32} {i : Nat} (h : i < l.length) : l.take (i + 1) = l.take i ++ [l.getD i 0] := by
  rw [List.take_succ, List.getD_eq_getElem?_getD, List.getElem?_eq_getElem h]
  rfl
theorem r_writeAll (d : Nat) {w l : List Int32} {x : Nat} (h : mO I A w) (hl : sg A x l) (hw : w.length + l.length ≤ 76) : ∃ I' A', xEx (d + 2) 130 [.inr (some 52), .inl (nI x), .inl (nI (x + l.length))] (mU σ I A) none (mU σ I' A') ∧ mO I' A' (w ++ l) ∧ (∀ j, j ≠ 12 → I' j = I j) ∧ (∀ j, j ≠ 61 → A' j = A j) := by
  obtain ⟨s1, s2, s3⟩ := hl
  let K : Option xV → xS → Prop := fun r0 σ0 => r0 = none ∧ ∃ I' A', σ0 = mU σ I' A' ∧ mO I' A' (w ++ l) ∧ (∀ j, j ≠ 12 → I' j = I j) ∧ (∀ j, j ≠ 61 → A' j = A j)
  have loop : ∀ k i (I1 : Nat → Int32) (A1 : Nat → Nat → Int32), i + k = l.length → mO I1 A1 (w ++ l.take i) → (∀ j, j ≠ 12 → I1 j = I j) → (∀ j, j ≠ 61 → A1 j = A j) → xGo (xEx (d + 1)) xtb_130 K (4, [some (.inr (some 52)), some (.inl (nI x)), some (.inl (nI (x + l.length))), some (.inl (nI (x + i)))], [.inl (nI (x + l.length)), .inl (nI (x + i))], mU σ I1 A1) := by
    intro k
    induction k with
    | zero =>
      intro i I1 A1 hi hO hI hA
      obtain rfl : i = l.length := by omega
      rw [List.take_length] at hO
      first | refine gtN rfl (by omega) (by omega) (xN_ge (by omega)) ?_ | refine gtN rfl (by omega) (by omega) (xN_lt (by omega)) ?_ | refine gtN rfl (by omega) (by omega) (xN_eq (by omega)) ?_ | refine gtN rfl (by omega) (by omega) (xN_ne (by omega)) ?_ | refine gtN rfl (by omega) (by omega) (xN_gt (by omega)) ?_ | refine gtN rfl (by omega) (by omega) (xN_le (by omega)) ?_
      exact grv rfl ⟨rfl, I1, A1, rfl, hO, hI, hA⟩
    | succ k ih =>
      intro i I1 A1 hi hO hI hA
      obtain ⟨v, v1, v2, v3⟩ := s2 i (by omega)
      first | refine gfN rfl (by omega) (by omega) (nN_ge (by omega)) ?_ | refine gfN rfl (by omega) (by omega) (nN_lt (by omega)) ?_ | refine gfN rfl (by omega) (by omega) (nN_eq (by omega)) ?_ | refine gfN rfl (by omega) (by omega) (nN_ne (by omega)) ?_ | refine gfN rfl (by omega) (by omega) (nN_gt (by omega)) ?_ | refine gfN rfl (by omega) (by omega) (nN_le (by omega)) ?_
      repeat (first | refine gkn rfl rfl ?_ | refine gkm rfl rfl ?_ | refine gad rfl ?_ | refine gml rfl ?_ | refine gsb rfl (by omega) ?_ | refine gdv rfl (by omega) (by omega) (by omega) ?_ | refine grm rfl (by omega) (by omega) (by omega) ?_ | refine gic rfl rfl ?_ | refine gp rfl rfl rfl ?_ | refine gFl rfl (by rfl) ?_ | refine gAl rfl rfl (by rfl) (by omega) ?_ | refine gBl rfl rfl (by rfl) (by omega) ?_)
      rw [hA 55 (by decide), s3 i (by omega), v3]
      obtain ⟨I2, A2, y1, y2, y3, y4⟩ := r_write (σ := σ) d hO v1 v2 (by rw [List.length_append, List.length_take]; omega)
      refine gcv (As := [.inl (nI v)]) (rest := []) rfl (by decide) y1 (mU_obj _ _ _) rfl rfl (by decide) ?_
      repeat (first | refine gkn rfl rfl ?_ | refine gkm rfl rfl ?_ | refine gad rfl ?_ | refine gml rfl ?_ | refine gsb rfl (by omega) ?_ | refine gdv rfl (by omega) (by omega) (by omega) ?_ | refine grm rfl (by omega) (by omega) (by omega) ?_ | refine gic rfl rfl ?_ | refine gp rfl rfl rfl ?_ | refine gFl rfl (by rfl) ?_ | refine gAl rfl rfl (by rfl) (by omega) ?_ | refine gBl rfl rfl (by rfl) (by omega) ?_)
      refine ih (i + 1) I2 A2 (by omega) ?_ (fun j hj => (y3 j hj).trans (hI j hj)) (fun j hj => (y4 j hj).trans (hA j hj))
      rw [take_s (by omega), ← List.append_assoc, v3]
      exact y2
  have main : xGo (xEx (d + 1)) xtb_130 K (0, [some (.inr (some 52)), some (.inl (nI x)), some (.inl (nI (x + l.length))), none], [], mU σ I A) := by
    repeat (first | refine gkn rfl rfl ?_ | refine gkm rfl rfl ?_ | refine gad rfl ?_ | refine gml rfl ?_ | refine gsb rfl (by omega) ?_ | refine gdv rfl (by omega) (by omega) (by omega) ?_ | refine grm rfl (by omega) (by omega) (by omega) ?_ | refine gic rfl rfl ?_ | refine gp rfl rfl rfl ?_ | refine gFl rfl (by rfl) ?_ | refine gAl rfl rfl (by rfl) (by omega) ?_ | refine gBl rfl rfl (by rfl) (by omega) ?_)
    exact loop l.length 0 I A (Nat.zero_add _) (by rw [List.take_zero, List.append_nil]; exact h) (fun _ _ => rfl) (fun _ _ => rfl)
  obtain ⟨r, σ', hex, rfl, I', A', rfl, g⟩ := ex_of (d := d + 1) (y := 130) (as := [.inr (some 52), .inl (nI x), .inl (nI (x + l.length))]) (σ := mU σ I A) (K := K) (by decide) rfl main
  exact ⟨I', A', hex, g⟩
theorem r_same (d : Nat) {l m : List Int32} {x y : Nat} (hl : sg A x l) (hm : sg A y m) : xEx (d + 1) 129 [.inr (some 52), .inl (nI x), .inl (nI (x + l.length)), .inl (nI y), .inl (nI (y + m.length))] (mU σ I A) (some (.inl (bI (decide (l = m))))) (mU σ I A) := by
  obtain ⟨s1, -, s3⟩ := hl
  obtain ⟨t1, -, t3⟩ := hm
  refine ⟨by decide, rfl, ?_⟩
  show xGo (xEx d) xtb_129 _ (0, [some (.inr (some 52)), some (.inl (nI x)), some (.inl (nI (x + l.length))), some (.inl (nI y)), some (.inl (nI (y + m.length))), none, none], [], mU σ I A)
  have loop : l.length = m.length → ∀ k i, i + k = l.length → (∀ j, j < i → l.getD j 0 = m.getD j 0) → xGo (xEx d) xtb_129 (fun r0 σ0 => r0 = some (.inl (bI (decide (l = m)))) ∧ σ0 = mU σ I A) (22, [some (.inr (some 52)), some (.inl (nI x)), some (.inl (nI (x + l.length))), some (.inl (nI y)), some (.inl (nI (y + m.length))), some (.inl (bI true)), some (.inl (nI i))], [.inl (bI true)], mU σ I A) := by
    intro el k
    induction k with
    | zero =>
      intro i hi hall
      refine gbe rfl (fun z => by cases z) (fun _ => ?_)
      repeat (first | refine gkn rfl rfl ?_ | refine gkm rfl rfl ?_ | refine gad rfl ?_ | refine gml rfl ?_ | refine gsb rfl (by omega) ?_ | refine gdv rfl (by omega) (by omega) (by omega) ?_ | refine grm rfl (by omega) (by omega) (by omega) ?_ | refine gic rfl rfl ?_ | refine gp rfl rfl rfl ?_ | refine gFl rfl (by rfl) ?_ | refine gAl rfl rfl (by rfl) (by omega) ?_ | refine gBl rfl rfl (by rfl) (by omega) ?_)
      first | refine gtN rfl (by omega) (by omega) (xN_ge (by omega)) ?_ | refine gtN rfl (by omega) (by omega) (xN_lt (by omega)) ?_ | refine gtN rfl (by omega) (by omega) (xN_eq (by omega)) ?_ | refine gtN rfl (by omega) (by omega) (xN_ne (by omega)) ?_ | refine gtN rfl (by omega) (by omega) (xN_gt (by omega)) ?_ | refine gtN rfl (by omega) (by omega) (xN_le (by omega)) ?_
      repeat (first | refine gkn rfl rfl ?_ | refine gkm rfl rfl ?_ | refine gad rfl ?_ | refine gml rfl ?_ | refine gsb rfl (by omega) ?_ | refine gdv rfl (by omega) (by omega) (by omega) ?_ | refine grm rfl (by omega) (by omega) (by omega) ?_ | refine gic rfl rfl ?_ | refine gp rfl rfl rfl ?_ | refine gFl rfl (by rfl) ?_ | refine gAl rfl rfl (by rfl) (by omega) ?_ | refine gBl rfl rfl (by rfl) (by omega) ?_)
      refine gri rfl (fun _ => Or.inr rfl) ⟨?_, rfl⟩
      rw [decide_eq_true (pF_ext el (fun j hj => hall j (by omega)))]
    | succ k ih =>
      intro i hi hall
      refine gbe rfl (fun z => by cases z) (fun _ => ?_)
      repeat (first | refine gkn rfl rfl ?_ | refine gkm rfl rfl ?_ | refine gad rfl ?_ | refine gml rfl ?_ | refine gsb rfl (by omega) ?_ | refine gdv rfl (by omega) (by omega) (by omega) ?_ | refine grm rfl (by omega) (by omega) (by omega) ?_ | refine gic rfl rfl ?_ | refine gp rfl rfl rfl ?_ | refine gFl rfl (by rfl) ?_ | refine gAl rfl rfl (by rfl) (by omega) ?_ | refine gBl rfl rfl (by rfl) (by omega) ?_)
      first | refine gfN rfl (by omega) (by omega) (nN_ge (by omega)) ?_ | refine gfN rfl (by omega) (by omega) (nN_lt (by omega)) ?_ | refine gfN rfl (by omega) (by omega) (nN_eq (by omega)) ?_ | refine gfN rfl (by omega) (by omega) (nN_ne (by omega)) ?_ | refine gfN rfl (by omega) (by omega) (nN_gt (by omega)) ?_ | refine gfN rfl (by omega) (by omega) (nN_le (by omega)) ?_
      repeat (first | refine gkn rfl rfl ?_ | refine gkm rfl rfl ?_ | refine gad rfl ?_ | refine gml rfl ?_ | refine gsb rfl (by omega) ?_ | refine gdv rfl (by omega) (by omega) (by omega) ?_ | refine grm rfl (by omega) (by omega) (by omega) ?_ | refine gic rfl rfl ?_ | refine gp rfl rfl rfl ?_ | refine gFl rfl (by rfl) ?_ | refine gAl rfl rfl (by rfl) (by omega) ?_ | refine gBl rfl rfl (by rfl) (by omega) ?_)
      rw [s3 i (by omega), t3 i (by omega)]
      refine gcp rfl (fun hne => ?_) (fun heq => ?_)
      · have hne : ¬ l.getD i 0 = m.getD i 0 := hne
        repeat (first | refine gkn rfl rfl ?_ | refine gkm rfl rfl ?_ | refine gad rfl ?_ | refine gml rfl ?_ | refine gsb rfl (by omega) ?_ | refine gdv rfl (by omega) (by omega) (by omega) ?_ | refine grm rfl (by omega) (by omega) (by omega) ?_ | refine gic rfl rfl ?_ | refine gp rfl rfl rfl ?_ | refine gFl rfl (by rfl) ?_ | refine gAl rfl rfl (by rfl) (by omega) ?_ | refine gBl rfl rfl (by rfl) (by omega) ?_)
        refine gt0 rfl (by decide) (show (0 : Nat) = 0 from rfl) ?_
        repeat (first | refine gkn rfl rfl ?_ | refine gkm rfl rfl ?_ | refine gad rfl ?_ | refine gml rfl ?_ | refine gsb rfl (by omega) ?_ | refine gdv rfl (by omega) (by omega) (by omega) ?_ | refine grm rfl (by omega) (by omega) (by omega) ?_ | refine gic rfl rfl ?_ | refine gp rfl rfl rfl ?_ | refine gFl rfl (by rfl) ?_ | refine gAl rfl rfl (by rfl) (by omega) ?_ | refine gBl rfl rfl (by rfl) (by omega) ?_)
        refine gri rfl (fun _ => Or.inl rfl) ⟨?_, rfl⟩
        rw [decide_eq_false (fun z => hne (by rw [z]))]
        rfl
      · have heq : l.getD i 0 = m.getD i 0 := by
          by_cases z : l.getD i 0 = m.getD i 0
          · exact z
          · exact absurd z heq
        repeat (first | refine gkn rfl rfl ?_ | refine gkm rfl rfl ?_ | refine gad rfl ?_ | refine gml rfl ?_ | refine gsb rfl (by omega) ?_ | refine gdv rfl (by omega) (by omega) (by omega) ?_ | refine grm rfl (by omega) (by omega) (by omega) ?_ | refine gic rfl rfl ?_ | refine gp rfl rfl rfl ?_ | refine gFl rfl (by rfl) ?_ | refine gAl rfl rfl (by rfl) (by omega) ?_ | refine gBl rfl rfl (by rfl) (by omega) ?_)
        refine ih (i + 1) (by omega) (fun j hj => ?_)
        by_cases e : j = i
        · rw [e]; exact heq
        · exact hall j (by omega)
  repeat (first | refine gkn rfl rfl ?_ | refine gkm rfl rfl ?_ | refine gad rfl ?_ | refine gml rfl ?_ | refine gsb rfl (by omega) ?_ | refine gdv rfl (by omega) (by omega) (by omega) ?_ | refine grm rfl (by omega) (by omega) (by omega) ?_ | refine gic rfl rfl ?_ | refine gp rfl rfl rfl ?_ | refine gFl rfl (by rfl) ?_ | refine gAl rfl rfl (by rfl) (by omega) ?_ | refine gBl rfl rfl (by rfl) (by omega) ?_)
  refine gcN rfl (by omega) (by omega) (fun hne => ?_) (fun heq => ?_)
  · have hne : ¬ x + l.length - x = y + m.length - y := hne
    repeat (first | refine gkn rfl rfl ?_ | refine gkm rfl rfl ?_ | refine gad rfl ?_ | refine gml rfl ?_ | refine gsb rfl (by omega) ?_ | refine gdv rfl (by omega) (by omega) (by omega) ?_ | refine grm rfl (by omega) (by omega) (by omega) ?_ | refine gic rfl rfl ?_ | refine gp rfl rfl rfl ?_ | refine gFl rfl (by rfl) ?_ | refine gAl rfl rfl (by rfl) (by omega) ?_ | refine gBl rfl rfl (by rfl) (by omega) ?_)
    refine gt0 rfl (by decide) (show (0 : Nat) = 0 from rfl) ?_
    repeat (first | refine gkn rfl rfl ?_ | refine gkm rfl rfl ?_ | refine gad rfl ?_ | refine gml rfl ?_ | refine gsb rfl (by omega) ?_ | refine gdv rfl (by omega) (by omega) (by omega) ?_ | refine grm rfl (by omega) (by omega) (by omega) ?_ | refine gic rfl rfl ?_ | refine gp rfl rfl rfl ?_ | refine gFl rfl (by rfl) ?_ | refine gAl rfl rfl (by rfl) (by omega) ?_ | refine gBl rfl rfl (by rfl) (by omega) ?_)
    refine gri rfl (fun _ => Or.inl rfl) ⟨?_, rfl⟩
    rw [decide_eq_false (fun z => hne (by rw [z]; omega))]
    rfl
  · have heq : l.length = m.length := by
      by_cases z : x + l.length - x = y + m.length - y
      · omega
      · exact absurd z heq
    repeat (first | refine gkn rfl rfl ?_ | refine gkm rfl rfl ?_ | refine gad rfl ?_ | refine gml rfl ?_ | refine gsb rfl (by omega) ?_ | refine gdv rfl (by omega) (by omega) (by omega) ?_ | refine grm rfl (by omega) (by omega) (by omega) ?_ | refine gic rfl rfl ?_ | refine gp rfl rfl rfl ?_ | refine gFl rfl (by rfl) ?_ | refine gAl rfl rfl (by rfl) (by omega) ?_ | refine gBl rfl rfl (by rfl) (by omega) ?_)
    exact loop heq l.length 0 (Nat.zero_add _) (fun j hj => absurd hj (Nat.not_lt_zero _))
theorem r_takeFile (d : Nat) {t p : Nat} (h : mV A W) (ht : t < 7) (hp : p < 64) : ∃ I' A', xEx (d + 2) 122 [.inr (some 52), .inl (nI t), .inl (nI p)] (mU σ I A) none (mU σ I' A') ∧ I' 13 = nI (pK (W t p)) ∧ mO I' A' (pLn (W t p)) ∧ (∀ j, j ≠ 12 → j ≠ 13 → I' j = I j) ∧ (∀ j, j ≠ 61 → A' j = A j) := by
  obtain ⟨g1, g2, g3, g4, g5⟩ := h t p ht hp
  have hr := rRm_le (t := t)
  have k2 := pK_le (W t p)
  have z2 : pK (W t p) = 0 → pLn (W t p) = [] := fun e => by
    have e := pK_0.mp e
    cases hw : W t p with
    | none => rfl
    | some F => rw [hw] at e; cases e
  generalize pLn (W t p) = l at *
  generalize pK (W t p) = c at *
  let K : Option xV → xS → Prop := fun r0 σ0 => r0 = none ∧ ∃ I' A', σ0 = mU σ I' A' ∧ I' 13 = nI c ∧ mO I' A' l ∧ (∀ j, j ≠ 12 → j ≠ 13 → I' j = I j) ∧ (∀ j, j ≠ 61 → A' j = A j)
  have loop : ∀ k i (I1 : Nat → Int32) (A1 : Nat → Nat → Int32), i + k = l.length → I1 13 = nI c → mO I1 A1 (l.take i) → (∀ j, j ≠ 12 → j ≠ 13 → I1 j = I j) → (∀ j, j ≠ 61 → A1 j = A j) → xGo (xEx (d + 1)) xtb_122 K (26, [some (.inr (some 52)), some (.inl (nI t)), some (.inl (nI p)), some (.inl (nI i))], [.inl (nI c)], mU σ I1 A1) := by
    intro k
    induction k with
    | zero =>
      intro i I1 A1 hi h13 hO hI hA
      obtain rfl : i = l.length := by omega
      rw [List.take_length] at hO
      by_cases hc : c = 0
      · first | refine gt0 rfl (by omega) (xN_ge (by omega)) ?_ | refine gt0 rfl (by omega) (xN_lt (by omega)) ?_ | refine gt0 rfl (by omega) (xN_eq (by omega)) ?_ | refine gt0 rfl (by omega) (xN_ne (by omega)) ?_ | refine gt0 rfl (by omega) (xN_gt (by omega)) ?_ | refine gt0 rfl (by omega) (xN_le (by omega)) ?_
        exact grv rfl ⟨rfl, I1, A1, rfl, h13, hO, hI, hA⟩
      · first | refine gf0 rfl (by omega) (nN_ge (by omega)) ?_ | refine gf0 rfl (by omega) (nN_lt (by omega)) ?_ | refine gf0 rfl (by omega) (nN_eq (by omega)) ?_ | refine gf0 rfl (by omega) (nN_ne (by omega)) ?_ | refine gf0 rfl (by omega) (nN_gt (by omega)) ?_ | refine gf0 rfl (by omega) (nN_le (by omega)) ?_
        repeat (first | refine gkn rfl rfl ?_ | refine gkm rfl rfl ?_ | refine gad rfl ?_ | refine gml rfl ?_ | refine gsb rfl (by omega) ?_ | refine gdv rfl (by omega) (by omega) (by omega) ?_ | refine grm rfl (by omega) (by omega) (by omega) ?_ | refine gic rfl rfl ?_ | refine gp rfl rfl rfl ?_ | refine gFl rfl (by rfl) ?_ | refine gAl rfl rfl (by rfl) (by omega) ?_ | refine gBl rfl rfl (by rfl) (by omega) ?_)
        rw [hA 54 (by decide), g2]
        first | refine gtN rfl (by omega) (by omega) (xN_ge (by omega)) ?_ | refine gtN rfl (by omega) (by omega) (xN_lt (by omega)) ?_ | refine gtN rfl (by omega) (by omega) (xN_eq (by omega)) ?_ | refine gtN rfl (by omega) (by omega) (xN_ne (by omega)) ?_ | refine gtN rfl (by omega) (by omega) (xN_gt (by omega)) ?_ | refine gtN rfl (by omega) (by omega) (xN_le (by omega)) ?_
        exact grv rfl ⟨rfl, I1, A1, rfl, h13, hO, hI, hA⟩
    | succ k ih =>
      intro i I1 A1 hi h13 hO hI hA
      have hc : ¬ c = 0 := fun z => by
        have := z2 z
        rw [this] at hi
        simp at hi
      obtain ⟨v, v1, v2, v3⟩ := g4 i (by omega)
      have b1 := rSt_lt (j := i) ht hp (by omega)
      first | refine gf0 rfl (by omega) (nN_ge (by omega)) ?_ | refine gf0 rfl (by omega) (nN_lt (by omega)) ?_ | refine gf0 rfl (by omega) (nN_eq (by omega)) ?_ | refine gf0 rfl (by omega) (nN_ne (by omega)) ?_ | refine gf0 rfl (by omega) (nN_gt (by omega)) ?_ | refine gf0 rfl (by omega) (nN_le (by omega)) ?_
      repeat (first | refine gkn rfl rfl ?_ | refine gkm rfl rfl ?_ | refine gad rfl ?_ | refine gml rfl ?_ | refine gsb rfl (by omega) ?_ | refine gdv rfl (by omega) (by omega) (by omega) ?_ | refine grm rfl (by omega) (by omega) (by omega) ?_ | refine gic rfl rfl ?_ | refine gp rfl rfl rfl ?_ | refine gFl rfl (by rfl) ?_ | refine gAl rfl rfl (by rfl) (by omega) ?_ | refine gBl rfl rfl (by rfl) (by omega) ?_)
      rw [hA 54 (by decide), g2]
      first | refine gfN rfl (by omega) (by omega) (nN_ge (by omega)) ?_ | refine gfN rfl (by omega) (by omega) (nN_lt (by omega)) ?_ | refine gfN rfl (by omega) (by omega) (nN_eq (by omega)) ?_ | refine gfN rfl (by omega) (by omega) (nN_ne (by omega)) ?_ | refine gfN rfl (by omega) (by omega) (nN_gt (by omega)) ?_ | refine gfN rfl (by omega) (by omega) (nN_le (by omega)) ?_
      repeat (first | refine gkn rfl rfl ?_ | refine gkm rfl rfl ?_ | refine gad rfl ?_ | refine gml rfl ?_ | refine gsb rfl (by omega) ?_ | refine gdv rfl (by omega) (by omega) (by omega) ?_ | refine grm rfl (by omega) (by omega) (by omega) ?_ | refine gic rfl rfl ?_ | refine gp rfl rfl rfl ?_ | refine gFl rfl (by rfl) ?_ | refine gAl rfl rfl (by rfl) (by omega) ?_ | refine gBl rfl rfl (by rfl) (by omega) ?_)
      refine gcs (As := [.inl (nI t), .inl (nI p)]) (rest := [.inr (some 55), .inr (some 52)]) rfl (by decide) (m_start d ht hp) rfl rfl (Nat.le_of_ble_eq_true rfl) ?_
      repeat (first | refine gkn rfl rfl ?_ | refine gkm rfl rfl ?_ | refine gad rfl ?_ | refine gml rfl ?_ | refine gsb rfl (by omega) ?_ | refine gdv rfl (by omega) (by omega) (by omega) ?_ | refine grm rfl (by omega) (by omega) (by omega) ?_ | refine gic rfl rfl ?_ | refine gp rfl rfl rfl ?_ | refine gFl rfl (by rfl) ?_ | refine gAl rfl rfl (by rfl) (by omega) ?_ | refine gBl rfl rfl (by rfl) (by omega) ?_)
      rw [hA 55 (by decide), g5 i (by omega), v3]
      obtain ⟨I2, A2, y1, y2, y3, y4⟩ := r_write (σ := σ) d hO v1 v2 (by rw [List.length_take]; omega)
      refine gcv (As := [.inl (nI v)]) (rest := []) rfl (by decide) y1 (mU_obj _ _ _) rfl rfl (by decide) ?_
      repeat (first | refine gkn rfl rfl ?_ | refine gkm rfl rfl ?_ | refine gad rfl ?_ | refine gml rfl ?_ | refine gsb rfl (by omega) ?_ | refine gdv rfl (by omega) (by omega) (by omega) ?_ | refine grm rfl (by omega) (by omega) (by omega) ?_ | refine gic rfl rfl ?_ | refine gp rfl rfl rfl ?_ | refine gFl rfl (by rfl) ?_ | refine gAl rfl rfl (by rfl) (by omega) ?_ | refine gBl rfl rfl (by rfl) (by omega) ?_)
      rw [y3 13 (by decide), h13]
      refine ih (i + 1) I2 A2 (by omega) ((y3 13 (by decide)).trans h13) ?_ (fun j a b => (y3 j a).trans (hI j a b)) (fun j hj => (y4 j hj).trans (hA j hj))
      rw [take_s (by omega), v3]
      exact y2
  have main : xGo (xEx (d + 1)) xtb_122 K (0, [some (.inr (some 52)), some (.inl (nI t)), some (.inl (nI p)), none], [], mU σ I A) := by
    repeat (first | refine gkn rfl rfl ?_ | refine gkm rfl rfl ?_ | refine gad rfl ?_ | refine gml rfl ?_ | refine gsb rfl (by omega) ?_ | refine gdv rfl (by omega) (by omega) (by omega) ?_ | refine grm rfl (by omega) (by omega) (by omega) ?_ | refine gic rfl rfl ?_ | refine gp rfl rfl rfl ?_ | refine gFl rfl (by rfl) ?_ | refine gAl rfl rfl (by rfl) (by omega) ?_ | refine gBl rfl rfl (by rfl) (by omega) ?_)
    rw [g1]
    refine gFs rfl (by decide) (Or.inl rfl) ?_
    repeat (first | refine gkn rfl rfl ?_ | refine gkm rfl rfl ?_ | refine gad rfl ?_ | refine gml rfl ?_ | refine gsb rfl (by omega) ?_ | refine gdv rfl (by omega) (by omega) (by omega) ?_ | refine grm rfl (by omega) (by omega) (by omega) ?_ | refine gic rfl rfl ?_ | refine gp rfl rfl rfl ?_ | refine gFl rfl (by rfl) ?_ | refine gAl rfl rfl (by rfl) (by omega) ?_ | refine gBl rfl rfl (by rfl) (by omega) ?_)
    refine gFs rfl (by decide) (Or.inl rfl) ?_
    repeat (first | refine gkn rfl rfl ?_ | refine gkm rfl rfl ?_ | refine gad rfl ?_ | refine gml rfl ?_ | refine gsb rfl (by omega) ?_ | refine gdv rfl (by omega) (by omega) (by omega) ?_ | refine grm rfl (by omega) (by omega) (by omega) ?_ | refine gic rfl rfl ?_ | refine gp rfl rfl rfl ?_ | refine gFl rfl (by rfl) ?_ | refine gAl rfl rfl (by rfl) (by omega) ?_ | refine gBl rfl rfl (by rfl) (by omega) ?_)
    rw [upd_ne (show 13 ≠ 12 by decide), upd_eq]
    refine loop l.length 0 _ A (Nat.zero_add _) (by rw [upd_ne (show 13 ≠ 12 by decide), upd_eq]) ⟨by rw [upd_eq, List.take_zero]; rfl, by rw [List.take_zero]; exact Nat.zero_le _, fun j hj => ?_⟩ (fun j a b => by rw [upd_ne a, upd_ne b]) (fun _ _ => rfl)
    rw [List.take_zero] at hj
    exact absurd hj (Nat.not_lt_zero _)
  obtain ⟨r, σ', hex, rfl, I', A', rfl, g⟩ := ex_of (d := d + 1) (y := 122) (as := [.inr (some 52), .inl (nI t), .inl (nI p)]) (σ := mU σ I A) (K := K) (by decide) rfl main
  exact ⟨I', A', hex, g⟩
theorem r_putOut (d : Nat) {t p : Nat} {F : Option pF} (h : mV A W) (ht : t < 7) (hp : p < 64) (h13 : I 13 = nI (pK F)) (hO : mO I A (pLn F)) (ho : pOK (pLn F)) (hl : (pLn F).length ≤ rRm t) : ∃ A', xEx (d + 2) 131 [.inr (some 52), .inl (nI t), .inl (nI p)] (mU σ I A) none (mU σ I A') ∧ mV A' (vU W t (pLy (W t) p F)) ∧ aF A A' := by
  obtain ⟨o1, o2, o3⟩ := hO
  let K : Option xV → xS → Prop := fun r0 σ0 => r0 = none ∧ ∃ A', σ0 = mU σ I A' ∧ mV A' (vU W t (pLy (W t) p F)) ∧ aF A A'
  have loop : ∀ k i (L : Nat → Int32) (B : Nat → Nat → Int32), i + k = (pLn F).length → B = aU (aU (aU A 53 (upd (A 53) (64 * t + p) (nI (pK F)))) 54 (upd (A 54) (64 * t + p) (nI (pLn F).length))) 55 L → (∀ x, (x < rSt t p ∨ rSt t p + (pLn F).length ≤ x) → L x = A 55 x) → (∀ j, j < i → L (rSt t p + j) = (pLn F).getD j 0) → xGo (xEx (d + 1)) xtb_131 K (37, [some (.inr (some 52)), some (.inl (nI t)), some (.inl (nI p)), some (.inl (nI i))], [.inl (nI (pLn F).length), .inl (nI i)], mU σ I B) := by
    intro k
    induction k with
    | zero =>
      intro i L B hi hB h1 h2
      first | refine gtN rfl (by omega) (by omega) (xN_ge (by omega)) ?_ | refine gtN rfl (by omega) (by omega) (xN_lt (by omega)) ?_ | refine gtN rfl (by omega) (by omega) (xN_eq (by omega)) ?_ | refine gtN rfl (by omega) (by omega) (xN_ne (by omega)) ?_ | refine gtN rfl (by omega) (by omega) (xN_gt (by omega)) ?_ | refine gtN rfl (by omega) (by omega) (xN_le (by omega)) ?_
      refine grv rfl ⟨rfl, B, rfl, ?_, ?_⟩
      · have e1 : B 53 = upd (A 53) (64 * t + p) (nI (pK F)) := by rw [hB, aU_ne (by decide), aU_ne (by decide), aU_eq]
        have e2 : B 54 = upd (A 54) (64 * t + p) (nI (pLn F).length) := by rw [hB, aU_ne (by decide), aU_eq]
        have e3 : B 55 = L := by rw [hB, aU_eq]
        refine mV_put h ht hp hl ho (fun x hx => ?_) ?_ (fun x hx => ?_) ?_ (fun x hx => ?_) (fun j hj => ?_)
        · rw [e1, upd_ne hx]
        · rw [e1, upd_eq]
        · rw [e2, upd_ne hx]
        · rw [e2, upd_eq]
        · rw [e3]; exact h1 x hx
        · rw [e3]; exact h2 j (by omega)
      · intro k hk
        rw [hB, aU_ne (by omega), aU_ne (by omega), aU_ne (by omega)]
    | succ k ih =>
      intro i L B hi hB h1 h2
      have e3 : B 55 = L := by rw [hB, aU_eq]
      have e61 : B 61 = A 61 := by rw [hB, aU_ne (by decide), aU_ne (by decide), aU_ne (by decide)]
      have b1 := rSt_lt (j := i) ht hp (by omega)
      first | refine gfN rfl (by omega) (by omega) (nN_ge (by omega)) ?_ | refine gfN rfl (by omega) (by omega) (nN_lt (by omega)) ?_ | refine gfN rfl (by omega) (by omega) (nN_eq (by omega)) ?_ | refine gfN rfl (by omega) (by omega) (nN_ne (by omega)) ?_ | refine gfN rfl (by omega) (by omega) (nN_gt (by omega)) ?_ | refine gfN rfl (by omega) (by omega) (nN_le (by omega)) ?_
      repeat (first | refine gkn rfl rfl ?_ | refine gkm rfl rfl ?_ | refine gad rfl ?_ | refine gml rfl ?_ | refine gsb rfl (by omega) ?_ | refine gdv rfl (by omega) (by omega) (by omega) ?_ | refine grm rfl (by omega) (by omega) (by omega) ?_ | refine gic rfl rfl ?_ | refine gp rfl rfl rfl ?_ | refine gFl rfl (by rfl) ?_ | refine gAl rfl rfl (by rfl) (by omega) ?_ | refine gBl rfl rfl (by rfl) (by omega) ?_)
      refine gcs (As := [.inl (nI t), .inl (nI p)]) (rest := [.inr (some 55)]) rfl (by decide) (m_start d ht hp) rfl rfl (Nat.le_of_ble_eq_true rfl) ?_
      repeat (first | refine gkn rfl rfl ?_ | refine gkm rfl rfl ?_ | refine gad rfl ?_ | refine gml rfl ?_ | refine gsb rfl (by omega) ?_ | refine gdv rfl (by omega) (by omega) (by omega) ?_ | refine grm rfl (by omega) (by omega) (by omega) ?_ | refine gic rfl rfl ?_ | refine gp rfl rfl rfl ?_ | refine gFl rfl (by rfl) ?_ | refine gAl rfl rfl (by rfl) (by omega) ?_ | refine gBl rfl rfl (by rfl) (by omega) ?_)
      rw [e61, o3 i (by omega)]
      refine gBs rfl rfl rfl (by omega) (xnar_ok ho (by omega)) ?_
      repeat (first | refine gkn rfl rfl ?_ | refine gkm rfl rfl ?_ | refine gad rfl ?_ | refine gml rfl ?_ | refine gsb rfl (by omega) ?_ | refine gdv rfl (by omega) (by omega) (by omega) ?_ | refine grm rfl (by omega) (by omega) (by omega) ?_ | refine gic rfl rfl ?_ | refine gp rfl rfl rfl ?_ | refine gFl rfl (by rfl) ?_ | refine gAl rfl rfl (by rfl) (by omega) ?_ | refine gBl rfl rfl (by rfl) (by omega) ?_)
      rw [o1]
      refine ih (i + 1) (upd L (rSt t p + i) ((pLn F).getD i 0)) _ (by omega) ?_ (fun x hx => ?_) (fun j hj => ?_)
      · rw [e3, hB, aU_aU]
      · rw [upd_ne (by omega)]; exact h1 x hx
      · by_cases hji : j = i
        · rw [hji, upd_eq]
        · rw [upd_ne (by omega)]; exact h2 j (by omega)
  have main : xGo (xEx (d + 1)) xtb_131 K (0, [some (.inr (some 52)), some (.inl (nI t)), some (.inl (nI p)), none], [], mU σ I A) := by
    repeat (first | refine gkn rfl rfl ?_ | refine gkm rfl rfl ?_ | refine gad rfl ?_ | refine gml rfl ?_ | refine gsb rfl (by omega) ?_ | refine gdv rfl (by omega) (by omega) (by omega) ?_ | refine grm rfl (by omega) (by omega) (by omega) ?_ | refine gic rfl rfl ?_ | refine gp rfl rfl rfl ?_ | refine gFl rfl (by rfl) ?_ | refine gAl rfl rfl (by rfl) (by omega) ?_ | refine gBl rfl rfl (by rfl) (by omega) ?_)
    rw [h13]
    refine gAs rfl rfl rfl (by omega) ?_
    repeat (first | refine gkn rfl rfl ?_ | refine gkm rfl rfl ?_ | refine gad rfl ?_ | refine gml rfl ?_ | refine gsb rfl (by omega) ?_ | refine gdv rfl (by omega) (by omega) (by omega) ?_ | refine grm rfl (by omega) (by omega) (by omega) ?_ | refine gic rfl rfl ?_ | refine gp rfl rfl rfl ?_ | refine gFl rfl (by rfl) ?_ | refine gAl rfl rfl (by rfl) (by omega) ?_ | refine gBl rfl rfl (by rfl) (by omega) ?_)
    rw [o1]
    refine gAs rfl rfl rfl (by omega) ?_
    repeat (first | refine gkn rfl rfl ?_ | refine gkm rfl rfl ?_ | refine gad rfl ?_ | refine gml rfl ?_ | refine gsb rfl (by omega) ?_ | refine gdv rfl (by omega) (by omega) (by omega) ?_ | refine grm rfl (by omega) (by omega) (by omega) ?_ | refine gic rfl rfl ?_ | refine gp rfl rfl rfl ?_ | refine gFl rfl (by rfl) ?_ | refine gAl rfl rfl (by rfl) (by omega) ?_ | refine gBl rfl rfl (by rfl) (by omega) ?_)
    rw [o1]
    refine loop _ 0 (A 55) _ (Nat.zero_add _) ?_ (fun x _ => rfl) (fun j hj => absurd hj (Nat.not_lt_zero _))
    rw [aU_ne (by decide)]
    refine (Eq.trans ?_ (aU_same _ 55)).symm
    rw [aU_ne (by decide), aU_ne (by decide)]
  obtain ⟨r, σ', hex, rfl, A', rfl, g⟩ := ex_of (d := d + 1) (y := 131) (as := [.inr (some 52), .inl (nI t), .inl (nI p)]) (σ := mU σ I A) (K := K) (by decide) rfl main
  exact ⟨A', hex, g⟩
end REF
