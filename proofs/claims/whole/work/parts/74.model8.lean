/-! MODULE: the reference: renames, equal files -/
def rB (R : pR) : Prop := (∀ p q, R.1 p = some q → q < 64) ∧ (∀ q p, R.2 q = some p → p < 64)
def mR (A : Nat → Nat → Int32) (s : Nat) (R : pR) : Prop := rB R ∧ (∀ p, p < 64 → A 56 (64 * (s - 1) + p) = oI (R.1 p)) ∧ (∀ q, q < 64 → A 57 (64 * (s - 1) + q) = oI (R.2 q))
/-- of the rows 56, 57 the half of s alone changed -/
def aR (s : Nat) (A A' : Nat → Nat → Int32) : Prop := (∀ k, k ≠ 56 → k ≠ 57 → A' k = A k) ∧ (∀ x, (x < 64 * (s - 1) ∨ 64 * (s - 1) + 64 ≤ x) → A' 56 x = A 56 x ∧ A' 57 x = A 57 x)
theorem aR.refl (s : Nat) (A : Nat → Nat → Int32) : aR s A A := ⟨fun _ _ _ => rfl, fun _ _ => ⟨rfl, rfl⟩⟩
theorem aR.trans {s : Nat} {A B C : Nat → Nat → Int32} (h1 : aR s A B) (h2 : aR s B C) : aR s A C := ⟨fun k a b => (h2.1 k a b).trans (h1.1 k a b), fun x hx => ⟨(h2.2 x hx).1.trans (h1.2 x hx).1, (h2.2 x hx).2.trans (h1.2 x hx).2⟩⟩
theorem mV.of {A A' : Nat → Nat → Int32} {W : Nat → pT} (h : mV A W) (e : ∀ k, k = 53 ∨ k = 54 ∨ k = 55 → A' k = A k) : mV A' W := fun t p ht hp => by
  obtain ⟨g1, g2, g3, g4, g5⟩ := h t p ht hp
  exact ⟨by rw [e 53 (by omega)]; exact g1, by rw [e 54 (by omega)]; exact g2, g3, g4, fun j hj => by rw [e 55 (by omega)]; exact g5 j hj⟩
theorem mV.aR {s : Nat} {A A' : Nat → Nat → Int32} {W : Nat → pT} (h : mV A W) (e : aR s A A') : mV A' W := h.of (fun k hk => e.1 k (by omega) (by omega))
theorem rJ_B {R : pR} {p q : Nat} (h : rB R) (hp : p < 64) (hq : q < 64) : rB (rJ R p q) := by
  refine ⟨fun a b e => ?_, fun a b e => ?_⟩
  · unfold rJ va_up at e
    by_cases h1 : a = p
    · simp only [if_pos h1] at e; cases e; exact hq
    · simp only [if_neg h1] at e; exact h.1 a b e
  · unfold rJ va_up at e
    by_cases h1 : a = q
    · simp only [if_pos h1] at e; cases e; exact hp
    · simp only [if_neg h1] at e; exact h.2 a b e
section REF
variable {σ : xS} {I : Nat → Int32} {A : Nat → Nat → Int32} {W : Nat → pT} {R : pR} {s : Nat}
theorem r_join (d : Nat) {p q : Nat} (hR : mR A s R) (hs : s = 1 ∨ s = 2) (hp : p < 64) (hq : q < 64) : ∃ A', xEx (d + 1) 109 [.inr (some 52), .inl (nI s), .inl (nI p), .inl (nI q)] (mU σ I A) none (mU σ I A') ∧ mR A' s (rJ R p q) ∧ aR s A A' := by
  obtain ⟨h1, h2, h3⟩ := hR
  refine ⟨aU (aU A 56 (upd (A 56) (64 * (s - 1) + p) (nI q))) 57 (upd (A 57) (64 * (s - 1) + q) (nI p)), ⟨by decide, rfl, ?_⟩, ⟨rJ_B h1 hp hq, fun z hz => ?_, fun z hz => ?_⟩, fun k a b => ?_, fun x hx => ⟨?_, ?_⟩⟩
  · show xGo (xEx d) xtb_109 _ (0, [some (.inr (some 52)), some (.inl (nI s)), some (.inl (nI p)), some (.inl (nI q))], [], mU σ I A)
    repeat (first | refine gkn rfl rfl ?_ | refine gkm rfl rfl ?_ | refine gad rfl ?_ | refine gml rfl ?_ | refine gsb rfl (by omega) ?_ | refine gdv rfl (by omega) (by omega) (by omega) ?_ | refine grm rfl (by omega) (by omega) (by omega) ?_ | refine gic rfl rfl ?_ | refine gp rfl rfl rfl ?_ | refine gFl rfl (by rfl) ?_ | refine gAl rfl rfl (by rfl) (by omega) ?_ | refine gBl rfl rfl (by rfl) (by omega) ?_)
    refine gAs rfl rfl rfl (by omega) ?_
    repeat (first | refine gkn rfl rfl ?_ | refine gkm rfl rfl ?_ | refine gad rfl ?_ | refine gml rfl ?_ | refine gsb rfl (by omega) ?_ | refine gdv rfl (by omega) (by omega) (by omega) ?_ | refine grm rfl (by omega) (by omega) (by omega) ?_ | refine gic rfl rfl ?_ | refine gp rfl rfl rfl ?_ | refine gFl rfl (by rfl) ?_ | refine gAl rfl rfl (by rfl) (by omega) ?_ | refine gBl rfl rfl (by rfl) (by omega) ?_)
    refine gAs rfl rfl rfl (by omega) ?_
    refine grv rfl ⟨rfl, ?_⟩
    rw [aU_ne (by decide)]
  · rw [aU_ne (by decide), aU_eq]
    by_cases e : z = p
    · subst e; rw [upd_eq]; simp [rJ, va_up, oI]
    · rw [upd_ne (by omega), h2 z hz]; simp [rJ, va_up, e]
  · rw [aU_eq]
    by_cases e : z = q
    · subst e; rw [upd_eq]; simp [rJ, va_up, oI]
    · rw [upd_ne (by omega), h3 z hz]; simp [rJ, va_up, e]
  · rw [aU_ne b, aU_ne a]
  · rw [aU_ne (by decide), aU_eq, upd_ne (by omega)]
  · rw [aU_eq, upd_ne (by omega)]
/-- below 0, or not: an int that stands for a number or none -/
theorem oI_lt0 {o : Option Nat} (h : ∀ q, o = some q → q < 64) : oI o < 0 ↔ o = none := by
  cases o with
  | none => exact ⟨fun _ => rfl, fun _ => by decide⟩
  | some q => exact ⟨fun z => absurd z (nI_pos (by have := h q rfl; omega)), fun z => by cases z⟩
theorem r_sourceLeft (d : Nat) {p : Nat} (h : mV A W) (hR : mR A s R) (hs : s = 1 ∨ s = 2) (hp : p < 64) : xEx (d + 2) 107 [.inr (some 52), .inl (nI s), .inl (nI p)] (mU σ I A) (some (.inl (bI (rSL (W 0) (W s) R p)))) (mU σ I A) := by
  obtain ⟨h1, h2, h3⟩ := hR
  refine ⟨by decide, rfl, ?_⟩
  show xGo (xEx (d + 1)) xtb_107 _ (0, [some (.inr (some 52)), some (.inl (nI s)), some (.inl (nI p))], [], mU σ I A)
  unfold rSL
  repeat (first | refine gkn rfl rfl ?_ | refine gkm rfl rfl ?_ | refine gad rfl ?_ | refine gml rfl ?_ | refine gsb rfl (by omega) ?_ | refine gdv rfl (by omega) (by omega) (by omega) ?_ | refine grm rfl (by omega) (by omega) (by omega) ?_ | refine gic rfl rfl ?_ | refine gp rfl rfl rfl ?_ | refine gFl rfl (by rfl) ?_ | refine gAl rfl rfl (by rfl) (by omega) ?_ | refine gBl rfl rfl (by rfl) (by omega) ?_)
  refine gcv (As := [.inl (nI 0), .inl (nI p)]) (rest := []) rfl (by decide) (r_has d h (by decide) hp) (mU_obj _ _ _) rfl rfl (by decide) ?_
  refine gbe rfl (fun hz => ?_) (fun hz => ?_)
  · repeat (first | refine gkn rfl rfl ?_ | refine gkm rfl rfl ?_ | refine gad rfl ?_ | refine gml rfl ?_ | refine gsb rfl (by omega) ?_ | refine gdv rfl (by omega) (by omega) (by omega) ?_ | refine grm rfl (by omega) (by omega) (by omega) ?_ | refine gic rfl rfl ?_ | refine gp rfl rfl rfl ?_ | refine gFl rfl (by rfl) ?_ | refine gAl rfl rfl (by rfl) (by omega) ?_ | refine gBl rfl rfl (by rfl) (by omega) ?_)
    exact gri rfl (fun _ => Or.inl rfl) ⟨by rw [hz]; rfl, rfl⟩
  · rw [hz]
    repeat (first | refine gkn rfl rfl ?_ | refine gkm rfl rfl ?_ | refine gad rfl ?_ | refine gml rfl ?_ | refine gsb rfl (by omega) ?_ | refine gdv rfl (by omega) (by omega) (by omega) ?_ | refine grm rfl (by omega) (by omega) (by omega) ?_ | refine gic rfl rfl ?_ | refine gp rfl rfl rfl ?_ | refine gFl rfl (by rfl) ?_ | refine gAl rfl rfl (by rfl) (by omega) ?_ | refine gBl rfl rfl (by rfl) (by omega) ?_)
    refine gcv (As := [.inl (nI s), .inl (nI p)]) (rest := []) rfl (by decide) (r_has d h (by omega) hp) (mU_obj _ _ _) rfl rfl (by decide) ?_
    cases hw : W s p with
    | some F =>
      refine gbn rfl (fun _ => ?_) (fun z => by cases z)
      repeat (first | refine gkn rfl rfl ?_ | refine gkm rfl rfl ?_ | refine gad rfl ?_ | refine gml rfl ?_ | refine gsb rfl (by omega) ?_ | refine gdv rfl (by omega) (by omega) (by omega) ?_ | refine grm rfl (by omega) (by omega) (by omega) ?_ | refine gic rfl rfl ?_ | refine gp rfl rfl rfl ?_ | refine gFl rfl (by rfl) ?_ | refine gAl rfl rfl (by rfl) (by omega) ?_ | refine gBl rfl rfl (by rfl) (by omega) ?_)
      exact gri rfl (fun _ => Or.inl rfl) ⟨rfl, rfl⟩
    | none =>
      refine gbn rfl (fun z => by cases z) (fun _ => ?_)
      repeat (first | refine gkn rfl rfl ?_ | refine gkm rfl rfl ?_ | refine gad rfl ?_ | refine gml rfl ?_ | refine gsb rfl (by omega) ?_ | refine gdv rfl (by omega) (by omega) (by omega) ?_ | refine grm rfl (by omega) (by omega) (by omega) ?_ | refine gic rfl rfl ?_ | refine gp rfl rfl rfl ?_ | refine gFl rfl (by rfl) ?_ | refine gAl rfl rfl (by rfl) (by omega) ?_ | refine gBl rfl rfl (by rfl) (by omega) ?_)
      rw [h2 p hp]
      refine gif' rfl (fun z => ?_) (fun z => ?_)
      · repeat (first | refine gkn rfl rfl ?_ | refine gkm rfl rfl ?_ | refine gad rfl ?_ | refine gml rfl ?_ | refine gsb rfl (by omega) ?_ | refine gdv rfl (by omega) (by omega) (by omega) ?_ | refine grm rfl (by omega) (by omega) (by omega) ?_ | refine gic rfl rfl ?_ | refine gp rfl rfl rfl ?_ | refine gFl rfl (by rfl) ?_ | refine gAl rfl rfl (by rfl) (by omega) ?_ | refine gBl rfl rfl (by rfl) (by omega) ?_)
        refine gri rfl (fun _ => Or.inl rfl) ⟨?_, rfl⟩
        cases hr : R.1 p with
        | none => rw [hr] at z; exact absurd (show (0 : Int32) ≤ -1 from z) (by decide)
        | some q => rfl
      · repeat (first | refine gkn rfl rfl ?_ | refine gkm rfl rfl ?_ | refine gad rfl ?_ | refine gml rfl ?_ | refine gsb rfl (by omega) ?_ | refine gdv rfl (by omega) (by omega) (by omega) ?_ | refine grm rfl (by omega) (by omega) (by omega) ?_ | refine gic rfl rfl ?_ | refine gp rfl rfl rfl ?_ | refine gFl rfl (by rfl) ?_ | refine gAl rfl rfl (by rfl) (by omega) ?_ | refine gBl rfl rfl (by rfl) (by omega) ?_)
        refine gri rfl (fun _ => Or.inr rfl) ⟨?_, rfl⟩
        rw [(oI_lt0 (fun q hq => h1.1 p q hq)).mp (Int32.not_le.mp z)]
        rfl
theorem r_targetLeft (d : Nat) {p : Nat} (h : mV A W) (hR : mR A s R) (hs : s = 1 ∨ s = 2) (hp : p < 64) : xEx (d + 2) 106 [.inr (some 52), .inl (nI s), .inl (nI p)] (mU σ I A) (some (.inl (bI (rTL (W 0) (W s) R p)))) (mU σ I A) := by
  obtain ⟨h1, h2, h3⟩ := hR
  refine ⟨by decide, rfl, ?_⟩
  show xGo (xEx (d + 1)) xtb_106 _ (0, [some (.inr (some 52)), some (.inl (nI s)), some (.inl (nI p))], [], mU σ I A)
  unfold rTL
  repeat (first | refine gkn rfl rfl ?_ | refine gkm rfl rfl ?_ | refine gad rfl ?_ | refine gml rfl ?_ | refine gsb rfl (by omega) ?_ | refine gdv rfl (by omega) (by omega) (by omega) ?_ | refine grm rfl (by omega) (by omega) (by omega) ?_ | refine gic rfl rfl ?_ | refine gp rfl rfl rfl ?_ | refine gFl rfl (by rfl) ?_ | refine gAl rfl rfl (by rfl) (by omega) ?_ | refine gBl rfl rfl (by rfl) (by omega) ?_)
  refine gcv (As := [.inl (nI s), .inl (nI p)]) (rest := []) rfl (by decide) (r_has d h (by omega) hp) (mU_obj _ _ _) rfl rfl (by decide) ?_
  refine gbe rfl (fun hz => ?_) (fun hz => ?_)
  · repeat (first | refine gkn rfl rfl ?_ | refine gkm rfl rfl ?_ | refine gad rfl ?_ | refine gml rfl ?_ | refine gsb rfl (by omega) ?_ | refine gdv rfl (by omega) (by omega) (by omega) ?_ | refine grm rfl (by omega) (by omega) (by omega) ?_ | refine gic rfl rfl ?_ | refine gp rfl rfl rfl ?_ | refine gFl rfl (by rfl) ?_ | refine gAl rfl rfl (by rfl) (by omega) ?_ | refine gBl rfl rfl (by rfl) (by omega) ?_)
    exact gri rfl (fun _ => Or.inl rfl) ⟨by rw [hz]; rfl, rfl⟩
  · rw [hz]
    repeat (first | refine gkn rfl rfl ?_ | refine gkm rfl rfl ?_ | refine gad rfl ?_ | refine gml rfl ?_ | refine gsb rfl (by omega) ?_ | refine gdv rfl (by omega) (by omega) (by omega) ?_ | refine grm rfl (by omega) (by omega) (by omega) ?_ | refine gic rfl rfl ?_ | refine gp rfl rfl rfl ?_ | refine gFl rfl (by rfl) ?_ | refine gAl rfl rfl (by rfl) (by omega) ?_ | refine gBl rfl rfl (by rfl) (by omega) ?_)
    refine gcv (As := [.inl (nI 0), .inl (nI p)]) (rest := []) rfl (by decide) (r_has d h (by decide) hp) (mU_obj _ _ _) rfl rfl (by decide) ?_
    cases hw : W 0 p with
    | some F =>
      refine gbn rfl (fun _ => ?_) (fun z => by cases z)
      repeat (first | refine gkn rfl rfl ?_ | refine gkm rfl rfl ?_ | refine gad rfl ?_ | refine gml rfl ?_ | refine gsb rfl (by omega) ?_ | refine gdv rfl (by omega) (by omega) (by omega) ?_ | refine grm rfl (by omega) (by omega) (by omega) ?_ | refine gic rfl rfl ?_ | refine gp rfl rfl rfl ?_ | refine gFl rfl (by rfl) ?_ | refine gAl rfl rfl (by rfl) (by omega) ?_ | refine gBl rfl rfl (by rfl) (by omega) ?_)
      exact gri rfl (fun _ => Or.inl rfl) ⟨rfl, rfl⟩
    | none =>
      refine gbn rfl (fun z => by cases z) (fun _ => ?_)
      repeat (first | refine gkn rfl rfl ?_ | refine gkm rfl rfl ?_ | refine gad rfl ?_ | refine gml rfl ?_ | refine gsb rfl (by omega) ?_ | refine gdv rfl (by omega) (by omega) (by omega) ?_ | refine grm rfl (by omega) (by omega) (by omega) ?_ | refine gic rfl rfl ?_ | refine gp rfl rfl rfl ?_ | refine gFl rfl (by rfl) ?_ | refine gAl rfl rfl (by rfl) (by omega) ?_ | refine gBl rfl rfl (by rfl) (by omega) ?_)
      rw [h3 p hp]
      refine gif' rfl (fun z => ?_) (fun z => ?_)
      · repeat (first | refine gkn rfl rfl ?_ | refine gkm rfl rfl ?_ | refine gad rfl ?_ | refine gml rfl ?_ | refine gsb rfl (by omega) ?_ | refine gdv rfl (by omega) (by omega) (by omega) ?_ | refine grm rfl (by omega) (by omega) (by omega) ?_ | refine gic rfl rfl ?_ | refine gp rfl rfl rfl ?_ | refine gFl rfl (by rfl) ?_ | refine gAl rfl rfl (by rfl) (by omega) ?_ | refine gBl rfl rfl (by rfl) (by omega) ?_)
        refine gri rfl (fun _ => Or.inl rfl) ⟨?_, rfl⟩
        cases hr : R.2 p with
        | none => rw [hr] at z; exact absurd (show (0 : Int32) ≤ -1 from z) (by decide)
        | some q => rfl
      · repeat (first | refine gkn rfl rfl ?_ | refine gkm rfl rfl ?_ | refine gad rfl ?_ | refine gml rfl ?_ | refine gsb rfl (by omega) ?_ | refine gdv rfl (by omega) (by omega) (by omega) ?_ | refine grm rfl (by omega) (by omega) (by omega) ?_ | refine gic rfl rfl ?_ | refine gp rfl rfl rfl ?_ | refine gFl rfl (by rfl) ?_ | refine gAl rfl rfl (by rfl) (by omega) ?_ | refine gBl rfl rfl (by rfl) (by omega) ?_)
        refine gri rfl (fun _ => Or.inr rfl) ⟨?_, rfl⟩
        rw [(oI_lt0 (fun q hq => h1.2 p q hq)).mp (Int32.not_le.mp z)]
        rfl
theorem r_alike (d : Nat) {t p u q : Nat} (h : mV A W) (ht : t < 7) (hp : p < 64) (hu : u < 7) (hq : q < 64) : xEx (d + 2) 108 [.inr (some 52), .inl (nI t), .inl (nI p), .inl (nI u), .inl (nI q)] (mU σ I A) (some (.inl (bI (decide (W t p = W u q))))) (mU σ I A) := by
  obtain ⟨a1, a2, a3, a4, a5⟩ := h t p ht hp
  obtain ⟨c1, c2, c3, c4, c5⟩ := h u q hu hq
  have hr := rRm_le (t := t)
  have hr2 := rRm_le (t := u)
  have k1 := pK_le (W t p)
  have k2 := pK_le (W u q)
  have inj := pK_inj (F := W t p) (G := W u q)
  have z1 := pK_0 (F := W t p)
  have z2 : (W t p).isSome = false → pLn (W t p) = [] := fun e => by
    cases hw : W t p with
    | none => rfl
    | some F => rw [hw] at e; cases e
  have z3 : (W u q).isSome = false → pLn (W u q) = [] := fun e => by
    cases hw : W u q with
    | none => rfl
    | some F => rw [hw] at e; cases e
  have z4 := pK_0 (F := W u q)
  have ne1 : ¬ pK (W t p) = pK (W u q) → ¬ W t p = W u q := fun n e => n (by rw [e])
  have ne2 : ¬ pLn (W t p) = pLn (W u q) → ¬ W t p = W u q := fun n e => n (by rw [e])
  refine ⟨by decide, rfl, ?_⟩
  show xGo (xEx (d + 1)) xtb_108 _ (0, [some (.inr (some 52)), some (.inl (nI t)), some (.inl (nI p)), some (.inl (nI u)), some (.inl (nI q)), none, none, none], [], mU σ I A)
  generalize W t p = F at *
  generalize W u q = G at *
  have loop : pK F = pK G → ¬ pK F = 0 → (pLn F).length = (pLn G).length → ∀ k i, i + k = (pLn F).length → (∀ j, j < i → (pLn F).getD j 0 = (pLn G).getD j 0) → xGo (xEx (d + 1)) xtb_108 (fun r0 σ0 => r0 = some (.inl (bI (decide (F = G)))) ∧ σ0 = mU σ I A) (73, [some (.inr (some 52)), some (.inl (nI t)), some (.inl (nI p)), some (.inl (nI u)), some (.inl (nI q)), some (.inl (nI (64 * t + p))), some (.inl (nI (64 * u + q))), some (.inl (nI i))], [.inl (nI (pK F))], mU σ I A) := by
    intro ek nz el k
    induction k with
    | zero =>
      intro i hi hall
      first | refine gf0 rfl (by omega) (nN_ge (by omega)) ?_ | refine gf0 rfl (by omega) (nN_lt (by omega)) ?_ | refine gf0 rfl (by omega) (nN_eq (by omega)) ?_ | refine gf0 rfl (by omega) (nN_ne (by omega)) ?_ | refine gf0 rfl (by omega) (nN_gt (by omega)) ?_ | refine gf0 rfl (by omega) (nN_le (by omega)) ?_
      repeat (first | refine gkn rfl rfl ?_ | refine gkm rfl rfl ?_ | refine gad rfl ?_ | refine gml rfl ?_ | refine gsb rfl (by omega) ?_ | refine gdv rfl (by omega) (by omega) (by omega) ?_ | refine grm rfl (by omega) (by omega) (by omega) ?_ | refine gic rfl rfl ?_ | refine gp rfl rfl rfl ?_ | refine gFl rfl (by rfl) ?_ | refine gAl rfl rfl (by rfl) (by omega) ?_ | refine gBl rfl rfl (by rfl) (by omega) ?_)
      rw [a2]
      first | refine gtN rfl (by omega) (by omega) (xN_ge (by omega)) ?_ | refine gtN rfl (by omega) (by omega) (xN_lt (by omega)) ?_ | refine gtN rfl (by omega) (by omega) (xN_eq (by omega)) ?_ | refine gtN rfl (by omega) (by omega) (xN_ne (by omega)) ?_ | refine gtN rfl (by omega) (by omega) (xN_gt (by omega)) ?_ | refine gtN rfl (by omega) (by omega) (xN_le (by omega)) ?_
      repeat (first | refine gkn rfl rfl ?_ | refine gkm rfl rfl ?_ | refine gad rfl ?_ | refine gml rfl ?_ | refine gsb rfl (by omega) ?_ | refine gdv rfl (by omega) (by omega) (by omega) ?_ | refine grm rfl (by omega) (by omega) (by omega) ?_ | refine gic rfl rfl ?_ | refine gp rfl rfl rfl ?_ | refine gFl rfl (by rfl) ?_ | refine gAl rfl rfl (by rfl) (by omega) ?_ | refine gBl rfl rfl (by rfl) (by omega) ?_)
      refine gri rfl (fun _ => Or.inr rfl) ⟨?_, rfl⟩
      rw [decide_eq_true (inj ek (pF_ext el (fun j hj => hall j (by omega))))]
      rfl
    | succ k ih =>
      intro i hi hall
      have b1 := rSt_lt (j := i) ht hp (by omega)
      have b2 := rSt_lt (j := i) hu hq (by omega)
      first | refine gf0 rfl (by omega) (nN_ge (by omega)) ?_ | refine gf0 rfl (by omega) (nN_lt (by omega)) ?_ | refine gf0 rfl (by omega) (nN_eq (by omega)) ?_ | refine gf0 rfl (by omega) (nN_ne (by omega)) ?_ | refine gf0 rfl (by omega) (nN_gt (by omega)) ?_ | refine gf0 rfl (by omega) (nN_le (by omega)) ?_
      repeat (first | refine gkn rfl rfl ?_ | refine gkm rfl rfl ?_ | refine gad rfl ?_ | refine gml rfl ?_ | refine gsb rfl (by omega) ?_ | refine gdv rfl (by omega) (by omega) (by omega) ?_ | refine grm rfl (by omega) (by omega) (by omega) ?_ | refine gic rfl rfl ?_ | refine gp rfl rfl rfl ?_ | refine gFl rfl (by rfl) ?_ | refine gAl rfl rfl (by rfl) (by omega) ?_ | refine gBl rfl rfl (by rfl) (by omega) ?_)
      rw [a2]
      first | refine gfN rfl (by omega) (by omega) (nN_ge (by omega)) ?_ | refine gfN rfl (by omega) (by omega) (nN_lt (by omega)) ?_ | refine gfN rfl (by omega) (by omega) (nN_eq (by omega)) ?_ | refine gfN rfl (by omega) (by omega) (nN_ne (by omega)) ?_ | refine gfN rfl (by omega) (by omega) (nN_gt (by omega)) ?_ | refine gfN rfl (by omega) (by omega) (nN_le (by omega)) ?_
      repeat (first | refine gkn rfl rfl ?_ | refine gkm rfl rfl ?_ | refine gad rfl ?_ | refine gml rfl ?_ | refine gsb rfl (by omega) ?_ | refine gdv rfl (by omega) (by omega) (by omega) ?_ | refine grm rfl (by omega) (by omega) (by omega) ?_ | refine gic rfl rfl ?_ | refine gp rfl rfl rfl ?_ | refine gFl rfl (by rfl) ?_ | refine gAl rfl rfl (by rfl) (by omega) ?_ | refine gBl rfl rfl (by rfl) (by omega) ?_)
      refine gcs (As := [.inl (nI t), .inl (nI p)]) (rest := [.inr (some 55)]) rfl (by decide) (m_start d ht hp) rfl rfl (Nat.le_of_ble_eq_true rfl) ?_
      repeat (first | refine gkn rfl rfl ?_ | refine gkm rfl rfl ?_ | refine gad rfl ?_ | refine gml rfl ?_ | refine gsb rfl (by omega) ?_ | refine gdv rfl (by omega) (by omega) (by omega) ?_ | refine grm rfl (by omega) (by omega) (by omega) ?_ | refine gic rfl rfl ?_ | refine gp rfl rfl rfl ?_ | refine gFl rfl (by rfl) ?_ | refine gAl rfl rfl (by rfl) (by omega) ?_ | refine gBl rfl rfl (by rfl) (by omega) ?_)
      refine gcs (As := [.inl (nI u), .inl (nI q)]) (rest := [.inr (some 55), .inl (A 55 (rSt t p + i))]) rfl (by decide) (m_start d hu hq) rfl rfl (Nat.le_of_ble_eq_true rfl) ?_
      repeat (first | refine gkn rfl rfl ?_ | refine gkm rfl rfl ?_ | refine gad rfl ?_ | refine gml rfl ?_ | refine gsb rfl (by omega) ?_ | refine gdv rfl (by omega) (by omega) (by omega) ?_ | refine grm rfl (by omega) (by omega) (by omega) ?_ | refine gic rfl rfl ?_ | refine gp rfl rfl rfl ?_ | refine gFl rfl (by rfl) ?_ | refine gAl rfl rfl (by rfl) (by omega) ?_ | refine gBl rfl rfl (by rfl) (by omega) ?_)
      rw [a5 i (by omega), c5 i (by omega)]
      refine gcp rfl (fun e => ?_) (fun e => ?_)
      · repeat (first | refine gkn rfl rfl ?_ | refine gkm rfl rfl ?_ | refine gad rfl ?_ | refine gml rfl ?_ | refine gsb rfl (by omega) ?_ | refine gdv rfl (by omega) (by omega) (by omega) ?_ | refine grm rfl (by omega) (by omega) (by omega) ?_ | refine gic rfl rfl ?_ | refine gp rfl rfl rfl ?_ | refine gFl rfl (by rfl) ?_ | refine gAl rfl rfl (by rfl) (by omega) ?_ | refine gBl rfl rfl (by rfl) (by omega) ?_)
        rw [a1]
        refine ih (i + 1) (by omega) (fun j hj => ?_)
        by_cases hji : j = i
        · rw [hji]; exact e
        · exact hall j (by omega)
      · repeat (first | refine gkn rfl rfl ?_ | refine gkm rfl rfl ?_ | refine gad rfl ?_ | refine gml rfl ?_ | refine gsb rfl (by omega) ?_ | refine gdv rfl (by omega) (by omega) (by omega) ?_ | refine grm rfl (by omega) (by omega) (by omega) ?_ | refine gic rfl rfl ?_ | refine gp rfl rfl rfl ?_ | refine gFl rfl (by rfl) ?_ | refine gAl rfl rfl (by rfl) (by omega) ?_ | refine gBl rfl rfl (by rfl) (by omega) ?_)
        refine gri rfl (fun _ => Or.inl rfl) ⟨?_, rfl⟩
        rw [decide_eq_false (ne2 (fun z => e (by rw [z]; rfl)))]
        rfl
  repeat (first | refine gkn rfl rfl ?_ | refine gkm rfl rfl ?_ | refine gad rfl ?_ | refine gml rfl ?_ | refine gsb rfl (by omega) ?_ | refine gdv rfl (by omega) (by omega) (by omega) ?_ | refine grm rfl (by omega) (by omega) (by omega) ?_ | refine gic rfl rfl ?_ | refine gp rfl rfl rfl ?_ | refine gFl rfl (by rfl) ?_ | refine gAl rfl rfl (by rfl) (by omega) ?_ | refine gBl rfl rfl (by rfl) (by omega) ?_)
  rw [a1, c1]
  refine gcN rfl (by omega) (by omega) (fun hne => ?_) (fun heq => ?_)
  · repeat (first | refine gkn rfl rfl ?_ | refine gkm rfl rfl ?_ | refine gad rfl ?_ | refine gml rfl ?_ | refine gsb rfl (by omega) ?_ | refine gdv rfl (by omega) (by omega) (by omega) ?_ | refine grm rfl (by omega) (by omega) (by omega) ?_ | refine gic rfl rfl ?_ | refine gp rfl rfl rfl ?_ | refine gFl rfl (by rfl) ?_ | refine gAl rfl rfl (by rfl) (by omega) ?_ | refine gBl rfl rfl (by rfl) (by omega) ?_)
    refine gri rfl (fun _ => Or.inl rfl) ⟨?_, rfl⟩
    rw [decide_eq_false (ne1 hne)]
    rfl
  · have heq : pK F = pK G := by
      by_cases z : pK F = pK G
      · exact z
      · exact absurd z heq
    repeat (first | refine gkn rfl rfl ?_ | refine gkm rfl rfl ?_ | refine gad rfl ?_ | refine gml rfl ?_ | refine gsb rfl (by omega) ?_ | refine gdv rfl (by omega) (by omega) (by omega) ?_ | refine grm rfl (by omega) (by omega) (by omega) ?_ | refine gic rfl rfl ?_ | refine gp rfl rfl rfl ?_ | refine gFl rfl (by rfl) ?_ | refine gAl rfl rfl (by rfl) (by omega) ?_ | refine gBl rfl rfl (by rfl) (by omega) ?_)
    rw [a1]
    by_cases hz : pK F = 0
    · first | refine gt0 rfl (by omega) (xN_ge (by omega)) ?_ | refine gt0 rfl (by omega) (xN_lt (by omega)) ?_ | refine gt0 rfl (by omega) (xN_eq (by omega)) ?_ | refine gt0 rfl (by omega) (xN_ne (by omega)) ?_ | refine gt0 rfl (by omega) (xN_gt (by omega)) ?_ | refine gt0 rfl (by omega) (xN_le (by omega)) ?_
      repeat (first | refine gkn rfl rfl ?_ | refine gkm rfl rfl ?_ | refine gad rfl ?_ | refine gml rfl ?_ | refine gsb rfl (by omega) ?_ | refine gdv rfl (by omega) (by omega) (by omega) ?_ | refine grm rfl (by omega) (by omega) (by omega) ?_ | refine gic rfl rfl ?_ | refine gp rfl rfl rfl ?_ | refine gFl rfl (by rfl) ?_ | refine gAl rfl rfl (by rfl) (by omega) ?_ | refine gBl rfl rfl (by rfl) (by omega) ?_)
      rw [a1]
      first | refine gt0 rfl (by omega) (xN_ge (by omega)) ?_ | refine gt0 rfl (by omega) (xN_lt (by omega)) ?_ | refine gt0 rfl (by omega) (xN_eq (by omega)) ?_ | refine gt0 rfl (by omega) (xN_ne (by omega)) ?_ | refine gt0 rfl (by omega) (xN_gt (by omega)) ?_ | refine gt0 rfl (by omega) (xN_le (by omega)) ?_
      repeat (first | refine gkn rfl rfl ?_ | refine gkm rfl rfl ?_ | refine gad rfl ?_ | refine gml rfl ?_ | refine gsb rfl (by omega) ?_ | refine gdv rfl (by omega) (by omega) (by omega) ?_ | refine grm rfl (by omega) (by omega) (by omega) ?_ | refine gic rfl rfl ?_ | refine gp rfl rfl rfl ?_ | refine gFl rfl (by rfl) ?_ | refine gAl rfl rfl (by rfl) (by omega) ?_ | refine gBl rfl rfl (by rfl) (by omega) ?_)
      refine gri rfl (fun _ => Or.inr rfl) ⟨?_, rfl⟩
      rw [decide_eq_true (inj heq (by rw [z2 (z1.mp hz), z3 (z4.mp (by omega))]))]
      rfl
    · first | refine gf0 rfl (by omega) (nN_ge (by omega)) ?_ | refine gf0 rfl (by omega) (nN_lt (by omega)) ?_ | refine gf0 rfl (by omega) (nN_eq (by omega)) ?_ | refine gf0 rfl (by omega) (nN_ne (by omega)) ?_ | refine gf0 rfl (by omega) (nN_gt (by omega)) ?_ | refine gf0 rfl (by omega) (nN_le (by omega)) ?_
      repeat (first | refine gkn rfl rfl ?_ | refine gkm rfl rfl ?_ | refine gad rfl ?_ | refine gml rfl ?_ | refine gsb rfl (by omega) ?_ | refine gdv rfl (by omega) (by omega) (by omega) ?_ | refine grm rfl (by omega) (by omega) (by omega) ?_ | refine gic rfl rfl ?_ | refine gp rfl rfl rfl ?_ | refine gFl rfl (by rfl) ?_ | refine gAl rfl rfl (by rfl) (by omega) ?_ | refine gBl rfl rfl (by rfl) (by omega) ?_)
      rw [a2, c2]
      refine gcN rfl (by omega) (by omega) (fun hl => ?_) (fun hl => ?_)
      · repeat (first | refine gkn rfl rfl ?_ | refine gkm rfl rfl ?_ | refine gad rfl ?_ | refine gml rfl ?_ | refine gsb rfl (by omega) ?_ | refine gdv rfl (by omega) (by omega) (by omega) ?_ | refine grm rfl (by omega) (by omega) (by omega) ?_ | refine gic rfl rfl ?_ | refine gp rfl rfl rfl ?_ | refine gFl rfl (by rfl) ?_ | refine gAl rfl rfl (by rfl) (by omega) ?_ | refine gBl rfl rfl (by rfl) (by omega) ?_)
        rw [a1]
        exact loop heq hz hl _ 0 (Nat.zero_add _) (fun j hj => absurd hj (Nat.not_lt_zero _))
      · repeat (first | refine gkn rfl rfl ?_ | refine gkm rfl rfl ?_ | refine gad rfl ?_ | refine gml rfl ?_ | refine gsb rfl (by omega) ?_ | refine gdv rfl (by omega) (by omega) (by omega) ?_ | refine grm rfl (by omega) (by omega) (by omega) ?_ | refine gic rfl rfl ?_ | refine gp rfl rfl rfl ?_ | refine gFl rfl (by rfl) ?_ | refine gAl rfl rfl (by rfl) (by omega) ?_ | refine gBl rfl rfl (by rfl) (by omega) ?_)
        refine gri rfl (fun _ => Or.inl rfl) ⟨?_, rfl⟩
        rw [decide_eq_false (ne2 (fun z => hl (show (pLn F).length = (pLn G).length by rw [z])))]
        rfl
end REF
/-- the least of those from 64 - k on -/
def gF (P : Nat → Bool) : Nat → Option Nat
  | 0 => none
  | k + 1 => if P (63 - k) then some (63 - k) else gF P k
theorem gF_in {P : Nat → Bool} : ∀ {k : Nat}, k ≤ 64 → (gF P k = none → ∀ j, 64 - k ≤ j → j < 64 → P j = false) ∧ (∀ i, gF P k = some i → 64 - k ≤ i ∧ i < 64 ∧ P i = true ∧ ∀ j, 64 - k ≤ j → j < i → P j = false)
  | 0, _ => ⟨fun _ j h1 h2 => by omega, fun i h => by cases h⟩
  | k + 1, hk => by
    obtain ⟨h1, h2⟩ := gF_in (P := P) (k := k) (by omega)
    unfold gF
    cases hP : P (63 - k) with
    | true =>
      refine ⟨fun h => (by cases h), fun i h => ?_⟩
      cases h
      exact ⟨by omega, by omega, hP, fun j a b => by omega⟩
    | false =>
      refine ⟨fun h j a b => ?_, fun i h => ?_⟩
      · by_cases e : j = 63 - k
        · rw [e]; exact hP
        · exact h1 h j (by omega) b
      · obtain ⟨g1, g2, g3, g4⟩ := h2 i h
        refine ⟨by omega, g2, g3, fun j a b => ?_⟩
        by_cases e : j = 63 - k
        · rw [e]; exact hP
        · exact g4 j (by omega) b
theorem gF_64 (P : Nat → Bool) : gF P 64 = pFst P 64 := by
  obtain ⟨h1, h2⟩ := gF_in (P := P) (k := 64) (Nat.le_refl _)
  cases hg : gF P 64 with
  | none => exact (pFst_none (fun j hj => h1 hg j (by omega) hj)).symm
  | some i =>
    obtain ⟨-, g2, g3, g4⟩ := h2 i hg
    exact (pFst_hit (pFst_none (fun j hj => g4 j (by omega) hj)) g3 g2).symm
theorem gF_lt {P : Nat → Bool} {k i : Nat} (hk : k ≤ 64) (h : gF P k = some i) : i < 64 := ((gF_in hk).2 i h).2.1
section REF
variable {σ : xS} {I : Nat → Int32} {A : Nat → Nat → Int32} {W : Nat → pT} {s : Nat}
theorem rExS_B {B T : pT} {R : pR} {q : Nat} (h : rB R) (hq : q < 64) : rB (rExS B T R q) := by
  unfold rExS
  split
  · split
    · rename_i p hp
      exact rJ_B h (pPick_in hp).1 hq
    · exact h
  · exact h
theorem rExA_B {B T : pT} {R : pR} (h : rB R) : ∀ n, n ≤ 64 → rB (rExA B T R n)
  | 0, _ => h
  | n + 1, hn => rExS_B (rExA_B h n (by omega)) (by omega)
theorem r_exact (d : Nat) {R : pR} (h : mV A W) (hR : mR A s R) (hs : s = 1 ∨ s = 2) : ∃ A', xEx (d + 3) 105 [.inr (some 52), .inl (nI s)] (mU σ I A) none (mU σ I A') ∧ mR A' s (rExA (W 0) (W s) R 64) ∧ aR s A A' := by
  let K : Option xV → xS → Prop := fun r0 σ0 => r0 = none ∧ ∃ A', σ0 = mU σ I A' ∧ mR A' s (rExA (W 0) (W s) R 64) ∧ aR s A A'
  have outer : ∀ k q (B : Nat → Nat → Int32) (x y z : Option xV), q + k = 64 → mR B s (rExA (W 0) (W s) R q) → aR s A B → xGo (xEx (d + 2)) xtb_105 K (5, [some (.inr (some 52)), some (.inl (nI s)), some (.inl (nI q)), x, y, z], [.inl (nI 64), .inl (nI q)], mU σ I B) := by
    intro k
    induction k with
    | zero =>
      intro q B x y z hq hB hF
      obtain rfl : q = 64 := by omega
      first | refine gtN rfl (by omega) (by omega) (xN_ge (by omega)) ?_ | refine gtN rfl (by omega) (by omega) (xN_lt (by omega)) ?_ | refine gtN rfl (by omega) (by omega) (xN_eq (by omega)) ?_ | refine gtN rfl (by omega) (by omega) (xN_ne (by omega)) ?_ | refine gtN rfl (by omega) (by omega) (xN_gt (by omega)) ?_ | refine gtN rfl (by omega) (by omega) (xN_le (by omega)) ?_
      exact grv rfl ⟨rfl, B, rfl, hB, hF⟩
    | succ k ih =>
      intro q B x y z hq hB hF
      have hq64 : q < 64 := by omega
      have hV := h.aR hF
      have ih' := fun B x y z => ih (q + 1) B x y z (by omega)
      have eX : rExA (W 0) (W s) R (q + 1) = rExS (W 0) (W s) (rExA (W 0) (W s) R q) q := rfl
      rw [eX] at ih'
      have hBB := hB
      generalize rExA (W 0) (W s) R q = R1 at *
      obtain ⟨hb, -, -⟩ := hB
      have leave : ∀ (n l : Option Nat) (z : Option xV), (∀ i, n = some i → i < 64) → (∀ i, l = some i → i < 64) → (rTL (W 0) (W s) R1 q = true → n = pFst (fun p => (rSL (W 0) (W s) R1 p && decide (W 0 p = W s q)) && decide (p % 8 = q % 8)) 64 ∧ l = pFst (fun p => rSL (W 0) (W s) R1 p && decide (W 0 p = W s q)) 64) → (rTL (W 0) (W s) R1 q = false → l = none) → xGo (xEx (d + 2)) xtb_105 K (82, [some (.inr (some 52)), some (.inl (nI s)), some (.inl (nI q)), some (.inl (oI n)), some (.inl (oI l)), z], [], mU σ I B) := by
        intro n l z hn hl ht hf
        repeat (first | refine gkn rfl rfl ?_ | refine gkm rfl rfl ?_ | refine gad rfl ?_ | refine gml rfl ?_ | refine gsb rfl (by omega) ?_ | refine gdv rfl (by omega) (by omega) (by omega) ?_ | refine grm rfl (by omega) (by omega) (by omega) ?_ | refine gic rfl rfl ?_ | refine gp rfl rfl rfl ?_ | refine gFl rfl (by rfl) ?_ | refine gAl rfl rfl (by rfl) (by omega) ?_ | refine gBl rfl rfl (by rfl) (by omega) ?_)
        refine gif' rfl (fun h0 => ?_) (fun h0 => ?_)
        · have h0 := (oI_lt0 hl).mp h0
          repeat (first | refine gkn rfl rfl ?_ | refine gkm rfl rfl ?_ | refine gad rfl ?_ | refine gml rfl ?_ | refine gsb rfl (by omega) ?_ | refine gdv rfl (by omega) (by omega) (by omega) ?_ | refine grm rfl (by omega) (by omega) (by omega) ?_ | refine gic rfl rfl ?_ | refine gp rfl rfl rfl ?_ | refine gFl rfl (by rfl) ?_ | refine gAl rfl rfl (by rfl) (by omega) ?_ | refine gBl rfl rfl (by rfl) (by omega) ?_)
          refine ih' B _ _ _ ?_ hF
          have e : rExS (W 0) (W s) R1 q = R1 := by
            unfold rExS
            cases htl : rTL (W 0) (W s) R1 q with
            | false => rfl
            | true =>
              obtain ⟨e1, e2⟩ := ht htl
              have e3 : pPick (fun p => rSL (W 0) (W s) R1 p && decide (W 0 p = W s q)) (q % 8) = none := by
                cases hpk : pPick (fun p => rSL (W 0) (W s) R1 p && decide (W 0 p = W s q)) (q % 8) with
                | none => rfl
                | some i =>
                  exfalso
                  obtain ⟨i1, i2⟩ := pPick_in hpk
                  rw [h0] at e2
                  have hcon : ∀ m, (∀ j, j < m → (rSL (W 0) (W s) R1 j && decide (W 0 j = W s q)) = false) ∨ ∃ j, j < m ∧ (rSL (W 0) (W s) R1 j && decide (W 0 j = W s q)) = true ∧ ∀ j', j' < j → (rSL (W 0) (W s) R1 j' && decide (W 0 j' = W s q)) = false := by
                    intro m
                    induction m with
                    | zero => exact Or.inl (fun j hj => by omega)
                    | succ m ihm =>
                      rcases ihm with a | ⟨j, j1, j2, j3⟩
                      · cases hm : (rSL (W 0) (W s) R1 m && decide (W 0 m = W s q)) with
                        | true => exact Or.inr ⟨m, by omega, hm, a⟩
                        | false =>
                          refine Or.inl (fun j hj => ?_)
                          by_cases e : j = m
                          · rw [e]; exact hm
                          · exact a j (by omega)
                      · exact Or.inr ⟨j, by omega, j2, j3⟩
                  rcases hcon 64 with a | ⟨j, j1, j2, j3⟩
                  · rw [a i i1] at i2; cases i2
                  · rw [pFst_hit (pFst_none j3) j2 j1] at e2; cases e2
              rw [e3]
              rfl
          rw [e]
          exact hBB
        · have hl0 : ∃ i, l = some i := by
            cases l with
            | none => exact absurd (show oI none < 0 by decide) h0
            | some i => exact ⟨i, rfl⟩
          obtain ⟨i, rfl⟩ := hl0
          have htl : rTL (W 0) (W s) R1 q = true := by
            cases hq0 : rTL (W 0) (W s) R1 q with
            | true => rfl
            | false => have := hf hq0; cases this
          obtain ⟨e1, e2⟩ := ht htl
          have hi := hl i rfl
          have fin : ∀ p, p < 64 → pPick (fun p => rSL (W 0) (W s) R1 p && decide (W 0 p = W s q)) (q % 8) = some p → xGo (xEx (d + 2)) xtb_105 K (100, [some (.inr (some 52)), some (.inl (nI s)), some (.inl (nI q)), some (.inl (oI n)), some (.inl (oI (some i))), z], [.inl (nI q), .inl (nI p), .inl (nI s), .inr (some 52)], mU σ I B) := by
            intro p hp hpk
            obtain ⟨B', y1, y2, y3⟩ := r_join (σ := σ) (I := I) (d + 1) hBB hs hp hq64
            refine gcv (As := [.inl (nI s), .inl (nI p), .inl (nI q)]) (rest := []) rfl (by decide) y1 (mU_obj _ _ _) rfl rfl (by decide) ?_
            repeat (first | refine gkn rfl rfl ?_ | refine gkm rfl rfl ?_ | refine gad rfl ?_ | refine gml rfl ?_ | refine gsb rfl (by omega) ?_ | refine gdv rfl (by omega) (by omega) (by omega) ?_ | refine grm rfl (by omega) (by omega) (by omega) ?_ | refine gic rfl rfl ?_ | refine gp rfl rfl rfl ?_ | refine gFl rfl (by rfl) ?_ | refine gAl rfl rfl (by rfl) (by omega) ?_ | refine gBl rfl rfl (by rfl) (by omega) ?_)
            refine ih' B' _ _ _ ?_ (hF.trans y3)
            have e : rExS (W 0) (W s) R1 q = rJ R1 p q := by
              unfold rExS
              rw [htl, hpk]
              rfl
            rw [e]
            exact y2
          repeat (first | refine gkn rfl rfl ?_ | refine gkm rfl rfl ?_ | refine gad rfl ?_ | refine gml rfl ?_ | refine gsb rfl (by omega) ?_ | refine gdv rfl (by omega) (by omega) (by omega) ?_ | refine grm rfl (by omega) (by omega) (by omega) ?_ | refine gic rfl rfl ?_ | refine gp rfl rfl rfl ?_ | refine gFl rfl (by rfl) ?_ | refine gAl rfl rfl (by rfl) (by omega) ?_ | refine gBl rfl rfl (by rfl) (by omega) ?_)
          refine gif' rfl (fun h0 => ?_) (fun h0 => ?_)
          · have h0 := (oI_lt0 hn).mp h0
            repeat (first | refine gkn rfl rfl ?_ | refine gkm rfl rfl ?_ | refine gad rfl ?_ | refine gml rfl ?_ | refine gsb rfl (by omega) ?_ | refine gdv rfl (by omega) (by omega) (by omega) ?_ | refine grm rfl (by omega) (by omega) (by omega) ?_ | refine gic rfl rfl ?_ | refine gp rfl rfl rfl ?_ | refine gFl rfl (by rfl) ?_ | refine gAl rfl rfl (by rfl) (by omega) ?_ | refine gBl rfl rfl (by rfl) (by omega) ?_)
            refine fin i hi ?_
            unfold pPick
            rw [← e1, h0]
            exact e2.symm
          · cases n with
            | none => exact absurd (show oI none < 0 by decide) h0
            | some m =>
              repeat (first | refine gkn rfl rfl ?_ | refine gkm rfl rfl ?_ | refine gad rfl ?_ | refine gml rfl ?_ | refine gsb rfl (by omega) ?_ | refine gdv rfl (by omega) (by omega) (by omega) ?_ | refine grm rfl (by omega) (by omega) (by omega) ?_ | refine gic rfl rfl ?_ | refine gp rfl rfl rfl ?_ | refine gFl rfl (by rfl) ?_ | refine gAl rfl rfl (by rfl) (by omega) ?_ | refine gBl rfl rfl (by rfl) (by omega) ?_)
              refine fin m (hn m rfl) ?_
              unfold pPick
              rw [← e1]
      have inner : rTL (W 0) (W s) R1 q = true → ∀ k, k ≤ 64 → xGo (xEx (d + 2)) xtb_105 K (19, [some (.inr (some 52)), some (.inl (nI s)), some (.inl (nI q)), some (.inl (oI (gF (fun p => (rSL (W 0) (W s) R1 p && decide (W 0 p = W s q)) && decide (p % 8 = q % 8)) (64 - k)))), some (.inl (oI (gF (fun p => rSL (W 0) (W s) R1 p && decide (W 0 p = W s q)) (64 - k)))), some (.inl (dI k))], [.inl (dI k)], mU σ I B) := by
        intro htl k
        induction k with
        | zero =>
          intro _
          refine git rfl (show (-1 : Int32) < 0 by decide) ?_
          refine leave _ _ _ (fun i hi => gF_lt (by omega) hi) (fun i hi => gF_lt (by omega) hi) (fun _ => ⟨gF_64 _, gF_64 _⟩) (fun hz => by rw [htl] at hz; cases hz)
        | succ j ih2 =>
          intro hj
          have ih2 := ih2 (by omega)
          rw [show 64 - j = (64 - (j + 1)) + 1 by omega] at ih2
          unfold gF at ih2
          rw [show 63 - (64 - (j + 1)) = j by omega] at ih2
          refine gf0 rfl (show j < 2147483648 by omega) (by simp only [xcN]; omega) ?_
          repeat (first | refine gkn rfl rfl ?_ | refine gkm rfl rfl ?_ | refine gad rfl ?_ | refine gml rfl ?_ | refine gsb rfl (by omega) ?_ | refine gdv rfl (by omega) (by omega) (by omega) ?_ | refine grm rfl (by omega) (by omega) (by omega) ?_ | refine gic rfl rfl ?_ | refine gp rfl rfl rfl ?_ | refine gFl rfl (by rfl) ?_ | refine gAl rfl rfl (by rfl) (by omega) ?_ | refine gBl rfl rfl (by rfl) (by omega) ?_)
          refine gcv (As := [.inl (nI s), .inl (nI q)]) (rest := []) rfl (by decide) (r_targetLeft d hV hBB hs hq64) (mU_obj _ _ _) rfl rfl (by decide) ?_
          refine gbe rfl (fun hz => by rw [htl] at hz; cases hz) (fun _ => ?_)
          refine gp rfl rfl rfl ?_
          refine gp rfl rfl rfl ?_
          refine gp rfl rfl (s' := (_, _, [.inl (nI j), .inl (nI s), .inr (some 52)], _)) rfl ?_
          refine gcv (As := [.inl (nI s), .inl (nI j)]) (rest := []) rfl (by decide) (r_sourceLeft d hV hBB hs (show j < 64 by omega)) (mU_obj _ _ _) rfl rfl (by decide) ?_
          refine gbe rfl (fun hz => ?_) (fun hz => ?_)
          · rw [hz] at ih2
            refine gp rfl rfl (s' := (_, [_, _, _, _, _, some (.inl (nI j + xk 1 1))], _, _)) rfl ?_
            rw [dI_dec]
            repeat (first | refine gkn rfl rfl ?_ | refine gkm rfl rfl ?_ | refine gad rfl ?_ | refine gml rfl ?_ | refine gsb rfl (by omega) ?_ | refine gdv rfl (by omega) (by omega) (by omega) ?_ | refine grm rfl (by omega) (by omega) (by omega) ?_ | refine gic rfl rfl ?_ | refine gp rfl rfl rfl ?_ | refine gFl rfl (by rfl) ?_ | refine gAl rfl rfl (by rfl) (by omega) ?_ | refine gBl rfl rfl (by rfl) (by omega) ?_)
            exact ih2
          · rw [hz] at ih2
            repeat (first | refine gkn rfl rfl ?_ | refine gkm rfl rfl ?_ | refine gad rfl ?_ | refine gml rfl ?_ | refine gsb rfl (by omega) ?_ | refine gdv rfl (by omega) (by omega) (by omega) ?_ | refine grm rfl (by omega) (by omega) (by omega) ?_ | refine gic rfl rfl ?_ | refine gp rfl rfl rfl ?_ | refine gFl rfl (by rfl) ?_ | refine gAl rfl rfl (by rfl) (by omega) ?_ | refine gBl rfl rfl (by rfl) (by omega) ?_)
            refine gcv (As := [.inl (nI 0), .inl (nI j), .inl (nI s), .inl (nI q)]) (rest := []) rfl (by decide) (r_alike d hV (by decide) (show j < 64 by omega) (show s < 7 by omega) hq64) (mU_obj _ _ _) rfl rfl (by decide) ?_
            refine gbe rfl (fun hz2 => ?_) (fun hz2 => ?_)
            · rw [hz2] at ih2
              refine gp rfl rfl (s' := (_, [_, _, _, _, _, some (.inl (nI j + xk 1 1))], _, _)) rfl ?_
              rw [dI_dec]
              repeat (first | refine gkn rfl rfl ?_ | refine gkm rfl rfl ?_ | refine gad rfl ?_ | refine gml rfl ?_ | refine gsb rfl (by omega) ?_ | refine gdv rfl (by omega) (by omega) (by omega) ?_ | refine grm rfl (by omega) (by omega) (by omega) ?_ | refine gic rfl rfl ?_ | refine gp rfl rfl rfl ?_ | refine gFl rfl (by rfl) ?_ | refine gAl rfl rfl (by rfl) (by omega) ?_ | refine gBl rfl rfl (by rfl) (by omega) ?_)
              exact ih2
            · rw [hz2] at ih2
              refine gp rfl rfl (s' := (_, _, [.inl (nI j)], _)) rfl ?_
              refine gp rfl rfl rfl ?_
              refine gp rfl rfl (s' := (_, _, [.inl (nI j)], _)) rfl ?_
              repeat (first | refine gkn rfl rfl ?_ | refine gkm rfl rfl ?_ | refine gad rfl ?_ | refine gml rfl ?_ | refine gsb rfl (by omega) ?_ | refine gdv rfl (by omega) (by omega) (by omega) ?_ | refine grm rfl (by omega) (by omega) (by omega) ?_ | refine gic rfl rfl ?_ | refine gp rfl rfl rfl ?_ | refine gFl rfl (by rfl) ?_ | refine gAl rfl rfl (by rfl) (by omega) ?_ | refine gBl rfl rfl (by rfl) (by omega) ?_)
              refine gcN rfl (by omega) (by omega) (fun hne => ?_) (fun heq => ?_)
              · have hne : ¬ j % 8 = q % 8 := hne
                rw [decide_eq_false hne] at ih2
                refine gp rfl rfl rfl ?_
                refine gp rfl rfl rfl ?_
                refine gp rfl rfl (s' := (_, [_, _, _, _, _, some (.inl (nI j + xk 1 1))], _, _)) rfl ?_
                rw [dI_dec]
                repeat (first | refine gkn rfl rfl ?_ | refine gkm rfl rfl ?_ | refine gad rfl ?_ | refine gml rfl ?_ | refine gsb rfl (by omega) ?_ | refine gdv rfl (by omega) (by omega) (by omega) ?_ | refine grm rfl (by omega) (by omega) (by omega) ?_ | refine gic rfl rfl ?_ | refine gp rfl rfl rfl ?_ | refine gFl rfl (by rfl) ?_ | refine gAl rfl rfl (by rfl) (by omega) ?_ | refine gBl rfl rfl (by rfl) (by omega) ?_)
                exact ih2
              · have heq : j % 8 = q % 8 := by
                  by_cases z : j % 8 = q % 8
                  · exact z
                  · exact absurd z heq
                rw [decide_eq_true heq] at ih2
                refine gp rfl rfl (s' := (_, _, [.inl (nI j)], _)) rfl ?_
                refine gp rfl rfl rfl ?_
                refine gp rfl rfl rfl ?_
                refine gp rfl rfl (s' := (_, [_, _, _, _, _, some (.inl (nI j + xk 1 1))], _, _)) rfl ?_
                rw [dI_dec]
                repeat (first | refine gkn rfl rfl ?_ | refine gkm rfl rfl ?_ | refine gad rfl ?_ | refine gml rfl ?_ | refine gsb rfl (by omega) ?_ | refine gdv rfl (by omega) (by omega) (by omega) ?_ | refine grm rfl (by omega) (by omega) (by omega) ?_ | refine gic rfl rfl ?_ | refine gp rfl rfl rfl ?_ | refine gFl rfl (by rfl) ?_ | refine gAl rfl rfl (by rfl) (by omega) ?_ | refine gBl rfl rfl (by rfl) (by omega) ?_)
                exact ih2
      first | refine gfN rfl (by omega) (by omega) (nN_ge (by omega)) ?_ | refine gfN rfl (by omega) (by omega) (nN_lt (by omega)) ?_ | refine gfN rfl (by omega) (by omega) (nN_eq (by omega)) ?_ | refine gfN rfl (by omega) (by omega) (nN_ne (by omega)) ?_ | refine gfN rfl (by omega) (by omega) (nN_gt (by omega)) ?_ | refine gfN rfl (by omega) (by omega) (nN_le (by omega)) ?_
      repeat (first | refine gkn rfl rfl ?_ | refine gkm rfl rfl ?_ | refine gad rfl ?_ | refine gml rfl ?_ | refine gsb rfl (by omega) ?_ | refine gdv rfl (by omega) (by omega) (by omega) ?_ | refine grm rfl (by omega) (by omega) (by omega) ?_ | refine gic rfl rfl ?_ | refine gp rfl rfl rfl ?_ | refine gFl rfl (by rfl) ?_ | refine gAl rfl rfl (by rfl) (by omega) ?_ | refine gBl rfl rfl (by rfl) (by omega) ?_)
      cases htl : rTL (W 0) (W s) R1 q with
      | true => exact inner htl 64 (Nat.le_refl _)
      | false =>
        refine gf0 rfl (show 63 < 2147483648 by omega) (by simp only [xcN]; omega) ?_
        repeat (first | refine gkn rfl rfl ?_ | refine gkm rfl rfl ?_ | refine gad rfl ?_ | refine gml rfl ?_ | refine gsb rfl (by omega) ?_ | refine gdv rfl (by omega) (by omega) (by omega) ?_ | refine grm rfl (by omega) (by omega) (by omega) ?_ | refine gic rfl rfl ?_ | refine gp rfl rfl rfl ?_ | refine gFl rfl (by rfl) ?_ | refine gAl rfl rfl (by rfl) (by omega) ?_ | refine gBl rfl rfl (by rfl) (by omega) ?_)
        refine gcv (As := [.inl (nI s), .inl (nI q)]) (rest := []) rfl (by decide) (r_targetLeft d hV hBB hs hq64) (mU_obj _ _ _) rfl rfl (by decide) ?_
        refine gbe rfl (fun _ => ?_) (fun hz => by rw [htl] at hz; cases hz)
        exact leave none none _ (fun i hi => by cases hi) (fun i hi => by cases hi) (fun hz => by rw [htl] at hz; cases hz) (fun _ => rfl)
  have main : xGo (xEx (d + 2)) xtb_105 K (0, [some (.inr (some 52)), some (.inl (nI s)), none, none, none, none], [], mU σ I A) := by
    repeat (first | refine gkn rfl rfl ?_ | refine gkm rfl rfl ?_ | refine gad rfl ?_ | refine gml rfl ?_ | refine gsb rfl (by omega) ?_ | refine gdv rfl (by omega) (by omega) (by omega) ?_ | refine grm rfl (by omega) (by omega) (by omega) ?_ | refine gic rfl rfl ?_ | refine gp rfl rfl rfl ?_ | refine gFl rfl (by rfl) ?_ | refine gAl rfl rfl (by rfl) (by omega) ?_ | refine gBl rfl rfl (by rfl) (by omega) ?_)
    exact outer 64 0 A none none none rfl hR (aR.refl _ _)
  obtain ⟨r, σ', hex, rfl, A', rfl, g⟩ := ex_of (d := d + 2) (y := 105) (as := [.inr (some 52), .inl (nI s)]) (σ := mU σ I A) (K := K) (by decide) rfl main
  exact ⟨A', hex, g⟩
end REF
