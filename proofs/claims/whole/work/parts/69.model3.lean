/-! MODULE: the reference: its files -/
def rRm (t : Nat) : Nat := if t < 3 then 8 else if t = 3 then 76 else if t = 4 then 8 else 36
def pK (F : Option pF) : Nat := match F with
  | none => 0
  | some F => if F.1 then 2 else 1
theorem pK_le (F : Option pF) : pK F ≤ 2 := by
  unfold pK
  split
  · omega
  · split <;> omega
theorem pK_0 {F : Option pF} : pK F = 0 ↔ F.isSome = false := by
  cases F with
  | none => simp [pK]
  | some F =>
    simp [pK]
    split <;> omega
theorem pK_inj {F G : Option pF} (h : pK F = pK G) (h2 : pLn F = pLn G) : F = G := by
  match F, G, h, h2 with
  | none, none, _, _ => rfl
  | none, some (g, m), h, _ => cases g <;> simp [pK] at h
  | some (f, l), none, h, _ => cases f <;> simp [pK] at h
  | some (f, l), some (g, m), h, h2 =>
    have e : l = m := h2
    subst e
    cases f <;> cases g <;> simp [pK] at h ⊢
/-- the file F lies at (t, p) -/
def mF1 (A : Nat → Nat → Int32) (t p : Nat) (F : Option pF) : Prop := A 53 (64 * t + p) = nI (pK F) ∧ A 54 (64 * t + p) = nI (pLn F).length ∧ (pLn F).length ≤ rRm t ∧ pOK (pLn F) ∧ ∀ j, j < (pLn F).length → A 55 (rSt t p + j) = (pLn F).getD j 0
def mV (A : Nat → Nat → Int32) (W : Nat → pT) : Prop := ∀ t p, t < 7 → p < 64 → mF1 A t p (W t p)
theorem rRm_le {t : Nat} : rRm t ≤ 76 := by
  unfold rRm
  split
  · omega
  · split
    · omega
    · split <;> omega
theorem rSt_lt {t p j : Nat} (ht : t < 7) (hp : p < 64) (hj : j < rRm t) : rSt t p + j < 11520 := by
  unfold rSt
  unfold rRm at hj
  by_cases h1 : t < 3
  · rw [if_pos h1] at hj ⊢; omega
  · rw [if_neg h1] at hj ⊢
    by_cases h2 : t = 3
    · rw [if_pos h2] at hj ⊢; omega
    · rw [if_neg h2] at hj ⊢
      by_cases h3 : t = 4
      · rw [if_pos h3] at hj ⊢; omega
      · rw [if_neg h3] at hj ⊢; omega
/-- where: the group of trees, and the place in it -/
theorem rSt_grp {t p j : Nat} (ht : t < 7) (hp : p < 64) (hj : j < rRm t) : (t < 3 ∧ rSt t p = (64 * t + p) * 8 ∧ rRm t = 8) ∨ (t = 3 ∧ rSt t p = 1536 + p * 76 ∧ rRm t = 76) ∨ (t = 4 ∧ rSt t p = 6400 + p * 8 ∧ rRm t = 8) ∨ (5 ≤ t ∧ rSt t p = 6912 + (64 * (t - 5) + p) * 36 ∧ rRm t = 36) := by
  unfold rSt rRm
  by_cases h1 : t < 3
  · left; rw [if_pos h1, if_pos h1]; exact ⟨h1, rfl, rfl⟩
  · right
    rw [if_neg h1, if_neg h1]
    by_cases h2 : t = 3
    · left; rw [if_pos h2, if_pos h2]; exact ⟨h2, rfl, rfl⟩
    · right
      rw [if_neg h2, if_neg h2]
      by_cases h3 : t = 4
      · left; rw [if_pos h3, if_pos h3]; exact ⟨h3, rfl, rfl⟩
      · right; rw [if_neg h3, if_neg h3]; exact ⟨by omega, rfl, rfl⟩
theorem rSt_dis {t p j t' p' j' : Nat} (ht : t < 7) (hp : p < 64) (hj : j < rRm t) (ht' : t' < 7) (hp' : p' < 64) (hj' : j' < rRm t') (h : rSt t p + j = rSt t' p' + j') : t = t' ∧ p = p' ∧ j = j' := by
  rcases rSt_grp ht hp hj with ⟨a1, a2, a3⟩ | ⟨a1, a2, a3⟩ | ⟨a1, a2, a3⟩ | ⟨a1, a2, a3⟩ <;> rcases rSt_grp ht' hp' hj' with ⟨b1, b2, b3⟩ | ⟨b1, b2, b3⟩ | ⟨b1, b2, b3⟩ | ⟨b1, b2, b3⟩ <;> omega
/-- a file is laid: what is asked of the arrays -/
theorem mV_put {A A' : Nat → Nat → Int32} {W : Nat → pT} {t q : Nat} {F : Option pF} (h : mV A W) (ht : t < 7) (hq : q < 64) (hl : (pLn F).length ≤ rRm t) (ho : pOK (pLn F))
    (h1 : ∀ x, x ≠ 64 * t + q → A' 53 x = A 53 x) (h2 : A' 53 (64 * t + q) = nI (pK F)) (h3 : ∀ x, x ≠ 64 * t + q → A' 54 x = A 54 x) (h4 : A' 54 (64 * t + q) = nI (pLn F).length)
    (h5 : ∀ x, (x < rSt t q ∨ rSt t q + (pLn F).length ≤ x) → A' 55 x = A 55 x) (h6 : ∀ j, j < (pLn F).length → A' 55 (rSt t q + j) = (pLn F).getD j 0) : mV A' (vU W t (pLy (W t) q F)) := by
  intro t' p' ht' hp'
  by_cases e : t' = t ∧ p' = q
  · obtain ⟨rfl, rfl⟩ := e
    have e2 : vU W t' (pLy (W t') p' F) t' p' = F := by simp [vU, pLy]
    rw [e2]
    exact ⟨h2, h4, hl, ho, h6⟩
  · have e2 : vU W t (pLy (W t) q F) t' p' = W t' p' := by
      unfold vU pLy
      by_cases ht1 : t' = t
      · subst ht1
        simp only [if_true]
        rw [if_neg (fun z => e ⟨rfl, z⟩)]
      · rw [if_neg ht1]
    rw [e2]
    obtain ⟨g1, g2, g3, g4, g5⟩ := h t' p' ht' hp'
    refine ⟨?_, ?_, g3, g4, fun j hj => ?_⟩
    · rw [h1 _ (by omega)]; exact g1
    · rw [h3 _ (by omega)]; exact g2
    · rw [h5, g5 j hj]
      by_cases hx : rSt t' p' + j < rSt t q
      · exact Or.inl hx
      · refine Or.inr ?_
        by_cases hy : rSt t q + (pLn F).length ≤ rSt t' p' + j
        · exact hy
        · exfalso
          obtain ⟨z1, z2, -⟩ := rSt_dis (j := j) (j' := rSt t' p' + j - rSt t q) ht' hp' (by omega) ht hq (by omega) (by omega)
          exact e ⟨z1, z2⟩
def wAt (W : Nat → pT) (x y : Int32) : Option pF := match oN 7 x, oN 64 y with
  | some i, some j => W i j
  | _, _ => none
section REF
variable {σ : xS} {I : Nat → Int32} {A : Nat → Nat → Int32} {W : Nat → pT}
theorem r_has (d : Nat) {t p : Nat} (h : mV A W) (ht : t < 7) (hp : p < 64) : xEx (d + 1) 91 [.inr (some 52), .inl (nI t), .inl (nI p)] (mU σ I A) (some (.inl (bI (W t p).isSome))) (mU σ I A) := by
  refine ⟨by decide, rfl, ?_⟩
  show xGo (xEx d) xtb_91 _ (0, [some (.inr (some 52)), some (.inl (nI t)), some (.inl (nI p))], [], mU σ I A)
  repeat (first | refine gkn rfl rfl ?_ | refine gkm rfl rfl ?_ | refine gad rfl ?_ | refine gml rfl ?_ | refine gsb rfl (by omega) ?_ | refine gdv rfl (by omega) (by omega) (by omega) ?_ | refine grm rfl (by omega) (by omega) (by omega) ?_ | refine gic rfl rfl ?_ | refine gp rfl rfl rfl ?_ | refine gFl rfl (by rfl) ?_ | refine gAl rfl rfl (by rfl) (by omega) ?_ | refine gBl rfl rfl (by rfl) (by omega) ?_ | refine gfN rfl (by omega) (by omega) (nN_ge (by omega)) ?_ | refine gfN rfl (by omega) (by omega) (nN_lt (by omega)) ?_ | refine gfN rfl (by omega) (by omega) (nN_eq (by omega)) ?_ | refine gfN rfl (by omega) (by omega) (nN_ne (by omega)) ?_ | refine gfN rfl (by omega) (by omega) (nN_gt (by omega)) ?_ | refine gfN rfl (by omega) (by omega) (nN_le (by omega)) ?_ | refine gtN rfl (by omega) (by omega) (xN_ge (by omega)) ?_ | refine gtN rfl (by omega) (by omega) (xN_lt (by omega)) ?_ | refine gtN rfl (by omega) (by omega) (xN_eq (by omega)) ?_ | refine gtN rfl (by omega) (by omega) (xN_ne (by omega)) ?_ | refine gtN rfl (by omega) (by omega) (xN_gt (by omega)) ?_ | refine gtN rfl (by omega) (by omega) (xN_le (by omega)) ?_ | refine gf0 rfl (by omega) (nN_ge (by omega)) ?_ | refine gf0 rfl (by omega) (nN_lt (by omega)) ?_ | refine gf0 rfl (by omega) (nN_eq (by omega)) ?_ | refine gf0 rfl (by omega) (nN_ne (by omega)) ?_ | refine gf0 rfl (by omega) (nN_gt (by omega)) ?_ | refine gf0 rfl (by omega) (nN_le (by omega)) ?_ | refine gt0 rfl (by omega) (xN_ge (by omega)) ?_ | refine gt0 rfl (by omega) (xN_lt (by omega)) ?_ | refine gt0 rfl (by omega) (xN_eq (by omega)) ?_ | refine gt0 rfl (by omega) (xN_ne (by omega)) ?_ | refine gt0 rfl (by omega) (xN_gt (by omega)) ?_ | refine gt0 rfl (by omega) (xN_le (by omega)) ?_)
  obtain ⟨g1, -⟩ := h t p ht hp
  have g2 := pK_le (W t p)
  rw [g1]
  cases hW : (W t p).isSome with
  | false =>
    have e := pK_0.mpr hW
    repeat (first | refine gkn rfl rfl ?_ | refine gkm rfl rfl ?_ | refine gad rfl ?_ | refine gml rfl ?_ | refine gsb rfl (by omega) ?_ | refine gdv rfl (by omega) (by omega) (by omega) ?_ | refine grm rfl (by omega) (by omega) (by omega) ?_ | refine gic rfl rfl ?_ | refine gp rfl rfl rfl ?_ | refine gFl rfl (by rfl) ?_ | refine gAl rfl rfl (by rfl) (by omega) ?_ | refine gBl rfl rfl (by rfl) (by omega) ?_ | refine gfN rfl (by omega) (by omega) (nN_ge (by omega)) ?_ | refine gfN rfl (by omega) (by omega) (nN_lt (by omega)) ?_ | refine gfN rfl (by omega) (by omega) (nN_eq (by omega)) ?_ | refine gfN rfl (by omega) (by omega) (nN_ne (by omega)) ?_ | refine gfN rfl (by omega) (by omega) (nN_gt (by omega)) ?_ | refine gfN rfl (by omega) (by omega) (nN_le (by omega)) ?_ | refine gtN rfl (by omega) (by omega) (xN_ge (by omega)) ?_ | refine gtN rfl (by omega) (by omega) (xN_lt (by omega)) ?_ | refine gtN rfl (by omega) (by omega) (xN_eq (by omega)) ?_ | refine gtN rfl (by omega) (by omega) (xN_ne (by omega)) ?_ | refine gtN rfl (by omega) (by omega) (xN_gt (by omega)) ?_ | refine gtN rfl (by omega) (by omega) (xN_le (by omega)) ?_ | refine gf0 rfl (by omega) (nN_ge (by omega)) ?_ | refine gf0 rfl (by omega) (nN_lt (by omega)) ?_ | refine gf0 rfl (by omega) (nN_eq (by omega)) ?_ | refine gf0 rfl (by omega) (nN_ne (by omega)) ?_ | refine gf0 rfl (by omega) (nN_gt (by omega)) ?_ | refine gf0 rfl (by omega) (nN_le (by omega)) ?_ | refine gt0 rfl (by omega) (xN_ge (by omega)) ?_ | refine gt0 rfl (by omega) (xN_lt (by omega)) ?_ | refine gt0 rfl (by omega) (xN_eq (by omega)) ?_ | refine gt0 rfl (by omega) (xN_ne (by omega)) ?_ | refine gt0 rfl (by omega) (xN_gt (by omega)) ?_ | refine gt0 rfl (by omega) (xN_le (by omega)) ?_)
    exact gri rfl (fun _ => Or.inl rfl) ⟨rfl, rfl⟩
  | true =>
    have e : ¬ pK (W t p) = 0 := fun z => by rw [pK_0.mp z] at hW; cases hW
    repeat (first | refine gkn rfl rfl ?_ | refine gkm rfl rfl ?_ | refine gad rfl ?_ | refine gml rfl ?_ | refine gsb rfl (by omega) ?_ | refine gdv rfl (by omega) (by omega) (by omega) ?_ | refine grm rfl (by omega) (by omega) (by omega) ?_ | refine gic rfl rfl ?_ | refine gp rfl rfl rfl ?_ | refine gFl rfl (by rfl) ?_ | refine gAl rfl rfl (by rfl) (by omega) ?_ | refine gBl rfl rfl (by rfl) (by omega) ?_ | refine gfN rfl (by omega) (by omega) (nN_ge (by omega)) ?_ | refine gfN rfl (by omega) (by omega) (nN_lt (by omega)) ?_ | refine gfN rfl (by omega) (by omega) (nN_eq (by omega)) ?_ | refine gfN rfl (by omega) (by omega) (nN_ne (by omega)) ?_ | refine gfN rfl (by omega) (by omega) (nN_gt (by omega)) ?_ | refine gfN rfl (by omega) (by omega) (nN_le (by omega)) ?_ | refine gtN rfl (by omega) (by omega) (xN_ge (by omega)) ?_ | refine gtN rfl (by omega) (by omega) (xN_lt (by omega)) ?_ | refine gtN rfl (by omega) (by omega) (xN_eq (by omega)) ?_ | refine gtN rfl (by omega) (by omega) (xN_ne (by omega)) ?_ | refine gtN rfl (by omega) (by omega) (xN_gt (by omega)) ?_ | refine gtN rfl (by omega) (by omega) (xN_le (by omega)) ?_ | refine gf0 rfl (by omega) (nN_ge (by omega)) ?_ | refine gf0 rfl (by omega) (nN_lt (by omega)) ?_ | refine gf0 rfl (by omega) (nN_eq (by omega)) ?_ | refine gf0 rfl (by omega) (nN_ne (by omega)) ?_ | refine gf0 rfl (by omega) (nN_gt (by omega)) ?_ | refine gf0 rfl (by omega) (nN_le (by omega)) ?_ | refine gt0 rfl (by omega) (xN_ge (by omega)) ?_ | refine gt0 rfl (by omega) (xN_lt (by omega)) ?_ | refine gt0 rfl (by omega) (xN_eq (by omega)) ?_ | refine gt0 rfl (by omega) (xN_ne (by omega)) ?_ | refine gt0 rfl (by omega) (xN_gt (by omega)) ?_ | refine gt0 rfl (by omega) (xN_le (by omega)) ?_)
    exact gri rfl (fun _ => Or.inr rfl) ⟨rfl, rfl⟩
theorem r_hasX (d : Nat) {x y : Int32} (h : mV A W) : xEx (d + 1) 91 [.inr (some 52), .inl x, .inl y] (mU σ I A) (some (.inl (bI (wAt W x y).isSome))) (mU σ I A) := by
  unfold wAt
  rcases oN_cases (n := 7) (by decide) x with ⟨i, hi, rfl, e1⟩ | ⟨hn, e1⟩
  · rcases oN_cases (n := 64) (by decide) y with ⟨j, hj, rfl, e2⟩ | ⟨hn2, e2⟩
    · rw [e1, e2]
      exact r_has d h hi hj
    · rw [e1, e2]
      refine ⟨by decide, rfl, ?_⟩
      show xGo (xEx d) xtb_91 _ (0, [some (.inr (some 52)), some (.inl (nI i)), some (.inl y)], [], mU σ I A)
      repeat (first | refine gkn rfl rfl ?_ | refine gkm rfl rfl ?_ | refine gad rfl ?_ | refine gml rfl ?_ | refine gsb rfl (by omega) ?_ | refine gdv rfl (by omega) (by omega) (by omega) ?_ | refine grm rfl (by omega) (by omega) (by omega) ?_ | refine gic rfl rfl ?_ | refine gp rfl rfl rfl ?_ | refine gFl rfl (by rfl) ?_ | refine gAl rfl rfl (by rfl) (by omega) ?_ | refine gBl rfl rfl (by rfl) (by omega) ?_ | refine gfN rfl (by omega) (by omega) (nN_ge (by omega)) ?_ | refine gfN rfl (by omega) (by omega) (nN_lt (by omega)) ?_ | refine gfN rfl (by omega) (by omega) (nN_eq (by omega)) ?_ | refine gfN rfl (by omega) (by omega) (nN_ne (by omega)) ?_ | refine gfN rfl (by omega) (by omega) (nN_gt (by omega)) ?_ | refine gfN rfl (by omega) (by omega) (nN_le (by omega)) ?_ | refine gtN rfl (by omega) (by omega) (xN_ge (by omega)) ?_ | refine gtN rfl (by omega) (by omega) (xN_lt (by omega)) ?_ | refine gtN rfl (by omega) (by omega) (xN_eq (by omega)) ?_ | refine gtN rfl (by omega) (by omega) (xN_ne (by omega)) ?_ | refine gtN rfl (by omega) (by omega) (xN_gt (by omega)) ?_ | refine gtN rfl (by omega) (by omega) (xN_le (by omega)) ?_ | refine gf0 rfl (by omega) (nN_ge (by omega)) ?_ | refine gf0 rfl (by omega) (nN_lt (by omega)) ?_ | refine gf0 rfl (by omega) (nN_eq (by omega)) ?_ | refine gf0 rfl (by omega) (nN_ne (by omega)) ?_ | refine gf0 rfl (by omega) (nN_gt (by omega)) ?_ | refine gf0 rfl (by omega) (nN_le (by omega)) ?_ | refine gt0 rfl (by omega) (xN_ge (by omega)) ?_ | refine gt0 rfl (by omega) (xN_lt (by omega)) ?_ | refine gt0 rfl (by omega) (xN_eq (by omega)) ?_ | refine gt0 rfl (by omega) (xN_ne (by omega)) ?_ | refine gt0 rfl (by omega) (xN_gt (by omega)) ?_ | refine gt0 rfl (by omega) (xN_le (by omega)) ?_)
      refine gif' rfl (fun h0 => ?_) (fun h0 => ?_)
      · repeat (first | refine gkn rfl rfl ?_ | refine gkm rfl rfl ?_ | refine gad rfl ?_ | refine gml rfl ?_ | refine gsb rfl (by omega) ?_ | refine gdv rfl (by omega) (by omega) (by omega) ?_ | refine grm rfl (by omega) (by omega) (by omega) ?_ | refine gic rfl rfl ?_ | refine gp rfl rfl rfl ?_ | refine gFl rfl (by rfl) ?_ | refine gAl rfl rfl (by rfl) (by omega) ?_ | refine gBl rfl rfl (by rfl) (by omega) ?_ | refine gfN rfl (by omega) (by omega) (nN_ge (by omega)) ?_ | refine gfN rfl (by omega) (by omega) (nN_lt (by omega)) ?_ | refine gfN rfl (by omega) (by omega) (nN_eq (by omega)) ?_ | refine gfN rfl (by omega) (by omega) (nN_ne (by omega)) ?_ | refine gfN rfl (by omega) (by omega) (nN_gt (by omega)) ?_ | refine gfN rfl (by omega) (by omega) (nN_le (by omega)) ?_ | refine gtN rfl (by omega) (by omega) (xN_ge (by omega)) ?_ | refine gtN rfl (by omega) (by omega) (xN_lt (by omega)) ?_ | refine gtN rfl (by omega) (by omega) (xN_eq (by omega)) ?_ | refine gtN rfl (by omega) (by omega) (xN_ne (by omega)) ?_ | refine gtN rfl (by omega) (by omega) (xN_gt (by omega)) ?_ | refine gtN rfl (by omega) (by omega) (xN_le (by omega)) ?_ | refine gf0 rfl (by omega) (nN_ge (by omega)) ?_ | refine gf0 rfl (by omega) (nN_lt (by omega)) ?_ | refine gf0 rfl (by omega) (nN_eq (by omega)) ?_ | refine gf0 rfl (by omega) (nN_ne (by omega)) ?_ | refine gf0 rfl (by omega) (nN_gt (by omega)) ?_ | refine gf0 rfl (by omega) (nN_le (by omega)) ?_ | refine gt0 rfl (by omega) (xN_ge (by omega)) ?_ | refine gt0 rfl (by omega) (xN_lt (by omega)) ?_ | refine gt0 rfl (by omega) (xN_eq (by omega)) ?_ | refine gt0 rfl (by omega) (xN_ne (by omega)) ?_ | refine gt0 rfl (by omega) (xN_gt (by omega)) ?_ | refine gt0 rfl (by omega) (xN_le (by omega)) ?_)
        exact gri rfl (fun _ => Or.inl rfl) ⟨rfl, rfl⟩
      · repeat (first | refine gkn rfl rfl ?_ | refine gkm rfl rfl ?_ | refine gad rfl ?_ | refine gml rfl ?_ | refine gsb rfl (by omega) ?_ | refine gdv rfl (by omega) (by omega) (by omega) ?_ | refine grm rfl (by omega) (by omega) (by omega) ?_ | refine gic rfl rfl ?_ | refine gp rfl rfl rfl ?_ | refine gFl rfl (by rfl) ?_ | refine gAl rfl rfl (by rfl) (by omega) ?_ | refine gBl rfl rfl (by rfl) (by omega) ?_ | refine gfN rfl (by omega) (by omega) (nN_ge (by omega)) ?_ | refine gfN rfl (by omega) (by omega) (nN_lt (by omega)) ?_ | refine gfN rfl (by omega) (by omega) (nN_eq (by omega)) ?_ | refine gfN rfl (by omega) (by omega) (nN_ne (by omega)) ?_ | refine gfN rfl (by omega) (by omega) (nN_gt (by omega)) ?_ | refine gfN rfl (by omega) (by omega) (nN_le (by omega)) ?_ | refine gtN rfl (by omega) (by omega) (xN_ge (by omega)) ?_ | refine gtN rfl (by omega) (by omega) (xN_lt (by omega)) ?_ | refine gtN rfl (by omega) (by omega) (xN_eq (by omega)) ?_ | refine gtN rfl (by omega) (by omega) (xN_ne (by omega)) ?_ | refine gtN rfl (by omega) (by omega) (xN_gt (by omega)) ?_ | refine gtN rfl (by omega) (by omega) (xN_le (by omega)) ?_ | refine gf0 rfl (by omega) (nN_ge (by omega)) ?_ | refine gf0 rfl (by omega) (nN_lt (by omega)) ?_ | refine gf0 rfl (by omega) (nN_eq (by omega)) ?_ | refine gf0 rfl (by omega) (nN_ne (by omega)) ?_ | refine gf0 rfl (by omega) (nN_gt (by omega)) ?_ | refine gf0 rfl (by omega) (nN_le (by omega)) ?_ | refine gt0 rfl (by omega) (xN_ge (by omega)) ?_ | refine gt0 rfl (by omega) (xN_lt (by omega)) ?_ | refine gt0 rfl (by omega) (xN_eq (by omega)) ?_ | refine gt0 rfl (by omega) (xN_ne (by omega)) ?_ | refine gt0 rfl (by omega) (xN_gt (by omega)) ?_ | refine gt0 rfl (by omega) (xN_le (by omega)) ?_)
        refine gct rfl (show nI 63 < y from oN_hi (by decide) hn2 h0) ?_
        repeat (first | refine gkn rfl rfl ?_ | refine gkm rfl rfl ?_ | refine gad rfl ?_ | refine gml rfl ?_ | refine gsb rfl (by omega) ?_ | refine gdv rfl (by omega) (by omega) (by omega) ?_ | refine grm rfl (by omega) (by omega) (by omega) ?_ | refine gic rfl rfl ?_ | refine gp rfl rfl rfl ?_ | refine gFl rfl (by rfl) ?_ | refine gAl rfl rfl (by rfl) (by omega) ?_ | refine gBl rfl rfl (by rfl) (by omega) ?_ | refine gfN rfl (by omega) (by omega) (nN_ge (by omega)) ?_ | refine gfN rfl (by omega) (by omega) (nN_lt (by omega)) ?_ | refine gfN rfl (by omega) (by omega) (nN_eq (by omega)) ?_ | refine gfN rfl (by omega) (by omega) (nN_ne (by omega)) ?_ | refine gfN rfl (by omega) (by omega) (nN_gt (by omega)) ?_ | refine gfN rfl (by omega) (by omega) (nN_le (by omega)) ?_ | refine gtN rfl (by omega) (by omega) (xN_ge (by omega)) ?_ | refine gtN rfl (by omega) (by omega) (xN_lt (by omega)) ?_ | refine gtN rfl (by omega) (by omega) (xN_eq (by omega)) ?_ | refine gtN rfl (by omega) (by omega) (xN_ne (by omega)) ?_ | refine gtN rfl (by omega) (by omega) (xN_gt (by omega)) ?_ | refine gtN rfl (by omega) (by omega) (xN_le (by omega)) ?_ | refine gf0 rfl (by omega) (nN_ge (by omega)) ?_ | refine gf0 rfl (by omega) (nN_lt (by omega)) ?_ | refine gf0 rfl (by omega) (nN_eq (by omega)) ?_ | refine gf0 rfl (by omega) (nN_ne (by omega)) ?_ | refine gf0 rfl (by omega) (nN_gt (by omega)) ?_ | refine gf0 rfl (by omega) (nN_le (by omega)) ?_ | refine gt0 rfl (by omega) (xN_ge (by omega)) ?_ | refine gt0 rfl (by omega) (xN_lt (by omega)) ?_ | refine gt0 rfl (by omega) (xN_eq (by omega)) ?_ | refine gt0 rfl (by omega) (xN_ne (by omega)) ?_ | refine gt0 rfl (by omega) (xN_gt (by omega)) ?_ | refine gt0 rfl (by omega) (xN_le (by omega)) ?_)
        exact gri rfl (fun _ => Or.inl rfl) ⟨rfl, rfl⟩
  · rw [e1]
    refine ⟨by decide, rfl, ?_⟩
    show xGo (xEx d) xtb_91 _ (0, [some (.inr (some 52)), some (.inl x), some (.inl y)], [], mU σ I A)
    repeat (first | refine gkn rfl rfl ?_ | refine gkm rfl rfl ?_ | refine gad rfl ?_ | refine gml rfl ?_ | refine gsb rfl (by omega) ?_ | refine gdv rfl (by omega) (by omega) (by omega) ?_ | refine grm rfl (by omega) (by omega) (by omega) ?_ | refine gic rfl rfl ?_ | refine gp rfl rfl rfl ?_ | refine gFl rfl (by rfl) ?_ | refine gAl rfl rfl (by rfl) (by omega) ?_ | refine gBl rfl rfl (by rfl) (by omega) ?_ | refine gfN rfl (by omega) (by omega) (nN_ge (by omega)) ?_ | refine gfN rfl (by omega) (by omega) (nN_lt (by omega)) ?_ | refine gfN rfl (by omega) (by omega) (nN_eq (by omega)) ?_ | refine gfN rfl (by omega) (by omega) (nN_ne (by omega)) ?_ | refine gfN rfl (by omega) (by omega) (nN_gt (by omega)) ?_ | refine gfN rfl (by omega) (by omega) (nN_le (by omega)) ?_ | refine gtN rfl (by omega) (by omega) (xN_ge (by omega)) ?_ | refine gtN rfl (by omega) (by omega) (xN_lt (by omega)) ?_ | refine gtN rfl (by omega) (by omega) (xN_eq (by omega)) ?_ | refine gtN rfl (by omega) (by omega) (xN_ne (by omega)) ?_ | refine gtN rfl (by omega) (by omega) (xN_gt (by omega)) ?_ | refine gtN rfl (by omega) (by omega) (xN_le (by omega)) ?_ | refine gf0 rfl (by omega) (nN_ge (by omega)) ?_ | refine gf0 rfl (by omega) (nN_lt (by omega)) ?_ | refine gf0 rfl (by omega) (nN_eq (by omega)) ?_ | refine gf0 rfl (by omega) (nN_ne (by omega)) ?_ | refine gf0 rfl (by omega) (nN_gt (by omega)) ?_ | refine gf0 rfl (by omega) (nN_le (by omega)) ?_ | refine gt0 rfl (by omega) (xN_ge (by omega)) ?_ | refine gt0 rfl (by omega) (xN_lt (by omega)) ?_ | refine gt0 rfl (by omega) (xN_eq (by omega)) ?_ | refine gt0 rfl (by omega) (xN_ne (by omega)) ?_ | refine gt0 rfl (by omega) (xN_gt (by omega)) ?_ | refine gt0 rfl (by omega) (xN_le (by omega)) ?_)
    refine gif' rfl (fun h0 => ?_) (fun h0 => ?_)
    · repeat (first | refine gkn rfl rfl ?_ | refine gkm rfl rfl ?_ | refine gad rfl ?_ | refine gml rfl ?_ | refine gsb rfl (by omega) ?_ | refine gdv rfl (by omega) (by omega) (by omega) ?_ | refine grm rfl (by omega) (by omega) (by omega) ?_ | refine gic rfl rfl ?_ | refine gp rfl rfl rfl ?_ | refine gFl rfl (by rfl) ?_ | refine gAl rfl rfl (by rfl) (by omega) ?_ | refine gBl rfl rfl (by rfl) (by omega) ?_ | refine gfN rfl (by omega) (by omega) (nN_ge (by omega)) ?_ | refine gfN rfl (by omega) (by omega) (nN_lt (by omega)) ?_ | refine gfN rfl (by omega) (by omega) (nN_eq (by omega)) ?_ | refine gfN rfl (by omega) (by omega) (nN_ne (by omega)) ?_ | refine gfN rfl (by omega) (by omega) (nN_gt (by omega)) ?_ | refine gfN rfl (by omega) (by omega) (nN_le (by omega)) ?_ | refine gtN rfl (by omega) (by omega) (xN_ge (by omega)) ?_ | refine gtN rfl (by omega) (by omega) (xN_lt (by omega)) ?_ | refine gtN rfl (by omega) (by omega) (xN_eq (by omega)) ?_ | refine gtN rfl (by omega) (by omega) (xN_ne (by omega)) ?_ | refine gtN rfl (by omega) (by omega) (xN_gt (by omega)) ?_ | refine gtN rfl (by omega) (by omega) (xN_le (by omega)) ?_ | refine gf0 rfl (by omega) (nN_ge (by omega)) ?_ | refine gf0 rfl (by omega) (nN_lt (by omega)) ?_ | refine gf0 rfl (by omega) (nN_eq (by omega)) ?_ | refine gf0 rfl (by omega) (nN_ne (by omega)) ?_ | refine gf0 rfl (by omega) (nN_gt (by omega)) ?_ | refine gf0 rfl (by omega) (nN_le (by omega)) ?_ | refine gt0 rfl (by omega) (xN_ge (by omega)) ?_ | refine gt0 rfl (by omega) (xN_lt (by omega)) ?_ | refine gt0 rfl (by omega) (xN_eq (by omega)) ?_ | refine gt0 rfl (by omega) (xN_ne (by omega)) ?_ | refine gt0 rfl (by omega) (xN_gt (by omega)) ?_ | refine gt0 rfl (by omega) (xN_le (by omega)) ?_)
      exact gri rfl (fun _ => Or.inl rfl) ⟨rfl, rfl⟩
    · repeat (first | refine gkn rfl rfl ?_ | refine gkm rfl rfl ?_ | refine gad rfl ?_ | refine gml rfl ?_ | refine gsb rfl (by omega) ?_ | refine gdv rfl (by omega) (by omega) (by omega) ?_ | refine grm rfl (by omega) (by omega) (by omega) ?_ | refine gic rfl rfl ?_ | refine gp rfl rfl rfl ?_ | refine gFl rfl (by rfl) ?_ | refine gAl rfl rfl (by rfl) (by omega) ?_ | refine gBl rfl rfl (by rfl) (by omega) ?_ | refine gfN rfl (by omega) (by omega) (nN_ge (by omega)) ?_ | refine gfN rfl (by omega) (by omega) (nN_lt (by omega)) ?_ | refine gfN rfl (by omega) (by omega) (nN_eq (by omega)) ?_ | refine gfN rfl (by omega) (by omega) (nN_ne (by omega)) ?_ | refine gfN rfl (by omega) (by omega) (nN_gt (by omega)) ?_ | refine gfN rfl (by omega) (by omega) (nN_le (by omega)) ?_ | refine gtN rfl (by omega) (by omega) (xN_ge (by omega)) ?_ | refine gtN rfl (by omega) (by omega) (xN_lt (by omega)) ?_ | refine gtN rfl (by omega) (by omega) (xN_eq (by omega)) ?_ | refine gtN rfl (by omega) (by omega) (xN_ne (by omega)) ?_ | refine gtN rfl (by omega) (by omega) (xN_gt (by omega)) ?_ | refine gtN rfl (by omega) (by omega) (xN_le (by omega)) ?_ | refine gf0 rfl (by omega) (nN_ge (by omega)) ?_ | refine gf0 rfl (by omega) (nN_lt (by omega)) ?_ | refine gf0 rfl (by omega) (nN_eq (by omega)) ?_ | refine gf0 rfl (by omega) (nN_ne (by omega)) ?_ | refine gf0 rfl (by omega) (nN_gt (by omega)) ?_ | refine gf0 rfl (by omega) (nN_le (by omega)) ?_ | refine gt0 rfl (by omega) (xN_ge (by omega)) ?_ | refine gt0 rfl (by omega) (xN_lt (by omega)) ?_ | refine gt0 rfl (by omega) (xN_eq (by omega)) ?_ | refine gt0 rfl (by omega) (xN_ne (by omega)) ?_ | refine gt0 rfl (by omega) (xN_gt (by omega)) ?_ | refine gt0 rfl (by omega) (xN_le (by omega)) ?_)
      refine gct rfl (show nI 6 < x from oN_hi (by decide) hn h0) ?_
      repeat (first | refine gkn rfl rfl ?_ | refine gkm rfl rfl ?_ | refine gad rfl ?_ | refine gml rfl ?_ | refine gsb rfl (by omega) ?_ | refine gdv rfl (by omega) (by omega) (by omega) ?_ | refine grm rfl (by omega) (by omega) (by omega) ?_ | refine gic rfl rfl ?_ | refine gp rfl rfl rfl ?_ | refine gFl rfl (by rfl) ?_ | refine gAl rfl rfl (by rfl) (by omega) ?_ | refine gBl rfl rfl (by rfl) (by omega) ?_ | refine gfN rfl (by omega) (by omega) (nN_ge (by omega)) ?_ | refine gfN rfl (by omega) (by omega) (nN_lt (by omega)) ?_ | refine gfN rfl (by omega) (by omega) (nN_eq (by omega)) ?_ | refine gfN rfl (by omega) (by omega) (nN_ne (by omega)) ?_ | refine gfN rfl (by omega) (by omega) (nN_gt (by omega)) ?_ | refine gfN rfl (by omega) (by omega) (nN_le (by omega)) ?_ | refine gtN rfl (by omega) (by omega) (xN_ge (by omega)) ?_ | refine gtN rfl (by omega) (by omega) (xN_lt (by omega)) ?_ | refine gtN rfl (by omega) (by omega) (xN_eq (by omega)) ?_ | refine gtN rfl (by omega) (by omega) (xN_ne (by omega)) ?_ | refine gtN rfl (by omega) (by omega) (xN_gt (by omega)) ?_ | refine gtN rfl (by omega) (by omega) (xN_le (by omega)) ?_ | refine gf0 rfl (by omega) (nN_ge (by omega)) ?_ | refine gf0 rfl (by omega) (nN_lt (by omega)) ?_ | refine gf0 rfl (by omega) (nN_eq (by omega)) ?_ | refine gf0 rfl (by omega) (nN_ne (by omega)) ?_ | refine gf0 rfl (by omega) (nN_gt (by omega)) ?_ | refine gf0 rfl (by omega) (nN_le (by omega)) ?_ | refine gt0 rfl (by omega) (xN_ge (by omega)) ?_ | refine gt0 rfl (by omega) (xN_lt (by omega)) ?_ | refine gt0 rfl (by omega) (xN_eq (by omega)) ?_ | refine gt0 rfl (by omega) (xN_ne (by omega)) ?_ | refine gt0 rfl (by omega) (xN_gt (by omega)) ?_ | refine gt0 rfl (by omega) (xN_le (by omega)) ?_)
      exact gri rfl (fun _ => Or.inl rfl) ⟨rfl, rfl⟩
/-- the arrays behind the files stay -/
def aF (A A' : Nat → Nat → Int32) : Prop := ∀ k, 55 < k → A' k = A k
theorem aF.refl (A : Nat → Nat → Int32) : aF A A := fun _ _ => rfl
theorem aF.trans {A B C : Nat → Nat → Int32} (h1 : aF A B) (h2 : aF B C) : aF A C := fun k hk => (h2 k hk).trans (h1 k hk)
theorem r_erase (d : Nat) {t p : Nat} (h : mV A W) (ht : t < 7) (hp : p < 64) : ∃ A', xEx (d + 1) 95 [.inr (some 52), .inl (nI t), .inl (nI p)] (mU σ I A) none (mU σ I A') ∧ mV A' (vU W t (pLy (W t) p none)) ∧ aF A A' := by
  refine ⟨aU (aU A 53 (upd (A 53) (64 * t + p) (nI 0))) 54 (upd (A 54) (64 * t + p) (nI 0)), ⟨by decide, rfl, ?_⟩, ?_, ?_⟩
  · show xGo (xEx d) xtb_95 _ (0, [some (.inr (some 52)), some (.inl (nI t)), some (.inl (nI p))], [], mU σ I A)
    repeat (first | refine gkn rfl rfl ?_ | refine gkm rfl rfl ?_ | refine gad rfl ?_ | refine gml rfl ?_ | refine gsb rfl (by omega) ?_ | refine gdv rfl (by omega) (by omega) (by omega) ?_ | refine grm rfl (by omega) (by omega) (by omega) ?_ | refine gic rfl rfl ?_ | refine gp rfl rfl rfl ?_ | refine gFl rfl (by rfl) ?_ | refine gAl rfl rfl (by rfl) (by omega) ?_ | refine gBl rfl rfl (by rfl) (by omega) ?_)
    refine gAs rfl rfl rfl (by omega) ?_
    repeat (first | refine gkn rfl rfl ?_ | refine gkm rfl rfl ?_ | refine gad rfl ?_ | refine gml rfl ?_ | refine gsb rfl (by omega) ?_ | refine gdv rfl (by omega) (by omega) (by omega) ?_ | refine grm rfl (by omega) (by omega) (by omega) ?_ | refine gic rfl rfl ?_ | refine gp rfl rfl rfl ?_ | refine gFl rfl (by rfl) ?_ | refine gAl rfl rfl (by rfl) (by omega) ?_ | refine gBl rfl rfl (by rfl) (by omega) ?_)
    refine gAs rfl rfl rfl (by omega) ?_
    refine grv rfl ⟨rfl, ?_⟩
    rw [aU_ne (by decide)]
  · have e1 : aU (aU A 53 (upd (A 53) (64 * t + p) (nI 0))) 54 (upd (A 54) (64 * t + p) (nI 0)) 53 = upd (A 53) (64 * t + p) (nI 0) := by rw [aU_ne (by decide), aU_eq]
    have e3 : aU (aU A 53 (upd (A 53) (64 * t + p) (nI 0))) 54 (upd (A 54) (64 * t + p) (nI 0)) 55 = A 55 := by rw [aU_ne (by decide), aU_ne (by decide)]
    refine mV_put (F := none) h ht hp (Nat.zero_le _) (fun j hj => absurd hj (Nat.not_lt_zero _)) (fun x hx => ?_) ?_ (fun x hx => ?_) ?_ (fun x hx => ?_) (fun j hj => absurd hj (Nat.not_lt_zero _))
    · rw [e1, upd_ne hx]
    · rw [e1, upd_eq]; rfl
    · rw [aU_eq, upd_ne hx]
    · rw [aU_eq, upd_eq]; rfl
    · rw [e3]
  · intro k hk
    rw [aU_ne (by omega), aU_ne (by omega)]
theorem xnar_ok {l : List Int32} {j : Nat} (h : pOK l) (hj : j < l.length) : xnar 1 (l.getD j 0) = l.getD j 0 := by
  obtain ⟨v, h1, h2, h3⟩ := h j hj
  rw [h3]
  have e : v = 1 ∨ v = 2 ∨ v = 3 ∨ v = 4 ∨ v = 5 ∨ v = 6 ∨ v = 7 ∨ v = 8 ∨ v = 9 ∨ v = 10 ∨ v = 11 ∨ v = 12 ∨ v = 13 ∨ v = 14 ∨ v = 15 ∨ v = 16 ∨ v = 17 ∨ v = 18 ∨ v = 19 := by omega
  rcases e with rfl | rfl | rfl | rfl | rfl | rfl | rfl | rfl | rfl | rfl | rfl | rfl | rfl | rfl | rfl | rfl | rfl | rfl | rfl <;> decide
theorem r_copyFile (d : Nat) {f p t q : Nat} (h : mV A W) (hf : f < 7) (hp : p < 64) (ht : t < 7) (hq : q < 64) (hr : (pLn (W f p)).length ≤ rRm t) : ∃ A', xEx (d + 2) 97 [.inr (some 52), .inl (nI f), .inl (nI p), .inl (nI t), .inl (nI q)] (mU σ I A) none (mU σ I A') ∧ mV A' (vU W t (pLy (W t) q (W f p))) ∧ aF A A' := by
  obtain ⟨g1, g2, g3, g4, g5⟩ := h f p hf hp
  let K : Option xV → xS → Prop := fun r0 σ0 => r0 = none ∧ ∃ A', σ0 = mU σ I A' ∧ mV A' (vU W t (pLy (W t) q (W f p))) ∧ aF A A'
  have hr7 := rRm_le (t := t)
  have loop : ∀ k i (L : Nat → Int32) (B : Nat → Nat → Int32), i + k = (pLn (W f p)).length → B = aU (aU (aU A 53 (upd (A 53) (64 * t + q) (nI (pK (W f p))))) 54 (upd (A 54) (64 * t + q) (nI (pLn (W f p)).length))) 55 L → (∀ x, (x < rSt t q ∨ rSt t q + (pLn (W f p)).length ≤ x) → L x = A 55 x) → (∀ j, j < i → L (rSt t q + j) = (pLn (W f p)).getD j 0) → (∀ j, j < (pLn (W f p)).length → L (rSt f p + j) = (pLn (W f p)).getD j 0) → xGo (xEx (d + 1)) xtb_97 K (57, [some (.inr (some 52)), some (.inl (nI f)), some (.inl (nI p)), some (.inl (nI t)), some (.inl (nI q)), some (.inl (nI (pLn (W f p)).length)), some (.inl (nI i))], [.inl (nI (pLn (W f p)).length), .inl (nI i)], mU σ I B) := by
    intro k
    induction k with
    | zero =>
      intro i L B hi hB h1 h2 h3
      first | refine gtN rfl (by omega) (by omega) (xN_ge (by omega)) ?_ | refine gtN rfl (by omega) (by omega) (xN_lt (by omega)) ?_ | refine gtN rfl (by omega) (by omega) (xN_eq (by omega)) ?_ | refine gtN rfl (by omega) (by omega) (xN_ne (by omega)) ?_ | refine gtN rfl (by omega) (by omega) (xN_gt (by omega)) ?_ | refine gtN rfl (by omega) (by omega) (xN_le (by omega)) ?_
      refine grv rfl ⟨rfl, B, rfl, ?_, ?_⟩
      · have e1 : B 53 = upd (A 53) (64 * t + q) (nI (pK (W f p))) := by rw [hB, aU_ne (by decide), aU_ne (by decide), aU_eq]
        have e2 : B 54 = upd (A 54) (64 * t + q) (nI (pLn (W f p)).length) := by rw [hB, aU_ne (by decide), aU_eq]
        have e3 : B 55 = L := by rw [hB, aU_eq]
        refine mV_put h ht hq hr g4 (fun x hx => ?_) ?_ (fun x hx => ?_) ?_ (fun x hx => ?_) (fun j hj => ?_)
        · rw [e1, upd_ne hx]
        · rw [e1, upd_eq]
        · rw [e2, upd_ne hx]
        · rw [e2, upd_eq]
        · rw [e3]; exact h1 x hx
        · rw [e3]; exact h2 j (by omega)
      · intro k hk
        rw [hB, aU_ne (by omega), aU_ne (by omega), aU_ne (by omega)]
    | succ k ih =>
      intro i L B hi hB h1 h2 h3
      have e3 : B 55 = L := by rw [hB, aU_eq]
      have b1 := rSt_lt (j := i) ht hq (by omega)
      have b2 := rSt_lt (j := i) hf hp (by omega)
      first | refine gfN rfl (by omega) (by omega) (nN_ge (by omega)) ?_ | refine gfN rfl (by omega) (by omega) (nN_lt (by omega)) ?_ | refine gfN rfl (by omega) (by omega) (nN_eq (by omega)) ?_ | refine gfN rfl (by omega) (by omega) (nN_ne (by omega)) ?_ | refine gfN rfl (by omega) (by omega) (nN_gt (by omega)) ?_ | refine gfN rfl (by omega) (by omega) (nN_le (by omega)) ?_
      repeat (first | refine gkn rfl rfl ?_ | refine gkm rfl rfl ?_ | refine gad rfl ?_ | refine gml rfl ?_ | refine gsb rfl (by omega) ?_ | refine gdv rfl (by omega) (by omega) (by omega) ?_ | refine grm rfl (by omega) (by omega) (by omega) ?_ | refine gic rfl rfl ?_ | refine gp rfl rfl rfl ?_ | refine gFl rfl (by rfl) ?_ | refine gAl rfl rfl (by rfl) (by omega) ?_ | refine gBl rfl rfl (by rfl) (by omega) ?_)
      refine gcs (As := [.inl (nI t), .inl (nI q)]) (rest := [.inr (some 55)]) rfl (by decide) (m_start d ht hq) rfl rfl (Nat.le_of_ble_eq_true rfl) ?_
      repeat (first | refine gkn rfl rfl ?_ | refine gkm rfl rfl ?_ | refine gad rfl ?_ | refine gml rfl ?_ | refine gsb rfl (by omega) ?_ | refine gdv rfl (by omega) (by omega) (by omega) ?_ | refine grm rfl (by omega) (by omega) (by omega) ?_ | refine gic rfl rfl ?_ | refine gp rfl rfl rfl ?_ | refine gFl rfl (by rfl) ?_ | refine gAl rfl rfl (by rfl) (by omega) ?_ | refine gBl rfl rfl (by rfl) (by omega) ?_)
      refine gcs (As := [.inl (nI f), .inl (nI p)]) (rest := [.inr (some 55), .inl (nI (rSt t q + i)), .inr (some 55)]) rfl (by decide) (m_start d hf hp) rfl rfl (Nat.le_of_ble_eq_true rfl) ?_
      repeat (first | refine gkn rfl rfl ?_ | refine gkm rfl rfl ?_ | refine gad rfl ?_ | refine gml rfl ?_ | refine gsb rfl (by omega) ?_ | refine gdv rfl (by omega) (by omega) (by omega) ?_ | refine grm rfl (by omega) (by omega) (by omega) ?_ | refine gic rfl rfl ?_ | refine gp rfl rfl rfl ?_ | refine gFl rfl (by rfl) ?_ | refine gAl rfl rfl (by rfl) (by omega) ?_ | refine gBl rfl rfl (by rfl) (by omega) ?_)
      rw [e3, h3 i (by omega)]
      refine gBs rfl rfl rfl (by omega) (xnar_ok g4 (by omega)) ?_
      repeat (first | refine gkn rfl rfl ?_ | refine gkm rfl rfl ?_ | refine gad rfl ?_ | refine gml rfl ?_ | refine gsb rfl (by omega) ?_ | refine gdv rfl (by omega) (by omega) (by omega) ?_ | refine grm rfl (by omega) (by omega) (by omega) ?_ | refine gic rfl rfl ?_ | refine gp rfl rfl rfl ?_ | refine gFl rfl (by rfl) ?_ | refine gAl rfl rfl (by rfl) (by omega) ?_ | refine gBl rfl rfl (by rfl) (by omega) ?_)
      refine ih (i + 1) (upd L (rSt t q + i) ((pLn (W f p)).getD i 0)) _ (by omega) ?_ (fun x hx => ?_) (fun j hj => ?_) (fun j hj => ?_)
      · rw [e3, hB, aU_aU]
      · rw [upd_ne (by omega)]; exact h1 x hx
      · by_cases hji : j = i
        · rw [hji, upd_eq]
        · rw [upd_ne (by omega)]; exact h2 j (by omega)
      · by_cases hx : rSt f p + j = rSt t q + i
        · obtain ⟨-, -, z⟩ := rSt_dis hf hp (show j < rRm f by omega) ht hq (show i < rRm t by omega) hx
          rw [hx, upd_eq, z]
        · rw [upd_ne hx]; exact h3 j hj
  have main : xGo (xEx (d + 1)) xtb_97 K (0, [some (.inr (some 52)), some (.inl (nI f)), some (.inl (nI p)), some (.inl (nI t)), some (.inl (nI q)), none, none], [], mU σ I A) := by
    repeat (first | refine gkn rfl rfl ?_ | refine gkm rfl rfl ?_ | refine gad rfl ?_ | refine gml rfl ?_ | refine gsb rfl (by omega) ?_ | refine gdv rfl (by omega) (by omega) (by omega) ?_ | refine grm rfl (by omega) (by omega) (by omega) ?_ | refine gic rfl rfl ?_ | refine gp rfl rfl rfl ?_ | refine gFl rfl (by rfl) ?_ | refine gAl rfl rfl (by rfl) (by omega) ?_ | refine gBl rfl rfl (by rfl) (by omega) ?_)
    rw [g1, g2]
    refine gAs rfl rfl rfl (by omega) ?_
    repeat (first | refine gkn rfl rfl ?_ | refine gkm rfl rfl ?_ | refine gad rfl ?_ | refine gml rfl ?_ | refine gsb rfl (by omega) ?_ | refine gdv rfl (by omega) (by omega) (by omega) ?_ | refine grm rfl (by omega) (by omega) (by omega) ?_ | refine gic rfl rfl ?_ | refine gp rfl rfl rfl ?_ | refine gFl rfl (by rfl) ?_ | refine gAl rfl rfl (by rfl) (by omega) ?_ | refine gBl rfl rfl (by rfl) (by omega) ?_)
    refine gAs rfl rfl rfl (by omega) ?_
    repeat (first | refine gkn rfl rfl ?_ | refine gkm rfl rfl ?_ | refine gad rfl ?_ | refine gml rfl ?_ | refine gsb rfl (by omega) ?_ | refine gdv rfl (by omega) (by omega) (by omega) ?_ | refine grm rfl (by omega) (by omega) (by omega) ?_ | refine gic rfl rfl ?_ | refine gp rfl rfl rfl ?_ | refine gFl rfl (by rfl) ?_ | refine gAl rfl rfl (by rfl) (by omega) ?_ | refine gBl rfl rfl (by rfl) (by omega) ?_)
    refine loop _ 0 (A 55) _ (Nat.zero_add _) ?_ (fun x _ => rfl) (fun j hj => absurd hj (Nat.not_lt_zero _)) g5
    rw [aU_ne (by decide)]
    refine (Eq.trans ?_ (aU_same _ 55)).symm
    rw [aU_ne (by decide), aU_ne (by decide)]
  obtain ⟨r, σ', hex, rfl, A', rfl, g⟩ := ex_of (d := d + 1) (y := 97) (as := [.inr (some 52), .inl (nI f), .inl (nI p), .inl (nI t), .inl (nI q)]) (σ := mU σ I A) (K := K) (by decide) rfl main
  exact ⟨A', hex, g⟩
end REF
