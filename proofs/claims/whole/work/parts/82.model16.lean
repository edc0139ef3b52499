/-! MODULE: the reference: renames are carried -/
/-- the seven trees, of which the last three are versions -/
def wSet (W V : Nat → pT) : Nat → pT := fun k => if k < 4 then W k else V (k - 4)
theorem wSet_lt {W V : Nat → pT} {k : Nat} (h : k < 4) : wSet W V k = W k := if_pos h
theorem wSet_ge (W V : Nat → pT) (i : Nat) : wSet W V (4 + i) = V i := by
  unfold wSet
  rw [if_neg (by omega), show 4 + i - 4 = i by omega]
theorem wSet_vU (W V : Nat → pT) (i : Nat) (T : pT) : vU (wSet W V) (4 + i) T = wSet W (vU V i T) := by
  funext k
  unfold vU wSet
  dsimp only
  by_cases h : k = 4 + i
  · rw [if_pos h, if_neg (by omega), if_pos (by omega)]
  · rw [if_neg h]
    by_cases h4 : k < 4
    · rw [if_pos h4, if_pos h4]
    · rw [if_neg h4, if_neg h4, if_neg (by omega)]
theorem wSet_vU3 (W V : Nat → pT) (T : pT) : vU (wSet W V) 3 T = wSet (vU W 3 T) V := by
  funext k
  unfold vU wSet
  dsimp only
  by_cases h : k = 3
  · rw [if_pos h, if_pos (by omega), if_pos h]
  · rw [if_neg h]
    by_cases h4 : k < 4
    · rw [if_pos h4, if_pos h4, if_neg h]
    · rw [if_neg h4, if_neg h4]
def aG (A A' : Nat → Nat → Int32) : Prop := ∀ k, 55 < k → k < 60 → A' k = A k
theorem aG.refl (A : Nat → Nat → Int32) : aG A A := fun _ _ _ => rfl
theorem aG.trans {A B C : Nat → Nat → Int32} (h1 : aG A B) (h2 : aG B C) : aG A C := fun k a b => (h2 k a b).trans (h1 k a b)
theorem aF.g {A A' : Nat → Nat → Int32} (h : aF A A') : aG A A' := fun k a _ => h k a
def iG (I I' : Nat → Int32) : Prop := ∀ j, j < 12 → I' j = I j
theorem mCo.of {A A' : Nat → Nat → Int32} {C : Nat → Int32} (h : mCo A C) (e : A' 60 = A 60) : mCo A' C := fun p hp => by rw [e]; exact h p hp
theorem mCo.up {A : Nat → Nat → Int32} {C : Nat → Int32} {x : Nat} {v : Int32} (h : mCo A C) (hx : x < 64) : mCo (aU A 60 (upd (A 60) x (A 60 x ||| v))) (cUp C x v) := by
  intro p hp
  rw [aU_eq]
  unfold cUp
  by_cases e : p = x
  · rw [if_pos e, e, upd_eq, h x hx]
  · rw [if_neg e, upd_ne e]; exact h p hp
theorem cUp_cUp (C : Nat → Int32) (x : Nat) (v w : Int32) : cUp (cUp C x v) x w = cUp C x (v ||| w) := by
  funext p
  unfold cUp
  by_cases e : p = x
  · rw [if_pos e, if_pos e, if_pos e, Int32.or_assoc]
  · rw [if_neg e, if_neg e, if_neg e]
section REF
variable {σ : xS} {I : Nat → Int32} {A : Nat → Nat → Int32} {W V : Nat → pT} {C : Nat → Int32} {st : Nat}
theorem r_alone (d : Nat) {s q p x : Nat} (h : mV A (wSet W V)) (hC : mCo A C) (hs : (s = 1 ∧ q = 2) ∨ (s = 2 ∧ q = 1)) (hp : p < 64) (hx : x < 64) (hne : p ≠ x) (hst : I 1 = nI st) (hst2 : st ≤ 2)
    (hJ : (V q p).isSome = true → (V q x).isSome = true → (if s = 1 then pJoin st (pLn (V 0 p)) (pLn (V 1 x)) (pLn (V 2 p)) else pJoin st (pLn (V 0 p)) (pLn (V 1 p)) (pLn (V 2 x))).length ≤ 76 ∧ (pLn (pOneM st s V p x).1).length ≤ 36) :
    ∃ I' A', xEx (d + 6) 120 [.inr (some 52), .inl (nI s), .inl (nI p), .inl (nI x)] (mU σ I A) none (mU σ I' A') ∧ mV A' (wSet W (pOneV st s q V p x)) ∧ mCo A' (pOneC st s q V C p x) ∧ iG I I' ∧ aG A A' := by
  let K : Option xV → xS → Prop := fun r0 σ0 => r0 = none ∧ ∃ I' A', σ0 = mU σ I' A' ∧ mV A' (wSet W (pOneV st s q V p x)) ∧ mCo A' (pOneC st s q V C p x) ∧ iG I I' ∧ aG A A'
  have main : xGo (xEx (d + 5)) xtb_120 K (0, [some (.inr (some 52)), some (.inl (nI s)), some (.inl (nI p)), some (.inl (nI x)), none, none], [], mU σ I A) := by
    have hq : 7 - s = 4 + q := by omega
    have has1 : ∀ y, y < 64 → xEx (d + 5) 91 [.inr (some 52), .inl (nI (4 + q)), .inl (nI y)] (mU σ I A) (some (.inl (bI (V q y).isSome))) (mU σ I A) := fun y hy => by
      have := r_has (σ := σ) (I := I) (d + 4) (t := 4 + q) (p := y) h (by omega) hy
      rwa [wSet_ge] at this
    repeat (first | refine gkn rfl rfl ?_ | refine gkm rfl rfl ?_ | refine gad rfl ?_ | refine gml rfl ?_ | refine gsb rfl (by omega) ?_ | refine gdv rfl (by omega) (by omega) (by omega) ?_ | refine grm rfl (by omega) (by omega) (by omega) ?_ | refine gic rfl rfl ?_ | refine gp rfl rfl rfl ?_ | refine gFl rfl (by rfl) ?_ | refine gAl rfl rfl (by rfl) (by omega) ?_ | refine gBl rfl rfl (by rfl) (by omega) ?_)
    rw [hq]
    refine gcv (As := [.inl (nI (4 + q)), .inl (nI x)]) (rest := []) rfl (by decide) (has1 x hx) (mU_obj _ _ _) rfl rfl (by decide) ?_
    repeat (first | refine gkn rfl rfl ?_ | refine gkm rfl rfl ?_ | refine gad rfl ?_ | refine gml rfl ?_ | refine gsb rfl (by omega) ?_ | refine gdv rfl (by omega) (by omega) (by omega) ?_ | refine grm rfl (by omega) (by omega) (by omega) ?_ | refine gic rfl rfl ?_ | refine gp rfl rfl rfl ?_ | refine gFl rfl (by rfl) ?_ | refine gAl rfl rfl (by rfl) (by omega) ?_ | refine gBl rfl rfl (by rfl) (by omega) ?_)
    refine gcv (As := [.inl (nI (4 + q)), .inl (nI p)]) (rest := []) rfl (by decide) (has1 p hp) (mU_obj _ _ _) rfl rfl (by decide) ?_
    have e0 : wSet W V 4 = V 0 := wSet_ge W V 0
    have eq : wSet W V (4 + q) = V q := wSet_ge W V q
    have k2 : xGo (xEx (d + 5)) xtb_120 K (48, [some (.inr (some 52)), some (.inl (nI s)), some (.inl (nI p)), some (.inl (nI x)), some (.inl (nI (4 + q))), some (.inl (bI (V q x).isSome))], [], mU σ I A) → True := fun _ => trivial
    cases hqp : (V q p).isSome with
    | false =>
      have nqp : (V q p).isNone = true := by
        cases hv : V q p with
        | none => rfl
        | some F => rw [hv] at hqp; cases hqp
      refine gbe rfl (fun _ => ?_) (fun z => by cases z)
      repeat (first | refine gkn rfl rfl ?_ | refine gkm rfl rfl ?_ | refine gad rfl ?_ | refine gml rfl ?_ | refine gsb rfl (by omega) ?_ | refine gdv rfl (by omega) (by omega) (by omega) ?_ | refine grm rfl (by omega) (by omega) (by omega) ?_ | refine gic rfl rfl ?_ | refine gp rfl rfl rfl ?_ | refine gFl rfl (by rfl) ?_ | refine gAl rfl rfl (by rfl) (by omega) ?_ | refine gBl rfl rfl (by rfl) (by omega) ?_)
      refine gcv (As := [.inl (nI (4 + q)), .inl (nI p)]) (rest := []) rfl (by decide) (has1 p hp) (mU_obj _ _ _) rfl rfl (by decide) ?_
      rw [hqp]
      refine gbe rfl (fun _ => ?_) (fun z => by cases z)
      repeat (first | refine gkn rfl rfl ?_ | refine gkm rfl rfl ?_ | refine gad rfl ?_ | refine gml rfl ?_ | refine gsb rfl (by omega) ?_ | refine gdv rfl (by omega) (by omega) (by omega) ?_ | refine grm rfl (by omega) (by omega) (by omega) ?_ | refine gic rfl rfl ?_ | refine gp rfl rfl rfl ?_ | refine gFl rfl (by rfl) ?_ | refine gAl rfl rfl (by rfl) (by omega) ?_ | refine gBl rfl rfl (by rfl) (by omega) ?_)
      refine gAs rfl rfl rfl (by omega) ?_
      have h1 : mV (aU A 60 (upd (A 60) x (A 60 x ||| nI 16))) (wSet W V) := h.of (fun k hk => aU_ne (by omega))
      have hC1 := hC.up (x := x) (v := nI 16) hx
      have eC : pOneC st s q V C p x = cUp C x (nI 16) := by unfold pOneC; rw [nqp]; rfl
      have g1 : aG A (aU A 60 (upd (A 60) x (A 60 x ||| nI 16))) := fun k _ b => aU_ne (by omega)
      generalize aU A 60 (upd (A 60) x (A 60 x ||| nI 16)) = A1 at *
      repeat (first | refine gkn rfl rfl ?_ | refine gkm rfl rfl ?_ | refine gad rfl ?_ | refine gml rfl ?_ | refine gsb rfl (by omega) ?_ | refine gdv rfl (by omega) (by omega) (by omega) ?_ | refine grm rfl (by omega) (by omega) (by omega) ?_ | refine gic rfl rfl ?_ | refine gp rfl rfl rfl ?_ | refine gFl rfl (by rfl) ?_ | refine gAl rfl rfl (by rfl) (by omega) ?_ | refine gBl rfl rfl (by rfl) (by omega) ?_)
      refine gbe rfl (fun hz => ?_) (fun hz => ?_)
      · obtain ⟨A2, y1, y2, y3⟩ := r_go (σ := σ) (I := I) (d + 2) (t := 4) h1 (by decide) hp hx hne
        repeat (first | refine gkn rfl rfl ?_ | refine gkm rfl rfl ?_ | refine gad rfl ?_ | refine gml rfl ?_ | refine gsb rfl (by omega) ?_ | refine gdv rfl (by omega) (by omega) (by omega) ?_ | refine grm rfl (by omega) (by omega) (by omega) ?_ | refine gic rfl rfl ?_ | refine gp rfl rfl rfl ?_ | refine gFl rfl (by rfl) ?_ | refine gAl rfl rfl (by rfl) (by omega) ?_ | refine gBl rfl rfl (by rfl) (by omega) ?_)
        refine gcv (As := [.inl (nI 4), .inl (nI p), .inl (nI x)]) (rest := []) rfl (by decide) y1 (mU_obj _ _ _) rfl rfl (by decide) ?_
        refine grv rfl ⟨rfl, I, A2, rfl, ?_, by rw [eC]; exact hC1.of (y3 60 (by decide)), fun _ _ => rfl, g1.trans y3.g⟩
        have eV : pOneV st s q V p x = vU V 0 (pMv (V 0) p x) := by unfold pOneV; rw [nqp, hz]; rfl
        rw [eV, ← wSet_vU]
        rw [e0] at y2
        exact y2
      · obtain ⟨A2, y1, y2, y3⟩ := r_erase (σ := σ) (I := I) (d + 4) (t := 4) (p := p) h1 (by decide) hp
        repeat (first | refine gkn rfl rfl ?_ | refine gkm rfl rfl ?_ | refine gad rfl ?_ | refine gml rfl ?_ | refine gsb rfl (by omega) ?_ | refine gdv rfl (by omega) (by omega) (by omega) ?_ | refine grm rfl (by omega) (by omega) (by omega) ?_ | refine gic rfl rfl ?_ | refine gp rfl rfl rfl ?_ | refine gFl rfl (by rfl) ?_ | refine gAl rfl rfl (by rfl) (by omega) ?_ | refine gBl rfl rfl (by rfl) (by omega) ?_)
        refine gcv (As := [.inl (nI 4), .inl (nI p)]) (rest := []) rfl (by decide) y1 (mU_obj _ _ _) rfl rfl (by decide) ?_
        repeat (first | refine gkn rfl rfl ?_ | refine gkm rfl rfl ?_ | refine gad rfl ?_ | refine gml rfl ?_ | refine gsb rfl (by omega) ?_ | refine gdv rfl (by omega) (by omega) (by omega) ?_ | refine grm rfl (by omega) (by omega) (by omega) ?_ | refine gic rfl rfl ?_ | refine gp rfl rfl rfl ?_ | refine gFl rfl (by rfl) ?_ | refine gAl rfl rfl (by rfl) (by omega) ?_ | refine gBl rfl rfl (by rfl) (by omega) ?_)
        refine grv rfl ⟨rfl, I, A2, rfl, ?_, by rw [eC]; exact hC1.of (y3 60 (by decide)), fun _ _ => rfl, g1.trans y3.g⟩
        have eV : pOneV st s q V p x = vU V 0 (pLy (V 0) p none) := by unfold pOneV; rw [nqp, hz]; rfl
        rw [eV, ← wSet_vU]
        rw [e0] at y2
        exact y2
    | true =>
      have nqp : (V q p).isNone = false := by
        cases hv : V q p with
        | none => rw [hv] at hqp; cases hqp
        | some F => rfl
      refine gbe rfl (fun z => by cases z) (fun _ => ?_)
      repeat (first | refine gkn rfl rfl ?_ | refine gkm rfl rfl ?_ | refine gad rfl ?_ | refine gml rfl ?_ | refine gsb rfl (by omega) ?_ | refine gdv rfl (by omega) (by omega) (by omega) ?_ | refine grm rfl (by omega) (by omega) (by omega) ?_ | refine gic rfl rfl ?_ | refine gp rfl rfl rfl ?_ | refine gFl rfl (by rfl) ?_ | refine gAl rfl rfl (by rfl) (by omega) ?_ | refine gBl rfl rfl (by rfl) (by omega) ?_)
      cases hqx : (V q x).isSome with
      | false =>
        have nqx : (V q x).isNone = true := by
          cases hv : V q x with
          | none => rfl
          | some F => rw [hv] at hqx; cases hqx
        refine gbn rfl (fun z => by cases z) (fun _ => ?_)
        obtain ⟨A1, y1, y2, y3⟩ := r_go (σ := σ) (I := I) (d + 2) (t := 4) h (by decide) hp hx hne
        rw [e0, show (4 : Nat) = 4 + 0 from rfl, wSet_vU] at y2
        obtain ⟨A2, z1, z2, z3⟩ := r_go (σ := σ) (I := I) (d + 2) (t := 4 + q) y2 (by omega) hp hx hne
        rw [wSet_ge, wSet_vU, vU_ne (by omega)] at z2
        repeat (first | refine gkn rfl rfl ?_ | refine gkm rfl rfl ?_ | refine gad rfl ?_ | refine gml rfl ?_ | refine gsb rfl (by omega) ?_ | refine gdv rfl (by omega) (by omega) (by omega) ?_ | refine grm rfl (by omega) (by omega) (by omega) ?_ | refine gic rfl rfl ?_ | refine gp rfl rfl rfl ?_ | refine gFl rfl (by rfl) ?_ | refine gAl rfl rfl (by rfl) (by omega) ?_ | refine gBl rfl rfl (by rfl) (by omega) ?_)
        refine gcv (As := [.inl (nI 4), .inl (nI p), .inl (nI x)]) (rest := []) rfl (by decide) y1 (mU_obj _ _ _) rfl rfl (by decide) ?_
        repeat (first | refine gkn rfl rfl ?_ | refine gkm rfl rfl ?_ | refine gad rfl ?_ | refine gml rfl ?_ | refine gsb rfl (by omega) ?_ | refine gdv rfl (by omega) (by omega) (by omega) ?_ | refine grm rfl (by omega) (by omega) (by omega) ?_ | refine gic rfl rfl ?_ | refine gp rfl rfl rfl ?_ | refine gFl rfl (by rfl) ?_ | refine gAl rfl rfl (by rfl) (by omega) ?_ | refine gBl rfl rfl (by rfl) (by omega) ?_)
        refine gcv (As := [.inl (nI (4 + q)), .inl (nI p), .inl (nI x)]) (rest := []) rfl (by decide) z1 (mU_obj _ _ _) rfl rfl (by decide) ?_
        repeat (first | refine gkn rfl rfl ?_ | refine gkm rfl rfl ?_ | refine gad rfl ?_ | refine gml rfl ?_ | refine gsb rfl (by omega) ?_ | refine gdv rfl (by omega) (by omega) (by omega) ?_ | refine grm rfl (by omega) (by omega) (by omega) ?_ | refine gic rfl rfl ?_ | refine gp rfl rfl rfl ?_ | refine gFl rfl (by rfl) ?_ | refine gAl rfl rfl (by rfl) (by omega) ?_ | refine gBl rfl rfl (by rfl) (by omega) ?_)
        have eV : pOneV st s q V p x = vU (vU V 0 (pMv (V 0) p x)) q (pMv (V q) p x) := by unfold pOneV; rw [nqp, nqx]; rfl
        have eC : pOneC st s q V C p x = C := by unfold pOneC; rw [nqp, nqx]; rfl
        refine grv rfl ⟨rfl, I, A2, rfl, by rw [eV]; exact z2, by rw [eC]; exact (hC.of (y3 60 (by decide))).of (z3 60 (by decide)), fun _ _ => rfl, y3.g.trans z3.g⟩
      | true =>
        have nqx : (V q x).isNone = false := by
          cases hv : V q x with
          | none => rw [hv] at hqx; cases hqx
          | some F => rfl
        obtain ⟨hJ1, hJ2⟩ := hJ hqp hqx
        refine gbn rfl (fun _ => ?_) (fun z => by cases z)
        repeat (first | refine gkn rfl rfl ?_ | refine gkm rfl rfl ?_ | refine gad rfl ?_ | refine gml rfl ?_ | refine gsb rfl (by omega) ?_ | refine gdv rfl (by omega) (by omega) (by omega) ?_ | refine grm rfl (by omega) (by omega) (by omega) ?_ | refine gic rfl rfl ?_ | refine gp rfl rfl rfl ?_ | refine gFl rfl (by rfl) ?_ | refine gAl rfl rfl (by rfl) (by omega) ?_ | refine gBl rfl rfl (by rfl) (by omega) ?_)
        refine gcv (As := [.inl (nI (4 + q)), .inl (nI p)]) (rest := []) rfl (by decide) (has1 p hp) (mU_obj _ _ _) rfl rfl (by decide) ?_
        rw [hqp]
        refine gbe rfl (fun z => by cases z) (fun _ => ?_)
        have eV : pOneV st s q V p x = vU (vU (vU V s (pLy (V s) x (pOneM st s V p x).1)) 0 (pLy (V 0) p none)) q (pLy (V q) p none) := by unfold pOneV; rw [nqp, nqx]; rfl
        have eC : pOneC st s q V C p x = cUp (cUp C x (nI 64)) x (pOneM st s V p x).2 := by unfold pOneC; rw [nqp, nqx]; rfl
        have rest : ∀ I1 A1, mX I1 A1 (pOneM st s V p x) → (∀ j, (j < 12 ∨ 18 < j) → I1 j = I j) → (∀ j, j ≠ 61 → j ≠ 62 → A1 j = A j) → xGo (xEx (d + 5)) xtb_120 K (83, [some (.inr (some 52)), some (.inl (nI s)), some (.inl (nI p)), some (.inl (nI x)), some (.inl (nI (4 + q))), some (.inl (bI true))], [], mU σ I1 A1) := by
          intro I1 A1 hX hI1 hA1
          obtain ⟨x1, x2, x3, x4⟩ := hX
          have h1 : mV A1 (wSet W V) := h.of (fun k hk => hA1 k (by omega) (by omega))
          obtain ⟨A2, y1, y2, y3⟩ := r_putOut (σ := σ) (I := I1) (d + 3) (t := 4 + s) (p := x) h1 (by omega) hx x1 x2 x3 (by rw [rRm_5 (by omega)]; exact hJ2)
          rw [wSet_ge, wSet_vU] at y2
          obtain ⟨A3, z1, z2, z3⟩ := r_erase (σ := σ) (I := I1) (d + 4) (t := 4 + 0) (p := p) y2 (by decide) hp
          rw [wSet_ge, wSet_vU, vU_ne (by omega)] at z2
          obtain ⟨A4, u1, u2, u3⟩ := r_erase (σ := σ) (I := I1) (d + 4) (t := 4 + q) (p := p) z2 (by omega) hp
          rw [wSet_ge, wSet_vU, vU_ne (by omega), vU_ne (by omega)] at u2
          have e60 : A4 60 = A 60 := (u3 60 (by decide)).trans ((z3 60 (by decide)).trans ((y3 60 (by decide)).trans (hA1 60 (by decide) (by decide))))
          have hC4 : mCo A4 C := hC.of e60
          repeat (first | refine gkn rfl rfl ?_ | refine gkm rfl rfl ?_ | refine gad rfl ?_ | refine gml rfl ?_ | refine gsb rfl (by omega) ?_ | refine gdv rfl (by omega) (by omega) (by omega) ?_ | refine grm rfl (by omega) (by omega) (by omega) ?_ | refine gic rfl rfl ?_ | refine gp rfl rfl rfl ?_ | refine gFl rfl (by rfl) ?_ | refine gAl rfl rfl (by rfl) (by omega) ?_ | refine gBl rfl rfl (by rfl) (by omega) ?_)
          refine gcv (As := [.inl (nI (4 + s)), .inl (nI x)]) (rest := []) rfl (by decide) y1 (mU_obj _ _ _) rfl rfl (by decide) ?_
          repeat (first | refine gkn rfl rfl ?_ | refine gkm rfl rfl ?_ | refine gad rfl ?_ | refine gml rfl ?_ | refine gsb rfl (by omega) ?_ | refine gdv rfl (by omega) (by omega) (by omega) ?_ | refine grm rfl (by omega) (by omega) (by omega) ?_ | refine gic rfl rfl ?_ | refine gp rfl rfl rfl ?_ | refine gFl rfl (by rfl) ?_ | refine gAl rfl rfl (by rfl) (by omega) ?_ | refine gBl rfl rfl (by rfl) (by omega) ?_)
          refine gcv (As := [.inl (nI 4), .inl (nI p)]) (rest := []) rfl (by decide) z1 (mU_obj _ _ _) rfl rfl (by decide) ?_
          repeat (first | refine gkn rfl rfl ?_ | refine gkm rfl rfl ?_ | refine gad rfl ?_ | refine gml rfl ?_ | refine gsb rfl (by omega) ?_ | refine gdv rfl (by omega) (by omega) (by omega) ?_ | refine grm rfl (by omega) (by omega) (by omega) ?_ | refine gic rfl rfl ?_ | refine gp rfl rfl rfl ?_ | refine gFl rfl (by rfl) ?_ | refine gAl rfl rfl (by rfl) (by omega) ?_ | refine gBl rfl rfl (by rfl) (by omega) ?_)
          refine gcv (As := [.inl (nI (4 + q)), .inl (nI p)]) (rest := []) rfl (by decide) u1 (mU_obj _ _ _) rfl rfl (by decide) ?_
          repeat (first | refine gkn rfl rfl ?_ | refine gkm rfl rfl ?_ | refine gad rfl ?_ | refine gml rfl ?_ | refine gsb rfl (by omega) ?_ | refine gdv rfl (by omega) (by omega) (by omega) ?_ | refine grm rfl (by omega) (by omega) (by omega) ?_ | refine gic rfl rfl ?_ | refine gp rfl rfl rfl ?_ | refine gFl rfl (by rfl) ?_ | refine gAl rfl rfl (by rfl) (by omega) ?_ | refine gBl rfl rfl (by rfl) (by omega) ?_)
          rw [x4]
          refine gAs rfl rfl rfl (by omega) ?_
          repeat (first | refine gkn rfl rfl ?_ | refine gkm rfl rfl ?_ | refine gad rfl ?_ | refine gml rfl ?_ | refine gsb rfl (by omega) ?_ | refine gdv rfl (by omega) (by omega) (by omega) ?_ | refine grm rfl (by omega) (by omega) (by omega) ?_ | refine gic rfl rfl ?_ | refine gp rfl rfl rfl ?_ | refine gFl rfl (by rfl) ?_ | refine gAl rfl rfl (by rfl) (by omega) ?_ | refine gBl rfl rfl (by rfl) (by omega) ?_)
          refine grv rfl ⟨rfl, I1, _, rfl, ?_, ?_, fun j hj => hI1 j (Or.inl hj), ?_⟩
          · rw [eV]
            exact u2.of (fun k hk => aU_ne (by omega))
          · rw [eC, cUp_cUp]
            exact hC4.up hx
          · intro k a b
            rw [aU_ne (by omega), u3 k a, z3 k a, y3 k a]
            exact hA1 k (by omega) (by omega)
        by_cases hs1 : s = 1
        · have q2 : q = 2 := by omega
          rw [if_pos hs1] at hJ1
          have m := r_mergeFiles (σ := σ) d (o := p) (a := x) (b := p) (W := wSet W V) h hp hx hp hst hst2 (by
            rw [show wSet W V 4 = V 0 from wSet_ge W V 0, show wSet W V 5 = V 1 from wSet_ge W V 1, show wSet W V 6 = V 2 from wSet_ge W V 2]
            exact hJ1)
          rw [show wSet W V 4 = V 0 from wSet_ge W V 0, show wSet W V 5 = V 1 from wSet_ge W V 1, show wSet W V 6 = V 2 from wSet_ge W V 2] at m
          obtain ⟨I1, A1, y1, y2, y3, y4⟩ := m
          have eM : pOneM st s V p x = pMerge st (V 0 p) (V 1 x) (V 2 p) := by unfold pOneM; rw [if_pos hs1]
          repeat (first | refine gkn rfl rfl ?_ | refine gkm rfl rfl ?_ | refine gad rfl ?_ | refine gml rfl ?_ | refine gsb rfl (by omega) ?_ | refine gdv rfl (by omega) (by omega) (by omega) ?_ | refine grm rfl (by omega) (by omega) (by omega) ?_ | refine gic rfl rfl ?_ | refine gp rfl rfl rfl ?_ | refine gFl rfl (by rfl) ?_ | refine gAl rfl rfl (by rfl) (by omega) ?_ | refine gBl rfl rfl (by rfl) (by omega) ?_ | refine gfN rfl (by omega) (by omega) (nN_ge (by omega)) ?_ | refine gfN rfl (by omega) (by omega) (nN_lt (by omega)) ?_ | refine gfN rfl (by omega) (by omega) (nN_eq (by omega)) ?_ | refine gfN rfl (by omega) (by omega) (nN_ne (by omega)) ?_ | refine gfN rfl (by omega) (by omega) (nN_gt (by omega)) ?_ | refine gfN rfl (by omega) (by omega) (nN_le (by omega)) ?_ | refine gtN rfl (by omega) (by omega) (xN_ge (by omega)) ?_ | refine gtN rfl (by omega) (by omega) (xN_lt (by omega)) ?_ | refine gtN rfl (by omega) (by omega) (xN_eq (by omega)) ?_ | refine gtN rfl (by omega) (by omega) (xN_ne (by omega)) ?_ | refine gtN rfl (by omega) (by omega) (xN_gt (by omega)) ?_ | refine gtN rfl (by omega) (by omega) (xN_le (by omega)) ?_ | refine gf0 rfl (by omega) (nN_ge (by omega)) ?_ | refine gf0 rfl (by omega) (nN_lt (by omega)) ?_ | refine gf0 rfl (by omega) (nN_eq (by omega)) ?_ | refine gf0 rfl (by omega) (nN_ne (by omega)) ?_ | refine gf0 rfl (by omega) (nN_gt (by omega)) ?_ | refine gf0 rfl (by omega) (nN_le (by omega)) ?_ | refine gt0 rfl (by omega) (xN_ge (by omega)) ?_ | refine gt0 rfl (by omega) (xN_lt (by omega)) ?_ | refine gt0 rfl (by omega) (xN_eq (by omega)) ?_ | refine gt0 rfl (by omega) (xN_ne (by omega)) ?_ | refine gt0 rfl (by omega) (xN_gt (by omega)) ?_ | refine gt0 rfl (by omega) (xN_le (by omega)) ?_)
          refine gcv (As := [.inl (nI p), .inl (nI x), .inl (nI p)]) (rest := []) rfl (by decide) y1 (mU_obj _ _ _) rfl rfl (by decide) ?_
          exact rest I1 A1 (by rw [eM]; exact y2) y3 y4
        · rw [if_neg hs1] at hJ1
          have m := r_mergeFiles (σ := σ) d (o := p) (a := p) (b := x) (W := wSet W V) h hp hp hx hst hst2 (by
            rw [show wSet W V 4 = V 0 from wSet_ge W V 0, show wSet W V 5 = V 1 from wSet_ge W V 1, show wSet W V 6 = V 2 from wSet_ge W V 2]
            exact hJ1)
          rw [show wSet W V 4 = V 0 from wSet_ge W V 0, show wSet W V 5 = V 1 from wSet_ge W V 1, show wSet W V 6 = V 2 from wSet_ge W V 2] at m
          obtain ⟨I1, A1, y1, y2, y3, y4⟩ := m
          have eM : pOneM st s V p x = pMerge st (V 0 p) (V 1 p) (V 2 x) := by unfold pOneM; rw [if_neg hs1]
          repeat (first | refine gkn rfl rfl ?_ | refine gkm rfl rfl ?_ | refine gad rfl ?_ | refine gml rfl ?_ | refine gsb rfl (by omega) ?_ | refine gdv rfl (by omega) (by omega) (by omega) ?_ | refine grm rfl (by omega) (by omega) (by omega) ?_ | refine gic rfl rfl ?_ | refine gp rfl rfl rfl ?_ | refine gFl rfl (by rfl) ?_ | refine gAl rfl rfl (by rfl) (by omega) ?_ | refine gBl rfl rfl (by rfl) (by omega) ?_ | refine gfN rfl (by omega) (by omega) (nN_ge (by omega)) ?_ | refine gfN rfl (by omega) (by omega) (nN_lt (by omega)) ?_ | refine gfN rfl (by omega) (by omega) (nN_eq (by omega)) ?_ | refine gfN rfl (by omega) (by omega) (nN_ne (by omega)) ?_ | refine gfN rfl (by omega) (by omega) (nN_gt (by omega)) ?_ | refine gfN rfl (by omega) (by omega) (nN_le (by omega)) ?_ | refine gtN rfl (by omega) (by omega) (xN_ge (by omega)) ?_ | refine gtN rfl (by omega) (by omega) (xN_lt (by omega)) ?_ | refine gtN rfl (by omega) (by omega) (xN_eq (by omega)) ?_ | refine gtN rfl (by omega) (by omega) (xN_ne (by omega)) ?_ | refine gtN rfl (by omega) (by omega) (xN_gt (by omega)) ?_ | refine gtN rfl (by omega) (by omega) (xN_le (by omega)) ?_ | refine gf0 rfl (by omega) (nN_ge (by omega)) ?_ | refine gf0 rfl (by omega) (nN_lt (by omega)) ?_ | refine gf0 rfl (by omega) (nN_eq (by omega)) ?_ | refine gf0 rfl (by omega) (nN_ne (by omega)) ?_ | refine gf0 rfl (by omega) (nN_gt (by omega)) ?_ | refine gf0 rfl (by omega) (nN_le (by omega)) ?_ | refine gt0 rfl (by omega) (xN_ge (by omega)) ?_ | refine gt0 rfl (by omega) (xN_lt (by omega)) ?_ | refine gt0 rfl (by omega) (xN_eq (by omega)) ?_ | refine gt0 rfl (by omega) (xN_ne (by omega)) ?_ | refine gt0 rfl (by omega) (xN_gt (by omega)) ?_ | refine gt0 rfl (by omega) (xN_le (by omega)) ?_)
          refine gcv (As := [.inl (nI p), .inl (nI p), .inl (nI x)]) (rest := []) rfl (by decide) y1 (mU_obj _ _ _) rfl rfl (by decide) ?_
          exact rest I1 A1 (by rw [eM]; exact y2) y3 y4
  obtain ⟨r, σ', hex, rfl, I', A', rfl, g⟩ := ex_of (d := d + 5) (y := 120) (as := [.inr (some 52), .inl (nI s), .inl (nI p), .inl (nI x)]) (σ := mU σ I A) (K := K) (by decide) rfl main
  exact ⟨I', A', hex, g⟩
/-- what must hold for a carried rename to have room -/
def carOK (st : Nat) (V : Nat → pT) (p : Nat) (i j : Option Nat) : Prop :=
  (∀ x, i = some x → j = none → (V 2 p).isSome = true → (V 2 x).isSome = true → (pJoin st (pLn (V 0 p)) (pLn (V 1 x)) (pLn (V 2 p))).length ≤ 76 ∧ (pLn (pMerge st (V 0 p) (V 1 x) (V 2 p)).1).length ≤ 36) ∧
  (∀ x, i = none → j = some x → (V 1 p).isSome = true → (V 1 x).isSome = true → (pJoin st (pLn (V 0 p)) (pLn (V 1 p)) (pLn (V 2 x))).length ≤ 76 ∧ (pLn (pMerge st (V 0 p) (V 1 p) (V 2 x)).1).length ≤ 36)
theorem r_follow (d : Nat) {D1 D2 : pD} {p : Nat} (h : mV A (wSet W V)) (hC : mCo A C) (h1 : mDs A 1 D1) (h2 : mDs A 2 D2) (hp : p < 64) (hst : I 1 = nI st) (hst2 : st ≤ 2)
    (hR1 : ∀ q, D1.1 p = some q → q < 64 ∧ ∃ x, x < 64 ∧ D1.2.2 q = some x ∧ p ≠ x) (hR2 : ∀ q, D2.1 p = some q → q < 64 ∧ ∃ x, x < 64 ∧ D2.2.2 q = some x ∧ p ≠ x)
    (hJ : carOK st V p (pTo D1.1 D1.2.2 p) (pTo D2.1 D2.2.2 p)) :
    ∃ I' A', xEx (d + 7) 118 [.inr (some 52), .inl (nI p)] (mU σ I A) none (mU σ I' A') ∧ mV A' (wSet W (pCarV st (pTo D1.1 D1.2.2 p) (pTo D2.1 D2.2.2 p) V p)) ∧ mCo A' (pCarC st (pTo D1.1 D1.2.2 p) (pTo D2.1 D2.2.2 p) V C p) ∧ iG I I' ∧ aG A A' := by
  obtain ⟨a1, -, a3⟩ := h1
  obtain ⟨b1, -, b3⟩ := h2
  have a1 : ∀ p, p < 64 → A 56 p = oI (D1.1 p) := fun p hp => by have := a1 p hp; simpa using this
  have a3 : ∀ p, p < 64 → A 58 p = oI (D1.2.2 p) := fun p hp => by have := a3 p hp; simpa using this
  have b1 : ∀ p, p < 64 → A 56 (64 + p) = oI (D2.1 p) := fun p hp => by have := b1 p hp; simpa using this
  have b3 : ∀ p, p < 64 → A 58 (64 + p) = oI (D2.2.2 p) := fun p hp => by have := b3 p hp; simpa using this
  let K : Option xV → xS → Prop := fun r0 σ0 => r0 = none ∧ ∃ I' A', σ0 = mU σ I' A' ∧ mV A' (wSet W (pCarV st (pTo D1.1 D1.2.2 p) (pTo D2.1 D2.2.2 p) V p)) ∧ mCo A' (pCarC st (pTo D1.1 D1.2.2 p) (pTo D2.1 D2.2.2 p) V C p) ∧ iG I I' ∧ aG A A'
  have main : xGo (xEx (d + 6)) xtb_118 K (0, [some (.inr (some 52)), some (.inl (nI p)), none, none, none, none], [], mU σ I A) := by
    repeat (first | refine gkn rfl rfl ?_ | refine gkm rfl rfl ?_ | refine gad rfl ?_ | refine gml rfl ?_ | refine gsb rfl (by omega) ?_ | refine gdv rfl (by omega) (by omega) (by omega) ?_ | refine grm rfl (by omega) (by omega) (by omega) ?_ | refine gic rfl rfl ?_ | refine gp rfl rfl rfl ?_ | refine gFl rfl (by rfl) ?_ | refine gAl rfl rfl (by rfl) (by omega) ?_ | refine gBl rfl rfl (by rfl) (by omega) ?_)
    rw [a1 p hp, b1 p hp]
    cases hq1 : D1.1 p with
    | none =>
      have i1 : pTo D1.1 D1.2.2 p = none := by unfold pTo; rw [hq1]; rfl
      refine git rfl (show (-1 : Int32) < 0 by decide) ?_
      repeat (first | refine gkn rfl rfl ?_ | refine gkm rfl rfl ?_ | refine gad rfl ?_ | refine gml rfl ?_ | refine gsb rfl (by omega) ?_ | refine gdv rfl (by omega) (by omega) (by omega) ?_ | refine grm rfl (by omega) (by omega) (by omega) ?_ | refine gic rfl rfl ?_ | refine gp rfl rfl rfl ?_ | refine gFl rfl (by rfl) ?_ | refine gAl rfl rfl (by rfl) (by omega) ?_ | refine gBl rfl rfl (by rfl) (by omega) ?_)
      refine git rfl (show (-1 : Int32) < 0 by decide) ?_
      repeat (first | refine gkn rfl rfl ?_ | refine gkm rfl rfl ?_ | refine gad rfl ?_ | refine gml rfl ?_ | refine gsb rfl (by omega) ?_ | refine gdv rfl (by omega) (by omega) (by omega) ?_ | refine grm rfl (by omega) (by omega) (by omega) ?_ | refine gic rfl rfl ?_ | refine gp rfl rfl rfl ?_ | refine gFl rfl (by rfl) ?_ | refine gAl rfl rfl (by rfl) (by omega) ?_ | refine gBl rfl rfl (by rfl) (by omega) ?_)
      cases hq2 : D2.1 p with
      | none =>
        have i2 : pTo D2.1 D2.2.2 p = none := by unfold pTo; rw [hq2]; rfl
        refine git rfl (show (-1 : Int32) < 0 by decide) ?_
        refine grv rfl ⟨rfl, I, A, rfl, ?_, ?_, fun _ _ => rfl, aG.refl _⟩
        · rw [i1, i2]; exact h
        · rw [i1, i2]; exact hC
      | some q2 =>
        obtain ⟨g1, x2, g2, g3, g4⟩ := hR2 q2 hq2
        have i2 : pTo D2.1 D2.2.2 p = some x2 := by unfold pTo; rw [hq2]; exact g3
        rw [i1, i2] at hJ
        have e58 : A 58 (64 + q2) = nI x2 := by rw [b3 q2 g1, g3]; rfl
        obtain ⟨I1, A1, y1, y2, y3, y4, y5⟩ := r_alone (σ := σ) d (s := 2) (q := 1) h hC (Or.inr ⟨rfl, rfl⟩) hp g2 g4 hst hst2 (fun z1 z2 => hJ.2 x2 rfl rfl z1 z2)
        refine gf0 rfl (show q2 < 2147483648 by omega) (by simp only [xcN]; omega) ?_
        refine gp rfl rfl rfl ?_
        refine gkn rfl rfl ?_
        refine gp rfl rfl rfl ?_
        refine gp rfl rfl rfl ?_
        refine gFl rfl (by rfl) ?_
        refine gkn rfl rfl ?_
        refine gp rfl rfl (s' := (_, _, .inl (nI q2) :: _, _)) rfl ?_
        repeat (first | refine gkn rfl rfl ?_ | refine gkm rfl rfl ?_ | refine gad rfl ?_ | refine gml rfl ?_ | refine gsb rfl (by omega) ?_ | refine gdv rfl (by omega) (by omega) (by omega) ?_ | refine grm rfl (by omega) (by omega) (by omega) ?_ | refine gic rfl rfl ?_ | refine gp rfl rfl rfl ?_ | refine gFl rfl (by rfl) ?_ | refine gAl rfl rfl (by rfl) (by omega) ?_ | refine gBl rfl rfl (by rfl) (by omega) ?_)
        rw [e58]
        refine gcv (As := [.inl (nI 2), .inl (nI p), .inl (nI x2)]) (rest := []) rfl (by decide) y1 (mU_obj _ _ _) rfl rfl (by decide) ?_
        refine grv rfl ⟨rfl, I1, A1, rfl, ?_, ?_, y4, y5⟩
        · rw [i1, i2]; exact y2
        · rw [i1, i2]; exact y3
    | some q1 =>
      obtain ⟨f1, x1, f2, f3, f4⟩ := hR1 q1 hq1
      have i1 : pTo D1.1 D1.2.2 p = some x1 := by unfold pTo; rw [hq1]; exact f3
      have c58 : A 58 q1 = nI x1 := by rw [a3 q1 f1, f3]; rfl
      refine gf0 rfl (show q1 < 2147483648 by omega) (by simp only [xcN]; omega) ?_
      repeat (first | refine gkn rfl rfl ?_ | refine gkm rfl rfl ?_ | refine gad rfl ?_ | refine gml rfl ?_ | refine gsb rfl (by omega) ?_ | refine gdv rfl (by omega) (by omega) (by omega) ?_ | refine grm rfl (by omega) (by omega) (by omega) ?_ | refine gic rfl rfl ?_ | refine gp rfl rfl rfl ?_ | refine gFl rfl (by rfl) ?_ | refine gAl rfl rfl (by rfl) (by omega) ?_ | refine gBl rfl rfl (by rfl) (by omega) ?_)
      cases hq2 : D2.1 p with
      | none =>
        have i2 : pTo D2.1 D2.2.2 p = none := by unfold pTo; rw [hq2]; rfl
        rw [i1, i2] at hJ
        obtain ⟨I1, A1, y1, y2, y3, y4, y5⟩ := r_alone (σ := σ) d (s := 1) (q := 2) h hC (Or.inl ⟨rfl, rfl⟩) hp f2 f4 hst hst2 (fun z1 z2 => hJ.1 x1 rfl rfl z1 z2)
        refine git rfl (show (-1 : Int32) < 0 by decide) ?_
        repeat (first | refine gkn rfl rfl ?_ | refine gkm rfl rfl ?_ | refine gad rfl ?_ | refine gml rfl ?_ | refine gsb rfl (by omega) ?_ | refine gdv rfl (by omega) (by omega) (by omega) ?_ | refine grm rfl (by omega) (by omega) (by omega) ?_ | refine gic rfl rfl ?_ | refine gp rfl rfl rfl ?_ | refine gFl rfl (by rfl) ?_ | refine gAl rfl rfl (by rfl) (by omega) ?_ | refine gBl rfl rfl (by rfl) (by omega) ?_)
        refine gf0 rfl (show q1 < 2147483648 by omega) (by simp only [xcN]; omega) ?_
        refine gp rfl rfl rfl ?_
        refine gkn rfl rfl ?_
        refine gp rfl rfl rfl ?_
        refine gp rfl rfl rfl ?_
        refine gFl rfl (by rfl) ?_
        refine gp rfl rfl (s' := (_, _, .inl (nI q1) :: _, _)) rfl ?_
        repeat (first | refine gkn rfl rfl ?_ | refine gkm rfl rfl ?_ | refine gad rfl ?_ | refine gml rfl ?_ | refine gsb rfl (by omega) ?_ | refine gdv rfl (by omega) (by omega) (by omega) ?_ | refine grm rfl (by omega) (by omega) (by omega) ?_ | refine gic rfl rfl ?_ | refine gp rfl rfl rfl ?_ | refine gFl rfl (by rfl) ?_ | refine gAl rfl rfl (by rfl) (by omega) ?_ | refine gBl rfl rfl (by rfl) (by omega) ?_)
        rw [c58]
        refine gcv (As := [.inl (nI 1), .inl (nI p), .inl (nI x1)]) (rest := []) rfl (by decide) y1 (mU_obj _ _ _) rfl rfl (by decide) ?_
        repeat (first | refine gkn rfl rfl ?_ | refine gkm rfl rfl ?_ | refine gad rfl ?_ | refine gml rfl ?_ | refine gsb rfl (by omega) ?_ | refine gdv rfl (by omega) (by omega) (by omega) ?_ | refine grm rfl (by omega) (by omega) (by omega) ?_ | refine gic rfl rfl ?_ | refine gp rfl rfl rfl ?_ | refine gFl rfl (by rfl) ?_ | refine gAl rfl rfl (by rfl) (by omega) ?_ | refine gBl rfl rfl (by rfl) (by omega) ?_)
        refine grv rfl ⟨rfl, I1, A1, rfl, ?_, ?_, y4, y5⟩
        · rw [i1, i2]; exact y2
        · rw [i1, i2]; exact y3
      | some q2 =>
        obtain ⟨g1, x2, g2, g3, g4⟩ := hR2 q2 hq2
        have i2 : pTo D2.1 D2.2.2 p = some x2 := by unfold pTo; rw [hq2]; exact g3
        have e58 : A 58 (64 + q2) = nI x2 := by rw [b3 q2 g1, g3]; rfl
        refine gf0 rfl (show q2 < 2147483648 by omega) (by simp only [xcN]; omega) ?_
        refine gp rfl rfl rfl ?_
        refine gFl rfl (by rfl) ?_
        refine gp rfl rfl (s' := (_, _, .inl (nI q1) :: _, _)) rfl ?_
        refine gAl rfl rfl (by rfl) (by omega) ?_
        rw [c58]
        refine gp rfl rfl rfl ?_
        refine gp rfl rfl rfl ?_
        refine gFl rfl (by rfl) ?_
        refine gkn rfl rfl ?_
        refine gp rfl rfl (s' := (_, _, .inl (nI q2) :: _, _)) rfl ?_
        repeat (first | refine gkn rfl rfl ?_ | refine gkm rfl rfl ?_ | refine gad rfl ?_ | refine gml rfl ?_ | refine gsb rfl (by omega) ?_ | refine gdv rfl (by omega) (by omega) (by omega) ?_ | refine grm rfl (by omega) (by omega) (by omega) ?_ | refine gic rfl rfl ?_ | refine gp rfl rfl rfl ?_ | refine gFl rfl (by rfl) ?_ | refine gAl rfl rfl (by rfl) (by omega) ?_ | refine gBl rfl rfl (by rfl) (by omega) ?_)
        rw [e58]
        refine gcN rfl (by omega) (by omega) (fun hne => ?_) (fun heq => ?_)
        · have hne : ¬ x1 = x2 := hne
          refine gp rfl rfl rfl ?_
          refine gFl rfl (by rfl) ?_
          refine gp rfl rfl rfl ?_
          refine gp rfl rfl rfl ?_
          refine gAl rfl rfl (by rfl) (by omega) ?_
          refine gkn rfl rfl ?_
          refine gp rfl rfl rfl ?_
          refine gAs rfl rfl rfl (by omega) ?_
          have w1 : mV (aU A 60 (upd (A 60) p (A 60 p ||| nI 32))) (wSet W V) := h.of (fun k hk => aU_ne (by omega))
          have v1 := hC.up (x := p) (v := nI 32) hp
          have u1 : aG A (aU A 60 (upd (A 60) p (A 60 p ||| nI 32))) := fun k _ b => aU_ne (by omega)
          generalize aU A 60 (upd (A 60) p (A 60 p ||| nI 32)) = A1 at *
          refine gp rfl rfl rfl ?_
          refine gFl rfl (by rfl) ?_
          refine gp rfl rfl (s' := (_, _, .inl (nI x1) :: _, _)) rfl ?_
          refine gp rfl rfl rfl ?_
          refine gAl rfl rfl (by rfl) (by omega) ?_
          refine gkn rfl rfl ?_
          refine gp rfl rfl rfl ?_
          refine gAs rfl rfl rfl (by omega) ?_
          have w2 : mV (aU A1 60 (upd (A1 60) x1 (A1 60 x1 ||| nI 32))) (wSet W V) := w1.of (fun k hk => aU_ne (by omega))
          have v2 := v1.up (x := x1) (v := nI 32) f2
          have u2 : aG A (aU A1 60 (upd (A1 60) x1 (A1 60 x1 ||| nI 32))) := u1.trans (fun k _ b => aU_ne (by omega))
          generalize aU A1 60 (upd (A1 60) x1 (A1 60 x1 ||| nI 32)) = A2 at *
          refine gp rfl rfl rfl ?_
          refine gFl rfl (by rfl) ?_
          refine gp rfl rfl (s' := (_, _, .inl (nI x2) :: _, _)) rfl ?_
          refine gp rfl rfl rfl ?_
          refine gAl rfl rfl (by rfl) (by omega) ?_
          refine gkn rfl rfl ?_
          refine gp rfl rfl rfl ?_
          refine gAs rfl rfl rfl (by omega) ?_
          have w3 : mV (aU A2 60 (upd (A2 60) x2 (A2 60 x2 ||| nI 32))) (wSet W V) := w2.of (fun k hk => aU_ne (by omega))
          have v3 := v2.up (x := x2) (v := nI 32) g2
          have u3 : aG A (aU A2 60 (upd (A2 60) x2 (A2 60 x2 ||| nI 32))) := u2.trans (fun k _ b => aU_ne (by omega))
          generalize aU A2 60 (upd (A2 60) x2 (A2 60 x2 ||| nI 32)) = A3 at *
          repeat (first | refine gkn rfl rfl ?_ | refine gkm rfl rfl ?_ | refine gad rfl ?_ | refine gml rfl ?_ | refine gsb rfl (by omega) ?_ | refine gdv rfl (by omega) (by omega) (by omega) ?_ | refine grm rfl (by omega) (by omega) (by omega) ?_ | refine gic rfl rfl ?_ | refine gp rfl rfl rfl ?_ | refine gFl rfl (by rfl) ?_ | refine gAl rfl rfl (by rfl) (by omega) ?_ | refine gBl rfl rfl (by rfl) (by omega) ?_)
          refine grv rfl ⟨rfl, I, A3, rfl, ?_, ?_, fun _ _ => rfl, u3⟩
          · rw [i1, i2]
            show mV A3 (wSet W (if x1 = x2 then _ else V))
            rw [if_neg hne]
            exact w3
          · rw [i1, i2]
            show mCo A3 (if x1 = x2 then C else _)
            rw [if_neg hne]
            exact v3
        · have heq : x1 = x2 := by
            by_cases z : x1 = x2
            · exact z
            · exact absurd z heq
          obtain ⟨A1, y1, y2, y3⟩ := r_go (σ := σ) (I := I) (d + 3) (t := 4) h (by decide) hp f2 f4
          rw [show wSet W V 4 = V 0 from wSet_ge W V 0, show (4 : Nat) = 4 + 0 from rfl, wSet_vU] at y2
          refine gp rfl rfl rfl ?_
          refine gkn rfl rfl ?_
          refine gp rfl rfl rfl ?_
          refine gp rfl rfl (s' := (_, _, .inl (nI x1) :: _, _)) rfl ?_
          refine gcv (As := [.inl (nI 4), .inl (nI p), .inl (nI x1)]) (rest := []) rfl (by decide) y1 (mU_obj _ _ _) rfl rfl (by decide) ?_
          repeat (first | refine gkn rfl rfl ?_ | refine gkm rfl rfl ?_ | refine gad rfl ?_ | refine gml rfl ?_ | refine gsb rfl (by omega) ?_ | refine gdv rfl (by omega) (by omega) (by omega) ?_ | refine grm rfl (by omega) (by omega) (by omega) ?_ | refine gic rfl rfl ?_ | refine gp rfl rfl rfl ?_ | refine gFl rfl (by rfl) ?_ | refine gAl rfl rfl (by rfl) (by omega) ?_ | refine gBl rfl rfl (by rfl) (by omega) ?_)
          refine grv rfl ⟨rfl, I, A1, rfl, ?_, ?_, fun _ _ => rfl, y3.g⟩
          · rw [i1, i2]
            show mV A1 (wSet W (if x1 = x2 then vU V 0 (pMv (V 0) p x1) else V))
            rw [if_pos heq]
            exact y2
          · rw [i1, i2]
            show mCo A1 (if x1 = x2 then C else _)
            rw [if_pos heq]
            exact hC.of (y3 60 (by decide))
  obtain ⟨r, σ', hex, rfl, I', A', rfl, g⟩ := ex_of (d := d + 6) (y := 118) (as := [.inr (some 52), .inl (nI p)]) (σ := mU σ I A) (K := K) (by decide) rfl main
  exact ⟨I', A', hex, g⟩
end REF
