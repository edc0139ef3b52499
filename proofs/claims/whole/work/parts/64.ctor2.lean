/-! MODULE: a new merger of lines -/
section XRUN3
variable {E : Nat → List xV → xS → Option xV → xS → Prop} {tb : List xI} {K : Option xV → xS → Prop} {pc len a b w : Nat} {ls : xL} {st : List xV} {σ : xS} {i : Instr}
theorem gmu {idx dm n k : Nat} {x y : Int32} (hk : xfd tb pc = some (pc, .multianewarray idx dm, len, a, b, w)) (h1 : x = nI n) (h2 : y = nI k) (h3 : n ≤ 20000) (h4 : k ≤ 20000) (g : xGo E tb K (pc + len, ls, .inr (some σ.2.1) :: st, xgrid σ n k)) : xGo E tb K (pc, ls, .inl y :: .inl x :: st, σ) := g0 hk (o := .inl _) ⟨n, k, h1, h2, h3, h4, rfl⟩ g
end XRUN3
theorem st_part {σ : xS} {q n s m : Nat} {e e' o : xE} (h2 : σ.2 = (n, s)) (hq : q ≠ n) : (xup (xup (xnew σ e m) n e') q o).1 q = some o ∧ (xup (xup (xnew σ e m) n e') q o).1 n = some e' ∧ (xup (xup (xnew σ e m) n e') q o).2 = (n + 1, s + m) ∧ ∀ k, k ≠ q → k ≠ n → (xup (xup (xnew σ e m) n e') q o).1 k = σ.1 k := by
  have e1 : σ.2.1 = n := by rw [h2]
  have e2 : σ.2.2 = s := by rw [h2]
  refine ⟨xup_eq _ _ _, ?_, ?_, fun k h1 h3 => ?_⟩
  · rw [xup_ne (Ne.symm hq)]
    exact xup_eq _ _ _
  · show (σ.2.1 + 1, σ.2.2 + m) = _
    rw [e1, e2]
  · rw [xup_ne h1, xup_ne h3, xnew_ne (by rw [e1]; exact h3)]
theorem m_LineMerge (d : Nat) {σ : xS} {s : Nat} {x1 x2 x3 x4 x5 x6 x7 x8 x9 : xV} (h : σ.1 21 = some (.inr (.inr (6, [x1, x2, x3, x4, x5, x6, x7, x8, x9])))) (hn : σ.2 = (22, s)) : ∃ σ', xEx (d + 2) 43 [.inr (some 21)] σ none σ' ∧ hL0 σ' ∧ σ'.2 = (38, s + 803) ∧ ∀ k, (k < 21 ∨ 37 < k) → σ'.1 k = σ.1 k := by
  let K : Option xV → xS → Prop := fun r0 σ0 => r0 = none ∧ hL0 σ0 ∧ σ0.2 = (38, s + 803) ∧ ∀ k, (k < 21 ∨ 37 < k) → σ0.1 k = σ.1 k
  have main : xGo (xEx (d + 1)) xtb_43 K (0, [some (.inr (some 21))], [], σ) := by
    have e0 : σ.2.1 = 22 := by rw [hn]
    have e0' : σ.2.2 = s := by rw [hn]
    repeat (first | refine gp rfl rfl rfl ?_ | refine ggf rfl (by assumption) (by rfl) ?_ | refine gal rfl (by assumption) (by rfl) (by omega) (by omega) ?_ | refine gil rfl (by assumption) (by rfl) (by omega) (by omega) ?_ | refine gbl rfl (by assumption) (by rfl) (by omega) (by omega) ?_ | refine gln rfl (xlen_i (by assumption)) ?_ | refine gln rfl (xlen_q (by assumption)) ?_)
    refine gob rfl (by decide) ?_
    repeat (first | refine gp rfl rfl rfl ?_ | refine ggf rfl (by assumption) (by rfl) ?_ | refine gal rfl (by assumption) (by rfl) (by omega) (by omega) ?_ | refine gil rfl (by assumption) (by rfl) (by omega) (by omega) ?_ | refine gbl rfl (by assumption) (by rfl) (by omega) (by omega) ?_ | refine gln rfl (xlen_i (by assumption)) ?_ | refine gln rfl (xlen_q (by assumption)) ?_)
    refine gmu (n := 9) (k := 77) rfl rfl rfl (by decide) (by decide) ?_
    have G0 : ∀ k, (k < 22 ∨ 31 < k) → (xgrid σ 9 77).1 k = σ.1 k := fun k hk => by
      unfold xgrid
      simp only
      rw [if_neg (by omega), if_neg (by omega)]
    have G1 : (xgrid σ 9 77).1 22 = some (.inr (.inl (2, 9, fun i => some (23 + i)))) := by
      unfold xgrid
      simp only [e0, if_true]
    have G2 : ∀ i, i < 9 → (xgrid σ 9 77).1 (23 + i) = some (.inl (0, 77, fun _ => 0)) := fun i hi => by
      unfold xgrid
      simp only
      rw [if_neg (by omega), if_pos (by omega)]
    have G3 : (xgrid σ 9 77).2 = (32, s + 702) := by
      show (σ.2.1 + 1 + 9, σ.2.2 + 9 + 9 * 77) = _
      rw [e0, e0']
    have a0 : (xgrid σ 9 77).1 21 = _ := (G0 21 (by omega)).trans h
    rw [e0]
    generalize xgrid σ 9 77 = σ0 at *
    refine gpf rfl a0 (Nat.le_of_ble_eq_true rfl) rfl ?_
    show xGo (xEx (d + 1)) xtb_43 K (16, [some (.inr (some 21))], [], xup σ0 21 (.inr (.inr (6, [.inr (some 22), x2, x3, x4, x5, x6, x7, x8, x9]))))
    have a1 : (xup σ0 21 (.inr (.inr (6, [.inr (some 22), x2, x3, x4, x5, x6, x7, x8, x9])))).1 21 = some (.inr (.inr (6, [.inr (some 22), x2, x3, x4, x5, x6, x7, x8, x9]))) := xup_eq _ _ _
    have c1 : (xup σ0 21 (.inr (.inr (6, [.inr (some 22), x2, x3, x4, x5, x6, x7, x8, x9])))).2 = (32, s + 702) := G3
    have d1 : ∀ k, k ≠ 21 → (xup σ0 21 (.inr (.inr (6, [.inr (some 22), x2, x3, x4, x5, x6, x7, x8, x9])))).1 k = σ0.1 k := fun k hk => xup_ne hk
    generalize xup σ0 21 (.inr (.inr (6, [.inr (some 22), x2, x3, x4, x5, x6, x7, x8, x9]))) = σ1 at *
    repeat (first | refine gp rfl rfl rfl ?_ | refine ggf rfl (by assumption) (by rfl) ?_ | refine gal rfl (by assumption) (by rfl) (by omega) (by omega) ?_ | refine gil rfl (by assumption) (by rfl) (by omega) (by omega) ?_ | refine gbl rfl (by assumption) (by rfl) (by omega) (by omega) ?_ | refine gln rfl (xlen_i (by assumption)) ?_ | refine gln rfl (xlen_q (by assumption)) ?_)
    refine gna (n := 8) rfl rfl (by decide) ?_
    have e1 : σ1.2.1 = 32 := by rw [c1]
    refine gpf rfl (show (xnew σ1 _ 8).1 21 = _ by rw [xnew_ne (by omega)]; exact a1) (Nat.le_of_ble_eq_true rfl) rfl ?_
    rw [e1]
    obtain ⟨a2, b2, c2, d2⟩ := st_new (m := 8) (e := .inl (0, 8, fun _ => 0)) (o := .inr (.inr (6, [.inr (some 22), .inr (some 32), x3, x4, x5, x6, x7, x8, x9]))) c1 (q := 21) (by decide)
    show xGo (xEx (d + 1)) xtb_43 K (24, [some (.inr (some 21))], [], xup (xnew σ1 (.inl (0, 8, fun _ => 0)) 8) 21 (.inr (.inr (6, [.inr (some 22), .inr (some 32), x3, x4, x5, x6, x7, x8, x9]))))
    generalize xup (xnew σ1 (.inl (0, 8, fun _ => 0)) 8) 21 (.inr (.inr (6, [.inr (some 22), .inr (some 32), x3, x4, x5, x6, x7, x8, x9]))) = σ2 at *
    repeat (first | refine gp rfl rfl rfl ?_ | refine ggf rfl (by assumption) (by rfl) ?_ | refine gal rfl (by assumption) (by rfl) (by omega) (by omega) ?_ | refine gil rfl (by assumption) (by rfl) (by omega) (by omega) ?_ | refine gbl rfl (by assumption) (by rfl) (by omega) (by omega) ?_ | refine gln rfl (xlen_i (by assumption)) ?_ | refine gln rfl (xlen_q (by assumption)) ?_)
    refine gna (n := 8) rfl rfl (by decide) ?_
    have e2 : σ2.2.1 = 33 := by rw [c2]
    refine gpf rfl (show (xnew σ2 _ 8).1 21 = _ by rw [xnew_ne (by omega)]; exact a2) (Nat.le_of_ble_eq_true rfl) rfl ?_
    rw [e2]
    obtain ⟨a3, b3, c3, d3⟩ := st_new (m := 8) (n := 33) (e := .inl (0, 8, fun _ => 0)) (o := .inr (.inr (6, [.inr (some 22), .inr (some 32), .inr (some 33), x4, x5, x6, x7, x8, x9]))) c2 (q := 21) (by decide)
    show xGo (xEx (d + 1)) xtb_43 K (32, [some (.inr (some 21))], [], xup (xnew σ2 (.inl (0, 8, fun _ => 0)) 8) 21 (.inr (.inr (6, [.inr (some 22), .inr (some 32), .inr (some 33), x4, x5, x6, x7, x8, x9]))))
    generalize xup (xnew σ2 (.inl (0, 8, fun _ => 0)) 8) 21 (.inr (.inr (6, [.inr (some 22), .inr (some 32), .inr (some 33), x4, x5, x6, x7, x8, x9]))) = σ3 at *
    repeat (first | refine gp rfl rfl rfl ?_ | refine ggf rfl (by assumption) (by rfl) ?_ | refine gal rfl (by assumption) (by rfl) (by omega) (by omega) ?_ | refine gil rfl (by assumption) (by rfl) (by omega) (by omega) ?_ | refine gbl rfl (by assumption) (by rfl) (by omega) (by omega) ?_ | refine gln rfl (xlen_i (by assumption)) ?_ | refine gln rfl (xlen_q (by assumption)) ?_)
    have e3 : σ3.2.1 = 34 := by rw [c3]
    have p3 : (xnew σ3 (.inr (.inr (5, xdf 5))) 3).1 34 = some (.inr (.inr (5, [.inr none, .inl 0, .inl 0]))) := by rw [← e3]; exact xnew_eq _ _ _
    rw [e3]
    refine gci (As := []) (rest := [.inr (some 34), .inr (some 21)]) rfl (by decide) (m_Part d p3) rfl rfl (Nat.le_of_ble_eq_true rfl) ?_
    refine gpf rfl (show (xup (xnew σ3 _ 3) 34 _).1 21 = _ by rw [xup_ne (by decide), xnew_ne (by omega)]; exact a3) (Nat.le_of_ble_eq_true rfl) rfl ?_
    obtain ⟨a4, b4, c4, d4⟩ := st_part (m := 3) (n := 34) (e := .inr (.inr (5, xdf 5))) (e' := .inr (.inr (5, [.inr (some 1), .inl (nI 0), .inl (nI 0)]))) (o := .inr (.inr (6, [.inr (some 22), .inr (some 32), .inr (some 33), .inr (some 34), x5, x6, x7, x8, x9]))) c3 (q := 21) (by decide)
    show xGo (xEx (d + 1)) xtb_43 K (43, [some (.inr (some 21))], [], xup (xup (xnew σ3 (.inr (.inr (5, xdf 5))) 3) 34 (.inr (.inr (5, [.inr (some 1), .inl (nI 0), .inl (nI 0)])))) 21 (.inr (.inr (6, [.inr (some 22), .inr (some 32), .inr (some 33), .inr (some 34), x5, x6, x7, x8, x9]))))
    generalize xup (xup (xnew σ3 (.inr (.inr (5, xdf 5))) 3) 34 (.inr (.inr (5, [.inr (some 1), .inl (nI 0), .inl (nI 0)])))) 21 (.inr (.inr (6, [.inr (some 22), .inr (some 32), .inr (some 33), .inr (some 34), x5, x6, x7, x8, x9]))) = σ4 at *
    repeat (first | refine gp rfl rfl rfl ?_ | refine ggf rfl (by assumption) (by rfl) ?_ | refine gal rfl (by assumption) (by rfl) (by omega) (by omega) ?_ | refine gil rfl (by assumption) (by rfl) (by omega) (by omega) ?_ | refine gbl rfl (by assumption) (by rfl) (by omega) (by omega) ?_ | refine gln rfl (xlen_i (by assumption)) ?_ | refine gln rfl (xlen_q (by assumption)) ?_)
    have e4 : σ4.2.1 = 35 := by rw [c4]
    have p4 : (xnew σ4 (.inr (.inr (5, xdf 5))) 3).1 35 = some (.inr (.inr (5, [.inr none, .inl 0, .inl 0]))) := by rw [← e4]; exact xnew_eq _ _ _
    rw [e4]
    refine gci (As := []) (rest := [.inr (some 35), .inr (some 21)]) rfl (by decide) (m_Part d p4) rfl rfl (Nat.le_of_ble_eq_true rfl) ?_
    refine gpf rfl (show (xup (xnew σ4 _ 3) 35 _).1 21 = _ by rw [xup_ne (by decide), xnew_ne (by omega)]; exact a4) (Nat.le_of_ble_eq_true rfl) rfl ?_
    obtain ⟨a5, b5, c5, d5⟩ := st_part (m := 3) (n := 35) (e := .inr (.inr (5, xdf 5))) (e' := .inr (.inr (5, [.inr (some 1), .inl (nI 0), .inl (nI 0)]))) (o := .inr (.inr (6, [.inr (some 22), .inr (some 32), .inr (some 33), .inr (some 34), .inr (some 35), x6, x7, x8, x9]))) c4 (q := 21) (by decide)
    show xGo (xEx (d + 1)) xtb_43 K (54, [some (.inr (some 21))], [], xup (xup (xnew σ4 (.inr (.inr (5, xdf 5))) 3) 35 (.inr (.inr (5, [.inr (some 1), .inl (nI 0), .inl (nI 0)])))) 21 (.inr (.inr (6, [.inr (some 22), .inr (some 32), .inr (some 33), .inr (some 34), .inr (some 35), x6, x7, x8, x9]))))
    generalize xup (xup (xnew σ4 (.inr (.inr (5, xdf 5))) 3) 35 (.inr (.inr (5, [.inr (some 1), .inl (nI 0), .inl (nI 0)])))) 21 (.inr (.inr (6, [.inr (some 22), .inr (some 32), .inr (some 33), .inr (some 34), .inr (some 35), x6, x7, x8, x9]))) = σ5 at *
    repeat (first | refine gp rfl rfl rfl ?_ | refine ggf rfl (by assumption) (by rfl) ?_ | refine gal rfl (by assumption) (by rfl) (by omega) (by omega) ?_ | refine gil rfl (by assumption) (by rfl) (by omega) (by omega) ?_ | refine gbl rfl (by assumption) (by rfl) (by omega) (by omega) ?_ | refine gln rfl (xlen_i (by assumption)) ?_ | refine gln rfl (xlen_q (by assumption)) ?_)
    have e5 : σ5.2.1 = 36 := by rw [c5]
    have p5 : (xnew σ5 (.inr (.inr (5, xdf 5))) 3).1 36 = some (.inr (.inr (5, [.inr none, .inl 0, .inl 0]))) := by rw [← e5]; exact xnew_eq _ _ _
    rw [e5]
    refine gci (As := []) (rest := [.inr (some 36), .inr (some 21)]) rfl (by decide) (m_Part d p5) rfl rfl (Nat.le_of_ble_eq_true rfl) ?_
    refine gpf rfl (show (xup (xnew σ5 _ 3) 36 _).1 21 = _ by rw [xup_ne (by decide), xnew_ne (by omega)]; exact a5) (Nat.le_of_ble_eq_true rfl) rfl ?_
    obtain ⟨a6, b6, c6, d6⟩ := st_part (m := 3) (n := 36) (e := .inr (.inr (5, xdf 5))) (e' := .inr (.inr (5, [.inr (some 1), .inl (nI 0), .inl (nI 0)]))) (o := .inr (.inr (6, [.inr (some 22), .inr (some 32), .inr (some 33), .inr (some 34), .inr (some 35), .inr (some 36), x7, x8, x9]))) c5 (q := 21) (by decide)
    show xGo (xEx (d + 1)) xtb_43 K (65, [some (.inr (some 21))], [], xup (xup (xnew σ5 (.inr (.inr (5, xdf 5))) 3) 36 (.inr (.inr (5, [.inr (some 1), .inl (nI 0), .inl (nI 0)])))) 21 (.inr (.inr (6, [.inr (some 22), .inr (some 32), .inr (some 33), .inr (some 34), .inr (some 35), .inr (some 36), x7, x8, x9]))))
    generalize xup (xup (xnew σ5 (.inr (.inr (5, xdf 5))) 3) 36 (.inr (.inr (5, [.inr (some 1), .inl (nI 0), .inl (nI 0)])))) 21 (.inr (.inr (6, [.inr (some 22), .inr (some 32), .inr (some 33), .inr (some 34), .inr (some 35), .inr (some 36), x7, x8, x9]))) = σ6 at *
    repeat (first | refine gp rfl rfl rfl ?_ | refine ggf rfl (by assumption) (by rfl) ?_ | refine gal rfl (by assumption) (by rfl) (by omega) (by omega) ?_ | refine gil rfl (by assumption) (by rfl) (by omega) (by omega) ?_ | refine gbl rfl (by assumption) (by rfl) (by omega) (by omega) ?_ | refine gln rfl (xlen_i (by assumption)) ?_ | refine gln rfl (xlen_q (by assumption)) ?_)
    refine gna (n := 76) rfl rfl (by decide) ?_
    have e6 : σ6.2.1 = 37 := by rw [c6]
    refine gpf rfl (show (xnew σ6 _ 76).1 21 = _ by rw [xnew_ne (by omega)]; exact a6) (Nat.le_of_ble_eq_true rfl) rfl ?_
    rw [e6]
    obtain ⟨a7, b7, c7, d7⟩ := st_new (m := 76) (n := 37) (e := .inl (0, 76, fun _ => 0)) (o := .inr (.inr (6, [.inr (some 22), .inr (some 32), .inr (some 33), .inr (some 34), .inr (some 35), .inr (some 36), .inr (some 37), x8, x9]))) c6 (q := 21) (by decide)
    show xGo (xEx (d + 1)) xtb_43 K (73, [some (.inr (some 21))], [], xup (xnew σ6 (.inl (0, 76, fun _ => 0)) 76) 21 (.inr (.inr (6, [.inr (some 22), .inr (some 32), .inr (some 33), .inr (some 34), .inr (some 35), .inr (some 36), .inr (some 37), x8, x9]))))
    generalize xup (xnew σ6 (.inl (0, 76, fun _ => 0)) 76) 21 (.inr (.inr (6, [.inr (some 22), .inr (some 32), .inr (some 33), .inr (some 34), .inr (some 35), .inr (some 36), .inr (some 37), x8, x9]))) = σ7 at *
    repeat (first | refine gp rfl rfl rfl ?_ | refine ggf rfl (by assumption) (by rfl) ?_ | refine gal rfl (by assumption) (by rfl) (by omega) (by omega) ?_ | refine gil rfl (by assumption) (by rfl) (by omega) (by omega) ?_ | refine gbl rfl (by assumption) (by rfl) (by omega) (by omega) ?_ | refine gln rfl (xlen_i (by assumption)) ?_ | refine gln rfl (xlen_q (by assumption)) ?_)
    refine gpf rfl a7 (Nat.le_of_ble_eq_true rfl) (Or.inl rfl) ?_
    repeat (first | refine gp rfl rfl rfl ?_ | refine ggf rfl (by assumption) (by rfl) ?_ | refine gal rfl (by assumption) (by rfl) (by omega) (by omega) ?_ | refine gil rfl (by assumption) (by rfl) (by omega) (by omega) ?_ | refine gbl rfl (by assumption) (by rfl) (by omega) (by omega) ?_ | refine gln rfl (xlen_i (by assumption)) ?_ | refine gln rfl (xlen_q (by assumption)) ?_)
    refine gpf rfl (xup_eq _ _ _) (Nat.le_of_ble_eq_true rfl) (Or.inr ⟨rfl, Or.inl rfl⟩) ?_
    rw [xup_up]
    have u : ∀ {e : xE} k, k ≠ 21 → (xup σ7 21 e).1 k = σ7.1 k := fun k hk => xup_ne hk
    have low : ∀ k, k ≠ 21 → (k < 32 ∨ 37 < k) → σ7.1 k = σ0.1 k := fun k h1 h2 => by rw [d7 k h1 (by omega), d6 k h1 (by omega), d5 k h1 (by omega), d4 k h1 (by omega), d3 k h1 (by omega), d2 k h1 (by omega), d1 k h1]
    have v32 : σ7.1 32 = some (.inl (0, 8, fun _ => 0)) := by rw [d7 32 (by decide) (by decide), d6 32 (by decide) (by decide), d5 32 (by decide) (by decide), d4 32 (by decide) (by decide), d3 32 (by decide) (by decide)]; exact b2
    have v33 : σ7.1 33 = some (.inl (0, 8, fun _ => 0)) := by rw [d7 33 (by decide) (by decide), d6 33 (by decide) (by decide), d5 33 (by decide) (by decide), d4 33 (by decide) (by decide)]; exact b3
    have v34 : σ7.1 34 = some (.inr (.inr (5, [.inr (some 1), .inl (nI 0), .inl (nI 0)]))) := by rw [d7 34 (by decide) (by decide), d6 34 (by decide) (by decide), d5 34 (by decide) (by decide)]; exact b4
    have v35 : σ7.1 35 = some (.inr (.inr (5, [.inr (some 1), .inl (nI 0), .inl (nI 0)]))) := by rw [d7 35 (by decide) (by decide), d6 35 (by decide) (by decide)]; exact b5
    have v36 : σ7.1 36 = some (.inr (.inr (5, [.inr (some 1), .inl (nI 0), .inl (nI 0)]))) := by rw [d7 36 (by decide) (by decide)]; exact b6
    exact grv rfl ⟨rfl, ⟨⟨[], false, xup_eq _ _ _, by decide, _, (u 37 (by decide)).trans b7, fun j hj => absurd hj (Nat.not_lt_zero _)⟩, ⟨fun _ _ => 0, (u 22 (by decide)).trans ((low 22 (by decide) (by decide)).trans G1), fun i hi => (u _ (by omega)).trans ((low _ (by omega) (by omega)).trans (G2 i hi))⟩, ⟨_, (u 32 (by decide)).trans v32⟩, ⟨_, (u 33 (by decide)).trans v33⟩, ⟨_, _, _, (u 34 (by decide)).trans v34⟩, ⟨_, _, _, (u 35 (by decide)).trans v35⟩, ⟨_, _, _, (u 36 (by decide)).trans v36⟩⟩, c7, fun k hk => (u k (by omega)).trans ((low k (by omega) (by omega)).trans (G0 k (by omega)))⟩
  obtain ⟨r, σ', hex, rfl, g1, g2, g3⟩ := ex_of (d := d + 1) (y := 43) (as := [.inr (some 21)]) (σ := σ) (K := K) (by decide) rfl main
  exact ⟨σ', hex, g1, g2, g3⟩
