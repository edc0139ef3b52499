/-! MODULE: a new object, its parts -/
theorem m_Part (d : Nat) {σ : xS} {q : Nat} {x y z : xV} (h : σ.1 q = some (.inr (.inr (5, [x, y, z])))) : xEx (d + 1) 36 [.inr (some q)] σ none (xup σ q (.inr (.inr (5, [.inr (some 1), .inl (nI 0), .inl (nI 0)])))) := by
  refine ⟨by decide, rfl, ?_⟩
  show xGo (xEx d) xtb_36 _ (0, [some (.inr (some q))], [], σ)
  repeat (first | refine gp rfl rfl rfl ?_ | refine ggf rfl (by assumption) (by rfl) ?_ | refine gal rfl (by assumption) (by rfl) (by omega) (by omega) ?_ | refine gil rfl (by assumption) (by rfl) (by omega) (by omega) ?_ | refine gbl rfl (by assumption) (by rfl) (by omega) (by omega) ?_ | refine gln rfl (xlen_i (by assumption)) ?_ | refine gln rfl (xlen_q (by assumption)) ?_)
  refine gob rfl (by decide) ?_
  repeat (first | refine gp rfl rfl rfl ?_ | refine ggf rfl (by assumption) (by rfl) ?_ | refine gal rfl (by assumption) (by rfl) (by omega) (by omega) ?_ | refine gil rfl (by assumption) (by rfl) (by omega) (by omega) ?_ | refine gbl rfl (by assumption) (by rfl) (by omega) (by omega) ?_ | refine gln rfl (xlen_i (by assumption)) ?_ | refine gln rfl (xlen_q (by assumption)) ?_)
  refine gpf rfl h (Nat.le_of_ble_eq_true rfl) rfl ?_
  repeat (first | refine gp rfl rfl rfl ?_ | refine ggf rfl (by assumption) (by rfl) ?_ | refine gal rfl (by assumption) (by rfl) (by omega) (by omega) ?_ | refine gil rfl (by assumption) (by rfl) (by omega) (by omega) ?_ | refine gbl rfl (by assumption) (by rfl) (by omega) (by omega) ?_ | refine gln rfl (xlen_i (by assumption)) ?_ | refine gln rfl (xlen_q (by assumption)) ?_)
  refine gpf rfl (xup_eq _ _ _) (Nat.le_of_ble_eq_true rfl) (Or.inl rfl) ?_
  rw [xup_up]
  repeat (first | refine gp rfl rfl rfl ?_ | refine ggf rfl (by assumption) (by rfl) ?_ | refine gal rfl (by assumption) (by rfl) (by omega) (by omega) ?_ | refine gil rfl (by assumption) (by rfl) (by omega) (by omega) ?_ | refine gbl rfl (by assumption) (by rfl) (by omega) (by omega) ?_ | refine gln rfl (xlen_i (by assumption)) ?_ | refine gln rfl (xlen_q (by assumption)) ?_)
  refine gpf rfl (xup_eq _ _ _) (Nat.le_of_ble_eq_true rfl) (Or.inl rfl) ?_
  rw [xup_up]
  exact grv rfl ⟨rfl, rfl⟩
/-- an array is made and put into a field -/
theorem st_new {σ : xS} {q n s m : Nat} {e o : xE} (h2 : σ.2 = (n, s)) (hq : q ≠ n) : (xup (xnew σ e m) q o).1 q = some o ∧ (xup (xnew σ e m) q o).1 n = some e ∧ (xup (xnew σ e m) q o).2 = (n + 1, s + m) ∧ ∀ k, k ≠ q → k ≠ n → (xup (xnew σ e m) q o).1 k = σ.1 k := by
  have e1 : σ.2.1 = n := by rw [h2]
  have e2 : σ.2.2 = s := by rw [h2]
  refine ⟨xup_eq _ _ _, ?_, ?_, fun k h1 h3 => ?_⟩
  · rw [xup_ne (Ne.symm hq), ← e1]
    exact xnew_eq _ _ _
  · show (σ.2.1 + 1, σ.2.2 + m) = _
    rw [e1, e2]
  · rw [xup_ne h1, xnew_ne (by rw [e1]; exact h3)]
theorem m_Side (d : Nat) {σ : xS} {q s : Nat} {x1 x2 x3 x4 x5 x6 : xV} (h : σ.1 q = some (.inr (.inr (3, [x1, x2, x3, x4, x5, x6])))) (hn : σ.2 = (q + 1, s)) (hq : 2 ≤ q) : ∃ σ', xEx (d + 2) 16 [.inr (some q)] σ none σ' ∧ hSide σ' q (fun _ => none) (fun _ => none) (fun _ => none) ∧ σ'.2 = (q + 7, s + 328) ∧ ∀ k, (k < q ∨ q + 6 < k) → σ'.1 k = σ.1 k := by
  let K : Option xV → xS → Prop := fun r0 σ0 => r0 = none ∧ hSide σ0 q (fun _ => none) (fun _ => none) (fun _ => none) ∧ σ0.2 = (q + 7, s + 328) ∧ ∀ k, (k < q ∨ q + 6 < k) → σ0.1 k = σ.1 k
  have main : xGo (xEx (d + 1)) xtb_16 K (0, [some (.inr (some q))], [], σ) := by
    repeat (first | refine gp rfl rfl rfl ?_ | refine ggf rfl (by assumption) (by rfl) ?_ | refine gal rfl (by assumption) (by rfl) (by omega) (by omega) ?_ | refine gil rfl (by assumption) (by rfl) (by omega) (by omega) ?_ | refine gbl rfl (by assumption) (by rfl) (by omega) (by omega) ?_ | refine gln rfl (xlen_i (by assumption)) ?_ | refine gln rfl (xlen_q (by assumption)) ?_)
    refine gob rfl (by decide) ?_
    repeat (first | refine gp rfl rfl rfl ?_ | refine ggf rfl (by assumption) (by rfl) ?_ | refine gal rfl (by assumption) (by rfl) (by omega) (by omega) ?_ | refine gil rfl (by assumption) (by rfl) (by omega) (by omega) ?_ | refine gbl rfl (by assumption) (by rfl) (by omega) (by omega) ?_ | refine gln rfl (xlen_i (by assumption)) ?_ | refine gln rfl (xlen_q (by assumption)) ?_)
    refine gna (n := 64) rfl rfl (by decide) ?_
    have e1 : σ.2.1 = q + 1 := by rw [hn]
    refine gpf rfl (show (xnew σ _ 64).1 q = _ by rw [xnew_ne (by omega)]; exact h) (Nat.le_of_ble_eq_true rfl) rfl ?_
    rw [e1]
    obtain ⟨a1, b1, c1, d1⟩ := st_new (m := 64) (e := .inl (0, 64, fun _ => 0)) (o := .inr (.inr (3, [.inr (some (q + 1)), x2, x3, x4, x5, x6]))) hn (q := q) (by omega)
    show xGo (xEx (d + 1)) xtb_16 K (12, [some (.inr (some q))], [], xup (xnew σ (.inl (0, 64, fun _ => 0)) 64) q (.inr (.inr (3, [.inr (some (q + 1)), x2, x3, x4, x5, x6]))))
    generalize xup (xnew σ (.inl (0, 64, fun _ => 0)) 64) q (.inr (.inr (3, [.inr (some (q + 1)), x2, x3, x4, x5, x6]))) = σ1 at *
    repeat (first | refine gp rfl rfl rfl ?_ | refine ggf rfl (by assumption) (by rfl) ?_ | refine gal rfl (by assumption) (by rfl) (by omega) (by omega) ?_ | refine gil rfl (by assumption) (by rfl) (by omega) (by omega) ?_ | refine gbl rfl (by assumption) (by rfl) (by omega) (by omega) ?_ | refine gln rfl (xlen_i (by assumption)) ?_ | refine gln rfl (xlen_q (by assumption)) ?_)
    refine gna (n := 64) rfl rfl (by decide) ?_
    have e2 : σ1.2.1 = q + 1 + 1 := by rw [c1]
    refine gpf rfl (show (xnew σ1 _ 64).1 q = _ by rw [xnew_ne (by omega)]; exact a1) (Nat.le_of_ble_eq_true rfl) rfl ?_
    rw [e2]
    obtain ⟨a2, b2, c2, d2⟩ := st_new (m := 64) (e := .inl (2, 64, fun _ => 0)) (o := .inr (.inr (3, [.inr (some (q + 1)), .inr (some (q + 1 + 1)), x3, x4, x5, x6]))) c1 (q := q) (by omega)
    show xGo (xEx (d + 1)) xtb_16 K (20, [some (.inr (some q))], [], xup (xnew σ1 (.inl (2, 64, fun _ => 0)) 64) q (.inr (.inr (3, [.inr (some (q + 1)), .inr (some (q + 1 + 1)), x3, x4, x5, x6]))))
    generalize xup (xnew σ1 (.inl (2, 64, fun _ => 0)) 64) q (.inr (.inr (3, [.inr (some (q + 1)), .inr (some (q + 1 + 1)), x3, x4, x5, x6]))) = σ2 at *
    repeat (first | refine gp rfl rfl rfl ?_ | refine ggf rfl (by assumption) (by rfl) ?_ | refine gal rfl (by assumption) (by rfl) (by omega) (by omega) ?_ | refine gil rfl (by assumption) (by rfl) (by omega) (by omega) ?_ | refine gbl rfl (by assumption) (by rfl) (by omega) (by omega) ?_ | refine gln rfl (xlen_i (by assumption)) ?_ | refine gln rfl (xlen_q (by assumption)) ?_)
    refine gna (n := 64) rfl rfl (by decide) ?_
    have e3 : σ2.2.1 = q + 1 + 1 + 1 := by rw [c2]
    refine gpf rfl (show (xnew σ2 _ 64).1 q = _ by rw [xnew_ne (by omega)]; exact a2) (Nat.le_of_ble_eq_true rfl) rfl ?_
    rw [e3]
    obtain ⟨a3, b3, c3, d3⟩ := st_new (m := 64) (e := .inl (2, 64, fun _ => 0)) (o := .inr (.inr (3, [.inr (some (q + 1)), .inr (some (q + 1 + 1)), .inr (some (q + 1 + 1 + 1)), x4, x5, x6]))) c2 (q := q) (by omega)
    show xGo (xEx (d + 1)) xtb_16 K (28, [some (.inr (some q))], [], xup (xnew σ2 (.inl (2, 64, fun _ => 0)) 64) q (.inr (.inr (3, [.inr (some (q + 1)), .inr (some (q + 1 + 1)), .inr (some (q + 1 + 1 + 1)), x4, x5, x6]))))
    generalize xup (xnew σ2 (.inl (2, 64, fun _ => 0)) 64) q (.inr (.inr (3, [.inr (some (q + 1)), .inr (some (q + 1 + 1)), .inr (some (q + 1 + 1 + 1)), x4, x5, x6]))) = σ3 at *
    repeat (first | refine gp rfl rfl rfl ?_ | refine ggf rfl (by assumption) (by rfl) ?_ | refine gal rfl (by assumption) (by rfl) (by omega) (by omega) ?_ | refine gil rfl (by assumption) (by rfl) (by omega) (by omega) ?_ | refine gbl rfl (by assumption) (by rfl) (by omega) (by omega) ?_ | refine gln rfl (xlen_i (by assumption)) ?_ | refine gln rfl (xlen_q (by assumption)) ?_)
    refine gna (n := 8) rfl rfl (by decide) ?_
    have e4 : σ3.2.1 = q + 1 + 1 + 1 + 1 := by rw [c3]
    refine gpf rfl (show (xnew σ3 _ 8).1 q = _ by rw [xnew_ne (by omega)]; exact a3) (Nat.le_of_ble_eq_true rfl) rfl ?_
    rw [e4]
    obtain ⟨a4, b4, c4, d4⟩ := st_new (m := 8) (e := .inl (0, 8, fun _ => 0)) (o := .inr (.inr (3, [.inr (some (q + 1)), .inr (some (q + 1 + 1)), .inr (some (q + 1 + 1 + 1)), .inr (some (q + 1 + 1 + 1 + 1)), x5, x6]))) c3 (q := q) (by omega)
    show xGo (xEx (d + 1)) xtb_16 K (36, [some (.inr (some q))], [], xup (xnew σ3 (.inl (0, 8, fun _ => 0)) 8) q (.inr (.inr (3, [.inr (some (q + 1)), .inr (some (q + 1 + 1)), .inr (some (q + 1 + 1 + 1)), .inr (some (q + 1 + 1 + 1 + 1)), x5, x6]))))
    generalize xup (xnew σ3 (.inl (0, 8, fun _ => 0)) 8) q (.inr (.inr (3, [.inr (some (q + 1)), .inr (some (q + 1 + 1)), .inr (some (q + 1 + 1 + 1)), .inr (some (q + 1 + 1 + 1 + 1)), x5, x6]))) = σ4 at *
    repeat (first | refine gp rfl rfl rfl ?_ | refine ggf rfl (by assumption) (by rfl) ?_ | refine gal rfl (by assumption) (by rfl) (by omega) (by omega) ?_ | refine gil rfl (by assumption) (by rfl) (by omega) (by omega) ?_ | refine gbl rfl (by assumption) (by rfl) (by omega) (by omega) ?_ | refine gln rfl (xlen_i (by assumption)) ?_ | refine gln rfl (xlen_q (by assumption)) ?_)
    refine gna (n := 64) rfl rfl (by decide) ?_
    have e5 : σ4.2.1 = q + 1 + 1 + 1 + 1 + 1 := by rw [c4]
    refine gpf rfl (show (xnew σ4 _ 64).1 q = _ by rw [xnew_ne (by omega)]; exact a4) (Nat.le_of_ble_eq_true rfl) rfl ?_
    rw [e5]
    obtain ⟨a5, b5, c5, d5⟩ := st_new (m := 64) (e := .inl (0, 64, fun _ => 0)) (o := .inr (.inr (3, [.inr (some (q + 1)), .inr (some (q + 1 + 1)), .inr (some (q + 1 + 1 + 1)), .inr (some (q + 1 + 1 + 1 + 1)), .inr (some (q + 1 + 1 + 1 + 1 + 1)), x6]))) c4 (q := q) (by omega)
    show xGo (xEx (d + 1)) xtb_16 K (44, [some (.inr (some q))], [], xup (xnew σ4 (.inl (0, 64, fun _ => 0)) 64) q (.inr (.inr (3, [.inr (some (q + 1)), .inr (some (q + 1 + 1)), .inr (some (q + 1 + 1 + 1)), .inr (some (q + 1 + 1 + 1 + 1)), .inr (some (q + 1 + 1 + 1 + 1 + 1)), x6]))))
    generalize xup (xnew σ4 (.inl (0, 64, fun _ => 0)) 64) q (.inr (.inr (3, [.inr (some (q + 1)), .inr (some (q + 1 + 1)), .inr (some (q + 1 + 1 + 1)), .inr (some (q + 1 + 1 + 1 + 1)), .inr (some (q + 1 + 1 + 1 + 1 + 1)), x6]))) = σ5 at *
    repeat (first | refine gp rfl rfl rfl ?_ | refine ggf rfl (by assumption) (by rfl) ?_ | refine gal rfl (by assumption) (by rfl) (by omega) (by omega) ?_ | refine gil rfl (by assumption) (by rfl) (by omega) (by omega) ?_ | refine gbl rfl (by assumption) (by rfl) (by omega) (by omega) ?_ | refine gln rfl (xlen_i (by assumption)) ?_ | refine gln rfl (xlen_q (by assumption)) ?_)
    refine gna (n := 64) rfl rfl (by decide) ?_
    have e6 : σ5.2.1 = q + 1 + 1 + 1 + 1 + 1 + 1 := by rw [c5]
    refine gpf rfl (show (xnew σ5 _ 64).1 q = _ by rw [xnew_ne (by omega)]; exact a5) (Nat.le_of_ble_eq_true rfl) rfl ?_
    rw [e6]
    obtain ⟨a6, b6, c6, d6⟩ := st_new (m := 64) (e := .inl (0, 64, fun _ => 0)) (o := .inr (.inr (3, [.inr (some (q + 1)), .inr (some (q + 2)), .inr (some (q + 3)), .inr (some (q + 4)), .inr (some (q + 5)), .inr (some (q + 6))]))) c5 (q := q) (by omega)
    show xGo (xEx (d + 1)) xtb_16 K (52, [some (.inr (some q))], [], xup (xnew σ5 (.inl (0, 64, fun _ => 0)) 64) q (.inr (.inr (3, [.inr (some (q + 1)), .inr (some (q + 2)), .inr (some (q + 3)), .inr (some (q + 4)), .inr (some (q + 5)), .inr (some (q + 6))]))))
    generalize xup (xnew σ5 (.inl (0, 64, fun _ => 0)) 64) q (.inr (.inr (3, [.inr (some (q + 1)), .inr (some (q + 2)), .inr (some (q + 3)), .inr (some (q + 4)), .inr (some (q + 5)), .inr (some (q + 6))]))) = σ6 at *
    have r1 : σ6.1 (q + 1) = some (.inl (0, 64, fun _ => 0)) := by rw [d6 _ (by omega) (by omega), d5 _ (by omega) (by omega), d4 _ (by omega) (by omega), d3 _ (by omega) (by omega), d2 _ (by omega) (by omega)]; exact b1
    have r2 : σ6.1 (q + 2) = some (.inl (2, 64, fun _ => 0)) := by rw [d6 _ (by omega) (by omega), d5 _ (by omega) (by omega), d4 _ (by omega) (by omega), d3 _ (by omega) (by omega)]; exact b2
    have r3 : σ6.1 (q + 3) = some (.inl (2, 64, fun _ => 0)) := by rw [d6 _ (by omega) (by omega), d5 _ (by omega) (by omega), d4 _ (by omega) (by omega)]; exact b3
    have r4 : σ6.1 (q + 4) = some (.inl (0, 8, fun _ => 0)) := by rw [d6 _ (by omega) (by omega), d5 _ (by omega) (by omega)]; exact b4
    have r5 : σ6.1 (q + 5) = some (.inl (0, 64, fun _ => 0)) := by rw [d6 _ (by omega) (by omega)]; exact b5
    have r6 : σ6.1 (q + 6) = some (.inl (0, 64, fun _ => 0)) := b6
    have r7 : ∀ k, (k < q ∨ q + 6 < k) → σ6.1 k = σ.1 k := fun k hk => by rw [d6 _ (by omega) (by omega), d5 _ (by omega) (by omega), d4 _ (by omega) (by omega), d3 _ (by omega) (by omega), d2 _ (by omega) (by omega), d1 _ (by omega) (by omega)]
    clear b1 b2 b3 b4 b5 b6 d1 d2 d3 d4 d5 d6 a1 a2 a3 a4 a5 e1 e2 e3 e4 e5 e6
    repeat (first | refine gp rfl rfl rfl ?_ | refine ggf rfl (by assumption) (by rfl) ?_ | refine gal rfl (by assumption) (by rfl) (by omega) (by omega) ?_ | refine gil rfl (by assumption) (by rfl) (by omega) (by omega) ?_ | refine gbl rfl (by assumption) (by rfl) (by omega) (by omega) ?_ | refine gln rfl (xlen_i (by assumption)) ?_ | refine gln rfl (xlen_q (by assumption)) ?_)
    obtain ⟨f1, y1, z1⟩ := m_fill d (x := xk 1 1) r1 (by decide) (by omega)
    refine gcs (As := [.inr (some (q + 1)), .inl (xk 1 1)]) (rest := []) rfl (by decide) z1 rfl rfl (by decide) ?_
    have a7 : (xup σ6 (q + 1) (.inl (0, 64, f1))).1 q = _ := (xup_ne (by omega)).trans a6
    have r4' : (xup σ6 (q + 1) (.inl (0, 64, f1))).1 (q + 4) = some (.inl (0, 8, fun _ => 0)) := (xup_ne (by omega)).trans r4
    repeat (first | refine gp rfl rfl rfl ?_ | refine ggf rfl (by assumption) (by rfl) ?_ | refine gal rfl (by assumption) (by rfl) (by omega) (by omega) ?_ | refine gil rfl (by assumption) (by rfl) (by omega) (by omega) ?_ | refine gbl rfl (by assumption) (by rfl) (by omega) (by omega) ?_ | refine gln rfl (xlen_i (by assumption)) ?_ | refine gln rfl (xlen_q (by assumption)) ?_)
    obtain ⟨f2, y2, z2⟩ := m_fill d (x := xk 1 1) r4' (by decide) (by omega)
    refine gcs (As := [.inr (some (q + 4)), .inl (xk 1 1)]) (rest := []) rfl (by decide) z2 rfl rfl (by decide) ?_
    have a8 : (xup (xup σ6 (q + 1) (.inl (0, 64, f1))) (q + 4) (.inl (0, 8, f2))).1 q = _ := (xup_ne (by omega)).trans a7
    have r6' : (xup (xup σ6 (q + 1) (.inl (0, 64, f1))) (q + 4) (.inl (0, 8, f2))).1 (q + 6) = some (.inl (0, 64, fun _ => 0)) := (xup_ne (by omega)).trans ((xup_ne (by omega)).trans r6)
    repeat (first | refine gp rfl rfl rfl ?_ | refine ggf rfl (by assumption) (by rfl) ?_ | refine gal rfl (by assumption) (by rfl) (by omega) (by omega) ?_ | refine gil rfl (by assumption) (by rfl) (by omega) (by omega) ?_ | refine gbl rfl (by assumption) (by rfl) (by omega) (by omega) ?_ | refine gln rfl (xlen_i (by assumption)) ?_ | refine gln rfl (xlen_q (by assumption)) ?_)
    obtain ⟨f3, y3, z3⟩ := m_fill d (x := xk 1 1) r6' (by decide) (by omega)
    refine gcs (As := [.inr (some (q + 6)), .inl (xk 1 1)]) (rest := []) rfl (by decide) z3 rfl rfl (by decide) ?_
    have m1 : ∀ k, k ≠ q + 1 → k ≠ q + 4 → k ≠ q + 6 → (xup (xup (xup σ6 (q + 1) (.inl (0, 64, f1))) (q + 4) (.inl (0, 8, f2))) (q + 6) (.inl (0, 64, f3))).1 k = σ6.1 k := fun k h1 h2 h3 => (xup_ne h3).trans ((xup_ne h2).trans (xup_ne h1))
    refine grv rfl ⟨rfl, ⟨?_, ⟨f1, ?_, fun p hp => (y1 p hp).trans xk_m1⟩, ⟨_, (m1 _ (by omega) (by omega) (by omega)).trans r2⟩, ⟨_, (m1 _ (by omega) (by omega) (by omega)).trans r3⟩, ⟨f2, ?_, fun p hp => (y2 p hp).trans xk_m1⟩, ⟨_, (m1 _ (by omega) (by omega) (by omega)).trans r5⟩, ⟨f3, xup_eq _ _ _, fun p hp => (y3 p hp).trans xk_m1⟩⟩, c6, fun k hk => (m1 k (by omega) (by omega) (by omega)).trans (r7 k hk)⟩
    · unfold hSd
      rw [m1 _ (by omega) (by omega) (by omega)]
      exact a6
    · rw [xup_ne (by omega), xup_ne (by omega)]; exact xup_eq _ _ _
    · rw [xup_ne (by omega)]; exact xup_eq _ _ _
  obtain ⟨r, σ', hex, rfl, g1, g2, g3⟩ := ex_of (d := d + 1) (y := 16) (as := [.inr (some q)]) (σ := σ) (K := K) (by decide) rfl main
  exact ⟨σ', hex, g1, g2, g3⟩
