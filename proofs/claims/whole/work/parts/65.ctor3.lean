/-! MODULE: a new merger -/
def d0 : pD := (fun _ => none, fun _ => none, fun _ => none)
theorem m_Merger (d : Nat) {σ : xS} {s : Nat} {x1 x2 x3 x4 x5 : xV} (h : σ.1 4 = some (.inr (.inr (4, [x1, x2, x3, x4, x5])))) (hn : σ.2 = (5, s)) : ∃ σ', xEx (d + 3) 52 [.inr (some 4)] σ none σ' ∧ hMg σ' ∧ hL0 σ' ∧ hCo σ' (fun _ => 0) ∧ hDs σ' 6 d0 ∧ hDs σ' 13 d0 ∧ (∀ i, i < 3 → hT σ' (38 + 2 * i) (fun _ => none)) ∧ σ'.2 = (44, s + 1742) ∧ ∀ k, (k < 4 ∨ 43 < k) → σ'.1 k = σ.1 k := by
  let K : Option xV → xS → Prop := fun r0 σ0 => r0 = none ∧ hMg σ0 ∧ hL0 σ0 ∧ hCo σ0 (fun _ => 0) ∧ hDs σ0 6 d0 ∧ hDs σ0 13 d0 ∧ (∀ i, i < 3 → hT σ0 (38 + 2 * i) (fun _ => none)) ∧ σ0.2 = (44, s + 1742) ∧ ∀ k, (k < 4 ∨ 43 < k) → σ0.1 k = σ.1 k
  have main : xGo (xEx (d + 2)) xtb_52 K (0, [some (.inr (some 4)), none], [], σ) := by
    have e0 : σ.2.1 = 5 := by rw [hn]
    repeat (first | refine gp rfl rfl rfl ?_ | refine ggf rfl (by assumption) (by rfl) ?_ | refine gal rfl (by assumption) (by rfl) (by omega) (by omega) ?_ | refine gil rfl (by assumption) (by rfl) (by omega) (by omega) ?_ | refine gbl rfl (by assumption) (by rfl) (by omega) (by omega) ?_ | refine gln rfl (xlen_i (by assumption)) ?_ | refine gln rfl (xlen_q (by assumption)) ?_)
    refine gob rfl (by decide) ?_
    repeat (first | refine gp rfl rfl rfl ?_ | refine ggf rfl (by assumption) (by rfl) ?_ | refine gal rfl (by assumption) (by rfl) (by omega) (by omega) ?_ | refine gil rfl (by assumption) (by rfl) (by omega) (by omega) ?_ | refine gbl rfl (by assumption) (by rfl) (by omega) (by omega) ?_ | refine gln rfl (xlen_i (by assumption)) ?_ | refine gln rfl (xlen_q (by assumption)) ?_)
    refine gnq (n := 3) rfl rfl (by decide) ?_
    refine gpf rfl (show (xnew σ _ 3).1 4 = _ by rw [xnew_ne (by omega)]; exact h) (Nat.le_of_ble_eq_true rfl) rfl ?_
    rw [e0]
    obtain ⟨a1, b1, c1, d1⟩ := st_new (m := 3) (e := .inr (.inl (1, 3, fun _ => none))) (o := .inr (.inr (4, [.inr (some 5), x2, x3, x4, x5]))) hn (q := 4) (by decide)
    show xGo (xEx (d + 2)) xtb_52 K (12, [some (.inr (some 4)), none], [], xup (xnew σ (.inr (.inl (1, 3, fun _ => none))) 3) 4 (.inr (.inr (4, [.inr (some 5), x2, x3, x4, x5]))))
    generalize xup (xnew σ (.inr (.inl (1, 3, fun _ => none))) 3) 4 (.inr (.inr (4, [.inr (some 5), x2, x3, x4, x5]))) = σ1 at *
    -- ours
    repeat (first | refine gp rfl rfl rfl ?_ | refine ggf rfl (by assumption) (by rfl) ?_ | refine gal rfl (by assumption) (by rfl) (by omega) (by omega) ?_ | refine gil rfl (by assumption) (by rfl) (by omega) (by omega) ?_ | refine gbl rfl (by assumption) (by rfl) (by omega) (by omega) ?_ | refine gln rfl (xlen_i (by assumption)) ?_ | refine gln rfl (xlen_q (by assumption)) ?_)
    have e1 : σ1.2.1 = 6 := by rw [c1]
    have p1 : (xnew σ1 (.inr (.inr (3, xdf 3))) 6).1 6 = some (.inr (.inr (3, [.inr none, .inr none, .inr none, .inr none, .inr none, .inr none]))) := by rw [← e1]; exact xnew_eq _ _ _
    have n1 : (xnew σ1 (.inr (.inr (3, xdf 3))) 6).2 = (6 + 1, s + 3 + 6) := by
      show (σ1.2.1 + 1, σ1.2.2 + 6) = _
      rw [c1]
    obtain ⟨σ2, y2, s2, m2, f2⟩ := m_Side d p1 n1 (by decide)
    rw [e1]
    refine gci (As := []) (rest := [.inr (some 6), .inr (some 4)]) rfl (by decide) y2 rfl rfl (Nat.le_of_ble_eq_true rfl) ?_
    have a2 : σ2.1 4 = _ := (f2 4 (by decide)).trans ((xnew_ne (by omega)).trans a1)
    refine gpf rfl a2 (Nat.le_of_ble_eq_true rfl) rfl ?_
    show xGo (xEx (d + 2)) xtb_52 K (23, [some (.inr (some 4)), none], [], xup σ2 4 (.inr (.inr (4, [.inr (some 5), .inr (some 6), x3, x4, x5]))))
    have F3 : ∀ k, k ≠ 4 → (k < 6 ∨ 12 < k) → (xup σ2 4 (.inr (.inr (4, [.inr (some 5), .inr (some 6), x3, x4, x5])))).1 k = σ1.1 k := fun k h1 h2 => (xup_ne h1).trans ((f2 k (by omega)).trans (xnew_ne (by omega)))
    have S3 : hDs (xup σ2 4 (.inr (.inr (4, [.inr (some 5), .inr (some 6), x3, x4, x5])))) 6 d0 := hSide.of s2 (fun k h1 h2 => xup_ne (by omega))
    have c3 : (xup σ2 4 (.inr (.inr (4, [.inr (some 5), .inr (some 6), x3, x4, x5])))).2 = (13, s + 337) := m2
    have a3 : (xup σ2 4 (.inr (.inr (4, [.inr (some 5), .inr (some 6), x3, x4, x5])))).1 4 = some (.inr (.inr (4, [.inr (some 5), .inr (some 6), x3, x4, x5]))) := xup_eq _ _ _
    generalize xup σ2 4 (.inr (.inr (4, [.inr (some 5), .inr (some 6), x3, x4, x5]))) = σ3 at *
    -- theirs
    repeat (first | refine gp rfl rfl rfl ?_ | refine ggf rfl (by assumption) (by rfl) ?_ | refine gal rfl (by assumption) (by rfl) (by omega) (by omega) ?_ | refine gil rfl (by assumption) (by rfl) (by omega) (by omega) ?_ | refine gbl rfl (by assumption) (by rfl) (by omega) (by omega) ?_ | refine gln rfl (xlen_i (by assumption)) ?_ | refine gln rfl (xlen_q (by assumption)) ?_)
    have e3 : σ3.2.1 = 13 := by rw [c3]
    have p3 : (xnew σ3 (.inr (.inr (3, xdf 3))) 6).1 13 = some (.inr (.inr (3, [.inr none, .inr none, .inr none, .inr none, .inr none, .inr none]))) := by rw [← e3]; exact xnew_eq _ _ _
    have n3 : (xnew σ3 (.inr (.inr (3, xdf 3))) 6).2 = (13 + 1, s + 337 + 6) := by
      show (σ3.2.1 + 1, σ3.2.2 + 6) = _
      rw [c3]
    obtain ⟨σ4, y4, s4, m4, f4⟩ := m_Side d p3 n3 (by decide)
    rw [e3]
    refine gci (As := []) (rest := [.inr (some 13), .inr (some 4)]) rfl (by decide) y4 rfl rfl (Nat.le_of_ble_eq_true rfl) ?_
    have a4 : σ4.1 4 = _ := (f4 4 (by decide)).trans ((xnew_ne (by omega)).trans a3)
    refine gpf rfl a4 (Nat.le_of_ble_eq_true rfl) rfl ?_
    show xGo (xEx (d + 2)) xtb_52 K (34, [some (.inr (some 4)), none], [], xup σ4 4 (.inr (.inr (4, [.inr (some 5), .inr (some 6), .inr (some 13), x4, x5]))))
    have F5 : ∀ k, k ≠ 4 → (k < 13 ∨ 19 < k) → (xup σ4 4 (.inr (.inr (4, [.inr (some 5), .inr (some 6), .inr (some 13), x4, x5])))).1 k = σ3.1 k := fun k h1 h2 => (xup_ne h1).trans ((f4 k (by omega)).trans (xnew_ne (by omega)))
    have S5 : hDs (xup σ4 4 (.inr (.inr (4, [.inr (some 5), .inr (some 6), .inr (some 13), x4, x5])))) 13 d0 := hSide.of s4 (fun k h1 h2 => xup_ne (by omega))
    have c5 : (xup σ4 4 (.inr (.inr (4, [.inr (some 5), .inr (some 6), .inr (some 13), x4, x5])))).2 = (20, s + 671) := m4
    have a5 : (xup σ4 4 (.inr (.inr (4, [.inr (some 5), .inr (some 6), .inr (some 13), x4, x5])))).1 4 = some (.inr (.inr (4, [.inr (some 5), .inr (some 6), .inr (some 13), x4, x5]))) := xup_eq _ _ _
    generalize xup σ4 4 (.inr (.inr (4, [.inr (some 5), .inr (some 6), .inr (some 13), x4, x5]))) = σ5 at *
    -- codes
    repeat (first | refine gp rfl rfl rfl ?_ | refine ggf rfl (by assumption) (by rfl) ?_ | refine gal rfl (by assumption) (by rfl) (by omega) (by omega) ?_ | refine gil rfl (by assumption) (by rfl) (by omega) (by omega) ?_ | refine gbl rfl (by assumption) (by rfl) (by omega) (by omega) ?_ | refine gln rfl (xlen_i (by assumption)) ?_ | refine gln rfl (xlen_q (by assumption)) ?_)
    refine gna (n := 64) rfl rfl (by decide) ?_
    have e5 : σ5.2.1 = 20 := by rw [c5]
    refine gpf rfl (show (xnew σ5 _ 64).1 4 = _ by rw [xnew_ne (by omega)]; exact a5) (Nat.le_of_ble_eq_true rfl) rfl ?_
    rw [e5]
    obtain ⟨a6, b6, c6, d6⟩ := st_new (m := 64) (e := .inl (0, 64, fun _ => 0)) (o := .inr (.inr (4, [.inr (some 5), .inr (some 6), .inr (some 13), .inr (some 20), x5]))) c5 (q := 4) (by decide)
    show xGo (xEx (d + 2)) xtb_52 K (42, [some (.inr (some 4)), none], [], xup (xnew σ5 (.inl (0, 64, fun _ => 0)) 64) 4 (.inr (.inr (4, [.inr (some 5), .inr (some 6), .inr (some 13), .inr (some 20), x5]))))
    generalize xup (xnew σ5 (.inl (0, 64, fun _ => 0)) 64) 4 (.inr (.inr (4, [.inr (some 5), .inr (some 6), .inr (some 13), .inr (some 20), x5]))) = σ6 at *
    -- lines
    repeat (first | refine gp rfl rfl rfl ?_ | refine ggf rfl (by assumption) (by rfl) ?_ | refine gal rfl (by assumption) (by rfl) (by omega) (by omega) ?_ | refine gil rfl (by assumption) (by rfl) (by omega) (by omega) ?_ | refine gbl rfl (by assumption) (by rfl) (by omega) (by omega) ?_ | refine gln rfl (xlen_i (by assumption)) ?_ | refine gln rfl (xlen_q (by assumption)) ?_)
    have e6 : σ6.2.1 = 21 := by rw [c6]
    have p6 : (xnew σ6 (.inr (.inr (6, xdf 6))) 9).1 21 = some (.inr (.inr (6, [.inr none, .inr none, .inr none, .inr none, .inr none, .inr none, .inr none, .inl 0, .inl 0]))) := by rw [← e6]; exact xnew_eq _ _ _
    have n6 : (xnew σ6 (.inr (.inr (6, xdf 6))) 9).2 = (22, s + 671 + 64 + 9) := by
      show (σ6.2.1 + 1, σ6.2.2 + 9) = _
      rw [c6]
    obtain ⟨σ7, y7, l7, m7, f7⟩ := m_LineMerge d p6 n6
    rw [e6]
    refine gci (As := []) (rest := [.inr (some 21), .inr (some 4)]) rfl (by decide) y7 rfl rfl (Nat.le_of_ble_eq_true rfl) ?_
    have a7 : σ7.1 4 = _ := (f7 4 (by decide)).trans ((xnew_ne (by omega)).trans a6)
    refine gpf rfl a7 (Nat.le_of_ble_eq_true rfl) rfl ?_
    show xGo (xEx (d + 2)) xtb_52 K (53, [some (.inr (some 4)), none], [], xup σ7 4 (.inr (.inr (4, [.inr (some 5), .inr (some 6), .inr (some 13), .inr (some 20), .inr (some 21)]))))
    have F8 : ∀ k, k ≠ 4 → (k < 21 ∨ 37 < k) → (xup σ7 4 (.inr (.inr (4, [.inr (some 5), .inr (some 6), .inr (some 13), .inr (some 20), .inr (some 21)])))).1 k = σ6.1 k := fun k h1 h2 => (xup_ne h1).trans ((f7 k (by omega)).trans (xnew_ne (by omega)))
    have L8 : hL0 (xup σ7 4 (.inr (.inr (4, [.inr (some 5), .inr (some 6), .inr (some 13), .inr (some 20), .inr (some 21)])))) := l7.of (fun k h1 h2 => xup_ne (by omega))
    have c8 : (xup σ7 4 (.inr (.inr (4, [.inr (some 5), .inr (some 6), .inr (some 13), .inr (some 20), .inr (some 21)])))).2 = (38, s + 1547) := m7
    have a8 : (xup σ7 4 (.inr (.inr (4, [.inr (some 5), .inr (some 6), .inr (some 13), .inr (some 20), .inr (some 21)])))).1 4 = some (.inr (.inr (4, [.inr (some 5), .inr (some 6), .inr (some 13), .inr (some 20), .inr (some 21)]))) := xup_eq _ _ _
    generalize xup σ7 4 (.inr (.inr (4, [.inr (some 5), .inr (some 6), .inr (some 13), .inr (some 20), .inr (some 21)]))) = σ8 at *
    have S18 : hDs σ8 6 d0 := hSide.of S3 (fun k h1 h2 => by rw [F8 k (by omega) (by omega), d6 k (by omega) (by omega), F5 k (by omega) (by omega)])
    have S28 : hDs σ8 13 d0 := hSide.of S5 (fun k h1 h2 => by rw [F8 k (by omega) (by omega), d6 k (by omega) (by omega)])
    have b8 : σ8.1 5 = some (.inr (.inl (1, 3, fun _ => none))) := by rw [F8 5 (by decide) (by decide), d6 5 (by decide) (by decide), F5 5 (by decide) (by decide), F3 5 (by decide) (by decide)]; exact b1
    have C8 : σ8.1 20 = some (.inl (0, 64, fun _ => 0)) := by rw [F8 20 (by decide) (by decide)]; exact b6
    have G8 : ∀ k, (k < 4 ∨ 37 < k) → σ8.1 k = σ.1 k := fun k hk => by rw [F8 k (by omega) (by omega), d6 k (by omega) (by omega), F5 k (by omega) (by omega), F3 k (by omega) (by omega), d1 k (by omega) (by omega)]
    clear y2 y4 y7 f2 f4 f7 F3 F5 F8 d1 d6 a1 a2 a3 a4 a5 a6 a7 b1 b6 s2 s4 S3 S5 l7 p1 p3 p6 n1 n3 n6
    have loop : ∀ k i (σ9 : xS) (g : Nat → Option Nat), i + k = 3 → σ9.1 5 = some (.inr (.inl (1, 3, g))) → (∀ j, j < i → g j = some (38 + 2 * j)) → (∀ j, j < i → hT σ9 (38 + 2 * j) (fun _ => none)) → σ9.2 = (38 + 2 * i, s + 1547 + 65 * i) → (∀ k, k ≠ 5 → (k < 38 ∨ 43 < k) → σ9.1 k = σ8.1 k) → xGo (xEx (d + 2)) xtb_52 K (57, [some (.inr (some 4)), some (.inl (nI i))], [.inl (nI 3), .inl (nI i)], σ9) := by
      intro k
      induction k with
      | zero =>
        intro i σ9 g hi h5 hg hT' h2 hF
        obtain rfl : i = 3 := by omega
        refine gct rfl (show nI 3 ≤ nI _ from nI_le (by omega) (by omega)) ?_
        exact grv rfl ⟨rfl, ⟨by rw [hF 4 (by decide) (by decide)]; exact a8, g, h5, hg 0 (by decide), hg 1 (by decide), hg 2 (by decide)⟩, L8.of (fun k h1 h2 => hF k (by omega) (by omega)), ⟨_, by rw [hF 20 (by decide) (by decide)]; exact C8, fun _ _ => rfl⟩, hSide.of S18 (fun k h1 h2 => hF k (by omega) (by omega)), hSide.of S28 (fun k h1 h2 => hF k (by omega) (by omega)), hT', h2, fun k hk => (hF k (by omega) (by omega)).trans (G8 k (by omega))⟩
      | succ k ih =>
        intro i σ9 g hi h5 hg hT' h2 hF
        have h4 : σ9.1 4 = some (.inr (.inr (4, [.inr (some 5), .inr (some 6), .inr (some 13), .inr (some 20), .inr (some 21)]))) := by rw [hF 4 (by decide) (by decide)]; exact a8
        have e9 : σ9.2.1 = 38 + 2 * i := by rw [h2]
        have e9' : σ9.2.2 = s + 1547 + 65 * i := by rw [h2]
        refine gcf rfl (nI_ge (by omega) (by omega)) ?_
        repeat (first | refine gp rfl rfl rfl ?_ | refine ggf rfl (by assumption) (by rfl) ?_ | refine gal rfl (by assumption) (by rfl) (by omega) (by omega) ?_ | refine gil rfl (by assumption) (by rfl) (by omega) (by omega) ?_ | refine gbl rfl (by assumption) (by rfl) (by omega) (by omega) ?_ | refine gln rfl (xlen_i (by assumption)) ?_ | refine gln rfl (xlen_q (by assumption)) ?_)
        rw [e9]
        have p9 : (xnew σ9 (.inr (.inr (2, xdf 2))) 1).1 (38 + 2 * i) = some (.inr (.inr (2, [.inr none]))) := by rw [← e9]; exact xnew_eq _ _ _
        have q9 : (xnew σ9 (.inr (.inr (2, xdf 2))) 1).2.1 = 38 + 2 * i + 1 := by show σ9.2.1 + 1 = _; rw [e9]
        have t9 := m_Tree (d + 1) p9 (by rw [q9]; omega)
        rw [q9] at t9
        refine gci (As := []) (rest := [.inr (some (38 + 2 * i)), .inl (nI i), .inr (some 5)]) rfl (by decide) t9 rfl rfl (Nat.le_of_ble_eq_true rfl) ?_
        have w1 : ∀ k, k ≠ 38 + 2 * i → k ≠ 38 + 2 * i + 1 → (xup (xnew (xnew σ9 (.inr (.inr (2, xdf 2))) 1) (.inr (.inl (0, 64, fun _ => none))) 64) (38 + 2 * i) (.inr (.inr (2, [.inr (some (38 + 2 * i + 1))])))).1 k = σ9.1 k := fun k h1 h3 => by rw [xup_ne h1, xnew_ne (by rw [q9]; exact h3), xnew_ne (by rw [e9]; exact h1)]
        have w2 : (xup (xnew (xnew σ9 (.inr (.inr (2, xdf 2))) 1) (.inr (.inl (0, 64, fun _ => none))) 64) (38 + 2 * i) (.inr (.inr (2, [.inr (some (38 + 2 * i + 1))])))).1 (38 + 2 * i) = some (.inr (.inr (2, [.inr (some (38 + 2 * i + 1))]))) := xup_eq _ _ _
        have w3 : (xup (xnew (xnew σ9 (.inr (.inr (2, xdf 2))) 1) (.inr (.inl (0, 64, fun _ => none))) 64) (38 + 2 * i) (.inr (.inr (2, [.inr (some (38 + 2 * i + 1))])))).1 (38 + 2 * i + 1) = some (.inr (.inl (0, 64, fun _ => none))) := by rw [xup_ne (by omega), ← q9]; exact xnew_eq _ _ _
        have w4 : (xup (xnew (xnew σ9 (.inr (.inr (2, xdf 2))) 1) (.inr (.inl (0, 64, fun _ => none))) 64) (38 + 2 * i) (.inr (.inr (2, [.inr (some (38 + 2 * i + 1))])))).2 = (38 + 2 * (i + 1), s + 1547 + 65 * (i + 1)) := by
          show (σ9.2.1 + 1 + 1, σ9.2.2 + 1 + 64) = _
          rw [e9, e9', show 38 + 2 * i + 1 + 1 = 38 + 2 * (i + 1) by omega, show s + 1547 + 65 * i + 1 + 64 = s + 1547 + 65 * (i + 1) by omega]
        show xGo (xEx (d + 2)) xtb_52 K (72, [some (.inr (some 4)), some (.inl (nI i))], [.inr (some (38 + 2 * i)), .inl (nI i), .inr (some 5)], (xup (xnew (xnew σ9 (.inr (.inr (2, xdf 2))) 1) (.inr (.inl (0, 64, fun _ => none))) 64) (38 + 2 * i) (.inr (.inr (2, [.inr (some (38 + 2 * i + 1))])))))
        generalize (xup (xnew (xnew σ9 (.inr (.inr (2, xdf 2))) 1) (.inr (.inl (0, 64, fun _ => none))) 64) (38 + 2 * i) (.inr (.inr (2, [.inr (some (38 + 2 * i + 1))])))) = σ10 at w1 w2 w3 w4 ⊢
        refine gas rfl ((w1 5 (by omega) (by omega)).trans h5) rfl (by omega) (by omega) (Or.inr ⟨_, _, rfl, w2⟩) ?_
        repeat (first | refine gp rfl rfl rfl ?_ | refine ggf rfl (by assumption) (by rfl) ?_ | refine gal rfl (by assumption) (by rfl) (by omega) (by omega) ?_ | refine gil rfl (by assumption) (by rfl) (by omega) (by omega) ?_ | refine gbl rfl (by assumption) (by rfl) (by omega) (by omega) ?_ | refine gln rfl (xlen_i (by assumption)) ?_ | refine gln rfl (xlen_q (by assumption)) ?_)
        rw [nI_s]
        refine ih (i + 1) _ _ (by omega) (xup_eq _ _ _) (fun j hj => ?_) (fun j hj => ?_) w4 (fun k h1 h3 => (xup_ne h1).trans ((w1 k (by omega) (by omega)).trans (hF k h1 h3)))
        · unfold va_up
          by_cases hji : j = i
          · rw [if_pos hji, hji]
          · rw [if_neg hji]; exact hg j (by omega)
        · by_cases hji : j = i
          · subst hji
            exact ⟨fun _ => none, ⟨(xup_ne (by omega)).trans w2, (xup_ne (by omega)).trans w3⟩, fun p hp => trivial⟩
          · obtain ⟨gt, ⟨u1, u2⟩, u3⟩ := hT' j (by omega)
            refine ⟨gt, ⟨(xup_ne (by omega)).trans ((w1 _ (by omega) (by omega)).trans u1), (xup_ne (by omega)).trans ((w1 _ (by omega) (by omega)).trans u2)⟩, fun p hp => ?_⟩
            have o := u3 p hp
            cases hgp : gt p with
            | none => trivial
            | some z => rw [hgp] at o; exact o.elim
    repeat (first | refine gp rfl rfl rfl ?_ | refine ggf rfl (by assumption) (by rfl) ?_ | refine gal rfl (by assumption) (by rfl) (by omega) (by omega) ?_ | refine gil rfl (by assumption) (by rfl) (by omega) (by omega) ?_ | refine gbl rfl (by assumption) (by rfl) (by omega) (by omega) ?_ | refine gln rfl (xlen_i (by assumption)) ?_ | refine gln rfl (xlen_q (by assumption)) ?_)
    exact loop 3 0 σ8 _ rfl b8 (fun j hj => absurd hj (by omega)) (fun j hj => absurd hj (by omega)) c8 (fun k _ _ => rfl)
  obtain ⟨r, σ', hex, rfl, g1⟩ := ex_of (d := d + 2) (y := 52) (as := [.inr (some 4)]) (σ := σ) (K := K) (by decide) rfl main
  exact ⟨σ', hex, g1⟩
