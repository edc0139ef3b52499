/-! MODULE: a new object of the class -/
def cTh (x : Int32) : Int32 := if nI 1 ≤ x ∧ x ≤ nI 100 then x else nI 50
theorem m_new (d : Nat) {σ : xS} {s : Nat} {x : Int32} {x1 x2 x3 x4 x5 : xV} (h : σ.1 2 = some (.inr (.inr (0, [x1, x2, x3, x4, x5])))) (hn : σ.2 = (3, s)) : ∃ σ', xEx (d + 4) 64 [.inr (some 2), .inl x] σ none σ' ∧ σ'.1 2 = some (.inr (.inr (0, [.inr (some 3), .inr (some 4), .inl (cTh x), .inl (nI 0), .inl (bI false)]))) ∧ (∃ g : Nat → Option Nat, σ'.1 3 = some (.inr (.inl (1, 4, g))) ∧ ∀ i, i < 4 → g i = some (44 + 2 * i)) ∧ (∀ i, i < 4 → hT σ' (44 + 2 * i) (fun _ => none)) ∧ hMg σ' ∧ hL0 σ' ∧ hCo σ' (fun _ => 0) ∧ hDs σ' 6 d0 ∧ hDs σ' 13 d0 ∧ (∀ i, i < 3 → hT σ' (38 + 2 * i) (fun _ => none)) ∧ σ'.2 = (52, s + 2011) ∧ ∀ k, (k < 2 ∨ 51 < k) → σ'.1 k = σ.1 k := by
  let K : Option xV → xS → Prop := fun r0 σ' => r0 = none ∧ σ'.1 2 = some (.inr (.inr (0, [.inr (some 3), .inr (some 4), .inl (cTh x), .inl (nI 0), .inl (bI false)]))) ∧ (∃ g : Nat → Option Nat, σ'.1 3 = some (.inr (.inl (1, 4, g))) ∧ ∀ i, i < 4 → g i = some (44 + 2 * i)) ∧ (∀ i, i < 4 → hT σ' (44 + 2 * i) (fun _ => none)) ∧ hMg σ' ∧ hL0 σ' ∧ hCo σ' (fun _ => 0) ∧ hDs σ' 6 d0 ∧ hDs σ' 13 d0 ∧ (∀ i, i < 3 → hT σ' (38 + 2 * i) (fun _ => none)) ∧ σ'.2 = (52, s + 2011) ∧ ∀ k, (k < 2 ∨ 51 < k) → σ'.1 k = σ.1 k
  have main : xGo (xEx (d + 3)) xtb_64 K (0, [some (.inr (some 2)), some (.inl x), none], [], σ) := by
    have e0 : σ.2.1 = 3 := by rw [hn]
    repeat (first | refine gp rfl rfl rfl ?_ | refine ggf rfl (by assumption) (by rfl) ?_ | refine gal rfl (by assumption) (by rfl) (by omega) (by omega) ?_ | refine gil rfl (by assumption) (by rfl) (by omega) (by omega) ?_ | refine gbl rfl (by assumption) (by rfl) (by omega) (by omega) ?_ | refine gln rfl (xlen_i (by assumption)) ?_ | refine gln rfl (xlen_q (by assumption)) ?_)
    refine gob rfl (by decide) ?_
    repeat (first | refine gp rfl rfl rfl ?_ | refine ggf rfl (by assumption) (by rfl) ?_ | refine gal rfl (by assumption) (by rfl) (by omega) (by omega) ?_ | refine gil rfl (by assumption) (by rfl) (by omega) (by omega) ?_ | refine gbl rfl (by assumption) (by rfl) (by omega) (by omega) ?_ | refine gln rfl (xlen_i (by assumption)) ?_ | refine gln rfl (xlen_q (by assumption)) ?_)
    refine gnq (n := 4) rfl rfl (by decide) ?_
    refine gpf rfl (show (xnew σ _ 4).1 2 = _ by rw [xnew_ne (by omega)]; exact h) (Nat.le_of_ble_eq_true rfl) rfl ?_
    rw [e0]
    obtain ⟨a1, b1, c1, d1⟩ := st_new (m := 4) (e := .inr (.inl (1, 4, fun _ => none))) (o := .inr (.inr (0, [.inr (some 3), x2, x3, x4, x5]))) hn (q := 2) (by decide)
    show xGo (xEx (d + 3)) xtb_64 K (12, [some (.inr (some 2)), some (.inl x), none], [], xup (xnew σ (.inr (.inl (1, 4, fun _ => none))) 4) 2 (.inr (.inr (0, [.inr (some 3), x2, x3, x4, x5]))))
    generalize xup (xnew σ (.inr (.inl (1, 4, fun _ => none))) 4) 2 (.inr (.inr (0, [.inr (some 3), x2, x3, x4, x5]))) = σ1 at *
    repeat (first | refine gp rfl rfl rfl ?_ | refine ggf rfl (by assumption) (by rfl) ?_ | refine gal rfl (by assumption) (by rfl) (by omega) (by omega) ?_ | refine gil rfl (by assumption) (by rfl) (by omega) (by omega) ?_ | refine gbl rfl (by assumption) (by rfl) (by omega) (by omega) ?_ | refine gln rfl (xlen_i (by assumption)) ?_ | refine gln rfl (xlen_q (by assumption)) ?_)
    have e1 : σ1.2.1 = 4 := by rw [c1]
    have p1 : (xnew σ1 (.inr (.inr (4, xdf 4))) 5).1 4 = some (.inr (.inr (4, [.inr none, .inr none, .inr none, .inr none, .inr none]))) := by
      have z := xnew_eq σ1 (.inr (.inr (4, xdf 4))) 5
      rw [e1] at z
      exact z
    have n1 : (xnew σ1 (.inr (.inr (4, xdf 4))) 5).2 = (5, s + 4 + 5) := by
      show (σ1.2.1 + 1, σ1.2.2 + 5) = _
      rw [c1]
    obtain ⟨σ2, y2, M2, L2, C2, S2, S2', V2, m2, f2⟩ := m_Merger d p1 n1
    rw [e1]
    refine gci (As := []) (rest := [.inr (some 4), .inr (some 2)]) rfl (by decide) y2 rfl rfl (Nat.le_of_ble_eq_true rfl) ?_
    have a2 : σ2.1 2 = _ := (f2 2 (by decide)).trans ((xnew_ne (by omega)).trans a1)
    refine gpf rfl a2 (Nat.le_of_ble_eq_true rfl) rfl ?_
    repeat (first | refine gp rfl rfl rfl ?_ | refine ggf rfl (by assumption) (by rfl) ?_ | refine gal rfl (by assumption) (by rfl) (by omega) (by omega) ?_ | refine gil rfl (by assumption) (by rfl) (by omega) (by omega) ?_ | refine gbl rfl (by assumption) (by rfl) (by omega) (by omega) ?_ | refine gln rfl (xlen_i (by assumption)) ?_ | refine gln rfl (xlen_q (by assumption)) ?_)
    refine gpf rfl (xup_eq _ _ _) (Nat.le_of_ble_eq_true rfl) (Or.inl rfl) ?_
    rw [xup_up]
    repeat (first | refine gp rfl rfl rfl ?_ | refine ggf rfl (by assumption) (by rfl) ?_ | refine gal rfl (by assumption) (by rfl) (by omega) (by omega) ?_ | refine gil rfl (by assumption) (by rfl) (by omega) (by omega) ?_ | refine gbl rfl (by assumption) (by rfl) (by omega) (by omega) ?_ | refine gln rfl (xlen_i (by assumption)) ?_ | refine gln rfl (xlen_q (by assumption)) ?_)
    refine gpf rfl (xup_eq _ _ _) (Nat.le_of_ble_eq_true rfl) (Or.inr ⟨rfl, Or.inl rfl⟩) ?_
    rw [xup_up]
    have b2 : σ2.1 3 = some (.inr (.inl (1, 4, fun _ => none))) := (f2 3 (by decide)).trans ((xnew_ne (by omega)).trans b1)
    have G2 : ∀ k, (k < 2 ∨ 43 < k) → σ2.1 k = σ.1 k := fun k hk => (f2 k (by omega)).trans ((xnew_ne (by omega)).trans (d1 k (by omega) (by omega)))
    have loop : ∀ k i (σ9 : xS) (g : Nat → Option Nat), i + k = 4 → σ9.1 2 = some (.inr (.inr (0, [.inr (some 3), .inr (some 4), .inl (cTh x), .inl (nI 0), .inl (bI false)]))) → σ9.1 3 = some (.inr (.inl (1, 4, g))) → (∀ j, j < i → g j = some (44 + 2 * j)) → (∀ j, j < i → hT σ9 (44 + 2 * j) (fun _ => none)) → σ9.2 = (44 + 2 * i, s + 1751 + 65 * i) → (∀ k, k ≠ 2 → k ≠ 3 → (k < 44 ∨ 51 < k) → σ9.1 k = σ2.1 k) → xGo (xEx (d + 3)) xtb_64 K (58, [some (.inr (some 2)), some (.inl x), some (.inl (nI i))], [.inl (nI 4), .inl (nI i)], σ9) := by
      intro k
      induction k with
      | zero =>
        intro i σ9 g hi h2 h3 hg hT' hz hF
        obtain rfl : i = 4 := by omega
        refine gct rfl (show nI 4 ≤ nI _ from nI_le (by omega) (by omega)) ?_
        refine grv rfl ⟨rfl, h2, ⟨g, h3, hg⟩, hT', ?_, L2.of (fun k h1 h2 => hF k (by omega) (by omega) (by omega)), C2.of (hF 20 (by decide) (by decide) (by decide)), hSide.of S2 (fun k h1 h2 => hF k (by omega) (by omega) (by omega)), hSide.of S2' (fun k h1 h2 => hF k (by omega) (by omega) (by omega)), fun i hi => ?_, hz, fun k hk => (hF k (by omega) (by omega) (by omega)).trans (G2 k (by omega))⟩
        · obtain ⟨m1, g', m3, m4⟩ := M2
          exact ⟨by rw [hF 4 (by decide) (by decide) (by decide)]; exact m1, g', by rw [hF 5 (by decide) (by decide) (by decide)]; exact m3, m4⟩
        · obtain ⟨gt, ⟨u1, u2⟩, u3⟩ := V2 i hi
          refine ⟨gt, ⟨by rw [hF _ (by omega) (by omega) (by omega)]; exact u1, by rw [hF _ (by omega) (by omega) (by omega)]; exact u2⟩, fun p hp => ?_⟩
          have o := u3 p hp
          cases hgp : gt p with
          | none => trivial
          | some z => rw [hgp] at o; exact o.elim
      | succ k ih =>
        intro i σ9 g hi h2 h3 hg hT' hz hF
        have e9 : σ9.2.1 = 44 + 2 * i := by rw [hz]
        have e9' : σ9.2.2 = s + 1751 + 65 * i := by rw [hz]
        refine gcf rfl (nI_ge (by omega) (by omega)) ?_
        repeat (first | refine gp rfl rfl rfl ?_ | refine ggf rfl (by assumption) (by rfl) ?_ | refine gal rfl (by assumption) (by rfl) (by omega) (by omega) ?_ | refine gil rfl (by assumption) (by rfl) (by omega) (by omega) ?_ | refine gbl rfl (by assumption) (by rfl) (by omega) (by omega) ?_ | refine gln rfl (xlen_i (by assumption)) ?_ | refine gln rfl (xlen_q (by assumption)) ?_)
        rw [e9]
        have p9 : (xnew σ9 (.inr (.inr (2, xdf 2))) 1).1 (44 + 2 * i) = some (.inr (.inr (2, [.inr none]))) := by rw [← e9]; exact xnew_eq _ _ _
        have q9 : (xnew σ9 (.inr (.inr (2, xdf 2))) 1).2.1 = 44 + 2 * i + 1 := by show σ9.2.1 + 1 = _; rw [e9]
        have t9 := m_Tree (d + 2) p9 (by rw [q9]; omega)
        rw [q9] at t9
        refine gci (As := []) (rest := [.inr (some (44 + 2 * i)), .inl (nI i), .inr (some 3)]) rfl (by decide) t9 rfl rfl (Nat.le_of_ble_eq_true rfl) ?_
        have w1 : ∀ k, k ≠ 44 + 2 * i → k ≠ 44 + 2 * i + 1 → (xup (xnew (xnew σ9 (.inr (.inr (2, xdf 2))) 1) (.inr (.inl (0, 64, fun _ => none))) 64) (44 + 2 * i) (.inr (.inr (2, [.inr (some (44 + 2 * i + 1))])))).1 k = σ9.1 k := fun k h1 h3 => by rw [xup_ne h1, xnew_ne (by rw [q9]; exact h3), xnew_ne (by rw [e9]; exact h1)]
        have w2 : (xup (xnew (xnew σ9 (.inr (.inr (2, xdf 2))) 1) (.inr (.inl (0, 64, fun _ => none))) 64) (44 + 2 * i) (.inr (.inr (2, [.inr (some (44 + 2 * i + 1))])))).1 (44 + 2 * i) = some (.inr (.inr (2, [.inr (some (44 + 2 * i + 1))]))) := xup_eq _ _ _
        have w3 : (xup (xnew (xnew σ9 (.inr (.inr (2, xdf 2))) 1) (.inr (.inl (0, 64, fun _ => none))) 64) (44 + 2 * i) (.inr (.inr (2, [.inr (some (44 + 2 * i + 1))])))).1 (44 + 2 * i + 1) = some (.inr (.inl (0, 64, fun _ => none))) := by rw [xup_ne (by omega), ← q9]; exact xnew_eq _ _ _
        have w4 : (xup (xnew (xnew σ9 (.inr (.inr (2, xdf 2))) 1) (.inr (.inl (0, 64, fun _ => none))) 64) (44 + 2 * i) (.inr (.inr (2, [.inr (some (44 + 2 * i + 1))])))).2 = (44 + 2 * (i + 1), s + 1751 + 65 * (i + 1)) := by
          show (σ9.2.1 + 1 + 1, σ9.2.2 + 1 + 64) = _
          rw [e9, e9', show 44 + 2 * i + 1 + 1 = 44 + 2 * (i + 1) by omega, show s + 1751 + 65 * i + 1 + 64 = s + 1751 + 65 * (i + 1) by omega]
        show xGo (xEx (d + 3)) xtb_64 K (73, [some (.inr (some 2)), some (.inl x), some (.inl (nI i))], [.inr (some (44 + 2 * i)), .inl (nI i), .inr (some 3)], (xup (xnew (xnew σ9 (.inr (.inr (2, xdf 2))) 1) (.inr (.inl (0, 64, fun _ => none))) 64) (44 + 2 * i) (.inr (.inr (2, [.inr (some (44 + 2 * i + 1))])))))
        generalize (xup (xnew (xnew σ9 (.inr (.inr (2, xdf 2))) 1) (.inr (.inl (0, 64, fun _ => none))) 64) (44 + 2 * i) (.inr (.inr (2, [.inr (some (44 + 2 * i + 1))])))) = σ10 at w1 w2 w3 w4 ⊢
        refine gas rfl ((w1 3 (by omega) (by omega)).trans h3) rfl (by omega) (by omega) (Or.inr ⟨_, _, rfl, w2⟩) ?_
        repeat (first | refine gp rfl rfl rfl ?_ | refine ggf rfl (by assumption) (by rfl) ?_ | refine gal rfl (by assumption) (by rfl) (by omega) (by omega) ?_ | refine gil rfl (by assumption) (by rfl) (by omega) (by omega) ?_ | refine gbl rfl (by assumption) (by rfl) (by omega) (by omega) ?_ | refine gln rfl (xlen_i (by assumption)) ?_ | refine gln rfl (xlen_q (by assumption)) ?_)
        rw [nI_s]
        refine ih (i + 1) _ _ (by omega) ((xup_ne (by decide)).trans ((w1 2 (by omega) (by omega)).trans h2)) (xup_eq _ _ _) (fun j hj => ?_) (fun j hj => ?_) w4 (fun k h1 h3 h4 => (xup_ne h3).trans ((w1 k (by omega) (by omega)).trans (hF k h1 h3 h4)))
        · unfold va_up
          by_cases hji : j = i
          · rw [if_pos hji, hji]
          · rw [if_neg hji]; exact hg j (by omega)
        · by_cases hji : j = i
          · subst hji
            exact ⟨fun _ => none, ⟨(xup_ne (by omega)).trans w2, (xup_ne (by omega)).trans w3⟩, fun p hp => trivial⟩
          · obtain ⟨gt, ⟨u1, u2⟩, u3⟩ := hT' j (by omega)
            refine ⟨gt, ⟨(xup_ne (by omega)).trans ((w1 _ (by omega) (by omega)).trans u1), (xup_ne (by omega)).trans ((w1 _ (by omega) (by omega)).trans u2)⟩, fun p hp => ?_⟩
            have o := u3 p hp
            cases hgp : gt p with
            | none => trivial
            | some z => rw [hgp] at o; exact o.elim
    have put : ∀ v : Int32, v = cTh x → xGo (xEx (d + 3)) xtb_64 K (51, [some (.inr (some 2)), some (.inl x), none], [.inl v, .inr (some 2)], xup σ2 2 (.inr (.inr (0, [.inr (some 3), .inr (some 4), x3, .inl (nI 0), .inl (bI false)])))) := by
      intro v hv
      refine gpf rfl (xup_eq _ _ _) (Nat.le_of_ble_eq_true rfl) (Or.inl rfl) ?_
      rw [xup_up, hv]
      repeat (first | refine gp rfl rfl rfl ?_ | refine ggf rfl (by assumption) (by rfl) ?_ | refine gal rfl (by assumption) (by rfl) (by omega) (by omega) ?_ | refine gil rfl (by assumption) (by rfl) (by omega) (by omega) ?_ | refine gbl rfl (by assumption) (by rfl) (by omega) (by omega) ?_ | refine gln rfl (xlen_i (by assumption)) ?_ | refine gln rfl (xlen_q (by assumption)) ?_)
      refine loop 4 0 _ (fun _ => none) rfl (xup_eq _ _ _) ((xup_ne (by decide)).trans b2) (fun j hj => absurd hj (by omega)) (fun j hj => absurd hj (by omega)) m2 (fun k h1 _ _ => xup_ne h1)
    repeat (first | refine gp rfl rfl rfl ?_ | refine ggf rfl (by assumption) (by rfl) ?_ | refine gal rfl (by assumption) (by rfl) (by omega) (by omega) ?_ | refine gil rfl (by assumption) (by rfl) (by omega) (by omega) ?_ | refine gbl rfl (by assumption) (by rfl) (by omega) (by omega) ?_ | refine gln rfl (xlen_i (by assumption)) ?_ | refine gln rfl (xlen_q (by assumption)) ?_)
    by_cases l1 : nI 1 ≤ x
    · refine gcf rfl (show ¬ x < nI 1 from Int32.not_lt.mpr l1) ?_
      repeat (first | refine gp rfl rfl rfl ?_ | refine ggf rfl (by assumption) (by rfl) ?_ | refine gal rfl (by assumption) (by rfl) (by omega) (by omega) ?_ | refine gil rfl (by assumption) (by rfl) (by omega) (by omega) ?_ | refine gbl rfl (by assumption) (by rfl) (by omega) (by omega) ?_ | refine gln rfl (xlen_i (by assumption)) ?_ | refine gln rfl (xlen_q (by assumption)) ?_)
      by_cases l2 : x ≤ nI 100
      · refine gcf rfl (show ¬ nI 100 < x from Int32.not_lt.mpr l2) ?_
        repeat (first | refine gp rfl rfl rfl ?_ | refine ggf rfl (by assumption) (by rfl) ?_ | refine gal rfl (by assumption) (by rfl) (by omega) (by omega) ?_ | refine gil rfl (by assumption) (by rfl) (by omega) (by omega) ?_ | refine gbl rfl (by assumption) (by rfl) (by omega) (by omega) ?_ | refine gln rfl (xlen_i (by assumption)) ?_ | refine gln rfl (xlen_q (by assumption)) ?_)
        exact put x (by unfold cTh; rw [if_pos ⟨l1, l2⟩])
      · refine gct rfl (show nI 100 < x from Int32.not_le.mp l2) ?_
        repeat (first | refine gp rfl rfl rfl ?_ | refine ggf rfl (by assumption) (by rfl) ?_ | refine gal rfl (by assumption) (by rfl) (by omega) (by omega) ?_ | refine gil rfl (by assumption) (by rfl) (by omega) (by omega) ?_ | refine gbl rfl (by assumption) (by rfl) (by omega) (by omega) ?_ | refine gln rfl (xlen_i (by assumption)) ?_ | refine gln rfl (xlen_q (by assumption)) ?_)
        exact put _ (by unfold cTh; rw [if_neg (fun z => l2 z.2)]; rfl)
    · refine gct rfl (show x < nI 1 from Int32.not_le.mp l1) ?_
      repeat (first | refine gp rfl rfl rfl ?_ | refine ggf rfl (by assumption) (by rfl) ?_ | refine gal rfl (by assumption) (by rfl) (by omega) (by omega) ?_ | refine gil rfl (by assumption) (by rfl) (by omega) (by omega) ?_ | refine gbl rfl (by assumption) (by rfl) (by omega) (by omega) ?_ | refine gln rfl (xlen_i (by assumption)) ?_ | refine gln rfl (xlen_q (by assumption)) ?_)
      exact put _ (by unfold cTh; rw [if_neg (fun z => l1 z.1)]; rfl)
  obtain ⟨r, σ', hex, rfl, g1⟩ := ex_of (d := d + 3) (y := 64) (as := [.inr (some 2), .inl x]) (σ := σ) (K := K) (by decide) rfl main
  exact ⟨σ', hex, g1⟩
