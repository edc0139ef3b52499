/-! MODULE: the reference: a new one -/
theorem r_new (d : Nat) {σ : xS} {s : Nat} {x : Int32} (h : σ.1 52 = some (.inr (.inr (7, xdf 7)))) (hn : σ.2 = (53, s)) : ∃ I A, xEx (d + 1) 89 [.inr (some 52), .inl x] σ none (mU (σ.1, 63, s + 12972) I A) ∧ I 0 = cTh x ∧ I 1 = nI 0 ∧ I 2 = bI false ∧ mV A (fun _ _ => none) ∧ mCo A (fun _ => 0) ∧ mDs A 1 d0 ∧ mDs A 2 d0 := by
  let K : Option xV → xS → Prop := fun r0 σ' => r0 = none ∧ ∃ I A, σ' = mU (σ.1, 63, s + 12972) I A ∧ I 0 = cTh x ∧ I 1 = nI 0 ∧ I 2 = bI false ∧ mV A (fun _ _ => none) ∧ mCo A (fun _ => 0) ∧ mDs A 1 d0 ∧ mDs A 2 d0
  have rest : xGo (xEx d) xtb_89 K (90, [some (.inr (some 52)), some (.inl x), none], [], mU (σ.1, 63, s + 12972) (fun _ => 0) (fun _ _ => 0)) := by
    have loopB : ∀ k i (I : Nat → Int32) (A : Nat → Nat → Int32), i + k = 16 → I 0 = cTh x → I 1 = nI 0 → I 2 = bI false → (∀ k, k = 53 ∨ k = 54 ∨ k = 55 ∨ k = 60 → A k = fun _ => 0) → (∀ y, y < 128 → A 56 y = -1 ∧ A 58 y = -1) → (∀ y, y < i → A 59 y = -1) → xGo (xEx d) xtb_89 K (152, [some (.inr (some 52)), some (.inl x), some (.inl (nI i))], [.inl (nI 16), .inl (nI i)], mU (σ.1, 63, s + 12972) I A) := by
      intro k
      induction k with
      | zero =>
        intro i I A hi a0 a1 a2 a3 a4 a5
        obtain rfl : i = 16 := by omega
        first | refine gtN rfl (by omega) (by omega) (xN_ge (by omega)) ?_ | refine gtN rfl (by omega) (by omega) (xN_lt (by omega)) ?_ | refine gtN rfl (by omega) (by omega) (xN_eq (by omega)) ?_ | refine gtN rfl (by omega) (by omega) (xN_ne (by omega)) ?_ | refine gtN rfl (by omega) (by omega) (xN_gt (by omega)) ?_ | refine gtN rfl (by omega) (by omega) (xN_le (by omega)) ?_
        refine grv rfl ⟨rfl, I, A, rfl, a0, a1, a2, fun t p ht hp => ⟨?_, ?_, Nat.zero_le _, pOK_nil, fun j hj => absurd hj (Nat.not_lt_zero _)⟩, fun p hp => ?_, ⟨fun p hp => (a4 _ (by omega)).1, fun f hf => a5 _ (by omega), fun p hp => (a4 _ (by omega)).2⟩, ⟨fun p hp => (a4 _ (by omega)).1, fun f hf => a5 _ (by omega), fun p hp => (a4 _ (by omega)).2⟩⟩
        · rw [a3 53 (by decide)]; rfl
        · rw [a3 54 (by decide)]; rfl
        · rw [a3 60 (by decide)]
      | succ k ih =>
        intro i I A hi a0 a1 a2 a3 a4 a5
        first | refine gfN rfl (by omega) (by omega) (nN_ge (by omega)) ?_ | refine gfN rfl (by omega) (by omega) (nN_lt (by omega)) ?_ | refine gfN rfl (by omega) (by omega) (nN_eq (by omega)) ?_ | refine gfN rfl (by omega) (by omega) (nN_ne (by omega)) ?_ | refine gfN rfl (by omega) (by omega) (nN_gt (by omega)) ?_ | refine gfN rfl (by omega) (by omega) (nN_le (by omega)) ?_
        repeat (first | refine gkn rfl rfl ?_ | refine gkm rfl rfl ?_ | refine gad rfl ?_ | refine gml rfl ?_ | refine gsb rfl (by omega) ?_ | refine gdv rfl (by omega) (by omega) (by omega) ?_ | refine grm rfl (by omega) (by omega) (by omega) ?_ | refine gic rfl rfl ?_ | refine gp rfl rfl rfl ?_ | refine gFl rfl (by rfl) ?_ | refine gAl rfl rfl (by rfl) (by omega) ?_ | refine gBl rfl rfl (by rfl) (by omega) ?_)
        refine gAs rfl rfl rfl (by omega) ?_
        repeat (first | refine gkn rfl rfl ?_ | refine gkm rfl rfl ?_ | refine gad rfl ?_ | refine gml rfl ?_ | refine gsb rfl (by omega) ?_ | refine gdv rfl (by omega) (by omega) (by omega) ?_ | refine grm rfl (by omega) (by omega) (by omega) ?_ | refine gic rfl rfl ?_ | refine gp rfl rfl rfl ?_ | refine gFl rfl (by rfl) ?_ | refine gAl rfl rfl (by rfl) (by omega) ?_ | refine gBl rfl rfl (by rfl) (by omega) ?_)
        refine ih (i + 1) I _ (by omega) a0 a1 a2 (fun k hk => (aU_ne (by omega)).trans (a3 k hk)) (fun y hy => by rw [aU_ne (by decide), aU_ne (by decide)]; exact a4 y hy) (fun y hy => ?_)
        rw [aU_eq]
        by_cases e : y = i
        · rw [e, upd_eq]
        · rw [upd_ne e]; exact a5 y (by omega)
    have loopA : ∀ k i (I : Nat → Int32) (A : Nat → Nat → Int32), i + k = 128 → I 0 = cTh x → I 1 = nI 0 → I 2 = bI false → (∀ k, k = 53 ∨ k = 54 ∨ k = 55 ∨ k = 60 → A k = fun _ => 0) → (∀ y, y < i → A 56 y = -1 ∧ A 58 y = -1) → xGo (xEx d) xtb_89 K (117, [some (.inr (some 52)), some (.inl x), some (.inl (nI i))], [.inl (nI 128), .inl (nI i)], mU (σ.1, 63, s + 12972) I A) := by
      intro k
      induction k with
      | zero =>
        intro i I A hi a0 a1 a2 a3 a4
        obtain rfl : i = 128 := by omega
        first | refine gtN rfl (by omega) (by omega) (xN_ge (by omega)) ?_ | refine gtN rfl (by omega) (by omega) (xN_lt (by omega)) ?_ | refine gtN rfl (by omega) (by omega) (xN_eq (by omega)) ?_ | refine gtN rfl (by omega) (by omega) (xN_ne (by omega)) ?_ | refine gtN rfl (by omega) (by omega) (xN_gt (by omega)) ?_ | refine gtN rfl (by omega) (by omega) (xN_le (by omega)) ?_
        repeat (first | refine gkn rfl rfl ?_ | refine gkm rfl rfl ?_ | refine gad rfl ?_ | refine gml rfl ?_ | refine gsb rfl (by omega) ?_ | refine gdv rfl (by omega) (by omega) (by omega) ?_ | refine grm rfl (by omega) (by omega) (by omega) ?_ | refine gic rfl rfl ?_ | refine gp rfl rfl rfl ?_ | refine gFl rfl (by rfl) ?_ | refine gAl rfl rfl (by rfl) (by omega) ?_ | refine gBl rfl rfl (by rfl) (by omega) ?_)
        exact loopB 16 0 I A rfl a0 a1 a2 a3 a4 (fun y hy => absurd hy (Nat.not_lt_zero _))
      | succ k ih =>
        intro i I A hi a0 a1 a2 a3 a4
        first | refine gfN rfl (by omega) (by omega) (nN_ge (by omega)) ?_ | refine gfN rfl (by omega) (by omega) (nN_lt (by omega)) ?_ | refine gfN rfl (by omega) (by omega) (nN_eq (by omega)) ?_ | refine gfN rfl (by omega) (by omega) (nN_ne (by omega)) ?_ | refine gfN rfl (by omega) (by omega) (nN_gt (by omega)) ?_ | refine gfN rfl (by omega) (by omega) (nN_le (by omega)) ?_
        repeat (first | refine gkn rfl rfl ?_ | refine gkm rfl rfl ?_ | refine gad rfl ?_ | refine gml rfl ?_ | refine gsb rfl (by omega) ?_ | refine gdv rfl (by omega) (by omega) (by omega) ?_ | refine grm rfl (by omega) (by omega) (by omega) ?_ | refine gic rfl rfl ?_ | refine gp rfl rfl rfl ?_ | refine gFl rfl (by rfl) ?_ | refine gAl rfl rfl (by rfl) (by omega) ?_ | refine gBl rfl rfl (by rfl) (by omega) ?_)
        refine gAs rfl rfl rfl (by omega) ?_
        repeat (first | refine gkn rfl rfl ?_ | refine gkm rfl rfl ?_ | refine gad rfl ?_ | refine gml rfl ?_ | refine gsb rfl (by omega) ?_ | refine gdv rfl (by omega) (by omega) (by omega) ?_ | refine grm rfl (by omega) (by omega) (by omega) ?_ | refine gic rfl rfl ?_ | refine gp rfl rfl rfl ?_ | refine gFl rfl (by rfl) ?_ | refine gAl rfl rfl (by rfl) (by omega) ?_ | refine gBl rfl rfl (by rfl) (by omega) ?_)
        refine gAs rfl rfl rfl (by omega) ?_
        repeat (first | refine gkn rfl rfl ?_ | refine gkm rfl rfl ?_ | refine gad rfl ?_ | refine gml rfl ?_ | refine gsb rfl (by omega) ?_ | refine gdv rfl (by omega) (by omega) (by omega) ?_ | refine grm rfl (by omega) (by omega) (by omega) ?_ | refine gic rfl rfl ?_ | refine gp rfl rfl rfl ?_ | refine gFl rfl (by rfl) ?_ | refine gAl rfl rfl (by rfl) (by omega) ?_ | refine gBl rfl rfl (by rfl) (by omega) ?_)
        refine gAs rfl rfl rfl (by omega) ?_
        repeat (first | refine gkn rfl rfl ?_ | refine gkm rfl rfl ?_ | refine gad rfl ?_ | refine gml rfl ?_ | refine gsb rfl (by omega) ?_ | refine gdv rfl (by omega) (by omega) (by omega) ?_ | refine grm rfl (by omega) (by omega) (by omega) ?_ | refine gic rfl rfl ?_ | refine gp rfl rfl rfl ?_ | refine gFl rfl (by rfl) ?_ | refine gAl rfl rfl (by rfl) (by omega) ?_ | refine gBl rfl rfl (by rfl) (by omega) ?_)
        refine ih (i + 1) I _ (by omega) a0 a1 a2 (fun k hk => (aU_ne (by omega)).trans ((aU_ne (by omega)).trans ((aU_ne (by omega)).trans (a3 k hk)))) (fun y hy => ?_)
        rw [aU_ne (show 56 ≠ 58 by decide), aU_ne (show 56 ≠ 57 by decide), aU_eq, aU_eq, aU_ne (show 58 ≠ 57 by decide), aU_ne (show 58 ≠ 56 by decide)]
        by_cases e : y = i
        · rw [e, upd_eq, upd_eq]; exact ⟨rfl, rfl⟩
        · rw [upd_ne e, upd_ne e]; exact a4 y (by omega)
    have put : ∀ v : Int32, v = cTh x → xGo (xEx d) xtb_89 K (108, [some (.inr (some 52)), some (.inl x), none], [.inl v, .inr (some 52)], mU (σ.1, 63, s + 12972) (fun _ => 0) (fun _ _ => 0)) := by
      intro v hv
      refine gFs rfl (by decide) (Or.inl rfl) ?_
      repeat (first | refine gkn rfl rfl ?_ | refine gkm rfl rfl ?_ | refine gad rfl ?_ | refine gml rfl ?_ | refine gsb rfl (by omega) ?_ | refine gdv rfl (by omega) (by omega) (by omega) ?_ | refine grm rfl (by omega) (by omega) (by omega) ?_ | refine gic rfl rfl ?_ | refine gp rfl rfl rfl ?_ | refine gFl rfl (by rfl) ?_ | refine gAl rfl rfl (by rfl) (by omega) ?_ | refine gBl rfl rfl (by rfl) (by omega) ?_)
      exact loopA 128 0 _ _ rfl (by rw [upd_eq]; exact hv) (by rw [upd_ne (by decide)]; rfl) (by rw [upd_ne (by decide)]; rfl) (fun k _ => rfl) (fun y hy => absurd hy (Nat.not_lt_zero _))
    repeat (first | refine gkn rfl rfl ?_ | refine gkm rfl rfl ?_ | refine gad rfl ?_ | refine gml rfl ?_ | refine gsb rfl (by omega) ?_ | refine gdv rfl (by omega) (by omega) (by omega) ?_ | refine grm rfl (by omega) (by omega) (by omega) ?_ | refine gic rfl rfl ?_ | refine gp rfl rfl rfl ?_ | refine gFl rfl (by rfl) ?_ | refine gAl rfl rfl (by rfl) (by omega) ?_ | refine gBl rfl rfl (by rfl) (by omega) ?_)
    by_cases l1 : nI 1 ≤ x
    · refine gcf rfl (show ¬ x < nI 1 from Int32.not_lt.mpr l1) ?_
      repeat (first | refine gkn rfl rfl ?_ | refine gkm rfl rfl ?_ | refine gad rfl ?_ | refine gml rfl ?_ | refine gsb rfl (by omega) ?_ | refine gdv rfl (by omega) (by omega) (by omega) ?_ | refine grm rfl (by omega) (by omega) (by omega) ?_ | refine gic rfl rfl ?_ | refine gp rfl rfl rfl ?_ | refine gFl rfl (by rfl) ?_ | refine gAl rfl rfl (by rfl) (by omega) ?_ | refine gBl rfl rfl (by rfl) (by omega) ?_)
      by_cases l2 : x ≤ nI 100
      · refine gcf rfl (show ¬ nI 100 < x from Int32.not_lt.mpr l2) ?_
        refine gp rfl rfl rfl ?_
        refine gp rfl rfl rfl ?_
        exact put x (by unfold cTh; rw [if_pos ⟨l1, l2⟩])
      · refine gct rfl (show nI 100 < x from Int32.not_le.mp l2) ?_
        refine gkn rfl rfl ?_
        exact put _ (by unfold cTh; rw [if_neg (fun z => l2 z.2)])
    · refine gct rfl (show x < nI 1 from Int32.not_le.mp l1) ?_
      refine gkn rfl rfl ?_
      exact put _ (by unfold cTh; rw [if_neg (fun z => l1 z.1)])
  have main : xGo (xEx d) xtb_89 K (0, [some (.inr (some 52)), some (.inl x), none], [], σ) := by
    have o0 : σ.1 52 = some (.inr (.inr (7, [.inl 0, .inl 0, .inl 0, .inr none, .inr none, .inr none, .inr none, .inr none, .inr none, .inr none, .inr none, .inr none, .inl 0, .inl 0, .inl 0, .inl 0, .inl 0, .inl 0, .inl 0, .inr none]))) := h
    have F0 : ∀ k, (k < 52 ∨ 62 < k) → σ.1 k = σ.1 k := fun _ _ => rfl
    have n0 := hn
    repeat (first | refine gp rfl rfl rfl ?_ | refine ggf rfl (by assumption) (by rfl) ?_ | refine gal rfl (by assumption) (by rfl) (by omega) (by omega) ?_ | refine gil rfl (by assumption) (by rfl) (by omega) (by omega) ?_ | refine gbl rfl (by assumption) (by rfl) (by omega) (by omega) ?_ | refine gln rfl (xlen_i (by assumption)) ?_ | refine gln rfl (xlen_q (by assumption)) ?_)
    refine gob rfl (by decide) ?_
    repeat (first | refine gp rfl rfl rfl ?_ | refine ggf rfl (by assumption) (by rfl) ?_ | refine gal rfl (by assumption) (by rfl) (by omega) (by omega) ?_ | refine gil rfl (by assumption) (by rfl) (by omega) (by omega) ?_ | refine gbl rfl (by assumption) (by rfl) (by omega) (by omega) ?_ | refine gln rfl (xlen_i (by assumption)) ?_ | refine gln rfl (xlen_q (by assumption)) ?_)
    have e0 : σ.2.1 = 53 := by rw [n0]
    refine gna (n := 448) rfl rfl (by decide) ?_
    refine gpf rfl (show (xnew σ _ 448).1 52 = _ by rw [xnew_ne (by omega)]; exact o0) (Nat.le_of_ble_eq_true rfl) rfl ?_
    rw [e0]
    obtain ⟨o1, b1, n1, d1⟩ := st_new (m := 448) (e := .inl (0, 448, fun _ => 0)) (o := .inr (.inr (7, [.inl 0, .inl 0, .inl 0, .inr (some 53), .inr none, .inr none, .inr none, .inr none, .inr none, .inr none, .inr none, .inr none, .inl 0, .inl 0, .inl 0, .inl 0, .inl 0, .inl 0, .inl 0, .inr none]))) n0 (q := 52) (by decide)
    show xGo (xEx d) xtb_89 K (13, [some (.inr (some 52)), some (.inl x), none], [], xup (xnew σ (.inl (0, 448, fun _ => 0)) 448) 52 (.inr (.inr (7, [.inl 0, .inl 0, .inl 0, .inr (some 53), .inr none, .inr none, .inr none, .inr none, .inr none, .inr none, .inr none, .inr none, .inl 0, .inl 0, .inl 0, .inl 0, .inl 0, .inl 0, .inl 0, .inr none]))))
    have F1 : ∀ k, (k < 52 ∨ 62 < k) → (xup (xnew σ (.inl (0, 448, fun _ => 0)) 448) 52 (.inr (.inr (7, [.inl 0, .inl 0, .inl 0, .inr (some 53), .inr none, .inr none, .inr none, .inr none, .inr none, .inr none, .inr none, .inr none, .inl 0, .inl 0, .inl 0, .inl 0, .inl 0, .inl 0, .inl 0, .inr none])))).1 k = σ.1 k := fun k hk => (d1 k (by omega) (by omega)).trans (F0 k hk)
    have c1_53 := b1
    clear b1 d1
    generalize xup (xnew σ (.inl (0, 448, fun _ => 0)) 448) 52 (.inr (.inr (7, [.inl 0, .inl 0, .inl 0, .inr (some 53), .inr none, .inr none, .inr none, .inr none, .inr none, .inr none, .inr none, .inr none, .inl 0, .inl 0, .inl 0, .inl 0, .inl 0, .inl 0, .inl 0, .inr none]))) = σ1 at o1 n1 F1 c1_53 ⊢
    repeat (first | refine gp rfl rfl rfl ?_ | refine ggf rfl (by assumption) (by rfl) ?_ | refine gal rfl (by assumption) (by rfl) (by omega) (by omega) ?_ | refine gil rfl (by assumption) (by rfl) (by omega) (by omega) ?_ | refine gbl rfl (by assumption) (by rfl) (by omega) (by omega) ?_ | refine gln rfl (xlen_i (by assumption)) ?_ | refine gln rfl (xlen_q (by assumption)) ?_)
    have e1 : σ1.2.1 = 54 := by rw [n1]
    refine gna (n := 448) rfl rfl (by decide) ?_
    refine gpf rfl (show (xnew σ1 _ 448).1 52 = _ by rw [xnew_ne (by omega)]; exact o1) (Nat.le_of_ble_eq_true rfl) rfl ?_
    rw [e1]
    obtain ⟨o2, b2, n2, d2⟩ := st_new (m := 448) (e := .inl (0, 448, fun _ => 0)) (o := .inr (.inr (7, [.inl 0, .inl 0, .inl 0, .inr (some 53), .inr (some 54), .inr none, .inr none, .inr none, .inr none, .inr none, .inr none, .inr none, .inl 0, .inl 0, .inl 0, .inl 0, .inl 0, .inl 0, .inl 0, .inr none]))) n1 (q := 52) (by decide)
    show xGo (xEx d) xtb_89 K (22, [some (.inr (some 52)), some (.inl x), none], [], xup (xnew σ1 (.inl (0, 448, fun _ => 0)) 448) 52 (.inr (.inr (7, [.inl 0, .inl 0, .inl 0, .inr (some 53), .inr (some 54), .inr none, .inr none, .inr none, .inr none, .inr none, .inr none, .inr none, .inl 0, .inl 0, .inl 0, .inl 0, .inl 0, .inl 0, .inl 0, .inr none]))))
    have F2 : ∀ k, (k < 52 ∨ 62 < k) → (xup (xnew σ1 (.inl (0, 448, fun _ => 0)) 448) 52 (.inr (.inr (7, [.inl 0, .inl 0, .inl 0, .inr (some 53), .inr (some 54), .inr none, .inr none, .inr none, .inr none, .inr none, .inr none, .inr none, .inl 0, .inl 0, .inl 0, .inl 0, .inl 0, .inl 0, .inl 0, .inr none])))).1 k = σ.1 k := fun k hk => (d2 k (by omega) (by omega)).trans (F1 k hk)
    have c2_53 := (d2 53 (by decide) (by decide)).trans c1_53
    have c2_54 := b2
    clear b2 d2
    generalize xup (xnew σ1 (.inl (0, 448, fun _ => 0)) 448) 52 (.inr (.inr (7, [.inl 0, .inl 0, .inl 0, .inr (some 53), .inr (some 54), .inr none, .inr none, .inr none, .inr none, .inr none, .inr none, .inr none, .inl 0, .inl 0, .inl 0, .inl 0, .inl 0, .inl 0, .inl 0, .inr none]))) = σ2 at o2 n2 F2 c2_53 c2_54 ⊢
    repeat (first | refine gp rfl rfl rfl ?_ | refine ggf rfl (by assumption) (by rfl) ?_ | refine gal rfl (by assumption) (by rfl) (by omega) (by omega) ?_ | refine gil rfl (by assumption) (by rfl) (by omega) (by omega) ?_ | refine gbl rfl (by assumption) (by rfl) (by omega) (by omega) ?_ | refine gln rfl (xlen_i (by assumption)) ?_ | refine gln rfl (xlen_q (by assumption)) ?_)
    have e2 : σ2.2.1 = 55 := by rw [n2]
    refine gna (n := 11520) rfl rfl (by decide) ?_
    refine gpf rfl (show (xnew σ2 _ 11520).1 52 = _ by rw [xnew_ne (by omega)]; exact o2) (Nat.le_of_ble_eq_true rfl) rfl ?_
    rw [e2]
    obtain ⟨o3, b3, n3, d3⟩ := st_new (m := 11520) (e := .inl (1, 11520, fun _ => 0)) (o := .inr (.inr (7, [.inl 0, .inl 0, .inl 0, .inr (some 53), .inr (some 54), .inr (some 55), .inr none, .inr none, .inr none, .inr none, .inr none, .inr none, .inl 0, .inl 0, .inl 0, .inl 0, .inl 0, .inl 0, .inl 0, .inr none]))) n2 (q := 52) (by decide)
    show xGo (xEx d) xtb_89 K (31, [some (.inr (some 52)), some (.inl x), none], [], xup (xnew σ2 (.inl (1, 11520, fun _ => 0)) 11520) 52 (.inr (.inr (7, [.inl 0, .inl 0, .inl 0, .inr (some 53), .inr (some 54), .inr (some 55), .inr none, .inr none, .inr none, .inr none, .inr none, .inr none, .inl 0, .inl 0, .inl 0, .inl 0, .inl 0, .inl 0, .inl 0, .inr none]))))
    have F3 : ∀ k, (k < 52 ∨ 62 < k) → (xup (xnew σ2 (.inl (1, 11520, fun _ => 0)) 11520) 52 (.inr (.inr (7, [.inl 0, .inl 0, .inl 0, .inr (some 53), .inr (some 54), .inr (some 55), .inr none, .inr none, .inr none, .inr none, .inr none, .inr none, .inl 0, .inl 0, .inl 0, .inl 0, .inl 0, .inl 0, .inl 0, .inr none])))).1 k = σ.1 k := fun k hk => (d3 k (by omega) (by omega)).trans (F2 k hk)
    have c3_53 := (d3 53 (by decide) (by decide)).trans c2_53
    have c3_54 := (d3 54 (by decide) (by decide)).trans c2_54
    have c3_55 := b3
    clear b3 d3
    generalize xup (xnew σ2 (.inl (1, 11520, fun _ => 0)) 11520) 52 (.inr (.inr (7, [.inl 0, .inl 0, .inl 0, .inr (some 53), .inr (some 54), .inr (some 55), .inr none, .inr none, .inr none, .inr none, .inr none, .inr none, .inl 0, .inl 0, .inl 0, .inl 0, .inl 0, .inl 0, .inl 0, .inr none]))) = σ3 at o3 n3 F3 c3_53 c3_54 c3_55 ⊢
    repeat (first | refine gp rfl rfl rfl ?_ | refine ggf rfl (by assumption) (by rfl) ?_ | refine gal rfl (by assumption) (by rfl) (by omega) (by omega) ?_ | refine gil rfl (by assumption) (by rfl) (by omega) (by omega) ?_ | refine gbl rfl (by assumption) (by rfl) (by omega) (by omega) ?_ | refine gln rfl (xlen_i (by assumption)) ?_ | refine gln rfl (xlen_q (by assumption)) ?_)
    have e3 : σ3.2.1 = 56 := by rw [n3]
    refine gna (n := 128) rfl rfl (by decide) ?_
    refine gpf rfl (show (xnew σ3 _ 128).1 52 = _ by rw [xnew_ne (by omega)]; exact o3) (Nat.le_of_ble_eq_true rfl) rfl ?_
    rw [e3]
    obtain ⟨o4, b4, n4, d4⟩ := st_new (m := 128) (e := .inl (0, 128, fun _ => 0)) (o := .inr (.inr (7, [.inl 0, .inl 0, .inl 0, .inr (some 53), .inr (some 54), .inr (some 55), .inr (some 56), .inr none, .inr none, .inr none, .inr none, .inr none, .inl 0, .inl 0, .inl 0, .inl 0, .inl 0, .inl 0, .inl 0, .inr none]))) n3 (q := 52) (by decide)
    show xGo (xEx d) xtb_89 K (40, [some (.inr (some 52)), some (.inl x), none], [], xup (xnew σ3 (.inl (0, 128, fun _ => 0)) 128) 52 (.inr (.inr (7, [.inl 0, .inl 0, .inl 0, .inr (some 53), .inr (some 54), .inr (some 55), .inr (some 56), .inr none, .inr none, .inr none, .inr none, .inr none, .inl 0, .inl 0, .inl 0, .inl 0, .inl 0, .inl 0, .inl 0, .inr none]))))
    have F4 : ∀ k, (k < 52 ∨ 62 < k) → (xup (xnew σ3 (.inl (0, 128, fun _ => 0)) 128) 52 (.inr (.inr (7, [.inl 0, .inl 0, .inl 0, .inr (some 53), .inr (some 54), .inr (some 55), .inr (some 56), .inr none, .inr none, .inr none, .inr none, .inr none, .inl 0, .inl 0, .inl 0, .inl 0, .inl 0, .inl 0, .inl 0, .inr none])))).1 k = σ.1 k := fun k hk => (d4 k (by omega) (by omega)).trans (F3 k hk)
    have c4_53 := (d4 53 (by decide) (by decide)).trans c3_53
    have c4_54 := (d4 54 (by decide) (by decide)).trans c3_54
    have c4_55 := (d4 55 (by decide) (by decide)).trans c3_55
    have c4_56 := b4
    clear b4 d4
    generalize xup (xnew σ3 (.inl (0, 128, fun _ => 0)) 128) 52 (.inr (.inr (7, [.inl 0, .inl 0, .inl 0, .inr (some 53), .inr (some 54), .inr (some 55), .inr (some 56), .inr none, .inr none, .inr none, .inr none, .inr none, .inl 0, .inl 0, .inl 0, .inl 0, .inl 0, .inl 0, .inl 0, .inr none]))) = σ4 at o4 n4 F4 c4_53 c4_54 c4_55 c4_56 ⊢
    repeat (first | refine gp rfl rfl rfl ?_ | refine ggf rfl (by assumption) (by rfl) ?_ | refine gal rfl (by assumption) (by rfl) (by omega) (by omega) ?_ | refine gil rfl (by assumption) (by rfl) (by omega) (by omega) ?_ | refine gbl rfl (by assumption) (by rfl) (by omega) (by omega) ?_ | refine gln rfl (xlen_i (by assumption)) ?_ | refine gln rfl (xlen_q (by assumption)) ?_)
    have e4 : σ4.2.1 = 57 := by rw [n4]
    refine gna (n := 128) rfl rfl (by decide) ?_
    refine gpf rfl (show (xnew σ4 _ 128).1 52 = _ by rw [xnew_ne (by omega)]; exact o4) (Nat.le_of_ble_eq_true rfl) rfl ?_
    rw [e4]
    obtain ⟨o5, b5, n5, d5⟩ := st_new (m := 128) (e := .inl (0, 128, fun _ => 0)) (o := .inr (.inr (7, [.inl 0, .inl 0, .inl 0, .inr (some 53), .inr (some 54), .inr (some 55), .inr (some 56), .inr (some 57), .inr none, .inr none, .inr none, .inr none, .inl 0, .inl 0, .inl 0, .inl 0, .inl 0, .inl 0, .inl 0, .inr none]))) n4 (q := 52) (by decide)
    show xGo (xEx d) xtb_89 K (49, [some (.inr (some 52)), some (.inl x), none], [], xup (xnew σ4 (.inl (0, 128, fun _ => 0)) 128) 52 (.inr (.inr (7, [.inl 0, .inl 0, .inl 0, .inr (some 53), .inr (some 54), .inr (some 55), .inr (some 56), .inr (some 57), .inr none, .inr none, .inr none, .inr none, .inl 0, .inl 0, .inl 0, .inl 0, .inl 0, .inl 0, .inl 0, .inr none]))))
    have F5 : ∀ k, (k < 52 ∨ 62 < k) → (xup (xnew σ4 (.inl (0, 128, fun _ => 0)) 128) 52 (.inr (.inr (7, [.inl 0, .inl 0, .inl 0, .inr (some 53), .inr (some 54), .inr (some 55), .inr (some 56), .inr (some 57), .inr none, .inr none, .inr none, .inr none, .inl 0, .inl 0, .inl 0, .inl 0, .inl 0, .inl 0, .inl 0, .inr none])))).1 k = σ.1 k := fun k hk => (d5 k (by omega) (by omega)).trans (F4 k hk)
    have c5_53 := (d5 53 (by decide) (by decide)).trans c4_53
    have c5_54 := (d5 54 (by decide) (by decide)).trans c4_54
    have c5_55 := (d5 55 (by decide) (by decide)).trans c4_55
    have c5_56 := (d5 56 (by decide) (by decide)).trans c4_56
    have c5_57 := b5
    clear b5 d5
    generalize xup (xnew σ4 (.inl (0, 128, fun _ => 0)) 128) 52 (.inr (.inr (7, [.inl 0, .inl 0, .inl 0, .inr (some 53), .inr (some 54), .inr (some 55), .inr (some 56), .inr (some 57), .inr none, .inr none, .inr none, .inr none, .inl 0, .inl 0, .inl 0, .inl 0, .inl 0, .inl 0, .inl 0, .inr none]))) = σ5 at o5 n5 F5 c5_53 c5_54 c5_55 c5_56 c5_57 ⊢
    repeat (first | refine gp rfl rfl rfl ?_ | refine ggf rfl (by assumption) (by rfl) ?_ | refine gal rfl (by assumption) (by rfl) (by omega) (by omega) ?_ | refine gil rfl (by assumption) (by rfl) (by omega) (by omega) ?_ | refine gbl rfl (by assumption) (by rfl) (by omega) (by omega) ?_ | refine gln rfl (xlen_i (by assumption)) ?_ | refine gln rfl (xlen_q (by assumption)) ?_)
    have e5 : σ5.2.1 = 58 := by rw [n5]
    refine gna (n := 128) rfl rfl (by decide) ?_
    refine gpf rfl (show (xnew σ5 _ 128).1 52 = _ by rw [xnew_ne (by omega)]; exact o5) (Nat.le_of_ble_eq_true rfl) rfl ?_
    rw [e5]
    obtain ⟨o6, b6, n6, d6⟩ := st_new (m := 128) (e := .inl (0, 128, fun _ => 0)) (o := .inr (.inr (7, [.inl 0, .inl 0, .inl 0, .inr (some 53), .inr (some 54), .inr (some 55), .inr (some 56), .inr (some 57), .inr (some 58), .inr none, .inr none, .inr none, .inl 0, .inl 0, .inl 0, .inl 0, .inl 0, .inl 0, .inl 0, .inr none]))) n5 (q := 52) (by decide)
    show xGo (xEx d) xtb_89 K (58, [some (.inr (some 52)), some (.inl x), none], [], xup (xnew σ5 (.inl (0, 128, fun _ => 0)) 128) 52 (.inr (.inr (7, [.inl 0, .inl 0, .inl 0, .inr (some 53), .inr (some 54), .inr (some 55), .inr (some 56), .inr (some 57), .inr (some 58), .inr none, .inr none, .inr none, .inl 0, .inl 0, .inl 0, .inl 0, .inl 0, .inl 0, .inl 0, .inr none]))))
    have F6 : ∀ k, (k < 52 ∨ 62 < k) → (xup (xnew σ5 (.inl (0, 128, fun _ => 0)) 128) 52 (.inr (.inr (7, [.inl 0, .inl 0, .inl 0, .inr (some 53), .inr (some 54), .inr (some 55), .inr (some 56), .inr (some 57), .inr (some 58), .inr none, .inr none, .inr none, .inl 0, .inl 0, .inl 0, .inl 0, .inl 0, .inl 0, .inl 0, .inr none])))).1 k = σ.1 k := fun k hk => (d6 k (by omega) (by omega)).trans (F5 k hk)
    have c6_53 := (d6 53 (by decide) (by decide)).trans c5_53
    have c6_54 := (d6 54 (by decide) (by decide)).trans c5_54
    have c6_55 := (d6 55 (by decide) (by decide)).trans c5_55
    have c6_56 := (d6 56 (by decide) (by decide)).trans c5_56
    have c6_57 := (d6 57 (by decide) (by decide)).trans c5_57
    have c6_58 := b6
    clear b6 d6
    generalize xup (xnew σ5 (.inl (0, 128, fun _ => 0)) 128) 52 (.inr (.inr (7, [.inl 0, .inl 0, .inl 0, .inr (some 53), .inr (some 54), .inr (some 55), .inr (some 56), .inr (some 57), .inr (some 58), .inr none, .inr none, .inr none, .inl 0, .inl 0, .inl 0, .inl 0, .inl 0, .inl 0, .inl 0, .inr none]))) = σ6 at o6 n6 F6 c6_53 c6_54 c6_55 c6_56 c6_57 c6_58 ⊢
    repeat (first | refine gp rfl rfl rfl ?_ | refine ggf rfl (by assumption) (by rfl) ?_ | refine gal rfl (by assumption) (by rfl) (by omega) (by omega) ?_ | refine gil rfl (by assumption) (by rfl) (by omega) (by omega) ?_ | refine gbl rfl (by assumption) (by rfl) (by omega) (by omega) ?_ | refine gln rfl (xlen_i (by assumption)) ?_ | refine gln rfl (xlen_q (by assumption)) ?_)
    have e6 : σ6.2.1 = 59 := by rw [n6]
    refine gna (n := 16) rfl rfl (by decide) ?_
    refine gpf rfl (show (xnew σ6 _ 16).1 52 = _ by rw [xnew_ne (by omega)]; exact o6) (Nat.le_of_ble_eq_true rfl) rfl ?_
    rw [e6]
    obtain ⟨o7, b7, n7, d7⟩ := st_new (m := 16) (e := .inl (0, 16, fun _ => 0)) (o := .inr (.inr (7, [.inl 0, .inl 0, .inl 0, .inr (some 53), .inr (some 54), .inr (some 55), .inr (some 56), .inr (some 57), .inr (some 58), .inr (some 59), .inr none, .inr none, .inl 0, .inl 0, .inl 0, .inl 0, .inl 0, .inl 0, .inl 0, .inr none]))) n6 (q := 52) (by decide)
    show xGo (xEx d) xtb_89 K (66, [some (.inr (some 52)), some (.inl x), none], [], xup (xnew σ6 (.inl (0, 16, fun _ => 0)) 16) 52 (.inr (.inr (7, [.inl 0, .inl 0, .inl 0, .inr (some 53), .inr (some 54), .inr (some 55), .inr (some 56), .inr (some 57), .inr (some 58), .inr (some 59), .inr none, .inr none, .inl 0, .inl 0, .inl 0, .inl 0, .inl 0, .inl 0, .inl 0, .inr none]))))
    have F7 : ∀ k, (k < 52 ∨ 62 < k) → (xup (xnew σ6 (.inl (0, 16, fun _ => 0)) 16) 52 (.inr (.inr (7, [.inl 0, .inl 0, .inl 0, .inr (some 53), .inr (some 54), .inr (some 55), .inr (some 56), .inr (some 57), .inr (some 58), .inr (some 59), .inr none, .inr none, .inl 0, .inl 0, .inl 0, .inl 0, .inl 0, .inl 0, .inl 0, .inr none])))).1 k = σ.1 k := fun k hk => (d7 k (by omega) (by omega)).trans (F6 k hk)
    have c7_53 := (d7 53 (by decide) (by decide)).trans c6_53
    have c7_54 := (d7 54 (by decide) (by decide)).trans c6_54
    have c7_55 := (d7 55 (by decide) (by decide)).trans c6_55
    have c7_56 := (d7 56 (by decide) (by decide)).trans c6_56
    have c7_57 := (d7 57 (by decide) (by decide)).trans c6_57
    have c7_58 := (d7 58 (by decide) (by decide)).trans c6_58
    have c7_59 := b7
    clear b7 d7
    generalize xup (xnew σ6 (.inl (0, 16, fun _ => 0)) 16) 52 (.inr (.inr (7, [.inl 0, .inl 0, .inl 0, .inr (some 53), .inr (some 54), .inr (some 55), .inr (some 56), .inr (some 57), .inr (some 58), .inr (some 59), .inr none, .inr none, .inl 0, .inl 0, .inl 0, .inl 0, .inl 0, .inl 0, .inl 0, .inr none]))) = σ7 at o7 n7 F7 c7_53 c7_54 c7_55 c7_56 c7_57 c7_58 c7_59 ⊢
    repeat (first | refine gp rfl rfl rfl ?_ | refine ggf rfl (by assumption) (by rfl) ?_ | refine gal rfl (by assumption) (by rfl) (by omega) (by omega) ?_ | refine gil rfl (by assumption) (by rfl) (by omega) (by omega) ?_ | refine gbl rfl (by assumption) (by rfl) (by omega) (by omega) ?_ | refine gln rfl (xlen_i (by assumption)) ?_ | refine gln rfl (xlen_q (by assumption)) ?_)
    have e7 : σ7.2.1 = 60 := by rw [n7]
    refine gna (n := 64) rfl rfl (by decide) ?_
    refine gpf rfl (show (xnew σ7 _ 64).1 52 = _ by rw [xnew_ne (by omega)]; exact o7) (Nat.le_of_ble_eq_true rfl) rfl ?_
    rw [e7]
    obtain ⟨o8, b8, n8, d8⟩ := st_new (m := 64) (e := .inl (0, 64, fun _ => 0)) (o := .inr (.inr (7, [.inl 0, .inl 0, .inl 0, .inr (some 53), .inr (some 54), .inr (some 55), .inr (some 56), .inr (some 57), .inr (some 58), .inr (some 59), .inr (some 60), .inr none, .inl 0, .inl 0, .inl 0, .inl 0, .inl 0, .inl 0, .inl 0, .inr none]))) n7 (q := 52) (by decide)
    show xGo (xEx d) xtb_89 K (74, [some (.inr (some 52)), some (.inl x), none], [], xup (xnew σ7 (.inl (0, 64, fun _ => 0)) 64) 52 (.inr (.inr (7, [.inl 0, .inl 0, .inl 0, .inr (some 53), .inr (some 54), .inr (some 55), .inr (some 56), .inr (some 57), .inr (some 58), .inr (some 59), .inr (some 60), .inr none, .inl 0, .inl 0, .inl 0, .inl 0, .inl 0, .inl 0, .inl 0, .inr none]))))
    have F8 : ∀ k, (k < 52 ∨ 62 < k) → (xup (xnew σ7 (.inl (0, 64, fun _ => 0)) 64) 52 (.inr (.inr (7, [.inl 0, .inl 0, .inl 0, .inr (some 53), .inr (some 54), .inr (some 55), .inr (some 56), .inr (some 57), .inr (some 58), .inr (some 59), .inr (some 60), .inr none, .inl 0, .inl 0, .inl 0, .inl 0, .inl 0, .inl 0, .inl 0, .inr none])))).1 k = σ.1 k := fun k hk => (d8 k (by omega) (by omega)).trans (F7 k hk)
    have c8_53 := (d8 53 (by decide) (by decide)).trans c7_53
    have c8_54 := (d8 54 (by decide) (by decide)).trans c7_54
    have c8_55 := (d8 55 (by decide) (by decide)).trans c7_55
    have c8_56 := (d8 56 (by decide) (by decide)).trans c7_56
    have c8_57 := (d8 57 (by decide) (by decide)).trans c7_57
    have c8_58 := (d8 58 (by decide) (by decide)).trans c7_58
    have c8_59 := (d8 59 (by decide) (by decide)).trans c7_59
    have c8_60 := b8
    clear b8 d8
    generalize xup (xnew σ7 (.inl (0, 64, fun _ => 0)) 64) 52 (.inr (.inr (7, [.inl 0, .inl 0, .inl 0, .inr (some 53), .inr (some 54), .inr (some 55), .inr (some 56), .inr (some 57), .inr (some 58), .inr (some 59), .inr (some 60), .inr none, .inl 0, .inl 0, .inl 0, .inl 0, .inl 0, .inl 0, .inl 0, .inr none]))) = σ8 at o8 n8 F8 c8_53 c8_54 c8_55 c8_56 c8_57 c8_58 c8_59 c8_60 ⊢
    repeat (first | refine gp rfl rfl rfl ?_ | refine ggf rfl (by assumption) (by rfl) ?_ | refine gal rfl (by assumption) (by rfl) (by omega) (by omega) ?_ | refine gil rfl (by assumption) (by rfl) (by omega) (by omega) ?_ | refine gbl rfl (by assumption) (by rfl) (by omega) (by omega) ?_ | refine gln rfl (xlen_i (by assumption)) ?_ | refine gln rfl (xlen_q (by assumption)) ?_)
    have e8 : σ8.2.1 = 61 := by rw [n8]
    refine gna (n := 76) rfl rfl (by decide) ?_
    refine gpf rfl (show (xnew σ8 _ 76).1 52 = _ by rw [xnew_ne (by omega)]; exact o8) (Nat.le_of_ble_eq_true rfl) rfl ?_
    rw [e8]
    obtain ⟨o9, b9, n9, d9⟩ := st_new (m := 76) (e := .inl (1, 76, fun _ => 0)) (o := .inr (.inr (7, [.inl 0, .inl 0, .inl 0, .inr (some 53), .inr (some 54), .inr (some 55), .inr (some 56), .inr (some 57), .inr (some 58), .inr (some 59), .inr (some 60), .inr (some 61), .inl 0, .inl 0, .inl 0, .inl 0, .inl 0, .inl 0, .inl 0, .inr none]))) n8 (q := 52) (by decide)
    show xGo (xEx d) xtb_89 K (82, [some (.inr (some 52)), some (.inl x), none], [], xup (xnew σ8 (.inl (1, 76, fun _ => 0)) 76) 52 (.inr (.inr (7, [.inl 0, .inl 0, .inl 0, .inr (some 53), .inr (some 54), .inr (some 55), .inr (some 56), .inr (some 57), .inr (some 58), .inr (some 59), .inr (some 60), .inr (some 61), .inl 0, .inl 0, .inl 0, .inl 0, .inl 0, .inl 0, .inl 0, .inr none]))))
    have F9 : ∀ k, (k < 52 ∨ 62 < k) → (xup (xnew σ8 (.inl (1, 76, fun _ => 0)) 76) 52 (.inr (.inr (7, [.inl 0, .inl 0, .inl 0, .inr (some 53), .inr (some 54), .inr (some 55), .inr (some 56), .inr (some 57), .inr (some 58), .inr (some 59), .inr (some 60), .inr (some 61), .inl 0, .inl 0, .inl 0, .inl 0, .inl 0, .inl 0, .inl 0, .inr none])))).1 k = σ.1 k := fun k hk => (d9 k (by omega) (by omega)).trans (F8 k hk)
    have c9_53 := (d9 53 (by decide) (by decide)).trans c8_53
    have c9_54 := (d9 54 (by decide) (by decide)).trans c8_54
    have c9_55 := (d9 55 (by decide) (by decide)).trans c8_55
    have c9_56 := (d9 56 (by decide) (by decide)).trans c8_56
    have c9_57 := (d9 57 (by decide) (by decide)).trans c8_57
    have c9_58 := (d9 58 (by decide) (by decide)).trans c8_58
    have c9_59 := (d9 59 (by decide) (by decide)).trans c8_59
    have c9_60 := (d9 60 (by decide) (by decide)).trans c8_60
    have c9_61 := b9
    clear b9 d9
    generalize xup (xnew σ8 (.inl (1, 76, fun _ => 0)) 76) 52 (.inr (.inr (7, [.inl 0, .inl 0, .inl 0, .inr (some 53), .inr (some 54), .inr (some 55), .inr (some 56), .inr (some 57), .inr (some 58), .inr (some 59), .inr (some 60), .inr (some 61), .inl 0, .inl 0, .inl 0, .inl 0, .inl 0, .inl 0, .inl 0, .inr none]))) = σ9 at o9 n9 F9 c9_53 c9_54 c9_55 c9_56 c9_57 c9_58 c9_59 c9_60 c9_61 ⊢
    repeat (first | refine gp rfl rfl rfl ?_ | refine ggf rfl (by assumption) (by rfl) ?_ | refine gal rfl (by assumption) (by rfl) (by omega) (by omega) ?_ | refine gil rfl (by assumption) (by rfl) (by omega) (by omega) ?_ | refine gbl rfl (by assumption) (by rfl) (by omega) (by omega) ?_ | refine gln rfl (xlen_i (by assumption)) ?_ | refine gln rfl (xlen_q (by assumption)) ?_)
    have e9 : σ9.2.1 = 62 := by rw [n9]
    refine gna (n := 16) rfl rfl (by decide) ?_
    refine gpf rfl (show (xnew σ9 _ 16).1 52 = _ by rw [xnew_ne (by omega)]; exact o9) (Nat.le_of_ble_eq_true rfl) rfl ?_
    rw [e9]
    obtain ⟨o10, b10, n10, d10⟩ := st_new (m := 16) (e := .inl (0, 16, fun _ => 0)) (o := .inr (.inr (7, [.inl 0, .inl 0, .inl 0, .inr (some 53), .inr (some 54), .inr (some 55), .inr (some 56), .inr (some 57), .inr (some 58), .inr (some 59), .inr (some 60), .inr (some 61), .inl 0, .inl 0, .inl 0, .inl 0, .inl 0, .inl 0, .inl 0, .inr (some 62)]))) n9 (q := 52) (by decide)
    show xGo (xEx d) xtb_89 K (90, [some (.inr (some 52)), some (.inl x), none], [], xup (xnew σ9 (.inl (0, 16, fun _ => 0)) 16) 52 (.inr (.inr (7, [.inl 0, .inl 0, .inl 0, .inr (some 53), .inr (some 54), .inr (some 55), .inr (some 56), .inr (some 57), .inr (some 58), .inr (some 59), .inr (some 60), .inr (some 61), .inl 0, .inl 0, .inl 0, .inl 0, .inl 0, .inl 0, .inl 0, .inr (some 62)]))))
    have F10 : ∀ k, (k < 52 ∨ 62 < k) → (xup (xnew σ9 (.inl (0, 16, fun _ => 0)) 16) 52 (.inr (.inr (7, [.inl 0, .inl 0, .inl 0, .inr (some 53), .inr (some 54), .inr (some 55), .inr (some 56), .inr (some 57), .inr (some 58), .inr (some 59), .inr (some 60), .inr (some 61), .inl 0, .inl 0, .inl 0, .inl 0, .inl 0, .inl 0, .inl 0, .inr (some 62)])))).1 k = σ.1 k := fun k hk => (d10 k (by omega) (by omega)).trans (F9 k hk)
    have c10_53 := (d10 53 (by decide) (by decide)).trans c9_53
    have c10_54 := (d10 54 (by decide) (by decide)).trans c9_54
    have c10_55 := (d10 55 (by decide) (by decide)).trans c9_55
    have c10_56 := (d10 56 (by decide) (by decide)).trans c9_56
    have c10_57 := (d10 57 (by decide) (by decide)).trans c9_57
    have c10_58 := (d10 58 (by decide) (by decide)).trans c9_58
    have c10_59 := (d10 59 (by decide) (by decide)).trans c9_59
    have c10_60 := (d10 60 (by decide) (by decide)).trans c9_60
    have c10_61 := (d10 61 (by decide) (by decide)).trans c9_61
    have c10_62 := b10
    clear b10 d10
    generalize xup (xnew σ9 (.inl (0, 16, fun _ => 0)) 16) 52 (.inr (.inr (7, [.inl 0, .inl 0, .inl 0, .inr (some 53), .inr (some 54), .inr (some 55), .inr (some 56), .inr (some 57), .inr (some 58), .inr (some 59), .inr (some 60), .inr (some 61), .inl 0, .inl 0, .inl 0, .inl 0, .inl 0, .inl 0, .inl 0, .inr (some 62)]))) = σ10 at o10 n10 F10 c10_53 c10_54 c10_55 c10_56 c10_57 c10_58 c10_59 c10_60 c10_61 c10_62 ⊢
    have fin : σ10 = mU (σ.1, 63, s + 12972) (fun _ => 0) (fun _ _ => 0) := by
      refine Prod.ext (funext fun k => ?_) ?_
      · by_cases hr : 51 < k ∧ k < 63
        · have hk : k = 52 ∨ k = 53 ∨ k = 54 ∨ k = 55 ∨ k = 56 ∨ k = 57 ∨ k = 58 ∨ k = 59 ∨ k = 60 ∨ k = 61 ∨ k = 62 := by omega
          rcases hk with rfl | rfl | rfl | rfl | rfl | rfl | rfl | rfl | rfl | rfl | rfl
          · exact o10
          · exact c10_53
          · exact c10_54
          · exact c10_55
          · exact c10_56
          · exact c10_57
          · exact c10_58
          · exact c10_59
          · exact c10_60
          · exact c10_61
          · exact c10_62
        · rw [mU_out (by omega)]
          exact F10 k (by omega)
      · have q : s + 448 + 448 + 11520 + 128 + 128 + 128 + 16 + 64 + 76 + 16 = s + 12972 := by omega
        rw [q] at n10
        exact n10
    rw [fin]
    exact rest
  obtain ⟨r, σ', hex, rfl, I, A, rfl, g⟩ := ex_of (d := d) (y := 89) (as := [.inr (some 52), .inl x]) (σ := σ) (K := K) (by decide) rfl main
  exact ⟨I, A, hex, g⟩
theorem l_cell (d : Nat) {σ : xS} {L : Nat} {xs : Nat → Int32} (h : σ.1 0 = some (.inl (0, L, xs))) (hL : L ≤ 2561) : ∃ v, xEx (d + 1) 142 [.inr (some 0), .inl (nI 0)] σ (some (.inl v)) σ := by
  by_cases hz : L = 0
  · refine ⟨nI 0, by decide, rfl, ?_⟩
    show xGo (xEx d) xtb_142 _ (0, [some (.inr (some 0)), some (.inl (nI 0))], [], σ)
    repeat (first | refine gp rfl rfl rfl ?_ | refine ggf rfl (by assumption) (by rfl) ?_ | refine gal rfl (by assumption) (by rfl) (by omega) (by omega) ?_ | refine gil rfl (by assumption) (by rfl) (by omega) (by omega) ?_ | refine gbl rfl (by assumption) (by rfl) (by omega) (by omega) ?_ | refine gln rfl (xlen_i (by assumption)) ?_ | refine gln rfl (xlen_q (by assumption)) ?_)
    first | refine gtN rfl (by omega) (by omega) (xN_ge (by omega)) ?_ | refine gtN rfl (by omega) (by omega) (xN_lt (by omega)) ?_ | refine gtN rfl (by omega) (by omega) (xN_eq (by omega)) ?_ | refine gtN rfl (by omega) (by omega) (xN_ne (by omega)) ?_ | refine gtN rfl (by omega) (by omega) (xN_gt (by omega)) ?_ | refine gtN rfl (by omega) (by omega) (xN_le (by omega)) ?_
    repeat (first | refine gp rfl rfl rfl ?_ | refine ggf rfl (by assumption) (by rfl) ?_ | refine gal rfl (by assumption) (by rfl) (by omega) (by omega) ?_ | refine gil rfl (by assumption) (by rfl) (by omega) (by omega) ?_ | refine gbl rfl (by assumption) (by rfl) (by omega) (by omega) ?_ | refine gln rfl (xlen_i (by assumption)) ?_ | refine gln rfl (xlen_q (by assumption)) ?_)
    exact gri rfl (fun h => absurd h (by decide)) ⟨rfl, rfl⟩
  · refine ⟨xs 0, by decide, rfl, ?_⟩
    show xGo (xEx d) xtb_142 _ (0, [some (.inr (some 0)), some (.inl (nI 0))], [], σ)
    repeat (first | refine gp rfl rfl rfl ?_ | refine ggf rfl (by assumption) (by rfl) ?_ | refine gal rfl (by assumption) (by rfl) (by omega) (by omega) ?_ | refine gil rfl (by assumption) (by rfl) (by omega) (by omega) ?_ | refine gbl rfl (by assumption) (by rfl) (by omega) (by omega) ?_ | refine gln rfl (xlen_i (by assumption)) ?_ | refine gln rfl (xlen_q (by assumption)) ?_)
    first | refine gfN rfl (by omega) (by omega) (nN_ge (by omega)) ?_ | refine gfN rfl (by omega) (by omega) (nN_lt (by omega)) ?_ | refine gfN rfl (by omega) (by omega) (nN_eq (by omega)) ?_ | refine gfN rfl (by omega) (by omega) (nN_ne (by omega)) ?_ | refine gfN rfl (by omega) (by omega) (nN_gt (by omega)) ?_ | refine gfN rfl (by omega) (by omega) (nN_le (by omega)) ?_
    repeat (first | refine gp rfl rfl rfl ?_ | refine ggf rfl (by assumption) (by rfl) ?_ | refine gal rfl (by assumption) (by rfl) (by omega) (by omega) ?_ | refine gil rfl (by assumption) (by rfl) (by omega) (by omega) ?_ | refine gbl rfl (by assumption) (by rfl) (by omega) (by omega) ?_ | refine gln rfl (xlen_i (by assumption)) ?_ | refine gln rfl (xlen_q (by assumption)) ?_)
    exact gri rfl (fun h => absurd h (by decide)) ⟨rfl, rfl⟩
