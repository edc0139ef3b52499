/-! MODULE: the law's loop -/
theorem gts {E : Nat → List xV → xS → Option xV → xS → Prop} {tb : List xI} {K : Option xV → xS → Prop} {pc len a b w : Nat} {ls : xL} {st : List xV} {σ : xS} {d lo hi : Int} {offs : Array Int} {m t : Nat} (hk : xfd tb pc = some (pc, .tableswitch d lo hi offs, len, a, b, w)) (hm : m < 2147483648) (h : (((m : Int) < lo ∨ hi < (m : Int)) ∧ (pc : Int) + d = (t : Int)) ∨ (¬ (m : Int) < lo ∧ ¬ hi < (m : Int) ∧ ∃ off : Int, offs[((m : Int) - lo).toNat]? = some off ∧ (pc : Int) + off = (t : Int))) (g : xGo E tb K (t, ls, st, σ)) : xGo E tb K (pc, ls, .inl (nI m) :: st, σ) := by
  refine g0 hk (o := .inl (t, ls, st, σ)) ⟨t, ?_, rfl⟩ g
  rw [nI_toInt hm]
  exact h
theorem cTh_ok (x : Int32) : ∃ th, 1 ≤ th ∧ th ≤ 100 ∧ cTh x = nI th := by
  unfold cTh
  by_cases h : nI 1 ≤ x ∧ x ≤ nI 100
  · rw [if_pos h]
    have h0 : ¬ x < 0 := fun z => absurd (Int32.lt_of_le_of_lt h.1 z) (by decide)
    obtain ⟨j, hj, rfl⟩ := nI_of h0
    exact ⟨j, (nI_leI (by decide) hj).mp h.1, (nI_leI hj (by decide)).mp h.2, rfl⟩
  · rw [if_neg h]
    exact ⟨50, by decide, by decide, rfl⟩
theorem LI.s {L : Nat} {xs : Nat → Int32} {τ : xS} {c : Nat} (h : LI L xs τ c) : τ.1 0 = some (.inl (0, L, xs)) := by
  obtain ⟨Ts, V, C, th, st, mg, D1, D2, I, A, h1, h2, h3, h4, h5, h6, h7, h8, h9, h10, h11, h12, h13⟩ := h
  exact h11
theorem LI.b {L : Nat} {xs : Nat → Int32} {τ : xS} {c : Nat} (h : LI L xs τ c) : τ.2.1 ≤ 63 + 256 * c ∧ τ.2.2 ≤ 15100 + 9984 * c := by
  obtain ⟨Ts, V, C, th, st, mg, D1, D2, I, A, h1, h2, h3, h4, h5, h6, h7, h8, h9, h10, h11, h12, h13⟩ := h
  exact ⟨h12, h13⟩
set_option maxRecDepth 100000 in
theorem w_drop {L : Nat} {xs : Nat → Int32} {τ : xS} {c i : Nat} (h : LI L xs τ c) (hi : i + 5 ≤ L) (hL : L ≤ 2561) (next : ∀ τ2, LI L xs τ2 (c + 1) → xGo (xEx 9) xtb_143 xEnd (691, [some (.inr (some 0)), some (.inr (some 2)), some (.inr (some 52)), some (.inl (nI i))], [], τ2)) : xGo (xEx 9) xtb_143 xEnd (193, [some (.inr (some 0)), some (.inr (some 2)), some (.inr (some 52)), some (.inl (nI i))], [], τ) := by
  have s0 := h.s
  obtain ⟨v, τ1, τ2, fs, gs, e1, e2, e3, e4, e5, e6⟩ := b_drop h (xs (i + 1)) (xs (i + 2))
  repeat (first | refine gkn rfl rfl ?_ | refine gkm rfl rfl ?_ | refine gad rfl ?_ | refine gml rfl ?_ | refine gsb rfl (by omega) ?_ | refine gdv rfl (by omega) (by omega) (by omega) ?_ | refine grm rfl (by omega) (by omega) (by omega) ?_ | refine gic rfl rfl ?_ | refine gp rfl rfl rfl ?_ | refine gFl rfl (by rfl) ?_ | refine gAl rfl rfl (by rfl) (by omega) ?_ | refine gBl rfl rfl (by rfl) (by omega) ?_ | refine gil rfl (by assumption) (by rfl) (by omega) (by omega) ?_ | refine gln rfl (xlen_i (by assumption)) ?_)
  refine gcv (As := [.inl (xs (i + 1)), .inl (xs (i + 2))]) (rest := []) rfl (by decide) e1 e3 rfl rfl (by decide) ?_
  repeat (first | refine gkn rfl rfl ?_ | refine gkm rfl rfl ?_ | refine gad rfl ?_ | refine gml rfl ?_ | refine gsb rfl (by omega) ?_ | refine gdv rfl (by omega) (by omega) (by omega) ?_ | refine grm rfl (by omega) (by omega) (by omega) ?_ | refine gic rfl rfl ?_ | refine gp rfl rfl rfl ?_ | refine gFl rfl (by rfl) ?_ | refine gAl rfl rfl (by rfl) (by omega) ?_ | refine gBl rfl rfl (by rfl) (by omega) ?_ | refine gil rfl (by assumption) (by rfl) (by omega) (by omega) ?_ | refine gln rfl (xlen_i (by assumption)) ?_)
  refine gcv (As := [.inl (xs (i + 1)), .inl (xs (i + 2))]) (rest := [.inl v]) rfl (by decide) e2 e4 rfl rfl (Nat.le_of_ble_eq_true rfl) ?_
  refine gct rfl (show v = v from rfl) ?_
  exact next τ2 e6
set_option maxRecDepth 100000 in
theorem w_copy {L : Nat} {xs : Nat → Int32} {τ : xS} {c i : Nat} (h : LI L xs τ c) (hi : i + 5 ≤ L) (hL : L ≤ 2561) (next : ∀ τ2, LI L xs τ2 (c + 1) → xGo (xEx 9) xtb_143 xEnd (691, [some (.inr (some 0)), some (.inr (some 2)), some (.inr (some 52)), some (.inl (nI i))], [], τ2)) : xGo (xEx 9) xtb_143 xEnd (226, [some (.inr (some 0)), some (.inr (some 2)), some (.inr (some 52)), some (.inl (nI i))], [], τ) := by
  have s0 := h.s
  obtain ⟨v, τ1, τ2, fs, gs, e1, e2, e3, e4, e5, e6⟩ := b_copy h (xs (i + 1)) (xs (i + 2))
  repeat (first | refine gkn rfl rfl ?_ | refine gkm rfl rfl ?_ | refine gad rfl ?_ | refine gml rfl ?_ | refine gsb rfl (by omega) ?_ | refine gdv rfl (by omega) (by omega) (by omega) ?_ | refine grm rfl (by omega) (by omega) (by omega) ?_ | refine gic rfl rfl ?_ | refine gp rfl rfl rfl ?_ | refine gFl rfl (by rfl) ?_ | refine gAl rfl rfl (by rfl) (by omega) ?_ | refine gBl rfl rfl (by rfl) (by omega) ?_ | refine gil rfl (by assumption) (by rfl) (by omega) (by omega) ?_ | refine gln rfl (xlen_i (by assumption)) ?_)
  refine gcv (As := [.inl (xs (i + 1)), .inl (xs (i + 2))]) (rest := []) rfl (by decide) e1 e3 rfl rfl (by decide) ?_
  repeat (first | refine gkn rfl rfl ?_ | refine gkm rfl rfl ?_ | refine gad rfl ?_ | refine gml rfl ?_ | refine gsb rfl (by omega) ?_ | refine gdv rfl (by omega) (by omega) (by omega) ?_ | refine grm rfl (by omega) (by omega) (by omega) ?_ | refine gic rfl rfl ?_ | refine gp rfl rfl rfl ?_ | refine gFl rfl (by rfl) ?_ | refine gAl rfl rfl (by rfl) (by omega) ?_ | refine gBl rfl rfl (by rfl) (by omega) ?_ | refine gil rfl (by assumption) (by rfl) (by omega) (by omega) ?_ | refine gln rfl (xlen_i (by assumption)) ?_)
  refine gcv (As := [.inl (xs (i + 1)), .inl (xs (i + 2))]) (rest := [.inl v]) rfl (by decide) e2 e4 rfl rfl (Nat.le_of_ble_eq_true rfl) ?_
  refine gct rfl (show v = v from rfl) ?_
  exact next τ2 e6
set_option maxRecDepth 100000 in
theorem w_adopt {L : Nat} {xs : Nat → Int32} {τ : xS} {c i : Nat} (h : LI L xs τ c) (hi : i + 5 ≤ L) (hL : L ≤ 2561) (next : ∀ τ2, LI L xs τ2 (c + 1) → xGo (xEx 9) xtb_143 xEnd (691, [some (.inr (some 0)), some (.inr (some 2)), some (.inr (some 52)), some (.inl (nI i))], [], τ2)) : xGo (xEx 9) xtb_143 xEnd (259, [some (.inr (some 0)), some (.inr (some 2)), some (.inr (some 52)), some (.inl (nI i))], [], τ) := by
  have s0 := h.s
  obtain ⟨v, τ1, τ2, fs, gs, e1, e2, e3, e4, e5, e6⟩ := b_adopt h (xs (i + 1))
  repeat (first | refine gkn rfl rfl ?_ | refine gkm rfl rfl ?_ | refine gad rfl ?_ | refine gml rfl ?_ | refine gsb rfl (by omega) ?_ | refine gdv rfl (by omega) (by omega) (by omega) ?_ | refine grm rfl (by omega) (by omega) (by omega) ?_ | refine gic rfl rfl ?_ | refine gp rfl rfl rfl ?_ | refine gFl rfl (by rfl) ?_ | refine gAl rfl rfl (by rfl) (by omega) ?_ | refine gBl rfl rfl (by rfl) (by omega) ?_ | refine gil rfl (by assumption) (by rfl) (by omega) (by omega) ?_ | refine gln rfl (xlen_i (by assumption)) ?_)
  refine gcv (As := [.inl (xs (i + 1))]) (rest := []) rfl (by decide) e1 e3 rfl rfl (by decide) ?_
  repeat (first | refine gkn rfl rfl ?_ | refine gkm rfl rfl ?_ | refine gad rfl ?_ | refine gml rfl ?_ | refine gsb rfl (by omega) ?_ | refine gdv rfl (by omega) (by omega) (by omega) ?_ | refine grm rfl (by omega) (by omega) (by omega) ?_ | refine gic rfl rfl ?_ | refine gp rfl rfl rfl ?_ | refine gFl rfl (by rfl) ?_ | refine gAl rfl rfl (by rfl) (by omega) ?_ | refine gBl rfl rfl (by rfl) (by omega) ?_ | refine gil rfl (by assumption) (by rfl) (by omega) (by omega) ?_ | refine gln rfl (xlen_i (by assumption)) ?_)
  refine gcv (As := [.inl (xs (i + 1))]) (rest := [.inl v]) rfl (by decide) e2 e4 rfl rfl (Nat.le_of_ble_eq_true rfl) ?_
  refine gct rfl (show v = v from rfl) ?_
  exact next τ2 e6
set_option maxRecDepth 100000 in
theorem w_style {L : Nat} {xs : Nat → Int32} {τ : xS} {c i : Nat} (h : LI L xs τ c) (hi : i + 5 ≤ L) (hL : L ≤ 2561) (next : ∀ τ2, LI L xs τ2 (c + 1) → xGo (xEx 9) xtb_143 xEnd (691, [some (.inr (some 0)), some (.inr (some 2)), some (.inr (some 52)), some (.inl (nI i))], [], τ2)) : xGo (xEx 9) xtb_143 xEnd (282, [some (.inr (some 0)), some (.inr (some 2)), some (.inr (some 52)), some (.inl (nI i))], [], τ) := by
  have s0 := h.s
  obtain ⟨v, τ1, τ2, fs, gs, e1, e2, e3, e4, e5, e6⟩ := b_style h (xs (i + 1))
  repeat (first | refine gkn rfl rfl ?_ | refine gkm rfl rfl ?_ | refine gad rfl ?_ | refine gml rfl ?_ | refine gsb rfl (by omega) ?_ | refine gdv rfl (by omega) (by omega) (by omega) ?_ | refine grm rfl (by omega) (by omega) (by omega) ?_ | refine gic rfl rfl ?_ | refine gp rfl rfl rfl ?_ | refine gFl rfl (by rfl) ?_ | refine gAl rfl rfl (by rfl) (by omega) ?_ | refine gBl rfl rfl (by rfl) (by omega) ?_ | refine gil rfl (by assumption) (by rfl) (by omega) (by omega) ?_ | refine gln rfl (xlen_i (by assumption)) ?_)
  refine gcv (As := [.inl (xs (i + 1))]) (rest := []) rfl (by decide) e1 e3 rfl rfl (by decide) ?_
  repeat (first | refine gkn rfl rfl ?_ | refine gkm rfl rfl ?_ | refine gad rfl ?_ | refine gml rfl ?_ | refine gsb rfl (by omega) ?_ | refine gdv rfl (by omega) (by omega) (by omega) ?_ | refine grm rfl (by omega) (by omega) (by omega) ?_ | refine gic rfl rfl ?_ | refine gp rfl rfl rfl ?_ | refine gFl rfl (by rfl) ?_ | refine gAl rfl rfl (by rfl) (by omega) ?_ | refine gBl rfl rfl (by rfl) (by omega) ?_ | refine gil rfl (by assumption) (by rfl) (by omega) (by omega) ?_ | refine gln rfl (xlen_i (by assumption)) ?_)
  refine gcv (As := [.inl (xs (i + 1))]) (rest := [.inl v]) rfl (by decide) e2 e4 rfl rfl (Nat.le_of_ble_eq_true rfl) ?_
  refine gct rfl (show v = v from rfl) ?_
  exact next τ2 e6
set_option maxRecDepth 100000 in
theorem w_merge {L : Nat} {xs : Nat → Int32} {τ : xS} {c i : Nat} (h : LI L xs τ c) (hi : i + 5 ≤ L) (hL : L ≤ 2561) (next : ∀ τ2, LI L xs τ2 (c + 1) → xGo (xEx 9) xtb_143 xEnd (691, [some (.inr (some 0)), some (.inr (some 2)), some (.inr (some 52)), some (.inl (nI i))], [], τ2)) : xGo (xEx 9) xtb_143 xEnd (305, [some (.inr (some 0)), some (.inr (some 2)), some (.inr (some 52)), some (.inl (nI i))], [], τ) := by
  have s0 := h.s
  obtain ⟨v, τ1, τ2, fs, gs, e1, e2, e3, e4, e5, e6⟩ := b_merge h 
  repeat (first | refine gkn rfl rfl ?_ | refine gkm rfl rfl ?_ | refine gad rfl ?_ | refine gml rfl ?_ | refine gsb rfl (by omega) ?_ | refine gdv rfl (by omega) (by omega) (by omega) ?_ | refine grm rfl (by omega) (by omega) (by omega) ?_ | refine gic rfl rfl ?_ | refine gp rfl rfl rfl ?_ | refine gFl rfl (by rfl) ?_ | refine gAl rfl rfl (by rfl) (by omega) ?_ | refine gBl rfl rfl (by rfl) (by omega) ?_ | refine gil rfl (by assumption) (by rfl) (by omega) (by omega) ?_ | refine gln rfl (xlen_i (by assumption)) ?_)
  refine gcv (As := []) (rest := []) rfl (by decide) e1 e3 rfl rfl (by decide) ?_
  repeat (first | refine gkn rfl rfl ?_ | refine gkm rfl rfl ?_ | refine gad rfl ?_ | refine gml rfl ?_ | refine gsb rfl (by omega) ?_ | refine gdv rfl (by omega) (by omega) (by omega) ?_ | refine grm rfl (by omega) (by omega) (by omega) ?_ | refine gic rfl rfl ?_ | refine gp rfl rfl rfl ?_ | refine gFl rfl (by rfl) ?_ | refine gAl rfl rfl (by rfl) (by omega) ?_ | refine gBl rfl rfl (by rfl) (by omega) ?_ | refine gil rfl (by assumption) (by rfl) (by omega) (by omega) ?_ | refine gln rfl (xlen_i (by assumption)) ?_)
  refine gcv (As := []) (rest := [.inl v]) rfl (by decide) e2 e4 rfl rfl (Nat.le_of_ble_eq_true rfl) ?_
  refine gct rfl (show v = v from rfl) ?_
  exact next τ2 e6
set_option maxRecDepth 100000 in
theorem w_size {L : Nat} {xs : Nat → Int32} {τ : xS} {c i : Nat} (h : LI L xs τ c) (hi : i + 5 ≤ L) (hL : L ≤ 2561) (next : ∀ τ2, LI L xs τ2 (c + 1) → xGo (xEx 9) xtb_143 xEnd (691, [some (.inr (some 0)), some (.inr (some 2)), some (.inr (some 52)), some (.inl (nI i))], [], τ2)) : xGo (xEx 9) xtb_143 xEnd (318, [some (.inr (some 0)), some (.inr (some 2)), some (.inr (some 52)), some (.inl (nI i))], [], τ) := by
  have s0 := h.s
  obtain ⟨v, τ1, τ2, fs, gs, e1, e2, e3, e4, e5, e6⟩ := b_size h (xs (i + 1))
  repeat (first | refine gkn rfl rfl ?_ | refine gkm rfl rfl ?_ | refine gad rfl ?_ | refine gml rfl ?_ | refine gsb rfl (by omega) ?_ | refine gdv rfl (by omega) (by omega) (by omega) ?_ | refine grm rfl (by omega) (by omega) (by omega) ?_ | refine gic rfl rfl ?_ | refine gp rfl rfl rfl ?_ | refine gFl rfl (by rfl) ?_ | refine gAl rfl rfl (by rfl) (by omega) ?_ | refine gBl rfl rfl (by rfl) (by omega) ?_ | refine gil rfl (by assumption) (by rfl) (by omega) (by omega) ?_ | refine gln rfl (xlen_i (by assumption)) ?_)
  refine gcv (As := [.inl (xs (i + 1))]) (rest := []) rfl (by decide) e1 e3 rfl rfl (by decide) ?_
  repeat (first | refine gkn rfl rfl ?_ | refine gkm rfl rfl ?_ | refine gad rfl ?_ | refine gml rfl ?_ | refine gsb rfl (by omega) ?_ | refine gdv rfl (by omega) (by omega) (by omega) ?_ | refine grm rfl (by omega) (by omega) (by omega) ?_ | refine gic rfl rfl ?_ | refine gp rfl rfl rfl ?_ | refine gFl rfl (by rfl) ?_ | refine gAl rfl rfl (by rfl) (by omega) ?_ | refine gBl rfl rfl (by rfl) (by omega) ?_ | refine gil rfl (by assumption) (by rfl) (by omega) (by omega) ?_ | refine gln rfl (xlen_i (by assumption)) ?_)
  refine gcv (As := [.inl (xs (i + 1))]) (rest := [.inl v]) rfl (by decide) e2 e4 rfl rfl (Nat.le_of_ble_eq_true rfl) ?_
  refine gct rfl (show v = v from rfl) ?_
  exact next τ2 e6
set_option maxRecDepth 100000 in
theorem w_kind {L : Nat} {xs : Nat → Int32} {τ : xS} {c i : Nat} (h : LI L xs τ c) (hi : i + 5 ≤ L) (hL : L ≤ 2561) (next : ∀ τ2, LI L xs τ2 (c + 1) → xGo (xEx 9) xtb_143 xEnd (691, [some (.inr (some 0)), some (.inr (some 2)), some (.inr (some 52)), some (.inl (nI i))], [], τ2)) : xGo (xEx 9) xtb_143 xEnd (341, [some (.inr (some 0)), some (.inr (some 2)), some (.inr (some 52)), some (.inl (nI i))], [], τ) := by
  have s0 := h.s
  obtain ⟨v, τ1, τ2, fs, gs, e1, e2, e3, e4, e5, e6⟩ := b_kind h (xs (i + 1)) (xs (i + 2))
  repeat (first | refine gkn rfl rfl ?_ | refine gkm rfl rfl ?_ | refine gad rfl ?_ | refine gml rfl ?_ | refine gsb rfl (by omega) ?_ | refine gdv rfl (by omega) (by omega) (by omega) ?_ | refine grm rfl (by omega) (by omega) (by omega) ?_ | refine gic rfl rfl ?_ | refine gp rfl rfl rfl ?_ | refine gFl rfl (by rfl) ?_ | refine gAl rfl rfl (by rfl) (by omega) ?_ | refine gBl rfl rfl (by rfl) (by omega) ?_ | refine gil rfl (by assumption) (by rfl) (by omega) (by omega) ?_ | refine gln rfl (xlen_i (by assumption)) ?_)
  refine gcv (As := [.inl (xs (i + 1)), .inl (xs (i + 2))]) (rest := []) rfl (by decide) e1 e3 rfl rfl (by decide) ?_
  repeat (first | refine gkn rfl rfl ?_ | refine gkm rfl rfl ?_ | refine gad rfl ?_ | refine gml rfl ?_ | refine gsb rfl (by omega) ?_ | refine gdv rfl (by omega) (by omega) (by omega) ?_ | refine grm rfl (by omega) (by omega) (by omega) ?_ | refine gic rfl rfl ?_ | refine gp rfl rfl rfl ?_ | refine gFl rfl (by rfl) ?_ | refine gAl rfl rfl (by rfl) (by omega) ?_ | refine gBl rfl rfl (by rfl) (by omega) ?_ | refine gil rfl (by assumption) (by rfl) (by omega) (by omega) ?_ | refine gln rfl (xlen_i (by assumption)) ?_)
  refine gcv (As := [.inl (xs (i + 1)), .inl (xs (i + 2))]) (rest := [.inl v]) rfl (by decide) e2 e4 rfl rfl (Nat.le_of_ble_eq_true rfl) ?_
  refine gct rfl (show v = v from rfl) ?_
  exact next τ2 e6
set_option maxRecDepth 100000 in
theorem w_length {L : Nat} {xs : Nat → Int32} {τ : xS} {c i : Nat} (h : LI L xs τ c) (hi : i + 5 ≤ L) (hL : L ≤ 2561) (next : ∀ τ2, LI L xs τ2 (c + 1) → xGo (xEx 9) xtb_143 xEnd (691, [some (.inr (some 0)), some (.inr (some 2)), some (.inr (some 52)), some (.inl (nI i))], [], τ2)) : xGo (xEx 9) xtb_143 xEnd (374, [some (.inr (some 0)), some (.inr (some 2)), some (.inr (some 52)), some (.inl (nI i))], [], τ) := by
  have s0 := h.s
  obtain ⟨v, τ1, τ2, fs, gs, e1, e2, e3, e4, e5, e6⟩ := b_length h (xs (i + 1)) (xs (i + 2))
  repeat (first | refine gkn rfl rfl ?_ | refine gkm rfl rfl ?_ | refine gad rfl ?_ | refine gml rfl ?_ | refine gsb rfl (by omega) ?_ | refine gdv rfl (by omega) (by omega) (by omega) ?_ | refine grm rfl (by omega) (by omega) (by omega) ?_ | refine gic rfl rfl ?_ | refine gp rfl rfl rfl ?_ | refine gFl rfl (by rfl) ?_ | refine gAl rfl rfl (by rfl) (by omega) ?_ | refine gBl rfl rfl (by rfl) (by omega) ?_ | refine gil rfl (by assumption) (by rfl) (by omega) (by omega) ?_ | refine gln rfl (xlen_i (by assumption)) ?_)
  refine gcv (As := [.inl (xs (i + 1)), .inl (xs (i + 2))]) (rest := []) rfl (by decide) e1 e3 rfl rfl (by decide) ?_
  repeat (first | refine gkn rfl rfl ?_ | refine gkm rfl rfl ?_ | refine gad rfl ?_ | refine gml rfl ?_ | refine gsb rfl (by omega) ?_ | refine gdv rfl (by omega) (by omega) (by omega) ?_ | refine grm rfl (by omega) (by omega) (by omega) ?_ | refine gic rfl rfl ?_ | refine gp rfl rfl rfl ?_ | refine gFl rfl (by rfl) ?_ | refine gAl rfl rfl (by rfl) (by omega) ?_ | refine gBl rfl rfl (by rfl) (by omega) ?_ | refine gil rfl (by assumption) (by rfl) (by omega) (by omega) ?_ | refine gln rfl (xlen_i (by assumption)) ?_)
  refine gcv (As := [.inl (xs (i + 1)), .inl (xs (i + 2))]) (rest := [.inl v]) rfl (by decide) e2 e4 rfl rfl (Nat.le_of_ble_eq_true rfl) ?_
  refine gct rfl (show v = v from rfl) ?_
  exact next τ2 e6
set_option maxRecDepth 100000 in
theorem w_line {L : Nat} {xs : Nat → Int32} {τ : xS} {c i : Nat} (h : LI L xs τ c) (hi : i + 5 ≤ L) (hL : L ≤ 2561) (next : ∀ τ2, LI L xs τ2 (c + 1) → xGo (xEx 9) xtb_143 xEnd (691, [some (.inr (some 0)), some (.inr (some 2)), some (.inr (some 52)), some (.inl (nI i))], [], τ2)) : xGo (xEx 9) xtb_143 xEnd (407, [some (.inr (some 0)), some (.inr (some 2)), some (.inr (some 52)), some (.inl (nI i))], [], τ) := by
  have s0 := h.s
  obtain ⟨v, τ1, τ2, fs, gs, e1, e2, e3, e4, e5, e6⟩ := b_line h (xs (i + 1)) (xs (i + 2)) (xs (i + 3))
  repeat (first | refine gkn rfl rfl ?_ | refine gkm rfl rfl ?_ | refine gad rfl ?_ | refine gml rfl ?_ | refine gsb rfl (by omega) ?_ | refine gdv rfl (by omega) (by omega) (by omega) ?_ | refine grm rfl (by omega) (by omega) (by omega) ?_ | refine gic rfl rfl ?_ | refine gp rfl rfl rfl ?_ | refine gFl rfl (by rfl) ?_ | refine gAl rfl rfl (by rfl) (by omega) ?_ | refine gBl rfl rfl (by rfl) (by omega) ?_ | refine gil rfl (by assumption) (by rfl) (by omega) (by omega) ?_ | refine gln rfl (xlen_i (by assumption)) ?_)
  refine gcv (As := [.inl (xs (i + 1)), .inl (xs (i + 2)), .inl (xs (i + 3))]) (rest := []) rfl (by decide) e1 e3 rfl rfl (by decide) ?_
  repeat (first | refine gkn rfl rfl ?_ | refine gkm rfl rfl ?_ | refine gad rfl ?_ | refine gml rfl ?_ | refine gsb rfl (by omega) ?_ | refine gdv rfl (by omega) (by omega) (by omega) ?_ | refine grm rfl (by omega) (by omega) (by omega) ?_ | refine gic rfl rfl ?_ | refine gp rfl rfl rfl ?_ | refine gFl rfl (by rfl) ?_ | refine gAl rfl rfl (by rfl) (by omega) ?_ | refine gBl rfl rfl (by rfl) (by omega) ?_ | refine gil rfl (by assumption) (by rfl) (by omega) (by omega) ?_ | refine gln rfl (xlen_i (by assumption)) ?_)
  refine gcv (As := [.inl (xs (i + 1)), .inl (xs (i + 2)), .inl (xs (i + 3))]) (rest := [.inl v]) rfl (by decide) e2 e4 rfl rfl (Nat.le_of_ble_eq_true rfl) ?_
  refine gct rfl (show v = v from rfl) ?_
  exact next τ2 e6
set_option maxRecDepth 100000 in
theorem w_conflict {L : Nat} {xs : Nat → Int32} {τ : xS} {c i : Nat} (h : LI L xs τ c) (hi : i + 5 ≤ L) (hL : L ≤ 2561) (next : ∀ τ2, LI L xs τ2 (c + 1) → xGo (xEx 9) xtb_143 xEnd (691, [some (.inr (some 0)), some (.inr (some 2)), some (.inr (some 52)), some (.inl (nI i))], [], τ2)) : xGo (xEx 9) xtb_143 xEnd (450, [some (.inr (some 0)), some (.inr (some 2)), some (.inr (some 52)), some (.inl (nI i))], [], τ) := by
  have s0 := h.s
  obtain ⟨v, τ1, τ2, fs, gs, e1, e2, e3, e4, e5, e6⟩ := b_conflict h (xs (i + 1))
  repeat (first | refine gkn rfl rfl ?_ | refine gkm rfl rfl ?_ | refine gad rfl ?_ | refine gml rfl ?_ | refine gsb rfl (by omega) ?_ | refine gdv rfl (by omega) (by omega) (by omega) ?_ | refine grm rfl (by omega) (by omega) (by omega) ?_ | refine gic rfl rfl ?_ | refine gp rfl rfl rfl ?_ | refine gFl rfl (by rfl) ?_ | refine gAl rfl rfl (by rfl) (by omega) ?_ | refine gBl rfl rfl (by rfl) (by omega) ?_ | refine gil rfl (by assumption) (by rfl) (by omega) (by omega) ?_ | refine gln rfl (xlen_i (by assumption)) ?_)
  refine gcv (As := [.inl (xs (i + 1))]) (rest := []) rfl (by decide) e1 e3 rfl rfl (by decide) ?_
  repeat (first | refine gkn rfl rfl ?_ | refine gkm rfl rfl ?_ | refine gad rfl ?_ | refine gml rfl ?_ | refine gsb rfl (by omega) ?_ | refine gdv rfl (by omega) (by omega) (by omega) ?_ | refine grm rfl (by omega) (by omega) (by omega) ?_ | refine gic rfl rfl ?_ | refine gp rfl rfl rfl ?_ | refine gFl rfl (by rfl) ?_ | refine gAl rfl rfl (by rfl) (by omega) ?_ | refine gBl rfl rfl (by rfl) (by omega) ?_ | refine gil rfl (by assumption) (by rfl) (by omega) (by omega) ?_ | refine gln rfl (xlen_i (by assumption)) ?_)
  refine gcv (As := [.inl (xs (i + 1))]) (rest := [.inl v]) rfl (by decide) e2 e4 rfl rfl (Nat.le_of_ble_eq_true rfl) ?_
  refine gct rfl (show v = v from rfl) ?_
  exact next τ2 e6
set_option maxRecDepth 100000 in
theorem w_staged {L : Nat} {xs : Nat → Int32} {τ : xS} {c i : Nat} (h : LI L xs τ c) (hi : i + 5 ≤ L) (hL : L ≤ 2561) (next : ∀ τ2, LI L xs τ2 (c + 1) → xGo (xEx 9) xtb_143 xEnd (691, [some (.inr (some 0)), some (.inr (some 2)), some (.inr (some 52)), some (.inl (nI i))], [], τ2)) : xGo (xEx 9) xtb_143 xEnd (473, [some (.inr (some 0)), some (.inr (some 2)), some (.inr (some 52)), some (.inl (nI i))], [], τ) := by
  have s0 := h.s
  obtain ⟨v, τ1, τ2, fs, gs, e1, e2, e3, e4, e5, e6⟩ := b_staged h (xs (i + 1)) (xs (i + 2))
  repeat (first | refine gkn rfl rfl ?_ | refine gkm rfl rfl ?_ | refine gad rfl ?_ | refine gml rfl ?_ | refine gsb rfl (by omega) ?_ | refine gdv rfl (by omega) (by omega) (by omega) ?_ | refine grm rfl (by omega) (by omega) (by omega) ?_ | refine gic rfl rfl ?_ | refine gp rfl rfl rfl ?_ | refine gFl rfl (by rfl) ?_ | refine gAl rfl rfl (by rfl) (by omega) ?_ | refine gBl rfl rfl (by rfl) (by omega) ?_ | refine gil rfl (by assumption) (by rfl) (by omega) (by omega) ?_ | refine gln rfl (xlen_i (by assumption)) ?_)
  refine gcv (As := [.inl (xs (i + 1)), .inl (xs (i + 2))]) (rest := []) rfl (by decide) e1 e3 rfl rfl (by decide) ?_
  repeat (first | refine gkn rfl rfl ?_ | refine gkm rfl rfl ?_ | refine gad rfl ?_ | refine gml rfl ?_ | refine gsb rfl (by omega) ?_ | refine gdv rfl (by omega) (by omega) (by omega) ?_ | refine grm rfl (by omega) (by omega) (by omega) ?_ | refine gic rfl rfl ?_ | refine gp rfl rfl rfl ?_ | refine gFl rfl (by rfl) ?_ | refine gAl rfl rfl (by rfl) (by omega) ?_ | refine gBl rfl rfl (by rfl) (by omega) ?_ | refine gil rfl (by assumption) (by rfl) (by omega) (by omega) ?_ | refine gln rfl (xlen_i (by assumption)) ?_)
  refine gcv (As := [.inl (xs (i + 1)), .inl (xs (i + 2))]) (rest := [.inl v]) rfl (by decide) e2 e4 rfl rfl (Nat.le_of_ble_eq_true rfl) ?_
  refine gct rfl (show v = v from rfl) ?_
  exact next τ2 e6
set_option maxRecDepth 100000 in
theorem w_stagedLine {L : Nat} {xs : Nat → Int32} {τ : xS} {c i : Nat} (h : LI L xs τ c) (hi : i + 5 ≤ L) (hL : L ≤ 2561) (next : ∀ τ2, LI L xs τ2 (c + 1) → xGo (xEx 9) xtb_143 xEnd (691, [some (.inr (some 0)), some (.inr (some 2)), some (.inr (some 52)), some (.inl (nI i))], [], τ2)) : xGo (xEx 9) xtb_143 xEnd (506, [some (.inr (some 0)), some (.inr (some 2)), some (.inr (some 52)), some (.inl (nI i))], [], τ) := by
  have s0 := h.s
  obtain ⟨v, τ1, τ2, fs, gs, e1, e2, e3, e4, e5, e6⟩ := b_stagedLine h (xs (i + 1)) (xs (i + 2)) (xs (i + 3))
  repeat (first | refine gkn rfl rfl ?_ | refine gkm rfl rfl ?_ | refine gad rfl ?_ | refine gml rfl ?_ | refine gsb rfl (by omega) ?_ | refine gdv rfl (by omega) (by omega) (by omega) ?_ | refine grm rfl (by omega) (by omega) (by omega) ?_ | refine gic rfl rfl ?_ | refine gp rfl rfl rfl ?_ | refine gFl rfl (by rfl) ?_ | refine gAl rfl rfl (by rfl) (by omega) ?_ | refine gBl rfl rfl (by rfl) (by omega) ?_ | refine gil rfl (by assumption) (by rfl) (by omega) (by omega) ?_ | refine gln rfl (xlen_i (by assumption)) ?_)
  refine gcv (As := [.inl (xs (i + 1)), .inl (xs (i + 2)), .inl (xs (i + 3))]) (rest := []) rfl (by decide) e1 e3 rfl rfl (by decide) ?_
  repeat (first | refine gkn rfl rfl ?_ | refine gkm rfl rfl ?_ | refine gad rfl ?_ | refine gml rfl ?_ | refine gsb rfl (by omega) ?_ | refine gdv rfl (by omega) (by omega) (by omega) ?_ | refine grm rfl (by omega) (by omega) (by omega) ?_ | refine gic rfl rfl ?_ | refine gp rfl rfl rfl ?_ | refine gFl rfl (by rfl) ?_ | refine gAl rfl rfl (by rfl) (by omega) ?_ | refine gBl rfl rfl (by rfl) (by omega) ?_ | refine gil rfl (by assumption) (by rfl) (by omega) (by omega) ?_ | refine gln rfl (xlen_i (by assumption)) ?_)
  refine gcv (As := [.inl (xs (i + 1)), .inl (xs (i + 2)), .inl (xs (i + 3))]) (rest := [.inl v]) rfl (by decide) e2 e4 rfl rfl (Nat.le_of_ble_eq_true rfl) ?_
  refine gct rfl (show v = v from rfl) ?_
  exact next τ2 e6
set_option maxRecDepth 100000 in
theorem w_renamed {L : Nat} {xs : Nat → Int32} {τ : xS} {c i : Nat} (h : LI L xs τ c) (hi : i + 5 ≤ L) (hL : L ≤ 2561) (next : ∀ τ2, LI L xs τ2 (c + 1) → xGo (xEx 9) xtb_143 xEnd (691, [some (.inr (some 0)), some (.inr (some 2)), some (.inr (some 52)), some (.inl (nI i))], [], τ2)) : xGo (xEx 9) xtb_143 xEnd (549, [some (.inr (some 0)), some (.inr (some 2)), some (.inr (some 52)), some (.inl (nI i))], [], τ) := by
  have s0 := h.s
  obtain ⟨v, τ1, τ2, fs, gs, e1, e2, e3, e4, e5, e6⟩ := b_renamed h (xs (i + 1)) (xs (i + 2))
  repeat (first | refine gkn rfl rfl ?_ | refine gkm rfl rfl ?_ | refine gad rfl ?_ | refine gml rfl ?_ | refine gsb rfl (by omega) ?_ | refine gdv rfl (by omega) (by omega) (by omega) ?_ | refine grm rfl (by omega) (by omega) (by omega) ?_ | refine gic rfl rfl ?_ | refine gp rfl rfl rfl ?_ | refine gFl rfl (by rfl) ?_ | refine gAl rfl rfl (by rfl) (by omega) ?_ | refine gBl rfl rfl (by rfl) (by omega) ?_ | refine gil rfl (by assumption) (by rfl) (by omega) (by omega) ?_ | refine gln rfl (xlen_i (by assumption)) ?_)
  refine gcv (As := [.inl (xs (i + 1)), .inl (xs (i + 2))]) (rest := []) rfl (by decide) e1 e3 rfl rfl (by decide) ?_
  repeat (first | refine gkn rfl rfl ?_ | refine gkm rfl rfl ?_ | refine gad rfl ?_ | refine gml rfl ?_ | refine gsb rfl (by omega) ?_ | refine gdv rfl (by omega) (by omega) (by omega) ?_ | refine grm rfl (by omega) (by omega) (by omega) ?_ | refine gic rfl rfl ?_ | refine gp rfl rfl rfl ?_ | refine gFl rfl (by rfl) ?_ | refine gAl rfl rfl (by rfl) (by omega) ?_ | refine gBl rfl rfl (by rfl) (by omega) ?_ | refine gil rfl (by assumption) (by rfl) (by omega) (by omega) ?_ | refine gln rfl (xlen_i (by assumption)) ?_)
  refine gcv (As := [.inl (xs (i + 1)), .inl (xs (i + 2))]) (rest := [.inl v]) rfl (by decide) e2 e4 rfl rfl (Nat.le_of_ble_eq_true rfl) ?_
  refine gct rfl (show v = v from rfl) ?_
  exact next τ2 e6
set_option maxRecDepth 100000 in
theorem w_newPlace {L : Nat} {xs : Nat → Int32} {τ : xS} {c i : Nat} (h : LI L xs τ c) (hi : i + 5 ≤ L) (hL : L ≤ 2561) (next : ∀ τ2, LI L xs τ2 (c + 1) → xGo (xEx 9) xtb_143 xEnd (691, [some (.inr (some 0)), some (.inr (some 2)), some (.inr (some 52)), some (.inl (nI i))], [], τ2)) : xGo (xEx 9) xtb_143 xEnd (582, [some (.inr (some 0)), some (.inr (some 2)), some (.inr (some 52)), some (.inl (nI i))], [], τ) := by
  have s0 := h.s
  obtain ⟨v, τ1, τ2, fs, gs, e1, e2, e3, e4, e5, e6⟩ := b_newPlace h (xs (i + 1)) (xs (i + 2))
  repeat (first | refine gkn rfl rfl ?_ | refine gkm rfl rfl ?_ | refine gad rfl ?_ | refine gml rfl ?_ | refine gsb rfl (by omega) ?_ | refine gdv rfl (by omega) (by omega) (by omega) ?_ | refine grm rfl (by omega) (by omega) (by omega) ?_ | refine gic rfl rfl ?_ | refine gp rfl rfl rfl ?_ | refine gFl rfl (by rfl) ?_ | refine gAl rfl rfl (by rfl) (by omega) ?_ | refine gBl rfl rfl (by rfl) (by omega) ?_ | refine gil rfl (by assumption) (by rfl) (by omega) (by omega) ?_ | refine gln rfl (xlen_i (by assumption)) ?_)
  refine gcv (As := [.inl (xs (i + 1)), .inl (xs (i + 2))]) (rest := []) rfl (by decide) e1 e3 rfl rfl (by decide) ?_
  repeat (first | refine gkn rfl rfl ?_ | refine gkm rfl rfl ?_ | refine gad rfl ?_ | refine gml rfl ?_ | refine gsb rfl (by omega) ?_ | refine gdv rfl (by omega) (by omega) (by omega) ?_ | refine grm rfl (by omega) (by omega) (by omega) ?_ | refine gic rfl rfl ?_ | refine gp rfl rfl rfl ?_ | refine gFl rfl (by rfl) ?_ | refine gAl rfl rfl (by rfl) (by omega) ?_ | refine gBl rfl rfl (by rfl) (by omega) ?_ | refine gil rfl (by assumption) (by rfl) (by omega) (by omega) ?_ | refine gln rfl (xlen_i (by assumption)) ?_)
  refine gcv (As := [.inl (xs (i + 1)), .inl (xs (i + 2))]) (rest := [.inl v]) rfl (by decide) e2 e4 rfl rfl (Nat.le_of_ble_eq_true rfl) ?_
  refine gct rfl (show v = v from rfl) ?_
  exact next τ2 e6
set_option maxRecDepth 100000 in
theorem w_stands {L : Nat} {xs : Nat → Int32} {τ : xS} {c i : Nat} (h : LI L xs τ c) (hi : i + 5 ≤ L) (hL : L ≤ 2561) (next : ∀ τ2, LI L xs τ2 (c + 1) → xGo (xEx 9) xtb_143 xEnd (691, [some (.inr (some 0)), some (.inr (some 2)), some (.inr (some 52)), some (.inl (nI i))], [], τ2)) : xGo (xEx 9) xtb_143 xEnd (615, [some (.inr (some 0)), some (.inr (some 2)), some (.inr (some 52)), some (.inl (nI i))], [], τ) := by
  have s0 := h.s
  obtain ⟨v, τ1, τ2, fs, gs, e1, e2, e3, e4, e5, e6⟩ := b_stands h (xs (i + 1)) (xs (i + 2))
  repeat (first | refine gkn rfl rfl ?_ | refine gkm rfl rfl ?_ | refine gad rfl ?_ | refine gml rfl ?_ | refine gsb rfl (by omega) ?_ | refine gdv rfl (by omega) (by omega) (by omega) ?_ | refine grm rfl (by omega) (by omega) (by omega) ?_ | refine gic rfl rfl ?_ | refine gp rfl rfl rfl ?_ | refine gFl rfl (by rfl) ?_ | refine gAl rfl rfl (by rfl) (by omega) ?_ | refine gBl rfl rfl (by rfl) (by omega) ?_ | refine gil rfl (by assumption) (by rfl) (by omega) (by omega) ?_ | refine gln rfl (xlen_i (by assumption)) ?_)
  refine gcv (As := [.inl (xs (i + 1)), .inl (xs (i + 2))]) (rest := []) rfl (by decide) e1 e3 rfl rfl (by decide) ?_
  repeat (first | refine gkn rfl rfl ?_ | refine gkm rfl rfl ?_ | refine gad rfl ?_ | refine gml rfl ?_ | refine gsb rfl (by omega) ?_ | refine gdv rfl (by omega) (by omega) (by omega) ?_ | refine grm rfl (by omega) (by omega) (by omega) ?_ | refine gic rfl rfl ?_ | refine gp rfl rfl rfl ?_ | refine gFl rfl (by rfl) ?_ | refine gAl rfl rfl (by rfl) (by omega) ?_ | refine gBl rfl rfl (by rfl) (by omega) ?_ | refine gil rfl (by assumption) (by rfl) (by omega) (by omega) ?_ | refine gln rfl (xlen_i (by assumption)) ?_)
  refine gcv (As := [.inl (xs (i + 1)), .inl (xs (i + 2))]) (rest := [.inl v]) rfl (by decide) e2 e4 rfl rfl (Nat.le_of_ble_eq_true rfl) ?_
  refine gct rfl (show v = v from rfl) ?_
  exact next τ2 e6
set_option maxRecDepth 100000 in
theorem w_score {L : Nat} {xs : Nat → Int32} {τ : xS} {c i : Nat} (h : LI L xs τ c) (hi : i + 5 ≤ L) (hL : L ≤ 2561) (next : ∀ τ2, LI L xs τ2 (c + 1) → xGo (xEx 9) xtb_143 xEnd (691, [some (.inr (some 0)), some (.inr (some 2)), some (.inr (some 52)), some (.inl (nI i))], [], τ2)) : xGo (xEx 9) xtb_143 xEnd (648, [some (.inr (some 0)), some (.inr (some 2)), some (.inr (some 52)), some (.inl (nI i))], [], τ) := by
  have s0 := h.s
  obtain ⟨v, τ1, τ2, fs, gs, e1, e2, e3, e4, e5, e6⟩ := b_score h (xs (i + 1)) (xs (i + 2)) (xs (i + 3))
  repeat (first | refine gkn rfl rfl ?_ | refine gkm rfl rfl ?_ | refine gad rfl ?_ | refine gml rfl ?_ | refine gsb rfl (by omega) ?_ | refine gdv rfl (by omega) (by omega) (by omega) ?_ | refine grm rfl (by omega) (by omega) (by omega) ?_ | refine gic rfl rfl ?_ | refine gp rfl rfl rfl ?_ | refine gFl rfl (by rfl) ?_ | refine gAl rfl rfl (by rfl) (by omega) ?_ | refine gBl rfl rfl (by rfl) (by omega) ?_ | refine gil rfl (by assumption) (by rfl) (by omega) (by omega) ?_ | refine gln rfl (xlen_i (by assumption)) ?_)
  refine gcv (As := [.inl (xs (i + 1)), .inl (xs (i + 2)), .inl (xs (i + 3))]) (rest := []) rfl (by decide) e1 e3 rfl rfl (by decide) ?_
  repeat (first | refine gkn rfl rfl ?_ | refine gkm rfl rfl ?_ | refine gad rfl ?_ | refine gml rfl ?_ | refine gsb rfl (by omega) ?_ | refine gdv rfl (by omega) (by omega) (by omega) ?_ | refine grm rfl (by omega) (by omega) (by omega) ?_ | refine gic rfl rfl ?_ | refine gp rfl rfl rfl ?_ | refine gFl rfl (by rfl) ?_ | refine gAl rfl rfl (by rfl) (by omega) ?_ | refine gBl rfl rfl (by rfl) (by omega) ?_ | refine gil rfl (by assumption) (by rfl) (by omega) (by omega) ?_ | refine gln rfl (xlen_i (by assumption)) ?_)
  refine gcv (As := [.inl (xs (i + 1)), .inl (xs (i + 2)), .inl (xs (i + 3))]) (rest := [.inl v]) rfl (by decide) e2 e4 rfl rfl (Nat.le_of_ble_eq_true rfl) ?_
  refine gct rfl (show v = v from rfl) ?_
  exact next τ2 e6
set_option maxRecDepth 100000 in
theorem w_put {L : Nat} {xs : Nat → Int32} {τ : xS} {c i : Nat} (h : LI L xs τ c) (hi : i + 5 ≤ L) (hL : L ≤ 2561) (next : ∀ τ2, LI L xs τ2 (c + 1) → xGo (xEx 9) xtb_143 xEnd (691, [some (.inr (some 0)), some (.inr (some 2)), some (.inr (some 52)), some (.inl (nI i))], [], τ2)) : xGo (xEx 9) xtb_143 xEnd (124, [some (.inr (some 0)), some (.inr (some 2)), some (.inr (some 52)), some (.inl (nI i))], [], τ) := by
  have s0 := h.s
  by_cases hz : xs (i + 4) = 0
  · obtain ⟨v, τ1, τ2, fs, gs, e1, e2, e3, e4, e5, e6⟩ := b_put h (xs (i + 1)) (xs (i + 2)) (xs (i + 3)) false
    repeat (first | refine gkn rfl rfl ?_ | refine gkm rfl rfl ?_ | refine gad rfl ?_ | refine gml rfl ?_ | refine gsb rfl (by omega) ?_ | refine gdv rfl (by omega) (by omega) (by omega) ?_ | refine grm rfl (by omega) (by omega) (by omega) ?_ | refine gic rfl rfl ?_ | refine gp rfl rfl rfl ?_ | refine gFl rfl (by rfl) ?_ | refine gAl rfl rfl (by rfl) (by omega) ?_ | refine gBl rfl rfl (by rfl) (by omega) ?_ | refine gil rfl (by assumption) (by rfl) (by omega) (by omega) ?_ | refine gln rfl (xlen_i (by assumption)) ?_)
    refine git rfl (show xs (i + 4) = 0 from hz) ?_
    repeat (first | refine gkn rfl rfl ?_ | refine gkm rfl rfl ?_ | refine gad rfl ?_ | refine gml rfl ?_ | refine gsb rfl (by omega) ?_ | refine gdv rfl (by omega) (by omega) (by omega) ?_ | refine grm rfl (by omega) (by omega) (by omega) ?_ | refine gic rfl rfl ?_ | refine gp rfl rfl rfl ?_ | refine gFl rfl (by rfl) ?_ | refine gAl rfl rfl (by rfl) (by omega) ?_ | refine gBl rfl rfl (by rfl) (by omega) ?_ | refine gil rfl (by assumption) (by rfl) (by omega) (by omega) ?_ | refine gln rfl (xlen_i (by assumption)) ?_)
    refine gcv (As := [.inl (xs (i + 1)), .inl (xs (i + 2)), .inl (xs (i + 3)), .inl (bI false)]) (rest := []) rfl (by decide) e1 e3 rfl rfl (by decide) ?_
    repeat (first | refine gkn rfl rfl ?_ | refine gkm rfl rfl ?_ | refine gad rfl ?_ | refine gml rfl ?_ | refine gsb rfl (by omega) ?_ | refine gdv rfl (by omega) (by omega) (by omega) ?_ | refine grm rfl (by omega) (by omega) (by omega) ?_ | refine gic rfl rfl ?_ | refine gp rfl rfl rfl ?_ | refine gFl rfl (by rfl) ?_ | refine gAl rfl rfl (by rfl) (by omega) ?_ | refine gBl rfl rfl (by rfl) (by omega) ?_ | refine gil rfl (by assumption) (by rfl) (by omega) (by omega) ?_ | refine gln rfl (xlen_i (by assumption)) ?_)
    refine git rfl (show xs (i + 4) = 0 from hz) ?_
    repeat (first | refine gkn rfl rfl ?_ | refine gkm rfl rfl ?_ | refine gad rfl ?_ | refine gml rfl ?_ | refine gsb rfl (by omega) ?_ | refine gdv rfl (by omega) (by omega) (by omega) ?_ | refine grm rfl (by omega) (by omega) (by omega) ?_ | refine gic rfl rfl ?_ | refine gp rfl rfl rfl ?_ | refine gFl rfl (by rfl) ?_ | refine gAl rfl rfl (by rfl) (by omega) ?_ | refine gBl rfl rfl (by rfl) (by omega) ?_ | refine gil rfl (by assumption) (by rfl) (by omega) (by omega) ?_ | refine gln rfl (xlen_i (by assumption)) ?_)
    refine gcv (As := [.inl (xs (i + 1)), .inl (xs (i + 2)), .inl (xs (i + 3)), .inl (bI false)]) (rest := [.inl v]) rfl (by decide) e2 e4 rfl rfl (Nat.le_of_ble_eq_true rfl) ?_
    refine gct rfl (show v = v from rfl) ?_
    exact next τ2 e6
  · obtain ⟨v, τ1, τ2, fs, gs, e1, e2, e3, e4, e5, e6⟩ := b_put h (xs (i + 1)) (xs (i + 2)) (xs (i + 3)) true
    repeat (first | refine gkn rfl rfl ?_ | refine gkm rfl rfl ?_ | refine gad rfl ?_ | refine gml rfl ?_ | refine gsb rfl (by omega) ?_ | refine gdv rfl (by omega) (by omega) (by omega) ?_ | refine grm rfl (by omega) (by omega) (by omega) ?_ | refine gic rfl rfl ?_ | refine gp rfl rfl rfl ?_ | refine gFl rfl (by rfl) ?_ | refine gAl rfl rfl (by rfl) (by omega) ?_ | refine gBl rfl rfl (by rfl) (by omega) ?_ | refine gil rfl (by assumption) (by rfl) (by omega) (by omega) ?_ | refine gln rfl (xlen_i (by assumption)) ?_)
    refine giff rfl (show ¬ xs (i + 4) = 0 from hz) ?_
    repeat (first | refine gkn rfl rfl ?_ | refine gkm rfl rfl ?_ | refine gad rfl ?_ | refine gml rfl ?_ | refine gsb rfl (by omega) ?_ | refine gdv rfl (by omega) (by omega) (by omega) ?_ | refine grm rfl (by omega) (by omega) (by omega) ?_ | refine gic rfl rfl ?_ | refine gp rfl rfl rfl ?_ | refine gFl rfl (by rfl) ?_ | refine gAl rfl rfl (by rfl) (by omega) ?_ | refine gBl rfl rfl (by rfl) (by omega) ?_ | refine gil rfl (by assumption) (by rfl) (by omega) (by omega) ?_ | refine gln rfl (xlen_i (by assumption)) ?_)
    refine gcv (As := [.inl (xs (i + 1)), .inl (xs (i + 2)), .inl (xs (i + 3)), .inl (bI true)]) (rest := []) rfl (by decide) e1 e3 rfl rfl (by decide) ?_
    repeat (first | refine gkn rfl rfl ?_ | refine gkm rfl rfl ?_ | refine gad rfl ?_ | refine gml rfl ?_ | refine gsb rfl (by omega) ?_ | refine gdv rfl (by omega) (by omega) (by omega) ?_ | refine grm rfl (by omega) (by omega) (by omega) ?_ | refine gic rfl rfl ?_ | refine gp rfl rfl rfl ?_ | refine gFl rfl (by rfl) ?_ | refine gAl rfl rfl (by rfl) (by omega) ?_ | refine gBl rfl rfl (by rfl) (by omega) ?_ | refine gil rfl (by assumption) (by rfl) (by omega) (by omega) ?_ | refine gln rfl (xlen_i (by assumption)) ?_)
    refine giff rfl (show ¬ xs (i + 4) = 0 from hz) ?_
    repeat (first | refine gkn rfl rfl ?_ | refine gkm rfl rfl ?_ | refine gad rfl ?_ | refine gml rfl ?_ | refine gsb rfl (by omega) ?_ | refine gdv rfl (by omega) (by omega) (by omega) ?_ | refine grm rfl (by omega) (by omega) (by omega) ?_ | refine gic rfl rfl ?_ | refine gp rfl rfl rfl ?_ | refine gFl rfl (by rfl) ?_ | refine gAl rfl rfl (by rfl) (by omega) ?_ | refine gBl rfl rfl (by rfl) (by omega) ?_ | refine gil rfl (by assumption) (by rfl) (by omega) (by omega) ?_ | refine gln rfl (xlen_i (by assumption)) ?_)
    refine gcv (As := [.inl (xs (i + 1)), .inl (xs (i + 2)), .inl (xs (i + 3)), .inl (bI true)]) (rest := [.inl v]) rfl (by decide) e2 e4 rfl rfl (Nat.le_of_ble_eq_true rfl) ?_
    refine gct rfl (show v = v from rfl) ?_
    exact next τ2 e6
set_option maxRecDepth 100000 in
theorem w_loop {L : Nat} {xs : Nat → Int32} (hL : L ≤ 2561) (h5 : 5 ≤ L) : ∀ k c (τ : xS), L ≤ 1 + 5 * c + 5 * k → 5 * c ≤ L → LI L xs τ c → xGo (xEx 9) xtb_143 xEnd (33, [some (.inr (some 0)), some (.inr (some 2)), some (.inr (some 52)), some (.inl (nI (1 + 5 * c)))], [.inl (nI (L - 5)), .inl (nI (1 + 5 * c))], τ) := by
  intro k
  have over : ∀ c (τ : xS), L < 6 + 5 * c → 5 * c ≤ L → LI L xs τ c → xGo (xEx 9) xtb_143 xEnd (33, [some (.inr (some 0)), some (.inr (some 2)), some (.inr (some 52)), some (.inl (nI (1 + 5 * c)))], [.inl (nI (L - 5)), .inl (nI (1 + 5 * c))], τ) := by
    intro c τ hc hc2 h
    obtain ⟨b1, b2⟩ := h.b
    first | refine gtN rfl (by omega) (by omega) (xN_ge (by omega)) ?_ | refine gtN rfl (by omega) (by omega) (xN_lt (by omega)) ?_ | refine gtN rfl (by omega) (by omega) (xN_eq (by omega)) ?_ | refine gtN rfl (by omega) (by omega) (xN_ne (by omega)) ?_ | refine gtN rfl (by omega) (by omega) (xN_gt (by omega)) ?_ | refine gtN rfl (by omega) (by omega) (xN_le (by omega)) ?_
    repeat (first | refine gkn rfl rfl ?_ | refine gkm rfl rfl ?_ | refine gad rfl ?_ | refine gml rfl ?_ | refine gsb rfl (by omega) ?_ | refine gdv rfl (by omega) (by omega) (by omega) ?_ | refine grm rfl (by omega) (by omega) (by omega) ?_ | refine gic rfl rfl ?_ | refine gp rfl rfl rfl ?_ | refine gFl rfl (by rfl) ?_ | refine gAl rfl rfl (by rfl) (by omega) ?_ | refine gBl rfl rfl (by rfl) (by omega) ?_ | refine gil rfl (by assumption) (by rfl) (by omega) (by omega) ?_ | refine gln rfl (xlen_i (by assumption)) ?_)
    refine gri rfl (fun _ => Or.inr rfl) ⟨rfl, ?_, ?_⟩
    · omega
    · omega
  induction k with
  | zero =>
    intro c τ hk hc h
    exact over c τ (by omega) hc h
  | succ k ih =>
    intro c τ hk hc h
    by_cases hov : L < 6 + 5 * c
    · exact over c τ hov hc h
    · have s0 := h.s
      have hi : 1 + 5 * c + 5 ≤ L := by omega
      have next : ∀ τ2, LI L xs τ2 (c + 1) → xGo (xEx 9) xtb_143 xEnd (691, [some (.inr (some 0)), some (.inr (some 2)), some (.inr (some 52)), some (.inl (nI (1 + 5 * c)))], [], τ2) := by
        intro τ2 h2
        have s2 := h2.s
        repeat (first | refine gkn rfl rfl ?_ | refine gkm rfl rfl ?_ | refine gad rfl ?_ | refine gml rfl ?_ | refine gsb rfl (by omega) ?_ | refine gdv rfl (by omega) (by omega) (by omega) ?_ | refine grm rfl (by omega) (by omega) (by omega) ?_ | refine gic rfl rfl ?_ | refine gp rfl rfl rfl ?_ | refine gFl rfl (by rfl) ?_ | refine gAl rfl rfl (by rfl) (by omega) ?_ | refine gBl rfl rfl (by rfl) (by omega) ?_ | refine gil rfl (by assumption) (by rfl) (by omega) (by omega) ?_ | refine gln rfl (xlen_i (by assumption)) ?_)
        exact ih (c + 1) τ2 (by omega) (by omega) h2
      obtain ⟨m, hm, em⟩ : ∃ m, m < 32 ∧ xs (1 + 5 * c) &&& nI 31 = nI m := ⟨_, Nat.mod_lt _ (by decide), pk_and _ 5 (by decide)⟩
      first | refine gfN rfl (by omega) (by omega) (nN_ge (by omega)) ?_ | refine gfN rfl (by omega) (by omega) (nN_lt (by omega)) ?_ | refine gfN rfl (by omega) (by omega) (nN_eq (by omega)) ?_ | refine gfN rfl (by omega) (by omega) (nN_ne (by omega)) ?_ | refine gfN rfl (by omega) (by omega) (nN_gt (by omega)) ?_ | refine gfN rfl (by omega) (by omega) (nN_le (by omega)) ?_
      repeat (first | refine gkn rfl rfl ?_ | refine gkm rfl rfl ?_ | refine gad rfl ?_ | refine gml rfl ?_ | refine gsb rfl (by omega) ?_ | refine gdv rfl (by omega) (by omega) (by omega) ?_ | refine grm rfl (by omega) (by omega) (by omega) ?_ | refine gic rfl rfl ?_ | refine gp rfl rfl rfl ?_ | refine gFl rfl (by rfl) ?_ | refine gAl rfl rfl (by rfl) (by omega) ?_ | refine gBl rfl rfl (by rfl) (by omega) ?_ | refine gil rfl (by assumption) (by rfl) (by omega) (by omega) ?_ | refine gln rfl (xlen_i (by assumption)) ?_)
      rw [em]
      have hcase : m = 0 ∨ m = 1 ∨ m = 2 ∨ m = 3 ∨ m = 4 ∨ m = 5 ∨ m = 6 ∨ m = 7 ∨ m = 8 ∨ m = 9 ∨ m = 10 ∨ m = 11 ∨ m = 12 ∨ m = 13 ∨ m = 14 ∨ m = 15 ∨ m = 16 ∨ 16 < m := by omega
      rcases hcase with rfl | rfl | rfl | rfl | rfl | rfl | rfl | rfl | rfl | rfl | rfl | rfl | rfl | rfl | rfl | rfl | rfl | hd
      · refine gts (t := 124) rfl (by decide) (Or.inr ⟨by decide, by decide, 82, rfl, rfl⟩) ?_
        exact w_put h hi hL next
      · refine gts (t := 193) rfl (by decide) (Or.inr ⟨by decide, by decide, 151, rfl, rfl⟩) ?_
        exact w_drop h hi hL next
      · refine gts (t := 226) rfl (by decide) (Or.inr ⟨by decide, by decide, 184, rfl, rfl⟩) ?_
        exact w_copy h hi hL next
      · refine gts (t := 259) rfl (by decide) (Or.inr ⟨by decide, by decide, 217, rfl, rfl⟩) ?_
        exact w_adopt h hi hL next
      · refine gts (t := 282) rfl (by decide) (Or.inr ⟨by decide, by decide, 240, rfl, rfl⟩) ?_
        exact w_style h hi hL next
      · refine gts (t := 305) rfl (by decide) (Or.inr ⟨by decide, by decide, 263, rfl, rfl⟩) ?_
        exact w_merge h hi hL next
      · refine gts (t := 318) rfl (by decide) (Or.inr ⟨by decide, by decide, 276, rfl, rfl⟩) ?_
        exact w_size h hi hL next
      · refine gts (t := 341) rfl (by decide) (Or.inr ⟨by decide, by decide, 299, rfl, rfl⟩) ?_
        exact w_kind h hi hL next
      · refine gts (t := 374) rfl (by decide) (Or.inr ⟨by decide, by decide, 332, rfl, rfl⟩) ?_
        exact w_length h hi hL next
      · refine gts (t := 407) rfl (by decide) (Or.inr ⟨by decide, by decide, 365, rfl, rfl⟩) ?_
        exact w_line h hi hL next
      · refine gts (t := 450) rfl (by decide) (Or.inr ⟨by decide, by decide, 408, rfl, rfl⟩) ?_
        exact w_conflict h hi hL next
      · refine gts (t := 473) rfl (by decide) (Or.inr ⟨by decide, by decide, 431, rfl, rfl⟩) ?_
        exact w_staged h hi hL next
      · refine gts (t := 506) rfl (by decide) (Or.inr ⟨by decide, by decide, 464, rfl, rfl⟩) ?_
        exact w_stagedLine h hi hL next
      · refine gts (t := 549) rfl (by decide) (Or.inr ⟨by decide, by decide, 507, rfl, rfl⟩) ?_
        exact w_renamed h hi hL next
      · refine gts (t := 582) rfl (by decide) (Or.inr ⟨by decide, by decide, 540, rfl, rfl⟩) ?_
        exact w_newPlace h hi hL next
      · refine gts (t := 615) rfl (by decide) (Or.inr ⟨by decide, by decide, 573, rfl, rfl⟩) ?_
        exact w_stands h hi hL next
      · refine gts (t := 648) rfl (by decide) (Or.inr ⟨by decide, by decide, 606, rfl, rfl⟩) ?_
        exact w_score h hi hL next
      · refine gts (t := 691) rfl (by omega) (Or.inl ⟨Or.inr (by omega), rfl⟩) ?_
        exact next τ h.up
theorem l_cell2 (d : Nat) {σ : xS} {L : Nat} {xs : Nat → Int32} (h : σ.1 0 = some (.inl (0, L, xs))) (hL : L ≤ 2561) : xEx (d + 1) 142 [.inr (some 0), .inl (nI 0)] σ (some (.inl (if L = 0 then nI 0 else xs 0))) σ := by
  refine ⟨by decide, rfl, ?_⟩
  show xGo (xEx d) xtb_142 _ (0, [some (.inr (some 0)), some (.inl (nI 0))], [], σ)
  by_cases hz : L = 0
  · rw [if_pos hz]
    repeat (first | refine gp rfl rfl rfl ?_ | refine ggf rfl (by assumption) (by rfl) ?_ | refine gal rfl (by assumption) (by rfl) (by omega) (by omega) ?_ | refine gil rfl (by assumption) (by rfl) (by omega) (by omega) ?_ | refine gbl rfl (by assumption) (by rfl) (by omega) (by omega) ?_ | refine gln rfl (xlen_i (by assumption)) ?_ | refine gln rfl (xlen_q (by assumption)) ?_)
    first | refine gtN rfl (by omega) (by omega) (xN_ge (by omega)) ?_ | refine gtN rfl (by omega) (by omega) (xN_lt (by omega)) ?_ | refine gtN rfl (by omega) (by omega) (xN_eq (by omega)) ?_ | refine gtN rfl (by omega) (by omega) (xN_ne (by omega)) ?_ | refine gtN rfl (by omega) (by omega) (xN_gt (by omega)) ?_ | refine gtN rfl (by omega) (by omega) (xN_le (by omega)) ?_
    repeat (first | refine gp rfl rfl rfl ?_ | refine ggf rfl (by assumption) (by rfl) ?_ | refine gal rfl (by assumption) (by rfl) (by omega) (by omega) ?_ | refine gil rfl (by assumption) (by rfl) (by omega) (by omega) ?_ | refine gbl rfl (by assumption) (by rfl) (by omega) (by omega) ?_ | refine gln rfl (xlen_i (by assumption)) ?_ | refine gln rfl (xlen_q (by assumption)) ?_)
    exact gri rfl (fun h => absurd h (by decide)) ⟨rfl, rfl⟩
  · rw [if_neg hz]
    repeat (first | refine gp rfl rfl rfl ?_ | refine ggf rfl (by assumption) (by rfl) ?_ | refine gal rfl (by assumption) (by rfl) (by omega) (by omega) ?_ | refine gil rfl (by assumption) (by rfl) (by omega) (by omega) ?_ | refine gbl rfl (by assumption) (by rfl) (by omega) (by omega) ?_ | refine gln rfl (xlen_i (by assumption)) ?_ | refine gln rfl (xlen_q (by assumption)) ?_)
    first | refine gfN rfl (by omega) (by omega) (nN_ge (by omega)) ?_ | refine gfN rfl (by omega) (by omega) (nN_lt (by omega)) ?_ | refine gfN rfl (by omega) (by omega) (nN_eq (by omega)) ?_ | refine gfN rfl (by omega) (by omega) (nN_ne (by omega)) ?_ | refine gfN rfl (by omega) (by omega) (nN_gt (by omega)) ?_ | refine gfN rfl (by omega) (by omega) (nN_le (by omega)) ?_
    repeat (first | refine gp rfl rfl rfl ?_ | refine ggf rfl (by assumption) (by rfl) ?_ | refine gal rfl (by assumption) (by rfl) (by omega) (by omega) ?_ | refine gil rfl (by assumption) (by rfl) (by omega) (by omega) ?_ | refine gbl rfl (by assumption) (by rfl) (by omega) (by omega) ?_ | refine gln rfl (xlen_i (by assumption)) ?_ | refine gln rfl (xlen_q (by assumption)) ?_)
    exact gri rfl (fun h => absurd h (by decide)) ⟨rfl, rfl⟩
theorem hT0 {σ σ' : xS} {t : Nat} (h : hT σ t (fun _ => none)) (e1 : σ'.1 t = σ.1 t) (e2 : σ'.1 (t + 1) = σ.1 (t + 1)) : hT σ' t (fun _ => none) := by
  obtain ⟨g, ⟨h1, h2⟩, h3⟩ := h
  refine ⟨g, ⟨by rw [e1]; exact h1, by rw [e2]; exact h2⟩, fun p hp => ?_⟩
  have o := h3 p hp
  cases hg : g p with
  | none => trivial
  | some z => rw [hg] at o; exact o.elim
set_option maxRecDepth 100000 in
theorem law_runs (L : Nat) (xs : Nat → Int32) (hL : L ≤ 2561) : xGo (xEx 9) (xtb 143) xEnd (0, [some (.inr (some 0)), none, none, none], [], xσ0 L xs) := by
  show xGo (xEx 9) xtb_143 xEnd (0, [some (.inr (some 0)), none, none, none], [], xσ0 L xs)
  generalize hv : (if L = 0 then nI 0 else xs 0) = v
  refine gp rfl rfl rfl ?_
  have a2 : (xnew (xσ0 L xs) (.inr (.inr (0, xdf 0))) 5).1 2 = some (.inr (.inr (0, [.inr none, .inr none, .inl 0, .inl 0, .inl 0]))) := rfl
  have a0 : (xnew (xσ0 L xs) (.inr (.inr (0, xdf 0))) 5).1 0 = some (.inl (0, L, xs)) := rfl
  have a1 : (xnew (xσ0 L xs) (.inr (.inr (0, xdf 0))) 5).1 1 = some (.inl (0, 0, fun _ => 0)) := rfl
  have an : (xnew (xσ0 L xs) (.inr (.inr (0, xdf 0))) 5).2 = (3, 5) := rfl
  have az : ∀ k, 3 ≤ k → (xnew (xσ0 L xs) (.inr (.inr (0, xdf 0))) 5).1 k = none := fun k hk => by
    show (if k = 2 then _ else if k = 0 then _ else if k = 1 then _ else none) = none
    rw [if_neg (by omega), if_neg (by omega), if_neg (by omega)]
  show xGo (xEx 9) xtb_143 xEnd (3, [some (.inr (some 0)), none, none, none], [.inr (some 2)], xnew (xσ0 L xs) (.inr (.inr (0, xdf 0))) 5)
  generalize xnew (xσ0 L xs) (.inr (.inr (0, xdf 0))) 5 = σa at a2 a0 a1 an az ⊢
  have ce := l_cell2 8 a0 hL
  rw [hv] at ce
  obtain ⟨σ1, n1, p2, p3, p4, p5, p6, p7, p8, p9, p10, p11, p12⟩ := m_new 5 (x := v) a2 an
  repeat (first | refine gkn rfl rfl ?_ | refine gkm rfl rfl ?_ | refine gad rfl ?_ | refine gml rfl ?_ | refine gsb rfl (by omega) ?_ | refine gdv rfl (by omega) (by omega) (by omega) ?_ | refine grm rfl (by omega) (by omega) (by omega) ?_ | refine gic rfl rfl ?_ | refine gp rfl rfl rfl ?_ | refine gFl rfl (by rfl) ?_ | refine gAl rfl rfl (by rfl) (by omega) ?_ | refine gBl rfl rfl (by rfl) (by omega) ?_)
  refine gcs (As := [.inr (some 0), .inl (nI 0)]) (rest := [.inr (some 2), .inr (some 2)]) rfl (by decide) ce rfl rfl (Nat.le_of_ble_eq_true rfl) ?_
  refine gci (As := [.inl v]) (rest := [.inr (some 2)]) rfl (by decide) n1 rfl rfl (Nat.le_of_ble_eq_true rfl) ?_
  refine gp rfl rfl rfl ?_
  refine gp rfl rfl rfl ?_
  have q52 : σ1.2.1 = 52 := by rw [p11]
  have b52 : (xnew σ1 (.inr (.inr (7, xdf 7))) 20).1 52 = some (.inr (.inr (7, xdf 7))) := by
    have z := xnew_eq σ1 (.inr (.inr (7, xdf 7))) 20
    rw [q52] at z
    exact z
  have bn : (xnew σ1 (.inr (.inr (7, xdf 7))) 20).2 = (53, 2036) := by
    show (σ1.2.1 + 1, σ1.2.2 + 20) = _
    rw [p11]
  have bF : ∀ k, k ≠ 52 → (xnew σ1 (.inr (.inr (7, xdf 7))) 20).1 k = σ1.1 k := fun k hk => xnew_ne (by rw [q52]; exact hk)
  rw [q52]
  show xGo (xEx 9) xtb_143 xEnd (16, [some (.inr (some 0)), some (.inr (some 2)), none, none], [.inr (some 52)], xnew σ1 (.inr (.inr (7, xdf 7))) 20)
  generalize xnew σ1 (.inr (.inr (7, xdf 7))) 20 = σb at b52 bn bF ⊢
  have b0 : σb.1 0 = some (.inl (0, L, xs)) := by rw [bF 0 (by decide), p12 0 (by decide)]; exact a0
  have cf := l_cell2 8 b0 hL
  rw [hv] at cf
  obtain ⟨I, A, r1, r2, r3, r4, r5, r6, r7, r8⟩ := r_new 8 (x := v) b52 bn
  obtain ⟨th, t1, t2, t3⟩ := cTh_ok v
  repeat (first | refine gkn rfl rfl ?_ | refine gkm rfl rfl ?_ | refine gad rfl ?_ | refine gml rfl ?_ | refine gsb rfl (by omega) ?_ | refine gdv rfl (by omega) (by omega) (by omega) ?_ | refine grm rfl (by omega) (by omega) (by omega) ?_ | refine gic rfl rfl ?_ | refine gp rfl rfl rfl ?_ | refine gFl rfl (by rfl) ?_ | refine gAl rfl rfl (by rfl) (by omega) ?_ | refine gBl rfl rfl (by rfl) (by omega) ?_)
  refine gcs (As := [.inr (some 0), .inl (nI 0)]) (rest := [.inr (some 52), .inr (some 52)]) rfl (by decide) cf rfl rfl (Nat.le_of_ble_eq_true rfl) ?_
  refine gci (As := [.inl v]) (rest := [.inr (some 52)]) rfl (by decide) r1 rfl rfl (Nat.le_of_ble_eq_true rfl) ?_
  have m0 : ∀ k, (k < 52 ∨ 62 < k) → (mU (σb.1, 63, 2036 + 12972) I A).1 k = σ1.1 k := fun k hk => by rw [mU_out (by omega)]; exact bF k (by omega)
  have hLI : LI L xs (mU (σb.1, 63, 2036 + 12972) I A) 0 := by
    refine ⟨fun _ _ => none, fun _ _ => none, fun _ => 0, th, 0, false, d0, d0, I, A, mU_mU _ _ _, ?_, ?_, r6, r7, r8, by rw [r2, t3], r3, r4, ⟨t1, t2, by decide⟩, ?_, ?_, ?_⟩
    · obtain ⟨g3, p3a, p3b⟩ := p3
      obtain ⟨⟨mg1, g', mg2, mg3⟩⟩ := And.intro p5 trivial
      refine ⟨?_, ⟨g3, by rw [m0 3 (by decide)]; exact p3a, p3b⟩, fun i hi => hT0 (p4 i hi) (m0 _ (by omega)) (m0 _ (by omega)), ⟨⟨by rw [m0 4 (by decide)]; exact mg1, g', by rw [m0 5 (by decide)]; exact mg2, mg3⟩, p6.of (fun k a b => m0 k (by omega)), p7.of (m0 20 (by decide)), ?_, ?_, fun i hi => hT0 (p10 i hi) (m0 _ (by omega)) (m0 _ (by omega))⟩, hSide.of p8 (fun k a b => m0 k (by omega)), hSide.of p9 (fun k a b => m0 k (by omega))⟩
      · rw [m0 2 (by decide), p2, t3]
      · refine ⟨fun _ => 0, ?_, fun j hj => absurd hj (Nat.not_lt_zero _)⟩
        rw [m0 1 (by decide), p12 1 (by decide)]
        exact a1
      · refine ⟨Nat.le_refl 63, fun k hk => ?_⟩
        have hk : 63 ≤ k := hk
        rw [m0 k (by omega), p12 k (by omega)]
        exact az k (by omega)
    · refine r5.congr (fun t p ht hp => ?_)
      unfold wSet
      split <;> rfl
    · rw [mU_out (by decide)]
      exact b0
    · exact Nat.le_refl 63
    · show 2036 + 12972 ≤ 15100 + 9984 * 0
      decide
  generalize mU (σb.1, 63, 2036 + 12972) I A = τ at hLI ⊢
  have s0 := hLI.s
  repeat (first | refine gkn rfl rfl ?_ | refine gkm rfl rfl ?_ | refine gad rfl ?_ | refine gml rfl ?_ | refine gsb rfl (by omega) ?_ | refine gdv rfl (by omega) (by omega) (by omega) ?_ | refine grm rfl (by omega) (by omega) (by omega) ?_ | refine gic rfl rfl ?_ | refine gp rfl rfl rfl ?_ | refine gFl rfl (by rfl) ?_ | refine gAl rfl rfl (by rfl) (by omega) ?_ | refine gBl rfl rfl (by rfl) (by omega) ?_ | refine gil rfl (by assumption) (by rfl) (by omega) (by omega) ?_ | refine gln rfl (xlen_i (by assumption)) ?_)
  by_cases h5 : 5 ≤ L
  · rw [pk_sub h5]
    exact w_loop hL h5 512 0 τ (by omega) (by omega) hLI
  · refine gct rfl (show nI L - nI 5 < nI 1 from ?_) ?_
    · have hl : L = 0 ∨ L = 1 ∨ L = 2 ∨ L = 3 ∨ L = 4 := by omega
      rcases hl with rfl | rfl | rfl | rfl | rfl <;> decide
    · obtain ⟨c1, c2⟩ := hLI.b
      repeat (first | refine gkn rfl rfl ?_ | refine gkm rfl rfl ?_ | refine gad rfl ?_ | refine gml rfl ?_ | refine gsb rfl (by omega) ?_ | refine gdv rfl (by omega) (by omega) (by omega) ?_ | refine grm rfl (by omega) (by omega) (by omega) ?_ | refine gic rfl rfl ?_ | refine gp rfl rfl rfl ?_ | refine gFl rfl (by rfl) ?_ | refine gAl rfl rfl (by rfl) (by omega) ?_ | refine gBl rfl rfl (by rfl) (by omega) ?_ | refine gil rfl (by assumption) (by rfl) (by omega) (by omega) ?_ | refine gln rfl (xlen_i (by assumption)) ?_)
      refine gri rfl (fun _ => Or.inr rfl) ⟨rfl, ?_, ?_⟩
      · omega
      · omega
