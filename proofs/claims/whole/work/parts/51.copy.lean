/-! MODULE: copies, what was written is taken, marks -/
section XRUN2
variable {E : Nat → List xV → xS → Option xV → xS → Prop} {tb : List xI} {K : Option xV → xS → Prop} {pc len a b w : Nat} {ls : xL} {st : List xV} {σ : xS} {i : Instr}
theorem gcl {idx q n : Nat} {f : Nat → Int32} (hk : xfd tb pc = some (pc, .invokevirtual idx, len, a, 7, w)) (h : σ.1 q = some (.inl (0, n, f))) (h2 : 2 ≤ q) (hr : st.length ≤ 8) (g : xGo E tb K (pc + len, ls, .inr (some σ.2.1) :: st, xnew σ (.inl (0, n, f)) n)) : xGo E tb K (pc, ls, .inr (some q) :: st, σ) := g0 hk (o := .inl _) (show xcall E a 7 (pc + len) ls (.inr (some q) :: st) σ _ from ⟨n, f, h, h2, hr, rfl⟩) g
theorem gcc {idx q n : Nat} {f : Nat → Int32} (hk : xfd tb pc = some (pc, .checkcast idx, len, a, b, w)) (h : σ.1 q = some (.inl (0, n, f))) (h2 : 2 ≤ q) (g : xGo E tb K (pc + len, ls, .inr (some q) :: st, σ)) : xGo E tb K (pc, ls, .inr (some q) :: st, σ) := g0 hk (o := .inl _) ⟨n, f, h, h2, rfl⟩ g
theorem gac {idx q0 q1 n0 n1 N S T : Nat} {f g' : Nat → Int32} {n dp sp : Int32} (hk : xfd tb pc = some (pc, .invokestatic idx, len, a, 8, w)) (h0 : σ.1 q0 = some (.inl (0, n0, f))) (h1 : σ.1 q1 = some (.inl (0, n1, g'))) (e1 : n = nI N) (e2 : dp = nI T) (e3 : sp = nI S) (l1 : S + N ≤ n0) (l2 : T + N ≤ n1) (l3 : S + N < 2147483648) (l4 : T + N < 2147483648) (k0 : 2 ≤ q0) (k1 : 2 ≤ q1) (hne : ¬ q0 = q1) (hr : st.length ≤ 8) (g : xGo E tb K (pc + len, ls, st, xup σ q1 (.inl (0, n1, va_cpy f g' S T N)))) : xGo E tb K (pc, ls, .inl n :: .inl dp :: .inr (some q1) :: .inl sp :: .inr (some q0) :: st, σ) := g0 hk (o := .inl _) (show xcall E a 8 (pc + len) ls (.inl n :: .inl dp :: .inr (some q1) :: .inl sp :: .inr (some q0) :: st) σ _ from ⟨n0, n1, f, g', N, S, T, h0, h1, e1, e2, e3, l1, l2, l3, l4, k0, k1, hne, hr, rfl⟩) g
end XRUN2
theorem xnew_up (σ : xS) (e e' : xE) (n : Nat) : xup (xnew σ e n) σ.2.1 e' = xnew σ e' n := by
  unfold xup xnew
  simp only
  refine congrArg (fun z => (z, _)) ?_
  funext j
  by_cases h : j = σ.2.1
  · simp [h]
  · simp [h]
theorem m_copyOf (d : Nat) {σ : xS} {q n k : Nat} {f : Nat → Int32} (h : σ.1 q = some (.inl (0, n, f))) (hk : k ≤ n) (hn : n ≤ 20000) (hq : 2 ≤ q) (hqn : q ≠ σ.2.1) (hn2 : 2 ≤ σ.2.1) : ∃ f' : Nat → Int32, (∀ j, j < k → f' j = f j) ∧ xEx (d + 1) 1 [.inr (some q), .inl (nI k)] σ (some (.inr (some σ.2.1))) (xnew σ (.inl (0, k, f')) k) := by
  by_cases hkn : k = n
  · subst hkn
    refine ⟨f, fun _ _ => rfl, by decide, rfl, ?_⟩
    show xGo (xEx d) xtb_1 _ (0, [some (.inr (some q)), some (.inl (nI k)), none], [], σ)
    repeat (first | refine gp rfl rfl rfl ?_ | refine ggf rfl (by assumption) (by rfl) ?_ | refine gal rfl (by assumption) (by rfl) (by omega) (by omega) ?_ | refine gil rfl (by assumption) (by rfl) (by omega) (by omega) ?_ | refine gbl rfl (by assumption) (by rfl) (by omega) (by omega) ?_ | refine gln rfl (xlen_i (by assumption)) ?_ | refine gln rfl (xlen_q (by assumption)) ?_)
    refine gcf rfl (fun z => z rfl) ?_
    repeat (first | refine gp rfl rfl rfl ?_ | refine ggf rfl (by assumption) (by rfl) ?_ | refine gal rfl (by assumption) (by rfl) (by omega) (by omega) ?_ | refine gil rfl (by assumption) (by rfl) (by omega) (by omega) ?_ | refine gbl rfl (by assumption) (by rfl) (by omega) (by omega) ?_ | refine gln rfl (xlen_i (by assumption)) ?_ | refine gln rfl (xlen_q (by assumption)) ?_)
    refine gcl rfl h hq (by decide) ?_
    refine gcc rfl (xnew_eq _ _ _) hn2 ?_
    exact gra rfl ⟨rfl, rfl⟩
  · refine ⟨va_cpy f (fun _ => 0) 0 0 k, fun j hj => ?_, by decide, rfl, ?_⟩
    · show (if 0 ≤ j ∧ j < 0 + k then f (0 + (j - 0)) else 0) = f j
      rw [if_pos (by omega), Nat.zero_add, Nat.sub_zero]
    show xGo (xEx d) xtb_1 _ (0, [some (.inr (some q)), some (.inl (nI k)), none], [], σ)
    repeat (first | refine gp rfl rfl rfl ?_ | refine ggf rfl (by assumption) (by rfl) ?_ | refine gal rfl (by assumption) (by rfl) (by omega) (by omega) ?_ | refine gil rfl (by assumption) (by rfl) (by omega) (by omega) ?_ | refine gbl rfl (by assumption) (by rfl) (by omega) (by omega) ?_ | refine gln rfl (xlen_i (by assumption)) ?_ | refine gln rfl (xlen_q (by assumption)) ?_)
    refine gct rfl (fun z => hkn ((nI_eq (by omega) (by omega)).mp z)) ?_
    repeat (first | refine gp rfl rfl rfl ?_ | refine ggf rfl (by assumption) (by rfl) ?_ | refine gal rfl (by assumption) (by rfl) (by omega) (by omega) ?_ | refine gil rfl (by assumption) (by rfl) (by omega) (by omega) ?_ | refine gbl rfl (by assumption) (by rfl) (by omega) (by omega) ?_ | refine gln rfl (xlen_i (by assumption)) ?_ | refine gln rfl (xlen_q (by assumption)) ?_)
    refine gna rfl rfl (by omega) ?_
    have h' : (xnew σ (.inl (0, k, fun _ => 0)) k).1 q = some (.inl (0, n, f)) := by rw [xnew_ne hqn]; exact h
    repeat (first | refine gp rfl rfl rfl ?_ | refine ggf rfl (by assumption) (by rfl) ?_ | refine gal rfl (by assumption) (by rfl) (by omega) (by omega) ?_ | refine gil rfl (by assumption) (by rfl) (by omega) (by omega) ?_ | refine gbl rfl (by assumption) (by rfl) (by omega) (by omega) ?_ | refine gln rfl (xlen_i (by assumption)) ?_ | refine gln rfl (xlen_q (by assumption)) ?_)
    refine gmn rfl (Nat.le_of_ble_eq_true rfl) ?_
    rw [mn_nI (by omega) (by omega), Nat.min_eq_right hk]
    refine gac (N := k) (S := 0) (T := 0) rfl h' (xnew_eq _ _ _) rfl rfl rfl (by omega) (by omega) (by omega) (by omega) hq hn2 hqn (by decide) ?_
    rw [xnew_up]
    repeat (first | refine gp rfl rfl rfl ?_ | refine ggf rfl (by assumption) (by rfl) ?_ | refine gal rfl (by assumption) (by rfl) (by omega) (by omega) ?_ | refine gil rfl (by assumption) (by rfl) (by omega) (by omega) ?_ | refine gbl rfl (by assumption) (by rfl) (by omega) (by omega) ?_ | refine gln rfl (xlen_i (by assumption)) ?_ | refine gln rfl (xlen_q (by assumption)) ?_)
    exact gra rfl ⟨rfl, rfl⟩
theorem m_hasClash (d : Nat) {σ : xS} {w : List Int32} {c : Bool} (h : hLM σ w c) : xEx (d + 1) 50 [.inr (some 21)] σ (some (.inl (bI c))) σ := by
  obtain ⟨h1, -⟩ := h
  refine ⟨by decide, rfl, ?_⟩
  show xGo (xEx d) xtb_50 _ (0, [some (.inr (some 21))], [], σ)
  repeat (first | refine gp rfl rfl rfl ?_ | refine ggf rfl (by assumption) (by rfl) ?_ | refine gal rfl (by assumption) (by rfl) (by omega) (by omega) ?_ | refine gil rfl (by assumption) (by rfl) (by omega) (by omega) ?_ | refine gbl rfl (by assumption) (by rfl) (by omega) (by omega) ?_ | refine gln rfl (xlen_i (by assumption)) ?_ | refine gln rfl (xlen_q (by assumption)) ?_)
  refine gri rfl (fun _ => ?_) ⟨rfl, rfl⟩
  cases c
  · exact Or.inl rfl
  · exact Or.inr rfl
theorem m_takeWritten (d : Nat) {σ : xS} {w : List Int32} {c : Bool} (h : hLM σ w c) (hs : 63 ≤ σ.2.1) : ∃ f' : Nat → Int32, (∀ j, j < w.length → f' j = w.getD j 0) ∧ xEx (d + 2) 51 [.inr (some 21)] σ (some (.inr (some σ.2.1))) (xnew σ (.inl (0, w.length, f')) w.length) := by
  obtain ⟨h1, h2, f, h3, h4⟩ := h
  obtain ⟨f', e1, e2⟩ := m_copyOf d (k := w.length) h3 h2 (by omega) (by decide) (by omega) (by omega)
  refine ⟨f', fun j hj => (e1 j hj).trans (h4 j hj), by decide, rfl, ?_⟩
  show xGo (xEx (d + 1)) xtb_51 _ (0, [some (.inr (some 21))], [], σ)
  repeat (first | refine gp rfl rfl rfl ?_ | refine ggf rfl (by assumption) (by rfl) ?_ | refine gal rfl (by assumption) (by rfl) (by omega) (by omega) ?_ | refine gil rfl (by assumption) (by rfl) (by omega) (by omega) ?_ | refine gbl rfl (by assumption) (by rfl) (by omega) (by omega) ?_ | refine gln rfl (xlen_i (by assumption)) ?_ | refine gln rfl (xlen_q (by assumption)) ?_)
  refine gcs (As := [.inr (some 37), .inl (nI w.length)]) (rest := []) rfl (by decide) e2 rfl rfl (by decide) ?_
  exact gra rfl ⟨rfl, rfl⟩
/-- the merger -/
def hMg (σ : xS) : Prop := σ.1 4 = some (.inr (.inr (4, [.inr (some 5), .inr (some 6), .inr (some 13), .inr (some 20), .inr (some 21)]))) ∧ ∃ g : Nat → Option Nat, σ.1 5 = some (.inr (.inl (1, 3, g))) ∧ g 0 = some 38 ∧ g 1 = some 40 ∧ g 2 = some 42
/-- the codes -/
def hCo (σ : xS) (C : Nat → Int32) : Prop := ∃ f : Nat → Int32, σ.1 20 = some (.inl (0, 64, f)) ∧ ∀ p, p < 64 → f p = C p
def cUp (C : Nat → Int32) (p : Nat) (k : Int32) : Nat → Int32 := fun z => if z = p then C z ||| k else C z
theorem cUp_zero (C : Nat → Int32) (p : Nat) : cUp C p 0 = C := by
  funext z
  unfold cUp
  split
  · exact Int32.or_zero
  · rfl
theorem m_codesAt (d : Nat) {σ : xS} {C : Nat → Int32} {p : Nat} (hM : hMg σ) (hC : hCo σ C) (hp : p < 64) : xEx (d + 2) 60 [.inr (some 4), .inl (nI p)] σ (some (.inl (C p))) σ := by
  obtain ⟨h4, -⟩ := hM
  obtain ⟨f, c1, c2⟩ := hC
  refine ⟨by decide, rfl, ?_⟩
  show xGo (xEx (d + 1)) xtb_60 _ (0, [some (.inr (some 4)), some (.inl (nI p))], [], σ)
  repeat (first | refine gp rfl rfl rfl ?_ | refine ggf rfl (by assumption) (by rfl) ?_ | refine gal rfl (by assumption) (by rfl) (by omega) (by omega) ?_ | refine gil rfl (by assumption) (by rfl) (by omega) (by omega) ?_ | refine gbl rfl (by assumption) (by rfl) (by omega) (by omega) ?_ | refine gln rfl (xlen_i (by assumption)) ?_ | refine gln rfl (xlen_q (by assumption)) ?_)
  refine gcs rfl (by decide) (m_isPath d (nI p) σ) rfl rfl (by decide) ?_
  rw [if_pos (p_ok hp)]
  refine giff rfl (fun h => absurd (show (1 : Int32) = 0 from h) (by decide)) ?_
  repeat (first | refine gp rfl rfl rfl ?_ | refine ggf rfl (by assumption) (by rfl) ?_ | refine gal rfl (by assumption) (by rfl) (by omega) (by omega) ?_ | refine gil rfl (by assumption) (by rfl) (by omega) (by omega) ?_ | refine gbl rfl (by assumption) (by rfl) (by omega) (by omega) ?_ | refine gln rfl (xlen_i (by assumption)) ?_ | refine gln rfl (xlen_q (by assumption)) ?_)
  rw [c2 p hp]
  exact gri rfl (fun h => absurd h (by decide)) ⟨rfl, rfl⟩
theorem m_codesAt_no (d : Nat) {σ : xS} {x : Int32} (hx : ¬ (0 ≤ x ∧ x < nI 64)) : xEx (d + 2) 60 [.inr (some 4), .inl x] σ (some (.inl 0)) σ := by
  refine ⟨by decide, rfl, ?_⟩
  show xGo (xEx (d + 1)) xtb_60 _ (0, [some (.inr (some 4)), some (.inl x)], [], σ)
  repeat (first | refine gp rfl rfl rfl ?_ | refine ggf rfl (by assumption) (by rfl) ?_ | refine gal rfl (by assumption) (by rfl) (by omega) (by omega) ?_ | refine gil rfl (by assumption) (by rfl) (by omega) (by omega) ?_ | refine gbl rfl (by assumption) (by rfl) (by omega) (by omega) ?_ | refine gln rfl (xlen_i (by assumption)) ?_ | refine gln rfl (xlen_q (by assumption)) ?_)
  refine gcs rfl (by decide) (m_isPath d x σ) rfl rfl (by decide) ?_
  rw [if_neg hx]
  refine git rfl (show (0 : Int32) = 0 from rfl) ?_
  repeat (first | refine gp rfl rfl rfl ?_ | refine ggf rfl (by assumption) (by rfl) ?_ | refine gal rfl (by assumption) (by rfl) (by omega) (by omega) ?_ | refine gil rfl (by assumption) (by rfl) (by omega) (by omega) ?_ | refine gbl rfl (by assumption) (by rfl) (by omega) (by omega) ?_ | refine gln rfl (xlen_i (by assumption)) ?_ | refine gln rfl (xlen_q (by assumption)) ?_)
  exact gri rfl (fun h => absurd h (by decide)) ⟨rfl, rfl⟩
theorem m_mark (d : Nat) {σ : xS} {C : Nat → Int32} {p : Nat} {k : Int32} (hM : hMg σ) (hC : hCo σ C) (hp : p < 64) : ∃ f : Nat → Int32, xEx (d + 2) 56 [.inr (some 4), .inl (nI p), .inl k] σ none (xup σ 20 (.inl (0, 64, f))) ∧ hCo (xup σ 20 (.inl (0, 64, f))) (cUp C p k) := by
  obtain ⟨h4, -⟩ := hM
  obtain ⟨f, c1, c2⟩ := hC
  refine ⟨upd f p (f p ||| k), ⟨by decide, rfl, ?_⟩, upd f p (f p ||| k), xup_eq _ _ _, fun z hz => ?_⟩
  · show xGo (xEx (d + 1)) xtb_56 _ (0, [some (.inr (some 4)), some (.inl (nI p)), some (.inl k)], [], σ)
    repeat (first | refine gp rfl rfl rfl ?_ | refine ggf rfl (by assumption) (by rfl) ?_ | refine gal rfl (by assumption) (by rfl) (by omega) (by omega) ?_ | refine gil rfl (by assumption) (by rfl) (by omega) (by omega) ?_ | refine gbl rfl (by assumption) (by rfl) (by omega) (by omega) ?_ | refine gln rfl (xlen_i (by assumption)) ?_ | refine gln rfl (xlen_q (by assumption)) ?_)
    refine gcs rfl (by decide) (m_isPath d (nI p) σ) rfl rfl (by decide) ?_
    rw [if_pos (p_ok hp)]
    refine giff rfl (fun h => absurd (show (1 : Int32) = 0 from h) (by decide)) ?_
    repeat (first | refine gp rfl rfl rfl ?_ | refine ggf rfl (by assumption) (by rfl) ?_ | refine gal rfl (by assumption) (by rfl) (by omega) (by omega) ?_ | refine gil rfl (by assumption) (by rfl) (by omega) (by omega) ?_ | refine gbl rfl (by assumption) (by rfl) (by omega) (by omega) ?_ | refine gln rfl (xlen_i (by assumption)) ?_ | refine gln rfl (xlen_q (by assumption)) ?_)
    refine gis rfl c1 rfl hp (by omega) (by decide) ?_
    exact grv rfl ⟨rfl, rfl⟩
  · unfold cUp upd
    split
    · rename_i hzp
      subst hzp
      rw [c2 z hz]
    · exact c2 z hz
