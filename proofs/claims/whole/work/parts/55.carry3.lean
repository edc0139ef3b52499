/-! MODULE: renames are carried (the choice), conflicts are counted, the class -/
/-- what a side found: targets, places, stands -/
def hSide (σ : xS) (a : Nat) (R : Nat → Option Nat) (P : Nat → pP) (S : Nat → Option Nat) : Prop := hSd σ a ∧ (∃ ft : Nat → Int32, σ.1 (a + 1) = some (.inl (0, 64, ft)) ∧ ∀ p, p < 64 → ft p = oI (R p)) ∧ (∃ fs, σ.1 (a + 2) = some (.inl (2, 64, fs))) ∧ (∃ fl, σ.1 (a + 3) = some (.inl (2, 64, fl))) ∧ (∃ fp : Nat → Int32, σ.1 (a + 4) = some (.inl (0, 8, fp)) ∧ ∀ f, f < 8 → fp f = plI (P f)) ∧ (∃ fw, σ.1 (a + 5) = some (.inl (0, 64, fw))) ∧ (∃ fz : Nat → Int32, σ.1 (a + 6) = some (.inl (0, 64, fz)) ∧ ∀ p, p < 64 → fz p = oI (S p))
theorem hSide.of {σ σ' : xS} {a : Nat} {R : Nat → Option Nat} {P : Nat → pP} {S : Nat → Option Nat} (h : hSide σ a R P S) (hk : ∀ k, a ≤ k → k ≤ a + 6 → σ'.1 k = σ.1 k) : hSide σ' a R P S := by
  obtain ⟨h0, ⟨ft, h1, h1'⟩, ⟨fs, h2⟩, ⟨fl, h3⟩, ⟨fp, h4, h4'⟩, ⟨fw, h5⟩, ⟨fz, h6, h6'⟩⟩ := h
  exact ⟨by unfold hSd; rw [hk a (by omega) (by omega)]; exact h0, ⟨ft, by rw [hk _ (by omega) (by omega)]; exact h1, h1'⟩, ⟨fs, by rw [hk _ (by omega) (by omega)]; exact h2⟩, ⟨fl, by rw [hk _ (by omega) (by omega)]; exact h3⟩, ⟨fp, by rw [hk _ (by omega) (by omega)]; exact h4, h4'⟩, ⟨fw, by rw [hk _ (by omega) (by omega)]; exact h5⟩, ⟨fz, by rw [hk _ (by omega) (by omega)]; exact h6, h6'⟩⟩
def oLt (R : Nat → Option Nat) : Prop := ∀ p q, p < 64 → R p = some q → q < 64
def pTo (R S : Nat → Option Nat) (p : Nat) : Option Nat := (R p).bind S
theorem pTo_lt {R S : Nat → Option Nat} {p q : Nat} (hR : oLt R) (hS : oLt S) (hp : p < 64) (h : pTo R S p = some q) : q < 64 := by
  unfold pTo at h
  cases hr : R p with
  | none => rw [hr] at h; cases h
  | some z => rw [hr] at h; exact hS z q (hR p z hp hr) h
theorem m_to (d : Nat) {σ : xS} {a p : Nat} {R : Nat → Option Nat} {P : Nat → pP} {S : Nat → Option Nat} (h : hSide σ a R P S) (hR : oLt R) (hp : p < 64) : xEx (d + 2) 34 [.inr (some a), .inl (nI p)] σ (some (.inl (oI (R p)))) σ ∧ xEx (d + 2) 35 [.inr (some a), .inl (oI (R p))] σ (some (.inl (oI (pTo R S p)))) σ := by
  obtain ⟨h0, ⟨ft, h1, h1'⟩, -, -, -, -, ⟨fz, h6, h6'⟩⟩ := h
  refine ⟨?_, ?_⟩
  · have := m_targetOf d h0 h1 hp
    rw [h1' p hp] at this
    exact this
  · unfold pTo
    cases hr : R p with
    | none => exact m_standOf_no d (by decide)
    | some q =>
      have hq := hR p q hp hr
      have := m_standOf d h0 h6 hq
      rw [h6' q hq] at this
      exact this
def pCarV (st : Nat) (i j : Option Nat) (V : Nat → pT) (p : Nat) : Nat → pT := match i, j with
  | some i, some j => if i = j then vU V 0 (pMv (V 0) p i) else V
  | some i, none => pOneV st 1 2 V p i
  | none, some j => pOneV st 2 1 V p j
  | none, none => V
def pCarC (st : Nat) (i j : Option Nat) (V : Nat → pT) (C : Nat → Int32) (p : Nat) : Nat → Int32 := match i, j with
  | some i, some j => if i = j then C else cUp (cUp (cUp C p (nI 32)) i (nI 32)) j (nI 32)
  | some i, none => pOneC st 1 2 V C p i
  | none, some j => pOneC st 2 1 V C p j
  | none, none => C
theorem oI_none : oI none = xk 1 1 := xk_m1.symm
theorem oI_some {q : Nat} (h : q < 64) : ¬ oI (some q) = xk 1 1 := fun z => oI_ne (q := q) (by omega) ((show nI q = xk 1 1 from z).trans xk_m1)
theorem m_carryRename (d : Nat) {σ : xS} {V : Nat → pT} {C : Nat → Int32} {p st : Nat} {R1 S1 R2 S2 : Nat → Option Nat} {P1 P2 : Nat → pP} (h : hMS σ V C) (s1 : hSide σ 6 R1 P1 S1) (s2 : hSide σ 13 R2 P2 S2) (hR1 : oLt R1) (hS1 : oLt S1) (hR2 : oLt R2) (hS2 : oLt S2) (so : ∀ O, V 0 p = some O → O.2.length ≤ 8) (hp : p < 64) (hst : st < 1000) :
    ∃ σ', xEx (d + 6) 54 [.inr (some 4), .inl (nI p), .inl (nI st)] σ none σ' ∧ hMS σ' (pCarV st (pTo R1 S1 p) (pTo R2 S2 p) V p) (pCarC st (pTo R1 S1 p) (pTo R2 S2 p) V C p) ∧ hGq σ σ' 2 78 := by
  let K : Option xV → xS → Prop := fun r0 σ0 => r0 = none ∧ hMS σ0 (pCarV st (pTo R1 S1 p) (pTo R2 S2 p) V p) (pCarC st (pTo R1 S1 p) (pTo R2 S2 p) V C p) ∧ hGq σ σ0 2 78
  have main : xGo (xEx (d + 5)) xtb_54 K (0, [some (.inr (some 4)), some (.inl (nI p)), some (.inl (nI st)), none, none], [], σ) := by
    have h4 := h.1.1
    obtain ⟨a1, a2⟩ := m_to (d + 3) s1 hR1 hp
    obtain ⟨b1, b2⟩ := m_to (d + 3) s2 hR2 hp
    have c1 : σ.1 6 = some (.inr (.inr (3, _))) := s1.1
    have c2 : σ.1 13 = some (.inr (.inr (3, _))) := s2.1
    repeat (first | refine gp rfl rfl rfl ?_ | refine ggf rfl (by assumption) (by rfl) ?_ | refine gal rfl (by assumption) (by rfl) (by omega) (by omega) ?_ | refine gil rfl (by assumption) (by rfl) (by omega) (by omega) ?_ | refine gbl rfl (by assumption) (by rfl) (by omega) (by omega) ?_ | refine gln rfl (xlen_i (by assumption)) ?_ | refine gln rfl (xlen_q (by assumption)) ?_)
    refine gcv (As := [.inl (nI p)]) (rest := [.inr (some 6)]) rfl (by decide) a1 c1 rfl rfl (by decide) ?_
    refine gcv (As := [.inl (oI (R1 p))]) (rest := []) rfl (by decide) a2 c1 rfl rfl (by decide) ?_
    repeat (first | refine gp rfl rfl rfl ?_ | refine ggf rfl (by assumption) (by rfl) ?_ | refine gal rfl (by assumption) (by rfl) (by omega) (by omega) ?_ | refine gil rfl (by assumption) (by rfl) (by omega) (by omega) ?_ | refine gbl rfl (by assumption) (by rfl) (by omega) (by omega) ?_ | refine gln rfl (xlen_i (by assumption)) ?_ | refine gln rfl (xlen_q (by assumption)) ?_)
    refine gcv (As := [.inl (nI p)]) (rest := [.inr (some 13)]) rfl (by decide) b1 c2 rfl rfl (by decide) ?_
    refine gcv (As := [.inl (oI (R2 p))]) (rest := []) rfl (by decide) b2 c2 rfl rfl (by decide) ?_
    have l1 := fun q => pTo_lt (q := q) hR1 hS1 hp
    have l2 := fun q => pTo_lt (q := q) hR2 hS2 hp
    have KK : K = fun r0 σ0 => r0 = none ∧ hMS σ0 (pCarV st (pTo R1 S1 p) (pTo R2 S2 p) V p) (pCarC st (pTo R1 S1 p) (pTo R2 S2 p) V C p) ∧ hGq σ σ0 2 78 := rfl
    rw [KK]
    clear KK a2 b2
    generalize pTo R1 S1 p = i at *
    generalize pTo R2 S2 p = j at *
    repeat (first | refine gp rfl rfl rfl ?_ | refine ggf rfl (by assumption) (by rfl) ?_ | refine gal rfl (by assumption) (by rfl) (by omega) (by omega) ?_ | refine gil rfl (by assumption) (by rfl) (by omega) (by omega) ?_ | refine gbl rfl (by assumption) (by rfl) (by omega) (by omega) ?_ | refine gln rfl (xlen_i (by assumption)) ?_ | refine gln rfl (xlen_q (by assumption)) ?_)
    cases i with
    | none =>
      refine gct rfl oI_none ?_
      repeat (first | refine gp rfl rfl rfl ?_ | refine ggf rfl (by assumption) (by rfl) ?_ | refine gal rfl (by assumption) (by rfl) (by omega) (by omega) ?_ | refine gil rfl (by assumption) (by rfl) (by omega) (by omega) ?_ | refine gbl rfl (by assumption) (by rfl) (by omega) (by omega) ?_ | refine gln rfl (xlen_i (by assumption)) ?_ | refine gln rfl (xlen_q (by assumption)) ?_)
      refine gct rfl oI_none ?_
      repeat (first | refine gp rfl rfl rfl ?_ | refine ggf rfl (by assumption) (by rfl) ?_ | refine gal rfl (by assumption) (by rfl) (by omega) (by omega) ?_ | refine gil rfl (by assumption) (by rfl) (by omega) (by omega) ?_ | refine gbl rfl (by assumption) (by rfl) (by omega) (by omega) ?_ | refine gln rfl (xlen_i (by assumption)) ?_ | refine gln rfl (xlen_q (by assumption)) ?_)
      cases j with
      | none =>
        refine gct rfl oI_none ?_
        exact grv rfl ⟨rfl, h, (hGq.refl h.2.2.2.2.1).wide (by omega) (by omega)⟩
      | some j =>
        have hj := l2 j rfl
        refine gcf rfl (oI_some hj) ?_
        repeat (first | refine gp rfl rfl rfl ?_ | refine ggf rfl (by assumption) (by rfl) ?_ | refine gal rfl (by assumption) (by rfl) (by omega) (by omega) ?_ | refine gil rfl (by assumption) (by rfl) (by omega) (by omega) ?_ | refine gbl rfl (by assumption) (by rfl) (by omega) (by omega) ?_ | refine gln rfl (xlen_i (by assumption)) ?_ | refine gln rfl (xlen_q (by assumption)) ?_)
        obtain ⟨σ1, x1, x2, x3⟩ := m_carryByOne d (s := 2) (q := 1) (st := st) h (Or.inr ⟨rfl, rfl⟩) so hp hj hst
        refine gcv (As := [.inl (nI 2), .inl (nI p), .inl (nI j), .inl (nI st)]) (rest := []) rfl (by decide) x1 h4 rfl rfl (by decide) ?_
        exact grv rfl ⟨rfl, x2, x3⟩
    | some i =>
      have hi := l1 i rfl
      refine gcf rfl (oI_some hi) ?_
      repeat (first | refine gp rfl rfl rfl ?_ | refine ggf rfl (by assumption) (by rfl) ?_ | refine gal rfl (by assumption) (by rfl) (by omega) (by omega) ?_ | refine gil rfl (by assumption) (by rfl) (by omega) (by omega) ?_ | refine gbl rfl (by assumption) (by rfl) (by omega) (by omega) ?_ | refine gln rfl (xlen_i (by assumption)) ?_ | refine gln rfl (xlen_q (by assumption)) ?_)
      cases j with
      | none =>
        refine gct rfl oI_none ?_
        repeat (first | refine gp rfl rfl rfl ?_ | refine ggf rfl (by assumption) (by rfl) ?_ | refine gal rfl (by assumption) (by rfl) (by omega) (by omega) ?_ | refine gil rfl (by assumption) (by rfl) (by omega) (by omega) ?_ | refine gbl rfl (by assumption) (by rfl) (by omega) (by omega) ?_ | refine gln rfl (xlen_i (by assumption)) ?_ | refine gln rfl (xlen_q (by assumption)) ?_)
        refine gcf rfl (oI_some hi) ?_
        repeat (first | refine gp rfl rfl rfl ?_ | refine ggf rfl (by assumption) (by rfl) ?_ | refine gal rfl (by assumption) (by rfl) (by omega) (by omega) ?_ | refine gil rfl (by assumption) (by rfl) (by omega) (by omega) ?_ | refine gbl rfl (by assumption) (by rfl) (by omega) (by omega) ?_ | refine gln rfl (xlen_i (by assumption)) ?_ | refine gln rfl (xlen_q (by assumption)) ?_)
        obtain ⟨σ1, x1, x2, x3⟩ := m_carryByOne d (s := 1) (q := 2) (st := st) h (Or.inl ⟨rfl, rfl⟩) so hp hi hst
        refine gcv (As := [.inl (nI 1), .inl (nI p), .inl (nI i), .inl (nI st)]) (rest := []) rfl (by decide) x1 h4 rfl rfl (by decide) ?_
        repeat (first | refine gp rfl rfl rfl ?_ | refine ggf rfl (by assumption) (by rfl) ?_ | refine gal rfl (by assumption) (by rfl) (by omega) (by omega) ?_ | refine gil rfl (by assumption) (by rfl) (by omega) (by omega) ?_ | refine gbl rfl (by assumption) (by rfl) (by omega) (by omega) ?_ | refine gln rfl (xlen_i (by assumption)) ?_ | refine gln rfl (xlen_q (by assumption)) ?_)
        exact grv rfl ⟨rfl, x2, x3⟩
      | some j =>
        have hj := l2 j rfl
        refine gcf rfl (oI_some hj) ?_
        repeat (first | refine gp rfl rfl rfl ?_ | refine ggf rfl (by assumption) (by rfl) ?_ | refine gal rfl (by assumption) (by rfl) (by omega) (by omega) ?_ | refine gil rfl (by assumption) (by rfl) (by omega) (by omega) ?_ | refine gbl rfl (by assumption) (by rfl) (by omega) (by omega) ?_ | refine gln rfl (xlen_i (by assumption)) ?_ | refine gln rfl (xlen_q (by assumption)) ?_)
        obtain ⟨σ1, x1, x2, x3⟩ := m_carryByBoth (d + 1) h hp hi hj
        refine gcv (As := [.inl (nI p), .inl (nI i), .inl (nI j)]) (rest := []) rfl (by decide) x1 h4 rfl rfl (by decide) ?_
        repeat (first | refine gp rfl rfl rfl ?_ | refine ggf rfl (by assumption) (by rfl) ?_ | refine gal rfl (by assumption) (by rfl) (by omega) (by omega) ?_ | refine gil rfl (by assumption) (by rfl) (by omega) (by omega) ?_ | refine gbl rfl (by assumption) (by rfl) (by omega) (by omega) ?_ | refine gln rfl (xlen_i (by assumption)) ?_ | refine gln rfl (xlen_q (by assumption)) ?_)
        exact grv rfl ⟨rfl, x2, x3.wide (by omega) (by omega)⟩
  obtain ⟨r, σ', hex, rfl, g1, g2⟩ := ex_of (d := d + 5) (y := 54) (as := [.inr (some 4), .inl (nI p), .inl (nI st)]) (σ := σ) (K := K) (by decide) rfl main
  exact ⟨σ', hex, g1, g2⟩
theorem m_countConflictPaths (d : Nat) {σ : xS} {C : Nat → Int32} (hM : hMg σ) (hC : hCo σ C) : xEx (d + 1) 61 [.inr (some 4)] σ (some (.inl (nI (pCnt (fun p => decide (¬ C p = 0)) 64)))) σ := by
  have h4 := hM.1
  obtain ⟨f, c1, c2⟩ := hC
  refine ⟨by decide, rfl, ?_⟩
  show xGo (xEx d) xtb_61 _ (0, [some (.inr (some 4)), none, none], [], σ)
  have loop : ∀ k i, i + k = 64 → xGo (xEx d) xtb_61 (fun r0 σ0 => r0 = some (.inl (nI (pCnt (fun p => decide (¬ C p = 0)) 64))) ∧ σ0 = σ) (7, [some (.inr (some 4)), some (.inl (nI (pCnt (fun p => decide (¬ C p = 0)) i))), some (.inl (nI i))], [.inl (nI 64), .inl (nI i)], σ) := by
    intro k
    induction k with
    | zero =>
      intro i hi
      obtain rfl : i = 64 := by omega
      refine gct rfl (show nI 64 ≤ nI _ from nI_le (by omega) (by omega)) ?_
      repeat (first | refine gp rfl rfl rfl ?_ | refine ggf rfl (by assumption) (by rfl) ?_ | refine gal rfl (by assumption) (by rfl) (by omega) (by omega) ?_ | refine gil rfl (by assumption) (by rfl) (by omega) (by omega) ?_ | refine gbl rfl (by assumption) (by rfl) (by omega) (by omega) ?_ | refine gln rfl (xlen_i (by assumption)) ?_ | refine gln rfl (xlen_q (by assumption)) ?_)
      exact gri rfl (fun h => absurd h (by decide)) ⟨rfl, rfl⟩
    | succ k ih =>
      intro i hi
      refine gcf rfl (nI_ge (by omega) (by omega)) ?_
      repeat (first | refine gp rfl rfl rfl ?_ | refine ggf rfl (by assumption) (by rfl) ?_ | refine gal rfl (by assumption) (by rfl) (by omega) (by omega) ?_ | refine gil rfl (by assumption) (by rfl) (by omega) (by omega) ?_ | refine gbl rfl (by assumption) (by rfl) (by omega) (by omega) ?_ | refine gln rfl (xlen_i (by assumption)) ?_ | refine gln rfl (xlen_q (by assumption)) ?_)
      rw [c2 i (by omega)]
      have ih1 := ih (i + 1) (by omega)
      rw [pCnt_s _ i] at ih1
      by_cases hc : C i = 0
      · refine git rfl hc ?_
        repeat (first | refine gp rfl rfl rfl ?_ | refine ggf rfl (by assumption) (by rfl) ?_ | refine gal rfl (by assumption) (by rfl) (by omega) (by omega) ?_ | refine gil rfl (by assumption) (by rfl) (by omega) (by omega) ?_ | refine gbl rfl (by assumption) (by rfl) (by omega) (by omega) ?_ | refine gln rfl (xlen_i (by assumption)) ?_ | refine gln rfl (xlen_q (by assumption)) ?_)
        rw [nI_s]
        rw [if_neg (by simp [hc]), Nat.add_zero] at ih1
        exact ih1
      · refine giff rfl hc ?_
        repeat (first | refine gp rfl rfl rfl ?_ | refine ggf rfl (by assumption) (by rfl) ?_ | refine gal rfl (by assumption) (by rfl) (by omega) (by omega) ?_ | refine gil rfl (by assumption) (by rfl) (by omega) (by omega) ?_ | refine gbl rfl (by assumption) (by rfl) (by omega) (by omega) ?_ | refine gln rfl (xlen_i (by assumption)) ?_ | refine gln rfl (xlen_q (by assumption)) ?_)
        rw [nI_s, nI_s]
        rw [if_pos (by simp [hc])] at ih1
        exact ih1
  repeat (first | refine gp rfl rfl rfl ?_ | refine ggf rfl (by assumption) (by rfl) ?_ | refine gal rfl (by assumption) (by rfl) (by omega) (by omega) ?_ | refine gil rfl (by assumption) (by rfl) (by omega) (by omega) ?_ | refine gbl rfl (by assumption) (by rfl) (by omega) (by omega) ?_ | refine gln rfl (xlen_i (by assumption)) ?_ | refine gln rfl (xlen_q (by assumption)) ?_)
  exact loop 64 0 rfl
theorem m_stagedFile (d : Nat) {σ : xS} {V : Nat → pT} {C : Nat → Int32} {v p : Nat} (h : hMS σ V C) (hv : v < 3) (hp : p < 64) : ∃ q, xEx (d + 3) 62 [.inr (some 4), .inl (nI v), .inl (nI p)] σ (some (.inr q)) σ ∧ hOpt σ q (if C p = 0 then none else V v p) := by
  have h4 := h.1.1
  obtain ⟨g, h5, hg⟩ := h.1.at
  have tv := h.2.2.2.2.2 v hv
  obtain ⟨q, f1, o1⟩ := m_fileAtT d tv hp
  refine ⟨if C p = 0 then none else q, ⟨by decide, rfl, ?_⟩, by split; trivial; exact o1⟩
  show xGo (xEx (d + 2)) xtb_62 _ (0, [some (.inr (some 4)), some (.inl (nI v)), some (.inl (nI p)), none], [], σ)
  repeat (first | refine gp rfl rfl rfl ?_ | refine ggf rfl (by assumption) (by rfl) ?_ | refine gal rfl (by assumption) (by rfl) (by omega) (by omega) ?_ | refine gil rfl (by assumption) (by rfl) (by omega) (by omega) ?_ | refine gbl rfl (by assumption) (by rfl) (by omega) (by omega) ?_ | refine gln rfl (xlen_i (by assumption)) ?_ | refine gln rfl (xlen_q (by assumption)) ?_)
  refine giff rfl (show ¬ nI v < 0 from nI_pos (by omega)) ?_
  repeat (first | refine gp rfl rfl rfl ?_ | refine ggf rfl (by assumption) (by rfl) ?_ | refine gal rfl (by assumption) (by rfl) (by omega) (by omega) ?_ | refine gil rfl (by assumption) (by rfl) (by omega) (by omega) ?_ | refine gbl rfl (by assumption) (by rfl) (by omega) (by omega) ?_ | refine gln rfl (xlen_i (by assumption)) ?_ | refine gln rfl (xlen_q (by assumption)) ?_)
  refine gcf rfl (show ¬ nI 3 ≤ nI v from nI_ge (by omega) (by omega)) ?_
  repeat (first | refine gp rfl rfl rfl ?_ | refine ggf rfl (by assumption) (by rfl) ?_ | refine gal rfl (by assumption) (by rfl) (by omega) (by omega) ?_ | refine gil rfl (by assumption) (by rfl) (by omega) (by omega) ?_ | refine gbl rfl (by assumption) (by rfl) (by omega) (by omega) ?_ | refine gln rfl (xlen_i (by assumption)) ?_ | refine gln rfl (xlen_q (by assumption)) ?_)
  refine giff rfl (fun h => absurd (show (1 : Int32) = 0 from h) (by decide)) ?_
  repeat (first | refine gp rfl rfl rfl ?_ | refine ggf rfl (by assumption) (by rfl) ?_ | refine gal rfl (by assumption) (by rfl) (by omega) (by omega) ?_ | refine gil rfl (by assumption) (by rfl) (by omega) (by omega) ?_ | refine gbl rfl (by assumption) (by rfl) (by omega) (by omega) ?_ | refine gln rfl (xlen_i (by assumption)) ?_ | refine gln rfl (xlen_q (by assumption)) ?_)
  refine gcv (As := [.inl (nI p)]) (rest := []) rfl (by decide) (m_codesAt d h.1 h.2.2.1 hp) h4 rfl rfl (by decide) ?_
  by_cases hc : C p = 0
  · refine git rfl hc ?_
    repeat (first | refine gp rfl rfl rfl ?_ | refine ggf rfl (by assumption) (by rfl) ?_ | refine gal rfl (by assumption) (by rfl) (by omega) (by omega) ?_ | refine gil rfl (by assumption) (by rfl) (by omega) (by omega) ?_ | refine gbl rfl (by assumption) (by rfl) (by omega) (by omega) ?_ | refine gln rfl (xlen_i (by assumption)) ?_ | refine gln rfl (xlen_q (by assumption)) ?_)
    exact gra rfl ⟨by rw [if_pos hc], rfl⟩
  · refine giff rfl hc ?_
    repeat (first | refine gp rfl rfl rfl ?_ | refine ggf rfl (by assumption) (by rfl) ?_ | refine gal rfl (by assumption) (by rfl) (by omega) (by omega) ?_ | refine gil rfl (by assumption) (by rfl) (by omega) (by omega) ?_ | refine gbl rfl (by assumption) (by rfl) (by omega) (by omega) ?_ | refine gln rfl (xlen_i (by assumption)) ?_ | refine gln rfl (xlen_q (by assumption)) ?_)
    rw [hg v hv]
    refine gcv (As := [.inl (nI p)]) (rest := []) rfl (by decide) f1 tv.obj rfl rfl (by decide) ?_
    repeat (first | refine gp rfl rfl rfl ?_ | refine ggf rfl (by assumption) (by rfl) ?_ | refine gal rfl (by assumption) (by rfl) (by omega) (by omega) ?_ | refine gil rfl (by assumption) (by rfl) (by omega) (by omega) ?_ | refine gbl rfl (by assumption) (by rfl) (by omega) (by omega) ?_ | refine gln rfl (xlen_i (by assumption)) ?_ | refine gln rfl (xlen_q (by assumption)) ?_)
    exact gra rfl ⟨by rw [if_neg hc], rfl⟩
theorem m_stagedFile_no (d : Nat) {σ : xS} {x y : Int32} (h : hMg σ) (hx : ¬ (0 ≤ x ∧ x < nI 3) ∨ ¬ (0 ≤ y ∧ y < nI 64)) : xEx (d + 3) 62 [.inr (some 4), .inl x, .inl y] σ (some (.inr none)) σ := by
  have h4 := h.1
  refine ⟨by decide, rfl, ?_⟩
  show xGo (xEx (d + 2)) xtb_62 _ (0, [some (.inr (some 4)), some (.inl x), some (.inl y), none], [], σ)
  repeat (first | refine gp rfl rfl rfl ?_ | refine ggf rfl (by assumption) (by rfl) ?_ | refine gal rfl (by assumption) (by rfl) (by omega) (by omega) ?_ | refine gil rfl (by assumption) (by rfl) (by omega) (by omega) ?_ | refine gbl rfl (by assumption) (by rfl) (by omega) (by omega) ?_ | refine gln rfl (xlen_i (by assumption)) ?_ | refine gln rfl (xlen_q (by assumption)) ?_)
  refine gif' rfl (fun hn => ?_) (fun hn => ?_)
  · repeat (first | refine gp rfl rfl rfl ?_ | refine ggf rfl (by assumption) (by rfl) ?_ | refine gal rfl (by assumption) (by rfl) (by omega) (by omega) ?_ | refine gil rfl (by assumption) (by rfl) (by omega) (by omega) ?_ | refine gbl rfl (by assumption) (by rfl) (by omega) (by omega) ?_ | refine gln rfl (xlen_i (by assumption)) ?_ | refine gln rfl (xlen_q (by assumption)) ?_)
    refine git rfl (show (0 : Int32) = 0 from rfl) ?_
    repeat (first | refine gp rfl rfl rfl ?_ | refine ggf rfl (by assumption) (by rfl) ?_ | refine gal rfl (by assumption) (by rfl) (by omega) (by omega) ?_ | refine gil rfl (by assumption) (by rfl) (by omega) (by omega) ?_ | refine gbl rfl (by assumption) (by rfl) (by omega) (by omega) ?_ | refine gln rfl (xlen_i (by assumption)) ?_ | refine gln rfl (xlen_q (by assumption)) ?_)
    exact gra rfl ⟨rfl, rfl⟩
  · repeat (first | refine gp rfl rfl rfl ?_ | refine ggf rfl (by assumption) (by rfl) ?_ | refine gal rfl (by assumption) (by rfl) (by omega) (by omega) ?_ | refine gil rfl (by assumption) (by rfl) (by omega) (by omega) ?_ | refine gbl rfl (by assumption) (by rfl) (by omega) (by omega) ?_ | refine gln rfl (xlen_i (by assumption)) ?_ | refine gln rfl (xlen_q (by assumption)) ?_)
    refine gcp rfl (fun h3 => ?_) (fun h3 => ?_)
    · repeat (first | refine gp rfl rfl rfl ?_ | refine ggf rfl (by assumption) (by rfl) ?_ | refine gal rfl (by assumption) (by rfl) (by omega) (by omega) ?_ | refine gil rfl (by assumption) (by rfl) (by omega) (by omega) ?_ | refine gbl rfl (by assumption) (by rfl) (by omega) (by omega) ?_ | refine gln rfl (xlen_i (by assumption)) ?_ | refine gln rfl (xlen_q (by assumption)) ?_)
      refine git rfl (show (0 : Int32) = 0 from rfl) ?_
      repeat (first | refine gp rfl rfl rfl ?_ | refine ggf rfl (by assumption) (by rfl) ?_ | refine gal rfl (by assumption) (by rfl) (by omega) (by omega) ?_ | refine gil rfl (by assumption) (by rfl) (by omega) (by omega) ?_ | refine gbl rfl (by assumption) (by rfl) (by omega) (by omega) ?_ | refine gln rfl (xlen_i (by assumption)) ?_ | refine gln rfl (xlen_q (by assumption)) ?_)
      exact gra rfl ⟨rfl, rfl⟩
    · repeat (first | refine gp rfl rfl rfl ?_ | refine ggf rfl (by assumption) (by rfl) ?_ | refine gal rfl (by assumption) (by rfl) (by omega) (by omega) ?_ | refine gil rfl (by assumption) (by rfl) (by omega) (by omega) ?_ | refine gbl rfl (by assumption) (by rfl) (by omega) (by omega) ?_ | refine gln rfl (xlen_i (by assumption)) ?_ | refine gln rfl (xlen_q (by assumption)) ?_)
      refine giff rfl (fun h => absurd (show (1 : Int32) = 0 from h) (by decide)) ?_
      have hy : ¬ (0 ≤ y ∧ y < nI 64) := by
        rcases hx with z | z
        · exact absurd ⟨Int32.not_lt.mp hn, Int32.not_le.mp h3⟩ z
        · exact z
      repeat (first | refine gp rfl rfl rfl ?_ | refine ggf rfl (by assumption) (by rfl) ?_ | refine gal rfl (by assumption) (by rfl) (by omega) (by omega) ?_ | refine gil rfl (by assumption) (by rfl) (by omega) (by omega) ?_ | refine gbl rfl (by assumption) (by rfl) (by omega) (by omega) ?_ | refine gln rfl (xlen_i (by assumption)) ?_ | refine gln rfl (xlen_q (by assumption)) ?_)
      refine gcv (As := [.inl y]) (rest := []) rfl (by decide) (m_codesAt_no d hy) h4 rfl rfl (by decide) ?_
      refine git rfl (show (0 : Int32) = 0 from rfl) ?_
      repeat (first | refine gp rfl rfl rfl ?_ | refine ggf rfl (by assumption) (by rfl) ?_ | refine gal rfl (by assumption) (by rfl) (by omega) (by omega) ?_ | refine gil rfl (by assumption) (by rfl) (by omega) (by omega) ?_ | refine gbl rfl (by assumption) (by rfl) (by omega) (by omega) ?_ | refine gln rfl (xlen_i (by assumption)) ?_ | refine gln rfl (xlen_q (by assumption)) ?_)
      exact gra rfl ⟨rfl, rfl⟩
theorem m_sideOf (d : Nat) {σ : xS} {x : Int32} (h : hMg σ) : xEx (d + 1) 63 [.inr (some 4), .inl x] σ (some (.inr (if x = nI 1 then some 6 else if x = nI 2 then some 13 else none))) σ := by
  have h4 := h.1
  refine ⟨by decide, rfl, ?_⟩
  show xGo (xEx d) xtb_63 _ (0, [some (.inr (some 4)), some (.inl x)], [], σ)
  repeat (first | refine gp rfl rfl rfl ?_ | refine ggf rfl (by assumption) (by rfl) ?_ | refine gal rfl (by assumption) (by rfl) (by omega) (by omega) ?_ | refine gil rfl (by assumption) (by rfl) (by omega) (by omega) ?_ | refine gbl rfl (by assumption) (by rfl) (by omega) (by omega) ?_ | refine gln rfl (xlen_i (by assumption)) ?_ | refine gln rfl (xlen_q (by assumption)) ?_)
  by_cases h1 : x = nI 1
  · refine gcf rfl (fun z => z (show x = nI 1 from h1)) ?_
    repeat (first | refine gp rfl rfl rfl ?_ | refine ggf rfl (by assumption) (by rfl) ?_ | refine gal rfl (by assumption) (by rfl) (by omega) (by omega) ?_ | refine gil rfl (by assumption) (by rfl) (by omega) (by omega) ?_ | refine gbl rfl (by assumption) (by rfl) (by omega) (by omega) ?_ | refine gln rfl (xlen_i (by assumption)) ?_ | refine gln rfl (xlen_q (by assumption)) ?_)
    exact gra rfl ⟨by rw [if_pos h1], rfl⟩
  · refine gct rfl (show ¬ x = nI 1 from h1) ?_
    repeat (first | refine gp rfl rfl rfl ?_ | refine ggf rfl (by assumption) (by rfl) ?_ | refine gal rfl (by assumption) (by rfl) (by omega) (by omega) ?_ | refine gil rfl (by assumption) (by rfl) (by omega) (by omega) ?_ | refine gbl rfl (by assumption) (by rfl) (by omega) (by omega) ?_ | refine gln rfl (xlen_i (by assumption)) ?_ | refine gln rfl (xlen_q (by assumption)) ?_)
    by_cases h2 : x = nI 2
    · refine gcf rfl (fun z => z (show x = nI 2 from h2)) ?_
      repeat (first | refine gp rfl rfl rfl ?_ | refine ggf rfl (by assumption) (by rfl) ?_ | refine gal rfl (by assumption) (by rfl) (by omega) (by omega) ?_ | refine gil rfl (by assumption) (by rfl) (by omega) (by omega) ?_ | refine gbl rfl (by assumption) (by rfl) (by omega) (by omega) ?_ | refine gln rfl (xlen_i (by assumption)) ?_ | refine gln rfl (xlen_q (by assumption)) ?_)
      exact gra rfl ⟨by rw [if_neg h1, if_pos h2], rfl⟩
    · refine gct rfl (show ¬ x = nI 2 from h2) ?_
      repeat (first | refine gp rfl rfl rfl ?_ | refine ggf rfl (by assumption) (by rfl) ?_ | refine gal rfl (by assumption) (by rfl) (by omega) (by omega) ?_ | refine gil rfl (by assumption) (by rfl) (by omega) (by omega) ?_ | refine gbl rfl (by assumption) (by rfl) (by omega) (by omega) ?_ | refine gln rfl (xlen_i (by assumption)) ?_ | refine gln rfl (xlen_q (by assumption)) ?_)
      exact gra rfl ⟨by rw [if_neg h1, if_neg h2], rfl⟩
