/-! MODULE: changes of the class: style, drop, copy, adopt -/
/-- what a call leaves alone, and how much room it takes -/
def hTf (σ σ' : xS) (c s : Nat) : Prop := hKeep σ σ' ∧ (∀ k, (k < 2 ∨ (51 < k ∧ k < 63)) → σ'.1 k = σ.1 k) ∧ σ.2.1 ≤ σ'.2.1 ∧ σ'.2.1 ≤ σ.2.1 + c ∧ σ'.2.2 ≤ σ.2.2 + s
theorem hTf.refl (σ : xS) : hTf σ σ 0 0 := ⟨hKeep.refl σ, fun _ _ => rfl, Nat.le_refl _, by omega, by omega⟩
theorem hTf.wide {σ σ' : xS} {c s c' s' : Nat} (h : hTf σ σ' c s) (hc : c ≤ c') (hs : s ≤ s') : hTf σ σ' c' s' := ⟨h.1, h.2.1, h.2.2.1, Nat.le_trans h.2.2.2.1 (by omega), Nat.le_trans h.2.2.2.2 (by omega)⟩
theorem hTf.trans {a b c : xS} {c1 s1 c2 s2 : Nat} (h1 : hTf a b c1 s1) (h2 : hTf b c c2 s2) : hTf a c (c1 + c2) (s1 + s2) := by
  obtain ⟨a1, a2, a3, a4, a5⟩ := h1
  obtain ⟨b1, b2, b3, b4, b5⟩ := h2
  exact ⟨a1.trans b1, fun k hk => (b2 k hk).trans (a2 k hk), by omega, by omega, by omega⟩
theorem hTf.of_fr {lo hi : Nat} {σ σ' : xS} (h : hFr lo hi σ σ') (h1 : 2 ≤ lo) (h2 : hi ≤ 51) : hTf σ σ' 0 0 := ⟨h.keep (by omega), fun k hk => h.2 k (by omega), by rw [h.1]; exact Nat.le_refl _, by rw [h.1]; omega, by rw [h.1]; omega⟩
theorem hMS.of {σ σ' : xS} {V : Nat → pT} {C : Nat → Int32} (h : hMS σ V C) (hk : ∀ k, (k = 1 ∨ (3 < k ∧ k ≤ 43)) → σ'.1 k = σ.1 k) (kp : hKeep σ σ') (hf : hFresh σ') : hMS σ' V C := by
  obtain ⟨⟨m1, g, m2, m3⟩, h2, h3, ⟨f, n1, n2⟩, h5, h6⟩ := h
  refine ⟨⟨by rw [hk 4 (by omega)]; exact m1, g, by rw [hk 5 (by omega)]; exact m2, m3⟩, h2.of (fun k h1 h2 => hk k (by omega)), h3.of (hk 20 (by omega)), ⟨f, by rw [hk 1 (by omega)]; exact n1, n2⟩, hf, fun i hi => ?_⟩
  obtain ⟨g, ⟨a1, a2⟩, a3⟩ := h6 i hi
  exact ⟨g, ⟨by rw [hk _ (by omega)]; exact a1, by rw [hk _ (by omega)]; exact a2⟩, fun p hp => (a3 p hp).keep kp⟩
theorem hTop.tree {σ σ' : xS} {Ts V : Nat → pT} {C : Nat → Int32} {th st : Nat} {mg : Bool} {D1 D2 : pD} {i : Nat} {T : pT} (h : hTop σ Ts V C th st mg D1 D2) (hi : i < 4) (hT' : hT σ' (44 + 2 * i) T) (fr : hFr (44 + 2 * i + 1) (44 + 2 * i + 1) σ σ') : hTop σ' (vU Ts i T) V C th st mg D1 D2 ∧ hTf σ σ' 0 0 := by
  obtain ⟨h2, ⟨g, h3, hg⟩, hTs, hm, s1, s2⟩ := h
  refine ⟨⟨by rw [fr.2 2 (by omega)]; exact h2, ⟨g, by rw [fr.2 3 (by omega)]; exact h3, hg⟩, fun k hk => ?_, hm.of (fun k hk => fr.2 k (by omega)) (fr.keep (by omega)) (hm.2.2.2.2.1.of2 fr.1 (fun k hk => fr.2 k (by omega))), hSide.of s1 (fun k h1 h2 => fr.2 k (by omega)), hSide.of s2 (fun k h1 h2 => fr.2 k (by omega))⟩, hTf.of_fr fr (by omega) (by omega)⟩
  unfold vU
  split
  · rename_i hki
    subst hki
    exact hT'
  · exact (hTs k hk).fr fr (by omega) (by omega)
theorem m_becomeS (d : Nat) {σ : xS} {a : Nat} {T : pT} (h : hT σ a T) : xEx (d + 1) 11 [.inr (some a), .inr (some a)] σ none σ := by
  obtain ⟨g, ⟨h1, h2⟩, h3⟩ := h
  refine ⟨by decide, rfl, ?_⟩
  show xGo (xEx d) xtb_11 _ (0, [some (.inr (some a)), some (.inr (some a)), none], [], σ)
  have loop : ∀ k i, i + k = 64 → xGo (xEx d) xtb_11 (fun r0 σ0 => r0 = none ∧ σ0 = σ) (5, [some (.inr (some a)), some (.inr (some a)), some (.inl (nI i))], [.inl (nI 64), .inl (nI i)], σ) := by
    intro k
    induction k with
    | zero =>
      intro i hi
      obtain rfl : i = 64 := by omega
      refine gct rfl (show nI _ ≤ nI _ from nI_le (Nat.le_refl _) (by omega)) ?_
      exact grv rfl ⟨rfl, rfl⟩
    | succ k ih =>
      intro i hi
      refine gcf rfl (nI_ge (by omega) (by omega)) ?_
      repeat (first | refine gp rfl rfl rfl ?_ | refine ggf rfl (by assumption) (by rfl) ?_ | refine gal rfl (by assumption) (by rfl) (by omega) (by omega) ?_ | refine gil rfl (by assumption) (by rfl) (by omega) (by omega) ?_ | refine gbl rfl (by assumption) (by rfl) (by omega) (by omega) ?_ | refine gln rfl (xlen_i (by assumption)) ?_ | refine gln rfl (xlen_q (by assumption)) ?_)
      refine gas rfl h2 rfl (by omega) (by omega) (hOpt_cell (h3 i (by omega))) ?_
      have e : va_up g i (g i) = g := by
        funext z
        unfold va_up
        split
        · rename_i hz; rw [hz]
        · rfl
      rw [e, xup_same h2]
      repeat (first | refine gp rfl rfl rfl ?_ | refine ggf rfl (by assumption) (by rfl) ?_ | refine gal rfl (by assumption) (by rfl) (by omega) (by omega) ?_ | refine gil rfl (by assumption) (by rfl) (by omega) (by omega) ?_ | refine gbl rfl (by assumption) (by rfl) (by omega) (by omega) ?_ | refine gln rfl (xlen_i (by assumption)) ?_ | refine gln rfl (xlen_q (by assumption)) ?_)
      rw [nI_s]
      exact ih (i + 1) (by omega)
  repeat (first | refine gp rfl rfl rfl ?_ | refine ggf rfl (by assumption) (by rfl) ?_ | refine gal rfl (by assumption) (by rfl) (by omega) (by omega) ?_ | refine gil rfl (by assumption) (by rfl) (by omega) (by omega) ?_ | refine gbl rfl (by assumption) (by rfl) (by omega) (by omega) ?_ | refine gln rfl (xlen_i (by assumption)) ?_ | refine gln rfl (xlen_q (by assumption)) ?_)
  exact loop 64 0 rfl
section CHANGE
variable {σ : xS} {Ts V : Nat → pT} {C : Nat → Int32} {th st : Nat} {mg : Bool} {D1 D2 : pD}
theorem s_become (d : Nat) (h : hTop σ Ts V C th st mg D1 D2) {i j : Nat} (hi : i < 4) (hj : j < 4) : ∃ σ', xEx (d + 1) 11 [.inr (some (44 + 2 * i)), .inr (some (44 + 2 * j))] σ none σ' ∧ hTop σ' (vU Ts i (Ts j)) V C th st mg D1 D2 ∧ hTf σ σ' 0 0 := by
  have ti := h.2.2.1 i hi
  have tj := h.2.2.1 j hj
  by_cases hij : i = j
  · subst hij
    refine ⟨σ, m_becomeS d ti, ?_, hTf.refl σ⟩
    have e : vU Ts i (Ts i) = Ts := by
      funext z
      unfold vU
      split
      · rename_i hz; rw [hz]
      · rfl
    rw [e]
    exact h
  · obtain ⟨σ', x1, x2, x3⟩ := m_becomeT d ti tj (by omega) (by omega) (by omega)
    exact ⟨σ', x1, h.tree hi x2 x3⟩
theorem m_style (d : Nat) (h : hTop σ Ts V C th st mg D1 D2) (x : Int32) : ∃ σ', xEx (d + 1) 72 [.inr (some 2), .inl x] σ (some (.inl (bI (oN 3 x).isSome))) σ' ∧ hTop σ' Ts V C th ((oN 3 x).getD st) mg D1 D2 ∧ hTf σ σ' 0 0 := by
  have h0 := h
  obtain ⟨h2, ⟨g, h3, hg⟩, hTs, hm, s1, s2⟩ := h
  rcases oN_cases (n := 3) (by decide) x with ⟨j, hj, rfl, e⟩ | ⟨hn, e⟩
  · rw [e]
    simp only [Option.getD_some]
    have fr : hFr 2 2 σ (xup σ 2 (.inr (.inr (0, [.inr (some 3), .inr (some 4), .inl (nI th), .inl (nI j), .inl (bI mg)])))) := hFr.up (by decide) (by decide)
    refine ⟨_, ⟨by decide, rfl, ?_⟩, ⟨xup_eq _ _ _, ⟨g, by rw [fr.2 3 (by omega)]; exact h3, hg⟩, fun k hk => (hTs k hk).fr fr (by omega) (by omega), hm.of (fun k hk => fr.2 k (by omega)) (fr.keep (by omega)) (hm.2.2.2.2.1.of2 fr.1 (fun k hk => fr.2 k (by omega))), hSide.of s1 (fun k h1 h2 => fr.2 k (by omega)), hSide.of s2 (fun k h1 h2 => fr.2 k (by omega))⟩, hTf.of_fr fr (by omega) (by omega)⟩
    show xGo (xEx d) xtb_72 _ (0, [some (.inr (some 2)), some (.inl (nI j))], [], σ)
    repeat (first | refine gp rfl rfl rfl ?_ | refine ggf rfl (by assumption) (by rfl) ?_ | refine gal rfl (by assumption) (by rfl) (by omega) (by omega) ?_ | refine gil rfl (by assumption) (by rfl) (by omega) (by omega) ?_ | refine gbl rfl (by assumption) (by rfl) (by omega) (by omega) ?_ | refine gln rfl (xlen_i (by assumption)) ?_ | refine gln rfl (xlen_q (by assumption)) ?_)
    refine giff rfl (show ¬ nI j < 0 from nI_pos (by omega)) ?_
    repeat (first | refine gp rfl rfl rfl ?_ | refine ggf rfl (by assumption) (by rfl) ?_ | refine gal rfl (by assumption) (by rfl) (by omega) (by omega) ?_ | refine gil rfl (by assumption) (by rfl) (by omega) (by omega) ?_ | refine gbl rfl (by assumption) (by rfl) (by omega) (by omega) ?_ | refine gln rfl (xlen_i (by assumption)) ?_ | refine gln rfl (xlen_q (by assumption)) ?_)
    refine gct rfl (show nI j ≤ nI 2 from nI_le (by omega) (by decide)) ?_
    repeat (first | refine gp rfl rfl rfl ?_ | refine ggf rfl (by assumption) (by rfl) ?_ | refine gal rfl (by assumption) (by rfl) (by omega) (by omega) ?_ | refine gil rfl (by assumption) (by rfl) (by omega) (by omega) ?_ | refine gbl rfl (by assumption) (by rfl) (by omega) (by omega) ?_ | refine gln rfl (xlen_i (by assumption)) ?_ | refine gln rfl (xlen_q (by assumption)) ?_)
    refine gpf rfl h2 (Nat.le_of_ble_eq_true rfl) (Or.inl rfl) ?_
    repeat (first | refine gp rfl rfl rfl ?_ | refine ggf rfl (by assumption) (by rfl) ?_ | refine gal rfl (by assumption) (by rfl) (by omega) (by omega) ?_ | refine gil rfl (by assumption) (by rfl) (by omega) (by omega) ?_ | refine gbl rfl (by assumption) (by rfl) (by omega) (by omega) ?_ | refine gln rfl (xlen_i (by assumption)) ?_ | refine gln rfl (xlen_q (by assumption)) ?_)
    exact gri rfl (fun _ => Or.inr rfl) ⟨rfl, rfl⟩
  · rw [e]
    refine ⟨σ, ⟨by decide, rfl, ?_⟩, h0, hTf.refl σ⟩
    show xGo (xEx d) xtb_72 _ (0, [some (.inr (some 2)), some (.inl x)], [], σ)
    repeat (first | refine gp rfl rfl rfl ?_ | refine ggf rfl (by assumption) (by rfl) ?_ | refine gal rfl (by assumption) (by rfl) (by omega) (by omega) ?_ | refine gil rfl (by assumption) (by rfl) (by omega) (by omega) ?_ | refine gbl rfl (by assumption) (by rfl) (by omega) (by omega) ?_ | refine gln rfl (xlen_i (by assumption)) ?_ | refine gln rfl (xlen_q (by assumption)) ?_)
    refine gif' rfl (fun hlt => ?_) (fun hge => ?_)
    · repeat (first | refine gp rfl rfl rfl ?_ | refine ggf rfl (by assumption) (by rfl) ?_ | refine gal rfl (by assumption) (by rfl) (by omega) (by omega) ?_ | refine gil rfl (by assumption) (by rfl) (by omega) (by omega) ?_ | refine gbl rfl (by assumption) (by rfl) (by omega) (by omega) ?_ | refine gln rfl (xlen_i (by assumption)) ?_ | refine gln rfl (xlen_q (by assumption)) ?_)
      exact gri rfl (fun _ => Or.inl rfl) ⟨rfl, rfl⟩
    · repeat (first | refine gp rfl rfl rfl ?_ | refine ggf rfl (by assumption) (by rfl) ?_ | refine gal rfl (by assumption) (by rfl) (by omega) (by omega) ?_ | refine gil rfl (by assumption) (by rfl) (by omega) (by omega) ?_ | refine gbl rfl (by assumption) (by rfl) (by omega) (by omega) ?_ | refine gln rfl (xlen_i (by assumption)) ?_ | refine gln rfl (xlen_q (by assumption)) ?_)
      refine gcf rfl (show ¬ x ≤ nI 2 from ?_) ?_
      · obtain ⟨j, hj, rfl⟩ := nI_of hge
        refine nI_ge ?_ hj
        by_cases h4 : j < 3
        · exact absurd ⟨nI_pos' hj, nI_lt h4 (by decide)⟩ hn
        · omega
      · repeat (first | refine gp rfl rfl rfl ?_ | refine ggf rfl (by assumption) (by rfl) ?_ | refine gal rfl (by assumption) (by rfl) (by omega) (by omega) ?_ | refine gil rfl (by assumption) (by rfl) (by omega) (by omega) ?_ | refine gbl rfl (by assumption) (by rfl) (by omega) (by omega) ?_ | refine gln rfl (xlen_i (by assumption)) ?_ | refine gln rfl (xlen_q (by assumption)) ?_)
        exact gri rfl (fun _ => Or.inl rfl) ⟨rfl, rfl⟩
/-- drop: does it do it, and the trees then -/
def dDo (Ts : Nat → pT) (t p : Int32) : Option (Nat × Nat) := match oN 3 t, oN 64 p with
  | some i, some j => if (Ts i j).isSome then some (i, j) else none
  | _, _ => none
def dTs (Ts : Nat → pT) (t p : Int32) : Nat → pT := match dDo Ts t p with
  | some (i, j) => vU Ts i (pLy (Ts i) j none)
  | none => Ts
theorem m_drop (d : Nat) (h : hTop σ Ts V C th st mg D1 D2) (t p : Int32) : ∃ σ', xEx (d + 3) 69 [.inr (some 2), .inl t, .inl p] σ (some (.inl (bI (dDo Ts t p).isSome))) σ' ∧ hTop σ' (dTs Ts t p) V C th st mg D1 D2 ∧ hTf σ σ' 0 0 := by
  let K : Option xV → xS → Prop := fun r0 σ0 => r0 = some (.inl (bI (dDo Ts t p).isSome)) ∧ hTop σ0 (dTs Ts t p) V C th st mg D1 D2 ∧ hTf σ σ0 0 0
  have no : dDo Ts t p = none → xGo (xEx (d + 2)) xtb_69 K (20, [some (.inr (some 2)), some (.inl t), some (.inl p)], [], σ) := by
    intro e
    repeat (first | refine gp rfl rfl rfl ?_ | refine ggf rfl (by assumption) (by rfl) ?_ | refine gal rfl (by assumption) (by rfl) (by omega) (by omega) ?_ | refine gil rfl (by assumption) (by rfl) (by omega) (by omega) ?_ | refine gbl rfl (by assumption) (by rfl) (by omega) (by omega) ?_ | refine gln rfl (xlen_i (by assumption)) ?_ | refine gln rfl (xlen_q (by assumption)) ?_)
    refine gri rfl (fun _ => Or.inl rfl) ⟨by rw [e]; rfl, ?_, hTf.refl σ⟩
    unfold dTs
    rw [e]
    exact h
  have main : xGo (xEx (d + 2)) xtb_69 K (0, [some (.inr (some 2)), some (.inl t), some (.inl p)], [], σ) := by
    obtain ⟨h2, ⟨g, h3, hg⟩, hTs, -⟩ := id h
    repeat (first | refine gp rfl rfl rfl ?_ | refine ggf rfl (by assumption) (by rfl) ?_ | refine gal rfl (by assumption) (by rfl) (by omega) (by omega) ?_ | refine gil rfl (by assumption) (by rfl) (by omega) (by omega) ?_ | refine gbl rfl (by assumption) (by rfl) (by omega) (by omega) ?_ | refine gln rfl (xlen_i (by assumption)) ?_ | refine gln rfl (xlen_q (by assumption)) ?_)
    refine gcs (As := [.inl t]) (rest := []) rfl (by decide) (m_isInput (d + 1) t σ) rfl rfl (by decide) ?_
    rcases oN_cases (n := 3) (by decide) t with ⟨i, hi, rfl, e⟩ | ⟨hn, e⟩
    · rw [e]
      refine giff rfl (fun h => absurd (show (1 : Int32) = 0 from h) (by decide)) ?_
      have ti := hTs i (by omega)
      repeat (first | refine gp rfl rfl rfl ?_ | refine ggf rfl (by assumption) (by rfl) ?_ | refine gal rfl (by assumption) (by rfl) (by omega) (by omega) ?_ | refine gil rfl (by assumption) (by rfl) (by omega) (by omega) ?_ | refine gbl rfl (by assumption) (by rfl) (by omega) (by omega) ?_ | refine gln rfl (xlen_i (by assumption)) ?_ | refine gln rfl (xlen_q (by assumption)) ?_)
      rw [hg i (by omega)]
      rcases oN_cases (n := 64) (by decide) p with ⟨j, hj, rfl, e'⟩ | ⟨hn, e'⟩
      · obtain ⟨q, f1, o1⟩ := m_fileAtT d ti hj
        have so := hOpt_some o1
        refine gcv (As := [.inl (nI j)]) (rest := []) rfl (by decide) f1 ti.obj rfl rfl (by decide) ?_
        refine gnn rfl (fun z hz => ?_) (fun hz => ?_)
        · subst hz
          have e2 : dDo Ts (nI i) (nI j) = some (i, j) := by unfold dDo; rw [e, e']; simp only; rw [if_pos (show (Ts i j).isSome = true from so.symm)]
          repeat (first | refine gp rfl rfl rfl ?_ | refine ggf rfl (by assumption) (by rfl) ?_ | refine gal rfl (by assumption) (by rfl) (by omega) (by omega) ?_ | refine gil rfl (by assumption) (by rfl) (by omega) (by omega) ?_ | refine gbl rfl (by assumption) (by rfl) (by omega) (by omega) ?_ | refine gln rfl (xlen_i (by assumption)) ?_ | refine gln rfl (xlen_q (by assumption)) ?_)
          rw [hg i (by omega)]
          obtain ⟨σ1, x1, x2, x3⟩ := m_layT d (q := none) (F := none) ti trivial hj (by omega)
          refine gcv (As := [.inl (nI j), .inr none]) (rest := []) rfl (by decide) x1 ti.obj rfl rfl (by decide) ?_
          obtain ⟨y1, y2⟩ := h.tree (by omega) x2 x3
          repeat (first | refine gp rfl rfl rfl ?_ | refine ggf rfl (by assumption) (by rfl) ?_ | refine gal rfl (by assumption) (by rfl) (by omega) (by omega) ?_ | refine gil rfl (by assumption) (by rfl) (by omega) (by omega) ?_ | refine gbl rfl (by assumption) (by rfl) (by omega) (by omega) ?_ | refine gln rfl (xlen_i (by assumption)) ?_ | refine gln rfl (xlen_q (by assumption)) ?_)
          refine gri rfl (fun _ => Or.inr rfl) ⟨by rw [e2]; rfl, ?_, y2⟩
          unfold dTs
          rw [e2]
          exact y1
        · subst hz
          exact no (by unfold dDo; rw [e, e']; simp only; rw [if_neg (by rw [← so]; decide)])
      · refine gcv (As := [.inl p]) (rest := []) rfl (by decide) (m_fileAt_no d hn) ti.obj rfl rfl (by decide) ?_
        refine gnn rfl (fun z hz => by cases hz) (fun _ => ?_)
        exact no (by unfold dDo; rw [e, e'])
    · rw [e]
      refine git rfl (show (0 : Int32) = 0 from rfl) ?_
      exact no (by unfold dDo; rw [e])
  obtain ⟨r, σ', hex, rfl, g1, g2⟩ := ex_of (d := d + 2) (y := 69) (as := [.inr (some 2), .inl t, .inl p]) (σ := σ) (K := K) (by decide) rfl main
  exact ⟨σ', hex, g1, g2⟩
def cDo (x y : Int32) : Option (Nat × Nat) := match oN 3 x, oN 3 y with
  | some i, some j => some (i, j)
  | _, _ => none
def cTs (Ts : Nat → pT) (x y : Int32) : Nat → pT := match cDo x y with
  | some (i, j) => vU Ts j (Ts i)
  | none => Ts
theorem m_copy (d : Nat) (h : hTop σ Ts V C th st mg D1 D2) (x y : Int32) : ∃ σ', xEx (d + 2) 70 [.inr (some 2), .inl x, .inl y] σ (some (.inl (bI (cDo x y).isSome))) σ' ∧ hTop σ' (cTs Ts x y) V C th st mg D1 D2 ∧ hTf σ σ' 0 0 := by
  let K : Option xV → xS → Prop := fun r0 σ0 => r0 = some (.inl (bI (cDo x y).isSome)) ∧ hTop σ0 (cTs Ts x y) V C th st mg D1 D2 ∧ hTf σ σ0 0 0
  have no : cDo x y = none → xGo (xEx (d + 1)) xtb_70 K (14, [some (.inr (some 2)), some (.inl x), some (.inl y)], [], σ) := by
    intro e
    repeat (first | refine gp rfl rfl rfl ?_ | refine ggf rfl (by assumption) (by rfl) ?_ | refine gal rfl (by assumption) (by rfl) (by omega) (by omega) ?_ | refine gil rfl (by assumption) (by rfl) (by omega) (by omega) ?_ | refine gbl rfl (by assumption) (by rfl) (by omega) (by omega) ?_ | refine gln rfl (xlen_i (by assumption)) ?_ | refine gln rfl (xlen_q (by assumption)) ?_)
    refine gri rfl (fun _ => Or.inl rfl) ⟨by rw [e]; rfl, ?_, hTf.refl σ⟩
    unfold cTs
    rw [e]
    exact h
  have main : xGo (xEx (d + 1)) xtb_70 K (0, [some (.inr (some 2)), some (.inl x), some (.inl y)], [], σ) := by
    obtain ⟨h2, ⟨g, h3, hg⟩, hTs, -⟩ := id h
    repeat (first | refine gp rfl rfl rfl ?_ | refine ggf rfl (by assumption) (by rfl) ?_ | refine gal rfl (by assumption) (by rfl) (by omega) (by omega) ?_ | refine gil rfl (by assumption) (by rfl) (by omega) (by omega) ?_ | refine gbl rfl (by assumption) (by rfl) (by omega) (by omega) ?_ | refine gln rfl (xlen_i (by assumption)) ?_ | refine gln rfl (xlen_q (by assumption)) ?_)
    refine gcs (As := [.inl x]) (rest := []) rfl (by decide) (m_isInput d x σ) rfl rfl (by decide) ?_
    rcases oN_cases (n := 3) (by decide) x with ⟨i, hi, rfl, e⟩ | ⟨hn, e⟩
    · rw [e]
      refine giff rfl (fun h => absurd (show (1 : Int32) = 0 from h) (by decide)) ?_
      repeat (first | refine gp rfl rfl rfl ?_ | refine ggf rfl (by assumption) (by rfl) ?_ | refine gal rfl (by assumption) (by rfl) (by omega) (by omega) ?_ | refine gil rfl (by assumption) (by rfl) (by omega) (by omega) ?_ | refine gbl rfl (by assumption) (by rfl) (by omega) (by omega) ?_ | refine gln rfl (xlen_i (by assumption)) ?_ | refine gln rfl (xlen_q (by assumption)) ?_)
      refine gcs (As := [.inl y]) (rest := []) rfl (by decide) (m_isInput d y σ) rfl rfl (by decide) ?_
      rcases oN_cases (n := 3) (by decide) y with ⟨j, hj, rfl, e'⟩ | ⟨hn, e'⟩
      · rw [e']
        refine git rfl (fun h => absurd (show (1 : Int32) = 0 from h) (by decide)) ?_
        repeat (first | refine gp rfl rfl rfl ?_ | refine ggf rfl (by assumption) (by rfl) ?_ | refine gal rfl (by assumption) (by rfl) (by omega) (by omega) ?_ | refine gil rfl (by assumption) (by rfl) (by omega) (by omega) ?_ | refine gbl rfl (by assumption) (by rfl) (by omega) (by omega) ?_ | refine gln rfl (xlen_i (by assumption)) ?_ | refine gln rfl (xlen_q (by assumption)) ?_)
        rw [hg j (by omega), hg i (by omega)]
        obtain ⟨σ1, x1, x2, x3⟩ := s_become d h (i := j) (j := i) (by omega) (by omega)
        refine gcv (As := [.inr (some (44 + 2 * i))]) (rest := []) rfl (by decide) x1 (hTs j (by omega)).obj rfl rfl (by decide) ?_
        have e2 : cDo (nI i) (nI j) = some (i, j) := by unfold cDo; rw [e, e']
        repeat (first | refine gp rfl rfl rfl ?_ | refine ggf rfl (by assumption) (by rfl) ?_ | refine gal rfl (by assumption) (by rfl) (by omega) (by omega) ?_ | refine gil rfl (by assumption) (by rfl) (by omega) (by omega) ?_ | refine gbl rfl (by assumption) (by rfl) (by omega) (by omega) ?_ | refine gln rfl (xlen_i (by assumption)) ?_ | refine gln rfl (xlen_q (by assumption)) ?_)
        refine gri rfl (fun _ => Or.inr rfl) ⟨by rw [e2]; rfl, ?_, x3⟩
        unfold cTs
        rw [e2]
        exact x2
      · rw [e']
        refine giff rfl (fun z => z (show (0 : Int32) = 0 from rfl)) ?_
        exact no (by unfold cDo; rw [e, e'])
    · rw [e]
      refine git rfl (show (0 : Int32) = 0 from rfl) ?_
      exact no (by unfold cDo; rw [e])
  obtain ⟨r, σ', hex, rfl, g1, g2⟩ := ex_of (d := d + 1) (y := 70) (as := [.inr (some 2), .inl x, .inl y]) (σ := σ) (K := K) (by decide) rfl main
  exact ⟨σ', hex, g1, g2⟩
end CHANGE
/-- the longest text -/
def pLong (T : pT) : Nat → Nat
  | 0 => 0
  | n + 1 => max (pLong T n) (pLn (T n)).length
theorem m_longestText (d : Nat) {σ : xS} {t : Nat} {T : pT} (h : hT σ t T) : xEx (d + 1) 12 [.inr (some t)] σ (some (.inl (nI (pLong T 64)))) σ := by
  obtain ⟨g, ⟨h1, h2⟩, h3⟩ := h
  refine ⟨by decide, rfl, ?_⟩
  show xGo (xEx d) xtb_12 _ (0, [some (.inr (some t)), none, none, none], [], σ)
  have loop : ∀ k i (y : Option xV), i + k = 64 → pLong T i ≤ 76 → xGo (xEx d) xtb_12 (fun r0 σ0 => r0 = some (.inl (nI (pLong T 64))) ∧ σ0 = σ) (7, [some (.inr (some t)), some (.inl (nI (pLong T i))), some (.inl (nI i)), y], [.inl (nI 64), .inl (nI i)], σ) := by
    intro k
    induction k with
    | zero =>
      intro i y hi hl
      obtain rfl : i = 64 := by omega
      refine gct rfl (show nI 64 ≤ nI _ from nI_le (by omega) (by omega)) ?_
      repeat (first | refine gp rfl rfl rfl ?_ | refine ggf rfl (by assumption) (by rfl) ?_ | refine gal rfl (by assumption) (by rfl) (by omega) (by omega) ?_ | refine gil rfl (by assumption) (by rfl) (by omega) (by omega) ?_ | refine gbl rfl (by assumption) (by rfl) (by omega) (by omega) ?_ | refine gln rfl (xlen_i (by assumption)) ?_ | refine gln rfl (xlen_q (by assumption)) ?_)
      exact gri rfl (fun h => absurd h (by decide)) ⟨rfl, rfl⟩
    | succ k ih =>
      intro i y hi hl
      refine gcf rfl (nI_ge (by omega) (by omega)) ?_
      repeat (first | refine gp rfl rfl rfl ?_ | refine ggf rfl (by assumption) (by rfl) ?_ | refine gal rfl (by assumption) (by rfl) (by omega) (by omega) ?_ | refine gil rfl (by assumption) (by rfl) (by omega) (by omega) ?_ | refine gbl rfl (by assumption) (by rfl) (by omega) (by omega) ?_ | refine gln rfl (xlen_i (by assumption)) ?_ | refine gln rfl (xlen_q (by assumption)) ?_)
      have o := h3 i (by omega)
      have es : pLong T (i + 1) = max (pLong T i) (pLn (T i)).length := rfl
      have ihs := fun y => ih (i + 1) y (by omega)
      rw [es] at ihs
      refine gnl rfl (fun hz => ?_) (fun z hz => ?_)
      · rw [hz] at o ⊢
        have e : (pLn (T i)).length = 0 := by
          cases hT : T i with
          | none => rfl
          | some F => rw [hT] at o; exact o.elim
        rw [e, Nat.max_eq_left (Nat.zero_le _)] at ihs
        repeat (first | refine gp rfl rfl rfl ?_ | refine ggf rfl (by assumption) (by rfl) ?_ | refine gal rfl (by assumption) (by rfl) (by omega) (by omega) ?_ | refine gil rfl (by assumption) (by rfl) (by omega) (by omega) ?_ | refine gbl rfl (by assumption) (by rfl) (by omega) (by omega) ?_ | refine gln rfl (xlen_i (by assumption)) ?_ | refine gln rfl (xlen_q (by assumption)) ?_)
        rw [nI_s]
        exact ihs _ hl
      · rw [hz] at o ⊢
        cases hT : T i with
        | none => rw [hT] at o; exact o.elim
        | some F =>
          rw [hT] at o ihs
          obtain ⟨b, b1, ⟨f, b2, -⟩, b3, -⟩ := id (show hFile σ z F from o)
          repeat (first | refine gp rfl rfl rfl ?_ | refine ggf rfl (by assumption) (by rfl) ?_ | refine gal rfl (by assumption) (by rfl) (by omega) (by omega) ?_ | refine gil rfl (by assumption) (by rfl) (by omega) (by omega) ?_ | refine gbl rfl (by assumption) (by rfl) (by omega) (by omega) ?_ | refine gln rfl (xlen_i (by assumption)) ?_ | refine gln rfl (xlen_q (by assumption)) ?_)
          refine gmx rfl (Nat.le_of_ble_eq_true rfl) ?_
          rw [mx_nI (by omega) (by omega)]
          repeat (first | refine gp rfl rfl rfl ?_ | refine ggf rfl (by assumption) (by rfl) ?_ | refine gal rfl (by assumption) (by rfl) (by omega) (by omega) ?_ | refine gil rfl (by assumption) (by rfl) (by omega) (by omega) ?_ | refine gbl rfl (by assumption) (by rfl) (by omega) (by omega) ?_ | refine gln rfl (xlen_i (by assumption)) ?_ | refine gln rfl (xlen_q (by assumption)) ?_)
          rw [nI_s]
          exact ihs _ (by show max _ F.2.length ≤ 76; omega)
  repeat (first | refine gp rfl rfl rfl ?_ | refine ggf rfl (by assumption) (by rfl) ?_ | refine gal rfl (by assumption) (by rfl) (by omega) (by omega) ?_ | refine gil rfl (by assumption) (by rfl) (by omega) (by omega) ?_ | refine gbl rfl (by assumption) (by rfl) (by omega) (by omega) ?_ | refine gln rfl (xlen_i (by assumption)) ?_ | refine gln rfl (xlen_q (by assumption)) ?_)
  exact loop 64 0 _ rfl (show 0 ≤ 76 by decide)
