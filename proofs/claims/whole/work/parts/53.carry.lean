/-! MODULE: renames are carried, files are settled, the class -/
def pMv (T : pT) (i j : Nat) : pT := fun z => if z = j then T i else if z = i then none else T z
def pLy (T : pT) (i : Nat) (F : Option pF) : pT := fun z => if z = i then F else T z
def vU (V : Nat → pT) (i : Nat) (T : pT) : Nat → pT := fun k => if k = i then T else V k
/-- as hGr, and the three versions may change -/
def hGq (σ σ' : xS) (c s : Nat) : Prop := hKeep σ σ' ∧ (∀ k, k < 63 → (k < 20 ∨ 43 < k) → σ'.1 k = σ.1 k) ∧ σ.2.1 ≤ σ'.2.1 ∧ σ'.2.1 ≤ σ.2.1 + c ∧ σ'.2.2 ≤ σ.2.2 + s ∧ hFresh σ'
theorem hGr.q {σ σ' : xS} {c s : Nat} (h : hGr σ σ' c s) : hGq σ σ' c s := ⟨h.1, fun k hk hk' => h.2.1 k hk (by omega), h.2.2⟩
theorem hGq.refl {σ : xS} (h : hFresh σ) : hGq σ σ 0 0 := ⟨hKeep.refl σ, fun _ _ _ => rfl, Nat.le_refl _, by omega, by omega, h⟩
theorem hGq.wide {σ σ' : xS} {c s c' s' : Nat} (h : hGq σ σ' c s) (hc : c ≤ c') (hs : s ≤ s') : hGq σ σ' c' s' := ⟨h.1, h.2.1, h.2.2.1, Nat.le_trans h.2.2.2.1 (by omega), Nat.le_trans h.2.2.2.2.1 (by omega), h.2.2.2.2.2⟩
theorem hGq.trans {a b c : xS} {c1 s1 c2 s2 : Nat} (h1 : hGq a b c1 s1) (h2 : hGq b c c2 s2) : hGq a c (c1 + c2) (s1 + s2) := by
  obtain ⟨a1, a2, a3, a4, a5, a6⟩ := h1
  obtain ⟨b1, b2, b3, b4, b5, b6⟩ := h2
  exact ⟨a1.trans b1, fun k hk hk' => (b2 k hk hk').trans (a2 k hk hk'), by omega, by omega, by omega, b6⟩
theorem hGq.of_fr {lo hi : Nat} {σ σ' : xS} (hf : hFresh σ) (h : hFr lo hi σ σ') (h1 : 20 ≤ lo) (h2 : hi ≤ 43) : hGq σ σ' 0 0 := ⟨h.keep (by omega), fun k _ hk => h.2 k (by omega), by rw [h.1]; exact Nat.le_refl _, by rw [h.1]; omega, by rw [h.1]; omega, hf.of2 h.1 (fun k hk => h.2 k (by omega))⟩
theorem hT.gr {σ σ' : xS} {t c s : Nat} {T : pT} (h : hT σ t T) (hg : hGr σ σ' c s) (h1 : 38 ≤ t) (h2 : t + 1 < 63) : hT σ' t T := by
  obtain ⟨g, ⟨a1, a2⟩, a3⟩ := h
  exact ⟨g, ⟨by rw [hg.2.1 t (by omega) (by omega)]; exact a1, by rw [hg.2.1 (t + 1) (by omega) (by omega)]; exact a2⟩, fun p hp => (a3 p hp).keep hg.1⟩
theorem m_moveT (d : Nat) {σ : xS} {t i j : Nat} {T : pT} (h : hT σ t T) (hi : i < 64) (hj : j < 64) (ht : t + 1 < 63) : ∃ σ', xEx (d + 3) 15 [.inr (some t), .inl (nI i), .inl (nI j)] σ none σ' ∧ hT σ' t (pMv T i j) ∧ hFr (t + 1) (t + 1) σ σ' := by
  obtain ⟨g, h1, h2⟩ := h
  refine ⟨_, m_move d h1 hi hj (hOpt_cell (h2 i hi)), ⟨_, ⟨by rw [xup_ne (by omega)]; exact h1.1, xup_eq _ _ _⟩, fun p hp => ?_⟩, hFr.up (Nat.le_refl _) (Nat.le_refl _)⟩
  have kp : hKeep σ (xup σ (t + 1) (.inr (.inl (0, 64, va_up (va_up g i none) j (g i))))) := hKeep.up (by omega)
  unfold pMv va_up
  by_cases hpj : p = j
  · rw [if_pos hpj, if_pos hpj]
    exact (h2 i hi).keep kp
  · rw [if_neg hpj, if_neg hpj]
    by_cases hpi : p = i
    · rw [if_pos hpi, if_pos hpi]; trivial
    · rw [if_neg hpi, if_neg hpi]; exact (h2 p hp).keep kp
theorem m_layT (d : Nat) {σ : xS} {t i : Nat} {T : pT} {q : Option Nat} {F : Option pF} (h : hT σ t T) (hq : hOpt σ q F) (hi : i < 64) (ht : t + 1 < 63) : ∃ σ', xEx (d + 2) 10 [.inr (some t), .inl (nI i), .inr q] σ none σ' ∧ hT σ' t (pLy T i F) ∧ hFr (t + 1) (t + 1) σ σ' := by
  obtain ⟨g, h1, h2⟩ := h
  refine ⟨_, m_lay d h1 hi (hOpt_cell hq), ⟨_, ⟨by rw [xup_ne (by omega)]; exact h1.1, xup_eq _ _ _⟩, fun p hp => ?_⟩, hFr.up (Nat.le_refl _) (Nat.le_refl _)⟩
  have kp : hKeep σ (xup σ (t + 1) (.inr (.inl (0, 64, va_up g i q)))) := hKeep.up (by omega)
  unfold pLy va_up
  by_cases hpi : p = i
  · rw [if_pos hpi, if_pos hpi]; exact hq.keep kp
  · rw [if_neg hpi, if_neg hpi]; exact (h2 p hp).keep kp
/-- the merger with its versions and codes -/
def hMS (σ : xS) (V : Nat → pT) (C : Nat → Int32) : Prop := hMg σ ∧ hL0 σ ∧ hCo σ C ∧ hInts σ 1 [] ∧ hFresh σ ∧ ∀ i, i < 3 → hT σ (38 + 2 * i) (V i)
theorem s_mark (d : Nat) {σ : xS} {V : Nat → pT} {C : Nat → Int32} {p : Nat} {k : Int32} (h : hMS σ V C) (hp : p < 64) : ∃ σ', xEx (d + 2) 56 [.inr (some 4), .inl (nI p), .inl k] σ none σ' ∧ hMS σ' V (cUp C p k) ∧ hGq σ σ' 0 0 := by
  obtain ⟨h1, h2, h3, h4, h5, h6⟩ := h
  obtain ⟨f, x1, x2⟩ := m_mark d (k := k) h1 h3 hp
  have fr : hFr 20 20 σ (xup σ 20 (.inl (0, 64, f))) := hFr.up (Nat.le_refl _) (Nat.le_refl _)
  have gr : hGr σ (xup σ 20 (.inl (0, 64, f))) 0 0 := hGr.of_fr h5 fr (by omega) (by omega) _ _
  exact ⟨_, x1, ⟨h1.of gr.2.1, h2.of (fun k h1 h2 => xup_ne (by omega)), x2, h4.up (by decide), gr.2.2.2.2.2, fun i hi => (h6 i hi).gr gr (by omega) (by omega)⟩, gr.q⟩
theorem hMS.tree {σ σ' : xS} {V : Nat → pT} {C : Nat → Int32} {i : Nat} {T : pT} (h : hMS σ V C) (hi : i < 3) (hT' : hT σ' (38 + 2 * i) T) (fr : hFr (38 + 2 * i + 1) (38 + 2 * i + 1) σ σ') : hMS σ' (vU V i T) C ∧ hGq σ σ' 0 0 := by
  obtain ⟨h1, h2, h3, h4, h5, h6⟩ := h
  have gq := hGq.of_fr h5 fr (by omega) (by omega)
  refine ⟨⟨?_, h2.of (fun k h1 h2 => fr.2 k (by omega)), h3.of (fr.2 20 (by omega)), h4.fr fr (by omega), gq.2.2.2.2.2, fun k hk => ?_⟩, gq⟩
  · obtain ⟨a1, g, a2, a3⟩ := h1
    exact ⟨by rw [fr.2 4 (by omega)]; exact a1, g, by rw [fr.2 5 (by omega)]; exact a2, a3⟩
  · unfold vU
    split
    · rename_i hki
      subst hki
      exact hT'
    · exact (h6 k hk).fr fr (by omega) (by omega)
theorem s_move (d : Nat) {σ : xS} {V : Nat → pT} {C : Nat → Int32} {i p t : Nat} (h : hMS σ V C) (hi : i < 3) (hp : p < 64) (ht : t < 64) : ∃ σ', xEx (d + 3) 15 [.inr (some (38 + 2 * i)), .inl (nI p), .inl (nI t)] σ none σ' ∧ hMS σ' (vU V i (pMv (V i) p t)) C ∧ hGq σ σ' 0 0 := by
  obtain ⟨σ', x1, x2, x3⟩ := m_moveT d (h.2.2.2.2.2 i hi) hp ht (by omega)
  exact ⟨σ', x1, h.tree hi x2 x3⟩
theorem s_lay (d : Nat) {σ : xS} {V : Nat → pT} {C : Nat → Int32} {i p : Nat} {q : Option Nat} {F : Option pF} (h : hMS σ V C) (hi : i < 3) (hp : p < 64) (hq : hOpt σ q F) : ∃ σ', xEx (d + 2) 10 [.inr (some (38 + 2 * i)), .inl (nI p), .inr q] σ none σ' ∧ hMS σ' (vU V i (pLy (V i) p F)) C ∧ hGq σ σ' 0 0 := by
  obtain ⟨σ', x1, x2, x3⟩ := m_layT d (h.2.2.2.2.2 i hi) hq hp (by omega)
  exact ⟨σ', x1, h.tree hi x2 x3⟩
theorem s_merge (d : Nat) {σ : xS} {V : Nat → pT} {C : Nat → Int32} {p st : Nat} {qo qa qb : Option Nat} {o a b : Option pF} (h : hMS σ V C) (ho : hOpt σ qo o) (ha : hOpt σ qa a) (hb : hOpt σ qb b) (so : ∀ O, o = some O → O.2.length ≤ 8) (hp : p < 64) (hst : st < 1000) :
    ∃ (σ' : xS) (r : Option Nat), xEx (d + 4) 58 [.inr (some 4), .inl (nI p), .inr qo, .inr qa, .inr qb, .inl (nI st)] σ (some (.inr r)) σ' ∧ hOpt σ' r (pMerge st o a b).1 ∧ hMS σ' V (cUp C p (pMerge st o a b).2) ∧ hGr σ σ' 2 78 := by
  obtain ⟨h1, h2, h3, h4, h5, h6⟩ := h
  obtain ⟨σ', r, x1, x2, x3, x4, x5⟩ := m_mergeFiles d h1 h2 h3 h4 h5 ho ha hb so hp hst
  refine ⟨σ', r, x1, x2, ⟨h1.of x5.2.1, x4, x3, ?_, x5.2.2.2.2.2, fun i hi => (h6 i hi).gr x5 (by omega) (by omega)⟩, x5⟩
  obtain ⟨f, a1, a2⟩ := h4
  exact ⟨f, by rw [x5.2.1 1 (by decide) (by decide)]; exact a1, a2⟩
theorem hMg.at {σ : xS} (h : hMg σ) : ∃ g : Nat → Option Nat, σ.1 5 = some (.inr (.inl (1, 3, g))) ∧ ∀ i, i < 3 → g i = some (38 + 2 * i) := by
  obtain ⟨-, g, h1, h2, h3, h4⟩ := h
  refine ⟨g, h1, fun i hi => ?_⟩
  match i, hi with
  | 0, _ => exact h2
  | 1, _ => exact h3
  | 2, _ => exact h4
def pSettle (st : Nat) (C : Nat → Int32) (V : Nat → pT) (p : Nat) : Option pF × Int32 := if ¬ C p &&& nI 16 = 0 ∧ ((V 1 p).isNone = true ∨ (V 2 p).isNone = true) then (if (V 1 p).isNone then V 2 p else V 1 p, 0) else pMerge st (V 0 p) (V 1 p) (V 2 p)
theorem m_settle (d : Nat) {σ : xS} {V : Nat → pT} {C : Nat → Int32} {p st : Nat} (h : hMS σ V C) (so : ∀ O, V 0 p = some O → O.2.length ≤ 8) (hp : p < 64) (hst : st < 1000) :
    ∃ (σ' : xS) (r : Option Nat), xEx (d + 5) 59 [.inr (some 4), .inl (nI p), .inl (nI st)] σ (some (.inr r)) σ' ∧ hOpt σ' r (pSettle st C V p).1 ∧ hMS σ' V (cUp C p (pSettle st C V p).2) ∧ hGr σ σ' 2 78 := by
  let K : Option xV → xS → Prop := fun r0 σ0 => ∃ r, r0 = some (.inr r) ∧ hOpt σ0 r (pSettle st C V p).1 ∧ hMS σ0 V (cUp C p (pSettle st C V p).2) ∧ hGr σ σ0 2 78
  have main : xGo (xEx (d + 4)) xtb_59 K (0, [some (.inr (some 4)), some (.inl (nI p)), some (.inl (nI st)), none, none], [], σ) := by
    have hM := h.1
    have h4 := hM.1
    obtain ⟨g, h5, hg⟩ := hM.at
    have t0 := h.2.2.2.2.2 0 (by decide)
    have t1 := h.2.2.2.2.2 1 (by decide)
    have t2 := h.2.2.2.2.2 2 (by decide)
    obtain ⟨q0, f0, o0⟩ := m_fileAtT (d + 2) t0 hp
    obtain ⟨q1, f1, o1⟩ := m_fileAtT (d + 2) t1 hp
    obtain ⟨q2, f2, o2⟩ := m_fileAtT (d + 2) t2 hp
    have merge : ¬ (¬ C p &&& nI 16 = 0 ∧ ((V 1 p).isNone = true ∨ (V 2 p).isNone = true)) → xGo (xEx (d + 4)) xtb_59 K (54, [some (.inr (some 4)), some (.inl (nI p)), some (.inl (nI st)), some (.inr q1), some (.inr q2)], [], σ) := by
      intro hno
      have e : pSettle st C V p = pMerge st (V 0 p) (V 1 p) (V 2 p) := by unfold pSettle; rw [if_neg hno]
      repeat (first | refine gp rfl rfl rfl ?_ | refine ggf rfl (by assumption) (by rfl) ?_ | refine gal rfl (by assumption) (by rfl) (by omega) (by omega) ?_ | refine gil rfl (by assumption) (by rfl) (by omega) (by omega) ?_ | refine gbl rfl (by assumption) (by rfl) (by omega) (by omega) ?_ | refine gln rfl (xlen_i (by assumption)) ?_ | refine gln rfl (xlen_q (by assumption)) ?_)
      rw [hg 0 (by decide)]
      refine gcv (As := [.inl (nI p)]) (rest := [.inl (nI p), .inr (some 4)]) rfl (by decide) f0 t0.obj rfl rfl (Nat.le_of_ble_eq_true rfl) ?_
      repeat (first | refine gp rfl rfl rfl ?_ | refine ggf rfl (by assumption) (by rfl) ?_ | refine gal rfl (by assumption) (by rfl) (by omega) (by omega) ?_ | refine gil rfl (by assumption) (by rfl) (by omega) (by omega) ?_ | refine gbl rfl (by assumption) (by rfl) (by omega) (by omega) ?_ | refine gln rfl (xlen_i (by assumption)) ?_ | refine gln rfl (xlen_q (by assumption)) ?_)
      obtain ⟨σ', r, x1, x2, x3, x4⟩ := s_merge d h o0 o1 o2 so hp hst
      refine gcv (As := [.inl (nI p), .inr q0, .inr q1, .inr q2, .inl (nI st)]) (rest := []) rfl (by decide) x1 h4 rfl rfl (by decide) ?_
      exact gra rfl ⟨r, rfl, by rw [e]; exact x2, by rw [e]; exact x3, x4⟩
    repeat (first | refine gp rfl rfl rfl ?_ | refine ggf rfl (by assumption) (by rfl) ?_ | refine gal rfl (by assumption) (by rfl) (by omega) (by omega) ?_ | refine gil rfl (by assumption) (by rfl) (by omega) (by omega) ?_ | refine gbl rfl (by assumption) (by rfl) (by omega) (by omega) ?_ | refine gln rfl (xlen_i (by assumption)) ?_ | refine gln rfl (xlen_q (by assumption)) ?_)
    rw [hg 1 (by decide)]
    refine gcv (As := [.inl (nI p)]) (rest := []) rfl (by decide) f1 t1.obj rfl rfl (by decide) ?_
    repeat (first | refine gp rfl rfl rfl ?_ | refine ggf rfl (by assumption) (by rfl) ?_ | refine gal rfl (by assumption) (by rfl) (by omega) (by omega) ?_ | refine gil rfl (by assumption) (by rfl) (by omega) (by omega) ?_ | refine gbl rfl (by assumption) (by rfl) (by omega) (by omega) ?_ | refine gln rfl (xlen_i (by assumption)) ?_ | refine gln rfl (xlen_q (by assumption)) ?_)
    rw [hg 2 (by decide)]
    refine gcv (As := [.inl (nI p)]) (rest := []) rfl (by decide) f2 t2.obj rfl rfl (by decide) ?_
    repeat (first | refine gp rfl rfl rfl ?_ | refine ggf rfl (by assumption) (by rfl) ?_ | refine gal rfl (by assumption) (by rfl) (by omega) (by omega) ?_ | refine gil rfl (by assumption) (by rfl) (by omega) (by omega) ?_ | refine gbl rfl (by assumption) (by rfl) (by omega) (by omega) ?_ | refine gln rfl (xlen_i (by assumption)) ?_ | refine gln rfl (xlen_q (by assumption)) ?_)
    refine gcv (As := [.inl (nI p)]) (rest := []) rfl (by decide) (m_codesAt (d + 2) hM h.2.2.1 hp) h4 rfl rfl (by decide) ?_
    repeat (first | refine gp rfl rfl rfl ?_ | refine ggf rfl (by assumption) (by rfl) ?_ | refine gal rfl (by assumption) (by rfl) (by omega) (by omega) ?_ | refine gil rfl (by assumption) (by rfl) (by omega) (by omega) ?_ | refine gbl rfl (by assumption) (by rfl) (by omega) (by omega) ?_ | refine gln rfl (xlen_i (by assumption)) ?_ | refine gln rfl (xlen_q (by assumption)) ?_)
    by_cases hc : C p &&& nI 16 = 0
    · refine git rfl (show C p &&& nI 16 = 0 from hc) ?_
      exact merge (fun z => z.1 hc)
    · refine giff rfl (fun z => hc z) ?_
      have s1 := hOpt_some o1
      have s2 := hOpt_some o2
      repeat (first | refine gp rfl rfl rfl ?_ | refine ggf rfl (by assumption) (by rfl) ?_ | refine gal rfl (by assumption) (by rfl) (by omega) (by omega) ?_ | refine gil rfl (by assumption) (by rfl) (by omega) (by omega) ?_ | refine gbl rfl (by assumption) (by rfl) (by omega) (by omega) ?_ | refine gln rfl (xlen_i (by assumption)) ?_ | refine gln rfl (xlen_q (by assumption)) ?_)
      refine gnl rfl (fun hz => ?_) (fun z hz => ?_)
      · subst hz
        have n1 : (V 1 p).isNone = true := by cases hv : V 1 p with
          | none => rfl
          | some _ => rw [hv] at s1; cases s1
        have e : pSettle st C V p = (V 2 p, 0) := by unfold pSettle; rw [if_pos ⟨hc, Or.inl n1⟩, if_pos n1]
        repeat (first | refine gp rfl rfl rfl ?_ | refine ggf rfl (by assumption) (by rfl) ?_ | refine gal rfl (by assumption) (by rfl) (by omega) (by omega) ?_ | refine gil rfl (by assumption) (by rfl) (by omega) (by omega) ?_ | refine gbl rfl (by assumption) (by rfl) (by omega) (by omega) ?_ | refine gln rfl (xlen_i (by assumption)) ?_ | refine gln rfl (xlen_q (by assumption)) ?_)
        refine gnn rfl (fun z hz => by cases hz) (fun _ => ?_)
        repeat (first | refine gp rfl rfl rfl ?_ | refine ggf rfl (by assumption) (by rfl) ?_ | refine gal rfl (by assumption) (by rfl) (by omega) (by omega) ?_ | refine gil rfl (by assumption) (by rfl) (by omega) (by omega) ?_ | refine gbl rfl (by assumption) (by rfl) (by omega) (by omega) ?_ | refine gln rfl (xlen_i (by assumption)) ?_ | refine gln rfl (xlen_q (by assumption)) ?_)
        exact gra rfl ⟨q2, rfl, by rw [e]; exact o2, by rw [e, cUp_zero]; exact h, hGr.refl h.2.2.2.2.1 _ _⟩
      · subst hz
        have n1 : ¬ (V 1 p).isNone = true := by cases hv : V 1 p with
          | none => rw [hv] at s1; cases s1
          | some _ => simp
        repeat (first | refine gp rfl rfl rfl ?_ | refine ggf rfl (by assumption) (by rfl) ?_ | refine gal rfl (by assumption) (by rfl) (by omega) (by omega) ?_ | refine gil rfl (by assumption) (by rfl) (by omega) (by omega) ?_ | refine gbl rfl (by assumption) (by rfl) (by omega) (by omega) ?_ | refine gln rfl (xlen_i (by assumption)) ?_ | refine gln rfl (xlen_q (by assumption)) ?_)
        refine gnn rfl (fun z2 hz2 => ?_) (fun hz2 => ?_)
        · subst hz2
          refine merge (fun z => ?_)
          rcases z.2 with z | z
          · exact n1 z
          · cases hv : V 2 p with
            | none => rw [hv] at s2; cases s2
            | some _ => rw [hv] at z; cases z
        · subst hz2
          have n2 : (V 2 p).isNone = true := by cases hv : V 2 p with
            | none => rfl
            | some _ => rw [hv] at s2; cases s2
          have e : pSettle st C V p = (V 1 p, 0) := by unfold pSettle; rw [if_pos ⟨hc, Or.inr n2⟩, if_neg n1]
          repeat (first | refine gp rfl rfl rfl ?_ | refine ggf rfl (by assumption) (by rfl) ?_ | refine gal rfl (by assumption) (by rfl) (by omega) (by omega) ?_ | refine gil rfl (by assumption) (by rfl) (by omega) (by omega) ?_ | refine gbl rfl (by assumption) (by rfl) (by omega) (by omega) ?_ | refine gln rfl (xlen_i (by assumption)) ?_ | refine gln rfl (xlen_q (by assumption)) ?_)
          refine gnn rfl (fun z3 hz3 => ?_) (fun z => by cases z)
          repeat (first | refine gp rfl rfl rfl ?_ | refine ggf rfl (by assumption) (by rfl) ?_ | refine gal rfl (by assumption) (by rfl) (by omega) (by omega) ?_ | refine gil rfl (by assumption) (by rfl) (by omega) (by omega) ?_ | refine gbl rfl (by assumption) (by rfl) (by omega) (by omega) ?_ | refine gln rfl (xlen_i (by assumption)) ?_ | refine gln rfl (xlen_q (by assumption)) ?_)
          exact gra rfl ⟨_, rfl, by rw [e]; exact o1, by rw [e, cUp_zero]; exact h, hGr.refl h.2.2.2.2.1 _ _⟩
  obtain ⟨r, σ', hex, r', rfl, g1, g2, g3⟩ := ex_of (d := d + 4) (y := 59) (as := [.inr (some 4), .inl (nI p), .inl (nI st)]) (σ := σ) (K := K) (by decide) rfl main
  exact ⟨σ', r', hex, g1, g2, g3⟩
