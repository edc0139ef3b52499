/-! MODULE: questions to the class, of the sides -/
section QUERY2
variable {σ : xS} {Ts V : Nat → pT} {C : Nat → Int32} {th st : Nat} {mg : Bool} {D1 D2 : pD}
def aSide {α : Type} (x : Int32) (a b c : α) : α := if x = nI 1 then a else if x = nI 2 then b else c
def aTo (R : Nat → Option Nat) (p : Int32) : Int32 := match oN 64 p with
  | some j => oI (R j)
  | none => -1
def aPl (P : Nat → pP) (p : Int32) : Int32 := match oN 8 p with
  | some j => plI (P j)
  | none => -1
theorem m_targetA (d : Nat) {a : Nat} {D : pD} (h : hDs σ a D) (p : Int32) : xEx (d + 2) 34 [.inr (some a), .inl p] σ (some (.inl (aTo D.1 p))) σ := by
  obtain ⟨h0, ⟨ft, h1, h1'⟩, -⟩ := h
  unfold aTo
  rcases oN_cases (n := 64) (by decide) p with ⟨j, hj, rfl, e⟩ | ⟨hn, e⟩
  · rw [e]
    have := m_targetOf d h0 h1 hj
    rw [h1' j hj] at this
    exact this
  · rw [e]
    exact m_targetOf_no d hn
theorem m_standA (d : Nat) {a : Nat} {D : pD} (h : hDs σ a D) (p : Int32) : xEx (d + 2) 35 [.inr (some a), .inl p] σ (some (.inl (aTo D.2.2 p))) σ := by
  obtain ⟨h0, -, -, -, -, -, ⟨ft, h1, h1'⟩⟩ := h
  unfold aTo
  rcases oN_cases (n := 64) (by decide) p with ⟨j, hj, rfl, e⟩ | ⟨hn, e⟩
  · rw [e]
    have := m_standOf d h0 h1 hj
    rw [h1' j hj] at this
    exact this
  · rw [e]
    exact m_standOf_no d hn
theorem m_placeA (d : Nat) {a : Nat} {D : pD} (h : hDs σ a D) (p : Int32) : xEx (d + 1) 31 [.inr (some a), .inl p] σ (some (.inl (aPl D.2.1 p))) σ := by
  obtain ⟨h0, -, -, -, ⟨ft, h1, h1'⟩, -⟩ := h
  unfold aPl
  rcases oN_cases (n := 8) (by decide) p with ⟨j, hj, rfl, e⟩ | ⟨hn, e⟩
  · rw [e]
    have := m_placeOf d h0 h1 hj
    rw [h1' j hj] at this
    exact this
  · rw [e]
    exact m_placeOf_no d hn
theorem m_renamed (d : Nat) (h : hTop σ Ts V C th st mg D1 D2) (x p : Int32) : xEx (d + 3) 85 [.inr (some 2), .inl x, .inl p] σ (some (.inl (aSide x (aTo D1.1 p) (aTo D2.1 p) (-1)))) σ := by
  obtain ⟨h2, -, -, hm, s1, s2⟩ := h
  have h4 := hm.1.1
  have k1 : σ.1 6 = some (.inr (.inr (3, _))) := s1.1
  have k2 : σ.1 13 = some (.inr (.inr (3, _))) := s2.1
  refine ⟨by decide, rfl, ?_⟩
  show xGo (xEx (d + 2)) xtb_85 _ (0, [some (.inr (some 2)), some (.inl x), some (.inl p), none], [], σ)
  repeat (first | refine gp rfl rfl rfl ?_ | refine ggf rfl (by assumption) (by rfl) ?_ | refine gal rfl (by assumption) (by rfl) (by omega) (by omega) ?_ | refine gil rfl (by assumption) (by rfl) (by omega) (by omega) ?_ | refine gbl rfl (by assumption) (by rfl) (by omega) (by omega) ?_ | refine gln rfl (xlen_i (by assumption)) ?_ | refine gln rfl (xlen_q (by assumption)) ?_)
  refine gcv (As := [.inl x]) (rest := []) rfl (by decide) (m_sideOf (d + 1) hm.1) h4 rfl rfl (by decide) ?_
  repeat (first | refine gp rfl rfl rfl ?_ | refine ggf rfl (by assumption) (by rfl) ?_ | refine gal rfl (by assumption) (by rfl) (by omega) (by omega) ?_ | refine gil rfl (by assumption) (by rfl) (by omega) (by omega) ?_ | refine gbl rfl (by assumption) (by rfl) (by omega) (by omega) ?_ | refine gln rfl (xlen_i (by assumption)) ?_ | refine gln rfl (xlen_q (by assumption)) ?_)
  unfold aSide
  by_cases c1 : x = nI 1
  · rw [if_pos c1, if_pos c1]
    refine gnn rfl (fun z hz => ?_) (fun z => by cases z)
    repeat (first | refine gp rfl rfl rfl ?_ | refine ggf rfl (by assumption) (by rfl) ?_ | refine gal rfl (by assumption) (by rfl) (by omega) (by omega) ?_ | refine gil rfl (by assumption) (by rfl) (by omega) (by omega) ?_ | refine gbl rfl (by assumption) (by rfl) (by omega) (by omega) ?_ | refine gln rfl (xlen_i (by assumption)) ?_ | refine gln rfl (xlen_q (by assumption)) ?_)
    refine gcv (As := [.inl p]) (rest := []) rfl (by decide) (m_targetA d s1 p) k1 rfl rfl (by decide) ?_
    exact gri rfl (fun h => absurd h (by decide)) ⟨rfl, rfl⟩
  · rw [if_neg c1, if_neg c1]
    by_cases c2 : x = nI 2
    · rw [if_pos c2, if_pos c2]
      refine gnn rfl (fun z hz => ?_) (fun z => by cases z)
      repeat (first | refine gp rfl rfl rfl ?_ | refine ggf rfl (by assumption) (by rfl) ?_ | refine gal rfl (by assumption) (by rfl) (by omega) (by omega) ?_ | refine gil rfl (by assumption) (by rfl) (by omega) (by omega) ?_ | refine gbl rfl (by assumption) (by rfl) (by omega) (by omega) ?_ | refine gln rfl (xlen_i (by assumption)) ?_ | refine gln rfl (xlen_q (by assumption)) ?_)
      refine gcv (As := [.inl p]) (rest := []) rfl (by decide) (m_targetA d s2 p) k2 rfl rfl (by decide) ?_
      exact gri rfl (fun h => absurd h (by decide)) ⟨rfl, rfl⟩
    · rw [if_neg c2, if_neg c2]
      refine gnn rfl (fun z hz => by cases hz) (fun _ => ?_)
      repeat (first | refine gp rfl rfl rfl ?_ | refine ggf rfl (by assumption) (by rfl) ?_ | refine gal rfl (by assumption) (by rfl) (by omega) (by omega) ?_ | refine gil rfl (by assumption) (by rfl) (by omega) (by omega) ?_ | refine gbl rfl (by assumption) (by rfl) (by omega) (by omega) ?_ | refine gln rfl (xlen_i (by assumption)) ?_ | refine gln rfl (xlen_q (by assumption)) ?_)
      exact gri rfl (fun h => absurd h (by decide)) ⟨by rw [xk_m1], rfl⟩
theorem m_newPlace (d : Nat) (h : hTop σ Ts V C th st mg D1 D2) (x p : Int32) : xEx (d + 3) 86 [.inr (some 2), .inl x, .inl p] σ (some (.inl (aSide x (aPl D1.2.1 p) (aPl D2.2.1 p) (-1)))) σ := by
  obtain ⟨h2, -, -, hm, s1, s2⟩ := h
  have h4 := hm.1.1
  have k1 : σ.1 6 = some (.inr (.inr (3, _))) := s1.1
  have k2 : σ.1 13 = some (.inr (.inr (3, _))) := s2.1
  refine ⟨by decide, rfl, ?_⟩
  show xGo (xEx (d + 2)) xtb_86 _ (0, [some (.inr (some 2)), some (.inl x), some (.inl p), none], [], σ)
  repeat (first | refine gp rfl rfl rfl ?_ | refine ggf rfl (by assumption) (by rfl) ?_ | refine gal rfl (by assumption) (by rfl) (by omega) (by omega) ?_ | refine gil rfl (by assumption) (by rfl) (by omega) (by omega) ?_ | refine gbl rfl (by assumption) (by rfl) (by omega) (by omega) ?_ | refine gln rfl (xlen_i (by assumption)) ?_ | refine gln rfl (xlen_q (by assumption)) ?_)
  refine gcv (As := [.inl x]) (rest := []) rfl (by decide) (m_sideOf (d + 1) hm.1) h4 rfl rfl (by decide) ?_
  repeat (first | refine gp rfl rfl rfl ?_ | refine ggf rfl (by assumption) (by rfl) ?_ | refine gal rfl (by assumption) (by rfl) (by omega) (by omega) ?_ | refine gil rfl (by assumption) (by rfl) (by omega) (by omega) ?_ | refine gbl rfl (by assumption) (by rfl) (by omega) (by omega) ?_ | refine gln rfl (xlen_i (by assumption)) ?_ | refine gln rfl (xlen_q (by assumption)) ?_)
  unfold aSide
  by_cases c1 : x = nI 1
  · rw [if_pos c1, if_pos c1]
    refine gnn rfl (fun z hz => ?_) (fun z => by cases z)
    repeat (first | refine gp rfl rfl rfl ?_ | refine ggf rfl (by assumption) (by rfl) ?_ | refine gal rfl (by assumption) (by rfl) (by omega) (by omega) ?_ | refine gil rfl (by assumption) (by rfl) (by omega) (by omega) ?_ | refine gbl rfl (by assumption) (by rfl) (by omega) (by omega) ?_ | refine gln rfl (xlen_i (by assumption)) ?_ | refine gln rfl (xlen_q (by assumption)) ?_)
    refine gcv (As := [.inl p]) (rest := []) rfl (by decide) (m_placeA (d + 1) s1 p) k1 rfl rfl (by decide) ?_
    exact gri rfl (fun h => absurd h (by decide)) ⟨rfl, rfl⟩
  · rw [if_neg c1, if_neg c1]
    by_cases c2 : x = nI 2
    · rw [if_pos c2, if_pos c2]
      refine gnn rfl (fun z hz => ?_) (fun z => by cases z)
      repeat (first | refine gp rfl rfl rfl ?_ | refine ggf rfl (by assumption) (by rfl) ?_ | refine gal rfl (by assumption) (by rfl) (by omega) (by omega) ?_ | refine gil rfl (by assumption) (by rfl) (by omega) (by omega) ?_ | refine gbl rfl (by assumption) (by rfl) (by omega) (by omega) ?_ | refine gln rfl (xlen_i (by assumption)) ?_ | refine gln rfl (xlen_q (by assumption)) ?_)
      refine gcv (As := [.inl p]) (rest := []) rfl (by decide) (m_placeA (d + 1) s2 p) k2 rfl rfl (by decide) ?_
      exact gri rfl (fun h => absurd h (by decide)) ⟨rfl, rfl⟩
    · rw [if_neg c2, if_neg c2]
      refine gnn rfl (fun z hz => by cases hz) (fun _ => ?_)
      repeat (first | refine gp rfl rfl rfl ?_ | refine ggf rfl (by assumption) (by rfl) ?_ | refine gal rfl (by assumption) (by rfl) (by omega) (by omega) ?_ | refine gil rfl (by assumption) (by rfl) (by omega) (by omega) ?_ | refine gbl rfl (by assumption) (by rfl) (by omega) (by omega) ?_ | refine gln rfl (xlen_i (by assumption)) ?_ | refine gln rfl (xlen_q (by assumption)) ?_)
      exact gri rfl (fun h => absurd h (by decide)) ⟨by rw [xk_m1], rfl⟩
theorem m_stands (d : Nat) (h : hTop σ Ts V C th st mg D1 D2) (x p : Int32) : xEx (d + 3) 87 [.inr (some 2), .inl x, .inl p] σ (some (.inl (aSide x (aTo D1.2.2 p) (aTo D2.2.2 p) (-1)))) σ := by
  obtain ⟨h2, -, -, hm, s1, s2⟩ := h
  have h4 := hm.1.1
  have k1 : σ.1 6 = some (.inr (.inr (3, _))) := s1.1
  have k2 : σ.1 13 = some (.inr (.inr (3, _))) := s2.1
  refine ⟨by decide, rfl, ?_⟩
  show xGo (xEx (d + 2)) xtb_87 _ (0, [some (.inr (some 2)), some (.inl x), some (.inl p), none], [], σ)
  repeat (first | refine gp rfl rfl rfl ?_ | refine ggf rfl (by assumption) (by rfl) ?_ | refine gal rfl (by assumption) (by rfl) (by omega) (by omega) ?_ | refine gil rfl (by assumption) (by rfl) (by omega) (by omega) ?_ | refine gbl rfl (by assumption) (by rfl) (by omega) (by omega) ?_ | refine gln rfl (xlen_i (by assumption)) ?_ | refine gln rfl (xlen_q (by assumption)) ?_)
  refine gcv (As := [.inl x]) (rest := []) rfl (by decide) (m_sideOf (d + 1) hm.1) h4 rfl rfl (by decide) ?_
  repeat (first | refine gp rfl rfl rfl ?_ | refine ggf rfl (by assumption) (by rfl) ?_ | refine gal rfl (by assumption) (by rfl) (by omega) (by omega) ?_ | refine gil rfl (by assumption) (by rfl) (by omega) (by omega) ?_ | refine gbl rfl (by assumption) (by rfl) (by omega) (by omega) ?_ | refine gln rfl (xlen_i (by assumption)) ?_ | refine gln rfl (xlen_q (by assumption)) ?_)
  unfold aSide
  by_cases c1 : x = nI 1
  · rw [if_pos c1, if_pos c1]
    refine gnn rfl (fun z hz => ?_) (fun z => by cases z)
    repeat (first | refine gp rfl rfl rfl ?_ | refine ggf rfl (by assumption) (by rfl) ?_ | refine gal rfl (by assumption) (by rfl) (by omega) (by omega) ?_ | refine gil rfl (by assumption) (by rfl) (by omega) (by omega) ?_ | refine gbl rfl (by assumption) (by rfl) (by omega) (by omega) ?_ | refine gln rfl (xlen_i (by assumption)) ?_ | refine gln rfl (xlen_q (by assumption)) ?_)
    refine gcv (As := [.inl p]) (rest := []) rfl (by decide) (m_standA d s1 p) k1 rfl rfl (by decide) ?_
    exact gri rfl (fun h => absurd h (by decide)) ⟨rfl, rfl⟩
  · rw [if_neg c1, if_neg c1]
    by_cases c2 : x = nI 2
    · rw [if_pos c2, if_pos c2]
      refine gnn rfl (fun z hz => ?_) (fun z => by cases z)
      repeat (first | refine gp rfl rfl rfl ?_ | refine ggf rfl (by assumption) (by rfl) ?_ | refine gal rfl (by assumption) (by rfl) (by omega) (by omega) ?_ | refine gil rfl (by assumption) (by rfl) (by omega) (by omega) ?_ | refine gbl rfl (by assumption) (by rfl) (by omega) (by omega) ?_ | refine gln rfl (xlen_i (by assumption)) ?_ | refine gln rfl (xlen_q (by assumption)) ?_)
      refine gcv (As := [.inl p]) (rest := []) rfl (by decide) (m_standA d s2 p) k2 rfl rfl (by decide) ?_
      exact gri rfl (fun h => absurd h (by decide)) ⟨rfl, rfl⟩
    · rw [if_neg c2, if_neg c2]
      refine gnn rfl (fun z hz => by cases hz) (fun _ => ?_)
      repeat (first | refine gp rfl rfl rfl ?_ | refine ggf rfl (by assumption) (by rfl) ?_ | refine gal rfl (by assumption) (by rfl) (by omega) (by omega) ?_ | refine gil rfl (by assumption) (by rfl) (by omega) (by omega) ?_ | refine gbl rfl (by assumption) (by rfl) (by omega) (by omega) ?_ | refine gln rfl (xlen_i (by assumption)) ?_ | refine gln rfl (xlen_q (by assumption)) ?_)
      exact gri rfl (fun h => absurd h (by decide)) ⟨by rw [xk_m1], rfl⟩
theorem m_fileA (d : Nat) {t : Nat} {T : pT} (h : hT σ t T) (p : Int32) : ∃ q, xEx (d + 2) 8 [.inr (some t), .inl p] σ (some (.inr q)) σ ∧ hOpt σ q (match oN 64 p with
    | some j => T j
    | none => none) := by
  rcases oN_cases (n := 64) (by decide) p with ⟨j, hj, rfl, e⟩ | ⟨hn, e⟩
  · rw [e]; exact m_fileAtT d h hj
  · rw [e]; exact ⟨none, m_fileAt_no d hn, trivial⟩
theorem pFok_A {T : pT} (h : pTok T) (p : Int32) : pFok (match oN 64 p with
    | some j => T j
    | none => none) := by
  rcases oN_cases (n := 64) (by decide) p with ⟨j, hj, rfl, e⟩ | ⟨hn, e⟩
  · rw [e]; exact h j hj
  · rw [e]; intro G hG; cases hG
def aAt (T : pT) (p : Int32) : Option pF := match oN 64 p with
  | some j => T j
  | none => none
theorem m_score (d : Nat) (h : hTop σ Ts V C th st mg D1 D2) (k0 : pTok (Ts 0)) (k1 : pTok (Ts 1)) (k2 : pTok (Ts 2)) (x p q : Int32) : xEx (d + 3) 88 [.inr (some 2), .inl x, .inl p, .inl q] σ (some (.inl (aSide x (pScore (aAt (Ts 0) p) (aAt (Ts 1) q)) (pScore (aAt (Ts 0) p) (aAt (Ts 2) q)) (-1)))) σ := by
  obtain ⟨h2, ⟨g, h3, hg⟩, hTs, -⟩ := h
  have t0 := hTs 0 (by decide)
  obtain ⟨q0, f0, o0⟩ := m_fileA d t0 p
  refine ⟨by decide, rfl, ?_⟩
  show xGo (xEx (d + 2)) xtb_88 _ (0, [some (.inr (some 2)), some (.inl x), some (.inl p), some (.inl q)], [], σ)
  have go : ∀ i, i < 4 → pTok (Ts i) → x = nI i → aSide x (pScore (aAt (Ts 0) p) (aAt (Ts 1) q)) (pScore (aAt (Ts 0) p) (aAt (Ts 2) q)) (-1) = pScore (aAt (Ts 0) p) (aAt (Ts i) q) → xGo (xEx (d + 2)) xtb_88 (fun r0 σ0 => r0 = some (.inl (aSide x (pScore (aAt (Ts 0) p) (aAt (Ts 1) q)) (pScore (aAt (Ts 0) p) (aAt (Ts 2) q)) (-1))) ∧ σ0 = σ) (12, [some (.inr (some 2)), some (.inl x), some (.inl p), some (.inl q)], [], σ) := by
    intro i hi ki hx he
    subst hx
    have ti := hTs i hi
    obtain ⟨q1, f1, o1⟩ := m_fileA d ti q
    repeat (first | refine gp rfl rfl rfl ?_ | refine ggf rfl (by assumption) (by rfl) ?_ | refine gal rfl (by assumption) (by rfl) (by omega) (by omega) ?_ | refine gil rfl (by assumption) (by rfl) (by omega) (by omega) ?_ | refine gbl rfl (by assumption) (by rfl) (by omega) (by omega) ?_ | refine gln rfl (xlen_i (by assumption)) ?_ | refine gln rfl (xlen_q (by assumption)) ?_)
    rw [hg 0 (by decide)]
    refine gcv (As := [.inl p]) (rest := []) rfl (by decide) f0 t0.obj rfl rfl (by decide) ?_
    repeat (first | refine gp rfl rfl rfl ?_ | refine ggf rfl (by assumption) (by rfl) ?_ | refine gal rfl (by assumption) (by rfl) (by omega) (by omega) ?_ | refine gil rfl (by assumption) (by rfl) (by omega) (by omega) ?_ | refine gbl rfl (by assumption) (by rfl) (by omega) (by omega) ?_ | refine gln rfl (xlen_i (by assumption)) ?_ | refine gln rfl (xlen_q (by assumption)) ?_)
    rw [hg i hi]
    refine gcv (As := [.inl q]) (rest := [.inr q0]) rfl (by decide) f1 ti.obj rfl rfl (Nat.le_of_ble_eq_true rfl) ?_
    refine gcs (As := [.inr q0, .inr q1]) (rest := []) rfl (by decide) (m_likeness d o0 o1 (pFok_A k0 p) (pFok_A ki q)) rfl rfl (by decide) ?_
    exact gri rfl (fun h => absurd h (by decide)) ⟨by rw [he]; rfl, rfl⟩
  repeat (first | refine gp rfl rfl rfl ?_ | refine ggf rfl (by assumption) (by rfl) ?_ | refine gal rfl (by assumption) (by rfl) (by omega) (by omega) ?_ | refine gil rfl (by assumption) (by rfl) (by omega) (by omega) ?_ | refine gbl rfl (by assumption) (by rfl) (by omega) (by omega) ?_ | refine gln rfl (xlen_i (by assumption)) ?_ | refine gln rfl (xlen_q (by assumption)) ?_)
  by_cases c1 : x = nI 1
  · refine gct rfl (show x = nI 1 from c1) ?_
    exact go 1 (by decide) k1 c1 (by unfold aSide; rw [if_pos c1])
  · refine gcf rfl (show ¬ x = nI 1 from c1) ?_
    repeat (first | refine gp rfl rfl rfl ?_ | refine ggf rfl (by assumption) (by rfl) ?_ | refine gal rfl (by assumption) (by rfl) (by omega) (by omega) ?_ | refine gil rfl (by assumption) (by rfl) (by omega) (by omega) ?_ | refine gbl rfl (by assumption) (by rfl) (by omega) (by omega) ?_ | refine gln rfl (xlen_i (by assumption)) ?_ | refine gln rfl (xlen_q (by assumption)) ?_)
    by_cases c2 : x = nI 2
    · refine gct rfl (show x = nI 2 from c2) ?_
      exact go 2 (by decide) k2 c2 (by unfold aSide; rw [if_neg c1, if_pos c2])
    · refine gcf rfl (show ¬ x = nI 2 from c2) ?_
      repeat (first | refine gp rfl rfl rfl ?_ | refine ggf rfl (by assumption) (by rfl) ?_ | refine gal rfl (by assumption) (by rfl) (by omega) (by omega) ?_ | refine gil rfl (by assumption) (by rfl) (by omega) (by omega) ?_ | refine gbl rfl (by assumption) (by rfl) (by omega) (by omega) ?_ | refine gln rfl (xlen_i (by assumption)) ?_ | refine gln rfl (xlen_q (by assumption)) ?_)
      exact gri rfl (fun h => absurd h (by decide)) ⟨by unfold aSide; rw [xk_m1, if_neg c1, if_neg c2], rfl⟩
end QUERY2
