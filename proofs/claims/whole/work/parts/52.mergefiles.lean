/-! MODULE: two versions of a file over a third, the class -/
def pLn (o : Option pF) : List Int32 := match o with
  | some O => O.2
  | none => []
def pLk (o : Option pF) : Bool := match o with
  | some O => O.1
  | none => false
def pMg2 (st : Nat) (o a b : Option pF) : Option pF × Int32 := match a, b with
  | none, b => (b, nI 4)
  | some A, none => (some A, nI 4)
  | some A, some B => if A.1 || B.1 || pLk o then (some A, nI 8) else (some (false, pW [] (pJoin st (pLn o) A.2 B.2)), if pJbad st (pLn o) A.2 B.2 then (if o.isNone then nI 2 else nI 1) else 0)
def pMerge (st : Nat) (o a b : Option pF) : Option pF × Int32 := if a = b then (a, 0) else if o = a then (b, 0) else if o = b then (a, 0) else pMg2 st o a b
def hFresh (σ : xS) : Prop := 63 ≤ σ.2.1 ∧ ∀ k, σ.2.1 ≤ k → σ.1 k = none
/-- what a merge of files leaves: what was made stays; c more cells, s more slots at most; the codes, the merger of lines alone changed -/
def hGr (σ σ' : xS) (c s : Nat) : Prop := hKeep σ σ' ∧ (∀ k, k < 63 → (k < 20 ∨ 37 < k) → σ'.1 k = σ.1 k) ∧ σ.2.1 ≤ σ'.2.1 ∧ σ'.2.1 ≤ σ.2.1 + c ∧ σ'.2.2 ≤ σ.2.2 + s ∧ hFresh σ'
theorem hFresh.of2 {σ σ' : xS} (h : hFresh σ) (h2 : σ'.2 = σ.2) (h3 : ∀ k, 63 ≤ k → σ'.1 k = σ.1 k) : hFresh σ' := ⟨by rw [h2]; exact h.1, fun k hk => by rw [h2] at hk; rw [h3 k (Nat.le_trans h.1 hk)]; exact h.2 k hk⟩
theorem hGr.refl {σ : xS} (h : hFresh σ) (c s : Nat) : hGr σ σ c s := ⟨hKeep.refl σ, fun _ _ _ => rfl, Nat.le_refl _, by omega, by omega, h⟩
theorem hGr.trans {a b c : xS} {c1 s1 c2 s2 : Nat} (h1 : hGr a b c1 s1) (h2 : hGr b c c2 s2) : hGr a c (c1 + c2) (s1 + s2) := by
  obtain ⟨a1, a2, a3, a4, a5, a6⟩ := h1
  obtain ⟨b1, b2, b3, b4, b5, b6⟩ := h2
  exact ⟨a1.trans b1, fun k hk hk' => (b2 k hk hk').trans (a2 k hk hk'), by omega, by omega, by omega, b6⟩
theorem hGr.of_fr {lo hi : Nat} {σ σ' : xS} (hf : hFresh σ) (h : hFr lo hi σ σ') (h1 : 20 ≤ lo) (h2 : hi ≤ 37) (c s : Nat) : hGr σ σ' c s := ⟨h.keep (by omega), fun k _ hk => h.2 k (by omega), by rw [h.1]; exact Nat.le_refl _, by rw [h.1]; omega, by rw [h.1]; omega, hf.of2 h.1 (fun k hk => h.2 k (by omega))⟩
theorem hGr.new {σ : xS} {e : xE} {n : Nat} (hf : hFresh σ) : hGr σ (xnew σ e n) 1 n := by
  obtain ⟨h1, h2⟩ := hf
  refine ⟨fun k e' hk hs => ?_, fun k hk _ => xnew_ne (by omega), Nat.le_succ _, Nat.le_refl _, Nat.le_refl _, Nat.le_succ_of_le h1, fun k hk => ?_⟩
  · rw [xnew_ne]
    · exact hs
    · intro z
      rw [h2 k (by omega)] at hs
      cases hs
  · have hk : σ.2.1 + 1 ≤ k := hk
    rw [xnew_ne (by omega)]
    exact h2 k (by omega)
theorem hMg.of {σ σ' : xS} (h : hMg σ) (hk : ∀ k, k < 63 → (k < 20 ∨ 37 < k) → σ'.1 k = σ.1 k) : hMg σ' := by
  obtain ⟨h1, g, h2, h3⟩ := h
  exact ⟨by rw [hk 4 (by decide) (by decide)]; exact h1, g, by rw [hk 5 (by decide) (by decide)]; exact h2, h3⟩
theorem hCo.of {σ σ' : xS} {C : Nat → Int32} (h : hCo σ C) (hk : σ'.1 20 = σ.1 20) : hCo σ' C := by
  obtain ⟨f, h1, h2⟩ := h
  exact ⟨f, by rw [hk]; exact h1, h2⟩
theorem hL0.of {σ σ' : xS} (h : hL0 σ) (hk : ∀ k, 21 ≤ k → k ≤ 37 → σ'.1 k = σ.1 k) : hL0 σ' := by
  obtain ⟨⟨w, c, h1, h2, f, h3, h4⟩, ⟨F, t1, t2⟩, ⟨fa, ha⟩, ⟨fb, hb⟩, ⟨x1, y1, z1, e1⟩, ⟨x2, y2, z2, e2⟩, ⟨x3, y3, z3, e3⟩⟩ := h
  exact ⟨⟨w, c, by rw [hk 21 (by decide) (by decide)]; exact h1, h2, f, by rw [hk 37 (by decide) (by decide)]; exact h3, h4⟩, ⟨F, by rw [hk 22 (by decide) (by decide)]; exact t1, fun i hi => by rw [hk _ (by omega) (by omega)]; exact t2 i hi⟩, ⟨fa, by rw [hk 32 (by decide) (by decide)]; exact ha⟩, ⟨fb, by rw [hk 33 (by decide) (by decide)]; exact hb⟩, ⟨x1, y1, z1, by rw [hk 34 (by decide) (by decide)]; exact e1⟩, ⟨x2, y2, z2, by rw [hk 35 (by decide) (by decide)]; exact e2⟩, ⟨x3, y3, z3, by rw [hk 36 (by decide) (by decide)]; exact e3⟩⟩
theorem hLM.of {σ σ' : xS} {w : List Int32} {c : Bool} (h : hLM σ w c) (hk : ∀ k, 21 ≤ k → k ≤ 37 → σ'.1 k = σ.1 k) : hLM σ' w c := by
  obtain ⟨h1, h2, f, h3, h4⟩ := h
  exact ⟨by rw [hk 21 (by decide) (by decide)]; exact h1, h2, f, by rw [hk 37 (by decide) (by decide)]; exact h3, h4⟩
theorem m_mergeFiles (d : Nat) {σ : xS} {p st : Nat} {qo qa qb : Option Nat} {o a b : Option pF} {C : Nat → Int32} (hM : hMg σ) (hL : hL0 σ) (hC : hCo σ C) (hN : hInts σ 1 []) (hf : hFresh σ) (ho : hOpt σ qo o) (ha : hOpt σ qa a) (hb : hOpt σ qb b) (so : ∀ O, o = some O → O.2.length ≤ 8) (hp : p < 64) (hst : st < 1000) :
    ∃ (σ' : xS) (r : Option Nat), xEx (d + 4) 58 [.inr (some 4), .inl (nI p), .inr qo, .inr qa, .inr qb, .inl (nI st)] σ (some (.inr r)) σ' ∧ hOpt σ' r (pMerge st o a b).1 ∧ hCo σ' (cUp C p (pMerge st o a b).2) ∧ hL0 σ' ∧ hGr σ σ' 2 78 := by
  generalize hX : pMerge st o a b = X
  let K : Option xV → xS → Prop := fun r0 σ0 => ∃ r, r0 = some (.inr r) ∧ hOpt σ0 r X.1 ∧ hCo σ0 (cUp C p X.2) ∧ hL0 σ0 ∧ hGr σ σ0 2 78
  have done : ∀ (r : Option Nat) (F : Option pF), hOpt σ r F → X = (F, 0) → K (some (.inr r)) σ := by
    intro r F h1 h2
    refine ⟨r, rfl, ?_, ?_, hL, hGr.refl hf _ _⟩
    · rw [h2]; exact h1
    · rw [h2, cUp_zero]; exact hC
  have mk : ∀ (k : Int32) (r : Option Nat) (F : Option pF) (f : Nat → Int32), hOpt σ r F → X = (F, k) → hCo (xup σ 20 (.inl (0, 64, f))) (cUp C p k) → K (some (.inr r)) (xup σ 20 (.inl (0, 64, f))) := by
    intro k r F f h1 h2 h3
    refine ⟨r, rfl, ?_, ?_, hL.of (fun k h1 h2 => xup_ne (by omega)), hGr.of_fr hf (hFr.up (lo := 20) (hi := 20) (by omega) (by omega)) (by omega) (by omega) _ _⟩
    · rw [h2]; exact h1.keep (hKeep.up (by omega))
    · rw [h2]; exact h3
  have main : xGo (xEx (d + 3)) xtb_58 K (0, [some (.inr (some 4)), some (.inl (nI p)), some (.inr qo), some (.inr qa), some (.inr qb), some (.inl (nI st))], [], σ) := by
    repeat (first | refine gp rfl rfl rfl ?_ | refine ggf rfl (by assumption) (by rfl) ?_ | refine gal rfl (by assumption) (by rfl) (by omega) (by omega) ?_ | refine gil rfl (by assumption) (by rfl) (by omega) (by omega) ?_ | refine gbl rfl (by assumption) (by rfl) (by omega) (by omega) ?_ | refine gln rfl (xlen_i (by assumption)) ?_ | refine gln rfl (xlen_q (by assumption)) ?_)
    refine gcs (As := [.inr qa, .inr qb]) (rest := []) rfl (by decide) (m_same (d + 1) ha hb) rfl rfl (by decide) ?_
    by_cases hab : a = b
    · rw [decide_eq_true hab]
      refine giff rfl (fun h => absurd (show (1 : Int32) = 0 from h) (by decide)) ?_
      repeat (first | refine gp rfl rfl rfl ?_ | refine ggf rfl (by assumption) (by rfl) ?_ | refine gal rfl (by assumption) (by rfl) (by omega) (by omega) ?_ | refine gil rfl (by assumption) (by rfl) (by omega) (by omega) ?_ | refine gbl rfl (by assumption) (by rfl) (by omega) (by omega) ?_ | refine gln rfl (xlen_i (by assumption)) ?_ | refine gln rfl (xlen_q (by assumption)) ?_)
      exact gra rfl (done qa a ha (by rw [← hX]; unfold pMerge; rw [if_pos hab]))
    rw [decide_eq_false hab]
    refine git rfl (show (0 : Int32) = 0 from rfl) ?_
    repeat (first | refine gp rfl rfl rfl ?_ | refine ggf rfl (by assumption) (by rfl) ?_ | refine gal rfl (by assumption) (by rfl) (by omega) (by omega) ?_ | refine gil rfl (by assumption) (by rfl) (by omega) (by omega) ?_ | refine gbl rfl (by assumption) (by rfl) (by omega) (by omega) ?_ | refine gln rfl (xlen_i (by assumption)) ?_ | refine gln rfl (xlen_q (by assumption)) ?_)
    refine gcs (As := [.inr qo, .inr qa]) (rest := []) rfl (by decide) (m_same (d + 1) ho ha) rfl rfl (by decide) ?_
    by_cases hoa : o = a
    · rw [decide_eq_true hoa]
      refine giff rfl (fun h => absurd (show (1 : Int32) = 0 from h) (by decide)) ?_
      repeat (first | refine gp rfl rfl rfl ?_ | refine ggf rfl (by assumption) (by rfl) ?_ | refine gal rfl (by assumption) (by rfl) (by omega) (by omega) ?_ | refine gil rfl (by assumption) (by rfl) (by omega) (by omega) ?_ | refine gbl rfl (by assumption) (by rfl) (by omega) (by omega) ?_ | refine gln rfl (xlen_i (by assumption)) ?_ | refine gln rfl (xlen_q (by assumption)) ?_)
      exact gra rfl (done qb b hb (by rw [← hX]; unfold pMerge; rw [if_neg hab, if_pos hoa]))
    rw [decide_eq_false hoa]
    refine git rfl (show (0 : Int32) = 0 from rfl) ?_
    repeat (first | refine gp rfl rfl rfl ?_ | refine ggf rfl (by assumption) (by rfl) ?_ | refine gal rfl (by assumption) (by rfl) (by omega) (by omega) ?_ | refine gil rfl (by assumption) (by rfl) (by omega) (by omega) ?_ | refine gbl rfl (by assumption) (by rfl) (by omega) (by omega) ?_ | refine gln rfl (xlen_i (by assumption)) ?_ | refine gln rfl (xlen_q (by assumption)) ?_)
    refine gcs (As := [.inr qo, .inr qb]) (rest := []) rfl (by decide) (m_same (d + 1) ho hb) rfl rfl (by decide) ?_
    by_cases hob : o = b
    · rw [decide_eq_true hob]
      refine giff rfl (fun h => absurd (show (1 : Int32) = 0 from h) (by decide)) ?_
      repeat (first | refine gp rfl rfl rfl ?_ | refine ggf rfl (by assumption) (by rfl) ?_ | refine gal rfl (by assumption) (by rfl) (by omega) (by omega) ?_ | refine gil rfl (by assumption) (by rfl) (by omega) (by omega) ?_ | refine gbl rfl (by assumption) (by rfl) (by omega) (by omega) ?_ | refine gln rfl (xlen_i (by assumption)) ?_ | refine gln rfl (xlen_q (by assumption)) ?_)
      exact gra rfl (done qa a ha (by rw [← hX]; unfold pMerge; rw [if_neg hab, if_neg hoa, if_pos hob]))
    rw [decide_eq_false hob]
    refine git rfl (show (0 : Int32) = 0 from rfl) ?_
    have e0 : X = pMg2 st o a b := by rw [← hX]; unfold pMerge; rw [if_neg hab, if_neg hoa, if_neg hob]
    have h4 := hM.1
    match qa, a, ha, qb, b, hb, hab, hoa, hob, e0 with
    | none, none, ha, qb, b, hb, hab, hoa, hob, e0 =>
      repeat (first | refine gp rfl rfl rfl ?_ | refine ggf rfl (by assumption) (by rfl) ?_ | refine gal rfl (by assumption) (by rfl) (by omega) (by omega) ?_ | refine gil rfl (by assumption) (by rfl) (by omega) (by omega) ?_ | refine gbl rfl (by assumption) (by rfl) (by omega) (by omega) ?_ | refine gln rfl (xlen_i (by assumption)) ?_ | refine gln rfl (xlen_q (by assumption)) ?_)
      refine gnl rfl (fun _ => ?_) (fun z hz => by cases hz)
      repeat (first | refine gp rfl rfl rfl ?_ | refine ggf rfl (by assumption) (by rfl) ?_ | refine gal rfl (by assumption) (by rfl) (by omega) (by omega) ?_ | refine gil rfl (by assumption) (by rfl) (by omega) (by omega) ?_ | refine gbl rfl (by assumption) (by rfl) (by omega) (by omega) ?_ | refine gln rfl (xlen_i (by assumption)) ?_ | refine gln rfl (xlen_q (by assumption)) ?_)
      obtain ⟨f, x1, x2⟩ := m_mark (d + 1) (k := nI 4) hM hC hp
      refine gcv (As := [.inl (nI p), .inl (nI 4)]) (rest := []) rfl (by decide) x1 h4 rfl rfl (by decide) ?_
      repeat (first | refine gp rfl rfl rfl ?_ | refine ggf rfl (by assumption) (by rfl) ?_ | refine gal rfl (by assumption) (by rfl) (by omega) (by omega) ?_ | refine gil rfl (by assumption) (by rfl) (by omega) (by omega) ?_ | refine gbl rfl (by assumption) (by rfl) (by omega) (by omega) ?_ | refine gln rfl (xlen_i (by assumption)) ?_ | refine gln rfl (xlen_q (by assumption)) ?_)
      refine gnn rfl (fun z hz => by cases hz) (fun _ => ?_)
      repeat (first | refine gp rfl rfl rfl ?_ | refine ggf rfl (by assumption) (by rfl) ?_ | refine gal rfl (by assumption) (by rfl) (by omega) (by omega) ?_ | refine gil rfl (by assumption) (by rfl) (by omega) (by omega) ?_ | refine gbl rfl (by assumption) (by rfl) (by omega) (by omega) ?_ | refine gln rfl (xlen_i (by assumption)) ?_ | refine gln rfl (xlen_q (by assumption)) ?_)
      exact gra rfl (mk _ qb b f hb e0 x2)
    | some za, some A, ha, none, none, hb, hab, hoa, hob, e0 =>
      repeat (first | refine gp rfl rfl rfl ?_ | refine ggf rfl (by assumption) (by rfl) ?_ | refine gal rfl (by assumption) (by rfl) (by omega) (by omega) ?_ | refine gil rfl (by assumption) (by rfl) (by omega) (by omega) ?_ | refine gbl rfl (by assumption) (by rfl) (by omega) (by omega) ?_ | refine gln rfl (xlen_i (by assumption)) ?_ | refine gln rfl (xlen_q (by assumption)) ?_)
      refine gnl rfl (fun z => by cases z) (fun z hz => ?_)
      repeat (first | refine gp rfl rfl rfl ?_ | refine ggf rfl (by assumption) (by rfl) ?_ | refine gal rfl (by assumption) (by rfl) (by omega) (by omega) ?_ | refine gil rfl (by assumption) (by rfl) (by omega) (by omega) ?_ | refine gbl rfl (by assumption) (by rfl) (by omega) (by omega) ?_ | refine gln rfl (xlen_i (by assumption)) ?_ | refine gln rfl (xlen_q (by assumption)) ?_)
      refine gnn rfl (fun z hz => by cases hz) (fun _ => ?_)
      repeat (first | refine gp rfl rfl rfl ?_ | refine ggf rfl (by assumption) (by rfl) ?_ | refine gal rfl (by assumption) (by rfl) (by omega) (by omega) ?_ | refine gil rfl (by assumption) (by rfl) (by omega) (by omega) ?_ | refine gbl rfl (by assumption) (by rfl) (by omega) (by omega) ?_ | refine gln rfl (xlen_i (by assumption)) ?_ | refine gln rfl (xlen_q (by assumption)) ?_)
      obtain ⟨f, x1, x2⟩ := m_mark (d + 1) (k := nI 4) hM hC hp
      refine gcv (As := [.inl (nI p), .inl (nI 4)]) (rest := []) rfl (by decide) x1 h4 rfl rfl (by decide) ?_
      repeat (first | refine gp rfl rfl rfl ?_ | refine ggf rfl (by assumption) (by rfl) ?_ | refine gal rfl (by assumption) (by rfl) (by omega) (by omega) ?_ | refine gil rfl (by assumption) (by rfl) (by omega) (by omega) ?_ | refine gbl rfl (by assumption) (by rfl) (by omega) (by omega) ?_ | refine gln rfl (xlen_i (by assumption)) ?_ | refine gln rfl (xlen_q (by assumption)) ?_)
      refine gnn rfl (fun z hz => ?_) (fun z => by cases z)
      repeat (first | refine gp rfl rfl rfl ?_ | refine ggf rfl (by assumption) (by rfl) ?_ | refine gal rfl (by assumption) (by rfl) (by omega) (by omega) ?_ | refine gil rfl (by assumption) (by rfl) (by omega) (by omega) ?_ | refine gbl rfl (by assumption) (by rfl) (by omega) (by omega) ?_ | refine gln rfl (xlen_i (by assumption)) ?_ | refine gln rfl (xlen_q (by assumption)) ?_)
      exact gra rfl (mk _ (some za) (some A) f ha e0 x2)
    | some za, some A, ha, some zb, some B, hb, hab, hoa, hob, e0 =>
      obtain ⟨ba, a1, a2, a3, a4, a5⟩ := id (show hFile σ za A from ha)
      obtain ⟨bb, b1, b2, b3, b4, b5⟩ := id (show hFile σ zb B from hb)
      repeat (first | refine gp rfl rfl rfl ?_ | refine ggf rfl (by assumption) (by rfl) ?_ | refine gal rfl (by assumption) (by rfl) (by omega) (by omega) ?_ | refine gil rfl (by assumption) (by rfl) (by omega) (by omega) ?_ | refine gbl rfl (by assumption) (by rfl) (by omega) (by omega) ?_ | refine gln rfl (xlen_i (by assumption)) ?_ | refine gln rfl (xlen_q (by assumption)) ?_)
      refine gnl rfl (fun z => by cases z) (fun z hz => ?_)
      repeat (first | refine gp rfl rfl rfl ?_ | refine ggf rfl (by assumption) (by rfl) ?_ | refine gal rfl (by assumption) (by rfl) (by omega) (by omega) ?_ | refine gil rfl (by assumption) (by rfl) (by omega) (by omega) ?_ | refine gbl rfl (by assumption) (by rfl) (by omega) (by omega) ?_ | refine gln rfl (xlen_i (by assumption)) ?_ | refine gln rfl (xlen_q (by assumption)) ?_)
      refine gnn rfl (fun z hz => ?_) (fun z => by cases z)
      have kinds : (A.1 || B.1 || pLk o) = true → xGo (xEx (d + 3)) xtb_58 K (85, [some (.inr (some 4)), some (.inl (nI p)), some (.inr qo), some (.inr (some za)), some (.inr (some zb)), some (.inl (nI st))], [], σ) := by
        intro hk
        repeat (first | refine gp rfl rfl rfl ?_ | refine ggf rfl (by assumption) (by rfl) ?_ | refine gal rfl (by assumption) (by rfl) (by omega) (by omega) ?_ | refine gil rfl (by assumption) (by rfl) (by omega) (by omega) ?_ | refine gbl rfl (by assumption) (by rfl) (by omega) (by omega) ?_ | refine gln rfl (xlen_i (by assumption)) ?_ | refine gln rfl (xlen_q (by assumption)) ?_)
        obtain ⟨f, x1, x2⟩ := m_mark (d + 1) (k := nI 8) hM hC hp
        refine gcv (As := [.inl (nI p), .inl (nI 8)]) (rest := []) rfl (by decide) x1 h4 rfl rfl (by decide) ?_
        repeat (first | refine gp rfl rfl rfl ?_ | refine ggf rfl (by assumption) (by rfl) ?_ | refine gal rfl (by assumption) (by rfl) (by omega) (by omega) ?_ | refine gil rfl (by assumption) (by rfl) (by omega) (by omega) ?_ | refine gbl rfl (by assumption) (by rfl) (by omega) (by omega) ?_ | refine gln rfl (xlen_i (by assumption)) ?_ | refine gln rfl (xlen_q (by assumption)) ?_)
        exact gra rfl (mk _ (some za) (some A) f ha (by rw [e0]; show (if A.1 || B.1 || pLk o then _ else _) = _; rw [if_pos hk]) x2)
      have text : (A.1 || B.1 || pLk o) = false → ∀ bo : Nat, hInts σ bo (pLn o) → far bo → xGo (xEx (d + 3)) xtb_58 K (123, [some (.inr (some 4)), some (.inl (nI p)), some (.inr qo), some (.inr (some za)), some (.inr (some zb)), some (.inl (nI st))], [.inl (nI st), .inr (some bb), .inr (some ba), .inr (some bo), .inr (some 21)], σ) := by
        intro hk bo hbo hfar
        have sl : (pLn o).length ≤ 8 := by
          cases o with
          | none => exact Nat.zero_le _
          | some O => exact so O rfl
        obtain ⟨σ1, j1, j2, j3, j4⟩ := m_join d (st := st) hL hbo a2 b2 hfar (Or.inr a5) (Or.inr b5) sl a3 b3 hst
        obtain ⟨w0, c0, h21, -⟩ := hL.1
        refine gcv (As := [.inr (some bo), .inr (some ba), .inr (some bb), .inl (nI st)]) (rest := []) rfl (by decide) j1 h21 rfl rfl (by decide) ?_
        have g1 : hGr σ σ1 0 0 := hGr.of_fr hf j4 (by omega) (by omega) _ _
        have M1 := hM.of g1.2.1
        have C1 : hCo σ1 C := hC.of (j4.2 20 (by omega))
        have k4 := M1.1
        have k21 := j2.1
        have e1 : X = (some (false, pW [] (pJoin st (pLn o) A.2 B.2)), if pJbad st (pLn o) A.2 B.2 then (if o.isNone then nI 2 else nI 1) else 0) := by rw [e0]; show (if A.1 || B.1 || pLk o then _ else _) = _; rw [if_neg (by rw [hk]; decide)]
        have fin : ∀ (σ2 : xS) (cd : Int32), hLM σ2 (pW [] (pJoin st (pLn o) A.2 B.2)) (pJbad st (pLn o) A.2 B.2) → hL0 σ2 → hMg σ2 → hCo σ2 (cUp C p cd) → hGr σ σ2 0 0 → cd = (if pJbad st (pLn o) A.2 B.2 then (if o.isNone then nI 2 else nI 1) else 0) → xGo (xEx (d + 3)) xtb_58 K (150, [some (.inr (some 4)), some (.inl (nI p)), some (.inr qo), some (.inr (some za)), some (.inr (some zb)), some (.inl (nI st))], [], σ2) := by
          intro σ2 cd l2 l0 m2 c2 g2 hcd
          have f2 := g2.2.2.2.2.2
          have g3 : hGr σ2 (xnew σ2 (.inr (.inr (1, xdf 1))) 2) 1 2 := hGr.new f2
          have f3 := g3.2.2.2.2.2
          have m3 := m2.of g3.2.1
          have k4' := m3.1
          have l3 : hLM (xnew σ2 (.inr (.inr (1, xdf 1))) 2) _ _ := l2.of (fun k h1 h2 => xnew_ne (by have := f2.1; omega))
          have k21' := l3.1
          have n1 : (xnew σ2 (.inr (.inr (1, xdf 1))) 2).1 σ2.2.1 = some (.inr (.inr (1, [.inl 0, .inr none]))) := xnew_eq _ _ _
          have n2 : (xnew σ2 (.inr (.inr (1, xdf 1))) 2).2.1 = σ2.2.1 + 1 := rfl
          repeat (first | refine gp rfl rfl rfl ?_ | refine ggf rfl (by assumption) (by rfl) ?_ | refine gal rfl (by assumption) (by rfl) (by omega) (by omega) ?_ | refine gil rfl (by assumption) (by rfl) (by omega) (by omega) ?_ | refine gbl rfl (by assumption) (by rfl) (by omega) (by omega) ?_ | refine gln rfl (xlen_i (by assumption)) ?_ | refine gln rfl (xlen_q (by assumption)) ?_)
          obtain ⟨f', y1, y2⟩ := m_takeWritten (d + 1) l3 f3.1
          refine gcv (As := []) (rest := [.inl (nI 0), .inr (some σ2.2.1), .inr (some σ2.2.1)]) rfl (by decide) y2 k21' rfl rfl (Nat.le_of_ble_eq_true rfl) ?_
          have n3 : (xnew (xnew σ2 (.inr (.inr (1, xdf 1))) 2) (.inl (0, (pW [] (pJoin st (pLn o) A.2 B.2)).length, f')) (pW [] (pJoin st (pLn o) A.2 B.2)).length).1 σ2.2.1 = some (.inr (.inr (1, [.inl 0, .inr none]))) := by rw [xnew_ne (by rw [n2]; omega)]; exact n1
          have g4 : hGr (xnew σ2 (.inr (.inr (1, xdf 1))) 2) (xnew (xnew σ2 (.inr (.inr (1, xdf 1))) 2) (.inl (0, (pW [] (pJoin st (pLn o) A.2 B.2)).length, f')) (pW [] (pJoin st (pLn o) A.2 B.2)).length) 1 _ := hGr.new f3
          have n4 := xnew_eq (xnew σ2 (.inr (.inr (1, xdf 1))) 2) (.inl (0, (pW [] (pJoin st (pLn o) A.2 B.2)).length, f')) (pW [] (pJoin st (pLn o) A.2 B.2)).length
          rw [n2] at n4
          refine gci (As := [.inl (bI false), .inr (some (σ2.2.1 + 1))]) (rest := [.inr (some σ2.2.1)]) rfl (by decide) (m_TreeFile (d + 2) n3) rfl rfl (Nat.le_of_ble_eq_true rfl) ?_
          have w76 := pW_len [] (pJoin st (pLn o) A.2 B.2)
          have f63 := f2.1
          have g0 := g2.2.2.1
          have low : ∀ k, k < 63 → (xup (xnew (xnew σ2 (.inr (.inr (1, xdf 1))) 2) (.inl (0, (pW [] (pJoin st (pLn o) A.2 B.2)).length, f')) (pW [] (pJoin st (pLn o) A.2 B.2)).length) σ2.2.1 (.inr (.inr (1, [.inl (bI false), .inr (some (σ2.2.1 + 1))])))).1 k = σ2.1 k := fun k hk => by rw [xup_ne (by omega), xnew_ne (by rw [n2]; omega), xnew_ne (by omega)]
          refine gra rfl ⟨some σ2.2.1, rfl, ?_, ?_, ?_, ?_⟩
          · rw [e1]
            refine ⟨σ2.2.1 + 1, xup_eq _ _ _, ⟨f', ?_, y1⟩, w76, f63, by omega⟩
            rw [xup_ne (by omega)]
            exact n4
          · rw [e1]
            rw [hcd] at c2
            exact c2.of (low 20 (by decide))
          · exact l0.of (fun k h1 h2 => low k (by omega))
          · refine ⟨fun k e hk hs => ?_, fun k hk hk' => (low k hk).trans (g2.2.1 k hk hk'), ?_, ?_, ?_, ?_, ?_⟩
            · have := g4.1 k e hk (g3.1 k e hk (g2.1 k e hk hs))
              by_cases hkq : k = σ2.2.1
              · subst hkq
                have z := g2.1 _ e hk hs
                rw [f2.2 _ (Nat.le_refl _)] at z
                cases z
              · rw [xup_ne hkq]; exact this
            · show σ.2.1 ≤ σ2.2.1 + 1 + 1
              omega
            · show σ2.2.1 + 1 + 1 ≤ σ.2.1 + 2
              have := g2.2.2.2.1
              omega
            · show σ2.2.2 + 2 + (pW [] (pJoin st (pLn o) A.2 B.2)).length ≤ σ.2.2 + 78
              have := g2.2.2.2.2.1
              omega
            · show 63 ≤ σ2.2.1 + 1 + 1
              omega
            · intro k hk
              have hk : σ2.2.1 + 1 + 1 ≤ k := hk
              rw [xup_ne (by omega), xnew_ne (by rw [n2]; omega), xnew_ne (by omega)]
              exact f2.2 k (by omega)
        repeat (first | refine gp rfl rfl rfl ?_ | refine ggf rfl (by assumption) (by rfl) ?_ | refine gal rfl (by assumption) (by rfl) (by omega) (by omega) ?_ | refine gil rfl (by assumption) (by rfl) (by omega) (by omega) ?_ | refine gbl rfl (by assumption) (by rfl) (by omega) (by omega) ?_ | refine gln rfl (xlen_i (by assumption)) ?_ | refine gln rfl (xlen_q (by assumption)) ?_)
        refine gcv (As := []) (rest := []) rfl (by decide) (m_hasClash (d + 2) j2) k21 rfl rfl (by decide) ?_
        cases hbad : pJbad st (pLn o) A.2 B.2 with
        | false =>
          refine git rfl (show (0 : Int32) = 0 from rfl) ?_
          exact fin σ1 0 j2 j3 M1 (by rw [cUp_zero]; exact C1) g1 (by rw [hbad]; rfl)
        | true =>
          refine giff rfl (fun h => absurd (show (1 : Int32) = 0 from h) (by decide)) ?_
          have mkd : ∀ cd : Int32, cd = (if o.isNone then nI 2 else nI 1) → xGo (xEx (d + 3)) xtb_58 K (147, [some (.inr (some 4)), some (.inl (nI p)), some (.inr qo), some (.inr (some za)), some (.inr (some zb)), some (.inl (nI st))], [.inl cd, .inl (nI p), .inr (some 4)], σ1) := by
            intro cd hcd
            obtain ⟨f, x1, x2⟩ := m_mark (d + 1) (k := cd) M1 C1 hp
            refine gcv (As := [.inl (nI p), .inl cd]) (rest := []) rfl (by decide) x1 k4 rfl rfl (by decide) ?_
            have g5 : hGr σ1 (xup σ1 20 (.inl (0, 64, f))) 0 0 := hGr.of_fr g1.2.2.2.2.2 (hFr.up (lo := 20) (hi := 20) (by omega) (by omega)) (by omega) (by omega) _ _
            exact fin _ cd (j2.of (fun k h1 h2 => xup_ne (by omega))) (j3.of (fun k h1 h2 => xup_ne (by omega))) (M1.of g5.2.1) x2 (g1.trans g5) (by rw [hbad, if_pos rfl]; exact hcd)
          repeat (first | refine gp rfl rfl rfl ?_ | refine ggf rfl (by assumption) (by rfl) ?_ | refine gal rfl (by assumption) (by rfl) (by omega) (by omega) ?_ | refine gil rfl (by assumption) (by rfl) (by omega) (by omega) ?_ | refine gbl rfl (by assumption) (by rfl) (by omega) (by omega) ?_ | refine gln rfl (xlen_i (by assumption)) ?_ | refine gln rfl (xlen_q (by assumption)) ?_)
          match qo, o, ho, mkd with
          | none, none, _, mkd =>
            refine gnn rfl (fun z hz => by cases hz) (fun _ => ?_)
            repeat (first | refine gp rfl rfl rfl ?_ | refine ggf rfl (by assumption) (by rfl) ?_ | refine gal rfl (by assumption) (by rfl) (by omega) (by omega) ?_ | refine gil rfl (by assumption) (by rfl) (by omega) (by omega) ?_ | refine gbl rfl (by assumption) (by rfl) (by omega) (by omega) ?_ | refine gln rfl (xlen_i (by assumption)) ?_ | refine gln rfl (xlen_q (by assumption)) ?_)
            exact mkd _ rfl
          | some zo, some O, _, mkd =>
            refine gnn rfl (fun z hz => ?_) (fun z => by cases z)
            repeat (first | refine gp rfl rfl rfl ?_ | refine ggf rfl (by assumption) (by rfl) ?_ | refine gal rfl (by assumption) (by rfl) (by omega) (by omega) ?_ | refine gil rfl (by assumption) (by rfl) (by omega) (by omega) ?_ | refine gbl rfl (by assumption) (by rfl) (by omega) (by omega) ?_ | refine gln rfl (xlen_i (by assumption)) ?_ | refine gln rfl (xlen_q (by assumption)) ?_)
            exact mkd _ rfl
      repeat (first | refine gp rfl rfl rfl ?_ | refine ggf rfl (by assumption) (by rfl) ?_ | refine gal rfl (by assumption) (by rfl) (by omega) (by omega) ?_ | refine gil rfl (by assumption) (by rfl) (by omega) (by omega) ?_ | refine gbl rfl (by assumption) (by rfl) (by omega) (by omega) ?_ | refine gln rfl (xlen_i (by assumption)) ?_ | refine gln rfl (xlen_q (by assumption)) ?_)
      cases hA1 : A.1 with
      | true =>
        refine git rfl (fun h => absurd (show (1 : Int32) = 0 from h) (by decide)) ?_
        exact kinds (by rw [hA1]; rfl)
      | false =>
        refine giff rfl (fun h => h (show (0 : Int32) = 0 from rfl)) ?_
        repeat (first | refine gp rfl rfl rfl ?_ | refine ggf rfl (by assumption) (by rfl) ?_ | refine gal rfl (by assumption) (by rfl) (by omega) (by omega) ?_ | refine gil rfl (by assumption) (by rfl) (by omega) (by omega) ?_ | refine gbl rfl (by assumption) (by rfl) (by omega) (by omega) ?_ | refine gln rfl (xlen_i (by assumption)) ?_ | refine gln rfl (xlen_q (by assumption)) ?_)
        cases hB1 : B.1 with
        | true =>
          refine git rfl (fun h => absurd (show (1 : Int32) = 0 from h) (by decide)) ?_
          exact kinds (by rw [hA1, hB1]; rfl)
        | false =>
          refine giff rfl (fun h => h (show (0 : Int32) = 0 from rfl)) ?_
          repeat (first | refine gp rfl rfl rfl ?_ | refine ggf rfl (by assumption) (by rfl) ?_ | refine gal rfl (by assumption) (by rfl) (by omega) (by omega) ?_ | refine gil rfl (by assumption) (by rfl) (by omega) (by omega) ?_ | refine gbl rfl (by assumption) (by rfl) (by omega) (by omega) ?_ | refine gln rfl (xlen_i (by assumption)) ?_ | refine gln rfl (xlen_q (by assumption)) ?_)
          match qo, o, ho, kinds, text with
          | none, none, _, kinds, text =>
            refine gnl rfl (fun _ => ?_) (fun z hz => by cases hz)
            repeat (first | refine gp rfl rfl rfl ?_ | refine ggf rfl (by assumption) (by rfl) ?_ | refine gal rfl (by assumption) (by rfl) (by omega) (by omega) ?_ | refine gil rfl (by assumption) (by rfl) (by omega) (by omega) ?_ | refine gbl rfl (by assumption) (by rfl) (by omega) (by omega) ?_ | refine gln rfl (xlen_i (by assumption)) ?_ | refine gln rfl (xlen_q (by assumption)) ?_)
            refine gnn rfl (fun z hz => by cases hz) (fun _ => ?_)
            repeat (first | refine gp rfl rfl rfl ?_ | refine ggf rfl (by assumption) (by rfl) ?_ | refine gal rfl (by assumption) (by rfl) (by omega) (by omega) ?_ | refine gil rfl (by assumption) (by rfl) (by omega) (by omega) ?_ | refine gbl rfl (by assumption) (by rfl) (by omega) (by omega) ?_ | refine gln rfl (xlen_i (by assumption)) ?_ | refine gln rfl (xlen_q (by assumption)) ?_)
            exact text (by rw [hA1, hB1]; rfl) 1 hN (Or.inl (by decide))
          | some zo, some O, ho, kinds, text =>
            obtain ⟨bo, o1, o2, o3, o4, o5⟩ := id (show hFile σ zo O from ho)
            refine gnl rfl (fun z => by cases z) (fun z hz => ?_)
            repeat (first | refine gp rfl rfl rfl ?_ | refine ggf rfl (by assumption) (by rfl) ?_ | refine gal rfl (by assumption) (by rfl) (by omega) (by omega) ?_ | refine gil rfl (by assumption) (by rfl) (by omega) (by omega) ?_ | refine gbl rfl (by assumption) (by rfl) (by omega) (by omega) ?_ | refine gln rfl (xlen_i (by assumption)) ?_ | refine gln rfl (xlen_q (by assumption)) ?_)
            cases hO1 : O.1 with
            | true =>
              refine giff rfl (fun h => absurd (show (1 : Int32) = 0 from h) (by decide)) ?_
              exact kinds (by rw [hA1, hB1]; exact hO1)
            | false =>
              refine git rfl (show (0 : Int32) = 0 from rfl) ?_
              repeat (first | refine gp rfl rfl rfl ?_ | refine ggf rfl (by assumption) (by rfl) ?_ | refine gal rfl (by assumption) (by rfl) (by omega) (by omega) ?_ | refine gil rfl (by assumption) (by rfl) (by omega) (by omega) ?_ | refine gbl rfl (by assumption) (by rfl) (by omega) (by omega) ?_ | refine gln rfl (xlen_i (by assumption)) ?_ | refine gln rfl (xlen_q (by assumption)) ?_)
              refine gnn rfl (fun z hz => ?_) (fun z => by cases z)
              repeat (first | refine gp rfl rfl rfl ?_ | refine ggf rfl (by assumption) (by rfl) ?_ | refine gal rfl (by assumption) (by rfl) (by omega) (by omega) ?_ | refine gil rfl (by assumption) (by rfl) (by omega) (by omega) ?_ | refine gbl rfl (by assumption) (by rfl) (by omega) (by omega) ?_ | refine gln rfl (xlen_i (by assumption)) ?_ | refine gln rfl (xlen_q (by assumption)) ?_)
              exact text (by rw [hA1, hB1]; exact hO1) bo o2 (Or.inr o5)
  obtain ⟨r, σ', hex, r', rfl, g1, g2, g3, g4⟩ := ex_of (d := d + 3) (y := 58) (as := [.inr (some 4), .inl (nI p), .inr qo, .inr qa, .inr qb, .inl (nI st)]) (σ := σ) (K := K) (by decide) rfl main
  exact ⟨σ', r', hex, g1, g2, g3, g4⟩
