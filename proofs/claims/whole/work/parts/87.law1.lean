/-! MODULE: the law: class and reference side by side -/
theorem mU_mU (σ : xS) (I : Nat → Int32) (A : Nat → Nat → Int32) : mU σ I A = mU (mU σ I A) I A := by
  refine Prod.ext (funext fun k => ?_) rfl
  by_cases h52 : k = 52
  · rw [h52, mU_obj, mU_obj]
  · by_cases hr : 52 < k ∧ k < 63
    · rw [mU_arr hr, mU_arr hr]
    · rw [mU_out (σ := mU σ I A) (by omega)]
theorem mU_id {σ σ' : xS} {I : Nat → Int32} {A : Nat → Nat → Int32} (h : ∀ k, 51 < k ∧ k < 63 → σ'.1 k = (mU σ I A).1 k) : σ' = mU σ' I A := by
  refine Prod.ext (funext fun k => ?_) rfl
  by_cases h52 : k = 52
  · rw [h52, mU_obj, h 52 (by decide), mU_obj]
  · by_cases hr : 52 < k ∧ k < 63
    · rw [mU_arr hr, h k (by omega), mU_arr hr]
    · rw [mU_out (by omega)]
theorem hT.mod {σ σ' : xS} {t : Nat} {T : pT} (h : hT σ t T) (ht : t + 1 < 52) (e : ∀ k, (k < 52 ∨ 62 < k) → σ'.1 k = σ.1 k) : hT σ' t T := by
  obtain ⟨g, ⟨h1, h2⟩, h3⟩ := h
  exact ⟨g, ⟨by rw [e t (by omega)]; exact h1, by rw [e (t + 1) (by omega)]; exact h2⟩, fun p hp => (h3 p hp).keep (fun k x hk hx => by rw [e k (by omega)]; exact hx)⟩
theorem hTop.mod {σ σ' : xS} {Ts V : Nat → pT} {C : Nat → Int32} {th st : Nat} {mg : Bool} {D1 D2 : pD} (h : hTop σ Ts V C th st mg D1 D2) (e : ∀ k, (k < 52 ∨ 62 < k) → σ'.1 k = σ.1 k) (e2 : σ'.2 = σ.2) : hTop σ' Ts V C th st mg D1 D2 := by
  obtain ⟨h2, ⟨g, h3, hg⟩, hTs, ⟨⟨m1, g', m1', m1''⟩, m2, m3, ⟨f, m4, m4'⟩, m5, m6⟩, s1, s2⟩ := h
  exact ⟨by rw [e 2 (by decide)]; exact h2, ⟨g, by rw [e 3 (by decide)]; exact h3, hg⟩, fun i hi => (hTs i hi).mod (by omega) e, ⟨⟨by rw [e 4 (by decide)]; exact m1, g', by rw [e 5 (by decide)]; exact m1', m1''⟩, m2.of (fun k a b => e k (by omega)), m3.of (e 20 (by decide)), ⟨f, by rw [e 1 (by decide)]; exact m4, m4'⟩, m5.of2 e2 (fun k hk => e k (by omega)), fun i hi => (m6 i hi).mod (by omega) e⟩, hSide.of s1 (fun k a b => e k (by omega)), hSide.of s2 (fun k a b => e k (by omega))⟩
/-- class and reference stand alike, c calls done -/
def LI (L : Nat) (xs : Nat → Int32) (τ : xS) (c : Nat) : Prop := ∃ (Ts V : Nat → pT) (C : Nat → Int32) (th st : Nat) (mg : Bool) (D1 D2 : pD) (I : Nat → Int32) (A : Nat → Nat → Int32), τ = mU τ I A ∧ hTop τ Ts V C th st mg D1 D2 ∧ mV A (wSet Ts V) ∧ mCo A C ∧ mDs A 1 D1 ∧ mDs A 2 D2 ∧ I 0 = nI th ∧ I 1 = nI st ∧ I 2 = bI mg ∧ (1 ≤ th ∧ th ≤ 100 ∧ st ≤ 2) ∧ τ.1 0 = some (.inl (0, L, xs)) ∧ τ.2.1 ≤ 63 + 256 * c ∧ τ.2.2 ≤ 15100 + 9984 * c
/-- the same call on both, with one answer -/
def LB (L : Nat) (xs : Nat → Int32) (y1 y2 : Nat) (as : List xV) (τ : xS) (c : Nat) : Prop := ∃ (v : Int32) (τ1 τ2 : xS) (fs gs : List xV), xEx 9 y1 (.inr (some 2) :: as) τ (some (.inl v)) τ1 ∧ xEx 9 y2 (.inr (some 52) :: as) τ1 (some (.inl v)) τ2 ∧ τ.1 2 = some (.inr (.inr (0, fs))) ∧ τ1.1 52 = some (.inr (.inr (7, gs))) ∧ τ1.1 0 = some (.inl (0, L, xs)) ∧ LI L xs τ2 (c + 1)
section LAW
variable {L : Nat} {xs : Nat → Int32} {τ : xS} {c : Nat}
theorem LI.up (h : LI L xs τ c) : LI L xs τ (c + 1) := by
  obtain ⟨Ts, V, C, th, st, mg, D1, D2, I, A, h1, h2, h3, h4, h5, h6, h7, h8, h9, h10, h11, h12, h13⟩ := h
  exact ⟨Ts, V, C, th, st, mg, D1, D2, I, A, h1, h2, h3, h4, h5, h6, h7, h8, h9, h10, h11, by omega, by omega⟩
/-- a question: nothing changes -/
theorem LB.ask {y1 y2 : Nat} {as : List xV} {v : Int32} (h : LI L xs τ c) (h1 : xEx 9 y1 (.inr (some 2) :: as) τ (some (.inl v)) τ) (h2 : xEx 9 y2 (.inr (some 52) :: as) τ (some (.inl v)) τ) : LB L xs y1 y2 as τ c := by
  have hh := h
  obtain ⟨Ts, V, C, th, st, mg, D1, D2, I, A, e, hT, -, -, -, -, -, -, -, -, s0, -, -⟩ := h
  refine ⟨v, τ, τ, _, rF I, h1, h2, hT.1, ?_, s0, hh.up⟩
  rw [e]
  exact mU_obj _ _ _
/-- a change -/
theorem LB.do {y1 y2 cc ss : Nat} {as : List xV} {v : Int32} {σ' : xS} {Ts V Ts' V' : Nat → pT} {C C' : Nat → Int32} {th st st' : Nat} {mg mg' : Bool} {D1 D2 D1' D2' : pD} {I I' : Nat → Int32} {A A' : Nat → Nat → Int32} (e : τ = mU τ I A) (hT : hTop τ Ts V C th st mg D1 D2) (s0 : τ.1 0 = some (.inl (0, L, xs))) (b1 : τ.2.1 ≤ 63 + 256 * c) (b2 : τ.2.2 ≤ 15100 + 9984 * c)
    (h1 : xEx 9 y1 (.inr (some 2) :: as) τ (some (.inl v)) σ') (hT' : hTop σ' Ts' V' C' th st' mg' D1' D2') (hf : hTf τ σ' cc ss) (hcc : cc ≤ 256) (hss : ss ≤ 9984)
    (h2 : xEx 9 y2 (.inr (some 52) :: as) (mU σ' I A) (some (.inl v)) (mU σ' I' A')) (k1 : mV A' (wSet Ts' V')) (k2 : mCo A' C') (k3 : mDs A' 1 D1') (k4 : mDs A' 2 D2') (k5 : I' 0 = nI th) (k6 : I' 1 = nI st') (k7 : I' 2 = bI mg') (k8 : 1 ≤ th ∧ th ≤ 100 ∧ st' ≤ 2) : LB L xs y1 y2 as τ c := by
  obtain ⟨f1, f2, f3, f4, f5⟩ := hf
  have e' : σ' = mU σ' I A := mU_id (σ := τ) (fun k hk => by rw [f2 k (by omega), ← e])
  have s0' : σ'.1 0 = some (.inl (0, L, xs)) := by rw [f2 0 (by decide)]; exact s0
  rw [← e'] at h2
  refine ⟨v, σ', mU σ' I' A', _, rF I, h1, h2, hT.1, ?_, s0', ?_⟩
  · rw [e']; exact mU_obj _ _ _
  · refine ⟨Ts', V', C', th, st', mg', D1', D2', I', A', mU_mU _ _ _, hT'.mod (fun k hk => mU_out (by omega)) rfl, k1, k2, k3, k4, k5, k6, k7, k8, ?_, ?_, ?_⟩
    · rw [mU_out (by decide)]; exact s0'
    · show σ'.2.1 ≤ _
      omega
    · show σ'.2.2 ≤ _
      omega
theorem wSet_vUlt {W V : Nat → pT} {i : Nat} {T : pT} (h : i < 4) : vU (wSet W V) i T = wSet (vU W i T) V := by
  funext k
  unfold vU wSet
  dsimp only
  by_cases e : k = i
  · rw [if_pos e, if_pos (by omega), if_pos e]
  · rw [if_neg e]
    by_cases h4 : k < 4
    · rw [if_pos h4, if_pos h4, if_neg e]
    · rw [if_neg h4, if_neg h4]
theorem wSet_wSet (W V V' : Nat → pT) : wSet (wSet W V) V' = wSet W V' := by
  funext k
  unfold wSet
  by_cases h4 : k < 4
  · rw [if_pos h4, if_pos h4, if_pos h4]
  · rw [if_neg h4, if_neg h4]
theorem oN_in {n : Nat} {x : Int32} {i : Nat} (hn : n < 2147483648) (h : oN n x = some i) : i < n := by
  rcases oN_cases (n := n) hn x with ⟨j, hj, -, e⟩ | ⟨-, e⟩
  · rw [e] at h; cases h; exact hj
  · rw [e] at h; cases h
theorem w_cFile (W V : Nat → pT) (x y : Int32) : cFile (wSet W V) x y = cFile W x y := by
  unfold cFile
  cases h1 : oN 4 x with
  | none => rfl
  | some i =>
    cases h2 : oN 64 y with
    | none => rfl
    | some j =>
      show wSet W V i j = W i j
      rw [wSet_lt (oN_in (by decide) h1)]
theorem w_wV (W V : Nat → pT) : wV (wSet W V) = V := funext fun i => wSet_ge W V i
theorem w_pSz (W V : Nat → pT) (x : Int32) : pSz (wSet W V) x = match oN 4 x with
    | some i => nI (pCnt (fun p => (W i p).isSome) 64)
    | none => -1 := by
  unfold pSz
  cases h1 : oN 4 x with
  | none => rfl
  | some i =>
    show nI (pCnt (fun p => (wSet W V i p).isSome) 64) = nI (pCnt (fun p => (W i p).isSome) 64)
    rw [wSet_lt (oN_in (by decide) h1)]
theorem w_dDo (W V : Nat → pT) (x y : Int32) : dDo (wSet W V) x y = dDo W x y := by
  unfold dDo
  cases h1 : oN 3 x with
  | none => rfl
  | some i =>
    cases h2 : oN 64 y with
    | none => rfl
    | some j =>
      have := oN_in (by decide) h1
      show (if (wSet W V i j).isSome then some (i, j) else none) = (if (W i j).isSome then some (i, j) else none)
      rw [wSet_lt (by omega)]
theorem dDo_lt {W : Nat → pT} {x y : Int32} {i j : Nat} (h : dDo W x y = some (i, j)) : i < 3 := by
  unfold dDo at h
  cases h1 : oN 3 x with
  | none => rw [h1] at h; cases h
  | some i' =>
    cases h2 : oN 64 y with
    | none => rw [h1, h2] at h; cases h
    | some j' =>
      rw [h1, h2] at h
      simp only at h
      split at h
      · cases h; exact oN_in (by decide) h1
      · cases h
theorem w_dTs (W V : Nat → pT) (x y : Int32) : dTs (wSet W V) x y = wSet (dTs W x y) V := by
  unfold dTs
  rw [w_dDo]
  cases h : dDo W x y with
  | none => rfl
  | some ij =>
    obtain ⟨i, j⟩ := ij
    have := dDo_lt h
    show vU (wSet W V) i (pLy (wSet W V i) j none) = wSet (vU W i (pLy (W i) j none)) V
    rw [wSet_lt (by omega), wSet_vUlt (by omega)]
theorem w_cTs (W V : Nat → pT) (x y : Int32) : cTs (wSet W V) x y = wSet (cTs W x y) V := by
  unfold cTs cDo
  cases h1 : oN 3 x with
  | none => rfl
  | some i =>
    cases h2 : oN 3 y with
    | none => rfl
    | some j =>
      have a := oN_in (by decide) h1
      have b := oN_in (by decide) h2
      show vU (wSet W V) j (wSet W V i) = wSet (vU W j (W i)) V
      rw [wSet_lt (by omega), wSet_vUlt (by omega)]
theorem w_aDo (W V : Nat → pT) (mg : Bool) (x : Int32) : aDo (wSet W V) mg x = aDo W mg x := by
  unfold aDo
  rw [wSet_lt (show 3 < 4 by decide)]
theorem aDo_lt {W : Nat → pT} {mg : Bool} {x : Int32} {i : Nat} (h : aDo W mg x = some i) : i < 3 := by
  unfold aDo at h
  cases h1 : oN 3 x with
  | none => rw [h1] at h; cases h
  | some i' =>
    rw [h1] at h
    simp only at h
    split at h
    · cases h; exact oN_in (by decide) h1
    · cases h
theorem w_aTs (W V : Nat → pT) (mg : Bool) (x : Int32) : aTs (wSet W V) mg x = wSet (aTs W mg x) V := by
  unfold aTs
  rw [w_aDo, wSet_lt (show 3 < 4 by decide)]
  cases h : aDo W mg x with
  | none => rfl
  | some i =>
    have := aDo_lt h
    show vU (wSet W V) i (W 3) = wSet (vU W i (W 3)) V
    rw [wSet_vUlt (by omega)]
theorem w_pDo (W V : Nat → pT) (x y : Int32) : pDo (wSet W V) x y = pDo W x y := by
  unfold pDo
  cases h1 : oN 3 x with
  | none => rfl
  | some i =>
    cases h2 : oN 64 y with
    | none => rfl
    | some j =>
      have := oN_in (by decide) h1
      show (if (wSet W V i j).isSome = true ∨ pCnt (fun p => (wSet W V i p).isSome) 64 < 8 then some (i, j) else none) = (if (W i j).isSome = true ∨ pCnt (fun p => (W i p).isSome) 64 < 8 then some (i, j) else none)
      rw [wSet_lt (by omega)]
theorem pDo_lt {W : Nat → pT} {x y : Int32} {i j : Nat} (h : pDo W x y = some (i, j)) : i < 3 := by
  unfold pDo at h
  cases h1 : oN 3 x with
  | none => rw [h1] at h; cases h
  | some i' =>
    cases h2 : oN 64 y with
    | none => rw [h1, h2] at h; cases h
    | some j' =>
      rw [h1, h2] at h
      simp only at h
      split at h
      · cases h; exact oN_in (by decide) h1
      · cases h
theorem w_pTs (W V : Nat → pT) (x y z : Int32) (l : Bool) : pTs (wSet W V) x y z l = wSet (pTs W x y z l) V := by
  unfold pTs
  rw [w_pDo]
  cases h : pDo W x y with
  | none => rfl
  | some ij =>
    obtain ⟨i, j⟩ := ij
    have := pDo_lt h
    show vU (wSet W V) i (pLy (wSet W V i) j (some (l, pLs z 8))) = wSet (vU W i (pLy (W i) j (some (l, pLs z 8)))) V
    rw [wSet_lt (by omega), wSet_vUlt (by omega)]
theorem w_mVC (W V : Nat → pT) (th st : Nat) : mVC (wSet W V) th st = mVC W th st := by
  unfold mVC
  rw [wSet_lt (show 0 < 4 by decide), wSet_lt (show 1 < 4 by decide), wSet_lt (show 2 < 4 by decide)]
theorem w_mRS (W V : Nat → pT) (th st : Nat) : mRS (wSet W V) th st = mRS W th st := by
  unfold mRS
  rw [w_mVC, wSet_lt (show 3 < 4 by decide)]
theorem mV.tok' {A : Nat → Nat → Int32} {W V : Nat → pT} {t : Nat} (h : mV A (wSet W V)) (ht : t < 3) : pTok (W t) := by
  have := h.tok ht
  rwa [wSet_lt (by omega)] at this
theorem mDs.a {A A' : Nat → Nat → Int32} {s : Nat} {D : pD} (h : mDs A s D) (e : aF A A') : mDs A' s D := h.g e.g
theorem b_put (h : LI L xs τ c) (x y z : Int32) (l : Bool) : LB L xs 65 92 [.inl x, .inl y, .inl z, .inl (bI l)] τ c := by
  obtain ⟨Ts, V, C, th, st, mg, D1, D2, I, A, h1, h2, h3, h4, h5, h6, h7, h8, h9, h10, h11, h12, h13⟩ := h
  obtain ⟨σ', x1, x2, x3⟩ := m_put 6 h2 x y z l
  obtain ⟨A', y1, y2, y3⟩ := r_put (σ := σ') (I := I) 6 h3 x y z l
  rw [w_pDo] at y1
  rw [w_pTs] at y2
  exact LB.do h1 h2 h11 h12 h13 x1 x2 x3 (by decide) (by decide) y1 y2 (h4.of (y3 60 (by decide))) (h5.a y3) (h6.a y3) h7 h8 h9 h10
theorem b_drop (h : LI L xs τ c) (x y : Int32) : LB L xs 69 94 [.inl x, .inl y] τ c := by
  obtain ⟨Ts, V, C, th, st, mg, D1, D2, I, A, h1, h2, h3, h4, h5, h6, h7, h8, h9, h10, h11, h12, h13⟩ := h
  obtain ⟨σ', x1, x2, x3⟩ := m_drop 6 h2 x y
  obtain ⟨A', y1, y2, y3⟩ := r_drop (σ := σ') (I := I) 7 h3 x y
  rw [w_dDo] at y1
  rw [w_dTs] at y2
  exact LB.do h1 h2 h11 h12 h13 x1 x2 x3 (by decide) (by decide) y1 y2 (h4.of (y3 60 (by decide))) (h5.a y3) (h6.a y3) h7 h8 h9 h10
theorem b_copy (h : LI L xs τ c) (x y : Int32) : LB L xs 70 96 [.inl x, .inl y] τ c := by
  obtain ⟨Ts, V, C, th, st, mg, D1, D2, I, A, h1, h2, h3, h4, h5, h6, h7, h8, h9, h10, h11, h12, h13⟩ := h
  obtain ⟨σ', x1, x2, x3⟩ := m_copy 7 h2 x y
  obtain ⟨A', y1, y2, y3⟩ := r_copy (σ := σ') (I := I) 6 h3 x y
  rw [w_cTs] at y2
  exact LB.do h1 h2 h11 h12 h13 x1 x2 x3 (by decide) (by decide) y1 y2 (h4.of (y3 60 (by decide))) (h5.a y3) (h6.a y3) h7 h8 h9 h10
theorem b_adopt (h : LI L xs τ c) (x : Int32) : LB L xs 71 98 [.inl x] τ c := by
  obtain ⟨Ts, V, C, th, st, mg, D1, D2, I, A, h1, h2, h3, h4, h5, h6, h7, h8, h9, h10, h11, h12, h13⟩ := h
  obtain ⟨σ', x1, x2, x3⟩ := m_adopt 7 h2 x
  obtain ⟨A', y1, y2, y3⟩ := r_adopt (σ := σ') (I := I) 6 h3 h9 x
  rw [w_aDo] at y1
  rw [w_aTs] at y2
  exact LB.do h1 h2 h11 h12 h13 x1 x2 x3 (by decide) (by decide) y1 y2 (h4.of (y3 60 (by decide))) (h5.a y3) (h6.a y3) h7 h8 h9 h10
theorem b_style (h : LI L xs τ c) (x : Int32) : LB L xs 72 99 [.inl x] τ c := by
  obtain ⟨Ts, V, C, th, st, mg, D1, D2, I, A, h1, h2, h3, h4, h5, h6, h7, h8, h9, h10, h11, h12, h13⟩ := h
  obtain ⟨σ', x1, x2, x3⟩ := m_style 8 h2 x
  obtain ⟨I', y1, y2, y3⟩ := r_style (σ := σ') (A := A) 8 x h8
  refine LB.do h1 h2 h11 h12 h13 x1 x2 x3 (by decide) (by decide) y1 h3 h4 h5 h6 ((y3 0 (by decide)).trans h7) y2 ((y3 2 (by decide)).trans h9) ⟨h10.1, h10.2.1, ?_⟩
  cases ho : oN 3 x with
  | none => exact h10.2.2
  | some j =>
    have := oN_in (by decide) ho
    show j ≤ 2
    omega
theorem b_merge (h : LI L xs τ c) : LB L xs 73 103 [] τ c := by
  obtain ⟨Ts, V, C, th, st, mg, D1, D2, I, A, h1, h2, h3, h4, h5, h6, h7, h8, h9, h10, h11, h12, h13⟩ := h
  obtain ⟨σ', x1, x2, x3⟩ := m_merge 2 h2 (h3.tok' (by decide)) (h3.tok' (by decide)) (h3.tok' (by decide)) h10.2.1 (by omega) (rOk_all _ _ _) (rOk_all _ _ _)
  obtain ⟨I', A', y1, y2, y3, y4, y5, y6, y7, y8⟩ := r_merge (σ := σ') (I := I) 1 h3 h7 h10.1 h10.2.1 h8 h10.2.2
  rw [w_mRS] at y1 y3
  rw [w_mRS, w_mVC, wSet_vUlt (by decide), wSet_wSet] at y2
  rw [wSet_lt (show 0 < 4 by decide), wSet_lt (show 1 < 4 by decide), wSet_lt (show 2 < 4 by decide)] at y4 y5
  exact LB.do h1 h2 h11 h12 h13 x1 x2 x3 (by decide) (by decide) y1 y2 y3 y4 y5 y7 y8 y6 h10
theorem LI.m {P : xS → Prop} {I : Nat → Int32} {A : Nat → Nat → Int32} (e : τ = mU τ I A) (h : P (mU τ I A)) : P τ := by rw [e]; exact h
theorem b_size (h : LI L xs τ c) (x : Int32) : LB L xs 76 90 [.inl x] τ c := by
  have hh := h
  obtain ⟨Ts, V, C, th, st, mg, D1, D2, I, A, h1, h2, h3, h4, h5, h6, h7, h8, h9, h10, h11, h12, h13⟩ := h
  have y := r_size (σ := τ) (I := I) 7 h3 x
  rw [← h1, w_pSz] at y
  exact LB.ask hh (m_size 7 h2 x) y
theorem b_kind (h : LI L xs τ c) (x y : Int32) : LB L xs 78 133 [.inl x, .inl y] τ c := by
  have hh := h
  obtain ⟨Ts, V, C, th, st, mg, D1, D2, I, A, h1, h2, h3, h4, h5, h6, h7, h8, h9, h10, h11, h12, h13⟩ := h
  have q := r_kind (σ := τ) (I := I) 7 h3 x y
  rw [← h1, w_cFile] at q
  exact LB.ask hh (m_kind 5 h2 x y) q
theorem b_length (h : LI L xs τ c) (x y : Int32) : LB L xs 80 134 [.inl x, .inl y] τ c := by
  have hh := h
  obtain ⟨Ts, V, C, th, st, mg, D1, D2, I, A, h1, h2, h3, h4, h5, h6, h7, h8, h9, h10, h11, h12, h13⟩ := h
  have q := r_length (σ := τ) (I := I) 7 h3 x y
  rw [← h1, w_cFile] at q
  exact LB.ask hh (m_length 5 h2 x y) q
theorem b_line (h : LI L xs τ c) (x y z : Int32) : LB L xs 81 135 [.inl x, .inl y, .inl z] τ c := by
  have hh := h
  obtain ⟨Ts, V, C, th, st, mg, D1, D2, I, A, h1, h2, h3, h4, h5, h6, h7, h8, h9, h10, h11, h12, h13⟩ := h
  have q := r_line (σ := τ) (I := I) 6 h3 x y z
  rw [← h1, w_cFile] at q
  exact LB.ask hh (m_line 5 h2 x y z) q
theorem b_conflict (h : LI L xs τ c) (x : Int32) : LB L xs 82 136 [.inl x] τ c := by
  have hh := h
  obtain ⟨Ts, V, C, th, st, mg, D1, D2, I, A, h1, h2, h3, h4, h5, h6, h7, h8, h9, h10, h11, h12, h13⟩ := h
  have q := r_conflict (σ := τ) (I := I) 8 h4 x
  rw [← h1] at q
  exact LB.ask hh (m_conflict 6 h2 x) q
theorem b_staged (h : LI L xs τ c) (x y : Int32) : LB L xs 83 137 [.inl x, .inl y] τ c := by
  have hh := h
  obtain ⟨Ts, V, C, th, st, mg, D1, D2, I, A, h1, h2, h3, h4, h5, h6, h7, h8, h9, h10, h11, h12, h13⟩ := h
  have q := r_staged (σ := τ) (I := I) 7 h3 h4 x y
  rw [← h1, w_wV] at q
  exact LB.ask hh (m_staged 5 h2 x y) q
theorem b_stagedLine (h : LI L xs τ c) (x y z : Int32) : LB L xs 84 138 [.inl x, .inl y, .inl z] τ c := by
  have hh := h
  obtain ⟨Ts, V, C, th, st, mg, D1, D2, I, A, h1, h2, h3, h4, h5, h6, h7, h8, h9, h10, h11, h12, h13⟩ := h
  have q := r_stagedLine (σ := τ) (I := I) 6 h3 h4 x y z
  rw [← h1, w_wV] at q
  exact LB.ask hh (m_stagedLine 5 h2 x y z) q
theorem b_renamed (h : LI L xs τ c) (x y : Int32) : LB L xs 85 139 [.inl x, .inl y] τ c := by
  have hh := h
  obtain ⟨Ts, V, C, th, st, mg, D1, D2, I, A, h1, h2, h3, h4, h5, h6, h7, h8, h9, h10, h11, h12, h13⟩ := h
  have q := r_renamed (σ := τ) (I := I) 8 h5 h6 x y
  rw [← h1] at q
  exact LB.ask hh (m_renamed 6 h2 x y) q
theorem b_newPlace (h : LI L xs τ c) (x y : Int32) : LB L xs 86 140 [.inl x, .inl y] τ c := by
  have hh := h
  obtain ⟨Ts, V, C, th, st, mg, D1, D2, I, A, h1, h2, h3, h4, h5, h6, h7, h8, h9, h10, h11, h12, h13⟩ := h
  have q := r_newPlace (σ := τ) (I := I) 8 h5 h6 x y
  rw [← h1] at q
  exact LB.ask hh (m_newPlace 6 h2 x y) q
theorem b_stands (h : LI L xs τ c) (x y : Int32) : LB L xs 87 141 [.inl x, .inl y] τ c := by
  have hh := h
  obtain ⟨Ts, V, C, th, st, mg, D1, D2, I, A, h1, h2, h3, h4, h5, h6, h7, h8, h9, h10, h11, h12, h13⟩ := h
  have q := r_stands (σ := τ) (I := I) 8 h5 h6 x y
  rw [← h1] at q
  exact LB.ask hh (m_stands 6 h2 x y) q
theorem b_score (h : LI L xs τ c) (x y z : Int32) : LB L xs 88 100 [.inl x, .inl y, .inl z] τ c := by
  have hh := h
  obtain ⟨Ts, V, C, th, st, mg, D1, D2, I, A, h1, h2, h3, h4, h5, h6, h7, h8, h9, h10, h11, h12, h13⟩ := h
  have q := r_scoreX (σ := τ) (I := I) 5 h3 x y z
  rw [← h1, wSet_lt (show 0 < 4 by decide), wSet_lt (show 1 < 4 by decide), wSet_lt (show 2 < 4 by decide)] at q
  exact LB.ask hh (m_score 6 h2 (h3.tok' (by decide)) (h3.tok' (by decide)) (h3.tok' (by decide)) x y z) q
end LAW
