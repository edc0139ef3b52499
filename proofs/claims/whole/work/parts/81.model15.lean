/-! MODULE: the reference: the joined text, two files merged over a third -/
theorem pJs_s (st : Nat) (lo la lb : List Int32) (i : Nat) : pJs st lo la lb (i + 1) = match (pMt lo la 0).getD i none, (pMt lo lb 0).getD i none with
    | some p, some q => (i + 1, p + 1, q + 1, (pJs st lo la lb i).2.2.2.1 ++ pGap st (pCut lo (pJs st lo la lb i).1 i) (pCut la (pJs st lo la lb i).2.1 p) (pCut lb (pJs st lo la lb i).2.2.1 q) ++ [lo.getD i 0], (pJs st lo la lb i).2.2.2.2 || pBad (pCut lo (pJs st lo la lb i).1 i) (pCut la (pJs st lo la lb i).2.1 p) (pCut lb (pJs st lo la lb i).2.2.1 q))
    | _, _ => pJs st lo la lb i := rfl
theorem pJs_mono1 (st : Nat) (lo la lb : List Int32) (i : Nat) : (pJs st lo la lb i).2.2.2.1.length ≤ (pJs st lo la lb (i + 1)).2.2.2.1.length := by
  rw [pJs_s]
  split
  · simp only [List.length_append]
    omega
  · exact Nat.le_refl _
theorem pJs_mono (st : Nat) (lo la lb : List Int32) (i : Nat) : ∀ k, (pJs st lo la lb i).2.2.2.1.length ≤ (pJs st lo la lb (i + k)).2.2.2.1.length
  | 0 => Nat.le_refl _
  | k + 1 => Nat.le_trans (pJs_mono st lo la lb i k) (pJs_mono1 st lo la lb (i + k))
theorem pOK_app {l m : List Int32} (h1 : pOK l) (h2 : pOK m) : pOK (l ++ m) := by
  intro j hj
  rw [List.length_append] at hj
  by_cases e : j < l.length
  · rw [List.getD_eq_getElem?_getD, List.getElem?_append_left e, ← List.getD_eq_getElem?_getD]
    exact h1 j e
  · rw [List.getD_eq_getElem?_getD, List.getElem?_append_right (by omega), ← List.getD_eq_getElem?_getD]
    exact h2 (j - l.length) (by omega)
theorem pOK_one {k : Nat} (h1 : 1 ≤ k) (h2 : k ≤ 19) : pOK [nI k] := by
  have := pOK_snoc pOK_nil h1 h2
  exact this
theorem pOK_gap {st : Nat} {O X Y : List Int32} (hO : pOK O) (hX : pOK X) (hY : pOK Y) : pOK (pGap st O X Y) := by
  unfold pGap
  split
  · exact hY
  · split
    · exact hX
    · have hle := pBE_le st X Y
      unfold pClash
      refine pOK_app (pOK_sub hX (Nat.zero_le _) (by omega)) (pOK_app (pOK_one (by decide) (by decide)) (pOK_app (pOK_sub hX (by omega) (by omega)) (pOK_app ?_ (pOK_app (pOK_one (by decide) (by decide)) (pOK_app (pOK_sub hY (by omega) (by omega)) (pOK_app (pOK_one (by decide) (by decide)) (pOK_sub hX (by omega) (Nat.le_refl _))))))))
      split
      · exact pOK_nil
      · exact pOK_app (pOK_one (by decide) (by decide)) hO
theorem pOK_js {st : Nat} {lo la lb : List Int32} (hO : pOK lo) (hX : pOK la) (hY : pOK lb) : ∀ i, i ≤ lo.length → pOK (pJs st lo la lb i).2.2.2.1
  | 0, _ => pOK_nil
  | i + 1, hi => by
    have ih := pOK_js (st := st) hO hX hY i (by omega)
    obtain ⟨k1, k2, k3, k4, k5⟩ := pJs_ok st lo la lb i
    rw [pJs_s]
    split
    · rename_i p q hp hq
      have ip := pMt_in hp
      have iq := pMt_in hq
      obtain ⟨v, v1, v2, v3⟩ := hO i (by omega)
      refine pOK_app (pOK_app ih (pOK_gap (pOK_sub hO k1 (by omega)) (pOK_sub hX (k4 i p (Nat.le_refl _) hp) (by omega)) (pOK_sub hY (k5 i q (Nat.le_refl _) hq) (by omega)))) ?_
      rw [v3]
      exact pOK_one v1 v2
    · exact ih
theorem pOK_join {st : Nat} {lo la lb : List Int32} (hO : pOK lo) (hX : pOK la) (hY : pOK lb) : pOK (pJoin st lo la lb) := by
  obtain ⟨k1, k2, k3, k4, k5⟩ := pJs_ok st lo la lb lo.length
  unfold pJoin
  exact pOK_app (pOK_js hO hX hY _ (Nat.le_refl _)) (pOK_gap (pOK_sub hO k1 (Nat.le_refl _)) (pOK_sub hX k2 (Nat.le_refl _)) (pOK_sub hY k3 (Nat.le_refl _)))
section REF
variable {σ : xS} {I : Nat → Int32} {A : Nat → Nat → Int32} {W : Nat → pT}
theorem r_mergeLines (d : Nat) {bo ba bb st : Nat} {lo la lb : List Int32} (h15 : I 15 = nI bo) (h16 : I 16 = nI ba) (h17 : I 17 = nI bb) (hst : I 1 = nI st) (hst2 : st ≤ 2) (ho : sg A bo lo) (ha : sg A ba la) (hb : sg A bb lb) (hn : lo.length ≤ 8) (hlen : (pJoin st lo la lb).length ≤ 76) : ∃ I' A', xEx (d + 4) 124 [.inr (some 52), .inl (nI lo.length), .inl (nI la.length), .inl (nI lb.length)] (mU σ I A) none (mU σ I' A') ∧ mO I' A' (pJoin st lo la lb) ∧ I' 18 = bI (pJbad st lo la lb) ∧ (∀ j, j ≠ 12 → j ≠ 18 → I' j = I j) ∧ (∀ j, j ≠ 61 → j ≠ 62 → A' j = A j) := by
  let K : Option xV → xS → Prop := fun r0 σ0 => r0 = none ∧ ∃ I' A', σ0 = mU σ I' A' ∧ mO I' A' (pJoin st lo la lb) ∧ I' 18 = bI (pJbad st lo la lb) ∧ (∀ j, j ≠ 12 → j ≠ 18 → I' j = I j) ∧ (∀ j, j ≠ 61 → j ≠ 62 → A' j = A j)
  have total : (pJs st lo la lb lo.length).2.2.2.1.length + (pGap st (pCut lo (pJs st lo la lb lo.length).1 lo.length) (pCut la (pJs st lo la lb lo.length).2.1 la.length) (pCut lb (pJs st lo la lb lo.length).2.2.1 lb.length)).length ≤ 76 := by
    unfold pJoin at hlen
    rw [List.length_append] at hlen
    exact hlen
  have main : xGo (xEx (d + 3)) xtb_124 K (0, [some (.inr (some 52)), some (.inl (nI lo.length)), some (.inl (nI la.length)), some (.inl (nI lb.length)), none, none, none, none], [], mU σ I A) := by
    have ho1 := ho.1
    have ha1 := ha.1
    have hb1 := hb.1
    repeat (first | refine gkn rfl rfl ?_ | refine gkm rfl rfl ?_ | refine gad rfl ?_ | refine gml rfl ?_ | refine gsb rfl (by omega) ?_ | refine gdv rfl (by omega) (by omega) (by omega) ?_ | refine grm rfl (by omega) (by omega) (by omega) ?_ | refine gic rfl rfl ?_ | refine gp rfl rfl rfl ?_ | refine gFl rfl (by rfl) ?_ | refine gAl rfl rfl (by rfl) (by omega) ?_ | refine gBl rfl rfl (by rfl) (by omega) ?_)
    refine gFs rfl (by decide) (Or.inl rfl) ?_
    repeat (first | refine gkn rfl rfl ?_ | refine gkm rfl rfl ?_ | refine gad rfl ?_ | refine gml rfl ?_ | refine gsb rfl (by omega) ?_ | refine gdv rfl (by omega) (by omega) (by omega) ?_ | refine grm rfl (by omega) (by omega) (by omega) ?_ | refine gic rfl rfl ?_ | refine gp rfl rfl rfl ?_ | refine gFl rfl (by rfl) ?_ | refine gAl rfl rfl (by rfl) (by omega) ?_ | refine gBl rfl rfl (by rfl) (by omega) ?_)
    refine gFs rfl (by decide) (Or.inr ⟨rfl, Or.inl rfl⟩) ?_
    have j12 : upd (upd I 12 (nI 0)) 18 (nI 0) 12 = nI 0 := by rw [upd_ne (by decide), upd_eq]
    have j18 : upd (upd I 12 (nI 0)) 18 (nI 0) 18 = bI false := by rw [upd_eq]; rfl
    have jF : ∀ j, j ≠ 12 → j ≠ 18 → upd (upd I 12 (nI 0)) 18 (nI 0) j = I j := fun j a b => by rw [upd_ne b, upd_ne a]
    generalize upd (upd I 12 (nI 0)) 18 (nI 0) = I1 at *
    obtain ⟨A1, y1, y2, y3, y4⟩ := r_match (σ := σ) (I := I1) (d + 1) (to := 0) ((jF 15 (by decide) (by decide)).trans h15) ho ha hn (by decide)
    have e55 : A1 55 = A 55 := y4 55 (by decide)
    obtain ⟨A2, z1, z2, z3, z4⟩ := r_match (σ := σ) (I := I1) (d + 1) (to := 8) ((jF 15 (by decide) (by decide)).trans h15) (ho.of e55) (hb.of e55) hn (by decide)
    have q55 : A2 55 = A 55 := (z4 55 (by decide)).trans e55
    have qF : ∀ j, j ≠ 62 → A2 j = A j := fun j hj => (z4 j hj).trans (y4 j hj)
    have qA : ∀ i, i < lo.length → A2 62 i = oI ((pMt lo la 0).getD i none) := fun i hi => by
      rw [z3 i (by omega)]
      have := y2 i hi
      rw [Nat.zero_add] at this
      exact this
    have qB : ∀ i, i < lo.length → A2 62 (8 + i) = oI ((pMt lo lb 0).getD i none) := z2
    repeat (first | refine gkn rfl rfl ?_ | refine gkm rfl rfl ?_ | refine gad rfl ?_ | refine gml rfl ?_ | refine gsb rfl (by omega) ?_ | refine gdv rfl (by omega) (by omega) (by omega) ?_ | refine grm rfl (by omega) (by omega) (by omega) ?_ | refine gic rfl rfl ?_ | refine gp rfl rfl rfl ?_ | refine gFl rfl (by rfl) ?_ | refine gAl rfl rfl (by rfl) (by omega) ?_ | refine gBl rfl rfl (by rfl) (by omega) ?_)
    rw [jF 16 (by decide) (by decide), h16]
    refine gcv (As := [.inl (nI lo.length), .inl (nI ba), .inl (nI la.length), .inl (nI 0)]) (rest := []) rfl (by decide) y1 (mU_obj _ _ _) rfl rfl (by decide) ?_
    repeat (first | refine gkn rfl rfl ?_ | refine gkm rfl rfl ?_ | refine gad rfl ?_ | refine gml rfl ?_ | refine gsb rfl (by omega) ?_ | refine gdv rfl (by omega) (by omega) (by omega) ?_ | refine grm rfl (by omega) (by omega) (by omega) ?_ | refine gic rfl rfl ?_ | refine gp rfl rfl rfl ?_ | refine gFl rfl (by rfl) ?_ | refine gAl rfl rfl (by rfl) (by omega) ?_ | refine gBl rfl rfl (by rfl) (by omega) ?_)
    rw [jF 17 (by decide) (by decide), h17]
    refine gcv (As := [.inl (nI lo.length), .inl (nI bb), .inl (nI lb.length), .inl (nI 8)]) (rest := []) rfl (by decide) z1 (mU_obj _ _ _) rfl rfl (by decide) ?_
    repeat (first | refine gkn rfl rfl ?_ | refine gkm rfl rfl ?_ | refine gad rfl ?_ | refine gml rfl ?_ | refine gsb rfl (by omega) ?_ | refine gdv rfl (by omega) (by omega) (by omega) ?_ | refine grm rfl (by omega) (by omega) (by omega) ?_ | refine gic rfl rfl ?_ | refine gp rfl rfl rfl ?_ | refine gFl rfl (by rfl) ?_ | refine gAl rfl rfl (by rfl) (by omega) ?_ | refine gBl rfl rfl (by rfl) (by omega) ?_)
    have loop : ∀ k i (I3 : Nat → Int32) (A3 : Nat → Nat → Int32), i + k = lo.length → mO I3 A3 (pJs st lo la lb i).2.2.2.1 → I3 18 = bI (pJs st lo la lb i).2.2.2.2 → (∀ j, j ≠ 12 → j ≠ 18 → I3 j = I j) → (∀ j, j ≠ 61 → A3 j = A2 j) → xGo (xEx (d + 3)) xtb_124 K (48, [some (.inr (some 52)), some (.inl (nI lo.length)), some (.inl (nI la.length)), some (.inl (nI lb.length)), some (.inl (nI (pJs st lo la lb i).1)), some (.inl (nI (pJs st lo la lb i).2.1)), some (.inl (nI (pJs st lo la lb i).2.2.1)), some (.inl (nI i))], [.inl (nI lo.length), .inl (nI i)], mU σ I3 A3) := by
      intro k
      induction k with
      | zero =>
        intro i I3 A3 hi h1 h2 h3 h4
        obtain rfl : i = lo.length := by omega
        obtain ⟨k1, k2, k3, k4, k5⟩ := pJs_ok st lo la lb lo.length
        have s55 : A3 55 = A 55 := (h4 55 (by decide)).trans q55
        have eJ : pJoin st lo la lb = (pJs st lo la lb lo.length).2.2.2.1 ++ pGap st (pCut lo (pJs st lo la lb lo.length).1 lo.length) (pCut la (pJs st lo la lb lo.length).2.1 la.length) (pCut lb (pJs st lo la lb lo.length).2.2.1 lb.length) := rfl
        have eB : pJbad st lo la lb = ((pJs st lo la lb lo.length).2.2.2.2 || pBad (pCut lo (pJs st lo la lb lo.length).1 lo.length) (pCut la (pJs st lo la lb lo.length).2.1 la.length) (pCut lb (pJs st lo la lb lo.length).2.2.1 lb.length)) := rfl
        generalize pJs st lo la lb lo.length = J at *
        obtain ⟨I4, A4, g1, g2, g3, g4, g5⟩ := r_gap (σ := σ) d (oo := bo + lo.length) (xx := ba + la.length) (yy := bb + lb.length) h1 ((ho.of s55).cut k1 (Nat.le_refl _)) ((ha.of s55).cut k2 (Nat.le_refl _)) ((hb.of s55).cut k3 (Nat.le_refl _)) (by rw [pCut_len k1 (Nat.le_refl _)]; omega) (by rw [pCut_len k2 (Nat.le_refl _)]; omega) (by rw [pCut_len k3 (Nat.le_refl _)]; omega) ((h3 1 (by decide) (by decide)).trans hst) hst2 h2 total
        first | refine gtN rfl (by omega) (by omega) (xN_ge (by omega)) ?_ | refine gtN rfl (by omega) (by omega) (xN_lt (by omega)) ?_ | refine gtN rfl (by omega) (by omega) (xN_eq (by omega)) ?_ | refine gtN rfl (by omega) (by omega) (xN_ne (by omega)) ?_ | refine gtN rfl (by omega) (by omega) (xN_gt (by omega)) ?_ | refine gtN rfl (by omega) (by omega) (xN_le (by omega)) ?_
        repeat (first | refine gkn rfl rfl ?_ | refine gkm rfl rfl ?_ | refine gad rfl ?_ | refine gml rfl ?_ | refine gsb rfl (by omega) ?_ | refine gdv rfl (by omega) (by omega) (by omega) ?_ | refine grm rfl (by omega) (by omega) (by omega) ?_ | refine gic rfl rfl ?_ | refine gp rfl rfl rfl ?_ | refine gFl rfl (by rfl) ?_ | refine gAl rfl rfl (by rfl) (by omega) ?_ | refine gBl rfl rfl (by rfl) (by omega) ?_)
        rw [h3 15 (by decide) (by decide), h3 16 (by decide) (by decide), h3 17 (by decide) (by decide), h15, h16, h17]
        simp only [nI_add]
        refine gcv (As := [.inl (nI (bo + J.1)), .inl (nI (bo + lo.length)), .inl (nI (ba + J.2.1)), .inl (nI (ba + la.length)), .inl (nI (bb + J.2.2.1)), .inl (nI (bb + lb.length))]) (rest := []) rfl (by decide) g1 (mU_obj _ _ _) rfl rfl (by decide) ?_
        refine grv rfl ⟨rfl, I4, A4, rfl, by rw [eJ]; exact g2, by rw [eB]; exact g3, fun j a b => (g4 j a b).trans (h3 j a b), fun j a b => (g5 j a).trans ((h4 j a).trans (qF j b))⟩
      | succ k ih =>
        intro i I3 A3 hi h1 h2 h3 h4
        have hi2 : i < lo.length := by omega
        obtain ⟨k1, k2, k3, k4, k5⟩ := pJs_ok st lo la lb i
        have s55 : A3 55 = A 55 := (h4 55 (by decide)).trans q55
        have pA : A3 62 i = oI ((pMt lo la 0).getD i none) := by rw [h4 62 (by decide)]; exact qA i hi2
        have pB : A3 62 (8 + i) = oI ((pMt lo lb 0).getD i none) := by rw [h4 62 (by decide)]; exact qB i hi2
        have ih' := ih (i + 1)
        have eJ := pJs_s st lo la lb i
        have mono := pJs_mono st lo la lb (i + 1) (lo.length - (i + 1))
        rw [show i + 1 + (lo.length - (i + 1)) = lo.length by omega] at mono
        first | refine gfN rfl (by omega) (by omega) (nN_ge (by omega)) ?_ | refine gfN rfl (by omega) (by omega) (nN_lt (by omega)) ?_ | refine gfN rfl (by omega) (by omega) (nN_eq (by omega)) ?_ | refine gfN rfl (by omega) (by omega) (nN_ne (by omega)) ?_ | refine gfN rfl (by omega) (by omega) (nN_gt (by omega)) ?_ | refine gfN rfl (by omega) (by omega) (nN_le (by omega)) ?_
        repeat (first | refine gkn rfl rfl ?_ | refine gkm rfl rfl ?_ | refine gad rfl ?_ | refine gml rfl ?_ | refine gsb rfl (by omega) ?_ | refine gdv rfl (by omega) (by omega) (by omega) ?_ | refine grm rfl (by omega) (by omega) (by omega) ?_ | refine gic rfl rfl ?_ | refine gp rfl rfl rfl ?_ | refine gFl rfl (by rfl) ?_ | refine gAl rfl rfl (by rfl) (by omega) ?_ | refine gBl rfl rfl (by rfl) (by omega) ?_)
        rw [pA]
        cases hp : (pMt lo la 0).getD i none with
        | none =>
          rw [hp] at eJ
          rw [show pJs st lo la lb (i + 1) = pJs st lo la lb i from eJ] at ih'
          refine git rfl (show (-1 : Int32) < 0 by decide) ?_
          repeat (first | refine gkn rfl rfl ?_ | refine gkm rfl rfl ?_ | refine gad rfl ?_ | refine gml rfl ?_ | refine gsb rfl (by omega) ?_ | refine gdv rfl (by omega) (by omega) (by omega) ?_ | refine grm rfl (by omega) (by omega) (by omega) ?_ | refine gic rfl rfl ?_ | refine gp rfl rfl rfl ?_ | refine gFl rfl (by rfl) ?_ | refine gAl rfl rfl (by rfl) (by omega) ?_ | refine gBl rfl rfl (by rfl) (by omega) ?_)
          exact ih' I3 A3 (by omega) h1 h2 h3 h4
        | some p =>
          have ip := pMt_in hp
          refine gf0 rfl (show p < 2147483648 by omega) (by simp only [xcN]; omega) ?_
          repeat (first | refine gkn rfl rfl ?_ | refine gkm rfl rfl ?_ | refine gad rfl ?_ | refine gml rfl ?_ | refine gsb rfl (by omega) ?_ | refine gdv rfl (by omega) (by omega) (by omega) ?_ | refine grm rfl (by omega) (by omega) (by omega) ?_ | refine gic rfl rfl ?_ | refine gp rfl rfl rfl ?_ | refine gFl rfl (by rfl) ?_ | refine gAl rfl rfl (by rfl) (by omega) ?_ | refine gBl rfl rfl (by rfl) (by omega) ?_)
          rw [pB]
          cases hq : (pMt lo lb 0).getD i none with
          | none =>
            rw [hp, hq] at eJ
            rw [show pJs st lo la lb (i + 1) = pJs st lo la lb i from eJ] at ih'
            refine git rfl (show (-1 : Int32) < 0 by decide) ?_
            repeat (first | refine gkn rfl rfl ?_ | refine gkm rfl rfl ?_ | refine gad rfl ?_ | refine gml rfl ?_ | refine gsb rfl (by omega) ?_ | refine gdv rfl (by omega) (by omega) (by omega) ?_ | refine grm rfl (by omega) (by omega) (by omega) ?_ | refine gic rfl rfl ?_ | refine gp rfl rfl rfl ?_ | refine gFl rfl (by rfl) ?_ | refine gAl rfl rfl (by rfl) (by omega) ?_ | refine gBl rfl rfl (by rfl) (by omega) ?_)
            exact ih' I3 A3 (by omega) h1 h2 h3 h4
          | some q =>
            have iq := pMt_in hq
            rw [hp, hq] at eJ
            have a1 := k4 i p (Nat.le_refl _) hp
            have b1 := k5 i q (Nat.le_refl _) hq
            have pA' : A3 62 i = nI p := by rw [pA, hp]; rfl
            have pB' : A3 62 (8 + i) = nI q := by rw [pB, hq]; rfl
            rw [eJ] at mono ih'
            simp only [List.length_append, List.length_cons, List.length_nil] at mono
            generalize pJs st lo la lb i = J at *
            obtain ⟨I4, A4, g1, g2, g3, g4, g5⟩ := r_gap (σ := σ) d (oo := bo + i) (xx := ba + p) (yy := bb + q) h1 ((ho.of s55).cut k1 (by omega)) ((ha.of s55).cut a1 (by omega)) ((hb.of s55).cut b1 (by omega)) (by rw [pCut_len k1 (by omega)]; omega) (by rw [pCut_len a1 (by omega)]; omega) (by rw [pCut_len b1 (by omega)]; omega) ((h3 1 (by decide) (by decide)).trans hst) hst2 h2 (by omega)
            obtain ⟨v, v1, v2, v3⟩ := ho.2.1 i hi2
            obtain ⟨I5, A5, u1, u2, u3, u4⟩ := r_write (σ := σ) (d + 2) g2 v1 v2 (by rw [List.length_append]; omega)
            have t55 : A4 55 = A 55 := (g5 55 (by decide)).trans s55
            refine gf0 rfl (show q < 2147483648 by omega) (by simp only [xcN]; omega) ?_
            repeat (first | refine gkn rfl rfl ?_ | refine gkm rfl rfl ?_ | refine gad rfl ?_ | refine gml rfl ?_ | refine gsb rfl (by omega) ?_ | refine gdv rfl (by omega) (by omega) (by omega) ?_ | refine grm rfl (by omega) (by omega) (by omega) ?_ | refine gic rfl rfl ?_ | refine gp rfl rfl rfl ?_ | refine gFl rfl (by rfl) ?_ | refine gAl rfl rfl (by rfl) (by omega) ?_ | refine gBl rfl rfl (by rfl) (by omega) ?_)
            rw [h3 15 (by decide) (by decide), h3 16 (by decide) (by decide), h3 17 (by decide) (by decide), h15, h16, h17, pA', pB']
            simp only [nI_add]
            refine gcv (As := [.inl (nI (bo + J.1)), .inl (nI (bo + i)), .inl (nI (ba + J.2.1)), .inl (nI (ba + p)), .inl (nI (bb + J.2.2.1)), .inl (nI (bb + q))]) (rest := []) rfl (by decide) g1 (mU_obj _ _ _) rfl rfl (by decide) ?_
            repeat (first | refine gkn rfl rfl ?_ | refine gkm rfl rfl ?_ | refine gad rfl ?_ | refine gml rfl ?_ | refine gsb rfl (by omega) ?_ | refine gdv rfl (by omega) (by omega) (by omega) ?_ | refine grm rfl (by omega) (by omega) (by omega) ?_ | refine gic rfl rfl ?_ | refine gp rfl rfl rfl ?_ | refine gFl rfl (by rfl) ?_ | refine gAl rfl rfl (by rfl) (by omega) ?_ | refine gBl rfl rfl (by rfl) (by omega) ?_)
            rw [g4 15 (by decide) (by decide), h3 15 (by decide) (by decide), h15, nI_add]
            repeat (first | refine gkn rfl rfl ?_ | refine gkm rfl rfl ?_ | refine gad rfl ?_ | refine gml rfl ?_ | refine gsb rfl (by omega) ?_ | refine gdv rfl (by omega) (by omega) (by omega) ?_ | refine grm rfl (by omega) (by omega) (by omega) ?_ | refine gic rfl rfl ?_ | refine gp rfl rfl rfl ?_ | refine gFl rfl (by rfl) ?_ | refine gAl rfl rfl (by rfl) (by omega) ?_ | refine gBl rfl rfl (by rfl) (by omega) ?_)
            rw [t55, ho.2.2 i hi2, v3]
            refine gcv (As := [.inl (nI v)]) (rest := []) rfl (by decide) u1 (mU_obj _ _ _) rfl rfl (by decide) ?_
            have w62 : A5 62 = A3 62 := (u4 62 (by decide)).trans (g5 62 (by decide))
            repeat (first | refine gkn rfl rfl ?_ | refine gkm rfl rfl ?_ | refine gad rfl ?_ | refine gml rfl ?_ | refine gsb rfl (by omega) ?_ | refine gdv rfl (by omega) (by omega) (by omega) ?_ | refine grm rfl (by omega) (by omega) (by omega) ?_ | refine gic rfl rfl ?_ | refine gp rfl rfl rfl ?_ | refine gFl rfl (by rfl) ?_ | refine gAl rfl rfl (by rfl) (by omega) ?_ | refine gBl rfl rfl (by rfl) (by omega) ?_)
            rw [w62, pA', pB', nI_add, nI_add]
            refine ih' I5 A5 (by omega) ?_ ?_ (fun j a b => (u3 j a).trans ((g4 j a b).trans (h3 j a b))) (fun j a => (u4 j a).trans ((g5 j a).trans (h4 j a)))
            · show mO I5 A5 (J.2.2.2.1 ++ pGap st (pCut lo J.1 i) (pCut la J.2.1 p) (pCut lb J.2.2.1 q) ++ [lo.getD i 0])
              rw [v3]
              exact u2
            · show I5 18 = bI (J.2.2.2.2 || pBad (pCut lo J.1 i) (pCut la J.2.1 p) (pCut lb J.2.2.1 q))
              rw [u3 18 (by decide)]
              exact g3
    exact loop lo.length 0 I1 A2 (Nat.zero_add _) ⟨j12, Nat.zero_le _, fun j hj => absurd hj (Nat.not_lt_zero _)⟩ j18 jF (fun _ _ => rfl)
  obtain ⟨r, σ', hex, rfl, I', A', rfl, g⟩ := ex_of (d := d + 3) (y := 124) (as := [.inr (some 52), .inl (nI lo.length), .inl (nI la.length), .inl (nI lb.length)]) (σ := mU σ I A) (K := K) (by decide) rfl main
  exact ⟨I', A', hex, g⟩
/-- what two files merged leave: a file to put, a code -/
def mX (I' : Nat → Int32) (A' : Nat → Nat → Int32) (R : Option pF × Int32) : Prop := I' 13 = nI (pK R.1) ∧ mO I' A' (pLn R.1) ∧ pOK (pLn R.1) ∧ I' 14 = R.2
theorem mV.sg {A : Nat → Nat → Int32} {W : Nat → pT} {t p : Nat} (h : mV A W) (ht : t < 7) (hp : p < 64) : sg A (rSt t p) (pLn (W t p)) := by
  obtain ⟨g1, g2, g3, g4, g5⟩ := h t p ht hp
  refine ⟨?_, g4, g5⟩
  rcases Nat.eq_zero_or_pos (pLn (W t p)).length with e | e
  · rw [e]
    have : rSt t p + 0 < 11520 := rSt_lt ht hp (by
      unfold rRm
      split
      · omega
      · split
        · omega
        · split <;> omega)
    omega
  · have := rSt_lt (j := (pLn (W t p)).length - 1) ht hp (by omega)
    omega
theorem r_mergeFiles (d : Nat) {o a b st : Nat} (h : mV A W) (ho : o < 64) (ha : a < 64) (hb : b < 64) (hst : I 1 = nI st) (hst2 : st ≤ 2) (hlen : (pJoin st (pLn (W 4 o)) (pLn (W 5 a)) (pLn (W 6 b))).length ≤ 76) : ∃ I' A', xEx (d + 5) 121 [.inr (some 52), .inl (nI o), .inl (nI a), .inl (nI b)] (mU σ I A) none (mU σ I' A') ∧ mX I' A' (pMerge st (W 4 o) (W 5 a) (W 6 b)) ∧ (∀ j, (j < 12 ∨ 18 < j) → I' j = I j) ∧ (∀ j, j ≠ 61 → j ≠ 62 → A' j = A j) := by
  let K : Option xV → xS → Prop := fun r0 σ0 => r0 = none ∧ ∃ I' A', σ0 = mU σ I' A' ∧ mX I' A' (pMerge st (W 4 o) (W 5 a) (W 6 b)) ∧ (∀ j, (j < 12 ∨ 18 < j) → I' j = I j) ∧ (∀ j, j ≠ 61 → j ≠ 62 → A' j = A j)
  have main : xGo (xEx (d + 4)) xtb_121 K (0, [some (.inr (some 52)), some (.inl (nI o)), some (.inl (nI a)), some (.inl (nI b)), none, none, none], [], mU σ I A) := by
    obtain ⟨o1, o2, o3, o4, o5⟩ := h 4 o (by decide) ho
    obtain ⟨a1, a2, a3, a4, a5⟩ := h 5 a (by decide) ha
    obtain ⟨b1, b2, b3, b4, b5⟩ := h 6 b (by decide) hb
    have o1 : A 53 (256 + o) = nI (pK (W 4 o)) := o1
    have a1 : A 53 (320 + a) = nI (pK (W 5 a)) := a1
    have b1 : A 53 (384 + b) = nI (pK (W 6 b)) := b1
    have o2 : A 54 (256 + o) = nI (pLn (W 4 o)).length := o2
    have a2 : A 54 (320 + a) = nI (pLn (W 5 a)).length := a2
    have b2 : A 54 (384 + b) = nI (pLn (W 6 b)).length := b2
    have o3 : (pLn (W 4 o)).length ≤ 8 := o3
    have ko := pK_le (W 4 o)
    have ka := pK_le (W 5 a)
    have kb := pK_le (W 6 b)
    repeat (first | refine gkn rfl rfl ?_ | refine gkm rfl rfl ?_ | refine gad rfl ?_ | refine gml rfl ?_ | refine gsb rfl (by omega) ?_ | refine gdv rfl (by omega) (by omega) (by omega) ?_ | refine grm rfl (by omega) (by omega) (by omega) ?_ | refine gic rfl rfl ?_ | refine gp rfl rfl rfl ?_ | refine gFl rfl (by rfl) ?_ | refine gAl rfl rfl (by rfl) (by omega) ?_ | refine gBl rfl rfl (by rfl) (by omega) ?_)
    rw [o1, a1, b1]
    refine gFs rfl (by decide) (Or.inl rfl) ?_
    have i14 : upd I 14 (nI 0) 14 = 0 := by rw [upd_eq]; rfl
    have iF : ∀ j, j ≠ 14 → upd I 14 (nI 0) j = I j := fun j hj => upd_ne hj
    generalize upd I 14 (nI 0) = I1 at *
    have plain : ∀ (t p : Nat), t < 7 → p < 64 → pMerge st (W 4 o) (W 5 a) (W 6 b) = (W t p, 0) → ∀ I2 A2, I2 13 = nI (pK (W t p)) → mO I2 A2 (pLn (W t p)) → (∀ j, j ≠ 12 → j ≠ 13 → I2 j = I1 j) → (∀ j, j ≠ 61 → A2 j = A j) → K none (mU σ I2 A2) := by
      intro t p ht hp e I2 A2 y1 y2 y3 y4
      refine ⟨rfl, I2, A2, rfl, ⟨by rw [e]; exact y1, by rw [e]; exact y2, by rw [e]; exact (h t p ht hp).2.2.2.1, by rw [e, y3 14 (by decide) (by decide)]; exact i14⟩, fun j hj => (y3 j (by omega) (by omega)).trans (iF j (by omega)), fun j j1 _ => y4 j j1⟩
    repeat (first | refine gkn rfl rfl ?_ | refine gkm rfl rfl ?_ | refine gad rfl ?_ | refine gml rfl ?_ | refine gsb rfl (by omega) ?_ | refine gdv rfl (by omega) (by omega) (by omega) ?_ | refine grm rfl (by omega) (by omega) (by omega) ?_ | refine gic rfl rfl ?_ | refine gp rfl rfl rfl ?_ | refine gFl rfl (by rfl) ?_ | refine gAl rfl rfl (by rfl) (by omega) ?_ | refine gBl rfl rfl (by rfl) (by omega) ?_)
    refine gcv (As := [.inl (nI 5), .inl (nI a), .inl (nI 6), .inl (nI b)]) (rest := []) rfl (by decide) (r_alike (d + 2) h (by decide) ha (by decide) hb) (mU_obj _ _ _) rfl rfl (by decide) ?_
    refine gbe rfl (fun hz => ?_) (fun hz => ?_)
    · have n1 : ¬ W 5 a = W 6 b := of_decide_eq_false hz
      repeat (first | refine gkn rfl rfl ?_ | refine gkm rfl rfl ?_ | refine gad rfl ?_ | refine gml rfl ?_ | refine gsb rfl (by omega) ?_ | refine gdv rfl (by omega) (by omega) (by omega) ?_ | refine grm rfl (by omega) (by omega) (by omega) ?_ | refine gic rfl rfl ?_ | refine gp rfl rfl rfl ?_ | refine gFl rfl (by rfl) ?_ | refine gAl rfl rfl (by rfl) (by omega) ?_ | refine gBl rfl rfl (by rfl) (by omega) ?_)
      refine gcv (As := [.inl (nI 4), .inl (nI o), .inl (nI 5), .inl (nI a)]) (rest := []) rfl (by decide) (r_alike (d + 2) h (by decide) ho (by decide) ha) (mU_obj _ _ _) rfl rfl (by decide) ?_
      refine gbe rfl (fun hz2 => ?_) (fun hz2 => ?_)
      · have n2 : ¬ W 4 o = W 5 a := of_decide_eq_false hz2
        repeat (first | refine gkn rfl rfl ?_ | refine gkm rfl rfl ?_ | refine gad rfl ?_ | refine gml rfl ?_ | refine gsb rfl (by omega) ?_ | refine gdv rfl (by omega) (by omega) (by omega) ?_ | refine grm rfl (by omega) (by omega) (by omega) ?_ | refine gic rfl rfl ?_ | refine gp rfl rfl rfl ?_ | refine gFl rfl (by rfl) ?_ | refine gAl rfl rfl (by rfl) (by omega) ?_ | refine gBl rfl rfl (by rfl) (by omega) ?_)
        refine gcv (As := [.inl (nI 4), .inl (nI o), .inl (nI 6), .inl (nI b)]) (rest := []) rfl (by decide) (r_alike (d + 2) h (by decide) ho (by decide) hb) (mU_obj _ _ _) rfl rfl (by decide) ?_
        refine gbe rfl (fun hz3 => ?_) (fun hz3 => ?_)
        · have n3 : ¬ W 4 o = W 6 b := of_decide_eq_false hz3
          have eM : pMerge st (W 4 o) (W 5 a) (W 6 b) = pMg2 st (W 4 o) (W 5 a) (W 6 b) := by
            unfold pMerge
            rw [if_neg n1, if_neg n2, if_neg n3]
          have coded : ∀ (t p : Nat) (c : Nat), t < 7 → p < 64 → pMg2 st (W 4 o) (W 5 a) (W 6 b) = (W t p, nI c) → ∀ I2 A2, I2 13 = nI (pK (W t p)) → mO I2 A2 (pLn (W t p)) → (∀ j, j ≠ 12 → j ≠ 13 → I2 j = I1 j) → (∀ j, j ≠ 61 → A2 j = A j) → K none (mU σ (upd I2 14 (nI c)) A2) := by
            intro t p c ht hp e I2 A2 y1 y2 y3 y4
            refine ⟨rfl, upd I2 14 (nI c), A2, rfl, ⟨by rw [eM, e, upd_ne (by decide)]; exact y1, ?_, by rw [eM, e]; exact (h t p ht hp).2.2.2.1, by rw [eM, e, upd_eq]⟩, fun j hj => (upd_ne (by omega)).trans ((y3 j (by omega) (by omega)).trans (iF j (by omega))), fun j j1 _ => y4 j j1⟩
            rw [eM, e]
            exact ⟨by rw [upd_ne (by decide)]; exact y2.1, y2.2.1, y2.2.2⟩
          have zA : pK (W 5 a) = 0 ↔ W 5 a = none := by
            rw [pK_0]
            cases W 5 a <;> simp
          have zB : pK (W 6 b) = 0 ↔ W 6 b = none := by
            rw [pK_0]
            cases W 6 b <;> simp
          have zO : pK (W 4 o) = 0 ↔ W 4 o = none := by
            rw [pK_0]
            cases W 4 o <;> simp
          by_cases hA0 : pK (W 5 a) = 0
          · obtain ⟨I2, A2, y1, y2, y3, y4, y5⟩ := r_takeFile (σ := σ) (I := I1) (d + 2) (t := 6) (p := b) h (by decide) hb
            have eA := zA.mp hA0
            repeat (first | refine gkn rfl rfl ?_ | refine gkm rfl rfl ?_ | refine gad rfl ?_ | refine gml rfl ?_ | refine gsb rfl (by omega) ?_ | refine gdv rfl (by omega) (by omega) (by omega) ?_ | refine grm rfl (by omega) (by omega) (by omega) ?_ | refine gic rfl rfl ?_ | refine gp rfl rfl rfl ?_ | refine gFl rfl (by rfl) ?_ | refine gAl rfl rfl (by rfl) (by omega) ?_ | refine gBl rfl rfl (by rfl) (by omega) ?_ | refine gfN rfl (by omega) (by omega) (nN_ge (by omega)) ?_ | refine gfN rfl (by omega) (by omega) (nN_lt (by omega)) ?_ | refine gfN rfl (by omega) (by omega) (nN_eq (by omega)) ?_ | refine gfN rfl (by omega) (by omega) (nN_ne (by omega)) ?_ | refine gfN rfl (by omega) (by omega) (nN_gt (by omega)) ?_ | refine gfN rfl (by omega) (by omega) (nN_le (by omega)) ?_ | refine gtN rfl (by omega) (by omega) (xN_ge (by omega)) ?_ | refine gtN rfl (by omega) (by omega) (xN_lt (by omega)) ?_ | refine gtN rfl (by omega) (by omega) (xN_eq (by omega)) ?_ | refine gtN rfl (by omega) (by omega) (xN_ne (by omega)) ?_ | refine gtN rfl (by omega) (by omega) (xN_gt (by omega)) ?_ | refine gtN rfl (by omega) (by omega) (xN_le (by omega)) ?_ | refine gf0 rfl (by omega) (nN_ge (by omega)) ?_ | refine gf0 rfl (by omega) (nN_lt (by omega)) ?_ | refine gf0 rfl (by omega) (nN_eq (by omega)) ?_ | refine gf0 rfl (by omega) (nN_ne (by omega)) ?_ | refine gf0 rfl (by omega) (nN_gt (by omega)) ?_ | refine gf0 rfl (by omega) (nN_le (by omega)) ?_ | refine gt0 rfl (by omega) (xN_ge (by omega)) ?_ | refine gt0 rfl (by omega) (xN_lt (by omega)) ?_ | refine gt0 rfl (by omega) (xN_eq (by omega)) ?_ | refine gt0 rfl (by omega) (xN_ne (by omega)) ?_ | refine gt0 rfl (by omega) (xN_gt (by omega)) ?_ | refine gt0 rfl (by omega) (xN_le (by omega)) ?_)
            refine gcv (As := [.inl (nI 6), .inl (nI b)]) (rest := []) rfl (by decide) y1 (mU_obj _ _ _) rfl rfl (by decide) ?_
            repeat (first | refine gkn rfl rfl ?_ | refine gkm rfl rfl ?_ | refine gad rfl ?_ | refine gml rfl ?_ | refine gsb rfl (by omega) ?_ | refine gdv rfl (by omega) (by omega) (by omega) ?_ | refine grm rfl (by omega) (by omega) (by omega) ?_ | refine gic rfl rfl ?_ | refine gp rfl rfl rfl ?_ | refine gFl rfl (by rfl) ?_ | refine gAl rfl rfl (by rfl) (by omega) ?_ | refine gBl rfl rfl (by rfl) (by omega) ?_)
            refine gFs rfl (by decide) (Or.inl rfl) ?_
            repeat (first | refine gkn rfl rfl ?_ | refine gkm rfl rfl ?_ | refine gad rfl ?_ | refine gml rfl ?_ | refine gsb rfl (by omega) ?_ | refine gdv rfl (by omega) (by omega) (by omega) ?_ | refine grm rfl (by omega) (by omega) (by omega) ?_ | refine gic rfl rfl ?_ | refine gp rfl rfl rfl ?_ | refine gFl rfl (by rfl) ?_ | refine gAl rfl rfl (by rfl) (by omega) ?_ | refine gBl rfl rfl (by rfl) (by omega) ?_)
            refine grv rfl (coded 6 b 4 (by decide) hb ?_ I2 A2 y2 y3 y4 y5)
            unfold pMg2
            rw [eA]
          · by_cases hB0 : pK (W 6 b) = 0
            · obtain ⟨I2, A2, y1, y2, y3, y4, y5⟩ := r_takeFile (σ := σ) (I := I1) (d + 2) (t := 5) (p := a) h (by decide) ha
              have eB := zB.mp hB0
              repeat (first | refine gkn rfl rfl ?_ | refine gkm rfl rfl ?_ | refine gad rfl ?_ | refine gml rfl ?_ | refine gsb rfl (by omega) ?_ | refine gdv rfl (by omega) (by omega) (by omega) ?_ | refine grm rfl (by omega) (by omega) (by omega) ?_ | refine gic rfl rfl ?_ | refine gp rfl rfl rfl ?_ | refine gFl rfl (by rfl) ?_ | refine gAl rfl rfl (by rfl) (by omega) ?_ | refine gBl rfl rfl (by rfl) (by omega) ?_ | refine gfN rfl (by omega) (by omega) (nN_ge (by omega)) ?_ | refine gfN rfl (by omega) (by omega) (nN_lt (by omega)) ?_ | refine gfN rfl (by omega) (by omega) (nN_eq (by omega)) ?_ | refine gfN rfl (by omega) (by omega) (nN_ne (by omega)) ?_ | refine gfN rfl (by omega) (by omega) (nN_gt (by omega)) ?_ | refine gfN rfl (by omega) (by omega) (nN_le (by omega)) ?_ | refine gtN rfl (by omega) (by omega) (xN_ge (by omega)) ?_ | refine gtN rfl (by omega) (by omega) (xN_lt (by omega)) ?_ | refine gtN rfl (by omega) (by omega) (xN_eq (by omega)) ?_ | refine gtN rfl (by omega) (by omega) (xN_ne (by omega)) ?_ | refine gtN rfl (by omega) (by omega) (xN_gt (by omega)) ?_ | refine gtN rfl (by omega) (by omega) (xN_le (by omega)) ?_ | refine gf0 rfl (by omega) (nN_ge (by omega)) ?_ | refine gf0 rfl (by omega) (nN_lt (by omega)) ?_ | refine gf0 rfl (by omega) (nN_eq (by omega)) ?_ | refine gf0 rfl (by omega) (nN_ne (by omega)) ?_ | refine gf0 rfl (by omega) (nN_gt (by omega)) ?_ | refine gf0 rfl (by omega) (nN_le (by omega)) ?_ | refine gt0 rfl (by omega) (xN_ge (by omega)) ?_ | refine gt0 rfl (by omega) (xN_lt (by omega)) ?_ | refine gt0 rfl (by omega) (xN_eq (by omega)) ?_ | refine gt0 rfl (by omega) (xN_ne (by omega)) ?_ | refine gt0 rfl (by omega) (xN_gt (by omega)) ?_ | refine gt0 rfl (by omega) (xN_le (by omega)) ?_)
              refine gcv (As := [.inl (nI 5), .inl (nI a)]) (rest := []) rfl (by decide) y1 (mU_obj _ _ _) rfl rfl (by decide) ?_
              repeat (first | refine gkn rfl rfl ?_ | refine gkm rfl rfl ?_ | refine gad rfl ?_ | refine gml rfl ?_ | refine gsb rfl (by omega) ?_ | refine gdv rfl (by omega) (by omega) (by omega) ?_ | refine grm rfl (by omega) (by omega) (by omega) ?_ | refine gic rfl rfl ?_ | refine gp rfl rfl rfl ?_ | refine gFl rfl (by rfl) ?_ | refine gAl rfl rfl (by rfl) (by omega) ?_ | refine gBl rfl rfl (by rfl) (by omega) ?_)
              refine gFs rfl (by decide) (Or.inl rfl) ?_
              repeat (first | refine gkn rfl rfl ?_ | refine gkm rfl rfl ?_ | refine gad rfl ?_ | refine gml rfl ?_ | refine gsb rfl (by omega) ?_ | refine gdv rfl (by omega) (by omega) (by omega) ?_ | refine grm rfl (by omega) (by omega) (by omega) ?_ | refine gic rfl rfl ?_ | refine gp rfl rfl rfl ?_ | refine gFl rfl (by rfl) ?_ | refine gAl rfl rfl (by rfl) (by omega) ?_ | refine gBl rfl rfl (by rfl) (by omega) ?_)
              refine grv rfl (coded 5 a 4 (by decide) ha ?_ I2 A2 y2 y3 y4 y5)
              unfold pMg2
              rw [eB]
              cases hw : W 5 a with
              | none => exact absurd (zA.mpr hw) hA0
              | some F => rfl
            · have nA : ∃ FA, W 5 a = some FA := by
                cases hw : W 5 a with
                | none => exact absurd (zA.mpr hw) hA0
                | some F => exact ⟨F, rfl⟩
              have nB : ∃ FB, W 6 b = some FB := by
                cases hw : W 6 b with
                | none => exact absurd (zB.mpr hw) hB0
                | some F => exact ⟨F, rfl⟩
              obtain ⟨FA, eA⟩ := nA
              obtain ⟨FB, eB⟩ := nB
              have k2A : pK (W 5 a) = 2 ↔ FA.1 = true := by
                rw [eA]
                have : ∀ F : pF, pK (some F) = 2 ↔ F.1 = true := fun F => by
                  obtain ⟨f, l⟩ := F
                  cases f <;> simp [pK]
                exact this FA
              have k2B : pK (W 6 b) = 2 ↔ FB.1 = true := by
                rw [eB]
                have : ∀ F : pF, pK (some F) = 2 ↔ F.1 = true := fun F => by
                  obtain ⟨f, l⟩ := F
                  cases f <;> simp [pK]
                exact this FB
              have k2O : pK (W 4 o) = 2 ↔ pLk (W 4 o) = true := by
                cases hw : W 4 o with
                | none => simp [pK, pLk]
                | some F =>
                  obtain ⟨f, l⟩ := F
                  cases f <;> simp [pK, pLk]
              have eM2 : pMg2 st (W 4 o) (W 5 a) (W 6 b) = if FA.1 || FB.1 || pLk (W 4 o) then (some FA, nI 8) else (some (false, pW [] (pJoin st (pLn (W 4 o)) FA.2 FB.2)), if pJbad st (pLn (W 4 o)) FA.2 FB.2 then (if (W 4 o).isNone then nI 2 else nI 1) else 0) := by
                unfold pMg2
                rw [eA, eB]
              have link : (FA.1 || FB.1 || pLk (W 4 o)) = true → xGo (xEx (d + 4)) xtb_121 K (165, [some (.inr (some 52)), some (.inl (nI o)), some (.inl (nI a)), some (.inl (nI b)), some (.inl (nI (pK (W 4 o)))), some (.inl (nI (pK (W 5 a)))), some (.inl (nI (pK (W 6 b))))], [], mU σ I1 A) := by
                intro hl
                obtain ⟨I2, A2, y1, y2, y3, y4, y5⟩ := r_takeFile (σ := σ) (I := I1) (d + 2) (t := 5) (p := a) h (by decide) ha
                repeat (first | refine gkn rfl rfl ?_ | refine gkm rfl rfl ?_ | refine gad rfl ?_ | refine gml rfl ?_ | refine gsb rfl (by omega) ?_ | refine gdv rfl (by omega) (by omega) (by omega) ?_ | refine grm rfl (by omega) (by omega) (by omega) ?_ | refine gic rfl rfl ?_ | refine gp rfl rfl rfl ?_ | refine gFl rfl (by rfl) ?_ | refine gAl rfl rfl (by rfl) (by omega) ?_ | refine gBl rfl rfl (by rfl) (by omega) ?_)
                refine gcv (As := [.inl (nI 5), .inl (nI a)]) (rest := []) rfl (by decide) y1 (mU_obj _ _ _) rfl rfl (by decide) ?_
                repeat (first | refine gkn rfl rfl ?_ | refine gkm rfl rfl ?_ | refine gad rfl ?_ | refine gml rfl ?_ | refine gsb rfl (by omega) ?_ | refine gdv rfl (by omega) (by omega) (by omega) ?_ | refine grm rfl (by omega) (by omega) (by omega) ?_ | refine gic rfl rfl ?_ | refine gp rfl rfl rfl ?_ | refine gFl rfl (by rfl) ?_ | refine gAl rfl rfl (by rfl) (by omega) ?_ | refine gBl rfl rfl (by rfl) (by omega) ?_)
                refine gFs rfl (by decide) (Or.inl rfl) ?_
                repeat (first | refine gkn rfl rfl ?_ | refine gkm rfl rfl ?_ | refine gad rfl ?_ | refine gml rfl ?_ | refine gsb rfl (by omega) ?_ | refine gdv rfl (by omega) (by omega) (by omega) ?_ | refine grm rfl (by omega) (by omega) (by omega) ?_ | refine gic rfl rfl ?_ | refine gp rfl rfl rfl ?_ | refine gFl rfl (by rfl) ?_ | refine gAl rfl rfl (by rfl) (by omega) ?_ | refine gBl rfl rfl (by rfl) (by omega) ?_)
                refine grv rfl (coded 5 a 8 (by decide) ha ?_ I2 A2 y2 y3 y4 y5)
                rw [eM2, hl, eA]
                rfl
              repeat (first | refine gkn rfl rfl ?_ | refine gkm rfl rfl ?_ | refine gad rfl ?_ | refine gml rfl ?_ | refine gsb rfl (by omega) ?_ | refine gdv rfl (by omega) (by omega) (by omega) ?_ | refine grm rfl (by omega) (by omega) (by omega) ?_ | refine gic rfl rfl ?_ | refine gp rfl rfl rfl ?_ | refine gFl rfl (by rfl) ?_ | refine gAl rfl rfl (by rfl) (by omega) ?_ | refine gBl rfl rfl (by rfl) (by omega) ?_ | refine gfN rfl (by omega) (by omega) (nN_ge (by omega)) ?_ | refine gfN rfl (by omega) (by omega) (nN_lt (by omega)) ?_ | refine gfN rfl (by omega) (by omega) (nN_eq (by omega)) ?_ | refine gfN rfl (by omega) (by omega) (nN_ne (by omega)) ?_ | refine gfN rfl (by omega) (by omega) (nN_gt (by omega)) ?_ | refine gfN rfl (by omega) (by omega) (nN_le (by omega)) ?_ | refine gtN rfl (by omega) (by omega) (xN_ge (by omega)) ?_ | refine gtN rfl (by omega) (by omega) (xN_lt (by omega)) ?_ | refine gtN rfl (by omega) (by omega) (xN_eq (by omega)) ?_ | refine gtN rfl (by omega) (by omega) (xN_ne (by omega)) ?_ | refine gtN rfl (by omega) (by omega) (xN_gt (by omega)) ?_ | refine gtN rfl (by omega) (by omega) (xN_le (by omega)) ?_ | refine gf0 rfl (by omega) (nN_ge (by omega)) ?_ | refine gf0 rfl (by omega) (nN_lt (by omega)) ?_ | refine gf0 rfl (by omega) (nN_eq (by omega)) ?_ | refine gf0 rfl (by omega) (nN_ne (by omega)) ?_ | refine gf0 rfl (by omega) (nN_gt (by omega)) ?_ | refine gf0 rfl (by omega) (nN_le (by omega)) ?_ | refine gt0 rfl (by omega) (xN_ge (by omega)) ?_ | refine gt0 rfl (by omega) (xN_lt (by omega)) ?_ | refine gt0 rfl (by omega) (xN_eq (by omega)) ?_ | refine gt0 rfl (by omega) (xN_ne (by omega)) ?_ | refine gt0 rfl (by omega) (xN_gt (by omega)) ?_ | refine gt0 rfl (by omega) (xN_le (by omega)) ?_)
              by_cases hO2 : pK (W 4 o) = 2
              · first | refine gtN rfl (by omega) (by omega) (xN_ge (by omega)) ?_ | refine gtN rfl (by omega) (by omega) (xN_lt (by omega)) ?_ | refine gtN rfl (by omega) (by omega) (xN_eq (by omega)) ?_ | refine gtN rfl (by omega) (by omega) (xN_ne (by omega)) ?_ | refine gtN rfl (by omega) (by omega) (xN_gt (by omega)) ?_ | refine gtN rfl (by omega) (by omega) (xN_le (by omega)) ?_
                exact link (by rw [k2O.mp hO2]; simp)
              · first | refine gfN rfl (by omega) (by omega) (nN_ge (by omega)) ?_ | refine gfN rfl (by omega) (by omega) (nN_lt (by omega)) ?_ | refine gfN rfl (by omega) (by omega) (nN_eq (by omega)) ?_ | refine gfN rfl (by omega) (by omega) (nN_ne (by omega)) ?_ | refine gfN rfl (by omega) (by omega) (nN_gt (by omega)) ?_ | refine gfN rfl (by omega) (by omega) (nN_le (by omega)) ?_
                repeat (first | refine gkn rfl rfl ?_ | refine gkm rfl rfl ?_ | refine gad rfl ?_ | refine gml rfl ?_ | refine gsb rfl (by omega) ?_ | refine gdv rfl (by omega) (by omega) (by omega) ?_ | refine grm rfl (by omega) (by omega) (by omega) ?_ | refine gic rfl rfl ?_ | refine gp rfl rfl rfl ?_ | refine gFl rfl (by rfl) ?_ | refine gAl rfl rfl (by rfl) (by omega) ?_ | refine gBl rfl rfl (by rfl) (by omega) ?_)
                by_cases hA2 : pK (W 5 a) = 2
                · first | refine gtN rfl (by omega) (by omega) (xN_ge (by omega)) ?_ | refine gtN rfl (by omega) (by omega) (xN_lt (by omega)) ?_ | refine gtN rfl (by omega) (by omega) (xN_eq (by omega)) ?_ | refine gtN rfl (by omega) (by omega) (xN_ne (by omega)) ?_ | refine gtN rfl (by omega) (by omega) (xN_gt (by omega)) ?_ | refine gtN rfl (by omega) (by omega) (xN_le (by omega)) ?_
                  exact link (by rw [k2A.mp hA2]; simp)
                · first | refine gfN rfl (by omega) (by omega) (nN_ge (by omega)) ?_ | refine gfN rfl (by omega) (by omega) (nN_lt (by omega)) ?_ | refine gfN rfl (by omega) (by omega) (nN_eq (by omega)) ?_ | refine gfN rfl (by omega) (by omega) (nN_ne (by omega)) ?_ | refine gfN rfl (by omega) (by omega) (nN_gt (by omega)) ?_ | refine gfN rfl (by omega) (by omega) (nN_le (by omega)) ?_
                  repeat (first | refine gkn rfl rfl ?_ | refine gkm rfl rfl ?_ | refine gad rfl ?_ | refine gml rfl ?_ | refine gsb rfl (by omega) ?_ | refine gdv rfl (by omega) (by omega) (by omega) ?_ | refine grm rfl (by omega) (by omega) (by omega) ?_ | refine gic rfl rfl ?_ | refine gp rfl rfl rfl ?_ | refine gFl rfl (by rfl) ?_ | refine gAl rfl rfl (by rfl) (by omega) ?_ | refine gBl rfl rfl (by rfl) (by omega) ?_)
                  by_cases hB2 : pK (W 6 b) = 2
                  · first | refine gfN rfl (by omega) (by omega) (nN_ge (by omega)) ?_ | refine gfN rfl (by omega) (by omega) (nN_lt (by omega)) ?_ | refine gfN rfl (by omega) (by omega) (nN_eq (by omega)) ?_ | refine gfN rfl (by omega) (by omega) (nN_ne (by omega)) ?_ | refine gfN rfl (by omega) (by omega) (nN_gt (by omega)) ?_ | refine gfN rfl (by omega) (by omega) (nN_le (by omega)) ?_
                    exact link (by rw [k2B.mp hB2]; simp)
                  · first | refine gtN rfl (by omega) (by omega) (xN_ge (by omega)) ?_ | refine gtN rfl (by omega) (by omega) (xN_lt (by omega)) ?_ | refine gtN rfl (by omega) (by omega) (xN_eq (by omega)) ?_ | refine gtN rfl (by omega) (by omega) (xN_ne (by omega)) ?_ | refine gtN rfl (by omega) (by omega) (xN_gt (by omega)) ?_ | refine gtN rfl (by omega) (by omega) (xN_le (by omega)) ?_
                    have fA : FA.1 = false := by
                      cases e : FA.1 with
                      | false => rfl
                      | true => exact absurd (k2A.mpr e) hA2
                    have fB : FB.1 = false := by
                      cases e : FB.1 with
                      | false => rfl
                      | true => exact absurd (k2B.mpr e) hB2
                    have fO : pLk (W 4 o) = false := by
                      cases e : pLk (W 4 o) with
                      | false => rfl
                      | true => exact absurd (k2O.mpr e) hO2
                    rw [fA, fB, fO] at eM2
                    have lA : pLn (W 5 a) = FA.2 := by rw [eA]; rfl
                    have lB : pLn (W 6 b) = FB.2 := by rw [eB]; rfl
                    have sO := h.sg (t := 4) (p := o) (by decide) ho
                    have sA := h.sg (t := 5) (p := a) (by decide) ha
                    have sB := h.sg (t := 6) (p := b) (by decide) hb
                    rw [lA] at sA a2 hlen a4
                    rw [lB] at sB b2 hlen b4
                    repeat (first | refine gkn rfl rfl ?_ | refine gkm rfl rfl ?_ | refine gad rfl ?_ | refine gml rfl ?_ | refine gsb rfl (by omega) ?_ | refine gdv rfl (by omega) (by omega) (by omega) ?_ | refine grm rfl (by omega) (by omega) (by omega) ?_ | refine gic rfl rfl ?_ | refine gp rfl rfl rfl ?_ | refine gFl rfl (by rfl) ?_ | refine gAl rfl rfl (by rfl) (by omega) ?_ | refine gBl rfl rfl (by rfl) (by omega) ?_)
                    refine gcs (As := [.inl (nI 4), .inl (nI o)]) (rest := [.inr (some 52)]) rfl (by decide) (m_start (d + 3) (by decide) ho) rfl rfl (Nat.le_of_ble_eq_true rfl) ?_
                    refine gFs rfl (by decide) (Or.inl rfl) ?_
                    repeat (first | refine gkn rfl rfl ?_ | refine gkm rfl rfl ?_ | refine gad rfl ?_ | refine gml rfl ?_ | refine gsb rfl (by omega) ?_ | refine gdv rfl (by omega) (by omega) (by omega) ?_ | refine grm rfl (by omega) (by omega) (by omega) ?_ | refine gic rfl rfl ?_ | refine gp rfl rfl rfl ?_ | refine gFl rfl (by rfl) ?_ | refine gAl rfl rfl (by rfl) (by omega) ?_ | refine gBl rfl rfl (by rfl) (by omega) ?_)
                    refine gcs (As := [.inl (nI 5), .inl (nI a)]) (rest := [.inr (some 52)]) rfl (by decide) (m_start (d + 3) (by decide) ha) rfl rfl (Nat.le_of_ble_eq_true rfl) ?_
                    refine gFs rfl (by decide) (Or.inl rfl) ?_
                    repeat (first | refine gkn rfl rfl ?_ | refine gkm rfl rfl ?_ | refine gad rfl ?_ | refine gml rfl ?_ | refine gsb rfl (by omega) ?_ | refine gdv rfl (by omega) (by omega) (by omega) ?_ | refine grm rfl (by omega) (by omega) (by omega) ?_ | refine gic rfl rfl ?_ | refine gp rfl rfl rfl ?_ | refine gFl rfl (by rfl) ?_ | refine gAl rfl rfl (by rfl) (by omega) ?_ | refine gBl rfl rfl (by rfl) (by omega) ?_)
                    refine gcs (As := [.inl (nI 6), .inl (nI b)]) (rest := [.inr (some 52)]) rfl (by decide) (m_start (d + 3) (by decide) hb) rfl rfl (Nat.le_of_ble_eq_true rfl) ?_
                    refine gFs rfl (by decide) (Or.inl rfl) ?_
                    repeat (first | refine gkn rfl rfl ?_ | refine gkm rfl rfl ?_ | refine gad rfl ?_ | refine gml rfl ?_ | refine gsb rfl (by omega) ?_ | refine gdv rfl (by omega) (by omega) (by omega) ?_ | refine grm rfl (by omega) (by omega) (by omega) ?_ | refine gic rfl rfl ?_ | refine gp rfl rfl rfl ?_ | refine gFl rfl (by rfl) ?_ | refine gAl rfl rfl (by rfl) (by omega) ?_ | refine gBl rfl rfl (by rfl) (by omega) ?_)
                    refine gFs rfl (by decide) (Or.inl rfl) ?_
                    have q15 : upd (upd (upd (upd I1 15 (nI (rSt 4 o))) 16 (nI (rSt 5 a))) 17 (nI (rSt 6 b))) 13 (nI 1) 15 = nI (rSt 4 o) := by rw [upd_ne (by decide), upd_ne (by decide), upd_ne (by decide), upd_eq]
                    have q16 : upd (upd (upd (upd I1 15 (nI (rSt 4 o))) 16 (nI (rSt 5 a))) 17 (nI (rSt 6 b))) 13 (nI 1) 16 = nI (rSt 5 a) := by rw [upd_ne (by decide), upd_ne (by decide), upd_eq]
                    have q17 : upd (upd (upd (upd I1 15 (nI (rSt 4 o))) 16 (nI (rSt 5 a))) 17 (nI (rSt 6 b))) 13 (nI 1) 17 = nI (rSt 6 b) := by rw [upd_ne (by decide), upd_eq]
                    have q13 : upd (upd (upd (upd I1 15 (nI (rSt 4 o))) 16 (nI (rSt 5 a))) 17 (nI (rSt 6 b))) 13 (nI 1) 13 = nI 1 := by rw [upd_eq]
                    have qF : ∀ j, (j < 12 ∨ 18 < j) → upd (upd (upd (upd I1 15 (nI (rSt 4 o))) 16 (nI (rSt 5 a))) 17 (nI (rSt 6 b))) 13 (nI 1) j = I j := fun j hj => by rw [upd_ne (by omega), upd_ne (by omega), upd_ne (by omega), upd_ne (by omega)]; exact iF j (by omega)
                    generalize upd (upd (upd (upd I1 15 (nI (rSt 4 o))) 16 (nI (rSt 5 a))) 17 (nI (rSt 6 b))) 13 (nI 1) = I2 at *
                    obtain ⟨I3, A3, y1, y2, y3, y4, y5⟩ := r_mergeLines (σ := σ) d q15 q16 q17 ((qF 1 (by decide)).trans hst) hst2 sO sA sB o3 hlen
                    have ends : ∀ c : Int32, c = (if pJbad st (pLn (W 4 o)) FA.2 FB.2 then (if (W 4 o).isNone then nI 2 else nI 1) else 0) → xGo (xEx (d + 4)) xtb_121 K (278, [some (.inr (some 52)), some (.inl (nI o)), some (.inl (nI a)), some (.inl (nI b)), some (.inl (nI (pK (W 4 o)))), some (.inl (nI (pK (W 5 a)))), some (.inl (nI (pK (W 6 b))))], [.inl c, .inr (some 52)], mU σ I3 A3) := by
                      intro c hc
                      have ew : pW [] (pJoin st (pLn (W 4 o)) FA.2 FB.2) = pJoin st (pLn (W 4 o)) FA.2 FB.2 := by unfold pW; rw [List.nil_append, List.take_of_length_le hlen]
                      refine gFs rfl (by decide) (Or.inl rfl) ?_
                      refine grv rfl ⟨rfl, _, A3, rfl, ?_, fun j hj => (upd_ne (by omega)).trans ((y4 j (by omega) (by omega)).trans (qF j hj)), y5⟩
                      rw [eM, eM2, ew]
                      refine ⟨?_, ⟨?_, hlen, y2.2.2⟩, pOK_join o4 a4 b4, ?_⟩
                      · rw [upd_ne (by decide), y4 13 (by decide) (by decide), q13]; rfl
                      · rw [upd_ne (by decide)]; exact y2.1
                      · rw [upd_eq, hc]; rfl
                    have call : xGo (xEx (d + 4)) xtb_121 K (253, [some (.inr (some 52)), some (.inl (nI o)), some (.inl (nI a)), some (.inl (nI b)), some (.inl (nI (pK (W 4 o)))), some (.inl (nI (pK (W 5 a)))), some (.inl (nI (pK (W 6 b))))], [.inl (nI FB.2.length), .inl (nI FA.2.length), .inl (nI (pLn (W 4 o)).length), .inr (some 52)], mU σ I2 A) := by
                      refine gcv (As := [.inl (nI (pLn (W 4 o)).length), .inl (nI FA.2.length), .inl (nI FB.2.length)]) (rest := []) rfl (by decide) y1 (mU_obj _ _ _) rfl rfl (by decide) ?_
                      repeat (first | refine gkn rfl rfl ?_ | refine gkm rfl rfl ?_ | refine gad rfl ?_ | refine gml rfl ?_ | refine gsb rfl (by omega) ?_ | refine gdv rfl (by omega) (by omega) (by omega) ?_ | refine grm rfl (by omega) (by omega) (by omega) ?_ | refine gic rfl rfl ?_ | refine gp rfl rfl rfl ?_ | refine gFl rfl (by rfl) ?_ | refine gAl rfl rfl (by rfl) (by omega) ?_ | refine gBl rfl rfl (by rfl) (by omega) ?_)
                      rw [y3]
                      refine gbe rfl (fun hz => ?_) (fun hz => ?_)
                      · refine gkn rfl rfl ?_
                        exact ends _ (by rw [hz]; rfl)
                      · repeat (first | refine gkn rfl rfl ?_ | refine gkm rfl rfl ?_ | refine gad rfl ?_ | refine gml rfl ?_ | refine gsb rfl (by omega) ?_ | refine gdv rfl (by omega) (by omega) (by omega) ?_ | refine grm rfl (by omega) (by omega) (by omega) ?_ | refine gic rfl rfl ?_ | refine gp rfl rfl rfl ?_ | refine gFl rfl (by rfl) ?_ | refine gAl rfl rfl (by rfl) (by omega) ?_ | refine gBl rfl rfl (by rfl) (by omega) ?_)
                        by_cases hO0 : pK (W 4 o) = 0
                        · first | refine gf0 rfl (by omega) (nN_ge (by omega)) ?_ | refine gf0 rfl (by omega) (nN_lt (by omega)) ?_ | refine gf0 rfl (by omega) (nN_eq (by omega)) ?_ | refine gf0 rfl (by omega) (nN_ne (by omega)) ?_ | refine gf0 rfl (by omega) (nN_gt (by omega)) ?_ | refine gf0 rfl (by omega) (nN_le (by omega)) ?_
                          refine gkn rfl rfl ?_
                          refine gp rfl rfl rfl ?_
                          refine ends _ ?_
                          rw [hz, zO.mp hO0]
                          rfl
                        · first | refine gt0 rfl (by omega) (xN_ge (by omega)) ?_ | refine gt0 rfl (by omega) (xN_lt (by omega)) ?_ | refine gt0 rfl (by omega) (xN_eq (by omega)) ?_ | refine gt0 rfl (by omega) (xN_ne (by omega)) ?_ | refine gt0 rfl (by omega) (xN_gt (by omega)) ?_ | refine gt0 rfl (by omega) (xN_le (by omega)) ?_
                          refine gkn rfl rfl ?_
                          refine gp rfl rfl rfl ?_
                          refine ends _ ?_
                          rw [hz]
                          cases hw : W 4 o with
                          | none => exact absurd (zO.mpr hw) hO0
                          | some F => rfl
                    repeat (first | refine gkn rfl rfl ?_ | refine gkm rfl rfl ?_ | refine gad rfl ?_ | refine gml rfl ?_ | refine gsb rfl (by omega) ?_ | refine gdv rfl (by omega) (by omega) (by omega) ?_ | refine grm rfl (by omega) (by omega) (by omega) ?_ | refine gic rfl rfl ?_ | refine gp rfl rfl rfl ?_ | refine gFl rfl (by rfl) ?_ | refine gAl rfl rfl (by rfl) (by omega) ?_ | refine gBl rfl rfl (by rfl) (by omega) ?_)
                    by_cases hO0 : pK (W 4 o) = 0
                    · first | refine gf0 rfl (by omega) (nN_ge (by omega)) ?_ | refine gf0 rfl (by omega) (nN_lt (by omega)) ?_ | refine gf0 rfl (by omega) (nN_eq (by omega)) ?_ | refine gf0 rfl (by omega) (nN_ne (by omega)) ?_ | refine gf0 rfl (by omega) (nN_gt (by omega)) ?_ | refine gf0 rfl (by omega) (nN_le (by omega)) ?_
                      repeat (first | refine gkn rfl rfl ?_ | refine gkm rfl rfl ?_ | refine gad rfl ?_ | refine gml rfl ?_ | refine gsb rfl (by omega) ?_ | refine gdv rfl (by omega) (by omega) (by omega) ?_ | refine grm rfl (by omega) (by omega) (by omega) ?_ | refine gic rfl rfl ?_ | refine gp rfl rfl rfl ?_ | refine gFl rfl (by rfl) ?_ | refine gAl rfl rfl (by rfl) (by omega) ?_ | refine gBl rfl rfl (by rfl) (by omega) ?_)
                      rw [a2, b2]
                      have e0 : (pLn (W 4 o)).length = 0 := by rw [zO.mp hO0]; rfl
                      rw [e0] at call
                      exact call
                    · first | refine gt0 rfl (by omega) (xN_ge (by omega)) ?_ | refine gt0 rfl (by omega) (xN_lt (by omega)) ?_ | refine gt0 rfl (by omega) (xN_eq (by omega)) ?_ | refine gt0 rfl (by omega) (xN_ne (by omega)) ?_ | refine gt0 rfl (by omega) (xN_gt (by omega)) ?_ | refine gt0 rfl (by omega) (xN_le (by omega)) ?_
                      repeat (first | refine gkn rfl rfl ?_ | refine gkm rfl rfl ?_ | refine gad rfl ?_ | refine gml rfl ?_ | refine gsb rfl (by omega) ?_ | refine gdv rfl (by omega) (by omega) (by omega) ?_ | refine grm rfl (by omega) (by omega) (by omega) ?_ | refine gic rfl rfl ?_ | refine gp rfl rfl rfl ?_ | refine gFl rfl (by rfl) ?_ | refine gAl rfl rfl (by rfl) (by omega) ?_ | refine gBl rfl rfl (by rfl) (by omega) ?_)
                      rw [o2, a2, b2]
                      exact call
        · have e3 : W 4 o = W 6 b := of_decide_eq_true hz3
          obtain ⟨I2, A2, y1, y2, y3, y4, y5⟩ := r_takeFile (σ := σ) (I := I1) (d + 2) (t := 5) (p := a) h (by decide) ha
          repeat (first | refine gkn rfl rfl ?_ | refine gkm rfl rfl ?_ | refine gad rfl ?_ | refine gml rfl ?_ | refine gsb rfl (by omega) ?_ | refine gdv rfl (by omega) (by omega) (by omega) ?_ | refine grm rfl (by omega) (by omega) (by omega) ?_ | refine gic rfl rfl ?_ | refine gp rfl rfl rfl ?_ | refine gFl rfl (by rfl) ?_ | refine gAl rfl rfl (by rfl) (by omega) ?_ | refine gBl rfl rfl (by rfl) (by omega) ?_)
          refine gcv (As := [.inl (nI 5), .inl (nI a)]) (rest := []) rfl (by decide) y1 (mU_obj _ _ _) rfl rfl (by decide) ?_
          repeat (first | refine gkn rfl rfl ?_ | refine gkm rfl rfl ?_ | refine gad rfl ?_ | refine gml rfl ?_ | refine gsb rfl (by omega) ?_ | refine gdv rfl (by omega) (by omega) (by omega) ?_ | refine grm rfl (by omega) (by omega) (by omega) ?_ | refine gic rfl rfl ?_ | refine gp rfl rfl rfl ?_ | refine gFl rfl (by rfl) ?_ | refine gAl rfl rfl (by rfl) (by omega) ?_ | refine gBl rfl rfl (by rfl) (by omega) ?_)
          refine grv rfl (plain 5 a (by decide) ha ?_ I2 A2 y2 y3 y4 y5)
          unfold pMerge
          rw [if_neg n1, if_neg n2, if_pos e3]
      · have e2 : W 4 o = W 5 a := of_decide_eq_true hz2
        obtain ⟨I2, A2, y1, y2, y3, y4, y5⟩ := r_takeFile (σ := σ) (I := I1) (d + 2) (t := 6) (p := b) h (by decide) hb
        repeat (first | refine gkn rfl rfl ?_ | refine gkm rfl rfl ?_ | refine gad rfl ?_ | refine gml rfl ?_ | refine gsb rfl (by omega) ?_ | refine gdv rfl (by omega) (by omega) (by omega) ?_ | refine grm rfl (by omega) (by omega) (by omega) ?_ | refine gic rfl rfl ?_ | refine gp rfl rfl rfl ?_ | refine gFl rfl (by rfl) ?_ | refine gAl rfl rfl (by rfl) (by omega) ?_ | refine gBl rfl rfl (by rfl) (by omega) ?_)
        refine gcv (As := [.inl (nI 6), .inl (nI b)]) (rest := []) rfl (by decide) y1 (mU_obj _ _ _) rfl rfl (by decide) ?_
        repeat (first | refine gkn rfl rfl ?_ | refine gkm rfl rfl ?_ | refine gad rfl ?_ | refine gml rfl ?_ | refine gsb rfl (by omega) ?_ | refine gdv rfl (by omega) (by omega) (by omega) ?_ | refine grm rfl (by omega) (by omega) (by omega) ?_ | refine gic rfl rfl ?_ | refine gp rfl rfl rfl ?_ | refine gFl rfl (by rfl) ?_ | refine gAl rfl rfl (by rfl) (by omega) ?_ | refine gBl rfl rfl (by rfl) (by omega) ?_)
        refine grv rfl (plain 6 b (by decide) hb ?_ I2 A2 y2 y3 y4 y5)
        unfold pMerge
        rw [if_neg n1, if_pos e2]
    · have e1 : W 5 a = W 6 b := of_decide_eq_true hz
      obtain ⟨I2, A2, y1, y2, y3, y4, y5⟩ := r_takeFile (σ := σ) (I := I1) (d + 2) (t := 5) (p := a) h (by decide) ha
      repeat (first | refine gkn rfl rfl ?_ | refine gkm rfl rfl ?_ | refine gad rfl ?_ | refine gml rfl ?_ | refine gsb rfl (by omega) ?_ | refine gdv rfl (by omega) (by omega) (by omega) ?_ | refine grm rfl (by omega) (by omega) (by omega) ?_ | refine gic rfl rfl ?_ | refine gp rfl rfl rfl ?_ | refine gFl rfl (by rfl) ?_ | refine gAl rfl rfl (by rfl) (by omega) ?_ | refine gBl rfl rfl (by rfl) (by omega) ?_)
      refine gcv (As := [.inl (nI 5), .inl (nI a)]) (rest := []) rfl (by decide) y1 (mU_obj _ _ _) rfl rfl (by decide) ?_
      repeat (first | refine gkn rfl rfl ?_ | refine gkm rfl rfl ?_ | refine gad rfl ?_ | refine gml rfl ?_ | refine gsb rfl (by omega) ?_ | refine gdv rfl (by omega) (by omega) (by omega) ?_ | refine grm rfl (by omega) (by omega) (by omega) ?_ | refine gic rfl rfl ?_ | refine gp rfl rfl rfl ?_ | refine gFl rfl (by rfl) ?_ | refine gAl rfl rfl (by rfl) (by omega) ?_ | refine gBl rfl rfl (by rfl) (by omega) ?_)
      refine grv rfl (plain 5 a (by decide) ha ?_ I2 A2 y2 y3 y4 y5)
      unfold pMerge
      rw [if_pos e1]
  obtain ⟨r, σ', hex, rfl, I', A', rfl, g⟩ := ex_of (d := d + 4) (y := 121) (as := [.inr (some 52), .inl (nI o), .inl (nI a), .inl (nI b)]) (σ := mU σ I A) (K := K) (by decide) rfl main
  exact ⟨I', A', hex, g⟩
end REF
