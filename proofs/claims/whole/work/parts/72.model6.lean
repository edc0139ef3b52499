/-! MODULE: the reference: scores and questions -/
section REF
variable {σ : xS} {I : Nat → Int32} {A : Nat → Nat → Int32} {W : Nat → pT}
theorem pVc_s (l : List Int32) (v i : Nat) : pVc l v (i + 1) = pVc l v i + (if l.getD i 0 = nI v then 1 else 0) := by
  unfold pVc
  rw [pCnt_s]
  simp
theorem r_often (d : Nat) {t p v : Nat} (h : mV A W) (ht : t < 7) (hp : p < 64) : xEx (d + 2) 102 [.inr (some 52), .inl (nI t), .inl (nI p), .inl (nI v)] (mU σ I A) (some (.inl (nI (pVc (pLn (W t p)) v (pLn (W t p)).length)))) (mU σ I A) := by
  obtain ⟨g1, g2, g3, g4, g5⟩ := h t p ht hp
  have hr := rRm_le (t := t)
  refine ⟨by decide, rfl, ?_⟩
  show xGo (xEx (d + 1)) xtb_102 _ (0, [some (.inr (some 52)), some (.inl (nI t)), some (.inl (nI p)), some (.inl (nI v)), none, none], [], mU σ I A)
  generalize pLn (W t p) = l at *
  have loop : ∀ k i, i + k = l.length → xGo (xEx (d + 1)) xtb_102 (fun r0 σ0 => r0 = some (.inl (nI (pVc l v l.length))) ∧ σ0 = mU σ I A) (19, [some (.inr (some 52)), some (.inl (nI t)), some (.inl (nI p)), some (.inl (nI v)), some (.inl (nI (pVc l v i))), some (.inl (nI i))], [.inl (nI l.length), .inl (nI i)], mU σ I A) := by
    intro k
    induction k with
    | zero =>
      intro i hi
      obtain rfl : i = l.length := by omega
      first | refine gtN rfl (by omega) (by omega) (xN_ge (by omega)) ?_ | refine gtN rfl (by omega) (by omega) (xN_lt (by omega)) ?_ | refine gtN rfl (by omega) (by omega) (xN_eq (by omega)) ?_ | refine gtN rfl (by omega) (by omega) (xN_ne (by omega)) ?_ | refine gtN rfl (by omega) (by omega) (xN_gt (by omega)) ?_ | refine gtN rfl (by omega) (by omega) (xN_le (by omega)) ?_
      repeat (first | refine gkn rfl rfl ?_ | refine gkm rfl rfl ?_ | refine gad rfl ?_ | refine gml rfl ?_ | refine gsb rfl (by omega) ?_ | refine gdv rfl (by omega) (by omega) (by omega) ?_ | refine grm rfl (by omega) (by omega) (by omega) ?_ | refine gic rfl rfl ?_ | refine gp rfl rfl rfl ?_ | refine gFl rfl (by rfl) ?_ | refine gAl rfl rfl (by rfl) (by omega) ?_ | refine gBl rfl rfl (by rfl) (by omega) ?_)
      exact gri rfl (fun h => absurd h (by decide)) ⟨rfl, rfl⟩
    | succ k ih =>
      intro i hi
      have ih' := ih (i + 1) (by omega)
      rw [pVc_s l v i] at ih'
      have b1 := rSt_lt (j := i) ht hp (by omega)
      first | refine gfN rfl (by omega) (by omega) (nN_ge (by omega)) ?_ | refine gfN rfl (by omega) (by omega) (nN_lt (by omega)) ?_ | refine gfN rfl (by omega) (by omega) (nN_eq (by omega)) ?_ | refine gfN rfl (by omega) (by omega) (nN_ne (by omega)) ?_ | refine gfN rfl (by omega) (by omega) (nN_gt (by omega)) ?_ | refine gfN rfl (by omega) (by omega) (nN_le (by omega)) ?_
      repeat (first | refine gkn rfl rfl ?_ | refine gkm rfl rfl ?_ | refine gad rfl ?_ | refine gml rfl ?_ | refine gsb rfl (by omega) ?_ | refine gdv rfl (by omega) (by omega) (by omega) ?_ | refine grm rfl (by omega) (by omega) (by omega) ?_ | refine gic rfl rfl ?_ | refine gp rfl rfl rfl ?_ | refine gFl rfl (by rfl) ?_ | refine gAl rfl rfl (by rfl) (by omega) ?_ | refine gBl rfl rfl (by rfl) (by omega) ?_)
      refine gcs (As := [.inl (nI t), .inl (nI p)]) (rest := [.inr (some 55)]) rfl (by decide) (m_start d ht hp) rfl rfl (Nat.le_of_ble_eq_true rfl) ?_
      repeat (first | refine gkn rfl rfl ?_ | refine gkm rfl rfl ?_ | refine gad rfl ?_ | refine gml rfl ?_ | refine gsb rfl (by omega) ?_ | refine gdv rfl (by omega) (by omega) (by omega) ?_ | refine grm rfl (by omega) (by omega) (by omega) ?_ | refine gic rfl rfl ?_ | refine gp rfl rfl rfl ?_ | refine gFl rfl (by rfl) ?_ | refine gAl rfl rfl (by rfl) (by omega) ?_ | refine gBl rfl rfl (by rfl) (by omega) ?_)
      rw [g5 i (by omega)]
      refine gcp rfl (fun hne => ?_) (fun heq => ?_)
      · have hne : ¬ l.getD i 0 = nI v := hne
        rw [if_neg hne] at ih'
        repeat (first | refine gkn rfl rfl ?_ | refine gkm rfl rfl ?_ | refine gad rfl ?_ | refine gml rfl ?_ | refine gsb rfl (by omega) ?_ | refine gdv rfl (by omega) (by omega) (by omega) ?_ | refine grm rfl (by omega) (by omega) (by omega) ?_ | refine gic rfl rfl ?_ | refine gp rfl rfl rfl ?_ | refine gFl rfl (by rfl) ?_ | refine gAl rfl rfl (by rfl) (by omega) ?_ | refine gBl rfl rfl (by rfl) (by omega) ?_)
        rw [g2]
        exact ih'
      · have heq : l.getD i 0 = nI v := by
          by_cases z : l.getD i 0 = nI v
          · exact z
          · exact absurd z heq
        rw [if_pos heq] at ih'
        repeat (first | refine gkn rfl rfl ?_ | refine gkm rfl rfl ?_ | refine gad rfl ?_ | refine gml rfl ?_ | refine gsb rfl (by omega) ?_ | refine gdv rfl (by omega) (by omega) (by omega) ?_ | refine grm rfl (by omega) (by omega) (by omega) ?_ | refine gic rfl rfl ?_ | refine gp rfl rfl rfl ?_ | refine gFl rfl (by rfl) ?_ | refine gAl rfl rfl (by rfl) (by omega) ?_ | refine gBl rfl rfl (by rfl) (by omega) ?_)
        rw [g2]
        exact ih'
  repeat (first | refine gkn rfl rfl ?_ | refine gkm rfl rfl ?_ | refine gad rfl ?_ | refine gml rfl ?_ | refine gsb rfl (by omega) ?_ | refine gdv rfl (by omega) (by omega) (by omega) ?_ | refine grm rfl (by omega) (by omega) (by omega) ?_ | refine gic rfl rfl ?_ | refine gp rfl rfl rfl ?_ | refine gFl rfl (by rfl) ?_ | refine gAl rfl rfl (by rfl) (by omega) ?_ | refine gBl rfl rfl (by rfl) (by omega) ?_)
  rw [g2]
  exact loop l.length 0 (Nat.zero_add _)
theorem pVc_le (l : List Int32) (v n : Nat) : pVc l v n ≤ n := pCnt_le _ _
theorem pShare_le76 (l1 l2 : List Int32) (h : l1.length ≤ 76) : pShare l1 l2 ≤ 1444 := by
  refine Nat.le_trans (pSum_le (c := 76) (fun v _ _ => ?_)) (by decide)
  exact Nat.le_trans (Nat.min_le_left _ _) (Nat.le_trans (pCnt_le _ _) h)
theorem r_likeness (d : Nat) {s p q : Nat} (h : mV A W) (hs : s < 3) (hp : p < 64) (hq : q < 64) : xEx (d + 3) 101 [.inr (some 52), .inl (nI s), .inl (nI p), .inl (nI q)] (mU σ I A) (some (.inl (if max (pLn (W 0 p)).length (pLn (W s q)).length = 0 then 0 else nI (100 * pShare (pLn (W 0 p)) (pLn (W s q)) / max (pLn (W 0 p)).length (pLn (W s q)).length)))) (mU σ I A) := by
  obtain ⟨-, a2, a3, -, -⟩ := h 0 p (by decide) hp
  obtain ⟨-, c2, c3, -, -⟩ := h s q (by omega) hq
  have hr := rRm_le (t := 0)
  have hr2 := rRm_le (t := s)
  have a2 : A 54 p = nI (pLn (W 0 p)).length := by simpa using a2
  have o1 : ∀ v, xEx (d + 2) 102 [.inr (some 52), .inl (nI 0), .inl (nI p), .inl (nI v)] (mU σ I A) (some (.inl (nI (pVc (pLn (W 0 p)) v (pLn (W 0 p)).length)))) (mU σ I A) := fun v => r_often d h (by decide) hp
  have o2 : ∀ v, xEx (d + 2) 102 [.inr (some 52), .inl (nI s), .inl (nI q), .inl (nI v)] (mU σ I A) (some (.inl (nI (pVc (pLn (W s q)) v (pLn (W s q)).length)))) (mU σ I A) := fun v => r_often d h (by omega) hq
  generalize pLn (W 0 p) = l1 at *
  generalize pLn (W s q) = l2 at *
  have hshare := pShare_le76 l1 l2 (by omega)
  refine ⟨by decide, rfl, ?_⟩
  show xGo (xEx (d + 2)) xtb_101 _ (0, [some (.inr (some 52)), some (.inl (nI s)), some (.inl (nI p)), some (.inl (nI q)), none, none, none, none, none, none, none], [], mU σ I A)
  have loop : ∀ k w (x y : Option xV), w + k = 19 → xGo (xEx (d + 2)) xtb_101 (fun r0 σ0 => r0 = some (.inl (if max l1.length l2.length = 0 then 0 else nI (100 * pShare l1 l2 / max l1.length l2.length))) ∧ σ0 = mU σ I A) (47, [some (.inr (some 52)), some (.inl (nI s)), some (.inl (nI p)), some (.inl (nI q)), some (.inl (nI l1.length)), some (.inl (nI l2.length)), some (.inl (nI (max l1.length l2.length))), some (.inl (nI (pSum (fun v => min (pVc l1 v l1.length) (pVc l2 v l2.length)) w))), some (.inl (nI (w + 1))), x, y], [.inl (nI 19), .inl (nI (w + 1))], mU σ I A) := by
    intro k
    induction k with
    | zero =>
      intro w x y hw
      obtain rfl : w = 19 := by omega
      first | refine gtN rfl (by omega) (by omega) (xN_ge (by omega)) ?_ | refine gtN rfl (by omega) (by omega) (xN_lt (by omega)) ?_ | refine gtN rfl (by omega) (by omega) (xN_eq (by omega)) ?_ | refine gtN rfl (by omega) (by omega) (xN_ne (by omega)) ?_ | refine gtN rfl (by omega) (by omega) (xN_gt (by omega)) ?_ | refine gtN rfl (by omega) (by omega) (xN_le (by omega)) ?_
      repeat (first | refine gkn rfl rfl ?_ | refine gkm rfl rfl ?_ | refine gad rfl ?_ | refine gml rfl ?_ | refine gsb rfl (by omega) ?_ | refine gdv rfl (by omega) (by omega) (by omega) ?_ | refine grm rfl (by omega) (by omega) (by omega) ?_ | refine gic rfl rfl ?_ | refine gp rfl rfl rfl ?_ | refine gFl rfl (by rfl) ?_ | refine gAl rfl rfl (by rfl) (by omega) ?_ | refine gBl rfl rfl (by rfl) (by omega) ?_)
      by_cases hm : max l1.length l2.length = 0
      · first | refine gf0 rfl (by omega) (nN_ge (by omega)) ?_ | refine gf0 rfl (by omega) (nN_lt (by omega)) ?_ | refine gf0 rfl (by omega) (nN_eq (by omega)) ?_ | refine gf0 rfl (by omega) (nN_ne (by omega)) ?_ | refine gf0 rfl (by omega) (nN_gt (by omega)) ?_ | refine gf0 rfl (by omega) (nN_le (by omega)) ?_
        repeat (first | refine gkn rfl rfl ?_ | refine gkm rfl rfl ?_ | refine gad rfl ?_ | refine gml rfl ?_ | refine gsb rfl (by omega) ?_ | refine gdv rfl (by omega) (by omega) (by omega) ?_ | refine grm rfl (by omega) (by omega) (by omega) ?_ | refine gic rfl rfl ?_ | refine gp rfl rfl rfl ?_ | refine gFl rfl (by rfl) ?_ | refine gAl rfl rfl (by rfl) (by omega) ?_ | refine gBl rfl rfl (by rfl) (by omega) ?_)
        exact gri rfl (fun h => absurd h (by decide)) ⟨by rw [if_pos hm]; rfl, rfl⟩
      · first | refine gt0 rfl (by omega) (xN_ge (by omega)) ?_ | refine gt0 rfl (by omega) (xN_lt (by omega)) ?_ | refine gt0 rfl (by omega) (xN_eq (by omega)) ?_ | refine gt0 rfl (by omega) (xN_ne (by omega)) ?_ | refine gt0 rfl (by omega) (xN_gt (by omega)) ?_ | refine gt0 rfl (by omega) (xN_le (by omega)) ?_
        have hb : 100 * pSum (fun v => min (pVc l1 v l1.length) (pVc l2 v l2.length)) 19 < 2147483648 := by
          have : pSum (fun v => min (pVc l1 v l1.length) (pVc l2 v l2.length)) 19 = pShare l1 l2 := rfl
          omega
        repeat (first | refine gkn rfl rfl ?_ | refine gkm rfl rfl ?_ | refine gad rfl ?_ | refine gml rfl ?_ | refine gsb rfl (by omega) ?_ | refine gdv rfl (by omega) (by omega) (by omega) ?_ | refine grm rfl (by omega) (by omega) (by omega) ?_ | refine gic rfl rfl ?_ | refine gp rfl rfl rfl ?_ | refine gFl rfl (by rfl) ?_ | refine gAl rfl rfl (by rfl) (by omega) ?_ | refine gBl rfl rfl (by rfl) (by omega) ?_)
        exact gri rfl (fun h => absurd h (by decide)) ⟨by rw [if_neg hm]; rfl, rfl⟩
    | succ k ih =>
      intro w x y hw
      have v1 := pVc_le l1 (w + 1) l1.length
      have v2 := pVc_le l2 (w + 1) l2.length
      first | refine gfN rfl (by omega) (by omega) (nN_ge (by omega)) ?_ | refine gfN rfl (by omega) (by omega) (nN_lt (by omega)) ?_ | refine gfN rfl (by omega) (by omega) (nN_eq (by omega)) ?_ | refine gfN rfl (by omega) (by omega) (nN_ne (by omega)) ?_ | refine gfN rfl (by omega) (by omega) (nN_gt (by omega)) ?_ | refine gfN rfl (by omega) (by omega) (nN_le (by omega)) ?_
      repeat (first | refine gkn rfl rfl ?_ | refine gkm rfl rfl ?_ | refine gad rfl ?_ | refine gml rfl ?_ | refine gsb rfl (by omega) ?_ | refine gdv rfl (by omega) (by omega) (by omega) ?_ | refine grm rfl (by omega) (by omega) (by omega) ?_ | refine gic rfl rfl ?_ | refine gp rfl rfl rfl ?_ | refine gFl rfl (by rfl) ?_ | refine gAl rfl rfl (by rfl) (by omega) ?_ | refine gBl rfl rfl (by rfl) (by omega) ?_)
      refine gcv (As := [.inl (nI 0), .inl (nI p), .inl (nI (w + 1))]) (rest := []) rfl (by decide) (o1 (w + 1)) (mU_obj _ _ _) rfl rfl (by decide) ?_
      repeat (first | refine gkn rfl rfl ?_ | refine gkm rfl rfl ?_ | refine gad rfl ?_ | refine gml rfl ?_ | refine gsb rfl (by omega) ?_ | refine gdv rfl (by omega) (by omega) (by omega) ?_ | refine grm rfl (by omega) (by omega) (by omega) ?_ | refine gic rfl rfl ?_ | refine gp rfl rfl rfl ?_ | refine gFl rfl (by rfl) ?_ | refine gAl rfl rfl (by rfl) (by omega) ?_ | refine gBl rfl rfl (by rfl) (by omega) ?_)
      refine gcv (As := [.inl (nI s), .inl (nI q), .inl (nI (w + 1))]) (rest := []) rfl (by decide) (o2 (w + 1)) (mU_obj _ _ _) rfl rfl (by decide) ?_
      repeat (first | refine gkn rfl rfl ?_ | refine gkm rfl rfl ?_ | refine gad rfl ?_ | refine gml rfl ?_ | refine gsb rfl (by omega) ?_ | refine gdv rfl (by omega) (by omega) (by omega) ?_ | refine grm rfl (by omega) (by omega) (by omega) ?_ | refine gic rfl rfl ?_ | refine gp rfl rfl rfl ?_ | refine gFl rfl (by rfl) ?_ | refine gAl rfl rfl (by rfl) (by omega) ?_ | refine gBl rfl rfl (by rfl) (by omega) ?_)
      have fin := fun x y => ih (w + 1) x y (by omega)
      have e : pSum (fun v => min (pVc l1 v l1.length) (pVc l2 v l2.length)) (w + 1) = pSum (fun v => min (pVc l1 v l1.length) (pVc l2 v l2.length)) w + min (pVc l1 (w + 1) l1.length) (pVc l2 (w + 1) l2.length) := rfl
      rw [e] at fin
      refine gcN rfl (by omega) (by omega) (fun hge => ?_) (fun hlt => ?_)
      · have hge : pVc l2 (w + 1) l2.length ≤ pVc l1 (w + 1) l1.length := hge
        rw [Nat.min_eq_right hge] at fin
        repeat (first | refine gkn rfl rfl ?_ | refine gkm rfl rfl ?_ | refine gad rfl ?_ | refine gml rfl ?_ | refine gsb rfl (by omega) ?_ | refine gdv rfl (by omega) (by omega) (by omega) ?_ | refine grm rfl (by omega) (by omega) (by omega) ?_ | refine gic rfl rfl ?_ | refine gp rfl rfl rfl ?_ | refine gFl rfl (by rfl) ?_ | refine gAl rfl rfl (by rfl) (by omega) ?_ | refine gBl rfl rfl (by rfl) (by omega) ?_)
        exact fin _ _
      · have hlt : ¬ pVc l2 (w + 1) l2.length ≤ pVc l1 (w + 1) l1.length := hlt
        rw [Nat.min_eq_left (by omega)] at fin
        repeat (first | refine gkn rfl rfl ?_ | refine gkm rfl rfl ?_ | refine gad rfl ?_ | refine gml rfl ?_ | refine gsb rfl (by omega) ?_ | refine gdv rfl (by omega) (by omega) (by omega) ?_ | refine grm rfl (by omega) (by omega) (by omega) ?_ | refine gic rfl rfl ?_ | refine gp rfl rfl rfl ?_ | refine gFl rfl (by rfl) ?_ | refine gAl rfl rfl (by rfl) (by omega) ?_ | refine gBl rfl rfl (by rfl) (by omega) ?_)
        exact fin _ _
  repeat (first | refine gkn rfl rfl ?_ | refine gkm rfl rfl ?_ | refine gad rfl ?_ | refine gml rfl ?_ | refine gsb rfl (by omega) ?_ | refine gdv rfl (by omega) (by omega) (by omega) ?_ | refine grm rfl (by omega) (by omega) (by omega) ?_ | refine gic rfl rfl ?_ | refine gp rfl rfl rfl ?_ | refine gFl rfl (by rfl) ?_ | refine gAl rfl rfl (by rfl) (by omega) ?_ | refine gBl rfl rfl (by rfl) (by omega) ?_)
  rw [a2, c2]
  refine gcN rfl (by omega) (by omega) (fun hle => ?_) (fun hgt => ?_)
  · have hle : l1.length ≤ l2.length := hle
    rw [Nat.max_eq_right hle] at *
    repeat (first | refine gkn rfl rfl ?_ | refine gkm rfl rfl ?_ | refine gad rfl ?_ | refine gml rfl ?_ | refine gsb rfl (by omega) ?_ | refine gdv rfl (by omega) (by omega) (by omega) ?_ | refine grm rfl (by omega) (by omega) (by omega) ?_ | refine gic rfl rfl ?_ | refine gp rfl rfl rfl ?_ | refine gFl rfl (by rfl) ?_ | refine gAl rfl rfl (by rfl) (by omega) ?_ | refine gBl rfl rfl (by rfl) (by omega) ?_)
    exact loop 19 0 none none rfl
  · have hgt : ¬ l1.length ≤ l2.length := hgt
    rw [Nat.max_eq_left (by omega)] at *
    repeat (first | refine gkn rfl rfl ?_ | refine gkm rfl rfl ?_ | refine gad rfl ?_ | refine gml rfl ?_ | refine gsb rfl (by omega) ?_ | refine gdv rfl (by omega) (by omega) (by omega) ?_ | refine grm rfl (by omega) (by omega) (by omega) ?_ | refine gic rfl rfl ?_ | refine gp rfl rfl rfl ?_ | refine gFl rfl (by rfl) ?_ | refine gAl rfl rfl (by rfl) (by omega) ?_ | refine gBl rfl rfl (by rfl) (by omega) ?_)
    exact loop 19 0 none none rfl
theorem pScore_none (F : Option pF) : pScore none F = -1 := by cases F <;> rfl
theorem pScore_none2 (F : Option pF) : pScore F none = -1 := by
  cases F with
  | none => rfl
  | some F => obtain ⟨b, l⟩ := F; cases b <;> rfl
theorem r_score (d : Nat) {s p q : Nat} (h : mV A W) (hs : s = 1 ∨ s = 2) (hp : p < 64) (hq : q < 64) : xEx (d + 4) 100 [.inr (some 52), .inl (nI s), .inl (nI p), .inl (nI q)] (mU σ I A) (some (.inl (pScore (W 0 p) (W s q)))) (mU σ I A) := by
  obtain ⟨a1, -⟩ := h 0 p (by decide) hp
  obtain ⟨c1, -⟩ := h s q (by omega) hq
  have a1 : A 53 p = nI (pK (W 0 p)) := by simpa using a1
  have k1 := pK_le (W 0 p)
  have k2 := pK_le (W s q)
  refine ⟨by decide, rfl, ?_⟩
  show xGo (xEx (d + 3)) xtb_100 _ (0, [some (.inr (some 52)), some (.inl (nI s)), some (.inl (nI p)), some (.inl (nI q))], [], mU σ I A)
  repeat (first | refine gkn rfl rfl ?_ | refine gkm rfl rfl ?_ | refine gad rfl ?_ | refine gml rfl ?_ | refine gsb rfl (by omega) ?_ | refine gdv rfl (by omega) (by omega) (by omega) ?_ | refine grm rfl (by omega) (by omega) (by omega) ?_ | refine gic rfl rfl ?_ | refine gp rfl rfl rfl ?_ | refine gFl rfl (by rfl) ?_ | refine gAl rfl rfl (by rfl) (by omega) ?_ | refine gBl rfl rfl (by rfl) (by omega) ?_ | refine gfN rfl (by omega) (by omega) (nN_ge (by omega)) ?_ | refine gfN rfl (by omega) (by omega) (nN_lt (by omega)) ?_ | refine gfN rfl (by omega) (by omega) (nN_eq (by omega)) ?_ | refine gfN rfl (by omega) (by omega) (nN_ne (by omega)) ?_ | refine gfN rfl (by omega) (by omega) (nN_gt (by omega)) ?_ | refine gfN rfl (by omega) (by omega) (nN_le (by omega)) ?_ | refine gtN rfl (by omega) (by omega) (xN_ge (by omega)) ?_ | refine gtN rfl (by omega) (by omega) (xN_lt (by omega)) ?_ | refine gtN rfl (by omega) (by omega) (xN_eq (by omega)) ?_ | refine gtN rfl (by omega) (by omega) (xN_ne (by omega)) ?_ | refine gtN rfl (by omega) (by omega) (xN_gt (by omega)) ?_ | refine gtN rfl (by omega) (by omega) (xN_le (by omega)) ?_ | refine gf0 rfl (by omega) (nN_ge (by omega)) ?_ | refine gf0 rfl (by omega) (nN_lt (by omega)) ?_ | refine gf0 rfl (by omega) (nN_eq (by omega)) ?_ | refine gf0 rfl (by omega) (nN_ne (by omega)) ?_ | refine gf0 rfl (by omega) (nN_gt (by omega)) ?_ | refine gf0 rfl (by omega) (nN_le (by omega)) ?_ | refine gt0 rfl (by omega) (xN_ge (by omega)) ?_ | refine gt0 rfl (by omega) (xN_lt (by omega)) ?_ | refine gt0 rfl (by omega) (xN_eq (by omega)) ?_ | refine gt0 rfl (by omega) (xN_ne (by omega)) ?_ | refine gt0 rfl (by omega) (xN_gt (by omega)) ?_ | refine gt0 rfl (by omega) (xN_le (by omega)) ?_)
  refine gcv (As := [.inl (nI 0), .inl (nI p)]) (rest := []) rfl (by decide) (r_has (d + 2) h (by decide) hp) (mU_obj _ _ _) rfl rfl (by decide) ?_
  refine gbe rfl (fun hz => ?_) (fun hz => ?_)
  · repeat (first | refine gkn rfl rfl ?_ | refine gkm rfl rfl ?_ | refine gad rfl ?_ | refine gml rfl ?_ | refine gsb rfl (by omega) ?_ | refine gdv rfl (by omega) (by omega) (by omega) ?_ | refine grm rfl (by omega) (by omega) (by omega) ?_ | refine gic rfl rfl ?_ | refine gp rfl rfl rfl ?_ | refine gFl rfl (by rfl) ?_ | refine gAl rfl rfl (by rfl) (by omega) ?_ | refine gBl rfl rfl (by rfl) (by omega) ?_)
    refine gri rfl (fun h => absurd h (by decide)) ⟨?_, rfl⟩
    cases hw : W 0 p with
    | none => rw [pScore_none]
    | some F => rw [hw] at hz; cases hz
  · repeat (first | refine gkn rfl rfl ?_ | refine gkm rfl rfl ?_ | refine gad rfl ?_ | refine gml rfl ?_ | refine gsb rfl (by omega) ?_ | refine gdv rfl (by omega) (by omega) (by omega) ?_ | refine grm rfl (by omega) (by omega) (by omega) ?_ | refine gic rfl rfl ?_ | refine gp rfl rfl rfl ?_ | refine gFl rfl (by rfl) ?_ | refine gAl rfl rfl (by rfl) (by omega) ?_ | refine gBl rfl rfl (by rfl) (by omega) ?_)
    refine gcv (As := [.inl (nI s), .inl (nI q)]) (rest := []) rfl (by decide) (r_has (d + 2) h (by omega) hq) (mU_obj _ _ _) rfl rfl (by decide) ?_
    refine gbn rfl (fun hz2 => ?_) (fun hz2 => ?_)
    · have lk := r_likeness (σ := σ) (I := I) d (s := s) h (by omega) hp hq
      cases hw : W 0 p with
      | none => rw [hw] at hz; cases hz
      | some F =>
        cases hw2 : W s q with
        | none => rw [hw2] at hz2; cases hz2
        | some G =>
          rw [hw] at lk a1
          rw [hw2] at lk c1
          obtain ⟨b, l⟩ := F
          obtain ⟨b', l'⟩ := G
          repeat (first | refine gkn rfl rfl ?_ | refine gkm rfl rfl ?_ | refine gad rfl ?_ | refine gml rfl ?_ | refine gsb rfl (by omega) ?_ | refine gdv rfl (by omega) (by omega) (by omega) ?_ | refine grm rfl (by omega) (by omega) (by omega) ?_ | refine gic rfl rfl ?_ | refine gp rfl rfl rfl ?_ | refine gFl rfl (by rfl) ?_ | refine gAl rfl rfl (by rfl) (by omega) ?_ | refine gBl rfl rfl (by rfl) (by omega) ?_)
          rw [a1]
          cases b with
          | true =>
            refine gtN rfl (show 2 < 2147483648 by decide) (by decide) (show ¬ 2 = 1 by decide) ?_
            repeat (first | refine gkn rfl rfl ?_ | refine gkm rfl rfl ?_ | refine gad rfl ?_ | refine gml rfl ?_ | refine gsb rfl (by omega) ?_ | refine gdv rfl (by omega) (by omega) (by omega) ?_ | refine grm rfl (by omega) (by omega) (by omega) ?_ | refine gic rfl rfl ?_ | refine gp rfl rfl rfl ?_ | refine gFl rfl (by rfl) ?_ | refine gAl rfl rfl (by rfl) (by omega) ?_ | refine gBl rfl rfl (by rfl) (by omega) ?_)
            exact gri rfl (fun h => absurd h (by decide)) ⟨rfl, rfl⟩
          | false =>
            refine gfN rfl (show 1 < 2147483648 by decide) (by decide) (show ¬ ¬ 1 = 1 by decide) ?_
            repeat (first | refine gkn rfl rfl ?_ | refine gkm rfl rfl ?_ | refine gad rfl ?_ | refine gml rfl ?_ | refine gsb rfl (by omega) ?_ | refine gdv rfl (by omega) (by omega) (by omega) ?_ | refine grm rfl (by omega) (by omega) (by omega) ?_ | refine gic rfl rfl ?_ | refine gp rfl rfl rfl ?_ | refine gFl rfl (by rfl) ?_ | refine gAl rfl rfl (by rfl) (by omega) ?_ | refine gBl rfl rfl (by rfl) (by omega) ?_)
            rw [c1]
            cases b' with
            | true =>
              refine gtN rfl (show 2 < 2147483648 by decide) (by decide) (show ¬ 2 = 1 by decide) ?_
              repeat (first | refine gkn rfl rfl ?_ | refine gkm rfl rfl ?_ | refine gad rfl ?_ | refine gml rfl ?_ | refine gsb rfl (by omega) ?_ | refine gdv rfl (by omega) (by omega) (by omega) ?_ | refine grm rfl (by omega) (by omega) (by omega) ?_ | refine gic rfl rfl ?_ | refine gp rfl rfl rfl ?_ | refine gFl rfl (by rfl) ?_ | refine gAl rfl rfl (by rfl) (by omega) ?_ | refine gBl rfl rfl (by rfl) (by omega) ?_)
              exact gri rfl (fun h => absurd h (by decide)) ⟨rfl, rfl⟩
            | false =>
              refine gfN rfl (show 1 < 2147483648 by decide) (by decide) (show ¬ ¬ 1 = 1 by decide) ?_
              repeat (first | refine gkn rfl rfl ?_ | refine gkm rfl rfl ?_ | refine gad rfl ?_ | refine gml rfl ?_ | refine gsb rfl (by omega) ?_ | refine gdv rfl (by omega) (by omega) (by omega) ?_ | refine grm rfl (by omega) (by omega) (by omega) ?_ | refine gic rfl rfl ?_ | refine gp rfl rfl rfl ?_ | refine gFl rfl (by rfl) ?_ | refine gAl rfl rfl (by rfl) (by omega) ?_ | refine gBl rfl rfl (by rfl) (by omega) ?_)
              refine gcv (As := [.inl (nI s), .inl (nI p), .inl (nI q)]) (rest := []) rfl (by decide) lk (mU_obj _ _ _) rfl rfl (by decide) ?_
              repeat (first | refine gkn rfl rfl ?_ | refine gkm rfl rfl ?_ | refine gad rfl ?_ | refine gml rfl ?_ | refine gsb rfl (by omega) ?_ | refine gdv rfl (by omega) (by omega) (by omega) ?_ | refine grm rfl (by omega) (by omega) (by omega) ?_ | refine gic rfl rfl ?_ | refine gp rfl rfl rfl ?_ | refine gFl rfl (by rfl) ?_ | refine gAl rfl rfl (by rfl) (by omega) ?_ | refine gBl rfl rfl (by rfl) (by omega) ?_)
              exact gri rfl (fun h => absurd h (by decide)) ⟨rfl, rfl⟩
    · repeat (first | refine gkn rfl rfl ?_ | refine gkm rfl rfl ?_ | refine gad rfl ?_ | refine gml rfl ?_ | refine gsb rfl (by omega) ?_ | refine gdv rfl (by omega) (by omega) (by omega) ?_ | refine grm rfl (by omega) (by omega) (by omega) ?_ | refine gic rfl rfl ?_ | refine gp rfl rfl rfl ?_ | refine gFl rfl (by rfl) ?_ | refine gAl rfl rfl (by rfl) (by omega) ?_ | refine gBl rfl rfl (by rfl) (by omega) ?_)
      refine gri rfl (fun h => absurd h (by decide)) ⟨?_, rfl⟩
      cases hw : W s q with
      | none => rw [pScore_none2]
      | some F => rw [hw] at hz2; cases hz2
theorem wAt_lt {W : Nat → pT} {t : Nat} (h : t < 7) (y : Int32) : wAt W (nI t) y = aAt (W t) y := by
  unfold wAt aAt
  rw [oN_3_7 h]
  cases oN 64 y <;> rfl
theorem aAt_lt {T : pT} {p : Nat} (h : p < 64) : aAt T (nI p) = T p := by
  unfold aAt
  rcases oN_cases (n := 64) (by decide) (nI p) with ⟨j, hj, e, e2⟩ | ⟨hn, -⟩
  · rw [e2, (nI_eq (by omega) (by omega)).mp e]
  · exact absurd ⟨nI_pos' (by omega), nI_lt h (by decide)⟩ hn
theorem side_cases (x : Int32) : (∃ s, (s = 1 ∨ s = 2) ∧ x = nI s) ∨ (¬ x = nI 1 ∧ ¬ x = nI 2 ∧ (x < nI 1 ∨ nI 2 < x)) := by
  by_cases h1 : x = nI 1
  · exact Or.inl ⟨1, Or.inl rfl, h1⟩
  by_cases h2 : x = nI 2
  · exact Or.inl ⟨2, Or.inr rfl, h2⟩
  refine Or.inr ⟨h1, h2, ?_⟩
  by_cases h0 : x < 0
  · exact Or.inl (Int32.lt_trans h0 (nI_lt (a := 0) (b := 1) (by decide) (by decide)))
  · obtain ⟨j, hj, rfl⟩ := nI_of h0
    have e1 : j ≠ 1 := fun z => h1 (by rw [z])
    have e2 : j ≠ 2 := fun z => h2 (by rw [z])
    rcases Nat.lt_or_ge j 1 with g | g
    · exact Or.inl (nI_lt g (by decide))
    · exact Or.inr (nI_lt (by omega) hj)
theorem aSide_s {α : Type} {s : Nat} (h : s = 1 ∨ s = 2) (f : Nat → α) (c : α) : aSide (nI s) (f 1) (f 2) c = f s := by
  rcases h with rfl | rfl
  · unfold aSide; rw [if_pos rfl]
  · unfold aSide; rw [if_neg (by decide), if_pos rfl]
theorem aSide_no {α : Type} {x : Int32} (h1 : ¬ x = nI 1) (h2 : ¬ x = nI 2) (a b c : α) : aSide x a b c = c := by
  unfold aSide; rw [if_neg h1, if_neg h2]
theorem r_scoreX (d : Nat) (h : mV A W) (x y z : Int32) : xEx (d + 4) 100 [.inr (some 52), .inl x, .inl y, .inl z] (mU σ I A) (some (.inl (aSide x (pScore (aAt (W 0) y) (aAt (W 1) z)) (pScore (aAt (W 0) y) (aAt (W 2) z)) (-1)))) (mU σ I A) := by
  rcases side_cases x with ⟨s, hs, rfl⟩ | ⟨h1, h2, h3⟩
  · rw [aSide_s hs (fun s => pScore (aAt (W 0) y) (aAt (W s) z))]
    rcases oN_cases (n := 64) (by decide) y with ⟨p, hp, rfl, e1⟩ | ⟨hn, e1⟩
    · rcases oN_cases (n := 64) (by decide) z with ⟨q, hq, rfl, e2⟩ | ⟨hn2, e2⟩
      · rw [aAt_lt hp, aAt_lt hq]
        exact r_score d h hs hp hq
      · have e3 : aAt (W s) z = none := by unfold aAt; rw [e2]
        have e4 := r_hasX (σ := σ) (I := I) (d + 2) (x := nI s) (y := z) h
        rw [wAt_lt (by omega), e3] at e4
        rw [e3, pScore_none2]
        refine ⟨by decide, rfl, ?_⟩
        show xGo (xEx (d + 3)) xtb_100 _ (0, [some (.inr (some 52)), some (.inl (nI s)), some (.inl (nI p)), some (.inl z)], [], mU σ I A)
        repeat (first | refine gkn rfl rfl ?_ | refine gkm rfl rfl ?_ | refine gad rfl ?_ | refine gml rfl ?_ | refine gsb rfl (by omega) ?_ | refine gdv rfl (by omega) (by omega) (by omega) ?_ | refine grm rfl (by omega) (by omega) (by omega) ?_ | refine gic rfl rfl ?_ | refine gp rfl rfl rfl ?_ | refine gFl rfl (by rfl) ?_ | refine gAl rfl rfl (by rfl) (by omega) ?_ | refine gBl rfl rfl (by rfl) (by omega) ?_ | refine gfN rfl (by omega) (by omega) (nN_ge (by omega)) ?_ | refine gfN rfl (by omega) (by omega) (nN_lt (by omega)) ?_ | refine gfN rfl (by omega) (by omega) (nN_eq (by omega)) ?_ | refine gfN rfl (by omega) (by omega) (nN_ne (by omega)) ?_ | refine gfN rfl (by omega) (by omega) (nN_gt (by omega)) ?_ | refine gfN rfl (by omega) (by omega) (nN_le (by omega)) ?_ | refine gtN rfl (by omega) (by omega) (xN_ge (by omega)) ?_ | refine gtN rfl (by omega) (by omega) (xN_lt (by omega)) ?_ | refine gtN rfl (by omega) (by omega) (xN_eq (by omega)) ?_ | refine gtN rfl (by omega) (by omega) (xN_ne (by omega)) ?_ | refine gtN rfl (by omega) (by omega) (xN_gt (by omega)) ?_ | refine gtN rfl (by omega) (by omega) (xN_le (by omega)) ?_ | refine gf0 rfl (by omega) (nN_ge (by omega)) ?_ | refine gf0 rfl (by omega) (nN_lt (by omega)) ?_ | refine gf0 rfl (by omega) (nN_eq (by omega)) ?_ | refine gf0 rfl (by omega) (nN_ne (by omega)) ?_ | refine gf0 rfl (by omega) (nN_gt (by omega)) ?_ | refine gf0 rfl (by omega) (nN_le (by omega)) ?_ | refine gt0 rfl (by omega) (xN_ge (by omega)) ?_ | refine gt0 rfl (by omega) (xN_lt (by omega)) ?_ | refine gt0 rfl (by omega) (xN_eq (by omega)) ?_ | refine gt0 rfl (by omega) (xN_ne (by omega)) ?_ | refine gt0 rfl (by omega) (xN_gt (by omega)) ?_ | refine gt0 rfl (by omega) (xN_le (by omega)) ?_)
        refine gcv (As := [.inl (nI 0), .inl (nI p)]) (rest := []) rfl (by decide) (r_has (d + 2) h (by decide) hp) (mU_obj _ _ _) rfl rfl (by decide) ?_
        refine gbe rfl (fun hz => ?_) (fun hz => ?_)
        · repeat (first | refine gkn rfl rfl ?_ | refine gkm rfl rfl ?_ | refine gad rfl ?_ | refine gml rfl ?_ | refine gsb rfl (by omega) ?_ | refine gdv rfl (by omega) (by omega) (by omega) ?_ | refine grm rfl (by omega) (by omega) (by omega) ?_ | refine gic rfl rfl ?_ | refine gp rfl rfl rfl ?_ | refine gFl rfl (by rfl) ?_ | refine gAl rfl rfl (by rfl) (by omega) ?_ | refine gBl rfl rfl (by rfl) (by omega) ?_)
          exact gri rfl (fun h => absurd h (by decide)) ⟨rfl, rfl⟩
        · repeat (first | refine gkn rfl rfl ?_ | refine gkm rfl rfl ?_ | refine gad rfl ?_ | refine gml rfl ?_ | refine gsb rfl (by omega) ?_ | refine gdv rfl (by omega) (by omega) (by omega) ?_ | refine grm rfl (by omega) (by omega) (by omega) ?_ | refine gic rfl rfl ?_ | refine gp rfl rfl rfl ?_ | refine gFl rfl (by rfl) ?_ | refine gAl rfl rfl (by rfl) (by omega) ?_ | refine gBl rfl rfl (by rfl) (by omega) ?_)
          refine gcv (As := [.inl (nI s), .inl z]) (rest := []) rfl (by decide) e4 (mU_obj _ _ _) rfl rfl (by decide) ?_
          refine gbn rfl (fun hz2 => by cases hz2) (fun hz2 => ?_)
          repeat (first | refine gkn rfl rfl ?_ | refine gkm rfl rfl ?_ | refine gad rfl ?_ | refine gml rfl ?_ | refine gsb rfl (by omega) ?_ | refine gdv rfl (by omega) (by omega) (by omega) ?_ | refine grm rfl (by omega) (by omega) (by omega) ?_ | refine gic rfl rfl ?_ | refine gp rfl rfl rfl ?_ | refine gFl rfl (by rfl) ?_ | refine gAl rfl rfl (by rfl) (by omega) ?_ | refine gBl rfl rfl (by rfl) (by omega) ?_)
          exact gri rfl (fun h => absurd h (by decide)) ⟨rfl, rfl⟩
    · have e3 : aAt (W 0) y = none := by unfold aAt; rw [e1]
      have e4 := r_hasX (σ := σ) (I := I) (d + 2) (x := nI 0) (y := y) h
      rw [wAt_lt (by omega), e3] at e4
      rw [e3, pScore_none]
      refine ⟨by decide, rfl, ?_⟩
      show xGo (xEx (d + 3)) xtb_100 _ (0, [some (.inr (some 52)), some (.inl (nI s)), some (.inl y), some (.inl z)], [], mU σ I A)
      repeat (first | refine gkn rfl rfl ?_ | refine gkm rfl rfl ?_ | refine gad rfl ?_ | refine gml rfl ?_ | refine gsb rfl (by omega) ?_ | refine gdv rfl (by omega) (by omega) (by omega) ?_ | refine grm rfl (by omega) (by omega) (by omega) ?_ | refine gic rfl rfl ?_ | refine gp rfl rfl rfl ?_ | refine gFl rfl (by rfl) ?_ | refine gAl rfl rfl (by rfl) (by omega) ?_ | refine gBl rfl rfl (by rfl) (by omega) ?_ | refine gfN rfl (by omega) (by omega) (nN_ge (by omega)) ?_ | refine gfN rfl (by omega) (by omega) (nN_lt (by omega)) ?_ | refine gfN rfl (by omega) (by omega) (nN_eq (by omega)) ?_ | refine gfN rfl (by omega) (by omega) (nN_ne (by omega)) ?_ | refine gfN rfl (by omega) (by omega) (nN_gt (by omega)) ?_ | refine gfN rfl (by omega) (by omega) (nN_le (by omega)) ?_ | refine gtN rfl (by omega) (by omega) (xN_ge (by omega)) ?_ | refine gtN rfl (by omega) (by omega) (xN_lt (by omega)) ?_ | refine gtN rfl (by omega) (by omega) (xN_eq (by omega)) ?_ | refine gtN rfl (by omega) (by omega) (xN_ne (by omega)) ?_ | refine gtN rfl (by omega) (by omega) (xN_gt (by omega)) ?_ | refine gtN rfl (by omega) (by omega) (xN_le (by omega)) ?_ | refine gf0 rfl (by omega) (nN_ge (by omega)) ?_ | refine gf0 rfl (by omega) (nN_lt (by omega)) ?_ | refine gf0 rfl (by omega) (nN_eq (by omega)) ?_ | refine gf0 rfl (by omega) (nN_ne (by omega)) ?_ | refine gf0 rfl (by omega) (nN_gt (by omega)) ?_ | refine gf0 rfl (by omega) (nN_le (by omega)) ?_ | refine gt0 rfl (by omega) (xN_ge (by omega)) ?_ | refine gt0 rfl (by omega) (xN_lt (by omega)) ?_ | refine gt0 rfl (by omega) (xN_eq (by omega)) ?_ | refine gt0 rfl (by omega) (xN_ne (by omega)) ?_ | refine gt0 rfl (by omega) (xN_gt (by omega)) ?_ | refine gt0 rfl (by omega) (xN_le (by omega)) ?_)
      refine gcv (As := [.inl (nI 0), .inl y]) (rest := []) rfl (by decide) e4 (mU_obj _ _ _) rfl rfl (by decide) ?_
      refine gbe rfl (fun hz2 => ?_) (fun hz2 => by cases hz2)
      repeat (first | refine gkn rfl rfl ?_ | refine gkm rfl rfl ?_ | refine gad rfl ?_ | refine gml rfl ?_ | refine gsb rfl (by omega) ?_ | refine gdv rfl (by omega) (by omega) (by omega) ?_ | refine grm rfl (by omega) (by omega) (by omega) ?_ | refine gic rfl rfl ?_ | refine gp rfl rfl rfl ?_ | refine gFl rfl (by rfl) ?_ | refine gAl rfl rfl (by rfl) (by omega) ?_ | refine gBl rfl rfl (by rfl) (by omega) ?_)
      exact gri rfl (fun h => absurd h (by decide)) ⟨rfl, rfl⟩
  · rw [aSide_no h1 h2]
    refine ⟨by decide, rfl, ?_⟩
    show xGo (xEx (d + 3)) xtb_100 _ (0, [some (.inr (some 52)), some (.inl x), some (.inl y), some (.inl z)], [], mU σ I A)
    repeat (first | refine gkn rfl rfl ?_ | refine gkm rfl rfl ?_ | refine gad rfl ?_ | refine gml rfl ?_ | refine gsb rfl (by omega) ?_ | refine gdv rfl (by omega) (by omega) (by omega) ?_ | refine grm rfl (by omega) (by omega) (by omega) ?_ | refine gic rfl rfl ?_ | refine gp rfl rfl rfl ?_ | refine gFl rfl (by rfl) ?_ | refine gAl rfl rfl (by rfl) (by omega) ?_ | refine gBl rfl rfl (by rfl) (by omega) ?_)
    refine gcp rfl (fun g => ?_) (fun g => ?_)
    · repeat (first | refine gkn rfl rfl ?_ | refine gkm rfl rfl ?_ | refine gad rfl ?_ | refine gml rfl ?_ | refine gsb rfl (by omega) ?_ | refine gdv rfl (by omega) (by omega) (by omega) ?_ | refine grm rfl (by omega) (by omega) (by omega) ?_ | refine gic rfl rfl ?_ | refine gp rfl rfl rfl ?_ | refine gFl rfl (by rfl) ?_ | refine gAl rfl rfl (by rfl) (by omega) ?_ | refine gBl rfl rfl (by rfl) (by omega) ?_)
      exact gri rfl (fun h => absurd h (by decide)) ⟨rfl, rfl⟩
    · repeat (first | refine gkn rfl rfl ?_ | refine gkm rfl rfl ?_ | refine gad rfl ?_ | refine gml rfl ?_ | refine gsb rfl (by omega) ?_ | refine gdv rfl (by omega) (by omega) (by omega) ?_ | refine grm rfl (by omega) (by omega) (by omega) ?_ | refine gic rfl rfl ?_ | refine gp rfl rfl rfl ?_ | refine gFl rfl (by rfl) ?_ | refine gAl rfl rfl (by rfl) (by omega) ?_ | refine gBl rfl rfl (by rfl) (by omega) ?_)
      refine gct rfl (show nI 2 < x from h3.elim (fun z => absurd z g) id) ?_
      repeat (first | refine gkn rfl rfl ?_ | refine gkm rfl rfl ?_ | refine gad rfl ?_ | refine gml rfl ?_ | refine gsb rfl (by omega) ?_ | refine gdv rfl (by omega) (by omega) (by omega) ?_ | refine grm rfl (by omega) (by omega) (by omega) ?_ | refine gic rfl rfl ?_ | refine gp rfl rfl rfl ?_ | refine gFl rfl (by rfl) ?_ | refine gAl rfl rfl (by rfl) (by omega) ?_ | refine gBl rfl rfl (by rfl) (by omega) ?_)
      exact gri rfl (fun h => absurd h (by decide)) ⟨rfl, rfl⟩
end REF
