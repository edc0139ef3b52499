/-! MODULE: the first of the longest matchings, the class -/
/-- for each line of o where in x it stands, s lines before; none if it is paired with none -/
def pMt : List Int32 → List Int32 → Nat → List (Option Nat)
  | [], _, _ => []
  | c :: o, x, s => match pAft c x with
    | some r => if pL o r + 1 = pL (c :: o) x then some (s + (x.length - r.length - 1)) :: pMt o r (s + (x.length - r.length)) else none :: pMt o x s
    | none => none :: pMt o x s
theorem pMt_len : ∀ (o x : List Int32) (s : Nat), (pMt o x s).length = o.length
  | [], _, _ => rfl
  | c :: o, x, s => by
    unfold pMt
    split
    · split <;> simp [pMt_len o]
    · simp [pMt_len o]
theorem pAft_hit {c : Int32} {l : List Int32} {j : Nat} (h : j < l.length) (e : l.getD j 0 = c) : pAft c (l.drop j) = some (l.drop (j + 1)) := by
  rw [drop_step h, pAft, if_pos e]
theorem pAft_pass {c : Int32} {l : List Int32} {j : Nat} (h : j < l.length) (e : ¬ l.getD j 0 = c) : pAft c (l.drop j) = pAft c (l.drop (j + 1)) := by
  rw [drop_step h, pAft, if_neg e]
theorem m_match (d : Nat) {σ : xS} {w : List Int32} {cl : Bool} {o x p : Nat} {lo lx : List Int32} {F : Nat → Nat → Int32} {fp : Nat → Int32} (h : hLM σ w cl) (ht : hTb σ F) (hlo : hInts σ o lo) (hlx : hInts σ x lx) (ho : far o) (hx : far x) (so : lo.length ≤ 8) (sx : lx.length ≤ 76) (hp : σ.1 p = some (.inl (0, 8, fp))) (hp2 : p = 32 ∨ p = 33) :
    ∃ (σ' : xS) (F' : Nat → Nat → Int32) (f' : Nat → Int32), xEx (d + 2) 45 [.inr (some 21), .inr (some o), .inr (some x), .inr (some p)] σ none σ' ∧ hTb σ' F' ∧ σ'.1 p = some (.inl (0, 8, f')) ∧ (∀ i, i < lo.length → f' i = oI ((pMt lo lx 0).getD i none)) ∧ σ'.2 = σ.2 ∧ (∀ k, k ≠ p → (k < 23 ∨ 31 < k) → σ'.1 k = σ.1 k) := by
  obtain ⟨σ1, F1, ex1, t1, tb, fr⟩ := m_countCommon d h ht hlo hlx ho hx so sx
  obtain ⟨h1, -⟩ := h
  obtain ⟨fo, o1, o2⟩ := hlo
  obtain ⟨fx, x1, x2⟩ := hlx
  unfold far at ho hx
  let K : Option xV → xS → Prop := fun r0 σ0 => r0 = none ∧ ∃ f', σ0 = xup σ1 p (.inl (0, 8, f')) ∧ (∀ i, i < lo.length → f' i = oI ((pMt lo lx 0).getD i none))
  have tbu : ∀ f : Nat → Int32, hTb (xup σ1 p (.inl (0, 8, f))) F1 := fun f => ⟨by rw [xup_ne (by omega)]; exact t1.1, fun i hi => by rw [xup_ne (by omega)]; exact t1.2 i hi⟩
  have c21 : σ1.1 21 = some (.inr (.inr (6, [.inr (some 22), .inr (some 32), .inr (some 33), .inr (some 34), .inr (some 35), .inr (some 36), .inr (some 37), .inl (nI w.length), .inl (bI cl)]))) := by rw [fr.2 21 (by omega)]; exact h1
  have co : σ1.1 o = some (.inl (0, lo.length, fo)) := by rw [fr.2 o (by omega)]; exact o1
  have cx : σ1.1 x = some (.inl (0, lx.length, fx)) := by rw [fr.2 x (by omega)]; exact x1
  have cp : σ1.1 p = some (.inl (0, 8, fp)) := by rw [fr.2 p (by omega)]; exact hp
  have loop : ∀ k i nx (f : Nat → Int32) (y : Option xV), i + k = lo.length → nx ≤ lx.length → (∀ i', i' < i → f i' = oI ((pMt lo lx 0).getD i' none)) → (∀ i', (pMt lo lx 0).getD (i + i') none = (pMt (lo.drop i) (lx.drop nx) nx).getD i' none) → xGo (xEx (d + 1)) xtb_45 K (48, [some (.inr (some 21)), some (.inr (some o)), some (.inr (some x)), some (.inr (some p)), some (.inl (nI lo.length)), some (.inl (nI lx.length)), some (.inl (nI nx)), some (.inl (nI (pCm lo lx i nx))), some (.inl (nI i)), y], [.inl (nI lo.length), .inl (nI i)], xup σ1 p (.inl (0, 8, f))) := by
    intro k
    induction k with
    | zero =>
      intro i nx f y hi hn hall hrest
      obtain rfl : i = lo.length := by omega
      refine gct rfl (show nI _ ≤ nI _ from nI_le (by omega) (by omega)) ?_
      exact grv rfl ⟨rfl, f, rfl, hall⟩
    | succ k ih =>
      intro i nx f y hi hn hall hrest
      have e21 : (xup σ1 p (.inl (0, 8, f))).1 21 = some (.inr (.inr (6, [.inr (some 22), .inr (some 32), .inr (some 33), .inr (some 34), .inr (some 35), .inr (some 36), .inr (some 37), .inl (nI w.length), .inl (bI cl)]))) := by rw [xup_ne (by omega)]; exact c21
      have e22 := (tbu f).1
      have eo : (xup σ1 p (.inl (0, 8, f))).1 o = some (.inl (0, lo.length, fo)) := by rw [xup_ne (by omega)]; exact co
      have ex : (xup σ1 p (.inl (0, 8, f))).1 x = some (.inl (0, lx.length, fx)) := by rw [xup_ne (by omega)]; exact cx
      have ri := (tbu f).2 (i + 1) (by omega)
      have hdo := drop_step (l := lo) (i := i) (by omega)
      refine gcf rfl (nI_ge (by omega) (by omega)) ?_
      have skip : ∀ j : Nat, (∀ r, pAft (lo.getD i 0) (lx.drop nx) = some r → ¬ pL (lo.drop (i + 1)) r + 1 = pL (lo.getD i 0 :: lo.drop (i + 1)) (lx.drop nx)) → xGo (xEx (d + 1)) xtb_45 K (125, [some (.inr (some 21)), some (.inr (some o)), some (.inr (some x)), some (.inr (some p)), some (.inl (nI lo.length)), some (.inl (nI lx.length)), some (.inl (nI nx)), some (.inl (nI (pCm lo lx i nx))), some (.inl (nI i)), some (.inl (nI j))], [], xup σ1 p (.inl (0, 8, f))) := by
        intro j hno
        repeat (first | refine gp rfl rfl rfl ?_ | refine ggf rfl (by assumption) (by rfl) ?_ | refine gal rfl (by assumption) (by rfl) (by omega) (by omega) ?_ | refine gil rfl (by assumption) (by rfl) (by omega) (by omega) ?_ | refine gbl rfl (by assumption) (by rfl) (by omega) (by omega) ?_ | refine gln rfl (xlen_i (by assumption)) ?_ | refine gln rfl (xlen_q (by assumption)) ?_)
        refine gis rfl (xup_eq _ _ _) rfl (by omega) (by omega) (by omega) ?_
        rw [xup_up, xk_m1]
        have em : pMt (lo.getD i 0 :: lo.drop (i + 1)) (lx.drop nx) nx = none :: pMt (lo.drop (i + 1)) (lx.drop nx) nx := by
          rw [pMt]
          split
          · rename_i r hr
            rw [if_neg (hno r hr)]
          · rfl
        have ec : pCm lo lx i nx = pCm lo lx (i + 1) nx := by
          unfold pCm
          rw [hdo]
          exact pL_skip hno
        rw [hdo, em] at hrest
        rw [ec]
        repeat (first | refine gp rfl rfl rfl ?_ | refine ggf rfl (by assumption) (by rfl) ?_ | refine gal rfl (by assumption) (by rfl) (by omega) (by omega) ?_ | refine gil rfl (by assumption) (by rfl) (by omega) (by omega) ?_ | refine gbl rfl (by assumption) (by rfl) (by omega) (by omega) ?_ | refine gln rfl (xlen_i (by assumption)) ?_ | refine gln rfl (xlen_q (by assumption)) ?_)
        rw [nI_s]
        refine ih (i + 1) nx _ _ (by omega) hn (fun i' hi' => ?_) (fun i' => ?_)
        · by_cases hii : i' = i
          · subst hii
            have := hrest 0
            rw [Nat.add_zero] at this
            rw [this]
            simp [upd, oI]
          · simp only [upd, if_neg hii]; exact hall i' (by omega)
        · have := hrest (i' + 1)
          rw [show i + 1 + i' = i + (i' + 1) by omega, this]
          simp
      have inner : ∀ k2 j, j + k2 = lx.length → nx ≤ j → pAft (lo.getD i 0) (lx.drop nx) = pAft (lo.getD i 0) (lx.drop j) → xGo (xEx (d + 1)) xtb_45 K (59, [some (.inr (some 21)), some (.inr (some o)), some (.inr (some x)), some (.inr (some p)), some (.inl (nI lo.length)), some (.inl (nI lx.length)), some (.inl (nI nx)), some (.inl (nI (pCm lo lx i nx))), some (.inl (nI i)), some (.inl (nI j))], [.inl (nI lx.length), .inl (nI j)], xup σ1 p (.inl (0, 8, f))) := by
        intro k2
        induction k2 with
        | zero =>
          intro j hj hnj haft
          obtain rfl : j = lx.length := by omega
          refine gct rfl (show nI _ ≤ nI _ from nI_le (by omega) (by omega)) ?_
          repeat (first | refine gp rfl rfl rfl ?_ | refine ggf rfl (by assumption) (by rfl) ?_ | refine gal rfl (by assumption) (by rfl) (by omega) (by omega) ?_ | refine gil rfl (by assumption) (by rfl) (by omega) (by omega) ?_ | refine gbl rfl (by assumption) (by rfl) (by omega) (by omega) ?_ | refine gln rfl (xlen_i (by assumption)) ?_ | refine gln rfl (xlen_q (by assumption)) ?_)
          refine gct rfl (show nI _ ≤ nI _ from nI_le (by omega) (by omega)) ?_
          refine skip _ (fun r hr => ?_)
          rw [haft, List.drop_length] at hr
          cases hr
        | succ k2 ih2 =>
          intro j hj hnj haft
          refine gcf rfl (nI_ge (by omega) (by omega)) ?_
          repeat (first | refine gp rfl rfl rfl ?_ | refine ggf rfl (by assumption) (by rfl) ?_ | refine gal rfl (by assumption) (by rfl) (by omega) (by omega) ?_ | refine gil rfl (by assumption) (by rfl) (by omega) (by omega) ?_ | refine gbl rfl (by assumption) (by rfl) (by omega) (by omega) ?_ | refine gln rfl (xlen_i (by assumption)) ?_ | refine gln rfl (xlen_q (by assumption)) ?_)
          rw [o2 i (by omega), x2 j (by omega)]
          refine gcp rfl (fun heq => ?_) (fun hne => ?_)
          · have heq : lx.getD j 0 = lo.getD i 0 := heq
            rw [pAft_hit (by omega) heq] at haft
            repeat (first | refine gp rfl rfl rfl ?_ | refine ggf rfl (by assumption) (by rfl) ?_ | refine gal rfl (by assumption) (by rfl) (by omega) (by omega) ?_ | refine gil rfl (by assumption) (by rfl) (by omega) (by omega) ?_ | refine gbl rfl (by assumption) (by rfl) (by omega) (by omega) ?_ | refine gln rfl (xlen_i (by assumption)) ?_ | refine gln rfl (xlen_q (by assumption)) ?_)
            refine gcf rfl (nI_ge (by omega) (by omega)) ?_
            repeat (first | refine gp rfl rfl rfl ?_ | refine ggf rfl (by assumption) (by rfl) ?_ | refine gal rfl (by assumption) (by rfl) (by omega) (by omega) ?_ | refine gil rfl (by assumption) (by rfl) (by omega) (by omega) ?_ | refine gbl rfl (by assumption) (by rfl) (by omega) (by omega) ?_ | refine gln rfl (xlen_i (by assumption)) ?_ | refine gln rfl (xlen_q (by assumption)) ?_)
            rw [nI_s i]
            repeat (first | refine gp rfl rfl rfl ?_ | refine ggf rfl (by assumption) (by rfl) ?_ | refine gal rfl (by assumption) (by rfl) (by omega) (by omega) ?_ | refine gil rfl (by assumption) (by rfl) (by omega) (by omega) ?_ | refine gbl rfl (by assumption) (by rfl) (by omega) (by omega) ?_ | refine gln rfl (xlen_i (by assumption)) ?_ | refine gln rfl (xlen_q (by assumption)) ?_)
            rw [nI_s j]
            repeat (first | refine gp rfl rfl rfl ?_ | refine ggf rfl (by assumption) (by rfl) ?_ | refine gal rfl (by assumption) (by rfl) (by omega) (by omega) ?_ | refine gil rfl (by assumption) (by rfl) (by omega) (by omega) ?_ | refine gbl rfl (by assumption) (by rfl) (by omega) (by omega) ?_ | refine gln rfl (xlen_i (by assumption)) ?_ | refine gln rfl (xlen_q (by assumption)) ?_)
            rw [tb (i + 1) (j + 1) (by omega) (by omega), nI_s]
            have lc := pCm_le lo lx (i + 1) (j + 1)
            have lc2 := pCm_le lo lx i nx
            by_cases hq : pCm lo lx (i + 1) (j + 1) + 1 = pCm lo lx i nx
            · refine gcf rfl (fun z => z (show nI _ = nI _ by rw [hq])) ?_
              repeat (first | refine gp rfl rfl rfl ?_ | refine ggf rfl (by assumption) (by rfl) ?_ | refine gal rfl (by assumption) (by rfl) (by omega) (by omega) ?_ | refine gil rfl (by assumption) (by rfl) (by omega) (by omega) ?_ | refine gbl rfl (by assumption) (by rfl) (by omega) (by omega) ?_ | refine gln rfl (xlen_i (by assumption)) ?_ | refine gln rfl (xlen_q (by assumption)) ?_)
              refine gis rfl (xup_eq _ _ _) rfl (by omega) (by omega) (by omega) ?_
              rw [xup_up]
              repeat (first | refine gp rfl rfl rfl ?_ | refine ggf rfl (by assumption) (by rfl) ?_ | refine gal rfl (by assumption) (by rfl) (by omega) (by omega) ?_ | refine gil rfl (by assumption) (by rfl) (by omega) (by omega) ?_ | refine gbl rfl (by assumption) (by rfl) (by omega) (by omega) ?_ | refine gln rfl (xlen_i (by assumption)) ?_ | refine gln rfl (xlen_q (by assumption)) ?_)
              rw [nI_s j, nI_s i, ← hq, dI_dec]
              have em : pMt (lo.getD i 0 :: lo.drop (i + 1)) (lx.drop nx) nx = some j :: pMt (lo.drop (i + 1)) (lx.drop (j + 1)) (j + 1) := by
                rw [pMt, haft]
                have hq' : pL (lo.drop (i + 1)) (lx.drop (j + 1)) + 1 = pL (lo.getD i 0 :: lo.drop (i + 1)) (lx.drop nx) := by rw [← hdo]; exact hq
                simp only
                rw [if_pos hq', List.length_drop, List.length_drop, show nx + (lx.length - nx - (lx.length - (j + 1)) - 1) = j by omega, show nx + (lx.length - nx - (lx.length - (j + 1))) = j + 1 by omega]
              rw [hdo, em] at hrest
              refine ih (i + 1) (j + 1) _ _ (by omega) (by omega) (fun i' hi' => ?_) (fun i' => ?_)
              · by_cases hii : i' = i
                · subst hii
                  have := hrest 0
                  rw [Nat.add_zero] at this
                  rw [this]
                  simp [upd, oI]
                · simp only [upd, if_neg hii]; exact hall i' (by omega)
              · have := hrest (i' + 1)
                rw [show i + 1 + i' = i + (i' + 1) by omega, this]
                simp
            · refine gct rfl (fun z => hq ((nI_eq (by omega) (by omega)).mp z)) ?_
              refine skip _ (fun r hr => ?_)
              rw [haft] at hr
              cases hr
              rw [← hdo]
              exact hq
          · have hne' : ¬ lx.getD j 0 = lo.getD i 0 := hne
            repeat (first | refine gp rfl rfl rfl ?_ | refine ggf rfl (by assumption) (by rfl) ?_ | refine gal rfl (by assumption) (by rfl) (by omega) (by omega) ?_ | refine gil rfl (by assumption) (by rfl) (by omega) (by omega) ?_ | refine gbl rfl (by assumption) (by rfl) (by omega) (by omega) ?_ | refine gln rfl (xlen_i (by assumption)) ?_ | refine gln rfl (xlen_q (by assumption)) ?_)
            rw [nI_s]
            exact ih2 (j + 1) (by omega) (by omega) (by rw [haft, pAft_pass (by omega) hne'])
      repeat (first | refine gp rfl rfl rfl ?_ | refine ggf rfl (by assumption) (by rfl) ?_ | refine gal rfl (by assumption) (by rfl) (by omega) (by omega) ?_ | refine gil rfl (by assumption) (by rfl) (by omega) (by omega) ?_ | refine gbl rfl (by assumption) (by rfl) (by omega) (by omega) ?_ | refine gln rfl (xlen_i (by assumption)) ?_ | refine gln rfl (xlen_q (by assumption)) ?_)
      exact inner (lx.length - nx) nx (by omega) (Nat.le_refl _) rfl
  obtain ⟨r, σ', hex, rfl, f', rfl, g2⟩ := ex_of (d := d + 1) (y := 45) (as := [.inr (some 21), .inr (some o), .inr (some x), .inr (some p)]) (σ := σ) (K := K) (by decide) rfl (by
    show xGo (xEx (d + 1)) xtb_45 K (0, [some (.inr (some 21)), some (.inr (some o)), some (.inr (some x)), some (.inr (some p)), none, none, none, none, none, none], [], σ)
    repeat (first | refine gp rfl rfl rfl ?_ | refine ggf rfl (by assumption) (by rfl) ?_ | refine gal rfl (by assumption) (by rfl) (by omega) (by omega) ?_ | refine gil rfl (by assumption) (by rfl) (by omega) (by omega) ?_ | refine gbl rfl (by assumption) (by rfl) (by omega) (by omega) ?_ | refine gln rfl (xlen_i (by assumption)) ?_ | refine gln rfl (xlen_q (by assumption)) ?_)
    refine gmn rfl (by decide) ?_
    rw [show (if xk 8 0 < nI lo.length then xk 8 0 else nI lo.length) = nI lo.length from (mn_nI (a := lo.length) (b := 8) (by omega) (by decide)).trans (by rw [Nat.min_eq_left so])]
    repeat (first | refine gp rfl rfl rfl ?_ | refine ggf rfl (by assumption) (by rfl) ?_ | refine gal rfl (by assumption) (by rfl) (by omega) (by omega) ?_ | refine gil rfl (by assumption) (by rfl) (by omega) (by omega) ?_ | refine gbl rfl (by assumption) (by rfl) (by omega) (by omega) ?_ | refine gln rfl (xlen_i (by assumption)) ?_ | refine gln rfl (xlen_q (by assumption)) ?_)
    refine gmn rfl (by decide) ?_
    rw [show (if xk 76 0 < nI lx.length then xk 76 0 else nI lx.length) = nI lx.length from (mn_nI (a := lx.length) (b := 76) (by omega) (by decide)).trans (by rw [Nat.min_eq_left sx])]
    repeat (first | refine gp rfl rfl rfl ?_ | refine ggf rfl (by assumption) (by rfl) ?_ | refine gal rfl (by assumption) (by rfl) (by omega) (by omega) ?_ | refine gil rfl (by assumption) (by rfl) (by omega) (by omega) ?_ | refine gbl rfl (by assumption) (by rfl) (by omega) (by omega) ?_ | refine gln rfl (xlen_i (by assumption)) ?_ | refine gln rfl (xlen_q (by assumption)) ?_)
    refine gcv (As := [.inr (some o), .inl (nI lo.length), .inr (some x), .inl (nI lx.length)]) (rest := []) rfl (by decide) ex1 h1 rfl rfl (by decide) ?_
    have e22 := t1.1
    have r0 := t1.2 0 (by omega)
    repeat (first | refine gp rfl rfl rfl ?_ | refine ggf rfl (by assumption) (by rfl) ?_ | refine gal rfl (by assumption) (by rfl) (by omega) (by omega) ?_ | refine gil rfl (by assumption) (by rfl) (by omega) (by omega) ?_ | refine gbl rfl (by assumption) (by rfl) (by omega) (by omega) ?_ | refine gln rfl (xlen_i (by assumption)) ?_ | refine gln rfl (xlen_q (by assumption)) ?_)
    rw [show F1 0 (0 : Nat) = nI (pCm lo lx 0 0) from tb 0 0 (by omega) (by omega)]
    have := loop lo.length 0 0 fp none (by omega) (by omega) (fun i' hi' => absurd hi' (by omega)) (fun i' => by rw [Nat.zero_add]; rfl)
    rw [xup_same cp] at this
    exact this)
  exact ⟨_, F1, f', hex, tbu f', xup_eq _ _ _, g2, fr.1, fun k hk hk' => by rw [xup_ne hk]; exact fr.2 k hk'⟩
