/-! MODULE: what stands between two lines that all have, the class -/
theorem m_commonEnd0 (d : Nat) {σ : xS} {a b fr wd a' b' fr' wd' g : Nat} (h : hPart σ a b fr wd) (h' : hPart σ a' b' fr' wd') (hg : g = min wd wd') (s1 : wd ≤ 76) (s2 : wd' ≤ 76) : xEx (d + 1) 41 [.inr (some a), .inr (some a'), .inl (nI g)] σ (some (.inl (nI 0))) σ := by
  have h : σ.1 a = some (.inr (.inr (5, [.inr (some b), .inl (nI fr), .inl (nI wd)]))) := h
  have h' : σ.1 a' = some (.inr (.inr (5, [.inr (some b'), .inl (nI fr'), .inl (nI wd')]))) := h'
  refine ⟨by decide, rfl, ?_⟩
  show xGo (xEx d) xtb_41 _ (0, [some (.inr (some a)), some (.inr (some a')), some (.inl (nI g)), none, none, none, none], [], σ)
  repeat (first | refine gp rfl rfl rfl ?_ | refine ggf rfl (by assumption) (by rfl) ?_ | refine gal rfl (by assumption) (by rfl) (by omega) (by omega) ?_ | refine gil rfl (by assumption) (by rfl) (by omega) (by omega) ?_ | refine gbl rfl (by assumption) (by rfl) (by omega) (by omega) ?_ | refine gln rfl (xlen_i (by assumption)) ?_ | refine gln rfl (xlen_q (by assumption)) ?_)
  refine gmn rfl (by decide) ?_
  rw [mn_nI (by omega) (by omega)]
  repeat (first | refine gp rfl rfl rfl ?_ | refine ggf rfl (by assumption) (by rfl) ?_ | refine gal rfl (by assumption) (by rfl) (by omega) (by omega) ?_ | refine gil rfl (by assumption) (by rfl) (by omega) (by omega) ?_ | refine gbl rfl (by assumption) (by rfl) (by omega) (by omega) ?_ | refine gln rfl (xlen_i (by assumption)) ?_ | refine gln rfl (xlen_q (by assumption)) ?_)
  rw [pk_sub (by omega), show min wd wd' - g = 0 by omega]
  refine gct rfl (show nI 0 ≤ nI 0 from nI_le (by omega) (by omega)) ?_
  repeat (first | refine gp rfl rfl rfl ?_ | refine ggf rfl (by assumption) (by rfl) ?_ | refine gal rfl (by assumption) (by rfl) (by omega) (by omega) ?_ | refine gil rfl (by assumption) (by rfl) (by omega) (by omega) ?_ | refine gbl rfl (by assumption) (by rfl) (by omega) (by omega) ?_ | refine gln rfl (xlen_i (by assumption)) ?_ | refine gln rfl (xlen_q (by assumption)) ?_)
  exact gri rfl (fun h => absurd h (by decide)) ⟨rfl, rfl⟩
def pCut (A : List Int32) (s t : Nat) : List Int32 := pSub A s (t - s)
theorem pSub_cut {l : List Int32} {fr wd s t : Nat} (h : t ≤ wd) : pSub l (fr + s) (t - s) = pCut (pSub l fr wd) s t := by
  unfold pCut pSub
  rw [List.drop_take, List.take_take, List.drop_drop]
  congr 1
  omega
theorem pFst_congr {P P' : Nat → Bool} : ∀ {n : Nat}, (∀ j, j < n → P j = P' j) → pFst P n = pFst P' n
  | 0, _ => rfl
  | n + 1, h => by rw [pFst_s, pFst_s, pFst_congr (fun j hj => h j (by omega)), h n (by omega)]
theorem pRun_congr {P P' : Nat → Bool} {n : Nat} (h : ∀ j, j < n → P j = P' j) : pRun P n = pRun P' n := by
  unfold pRun
  rw [pFst_congr (P' := fun j => !P' j) (fun j hj => by rw [h j hj])]
def pHead (A B : List Int32) : Nat := pRun (fun j => decide (A.getD j 0 = B.getD j 0)) (min A.length B.length)
def pTail (A B : List Int32) (g : Nat) : Nat := pRun (fun j => decide (A.getD (A.length - 1 - j) 0 = B.getD (B.length - 1 - j) 0)) (min A.length B.length - g)
def pBn (st : Nat) (A B : List Int32) : Nat := if st = 2 then pHead A B else 0
def pEn (st : Nat) (A B : List Int32) : Nat := if st = 2 then pTail A B (pHead A B) else 0
def pClash (st : Nat) (O A B : List Int32) (b e : Nat) : List Int32 := pCut A 0 b ++ ([nI 16] ++ (pCut A b (A.length - e) ++ ((if st = 0 then [] else [nI 17] ++ O) ++ ([nI 18] ++ (pCut B b (B.length - e) ++ ([nI 19] ++ pCut A (A.length - e) A.length))))))
def pBad (O A B : List Int32) : Bool := !(decide (A = O) || decide (B = O) || decide (A = B))
def pGap (st : Nat) (O A B : List Int32) : List Int32 := if A = O then B else if B = O ∨ A = B then A else pClash st O A B (pBn st A B) (pEn st A B)
theorem pBE_le (st : Nat) (A B : List Int32) : pBn st A B + pEn st A B ≤ min A.length B.length := by
  unfold pBn pEn
  have h1 : pHead A B ≤ min A.length B.length := pRun_le _ _
  have h2 : pTail A B (pHead A B) ≤ min A.length B.length - pHead A B := pRun_le _ _
  split <;> omega
/-- the three parts, and the texts that they are parts of -/
def hPs (σ : xS) (o a b : Nat) (lo la lb : List Int32) (fo wo fa wa fb wb : Nat) : Prop := hPart σ 34 o fo wo ∧ hPart σ 35 a fa wa ∧ hPart σ 36 b fb wb ∧ hInts σ o lo ∧ hInts σ a la ∧ hInts σ b lb
def far (o : Nat) : Prop := o < 2 ∨ 63 ≤ o
theorem hInts.w {σ σ' : xS} {o : Nat} {l : List Int32} (h : hInts σ o l) (hw : hW σ σ') (ho : far o) : hInts σ' o l := by
  obtain ⟨f, h1, h2⟩ := h
  unfold far at ho
  exact ⟨f, by rw [hw.2 o (by omega) (by omega)]; exact h1, h2⟩
theorem hPart.w {σ σ' : xS} {a b fr wd : Nat} (h : hPart σ a b fr wd) (hw : hW σ σ') (ha : 34 ≤ a ∧ a ≤ 36) : hPart σ' a b fr wd := by
  unfold hPart at h ⊢
  rw [hw.2 a (by omega) (by omega)]
  exact h
theorem hPs.w {σ σ' : xS} {o a b : Nat} {lo la lb : List Int32} {fo wo fa wa fb wb : Nat} (h : hPs σ o a b lo la lb fo wo fa wa fb wb) (hw : hW σ σ') (ho : far o) (ha : far a) (hb : far b) : hPs σ' o a b lo la lb fo wo fa wa fb wb := by
  obtain ⟨h1, h2, h3, h4, h5, h6⟩ := h
  exact ⟨h1.w hw (by decide), h2.w hw (by decide), h3.w hw (by decide), h4.w hw ho, h5.w hw ha, h6.w hw hb⟩
theorem m_wl (d : Nat) {σ : xS} {w : List Int32} {c : Bool} {a b fr wd s e : Nat} {l : List Int32} (h : hLM σ w c) (hp : hPart σ a b fr wd) (hl : hInts σ b l) (ha : 34 ≤ a ∧ a ≤ 36) (hb : far b) (he : fr + wd ≤ l.length) (he2 : e ≤ wd) (hs : l.length ≤ 76) (hse : s ≤ e) : ∃ σ', xEx (d + 1) 48 [.inr (some 21), .inr (some a), .inl (nI s), .inl (nI e)] σ none σ' ∧ hLM σ' (pW w (pCut (pSub l fr wd) s e)) c ∧ hW σ σ' := by
  unfold far at hb
  obtain ⟨σ', h1, h2, h3⟩ := m_writeLines d h hp hl (by omega) (by omega) (by omega) hs hse
  rw [pSub_cut he2] at h2
  exact ⟨σ', h1, h2, h3⟩
theorem pCut_all (A : List Int32) : pCut A 0 A.length = A := by
  unfold pCut pSub
  rw [List.drop_zero, List.take_of_length_le (by omega)]
theorem m_writeGap (d : Nat) {σ : xS} {w : List Int32} {c : Bool} {o a b : Nat} {lo la lb : List Int32} {fo wo fa wa fb wb st : Nat} (h : hLM σ w c) (hp : hPs σ o a b lo la lb fo wo fa wa fb wb) (ho : far o) (ha : far a) (hb : far b) (so : lo.length ≤ 76) (sa : la.length ≤ 76) (sb : lb.length ≤ 76) (ko : fo + wo ≤ lo.length) (ka : fa + wa ≤ la.length) (kb : fb + wb ≤ lb.length) (hst : st < 1000) :
    ∃ σ', xEx (d + 2) 47 [.inr (some 21), .inl (nI st)] σ none σ' ∧ hLM σ' (pW w (pGap st (pSub lo fo wo) (pSub la fa wa) (pSub lb fb wb))) (c || pBad (pSub lo fo wo) (pSub la fa wa) (pSub lb fb wb)) ∧ hW σ σ' := by
  have lO := pSub_len ko
  have lA := pSub_len ka
  have lB := pSub_len kb
  generalize hO : pSub lo fo wo = O at *
  generalize hA : pSub la fa wa = A at *
  generalize hB : pSub lb fb wb = B at *
  let K : Option xV → xS → Prop := fun r0 σ0 => r0 = none ∧ hLM σ0 (pW w (pGap st O A B)) (c || pBad O A B) ∧ hW σ σ0
  have main : xGo (xEx (d + 1)) xtb_47 K (0, [some (.inr (some 21)), some (.inl (nI st)), none, none, none], [], σ) := by
    obtain ⟨h1, h2, f, h3, h4⟩ := id h
    obtain ⟨pO, pA, pB', iO, iA, iB⟩ := id hp
    have qO : σ.1 34 = some (.inr (.inr (5, [.inr (some o), .inl (nI fo), .inl (nI wo)]))) := pO
    have qA : σ.1 35 = some (.inr (.inr (5, [.inr (some a), .inl (nI fa), .inl (nI wa)]))) := pA
    have qB : σ.1 36 = some (.inr (.inr (5, [.inr (some b), .inl (nI fb), .inl (nI wb)]))) := pB'
    repeat (first | refine gp rfl rfl rfl ?_ | refine ggf rfl (by assumption) (by rfl) ?_ | refine gal rfl (by assumption) (by rfl) (by omega) (by omega) ?_ | refine gil rfl (by assumption) (by rfl) (by omega) (by omega) ?_ | refine gbl rfl (by assumption) (by rfl) (by omega) (by omega) ?_ | refine gln rfl (xlen_i (by assumption)) ?_ | refine gln rfl (xlen_q (by assumption)) ?_)
    refine gcv (As := [.inr (some 34)]) (rest := []) rfl (by decide) (m_sameAs d pA pO iA iO ka ko sa so) qA rfl rfl (by decide) ?_
    rw [hA, hO]
    by_cases hAO : A = O
    · rw [decide_eq_true hAO]
      refine giff rfl (fun h => absurd (show (1 : Int32) = 0 from h) (by decide)) ?_
      repeat (first | refine gp rfl rfl rfl ?_ | refine ggf rfl (by assumption) (by rfl) ?_ | refine gal rfl (by assumption) (by rfl) (by omega) (by omega) ?_ | refine gil rfl (by assumption) (by rfl) (by omega) (by omega) ?_ | refine gbl rfl (by assumption) (by rfl) (by omega) (by omega) ?_ | refine gln rfl (xlen_i (by assumption)) ?_ | refine gln rfl (xlen_q (by assumption)) ?_)
      obtain ⟨σ1, x1, x2, x3⟩ := m_wl d (s := 0) (e := wb) h pB' iB (by decide) hb kb (Nat.le_refl _) sb (by omega)
      refine gcv (As := [.inr (some 36), .inl (nI 0), .inl (nI wb)]) (rest := []) rfl (by decide) x1 h1 rfl rfl (by decide) ?_
      repeat (first | refine gp rfl rfl rfl ?_ | refine ggf rfl (by assumption) (by rfl) ?_ | refine gal rfl (by assumption) (by rfl) (by omega) (by omega) ?_ | refine gil rfl (by assumption) (by rfl) (by omega) (by omega) ?_ | refine gbl rfl (by assumption) (by rfl) (by omega) (by omega) ?_ | refine gln rfl (xlen_i (by assumption)) ?_ | refine gln rfl (xlen_q (by assumption)) ?_)
      refine grv rfl ⟨rfl, ?_, x3⟩
      rw [hB, ← lB, pCut_all] at x2
      have e1 : pGap st O A B = B := by unfold pGap; rw [if_pos hAO]
      have e2 : pBad O A B = false := by unfold pBad; rw [decide_eq_true hAO]; rfl
      rw [e1, e2, Bool.or_false]
      exact x2
    · rw [decide_eq_false hAO]
      refine git rfl (show (0 : Int32) = 0 from rfl) ?_
      have wrA : (B = O ∨ A = B) → xGo (xEx (d + 1)) xtb_47 K (74, [some (.inr (some 21)), some (.inl (nI st)), none, none, none], [.inl (nI wa), .inl (nI 0), .inr (some 35), .inr (some 21)], σ) := by
        intro hor
        obtain ⟨σ1, x1, x2, x3⟩ := m_wl d (s := 0) (e := wa) h pA iA (by decide) ha ka (Nat.le_refl _) sa (by omega)
        refine gcv (As := [.inr (some 35), .inl (nI 0), .inl (nI wa)]) (rest := []) rfl (by decide) x1 h1 rfl rfl (by decide) ?_
        repeat (first | refine gp rfl rfl rfl ?_ | refine ggf rfl (by assumption) (by rfl) ?_ | refine gal rfl (by assumption) (by rfl) (by omega) (by omega) ?_ | refine gil rfl (by assumption) (by rfl) (by omega) (by omega) ?_ | refine gbl rfl (by assumption) (by rfl) (by omega) (by omega) ?_ | refine gln rfl (xlen_i (by assumption)) ?_ | refine gln rfl (xlen_q (by assumption)) ?_)
        refine grv rfl ⟨rfl, ?_, x3⟩
        rw [hA, ← lA, pCut_all] at x2
        have e1 : pGap st O A B = A := by unfold pGap; rw [if_neg hAO, if_pos hor]
        have e2 : pBad O A B = false := by
          unfold pBad
          rcases hor with z | z
          · rw [decide_eq_true z, Bool.or_true, Bool.true_or]; rfl
          · rw [decide_eq_true z, Bool.or_true]; rfl
        rw [e1, e2, Bool.or_false]
        exact x2
      repeat (first | refine gp rfl rfl rfl ?_ | refine ggf rfl (by assumption) (by rfl) ?_ | refine gal rfl (by assumption) (by rfl) (by omega) (by omega) ?_ | refine gil rfl (by assumption) (by rfl) (by omega) (by omega) ?_ | refine gbl rfl (by assumption) (by rfl) (by omega) (by omega) ?_ | refine gln rfl (xlen_i (by assumption)) ?_ | refine gln rfl (xlen_q (by assumption)) ?_)
      refine gcv (As := [.inr (some 34)]) (rest := []) rfl (by decide) (m_sameAs d pB' pO iB iO kb ko sb so) qB rfl rfl (by decide) ?_
      rw [hB, hO]
      by_cases hBO : B = O
      · rw [decide_eq_true hBO]
        refine git rfl (fun h => absurd (show (1 : Int32) = 0 from h) (by decide)) ?_
        repeat (first | refine gp rfl rfl rfl ?_ | refine ggf rfl (by assumption) (by rfl) ?_ | refine gal rfl (by assumption) (by rfl) (by omega) (by omega) ?_ | refine gil rfl (by assumption) (by rfl) (by omega) (by omega) ?_ | refine gbl rfl (by assumption) (by rfl) (by omega) (by omega) ?_ | refine gln rfl (xlen_i (by assumption)) ?_ | refine gln rfl (xlen_q (by assumption)) ?_)
        exact wrA (Or.inl hBO)
      · rw [decide_eq_false hBO]
        refine giff rfl (fun h => h (show (0 : Int32) = 0 from rfl)) ?_
        repeat (first | refine gp rfl rfl rfl ?_ | refine ggf rfl (by assumption) (by rfl) ?_ | refine gal rfl (by assumption) (by rfl) (by omega) (by omega) ?_ | refine gil rfl (by assumption) (by rfl) (by omega) (by omega) ?_ | refine gbl rfl (by assumption) (by rfl) (by omega) (by omega) ?_ | refine gln rfl (xlen_i (by assumption)) ?_ | refine gln rfl (xlen_q (by assumption)) ?_)
        refine gcv (As := [.inr (some 36)]) (rest := []) rfl (by decide) (m_sameAs d pA pB' iA iB ka kb sa sb) qA rfl rfl (by decide) ?_
        rw [hB, hA]
        by_cases hAB : A = B
        · rw [decide_eq_true hAB]
          refine giff rfl (fun h => absurd (show (1 : Int32) = 0 from h) (by decide)) ?_
          repeat (first | refine gp rfl rfl rfl ?_ | refine ggf rfl (by assumption) (by rfl) ?_ | refine gal rfl (by assumption) (by rfl) (by omega) (by omega) ?_ | refine gil rfl (by assumption) (by rfl) (by omega) (by omega) ?_ | refine gbl rfl (by assumption) (by rfl) (by omega) (by omega) ?_ | refine gln rfl (xlen_i (by assumption)) ?_ | refine gln rfl (xlen_q (by assumption)) ?_)
          exact wrA (Or.inr hAB)
        · rw [decide_eq_false hAB]
          refine git rfl (show (0 : Int32) = 0 from rfl) ?_
          repeat (first | refine gp rfl rfl rfl ?_ | refine ggf rfl (by assumption) (by rfl) ?_ | refine gal rfl (by assumption) (by rfl) (by omega) (by omega) ?_ | refine gil rfl (by assumption) (by rfl) (by omega) (by omega) ?_ | refine gbl rfl (by assumption) (by rfl) (by omega) (by omega) ?_ | refine gln rfl (xlen_i (by assumption)) ?_ | refine gln rfl (xlen_q (by assumption)) ?_)
          refine gpf rfl h1 (Nat.le_of_ble_eq_true rfl) (Or.inr ⟨rfl, Or.inr rfl⟩) ?_
          have L1 : hLM (xup σ 21 (.inr (.inr (6, [.inr (some 22), .inr (some 32), .inr (some 33), .inr (some 34), .inr (some 35), .inr (some 36), .inr (some 37), .inl (nI w.length), .inl (xk 1 0)])))) w true := ⟨xup_eq _ _ _, h2, f, by rw [xup_ne (by decide)]; exact h3, h4⟩
          have W1 : hW σ (xup σ 21 (.inr (.inr (6, [.inr (some 22), .inr (some 32), .inr (some 33), .inr (some 34), .inr (some 35), .inr (some 36), .inr (some 37), .inl (nI w.length), .inl (xk 1 0)])))) := hW.up (Or.inl rfl)
          show xGo (xEx (d + 1)) xtb_47 K (85, [some (.inr (some 21)), some (.inl (nI st)), none, none, none], [], (xup σ 21 (.inr (.inr (6, [.inr (some 22), .inr (some 32), .inr (some 33), .inr (some 34), .inr (some 35), .inr (some 36), .inr (some 37), .inl (nI w.length), .inl (xk 1 0)])))))
          generalize (xup σ 21 (.inr (.inr (6, [.inr (some 22), .inr (some 32), .inr (some 33), .inr (some 34), .inr (some 35), .inr (some 36), .inr (some 37), .inl (nI w.length), .inl (xk 1 0)])))) = σ1 at L1 W1 ⊢
          have eBad : pBad O A B = true := by unfold pBad; rw [decide_eq_false hAO, decide_eq_false hBO, decide_eq_false hAB]; rfl
          have eGap : pGap st O A B = pClash st O A B (pBn st A B) (pEn st A B) := by unfold pGap; rw [if_neg hAO, if_neg (by intro z; rcases z with z | z; exact hBO z; exact hAB z)]
          have hle := pBE_le st A B
          have hm1 := Nat.min_le_left A.length B.length
          have hm2 := Nat.min_le_right A.length B.length
          have tail2 : ∀ (σ2 : xS) (t en bn : Nat) (v : List Int32), bn = pBn st A B → en = pEn st A B → hLM σ2 v true → hW σ σ2 → pW v ([nI 18] ++ (pCut B bn (B.length - en) ++ ([nI 19] ++ pCut A (A.length - en) A.length))) = pW w (pGap st O A B) → xGo (xEx (d + 1)) xtb_47 K (202, [some (.inr (some 21)), some (.inl (nI st)), some (.inl (nI t)), some (.inl (nI bn)), some (.inl (nI en))], [.inl (nI 18), .inr (some 21)], σ2) := by
            intro σ2 t en bn v hbn hen hv hw he
            have e1 := hv.1
            obtain ⟨σ3, y1, y2, y3⟩ := m_write d (x := nI 18) hv
            refine gcv (As := [.inl (nI 18)]) (rest := []) rfl (by decide) y1 e1 rfl rfl (by decide) ?_
            have hw3 := hw.trans y3
            obtain ⟨zO, zA, zB, jO, jA, jB⟩ := hp.w hw3 ho ha hb
            have e3 := y2.1
            have qA3 : σ3.1 35 = some (.inr (.inr (5, [.inr (some a), .inl (nI fa), .inl (nI wa)]))) := zA
            have qB3 : σ3.1 36 = some (.inr (.inr (5, [.inr (some b), .inl (nI fb), .inl (nI wb)]))) := zB
            repeat (first | refine gp rfl rfl rfl ?_ | refine ggf rfl (by assumption) (by rfl) ?_ | refine gal rfl (by assumption) (by rfl) (by omega) (by omega) ?_ | refine gil rfl (by assumption) (by rfl) (by omega) (by omega) ?_ | refine gbl rfl (by assumption) (by rfl) (by omega) (by omega) ?_ | refine gln rfl (xlen_i (by assumption)) ?_ | refine gln rfl (xlen_q (by assumption)) ?_)
            rw [pk_sub (by omega)]
            obtain ⟨σ4, u1, u2, u3⟩ := m_wl d (s := bn) (e := wb - en) y2 zB jB (by decide) hb kb (by omega) sb (by omega)
            refine gcv (As := [.inr (some 36), .inl (nI bn), .inl (nI (wb - en))]) (rest := []) rfl (by decide) u1 e3 rfl rfl (by decide) ?_
            have hw4 := hw3.trans u3
            have e4 := u2.1
            repeat (first | refine gp rfl rfl rfl ?_ | refine ggf rfl (by assumption) (by rfl) ?_ | refine gal rfl (by assumption) (by rfl) (by omega) (by omega) ?_ | refine gil rfl (by assumption) (by rfl) (by omega) (by omega) ?_ | refine gbl rfl (by assumption) (by rfl) (by omega) (by omega) ?_ | refine gln rfl (xlen_i (by assumption)) ?_ | refine gln rfl (xlen_q (by assumption)) ?_)
            obtain ⟨σ5, v1, v2, v3⟩ := m_write d (x := nI 19) u2
            refine gcv (As := [.inl (nI 19)]) (rest := []) rfl (by decide) v1 e4 rfl rfl (by decide) ?_
            have hw5 := hw4.trans v3
            obtain ⟨-, zA5, -, -, jA5, -⟩ := hp.w hw5 ho ha hb
            have e5 := v2.1
            have qA5 : σ5.1 35 = some (.inr (.inr (5, [.inr (some a), .inl (nI fa), .inl (nI wa)]))) := zA5
            repeat (first | refine gp rfl rfl rfl ?_ | refine ggf rfl (by assumption) (by rfl) ?_ | refine gal rfl (by assumption) (by rfl) (by omega) (by omega) ?_ | refine gil rfl (by assumption) (by rfl) (by omega) (by omega) ?_ | refine gbl rfl (by assumption) (by rfl) (by omega) (by omega) ?_ | refine gln rfl (xlen_i (by assumption)) ?_ | refine gln rfl (xlen_q (by assumption)) ?_)
            rw [pk_sub (by omega)]
            obtain ⟨σ6, s1, s2, s3⟩ := m_wl d (s := wa - en) (e := wa) v2 zA5 jA5 (by decide) ha ka (by omega) sa (by omega)
            refine gcv (As := [.inr (some 35), .inl (nI (wa - en)), .inl (nI wa)]) (rest := []) rfl (by decide) s1 e5 rfl rfl (by decide) ?_
            refine grv rfl ⟨rfl, ?_, hw5.trans s3⟩
            rw [hA, hB, ← lA, ← lB, pW_pW, pW_pW, pW_pW, he] at s2
            rw [eBad, Bool.or_true]
            exact s2
          have tail : ∀ (t en bn : Nat), bn = pBn st A B → en = pEn st A B → xGo (xEx (d + 1)) xtb_47 K (145, [some (.inr (some 21)), some (.inl (nI st)), some (.inl (nI t)), some (.inl (nI bn)), some (.inl (nI en))], [.inl (nI bn), .inl (nI 0), .inr (some 35), .inr (some 21)], σ1) := by
            intro t en bn hbn hen
            have e1 := L1.1
            obtain ⟨-, zA, -, -, jA, -⟩ := hp.w W1 ho ha hb
            obtain ⟨σ3, y1, y2, y3⟩ := m_wl d (s := 0) (e := bn) L1 zA jA (by decide) ha ka (by omega) sa (by omega)
            refine gcv (As := [.inr (some 35), .inl (nI 0), .inl (nI bn)]) (rest := []) rfl (by decide) y1 e1 rfl rfl (by decide) ?_
            have hw3 := W1.trans y3
            have e3 := y2.1
            repeat (first | refine gp rfl rfl rfl ?_ | refine ggf rfl (by assumption) (by rfl) ?_ | refine gal rfl (by assumption) (by rfl) (by omega) (by omega) ?_ | refine gil rfl (by assumption) (by rfl) (by omega) (by omega) ?_ | refine gbl rfl (by assumption) (by rfl) (by omega) (by omega) ?_ | refine gln rfl (xlen_i (by assumption)) ?_ | refine gln rfl (xlen_q (by assumption)) ?_)
            obtain ⟨σ4, u1, u2, u3⟩ := m_write d (x := nI 16) y2
            refine gcv (As := [.inl (nI 16)]) (rest := []) rfl (by decide) u1 e3 rfl rfl (by decide) ?_
            have hw4 := hw3.trans u3
            obtain ⟨-, zA4, -, -, jA4, -⟩ := hp.w hw4 ho ha hb
            have e4 := u2.1
            have qA4 : σ4.1 35 = some (.inr (.inr (5, [.inr (some a), .inl (nI fa), .inl (nI wa)]))) := zA4
            repeat (first | refine gp rfl rfl rfl ?_ | refine ggf rfl (by assumption) (by rfl) ?_ | refine gal rfl (by assumption) (by rfl) (by omega) (by omega) ?_ | refine gil rfl (by assumption) (by rfl) (by omega) (by omega) ?_ | refine gbl rfl (by assumption) (by rfl) (by omega) (by omega) ?_ | refine gln rfl (xlen_i (by assumption)) ?_ | refine gln rfl (xlen_q (by assumption)) ?_)
            rw [pk_sub (by omega)]
            obtain ⟨σ5, v1, v2, v3⟩ := m_wl d (s := bn) (e := wa - en) u2 zA4 jA4 (by decide) ha ka (by omega) sa (by omega)
            refine gcv (As := [.inr (some 35), .inl (nI bn), .inl (nI (wa - en))]) (rest := []) rfl (by decide) v1 e4 rfl rfl (by decide) ?_
            have hw5 := hw4.trans v3
            have e5 := v2.1
            repeat (first | refine gp rfl rfl rfl ?_ | refine ggf rfl (by assumption) (by rfl) ?_ | refine gal rfl (by assumption) (by rfl) (by omega) (by omega) ?_ | refine gil rfl (by assumption) (by rfl) (by omega) (by omega) ?_ | refine gbl rfl (by assumption) (by rfl) (by omega) (by omega) ?_ | refine gln rfl (xlen_i (by assumption)) ?_ | refine gln rfl (xlen_q (by assumption)) ?_)
            by_cases hs0 : st = 0
            · refine git rfl (show nI st = 0 by rw [hs0]; rfl) ?_
              repeat (first | refine gp rfl rfl rfl ?_ | refine ggf rfl (by assumption) (by rfl) ?_ | refine gal rfl (by assumption) (by rfl) (by omega) (by omega) ?_ | refine gil rfl (by assumption) (by rfl) (by omega) (by omega) ?_ | refine gbl rfl (by assumption) (by rfl) (by omega) (by omega) ?_ | refine gln rfl (xlen_i (by assumption)) ?_ | refine gln rfl (xlen_q (by assumption)) ?_)
              refine tail2 σ5 t en bn _ hbn hen v2 hw5 ?_
              rw [hA, ← lA, pW_pW, pW_pW, pW_pW, eGap, ← hbn, ← hen]
              unfold pClash
              rw [if_pos hs0]
              simp only [List.append_assoc, List.nil_append]
            · refine giff rfl (fun z => hs0 ((nI_eq (by omega) (by omega)).mp (show nI st = nI 0 from z))) ?_
              repeat (first | refine gp rfl rfl rfl ?_ | refine ggf rfl (by assumption) (by rfl) ?_ | refine gal rfl (by assumption) (by rfl) (by omega) (by omega) ?_ | refine gil rfl (by assumption) (by rfl) (by omega) (by omega) ?_ | refine gbl rfl (by assumption) (by rfl) (by omega) (by omega) ?_ | refine gln rfl (xlen_i (by assumption)) ?_ | refine gln rfl (xlen_q (by assumption)) ?_)
              obtain ⟨σ6, s1, s2, s3⟩ := m_write d (x := nI 17) v2
              refine gcv (As := [.inl (nI 17)]) (rest := []) rfl (by decide) s1 e5 rfl rfl (by decide) ?_
              have hw6 := hw5.trans s3
              obtain ⟨zO6, -, -, jO6, -, -⟩ := hp.w hw6 ho ha hb
              have e6 := s2.1
              have qO6 : σ6.1 34 = some (.inr (.inr (5, [.inr (some o), .inl (nI fo), .inl (nI wo)]))) := zO6
              repeat (first | refine gp rfl rfl rfl ?_ | refine ggf rfl (by assumption) (by rfl) ?_ | refine gal rfl (by assumption) (by rfl) (by omega) (by omega) ?_ | refine gil rfl (by assumption) (by rfl) (by omega) (by omega) ?_ | refine gbl rfl (by assumption) (by rfl) (by omega) (by omega) ?_ | refine gln rfl (xlen_i (by assumption)) ?_ | refine gln rfl (xlen_q (by assumption)) ?_)
              obtain ⟨σ7, r1, r2, r3⟩ := m_wl d (s := 0) (e := wo) s2 zO6 jO6 (by decide) ho ko (Nat.le_refl _) so (by omega)
              refine gcv (As := [.inr (some 34), .inl (nI 0), .inl (nI wo)]) (rest := []) rfl (by decide) r1 e6 rfl rfl (by decide) ?_
              repeat (first | refine gp rfl rfl rfl ?_ | refine ggf rfl (by assumption) (by rfl) ?_ | refine gal rfl (by assumption) (by rfl) (by omega) (by omega) ?_ | refine gil rfl (by assumption) (by rfl) (by omega) (by omega) ?_ | refine gbl rfl (by assumption) (by rfl) (by omega) (by omega) ?_ | refine gln rfl (xlen_i (by assumption)) ?_ | refine gln rfl (xlen_q (by assumption)) ?_)
              refine tail2 σ7 t en bn _ hbn hen r2 (hw6.trans r3) ?_
              rw [hA, hO, ← lA, ← lO, pCut_all, pW_pW, pW_pW, pW_pW, pW_pW, pW_pW, eGap, ← hbn, ← hen]
              unfold pClash
              rw [if_neg hs0]
              simp only [List.append_assoc]
          have e1 := L1.1
          obtain ⟨zO, zA, zB, jO, jA, jB⟩ := hp.w W1 ho ha hb
          have qA1 : σ1.1 35 = some (.inr (.inr (5, [.inr (some a), .inl (nI fa), .inl (nI wa)]))) := zA
          have qB1 : σ1.1 36 = some (.inr (.inr (5, [.inr (some b), .inl (nI fb), .inl (nI wb)]))) := zB
          repeat (first | refine gp rfl rfl rfl ?_ | refine ggf rfl (by assumption) (by rfl) ?_ | refine gal rfl (by assumption) (by rfl) (by omega) (by omega) ?_ | refine gil rfl (by assumption) (by rfl) (by omega) (by omega) ?_ | refine gbl rfl (by assumption) (by rfl) (by omega) (by omega) ?_ | refine gln rfl (xlen_i (by assumption)) ?_ | refine gln rfl (xlen_q (by assumption)) ?_)
          by_cases hs2 : st = 2
          · refine gcf rfl (fun z => z (show nI st = nI 2 by rw [hs2])) ?_
            repeat (first | refine gp rfl rfl rfl ?_ | refine ggf rfl (by assumption) (by rfl) ?_ | refine gal rfl (by assumption) (by rfl) (by omega) (by omega) ?_ | refine gil rfl (by assumption) (by rfl) (by omega) (by omega) ?_ | refine gbl rfl (by assumption) (by rfl) (by omega) (by omega) ?_ | refine gln rfl (xlen_i (by assumption)) ?_ | refine gln rfl (xlen_q (by assumption)) ?_)
            refine giff rfl (fun h => absurd (show (1 : Int32) = 0 from h) (by decide)) ?_
            repeat (first | refine gp rfl rfl rfl ?_ | refine ggf rfl (by assumption) (by rfl) ?_ | refine gal rfl (by assumption) (by rfl) (by omega) (by omega) ?_ | refine gil rfl (by assumption) (by rfl) (by omega) (by omega) ?_ | refine gbl rfl (by assumption) (by rfl) (by omega) (by omega) ?_ | refine gln rfl (xlen_i (by assumption)) ?_ | refine gln rfl (xlen_q (by assumption)) ?_)
            refine gcv (As := [.inr (some 36)]) (rest := []) rfl (by decide) (m_commonBeginning d zA zB jA jB ka kb sa sb) qA1 rfl rfl (by decide) ?_
            have eH : pRun (fun j => decide (la.getD (fa + j) 0 = lb.getD (fb + j) 0)) (min wa wb) = pHead A B := by
              unfold pHead
              rw [lA, lB]
              refine pRun_congr (fun j hj => ?_)
              rw [← hA, ← hB, pSub_get (by omega), pSub_get (by omega)]
            rw [eH]
            have hH : pHead A B ≤ min wa wb := by rw [← lA, ← lB]; exact pRun_le _ _
            repeat (first | refine gp rfl rfl rfl ?_ | refine ggf rfl (by assumption) (by rfl) ?_ | refine gal rfl (by assumption) (by rfl) (by omega) (by omega) ?_ | refine gil rfl (by assumption) (by rfl) (by omega) (by omega) ?_ | refine gbl rfl (by assumption) (by rfl) (by omega) (by omega) ?_ | refine gln rfl (xlen_i (by assumption)) ?_ | refine gln rfl (xlen_q (by assumption)) ?_)
            refine giff rfl (fun h => absurd (show (1 : Int32) = 0 from h) (by decide)) ?_
            repeat (first | refine gp rfl rfl rfl ?_ | refine ggf rfl (by assumption) (by rfl) ?_ | refine gal rfl (by assumption) (by rfl) (by omega) (by omega) ?_ | refine gil rfl (by assumption) (by rfl) (by omega) (by omega) ?_ | refine gbl rfl (by assumption) (by rfl) (by omega) (by omega) ?_ | refine gln rfl (xlen_i (by assumption)) ?_ | refine gln rfl (xlen_q (by assumption)) ?_)
            have eB : pBn st A B = pHead A B := by unfold pBn; rw [if_pos hs2]
            have eE : pEn st A B = pTail A B (pHead A B) := by unfold pEn; rw [if_pos hs2]
            by_cases hz : 0 < wa ∧ 0 < wb
            · refine gcv (As := [.inr (some 36), .inl (nI (pHead A B))]) (rest := []) rfl (by decide) (m_commonEnd d zA zB jA jB ka kb sa sb hH (by omega) (by omega)) qA1 rfl rfl (by decide) ?_
              have eT : pRun (fun j => decide (la.getD (fa + wa - 1 - j) 0 = lb.getD (fb + wb - 1 - j) 0)) (min wa wb - pHead A B) = pTail A B (pHead A B) := by
                unfold pTail
                rw [lA, lB]
                refine pRun_congr (fun j hj => ?_)
                rw [← hA, ← hB, pSub_get (by omega), pSub_get (by omega), show fa + (wa - 1 - j) = fa + wa - 1 - j by omega, show fb + (wb - 1 - j) = fb + wb - 1 - j by omega]
              rw [eT]
              repeat (first | refine gp rfl rfl rfl ?_ | refine ggf rfl (by assumption) (by rfl) ?_ | refine gal rfl (by assumption) (by rfl) (by omega) (by omega) ?_ | refine gil rfl (by assumption) (by rfl) (by omega) (by omega) ?_ | refine gbl rfl (by assumption) (by rfl) (by omega) (by omega) ?_ | refine gln rfl (xlen_i (by assumption)) ?_ | refine gln rfl (xlen_q (by assumption)) ?_)
              exact tail 1 _ _ eB.symm eE.symm
            · have hm0 : min wa wb = 0 := by omega
              refine gcv (As := [.inr (some 36), .inl (nI (pHead A B))]) (rest := []) rfl (by decide) (m_commonEnd0 d zA zB (by omega) (by omega) (by omega)) qA1 rfl rfl (by decide) ?_
              have eT : pTail A B (pHead A B) = 0 := by
                have := pRun_le (fun j => decide (A.getD (A.length - 1 - j) 0 = B.getD (B.length - 1 - j) 0)) (min A.length B.length - pHead A B)
                unfold pTail
                omega
              repeat (first | refine gp rfl rfl rfl ?_ | refine ggf rfl (by assumption) (by rfl) ?_ | refine gal rfl (by assumption) (by rfl) (by omega) (by omega) ?_ | refine gil rfl (by assumption) (by rfl) (by omega) (by omega) ?_ | refine gbl rfl (by assumption) (by rfl) (by omega) (by omega) ?_ | refine gln rfl (xlen_i (by assumption)) ?_ | refine gln rfl (xlen_q (by assumption)) ?_)
              exact tail 1 0 _ eB.symm (by rw [eE, eT])
          · refine gct rfl (fun z => hs2 ((nI_eq (by omega) (by omega)).mp (show nI st = nI 2 from z))) ?_
            repeat (first | refine gp rfl rfl rfl ?_ | refine ggf rfl (by assumption) (by rfl) ?_ | refine gal rfl (by assumption) (by rfl) (by omega) (by omega) ?_ | refine gil rfl (by assumption) (by rfl) (by omega) (by omega) ?_ | refine gbl rfl (by assumption) (by rfl) (by omega) (by omega) ?_ | refine gln rfl (xlen_i (by assumption)) ?_ | refine gln rfl (xlen_q (by assumption)) ?_)
            refine git rfl (show (0 : Int32) = 0 from rfl) ?_
            repeat (first | refine gp rfl rfl rfl ?_ | refine ggf rfl (by assumption) (by rfl) ?_ | refine gal rfl (by assumption) (by rfl) (by omega) (by omega) ?_ | refine gil rfl (by assumption) (by rfl) (by omega) (by omega) ?_ | refine gbl rfl (by assumption) (by rfl) (by omega) (by omega) ?_ | refine gln rfl (xlen_i (by assumption)) ?_ | refine gln rfl (xlen_q (by assumption)) ?_)
            refine git rfl (show (0 : Int32) = 0 from rfl) ?_
            repeat (first | refine gp rfl rfl rfl ?_ | refine ggf rfl (by assumption) (by rfl) ?_ | refine gal rfl (by assumption) (by rfl) (by omega) (by omega) ?_ | refine gil rfl (by assumption) (by rfl) (by omega) (by omega) ?_ | refine gbl rfl (by assumption) (by rfl) (by omega) (by omega) ?_ | refine gln rfl (xlen_i (by assumption)) ?_ | refine gln rfl (xlen_q (by assumption)) ?_)
            exact tail 0 0 0 (by unfold pBn; rw [if_neg hs2]) (by unfold pEn; rw [if_neg hs2])
  obtain ⟨r, σ', hex, rfl, g1, g2⟩ := ex_of (d := d + 1) (y := 47) (as := [.inr (some 21), .inl (nI st)]) (σ := σ) (K := K) (by decide) rfl main
  exact ⟨σ', hex, g1, g2⟩
