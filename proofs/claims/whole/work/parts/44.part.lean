/-! MODULE: parts of texts, the class -/
/-- a part: fr lines in, wd lines wide, of the text l at b -/
def hPart (σ : xS) (a b fr wd : Nat) : Prop := σ.1 a = some (.inr (.inr (5, [.inr (some b), .inl (nI fr), .inl (nI wd)])))
/-- the lines of a part -/
def pSub (l : List Int32) (fr wd : Nat) : List Int32 := (l.drop fr).take wd
theorem pSub_len {l : List Int32} {fr wd : Nat} (h : fr + wd ≤ l.length) : (pSub l fr wd).length = wd := by
  unfold pSub
  rw [List.length_take, List.length_drop]
  omega
theorem pSub_get {l : List Int32} {fr wd j : Nat} (h : j < wd) : (pSub l fr wd).getD j 0 = l.getD (fr + j) 0 := by
  unfold pSub
  rw [List.getD_eq_getElem?_getD, List.getD_eq_getElem?_getD, List.getElem?_take_of_lt h, List.getElem?_drop]
theorem m_startAt (d : Nat) {σ : xS} {a b : Nat} {x y z : xV} (h : σ.1 a = some (.inr (.inr (5, [x, y, z])))) : xEx (d + 1) 37 [.inr (some a), .inr (some b)] σ none (xup σ a (.inr (.inr (5, [.inr (some b), .inl (nI 0), .inl (nI 0)])))) := by
  refine ⟨by decide, rfl, ?_⟩
  show xGo (xEx d) xtb_37 _ (0, [some (.inr (some a)), some (.inr (some b))], [], σ)
  repeat (first | refine gp rfl rfl rfl ?_ | refine ggf rfl (by assumption) (by rfl) ?_ | refine gal rfl (by assumption) (by rfl) (by omega) (by omega) ?_ | refine gil rfl (by assumption) (by rfl) (by omega) (by omega) ?_ | refine gbl rfl (by assumption) (by rfl) (by omega) (by omega) ?_ | refine gln rfl (xlen_i (by assumption)) ?_ | refine gln rfl (xlen_q (by assumption)) ?_)
  refine gpf rfl h (Nat.le_of_ble_eq_true rfl) rfl ?_
  repeat (first | refine gp rfl rfl rfl ?_ | refine ggf rfl (by assumption) (by rfl) ?_ | refine gal rfl (by assumption) (by rfl) (by omega) (by omega) ?_ | refine gil rfl (by assumption) (by rfl) (by omega) (by omega) ?_ | refine gbl rfl (by assumption) (by rfl) (by omega) (by omega) ?_ | refine gln rfl (xlen_i (by assumption)) ?_ | refine gln rfl (xlen_q (by assumption)) ?_)
  refine gpf rfl (xup_eq _ _ _) (Nat.le_of_ble_eq_true rfl) (Or.inl rfl) ?_
  rw [xup_up]
  repeat (first | refine gp rfl rfl rfl ?_ | refine ggf rfl (by assumption) (by rfl) ?_ | refine gal rfl (by assumption) (by rfl) (by omega) (by omega) ?_ | refine gil rfl (by assumption) (by rfl) (by omega) (by omega) ?_ | refine gbl rfl (by assumption) (by rfl) (by omega) (by omega) ?_ | refine gln rfl (xlen_i (by assumption)) ?_ | refine gln rfl (xlen_q (by assumption)) ?_)
  refine gpf rfl (xup_eq _ _ _) (Nat.le_of_ble_eq_true rfl) (Or.inl rfl) ?_
  rw [xup_up]
  exact grv rfl ⟨rfl, rfl⟩
theorem m_reachTo (d : Nat) {σ : xS} {a b fr wd e : Nat} (h : hPart σ a b fr wd) (he : fr ≤ e) : xEx (d + 1) 38 [.inr (some a), .inl (nI e)] σ none (xup σ a (.inr (.inr (5, [.inr (some b), .inl (nI fr), .inl (nI (e - fr))])))) := by
  have h : σ.1 a = some (.inr (.inr (5, [.inr (some b), .inl (nI fr), .inl (nI wd)]))) := h
  refine ⟨by decide, rfl, ?_⟩
  show xGo (xEx d) xtb_38 _ (0, [some (.inr (some a)), some (.inl (nI e))], [], σ)
  repeat (first | refine gp rfl rfl rfl ?_ | refine ggf rfl (by assumption) (by rfl) ?_ | refine gal rfl (by assumption) (by rfl) (by omega) (by omega) ?_ | refine gil rfl (by assumption) (by rfl) (by omega) (by omega) ?_ | refine gbl rfl (by assumption) (by rfl) (by omega) (by omega) ?_ | refine gln rfl (xlen_i (by assumption)) ?_ | refine gln rfl (xlen_q (by assumption)) ?_)
  rw [pk_sub he]
  refine gpf rfl h (Nat.le_of_ble_eq_true rfl) (Or.inl rfl) ?_
  exact grv rfl ⟨rfl, rfl⟩
theorem m_startBehind (d : Nat) {σ : xS} {a b fr wd e : Nat} (h : hPart σ a b fr wd) : xEx (d + 1) 42 [.inr (some a), .inl (nI e)] σ none (xup σ a (.inr (.inr (5, [.inr (some b), .inl (nI (e + 1)), .inl (nI 0)])))) := by
  have h : σ.1 a = some (.inr (.inr (5, [.inr (some b), .inl (nI fr), .inl (nI wd)]))) := h
  refine ⟨by decide, rfl, ?_⟩
  show xGo (xEx d) xtb_42 _ (0, [some (.inr (some a)), some (.inl (nI e))], [], σ)
  repeat (first | refine gp rfl rfl rfl ?_ | refine ggf rfl (by assumption) (by rfl) ?_ | refine gal rfl (by assumption) (by rfl) (by omega) (by omega) ?_ | refine gil rfl (by assumption) (by rfl) (by omega) (by omega) ?_ | refine gbl rfl (by assumption) (by rfl) (by omega) (by omega) ?_ | refine gln rfl (xlen_i (by assumption)) ?_ | refine gln rfl (xlen_q (by assumption)) ?_)
  rw [nI_s]
  refine gpf rfl h (Nat.le_of_ble_eq_true rfl) (Or.inl rfl) ?_
  repeat (first | refine gp rfl rfl rfl ?_ | refine ggf rfl (by assumption) (by rfl) ?_ | refine gal rfl (by assumption) (by rfl) (by omega) (by omega) ?_ | refine gil rfl (by assumption) (by rfl) (by omega) (by omega) ?_ | refine gbl rfl (by assumption) (by rfl) (by omega) (by omega) ?_ | refine gln rfl (xlen_i (by assumption)) ?_ | refine gln rfl (xlen_q (by assumption)) ?_)
  refine gpf rfl (xup_eq _ _ _) (Nat.le_of_ble_eq_true rfl) (Or.inl rfl) ?_
  rw [xup_up]
  exact grv rfl ⟨rfl, rfl⟩
theorem m_sameAs (d : Nat) {σ : xS} {a b fr wd a' b' fr' wd' : Nat} {l l' : List Int32} (h : hPart σ a b fr wd) (h' : hPart σ a' b' fr' wd') (hl : hInts σ b l) (hl' : hInts σ b' l') (k : fr + wd ≤ l.length) (k' : fr' + wd' ≤ l'.length) (s1 : l.length ≤ 76) (s2 : l'.length ≤ 76) : xEx (d + 1) 39 [.inr (some a), .inr (some a')] σ (some (.inl (bI (decide (pSub l fr wd = pSub l' fr' wd'))))) σ := by
  have h : σ.1 a = some (.inr (.inr (5, [.inr (some b), .inl (nI fr), .inl (nI wd)]))) := h
  have h' : σ.1 a' = some (.inr (.inr (5, [.inr (some b'), .inl (nI fr'), .inl (nI wd')]))) := h'
  obtain ⟨f, c1, c2⟩ := hl
  obtain ⟨f', c1', c2'⟩ := hl'
  refine ⟨by decide, rfl, ?_⟩
  show xGo (xEx d) xtb_39 _ (0, [some (.inr (some a)), some (.inr (some a')), none], [], σ)
  repeat (first | refine gp rfl rfl rfl ?_ | refine ggf rfl (by assumption) (by rfl) ?_ | refine gal rfl (by assumption) (by rfl) (by omega) (by omega) ?_ | refine gil rfl (by assumption) (by rfl) (by omega) (by omega) ?_ | refine gbl rfl (by assumption) (by rfl) (by omega) (by omega) ?_ | refine gln rfl (xlen_i (by assumption)) ?_ | refine gln rfl (xlen_q (by assumption)) ?_)
  refine gcp rfl (fun heq => ?_) (fun hne => ?_)
  · obtain rfl : wd = wd' := (nI_eq (by omega) (by omega)).mp heq
    have loop : ∀ k2 i, i + k2 = wd → (∀ j, j < i → l.getD (fr + j) 0 = l'.getD (fr' + j) 0) → xGo (xEx d) xtb_39 (fun r0 σ0 => r0 = some (.inl (bI (decide (pSub l fr wd = pSub l' fr' wd)))) ∧ σ0 = σ) (20, [some (.inr (some a)), some (.inr (some a')), some (.inl (nI i))], [.inl (nI wd), .inl (nI i)], σ) := by
      intro k2
      induction k2 with
      | zero =>
        intro i hi hall
        obtain rfl : i = wd := by omega
        refine gct rfl (show nI _ ≤ nI _ from nI_le (by omega) (by omega)) ?_
        repeat (first | refine gp rfl rfl rfl ?_ | refine ggf rfl (by assumption) (by rfl) ?_ | refine gal rfl (by assumption) (by rfl) (by omega) (by omega) ?_ | refine gil rfl (by assumption) (by rfl) (by omega) (by omega) ?_ | refine gbl rfl (by assumption) (by rfl) (by omega) (by omega) ?_ | refine gln rfl (xlen_i (by assumption)) ?_ | refine gln rfl (xlen_q (by assumption)) ?_)
        refine gri rfl (fun _ => Or.inr rfl) ⟨?_, rfl⟩
        rw [decide_eq_true]
        · rfl
        · refine pF_ext (by rw [pSub_len k, pSub_len k']) (fun j hj => ?_)
          rw [pSub_len k] at hj
          rw [pSub_get hj, pSub_get hj]
          exact hall j hj
      | succ k2 ih =>
        intro i hi hall
        refine gcf rfl (nI_ge (by omega) (by omega)) ?_
        repeat (first | refine gp rfl rfl rfl ?_ | refine ggf rfl (by assumption) (by rfl) ?_ | refine gal rfl (by assumption) (by rfl) (by omega) (by omega) ?_ | refine gil rfl (by assumption) (by rfl) (by omega) (by omega) ?_ | refine gbl rfl (by assumption) (by rfl) (by omega) (by omega) ?_ | refine gln rfl (xlen_i (by assumption)) ?_ | refine gln rfl (xlen_q (by assumption)) ?_)
        rw [nI_add]
        repeat (first | refine gp rfl rfl rfl ?_ | refine ggf rfl (by assumption) (by rfl) ?_ | refine gal rfl (by assumption) (by rfl) (by omega) (by omega) ?_ | refine gil rfl (by assumption) (by rfl) (by omega) (by omega) ?_ | refine gbl rfl (by assumption) (by rfl) (by omega) (by omega) ?_ | refine gln rfl (xlen_i (by assumption)) ?_ | refine gln rfl (xlen_q (by assumption)) ?_)
        rw [nI_add]
        repeat (first | refine gp rfl rfl rfl ?_ | refine ggf rfl (by assumption) (by rfl) ?_ | refine gal rfl (by assumption) (by rfl) (by omega) (by omega) ?_ | refine gil rfl (by assumption) (by rfl) (by omega) (by omega) ?_ | refine gbl rfl (by assumption) (by rfl) (by omega) (by omega) ?_ | refine gln rfl (xlen_i (by assumption)) ?_ | refine gln rfl (xlen_q (by assumption)) ?_)
        rw [c2 _ (by omega), c2' _ (by omega)]
        refine gcp rfl (fun h => ?_) (fun h => ?_)
        · repeat (first | refine gp rfl rfl rfl ?_ | refine ggf rfl (by assumption) (by rfl) ?_ | refine gal rfl (by assumption) (by rfl) (by omega) (by omega) ?_ | refine gil rfl (by assumption) (by rfl) (by omega) (by omega) ?_ | refine gbl rfl (by assumption) (by rfl) (by omega) (by omega) ?_ | refine gln rfl (xlen_i (by assumption)) ?_ | refine gln rfl (xlen_q (by assumption)) ?_)
          rw [nI_s]
          refine ih (i + 1) (by omega) (fun j hj => ?_)
          by_cases hji : j = i
          · subst hji; exact h
          · exact hall j (by omega)
        · repeat (first | refine gp rfl rfl rfl ?_ | refine ggf rfl (by assumption) (by rfl) ?_ | refine gal rfl (by assumption) (by rfl) (by omega) (by omega) ?_ | refine gil rfl (by assumption) (by rfl) (by omega) (by omega) ?_ | refine gbl rfl (by assumption) (by rfl) (by omega) (by omega) ?_ | refine gln rfl (xlen_i (by assumption)) ?_ | refine gln rfl (xlen_q (by assumption)) ?_)
          refine gri rfl (fun _ => Or.inl rfl) ⟨?_, rfl⟩
          rw [decide_eq_false]
          · rfl
          · intro z
            refine h ?_
            have this : (pSub l fr wd).getD i 0 = (pSub l' fr' wd).getD i 0 := by rw [z]
            rw [pSub_get (by omega), pSub_get (by omega)] at this
            exact this
    repeat (first | refine gp rfl rfl rfl ?_ | refine ggf rfl (by assumption) (by rfl) ?_ | refine gal rfl (by assumption) (by rfl) (by omega) (by omega) ?_ | refine gil rfl (by assumption) (by rfl) (by omega) (by omega) ?_ | refine gbl rfl (by assumption) (by rfl) (by omega) (by omega) ?_ | refine gln rfl (xlen_i (by assumption)) ?_ | refine gln rfl (xlen_q (by assumption)) ?_)
    exact loop wd 0 (by omega) (fun j hj => absurd hj (by omega))
  · repeat (first | refine gp rfl rfl rfl ?_ | refine ggf rfl (by assumption) (by rfl) ?_ | refine gal rfl (by assumption) (by rfl) (by omega) (by omega) ?_ | refine gil rfl (by assumption) (by rfl) (by omega) (by omega) ?_ | refine gbl rfl (by assumption) (by rfl) (by omega) (by omega) ?_ | refine gln rfl (xlen_i (by assumption)) ?_ | refine gln rfl (xlen_q (by assumption)) ?_)
    refine gri rfl (fun _ => Or.inl rfl) ⟨?_, rfl⟩
    rw [decide_eq_false]
    · rfl
    · intro z
      refine hne (show nI wd = nI wd' from ?_)
      have := congrArg List.length z
      rw [pSub_len k, pSub_len k'] at this
      rw [this]
/-- how many of 0 .. n - 1 from the first on -/
def pRun (P : Nat → Bool) (n : Nat) : Nat := (pFst (fun j => !P j) n).getD n
theorem pRun_le (P : Nat → Bool) (n : Nat) : pRun P n ≤ n := by
  unfold pRun
  cases h : pFst (fun j => !P j) n with
  | none => exact Nat.le_refl _
  | some i => exact Nat.le_of_lt (pFst_in h).1
theorem pFst_none {P : Nat → Bool} : ∀ {n : Nat}, (∀ j, j < n → P j = false) → pFst P n = none
  | 0, _ => rfl
  | n + 1, h => by rw [pFst_s, pFst_none (fun j hj => h j (by omega)), h n (by omega)]; rfl
theorem pRun_stop {P : Nat → Bool} {n i : Nat} (h : ∀ j, j < i → P j = true) (hi : i < n) (hp : P i = false) : pRun P n = i := by
  unfold pRun
  rw [pFst_hit (P := fun j => !P j) (i := i) (pFst_none (fun j hj => by simp [h j hj])) (by simp [hp]) hi]
  rfl
theorem pRun_all {P : Nat → Bool} {n : Nat} (h : ∀ j, j < n → P j = true) : pRun P n = n := by
  unfold pRun
  rw [pFst_none (fun j hj => by simp [h j hj])]
  rfl
theorem m_commonBeginning (d : Nat) {σ : xS} {a b fr wd a' b' fr' wd' : Nat} {l l' : List Int32} (h : hPart σ a b fr wd) (h' : hPart σ a' b' fr' wd') (hl : hInts σ b l) (hl' : hInts σ b' l') (k : fr + wd ≤ l.length) (k' : fr' + wd' ≤ l'.length) (s1 : l.length ≤ 76) (s2 : l'.length ≤ 76) : xEx (d + 1) 40 [.inr (some a), .inr (some a')] σ (some (.inl (nI (pRun (fun j => decide (l.getD (fr + j) 0 = l'.getD (fr' + j) 0)) (min wd wd'))))) σ := by
  have h : σ.1 a = some (.inr (.inr (5, [.inr (some b), .inl (nI fr), .inl (nI wd)]))) := h
  have h' : σ.1 a' = some (.inr (.inr (5, [.inr (some b'), .inl (nI fr'), .inl (nI wd')]))) := h'
  obtain ⟨f, c1, c2⟩ := hl
  obtain ⟨f', c1', c2'⟩ := hl'
  refine ⟨by decide, rfl, ?_⟩
  show xGo (xEx d) xtb_40 _ (0, [some (.inr (some a)), some (.inr (some a')), none, none], [], σ)
  repeat (first | refine gp rfl rfl rfl ?_ | refine ggf rfl (by assumption) (by rfl) ?_ | refine gal rfl (by assumption) (by rfl) (by omega) (by omega) ?_ | refine gil rfl (by assumption) (by rfl) (by omega) (by omega) ?_ | refine gbl rfl (by assumption) (by rfl) (by omega) (by omega) ?_ | refine gln rfl (xlen_i (by assumption)) ?_ | refine gln rfl (xlen_q (by assumption)) ?_)
  refine gmn rfl (by decide) ?_
  rw [mn_nI (by omega) (by omega)]
  have hm1 := Nat.min_le_left wd wd'
  have hm2 := Nat.min_le_right wd wd'
  generalize min wd wd' = n at hm1 hm2 ⊢
  have loop : ∀ k2 i, i + k2 = n → (∀ j, j < i → decide (l.getD (fr + j) 0 = l'.getD (fr' + j) 0) = true) → xGo (xEx d) xtb_40 (fun r0 σ0 => r0 = some (.inl (nI (pRun (fun j => decide (l.getD (fr + j) 0 = l'.getD (fr' + j) 0)) n))) ∧ σ0 = σ) (16, [some (.inr (some a)), some (.inr (some a')), some (.inl (nI n)), some (.inl (nI i))], [.inl (nI n), .inl (nI i)], σ) := by
    intro k2
    induction k2 with
    | zero =>
      intro i hi hall
      obtain rfl : i = n := by omega
      refine gct rfl (show nI _ ≤ nI _ from nI_le (by omega) (by omega)) ?_
      repeat (first | refine gp rfl rfl rfl ?_ | refine ggf rfl (by assumption) (by rfl) ?_ | refine gal rfl (by assumption) (by rfl) (by omega) (by omega) ?_ | refine gil rfl (by assumption) (by rfl) (by omega) (by omega) ?_ | refine gbl rfl (by assumption) (by rfl) (by omega) (by omega) ?_ | refine gln rfl (xlen_i (by assumption)) ?_ | refine gln rfl (xlen_q (by assumption)) ?_)
      exact gri rfl (fun h => absurd h (by decide)) ⟨by rw [pRun_all hall], rfl⟩
    | succ k2 ih =>
      intro i hi hall
      refine gcf rfl (nI_ge (by omega) (by omega)) ?_
      repeat (first | refine gp rfl rfl rfl ?_ | refine ggf rfl (by assumption) (by rfl) ?_ | refine gal rfl (by assumption) (by rfl) (by omega) (by omega) ?_ | refine gil rfl (by assumption) (by rfl) (by omega) (by omega) ?_ | refine gbl rfl (by assumption) (by rfl) (by omega) (by omega) ?_ | refine gln rfl (xlen_i (by assumption)) ?_ | refine gln rfl (xlen_q (by assumption)) ?_)
      rw [nI_add]
      repeat (first | refine gp rfl rfl rfl ?_ | refine ggf rfl (by assumption) (by rfl) ?_ | refine gal rfl (by assumption) (by rfl) (by omega) (by omega) ?_ | refine gil rfl (by assumption) (by rfl) (by omega) (by omega) ?_ | refine gbl rfl (by assumption) (by rfl) (by omega) (by omega) ?_ | refine gln rfl (xlen_i (by assumption)) ?_ | refine gln rfl (xlen_q (by assumption)) ?_)
      rw [nI_add]
      repeat (first | refine gp rfl rfl rfl ?_ | refine ggf rfl (by assumption) (by rfl) ?_ | refine gal rfl (by assumption) (by rfl) (by omega) (by omega) ?_ | refine gil rfl (by assumption) (by rfl) (by omega) (by omega) ?_ | refine gbl rfl (by assumption) (by rfl) (by omega) (by omega) ?_ | refine gln rfl (xlen_i (by assumption)) ?_ | refine gln rfl (xlen_q (by assumption)) ?_)
      rw [c2 _ (by omega), c2' _ (by omega)]
      refine gcp rfl (fun hne => ?_) (fun heq => ?_)
      · repeat (first | refine gp rfl rfl rfl ?_ | refine ggf rfl (by assumption) (by rfl) ?_ | refine gal rfl (by assumption) (by rfl) (by omega) (by omega) ?_ | refine gil rfl (by assumption) (by rfl) (by omega) (by omega) ?_ | refine gbl rfl (by assumption) (by rfl) (by omega) (by omega) ?_ | refine gln rfl (xlen_i (by assumption)) ?_ | refine gln rfl (xlen_q (by assumption)) ?_)
        refine gri rfl (fun h => absurd h (by decide)) ⟨?_, rfl⟩
        rw [pRun_stop (i := i) hall (by omega) (decide_eq_false hne)]
      · repeat (first | refine gp rfl rfl rfl ?_ | refine ggf rfl (by assumption) (by rfl) ?_ | refine gal rfl (by assumption) (by rfl) (by omega) (by omega) ?_ | refine gil rfl (by assumption) (by rfl) (by omega) (by omega) ?_ | refine gbl rfl (by assumption) (by rfl) (by omega) (by omega) ?_ | refine gln rfl (xlen_i (by assumption)) ?_ | refine gln rfl (xlen_q (by assumption)) ?_)
        rw [nI_s]
        refine ih (i + 1) (by omega) (fun j hj => ?_)
        by_cases hji : j = i
        · subst hji
          refine decide_eq_true ?_
          by_cases hz : l.getD (fr + j) 0 = l'.getD (fr' + j) 0
          · exact hz
          · exact absurd hz heq
        · exact hall j (by omega)
  repeat (first | refine gp rfl rfl rfl ?_ | refine ggf rfl (by assumption) (by rfl) ?_ | refine gal rfl (by assumption) (by rfl) (by omega) (by omega) ?_ | refine gil rfl (by assumption) (by rfl) (by omega) (by omega) ?_ | refine gbl rfl (by assumption) (by rfl) (by omega) (by omega) ?_ | refine gln rfl (xlen_i (by assumption)) ?_ | refine gln rfl (xlen_q (by assumption)) ?_)
  exact loop n 0 (by omega) (fun j hj => absurd hj (by omega))
theorem m_commonEnd (d : Nat) {σ : xS} {a b fr wd a' b' fr' wd' g : Nat} {l l' : List Int32} (h : hPart σ a b fr wd) (h' : hPart σ a' b' fr' wd') (hl : hInts σ b l) (hl' : hInts σ b' l') (k : fr + wd ≤ l.length) (k' : fr' + wd' ≤ l'.length) (s1 : l.length ≤ 76) (s2 : l'.length ≤ 76) (hg : g ≤ min wd wd') (hw : 0 < wd + fr) (hw' : 0 < wd' + fr') : xEx (d + 1) 41 [.inr (some a), .inr (some a'), .inl (nI g)] σ (some (.inl (nI (pRun (fun j => decide (l.getD (fr + wd - 1 - j) 0 = l'.getD (fr' + wd' - 1 - j) 0)) (min wd wd' - g))))) σ := by
  have h : σ.1 a = some (.inr (.inr (5, [.inr (some b), .inl (nI fr), .inl (nI wd)]))) := h
  have h' : σ.1 a' = some (.inr (.inr (5, [.inr (some b'), .inl (nI fr'), .inl (nI wd')]))) := h'
  obtain ⟨f, c1, c2⟩ := hl
  obtain ⟨f', c1', c2'⟩ := hl'
  refine ⟨by decide, rfl, ?_⟩
  show xGo (xEx d) xtb_41 _ (0, [some (.inr (some a)), some (.inr (some a')), some (.inl (nI g)), none, none, none, none], [], σ)
  repeat (first | refine gp rfl rfl rfl ?_ | refine ggf rfl (by assumption) (by rfl) ?_ | refine gal rfl (by assumption) (by rfl) (by omega) (by omega) ?_ | refine gil rfl (by assumption) (by rfl) (by omega) (by omega) ?_ | refine gbl rfl (by assumption) (by rfl) (by omega) (by omega) ?_ | refine gln rfl (xlen_i (by assumption)) ?_ | refine gln rfl (xlen_q (by assumption)) ?_)
  refine gmn rfl (by decide) ?_
  rw [mn_nI (by omega) (by omega)]
  have hm1 := Nat.min_le_left wd wd'
  have hm2 := Nat.min_le_right wd wd'
  repeat (first | refine gp rfl rfl rfl ?_ | refine ggf rfl (by assumption) (by rfl) ?_ | refine gal rfl (by assumption) (by rfl) (by omega) (by omega) ?_ | refine gil rfl (by assumption) (by rfl) (by omega) (by omega) ?_ | refine gbl rfl (by assumption) (by rfl) (by omega) (by omega) ?_ | refine gln rfl (xlen_i (by assumption)) ?_ | refine gln rfl (xlen_q (by assumption)) ?_)
  rw [pk_sub hg, nI_add, nI_add, show nI (fr + wd) - xk 1 0 = nI (fr + wd - 1) from pk_sub (by omega), show nI (fr' + wd') - xk 1 0 = nI (fr' + wd' - 1) from pk_sub (by omega)]
  generalize hn : min wd wd' - g = n
  have loop : ∀ k2 i, i + k2 = n → (∀ j, j < i → decide (l.getD (fr + wd - 1 - j) 0 = l'.getD (fr' + wd' - 1 - j) 0) = true) → xGo (xEx d) xtb_41 (fun r0 σ0 => r0 = some (.inl (nI (pRun (fun j => decide (l.getD (fr + wd - 1 - j) 0 = l'.getD (fr' + wd' - 1 - j) 0)) n))) ∧ σ0 = σ) (46, [some (.inr (some a)), some (.inr (some a')), some (.inl (nI g)), some (.inl (nI n)), some (.inl (nI (fr + wd - 1))), some (.inl (nI (fr' + wd' - 1))), some (.inl (nI i))], [.inl (nI n), .inl (nI i)], σ) := by
    intro k2
    induction k2 with
    | zero =>
      intro i hi hall
      obtain rfl : i = n := by omega
      refine gct rfl (show nI _ ≤ nI _ from nI_le (by omega) (by omega)) ?_
      repeat (first | refine gp rfl rfl rfl ?_ | refine ggf rfl (by assumption) (by rfl) ?_ | refine gal rfl (by assumption) (by rfl) (by omega) (by omega) ?_ | refine gil rfl (by assumption) (by rfl) (by omega) (by omega) ?_ | refine gbl rfl (by assumption) (by rfl) (by omega) (by omega) ?_ | refine gln rfl (xlen_i (by assumption)) ?_ | refine gln rfl (xlen_q (by assumption)) ?_)
      exact gri rfl (fun h => absurd h (by decide)) ⟨by rw [pRun_all hall], rfl⟩
    | succ k2 ih =>
      intro i hi hall
      refine gcf rfl (nI_ge (by omega) (by omega)) ?_
      repeat (first | refine gp rfl rfl rfl ?_ | refine ggf rfl (by assumption) (by rfl) ?_ | refine gal rfl (by assumption) (by rfl) (by omega) (by omega) ?_ | refine gil rfl (by assumption) (by rfl) (by omega) (by omega) ?_ | refine gbl rfl (by assumption) (by rfl) (by omega) (by omega) ?_ | refine gln rfl (xlen_i (by assumption)) ?_ | refine gln rfl (xlen_q (by assumption)) ?_)
      rw [pk_sub (by omega)]
      repeat (first | refine gp rfl rfl rfl ?_ | refine ggf rfl (by assumption) (by rfl) ?_ | refine gal rfl (by assumption) (by rfl) (by omega) (by omega) ?_ | refine gil rfl (by assumption) (by rfl) (by omega) (by omega) ?_ | refine gbl rfl (by assumption) (by rfl) (by omega) (by omega) ?_ | refine gln rfl (xlen_i (by assumption)) ?_ | refine gln rfl (xlen_q (by assumption)) ?_)
      rw [pk_sub (by omega)]
      repeat (first | refine gp rfl rfl rfl ?_ | refine ggf rfl (by assumption) (by rfl) ?_ | refine gal rfl (by assumption) (by rfl) (by omega) (by omega) ?_ | refine gil rfl (by assumption) (by rfl) (by omega) (by omega) ?_ | refine gbl rfl (by assumption) (by rfl) (by omega) (by omega) ?_ | refine gln rfl (xlen_i (by assumption)) ?_ | refine gln rfl (xlen_q (by assumption)) ?_)
      rw [c2 _ (by omega), c2' _ (by omega)]
      refine gcp rfl (fun hne => ?_) (fun heq => ?_)
      · repeat (first | refine gp rfl rfl rfl ?_ | refine ggf rfl (by assumption) (by rfl) ?_ | refine gal rfl (by assumption) (by rfl) (by omega) (by omega) ?_ | refine gil rfl (by assumption) (by rfl) (by omega) (by omega) ?_ | refine gbl rfl (by assumption) (by rfl) (by omega) (by omega) ?_ | refine gln rfl (xlen_i (by assumption)) ?_ | refine gln rfl (xlen_q (by assumption)) ?_)
        refine gri rfl (fun h => absurd h (by decide)) ⟨?_, rfl⟩
        rw [pRun_stop (i := i) hall (by omega) (decide_eq_false hne)]
      · repeat (first | refine gp rfl rfl rfl ?_ | refine ggf rfl (by assumption) (by rfl) ?_ | refine gal rfl (by assumption) (by rfl) (by omega) (by omega) ?_ | refine gil rfl (by assumption) (by rfl) (by omega) (by omega) ?_ | refine gbl rfl (by assumption) (by rfl) (by omega) (by omega) ?_ | refine gln rfl (xlen_i (by assumption)) ?_ | refine gln rfl (xlen_q (by assumption)) ?_)
        rw [nI_s]
        refine ih (i + 1) (by omega) (fun j hj => ?_)
        by_cases hji : j = i
        · subst hji
          refine decide_eq_true ?_
          by_cases hz : l.getD (fr + wd - 1 - j) 0 = l'.getD (fr' + wd' - 1 - j) 0
          · exact hz
          · exact absurd hz heq
        · exact hall j (by omega)
  exact loop n 0 (by omega) (fun j hj => absurd hj (by omega))
