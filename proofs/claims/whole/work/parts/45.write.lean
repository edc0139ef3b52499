/-! MODULE: what is written, the class -/
/-- what changes is the merger's counter and what it wrote -/
def hW (σ σ' : xS) : Prop := σ'.2 = σ.2 ∧ ∀ k, k ≠ 21 → k ≠ 37 → σ'.1 k = σ.1 k
theorem hW.refl (σ : xS) : hW σ σ := ⟨rfl, fun _ _ _ => rfl⟩
theorem hW.trans {a b c : xS} (h1 : hW a b) (h2 : hW b c) : hW a c := ⟨h2.1.trans h1.1, fun k hk hk' => (h2.2 k hk hk').trans (h1.2 k hk hk')⟩
theorem hW.up {σ : xS} {k : Nat} {e : xE} (h : k = 21 ∨ k = 37) : hW σ (xup σ k e) := ⟨rfl, fun j h1 h2 => xup_ne (by omega)⟩
theorem hW.keep {σ σ' : xS} (h : hW σ σ') : hKeep σ σ' := fun k e hk hs => by rw [h.2 k (by omega) (by omega)]; exact hs
def xLMf (n : Int32) (c : Bool) : List xV := [.inr (some 22), .inr (some 32), .inr (some 33), .inr (some 34), .inr (some 35), .inr (some 36), .inr (some 37), .inl n, .inl (bI c)]
def hLM (σ : xS) (w : List Int32) (c : Bool) : Prop := σ.1 21 = some (.inr (.inr (6, [.inr (some 22), .inr (some 32), .inr (some 33), .inr (some 34), .inr (some 35), .inr (some 36), .inr (some 37), .inl (nI w.length), .inl (bI c)]))) ∧ w.length ≤ 76 ∧ ∃ f : Nat → Int32, σ.1 37 = some (.inl (0, 76, f)) ∧ ∀ j, j < w.length → f j = w.getD j 0
/-- what is written holds 76 lines -/
def pW (w l : List Int32) : List Int32 := (w ++ l).take 76
theorem pW_len (w l : List Int32) : (pW w l).length ≤ 76 := by unfold pW; rw [List.length_take]; omega
theorem pW_nil {w : List Int32} (h : w.length ≤ 76) : pW w [] = w := by unfold pW; rw [List.append_nil, List.take_of_length_le h]
theorem pW_full {w : List Int32} (l : List Int32) (h : w.length = 76) : pW w l = w := by unfold pW; rw [List.take_append_of_le_length (by omega), List.take_of_length_le (by omega)]
theorem pW_pW (w l m : List Int32) : pW (pW w l) m = pW w (l ++ m) := by
  unfold pW
  rw [← List.append_assoc, List.take_append, List.take_append (l₁ := w ++ l), List.take_take, List.length_take]
  congr 1
  by_cases h : (w ++ l).length ≤ 76
  · rw [Nat.min_eq_right h]
  · rw [show 76 - min 76 (w ++ l).length = 0 by omega, show 76 - (w ++ l).length = 0 by omega]
theorem pW_one {w : List Int32} {x : Int32} (h : w.length < 76) : pW w [x] = w ++ [x] := by unfold pW; rw [List.take_of_length_le (by rw [List.length_append]; exact h)]
theorem getD_app {w : List Int32} {x : Int32} {j : Nat} (h : j < w.length) : (w ++ [x]).getD j 0 = w.getD j 0 := by
  rw [List.getD_eq_getElem?_getD, List.getD_eq_getElem?_getD, List.getElem?_append_left h]
theorem getD_app' {w : List Int32} {x : Int32} : (w ++ [x]).getD w.length 0 = x := by
  rw [List.getD_eq_getElem?_getD, List.getElem?_append_right (Nat.le_refl _)]
  simp
/-- one line is put at the end -/
theorem hLM_put {σ : xS} {w : List Int32} {c : Bool} {x : Int32} {f : Nat → Int32} (h : σ.1 21 = some (.inr (.inr (6, [.inr (some 22), .inr (some 32), .inr (some 33), .inr (some 34), .inr (some 35), .inr (some 36), .inr (some 37), .inl (nI w.length), .inl (bI c)])))) (hw : w.length < 76) (h3 : ∀ j, j < w.length → f j = w.getD j 0) : hLM (xup (xup σ 37 (.inl (0, 76, upd f w.length x))) 21 (.inr (.inr (6, [.inr (some 22), .inr (some 32), .inr (some 33), .inr (some 34), .inr (some 35), .inr (some 36), .inr (some 37), .inl (nI (w.length + 1)), .inl (bI c)])))) (w ++ [x]) c := by
  refine ⟨?_, by rw [List.length_append]; exact hw, upd f w.length x, ?_, ?_⟩
  · rw [xup_eq, List.length_append]; rfl
  · rw [xup_ne (by decide)]; exact xup_eq _ _ _
  · intro j hj
    rw [List.length_append] at hj
    have hj : j < w.length + 1 := hj
    by_cases hjw : j = w.length
    · subst hjw
      rw [getD_app']
      simp [upd]
    · rw [getD_app (by omega)]
      simp only [upd, if_neg hjw]
      exact h3 j (by omega)
theorem m_write (d : Nat) {σ : xS} {w : List Int32} {c : Bool} {x : Int32} (h : hLM σ w c) : ∃ σ', xEx (d + 1) 49 [.inr (some 21), .inl x] σ none σ' ∧ hLM σ' (pW w [x]) c ∧ hW σ σ' := by
  have h0 := h
  obtain ⟨h1, h2, f, h3, h4⟩ := h
  by_cases hw : w.length < 76
  · refine ⟨_, ⟨by decide, rfl, ?_⟩, by rw [pW_one hw]; exact hLM_put (x := x) h1 hw h4, (hW.up (Or.inr rfl)).trans (hW.up (Or.inl rfl))⟩
    show xGo (xEx d) xtb_49 _ (0, [some (.inr (some 21)), some (.inl x)], [], σ)
    repeat (first | refine gp rfl rfl rfl ?_ | refine ggf rfl (by assumption) (by rfl) ?_ | refine gal rfl (by assumption) (by rfl) (by omega) (by omega) ?_ | refine gil rfl (by assumption) (by rfl) (by omega) (by omega) ?_ | refine gbl rfl (by assumption) (by rfl) (by omega) (by omega) ?_ | refine gln rfl (xlen_i (by assumption)) ?_ | refine gln rfl (xlen_q (by assumption)) ?_)
    refine gcf rfl (nI_ge hw (by omega)) ?_
    repeat (first | refine gp rfl rfl rfl ?_ | refine ggf rfl (by assumption) (by rfl) ?_ | refine gal rfl (by assumption) (by rfl) (by omega) (by omega) ?_ | refine gil rfl (by assumption) (by rfl) (by omega) (by omega) ?_ | refine gbl rfl (by assumption) (by rfl) (by omega) (by omega) ?_ | refine gln rfl (xlen_i (by assumption)) ?_ | refine gln rfl (xlen_q (by assumption)) ?_)
    refine gis rfl h3 rfl hw (by omega) (by decide) ?_
    have c1 : (xup σ 37 (.inl (0, 76, upd f w.length x))).1 21 = some (.inr (.inr (6, [.inr (some 22), .inr (some 32), .inr (some 33), .inr (some 34), .inr (some 35), .inr (some 36), .inr (some 37), .inl (nI w.length), .inl (bI c)]))) := by rw [xup_ne (by decide)]; exact h1
    repeat (first | refine gp rfl rfl rfl ?_ | refine ggf rfl (by assumption) (by rfl) ?_ | refine gal rfl (by assumption) (by rfl) (by omega) (by omega) ?_ | refine gil rfl (by assumption) (by rfl) (by omega) (by omega) ?_ | refine gbl rfl (by assumption) (by rfl) (by omega) (by omega) ?_ | refine gln rfl (xlen_i (by assumption)) ?_ | refine gln rfl (xlen_q (by assumption)) ?_)
    rw [nI_s]
    refine gpf rfl c1 (Nat.le_of_ble_eq_true rfl) (Or.inl rfl) ?_
    exact grv rfl ⟨rfl, rfl⟩
  · refine ⟨σ, ⟨by decide, rfl, ?_⟩, by rw [pW_full _ (by omega)]; exact h0, hW.refl σ⟩
    show xGo (xEx d) xtb_49 _ (0, [some (.inr (some 21)), some (.inl x)], [], σ)
    repeat (first | refine gp rfl rfl rfl ?_ | refine ggf rfl (by assumption) (by rfl) ?_ | refine gal rfl (by assumption) (by rfl) (by omega) (by omega) ?_ | refine gil rfl (by assumption) (by rfl) (by omega) (by omega) ?_ | refine gbl rfl (by assumption) (by rfl) (by omega) (by omega) ?_ | refine gln rfl (xlen_i (by assumption)) ?_ | refine gln rfl (xlen_q (by assumption)) ?_)
    refine gct rfl (show nI 76 ≤ nI _ from nI_le (by omega) (by omega)) ?_
    exact grv rfl ⟨rfl, rfl⟩
theorem pSub_step {l : List Int32} {i n : Nat} (h : i < l.length) : pSub l i (n + 1) = l.getD i 0 :: pSub l (i + 1) n := by
  unfold pSub
  rw [List.drop_eq_getElem_cons h, List.take_succ_cons]
  congr 1
  rw [List.getD_eq_getElem?_getD, List.getElem?_eq_getElem h]
  rfl
theorem pSub_zero (l : List Int32) (i : Nat) : pSub l i 0 = [] := by unfold pSub; rw [List.take_zero]
theorem m_writeLines (d : Nat) {σ : xS} {w : List Int32} {c : Bool} {a b fr wd s e : Nat} {l : List Int32} (h : hLM σ w c) (hp : hPart σ a b fr wd) (hl : hInts σ b l) (ha : a ≠ 21 ∧ a ≠ 37) (hb : b ≠ 21 ∧ b ≠ 37) (he : fr + e ≤ l.length) (hs : l.length ≤ 76) (hse : s ≤ e) : ∃ σ', xEx (d + 1) 48 [.inr (some 21), .inr (some a), .inl (nI s), .inl (nI e)] σ none σ' ∧ hLM σ' (pW w (pSub l (fr + s) (e - s))) c ∧ hW σ σ' := by
  have hp : σ.1 a = some (.inr (.inr (5, [.inr (some b), .inl (nI fr), .inl (nI wd)]))) := hp
  obtain ⟨g, c1, c2⟩ := hl
  have loop : ∀ k i (σ1 : xS) (v : List Int32), i + k = e → hLM σ1 v c → hW σ σ1 → xGo (xEx d) xtb_48 (fun r0 σ0 => r0 = none ∧ hLM σ0 (pW v (pSub l (fr + i) k)) c ∧ hW σ σ0) (6, [some (.inr (some 21)), some (.inr (some a)), some (.inl (nI s)), some (.inl (nI e)), some (.inl (nI i))], [.inl (nI e), .inl (nI i)], σ1) := by
    intro k
    induction k with
    | zero =>
      intro i σ1 v hi hv hw
      obtain rfl : i = e := by omega
      refine gct rfl (show nI _ ≤ nI _ from nI_le (by omega) (by omega)) ?_
      refine grv rfl ⟨rfl, ?_, hw⟩
      rw [pSub_zero, pW_nil hv.2.1]
      exact hv
    | succ k ih =>
      intro i σ1 v hi hv hw
      have hv0 := hv
      obtain ⟨h1, h2, f, h3, h4⟩ := hv
      have p1 : σ1.1 a = some (.inr (.inr (5, [.inr (some b), .inl (nI fr), .inl (nI wd)]))) := by rw [hw.2 a ha.1 ha.2]; exact hp
      have p2 : σ1.1 b = some (.inl (0, l.length, g)) := by rw [hw.2 b hb.1 hb.2]; exact c1
      refine gcf rfl (nI_ge (by omega) (by omega)) ?_
      repeat (first | refine gp rfl rfl rfl ?_ | refine ggf rfl (by assumption) (by rfl) ?_ | refine gal rfl (by assumption) (by rfl) (by omega) (by omega) ?_ | refine gil rfl (by assumption) (by rfl) (by omega) (by omega) ?_ | refine gbl rfl (by assumption) (by rfl) (by omega) (by omega) ?_ | refine gln rfl (xlen_i (by assumption)) ?_ | refine gln rfl (xlen_q (by assumption)) ?_)
      by_cases hvl : v.length < 76
      · refine gcf rfl (nI_ge hvl (by omega)) ?_
        repeat (first | refine gp rfl rfl rfl ?_ | refine ggf rfl (by assumption) (by rfl) ?_ | refine gal rfl (by assumption) (by rfl) (by omega) (by omega) ?_ | refine gil rfl (by assumption) (by rfl) (by omega) (by omega) ?_ | refine gbl rfl (by assumption) (by rfl) (by omega) (by omega) ?_ | refine gln rfl (xlen_i (by assumption)) ?_ | refine gln rfl (xlen_q (by assumption)) ?_)
        rw [nI_add]
        repeat (first | refine gp rfl rfl rfl ?_ | refine ggf rfl (by assumption) (by rfl) ?_ | refine gal rfl (by assumption) (by rfl) (by omega) (by omega) ?_ | refine gil rfl (by assumption) (by rfl) (by omega) (by omega) ?_ | refine gbl rfl (by assumption) (by rfl) (by omega) (by omega) ?_ | refine gln rfl (xlen_i (by assumption)) ?_ | refine gln rfl (xlen_q (by assumption)) ?_)
        rw [c2 _ (by omega)]
        refine gis rfl h3 rfl hvl (by omega) (by decide) ?_
        have c1 : (xup σ1 37 (.inl (0, 76, upd f v.length (l.getD (fr + i) 0)))).1 21 = some (.inr (.inr (6, [.inr (some 22), .inr (some 32), .inr (some 33), .inr (some 34), .inr (some 35), .inr (some 36), .inr (some 37), .inl (nI v.length), .inl (bI c)]))) := by rw [xup_ne (by decide)]; exact h1
        repeat (first | refine gp rfl rfl rfl ?_ | refine ggf rfl (by assumption) (by rfl) ?_ | refine gal rfl (by assumption) (by rfl) (by omega) (by omega) ?_ | refine gil rfl (by assumption) (by rfl) (by omega) (by omega) ?_ | refine gbl rfl (by assumption) (by rfl) (by omega) (by omega) ?_ | refine gln rfl (xlen_i (by assumption)) ?_ | refine gln rfl (xlen_q (by assumption)) ?_)
        rw [nI_s]
        refine gpf rfl c1 (Nat.le_of_ble_eq_true rfl) (Or.inl rfl) ?_
        repeat (first | refine gp rfl rfl rfl ?_ | refine ggf rfl (by assumption) (by rfl) ?_ | refine gal rfl (by assumption) (by rfl) (by omega) (by omega) ?_ | refine gil rfl (by assumption) (by rfl) (by omega) (by omega) ?_ | refine gbl rfl (by assumption) (by rfl) (by omega) (by omega) ?_ | refine gln rfl (xlen_i (by assumption)) ?_ | refine gln rfl (xlen_q (by assumption)) ?_)
        rw [nI_s]
        have := ih (i + 1) _ (v ++ [l.getD (fr + i) 0]) (by omega) (hLM_put (x := l.getD (fr + i) 0) h1 hvl h4) (hw.trans ((hW.up (Or.inr rfl)).trans (hW.up (Or.inl rfl))))
        rw [← pW_one hvl, pW_pW] at this
        rw [pSub_step (by omega)]
        exact this
      · refine gct rfl (show nI 76 ≤ nI _ from nI_le (by omega) (by omega)) ?_
        refine grv rfl ⟨rfl, ?_, hw⟩
        rw [pW_full _ (by omega)]
        exact hv0
  obtain ⟨r, σ', hex, rfl, h1, h2⟩ := ex_of (d := d) (y := 48) (as := [.inr (some 21), .inr (some a), .inl (nI s), .inl (nI e)]) (σ := σ) (K := fun r0 σ0 => r0 = none ∧ hLM σ0 (pW w (pSub l (fr + s) (e - s))) c ∧ hW σ σ0) (by decide) rfl (by
    show xGo (xEx d) xtb_48 _ (0, [some (.inr (some 21)), some (.inr (some a)), some (.inl (nI s)), some (.inl (nI e)), none], [], σ)
    repeat (first | refine gp rfl rfl rfl ?_ | refine ggf rfl (by assumption) (by rfl) ?_ | refine gal rfl (by assumption) (by rfl) (by omega) (by omega) ?_ | refine gil rfl (by assumption) (by rfl) (by omega) (by omega) ?_ | refine gbl rfl (by assumption) (by rfl) (by omega) (by omega) ?_ | refine gln rfl (xlen_i (by assumption)) ?_ | refine gln rfl (xlen_q (by assumption)) ?_)
    exact loop (e - s) s σ w (by omega) h (hW.refl σ))
  exact ⟨σ', hex, h1, h2⟩
