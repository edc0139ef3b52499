/-! MODULE: files of the class -/
abbrev pF : Type := Bool × List Int32
def hInts (σ : xS) (b : Nat) (l : List Int32) : Prop := ∃ f : Nat → Int32, σ.1 b = some (.inl (0, l.length, f)) ∧ ∀ j, j < l.length → f j = l.getD j 0
/-- a file lies at q: its two cells are none of the 63 that stay -/
def hFile (σ : xS) (q : Nat) (F : pF) : Prop := ∃ b : Nat, σ.1 q = some (.inr (.inr (1, [.inl (bI F.1), .inr (some b)]))) ∧ hInts σ b F.2 ∧ F.2.length ≤ 76 ∧ 63 ≤ q ∧ 63 ≤ b
def hOpt (σ : xS) (q : Option Nat) (F : Option pF) : Prop := match q, F with
  | none, none => True
  | some q, some F => hFile σ q F
  | _, _ => False
/-- what was made stays as it is -/
def hKeep (σ σ' : xS) : Prop := ∀ (k : Nat) (e : xE), 63 ≤ k → σ.1 k = some e → σ'.1 k = some e
theorem hFile.keep {σ σ' : xS} {q : Nat} {F : pF} (h : hFile σ q F) (hk : hKeep σ σ') : hFile σ' q F := by
  obtain ⟨b, h1, ⟨f, h2, h3⟩, h4, h5, h6⟩ := h
  exact ⟨b, hk _ _ h5 h1, ⟨f, hk _ _ h6 h2, h3⟩, h4, h5, h6⟩
theorem hOpt.keep {σ σ' : xS} {q : Option Nat} {F : Option pF} (h : hOpt σ q F) (hk : hKeep σ σ') : hOpt σ' q F := by
  match q, F, h with
  | none, none, _ => trivial
  | some q, some F, h => exact hFile.keep h hk
theorem hKeep.refl (σ : xS) : hKeep σ σ := fun _ _ _ h => h
theorem hKeep.trans {a b c : xS} (h1 : hKeep a b) (h2 : hKeep b c) : hKeep a c := fun k e hk h => h2 k e hk (h1 k e hk h)
theorem hKeep.up {σ : xS} {k : Nat} {e : xE} (h : k < 63) : hKeep σ (xup σ k e) := fun j e' hj hs => by rw [xup_ne (by omega)]; exact hs
theorem m_lineAt (d : Nat) {σ : xS} {q j : Nat} {F : pF} (h : hFile σ q F) (hj : j < F.2.length) : xEx (d + 1) 4 [.inr (some q), .inl (nI j)] σ (some (.inl (F.2.getD j 0))) σ := by
  obtain ⟨b, h1, ⟨f, h2, h3⟩, h4, -, -⟩ := h
  refine ⟨by decide, rfl, ?_⟩
  show xGo (xEx d) xtb_4 _ (0, [some (.inr (some q)), some (.inl (nI j))], [], σ)
  repeat (first | refine gp rfl rfl rfl ?_ | refine ggf rfl (by assumption) (by rfl) ?_ | refine gal rfl (by assumption) (by rfl) (by omega) (by omega) ?_ | refine gil rfl (by assumption) (by rfl) (by omega) (by omega) ?_ | refine gbl rfl (by assumption) (by rfl) (by omega) (by omega) ?_ | refine gln rfl (xlen_i (by assumption)) ?_ | refine gln rfl (xlen_q (by assumption)) ?_)
  refine giff rfl (nI_pos (by omega)) ?_
  repeat (first | refine gp rfl rfl rfl ?_ | refine ggf rfl (by assumption) (by rfl) ?_ | refine gal rfl (by assumption) (by rfl) (by omega) (by omega) ?_ | refine gil rfl (by assumption) (by rfl) (by omega) (by omega) ?_ | refine gbl rfl (by assumption) (by rfl) (by omega) (by omega) ?_ | refine gln rfl (xlen_i (by assumption)) ?_ | refine gln rfl (xlen_q (by assumption)) ?_)
  refine gcf rfl (nI_ge hj (by omega)) ?_
  repeat (first | refine gp rfl rfl rfl ?_ | refine ggf rfl (by assumption) (by rfl) ?_ | refine gal rfl (by assumption) (by rfl) (by omega) (by omega) ?_ | refine gil rfl (by assumption) (by rfl) (by omega) (by omega) ?_ | refine gbl rfl (by assumption) (by rfl) (by omega) (by omega) ?_ | refine gln rfl (xlen_i (by assumption)) ?_ | refine gln rfl (xlen_q (by assumption)) ?_)
  refine gri rfl (fun h => absurd h (by decide)) ⟨by rw [h3 j hj], rfl⟩
theorem m_lineAt_no (d : Nat) {σ : xS} {q : Nat} {x : Int32} {F : pF} (h : hFile σ q F) (hx : ¬ (0 ≤ x ∧ x < nI F.2.length)) : xEx (d + 1) 4 [.inr (some q), .inl x] σ (some (.inl 0)) σ := by
  obtain ⟨b, h1, ⟨f, h2, h3⟩, h4, -, -⟩ := h
  refine ⟨by decide, rfl, ?_⟩
  show xGo (xEx d) xtb_4 _ (0, [some (.inr (some q)), some (.inl x)], [], σ)
  repeat (first | refine gp rfl rfl rfl ?_ | refine ggf rfl (by assumption) (by rfl) ?_ | refine gal rfl (by assumption) (by rfl) (by omega) (by omega) ?_ | refine gil rfl (by assumption) (by rfl) (by omega) (by omega) ?_ | refine gbl rfl (by assumption) (by rfl) (by omega) (by omega) ?_ | refine gln rfl (xlen_i (by assumption)) ?_ | refine gln rfl (xlen_q (by assumption)) ?_)
  refine gif' rfl (fun hn => ?_) (fun hn => ?_)
  · repeat (first | refine gp rfl rfl rfl ?_ | refine ggf rfl (by assumption) (by rfl) ?_ | refine gal rfl (by assumption) (by rfl) (by omega) (by omega) ?_ | refine gil rfl (by assumption) (by rfl) (by omega) (by omega) ?_ | refine gbl rfl (by assumption) (by rfl) (by omega) (by omega) ?_ | refine gln rfl (xlen_i (by assumption)) ?_ | refine gln rfl (xlen_q (by assumption)) ?_)
    exact gri rfl (fun h => absurd h (by decide)) ⟨rfl, rfl⟩
  · repeat (first | refine gp rfl rfl rfl ?_ | refine ggf rfl (by assumption) (by rfl) ?_ | refine gal rfl (by assumption) (by rfl) (by omega) (by omega) ?_ | refine gil rfl (by assumption) (by rfl) (by omega) (by omega) ?_ | refine gbl rfl (by assumption) (by rfl) (by omega) (by omega) ?_ | refine gln rfl (xlen_i (by assumption)) ?_ | refine gln rfl (xlen_q (by assumption)) ?_)
    refine gct rfl (show nI F.2.length ≤ x from ?_) ?_
    · exact Int32.not_lt.mp (fun z => hx ⟨Int32.not_lt.mp hn, z⟩)
    · repeat (first | refine gp rfl rfl rfl ?_ | refine ggf rfl (by assumption) (by rfl) ?_ | refine gal rfl (by assumption) (by rfl) (by omega) (by omega) ?_ | refine gil rfl (by assumption) (by rfl) (by omega) (by omega) ?_ | refine gbl rfl (by assumption) (by rfl) (by omega) (by omega) ?_ | refine gln rfl (xlen_i (by assumption)) ?_ | refine gln rfl (xlen_q (by assumption)) ?_)
      exact gri rfl (fun h => absurd h (by decide)) ⟨rfl, rfl⟩
theorem bI_inj {a b : Bool} (h : bI a = bI b) : a = b := by
  cases a <;> cases b <;> first | rfl | (exfalso; revert h; decide)
theorem pF_ext {l l' : List Int32} (h : l.length = l'.length) (h2 : ∀ j, j < l.length → l.getD j 0 = l'.getD j 0) : l = l' := by
  apply List.ext_getElem h
  intro j h3 h4
  have := h2 j h3
  simpa [List.getD_eq_getElem?_getD, h3, h4] using this
theorem m_same (d : Nat) {σ : xS} {q1 q2 : Option Nat} {F1 F2 : Option pF} (h1 : hOpt σ q1 F1) (h2 : hOpt σ q2 F2) : xEx (d + 2) 3 [.inr q1, .inr q2] σ (some (.inl (bI (decide (F1 = F2))))) σ := by
  refine ⟨by decide, rfl, ?_⟩
  show xGo (xEx (d + 1)) xtb_3 _ (0, [some (.inr q1), some (.inr q2), none], [], σ)
  match q1, F1, h1, q2, F2, h2 with
  | none, none, _, none, none, _ =>
    repeat (first | refine gp rfl rfl rfl ?_ | refine ggf rfl (by assumption) (by rfl) ?_ | refine gal rfl (by assumption) (by rfl) (by omega) (by omega) ?_ | refine gil rfl (by assumption) (by rfl) (by omega) (by omega) ?_ | refine gbl rfl (by assumption) (by rfl) (by omega) (by omega) ?_ | refine gln rfl (xlen_i (by assumption)) ?_ | refine gln rfl (xlen_q (by assumption)) ?_)
    refine gnl rfl (fun _ => ?_) (fun z hz => by cases hz)
    repeat (first | refine gp rfl rfl rfl ?_ | refine ggf rfl (by assumption) (by rfl) ?_ | refine gal rfl (by assumption) (by rfl) (by omega) (by omega) ?_ | refine gil rfl (by assumption) (by rfl) (by omega) (by omega) ?_ | refine gbl rfl (by assumption) (by rfl) (by omega) (by omega) ?_ | refine gln rfl (xlen_i (by assumption)) ?_ | refine gln rfl (xlen_q (by assumption)) ?_)
    refine gnn rfl (fun z hz => by cases hz) (fun _ => ?_)
    repeat (first | refine gp rfl rfl rfl ?_ | refine ggf rfl (by assumption) (by rfl) ?_ | refine gal rfl (by assumption) (by rfl) (by omega) (by omega) ?_ | refine gil rfl (by assumption) (by rfl) (by omega) (by omega) ?_ | refine gbl rfl (by assumption) (by rfl) (by omega) (by omega) ?_ | refine gln rfl (xlen_i (by assumption)) ?_ | refine gln rfl (xlen_q (by assumption)) ?_)
    refine gnn rfl (fun z hz => by cases hz) (fun _ => ?_)
    repeat (first | refine gp rfl rfl rfl ?_ | refine ggf rfl (by assumption) (by rfl) ?_ | refine gal rfl (by assumption) (by rfl) (by omega) (by omega) ?_ | refine gil rfl (by assumption) (by rfl) (by omega) (by omega) ?_ | refine gbl rfl (by assumption) (by rfl) (by omega) (by omega) ?_ | refine gln rfl (xlen_i (by assumption)) ?_ | refine gln rfl (xlen_q (by assumption)) ?_)
    exact gri rfl (fun _ => Or.inr rfl) ⟨rfl, rfl⟩
  | none, none, _, some q2, some F2, _ =>
    repeat (first | refine gp rfl rfl rfl ?_ | refine ggf rfl (by assumption) (by rfl) ?_ | refine gal rfl (by assumption) (by rfl) (by omega) (by omega) ?_ | refine gil rfl (by assumption) (by rfl) (by omega) (by omega) ?_ | refine gbl rfl (by assumption) (by rfl) (by omega) (by omega) ?_ | refine gln rfl (xlen_i (by assumption)) ?_ | refine gln rfl (xlen_q (by assumption)) ?_)
    refine gnl rfl (fun _ => ?_) (fun z hz => by cases hz)
    repeat (first | refine gp rfl rfl rfl ?_ | refine ggf rfl (by assumption) (by rfl) ?_ | refine gal rfl (by assumption) (by rfl) (by omega) (by omega) ?_ | refine gil rfl (by assumption) (by rfl) (by omega) (by omega) ?_ | refine gbl rfl (by assumption) (by rfl) (by omega) (by omega) ?_ | refine gln rfl (xlen_i (by assumption)) ?_ | refine gln rfl (xlen_q (by assumption)) ?_)
    refine gnn rfl (fun z hz => by cases hz) (fun _ => ?_)
    repeat (first | refine gp rfl rfl rfl ?_ | refine ggf rfl (by assumption) (by rfl) ?_ | refine gal rfl (by assumption) (by rfl) (by omega) (by omega) ?_ | refine gil rfl (by assumption) (by rfl) (by omega) (by omega) ?_ | refine gbl rfl (by assumption) (by rfl) (by omega) (by omega) ?_ | refine gln rfl (xlen_i (by assumption)) ?_ | refine gln rfl (xlen_q (by assumption)) ?_)
    refine gnn rfl (fun z hz => ?_) (fun hz => by cases hz)
    repeat (first | refine gp rfl rfl rfl ?_ | refine ggf rfl (by assumption) (by rfl) ?_ | refine gal rfl (by assumption) (by rfl) (by omega) (by omega) ?_ | refine gil rfl (by assumption) (by rfl) (by omega) (by omega) ?_ | refine gbl rfl (by assumption) (by rfl) (by omega) (by omega) ?_ | refine gln rfl (xlen_i (by assumption)) ?_ | refine gln rfl (xlen_q (by assumption)) ?_)
    exact gri rfl (fun _ => Or.inl rfl) ⟨rfl, rfl⟩
  | some q1, some F1, _, none, none, _ =>
    repeat (first | refine gp rfl rfl rfl ?_ | refine ggf rfl (by assumption) (by rfl) ?_ | refine gal rfl (by assumption) (by rfl) (by omega) (by omega) ?_ | refine gil rfl (by assumption) (by rfl) (by omega) (by omega) ?_ | refine gbl rfl (by assumption) (by rfl) (by omega) (by omega) ?_ | refine gln rfl (xlen_i (by assumption)) ?_ | refine gln rfl (xlen_q (by assumption)) ?_)
    refine gnl rfl (fun hz => by cases hz) (fun z hz => ?_)
    repeat (first | refine gp rfl rfl rfl ?_ | refine ggf rfl (by assumption) (by rfl) ?_ | refine gal rfl (by assumption) (by rfl) (by omega) (by omega) ?_ | refine gil rfl (by assumption) (by rfl) (by omega) (by omega) ?_ | refine gbl rfl (by assumption) (by rfl) (by omega) (by omega) ?_ | refine gln rfl (xlen_i (by assumption)) ?_ | refine gln rfl (xlen_q (by assumption)) ?_)
    refine gnn rfl (fun z hz => by cases hz) (fun _ => ?_)
    repeat (first | refine gp rfl rfl rfl ?_ | refine ggf rfl (by assumption) (by rfl) ?_ | refine gal rfl (by assumption) (by rfl) (by omega) (by omega) ?_ | refine gil rfl (by assumption) (by rfl) (by omega) (by omega) ?_ | refine gbl rfl (by assumption) (by rfl) (by omega) (by omega) ?_ | refine gln rfl (xlen_i (by assumption)) ?_ | refine gln rfl (xlen_q (by assumption)) ?_)
    refine gnn rfl (fun z hz => ?_) (fun hz => by cases hz)
    repeat (first | refine gp rfl rfl rfl ?_ | refine ggf rfl (by assumption) (by rfl) ?_ | refine gal rfl (by assumption) (by rfl) (by omega) (by omega) ?_ | refine gil rfl (by assumption) (by rfl) (by omega) (by omega) ?_ | refine gbl rfl (by assumption) (by rfl) (by omega) (by omega) ?_ | refine gln rfl (xlen_i (by assumption)) ?_ | refine gln rfl (xlen_q (by assumption)) ?_)
    exact gri rfl (fun _ => Or.inl rfl) ⟨rfl, rfl⟩
  | some q1, some F1, h1, some q2, some F2, h2 =>
    have hh1 : hFile σ q1 F1 := h1
    have hh2 : hFile σ q2 F2 := h2
    obtain ⟨b1, c1, ⟨f1, c2, c3⟩, c4, -, -⟩ := h1
    obtain ⟨b2, e1, ⟨f2, e2, e3⟩, e4, -, -⟩ := h2
    repeat (first | refine gp rfl rfl rfl ?_ | refine ggf rfl (by assumption) (by rfl) ?_ | refine gal rfl (by assumption) (by rfl) (by omega) (by omega) ?_ | refine gil rfl (by assumption) (by rfl) (by omega) (by omega) ?_ | refine gbl rfl (by assumption) (by rfl) (by omega) (by omega) ?_ | refine gln rfl (xlen_i (by assumption)) ?_ | refine gln rfl (xlen_q (by assumption)) ?_)
    refine gnl rfl (fun hz => by cases hz) (fun z hz => ?_)
    repeat (first | refine gp rfl rfl rfl ?_ | refine ggf rfl (by assumption) (by rfl) ?_ | refine gal rfl (by assumption) (by rfl) (by omega) (by omega) ?_ | refine gil rfl (by assumption) (by rfl) (by omega) (by omega) ?_ | refine gbl rfl (by assumption) (by rfl) (by omega) (by omega) ?_ | refine gln rfl (xlen_i (by assumption)) ?_ | refine gln rfl (xlen_q (by assumption)) ?_)
    refine gnn rfl (fun z hz => ?_) (fun hz => by cases hz)
    repeat (first | refine gp rfl rfl rfl ?_ | refine ggf rfl (by assumption) (by rfl) ?_ | refine gal rfl (by assumption) (by rfl) (by omega) (by omega) ?_ | refine gil rfl (by assumption) (by rfl) (by omega) (by omega) ?_ | refine gbl rfl (by assumption) (by rfl) (by omega) (by omega) ?_ | refine gln rfl (xlen_i (by assumption)) ?_ | refine gln rfl (xlen_q (by assumption)) ?_)
    refine gcp rfl (fun hne => ?_) (fun heq => ?_)
    · repeat (first | refine gp rfl rfl rfl ?_ | refine ggf rfl (by assumption) (by rfl) ?_ | refine gal rfl (by assumption) (by rfl) (by omega) (by omega) ?_ | refine gil rfl (by assumption) (by rfl) (by omega) (by omega) ?_ | refine gbl rfl (by assumption) (by rfl) (by omega) (by omega) ?_ | refine gln rfl (xlen_i (by assumption)) ?_ | refine gln rfl (xlen_q (by assumption)) ?_)
      refine gri rfl (fun _ => Or.inl rfl) ⟨?_, rfl⟩
      rw [decide_eq_false (fun z => hne (show bI F1.1 = bI F2.1 by cases z; rfl))]
      rfl
    · have heq : bI F1.1 = bI F2.1 := by
        by_cases hz : bI F1.1 = bI F2.1
        · exact hz
        · exact absurd hz heq
      repeat (first | refine gp rfl rfl rfl ?_ | refine ggf rfl (by assumption) (by rfl) ?_ | refine gal rfl (by assumption) (by rfl) (by omega) (by omega) ?_ | refine gil rfl (by assumption) (by rfl) (by omega) (by omega) ?_ | refine gbl rfl (by assumption) (by rfl) (by omega) (by omega) ?_ | refine gln rfl (xlen_i (by assumption)) ?_ | refine gln rfl (xlen_q (by assumption)) ?_)
      refine gcp rfl (fun hlen => ?_) (fun hlen => ?_)
      · have hlen : F1.2.length = F2.2.length := (nI_eq (by omega) (by omega)).mp hlen
        have loop : ∀ k i, i + k = F1.2.length → (∀ j, j < i → F1.2.getD j 0 = F2.2.getD j 0) → xGo (xEx (d + 1)) xtb_3 (fun r0 σ0 => r0 = some (.inl (bI (decide (some F1 = some F2)))) ∧ σ0 = σ) (56, [some (.inr (some q1)), some (.inr (some q2)), some (.inl (nI i))], [.inl (nI F1.2.length), .inl (nI i)], σ) := by
          intro k
          induction k with
          | zero =>
            intro i hi hall
            obtain rfl : i = F1.2.length := by omega
            refine gct rfl (show nI _ ≤ nI _ from nI_le (Nat.le_refl _) (by omega)) ?_
            repeat (first | refine gp rfl rfl rfl ?_ | refine ggf rfl (by assumption) (by rfl) ?_ | refine gal rfl (by assumption) (by rfl) (by omega) (by omega) ?_ | refine gil rfl (by assumption) (by rfl) (by omega) (by omega) ?_ | refine gbl rfl (by assumption) (by rfl) (by omega) (by omega) ?_ | refine gln rfl (xlen_i (by assumption)) ?_ | refine gln rfl (xlen_q (by assumption)) ?_)
            refine gri rfl (fun _ => Or.inr rfl) ⟨?_, rfl⟩
            rw [decide_eq_true]
            · rfl
            · exact congrArg some (Prod.ext (bI_inj heq) (pF_ext hlen hall))
          | succ k ih =>
            intro i hi hall
            refine gcf rfl (nI_ge (by omega) (by omega)) ?_
            repeat (first | refine gp rfl rfl rfl ?_ | refine ggf rfl (by assumption) (by rfl) ?_ | refine gal rfl (by assumption) (by rfl) (by omega) (by omega) ?_ | refine gil rfl (by assumption) (by rfl) (by omega) (by omega) ?_ | refine gbl rfl (by assumption) (by rfl) (by omega) (by omega) ?_ | refine gln rfl (xlen_i (by assumption)) ?_ | refine gln rfl (xlen_q (by assumption)) ?_)
            refine gcv (As := [.inl (nI i)]) (rest := []) rfl (by decide) (m_lineAt d hh1 (by omega)) c1 rfl rfl (by decide) ?_
            repeat (first | refine gp rfl rfl rfl ?_ | refine ggf rfl (by assumption) (by rfl) ?_ | refine gal rfl (by assumption) (by rfl) (by omega) (by omega) ?_ | refine gil rfl (by assumption) (by rfl) (by omega) (by omega) ?_ | refine gbl rfl (by assumption) (by rfl) (by omega) (by omega) ?_ | refine gln rfl (xlen_i (by assumption)) ?_ | refine gln rfl (xlen_q (by assumption)) ?_)
            refine gcv (As := [.inl (nI i)]) (rest := [.inl (F1.2.getD i 0)]) rfl (by decide) (m_lineAt d hh2 (by omega)) e1 rfl rfl (Nat.le_of_ble_eq_true rfl) ?_
            refine gcp rfl (fun h => ?_) (fun h => ?_)
            · repeat (first | refine gp rfl rfl rfl ?_ | refine ggf rfl (by assumption) (by rfl) ?_ | refine gal rfl (by assumption) (by rfl) (by omega) (by omega) ?_ | refine gil rfl (by assumption) (by rfl) (by omega) (by omega) ?_ | refine gbl rfl (by assumption) (by rfl) (by omega) (by omega) ?_ | refine gln rfl (xlen_i (by assumption)) ?_ | refine gln rfl (xlen_q (by assumption)) ?_)
              rw [nI_s]
              refine ih (i + 1) (by omega) (fun j hj => ?_)
              by_cases hji : j = i
              · subst hji; exact h
              · exact hall j (by omega)
            · repeat (first | refine gp rfl rfl rfl ?_ | refine ggf rfl (by assumption) (by rfl) ?_ | refine gal rfl (by assumption) (by rfl) (by omega) (by omega) ?_ | refine gil rfl (by assumption) (by rfl) (by omega) (by omega) ?_ | refine gbl rfl (by assumption) (by rfl) (by omega) (by omega) ?_ | refine gln rfl (xlen_i (by assumption)) ?_ | refine gln rfl (xlen_q (by assumption)) ?_)
              refine gri rfl (fun _ => Or.inl rfl) ⟨?_, rfl⟩
              rw [decide_eq_false (fun z => h (by cases z; rfl))]
              rfl
        repeat (first | refine gp rfl rfl rfl ?_ | refine ggf rfl (by assumption) (by rfl) ?_ | refine gal rfl (by assumption) (by rfl) (by omega) (by omega) ?_ | refine gil rfl (by assumption) (by rfl) (by omega) (by omega) ?_ | refine gbl rfl (by assumption) (by rfl) (by omega) (by omega) ?_ | refine gln rfl (xlen_i (by assumption)) ?_ | refine gln rfl (xlen_q (by assumption)) ?_)
        exact loop F1.2.length 0 (by omega) (fun j hj => absurd hj (by omega))
      · repeat (first | refine gp rfl rfl rfl ?_ | refine ggf rfl (by assumption) (by rfl) ?_ | refine gal rfl (by assumption) (by rfl) (by omega) (by omega) ?_ | refine gil rfl (by assumption) (by rfl) (by omega) (by omega) ?_ | refine gbl rfl (by assumption) (by rfl) (by omega) (by omega) ?_ | refine gln rfl (xlen_i (by assumption)) ?_ | refine gln rfl (xlen_q (by assumption)) ?_)
        refine gri rfl (fun _ => Or.inl rfl) ⟨?_, rfl⟩
        rw [decide_eq_false (fun z => hlen (show nI F1.2.length = nI F2.2.length by cases z; rfl))]
        rfl
theorem m_become (d : Nat) {σ : xS} {a c : Nat} {g g' : Nat → Option Nat} (h : hTree σ a g) (h' : hTree σ c g') (hac : a ≠ c) (hv : ∀ j, j < 64 → g' j = none ∨ ∃ (k : Nat) (fs : List xV), g' j = some k ∧ σ.1 k = some (.inr (.inr (1, fs)))) :
    ∃ g'' : Nat → Option Nat, (∀ j, j < 64 → g'' j = g' j) ∧ xEx (d + 1) 11 [.inr (some a), .inr (some c)] σ none (xup σ (a + 1) (.inr (.inl (0, 64, g'')))) := by
  obtain ⟨h1, h2⟩ := h
  obtain ⟨h3, h4⟩ := h'
  have hca : c ≠ a + 1 := fun z => by rw [z, h2] at h3; cases h3
  have hac2 : a ≠ c + 1 := fun z => by rw [z, h4] at h1; cases h1
  have loop : ∀ k i (gi : Nat → Option Nat), i + k = 64 → (∀ j, j < i → gi j = g' j) → xGo (xEx d) xtb_11 (fun r0 σ0 => r0 = none ∧ ∃ g'' : Nat → Option Nat, (∀ j, j < 64 → g'' j = g' j) ∧ σ0 = xup σ (a + 1) (.inr (.inl (0, 64, g'')))) (5, [some (.inr (some a)), some (.inr (some c)), some (.inl (nI i))], [.inl (nI 64), .inl (nI i)], xup σ (a + 1) (.inr (.inl (0, 64, gi)))) := by
    intro k
    induction k with
    | zero =>
      intro i gi hi hall
      obtain rfl : i = 64 := by omega
      refine gct rfl (show nI _ ≤ nI _ from nI_le (Nat.le_refl _) (by omega)) ?_
      exact grv rfl ⟨rfl, gi, hall, rfl⟩
    | succ k ih =>
      intro i gi hi hall
      have c1 : (xup σ (a + 1) (.inr (.inl (0, 64, gi)))).1 a = some (.inr (.inr (2, [.inr (some (a + 1))]))) := by rw [xup_ne (by omega)]; exact h1
      have c2 : (xup σ (a + 1) (.inr (.inl (0, 64, gi)))).1 (a + 1) = some (.inr (.inl (0, 64, gi))) := xup_eq _ _ _
      have c3 : (xup σ (a + 1) (.inr (.inl (0, 64, gi)))).1 c = some (.inr (.inr (2, [.inr (some (c + 1))]))) := by rw [xup_ne hca]; exact h3
      have c4 : (xup σ (a + 1) (.inr (.inl (0, 64, gi)))).1 (c + 1) = some (.inr (.inl (0, 64, g'))) := by rw [xup_ne (by omega)]; exact h4
      refine gcf rfl (nI_ge (by omega) (by omega)) ?_
      repeat (first | refine gp rfl rfl rfl ?_ | refine ggf rfl (by assumption) (by rfl) ?_ | refine gal rfl (by assumption) (by rfl) (by omega) (by omega) ?_ | refine gil rfl (by assumption) (by rfl) (by omega) (by omega) ?_ | refine gbl rfl (by assumption) (by rfl) (by omega) (by omega) ?_ | refine gln rfl (xlen_i (by assumption)) ?_ | refine gln rfl (xlen_q (by assumption)) ?_)
      refine gas rfl c2 rfl (by omega) (by omega) ?_ ?_
      · rcases hv i (by omega) with h | ⟨k, fs, h, h5⟩
        · exact Or.inl h
        · refine Or.inr ⟨k, fs, h, ?_⟩
          have hka : k ≠ a + 1 := fun z => by rw [z, h2] at h5; cases h5
          rw [xup_ne hka]
          exact h5
      · rw [xup_up]
        repeat (first | refine gp rfl rfl rfl ?_ | refine ggf rfl (by assumption) (by rfl) ?_ | refine gal rfl (by assumption) (by rfl) (by omega) (by omega) ?_ | refine gil rfl (by assumption) (by rfl) (by omega) (by omega) ?_ | refine gbl rfl (by assumption) (by rfl) (by omega) (by omega) ?_ | refine gln rfl (xlen_i (by assumption)) ?_ | refine gln rfl (xlen_q (by assumption)) ?_)
        rw [nI_s]
        refine ih (i + 1) _ (by omega) (fun j hj => ?_)
        by_cases hji : j = i
        · subst hji; simp [va_up]
        · simp [va_up, hji]; exact hall j (by omega)
  obtain ⟨r, σ', hex, rfl, g'', hg, rfl⟩ := ex_of (d := d) (y := 11) (as := [.inr (some a), .inr (some c)]) (σ := σ) (K := fun r0 σ0 => r0 = none ∧ ∃ g'' : Nat → Option Nat, (∀ j, j < 64 → g'' j = g' j) ∧ σ0 = xup σ (a + 1) (.inr (.inl (0, 64, g'')))) (by decide) rfl (by
    show xGo (xEx d) xtb_11 _ (0, [some (.inr (some a)), some (.inr (some c)), none], [], σ)
    repeat (first | refine gp rfl rfl rfl ?_ | refine ggf rfl (by assumption) (by rfl) ?_ | refine gal rfl (by assumption) (by rfl) (by omega) (by omega) ?_ | refine gil rfl (by assumption) (by rfl) (by omega) (by omega) ?_ | refine gbl rfl (by assumption) (by rfl) (by omega) (by omega) ?_ | refine gln rfl (xlen_i (by assumption)) ?_ | refine gln rfl (xlen_q (by assumption)) ?_)
    have := loop 64 0 g rfl (fun j hj => absurd hj (by omega))
    rw [xup_same h2] at this
    exact this)
  exact ⟨g'', hg, hex⟩
