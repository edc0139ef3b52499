/-! MODULE: questions to the class -/
/-- the number that an int is, if it is below n -/
def oN (n : Nat) (x : Int32) : Option Nat := if 0 ≤ x ∧ x < nI n then some x.toInt.toNat else none
theorem oN_cases {n : Nat} (hn : n < 2147483648) (x : Int32) : (∃ j, j < n ∧ x = nI j ∧ oN n x = some j) ∨ (¬ (0 ≤ x ∧ x < nI n) ∧ oN n x = none) := by
  by_cases h : 0 ≤ x ∧ x < nI n
  · obtain ⟨j, hj, rfl⟩ := nI_of (Int32.not_lt.mpr h.1)
    refine Or.inl ⟨j, (nI_ltI hj hn).mp h.2, rfl, ?_⟩
    unfold oN
    rw [if_pos h, nI_toInt hj]
    rfl
  · exact Or.inr ⟨h, by unfold oN; rw [if_neg h]⟩
theorem m_isTree (d : Nat) (x : Int32) (σ : xS) : xEx (d + 1) 77 [.inl x] σ (some (.inl (bI (oN 4 x).isSome))) σ := by
  refine ⟨by decide, rfl, ?_⟩
  show xGo (xEx d) xtb_77 _ (0, [some (.inl x)], [], σ)
  repeat (first | refine gp rfl rfl rfl ?_ | refine ggf rfl (by assumption) (by rfl) ?_ | refine gal rfl (by assumption) (by rfl) (by omega) (by omega) ?_ | refine gil rfl (by assumption) (by rfl) (by omega) (by omega) ?_ | refine gbl rfl (by assumption) (by rfl) (by omega) (by omega) ?_ | refine gln rfl (xlen_i (by assumption)) ?_ | refine gln rfl (xlen_q (by assumption)) ?_)
  rcases oN_cases (n := 4) (by decide) x with ⟨j, hj, rfl, e⟩ | ⟨hn, e⟩
  · refine giff rfl (show ¬ nI j < 0 from nI_pos (by omega)) ?_
    repeat (first | refine gp rfl rfl rfl ?_ | refine ggf rfl (by assumption) (by rfl) ?_ | refine gal rfl (by assumption) (by rfl) (by omega) (by omega) ?_ | refine gil rfl (by assumption) (by rfl) (by omega) (by omega) ?_ | refine gbl rfl (by assumption) (by rfl) (by omega) (by omega) ?_ | refine gln rfl (xlen_i (by assumption)) ?_ | refine gln rfl (xlen_q (by assumption)) ?_)
    refine gcf rfl (show ¬ nI 3 < nI j from fun z => absurd ((nI_ltI (by omega) (by omega)).mp z) (by omega)) ?_
    repeat (first | refine gp rfl rfl rfl ?_ | refine ggf rfl (by assumption) (by rfl) ?_ | refine gal rfl (by assumption) (by rfl) (by omega) (by omega) ?_ | refine gil rfl (by assumption) (by rfl) (by omega) (by omega) ?_ | refine gbl rfl (by assumption) (by rfl) (by omega) (by omega) ?_ | refine gln rfl (xlen_i (by assumption)) ?_ | refine gln rfl (xlen_q (by assumption)) ?_)
    exact gri rfl (fun _ => Or.inr rfl) ⟨by rw [e]; rfl, rfl⟩
  · refine gif' rfl (fun hlt => ?_) (fun hge => ?_)
    · repeat (first | refine gp rfl rfl rfl ?_ | refine ggf rfl (by assumption) (by rfl) ?_ | refine gal rfl (by assumption) (by rfl) (by omega) (by omega) ?_ | refine gil rfl (by assumption) (by rfl) (by omega) (by omega) ?_ | refine gbl rfl (by assumption) (by rfl) (by omega) (by omega) ?_ | refine gln rfl (xlen_i (by assumption)) ?_ | refine gln rfl (xlen_q (by assumption)) ?_)
      exact gri rfl (fun _ => Or.inl rfl) ⟨by rw [e]; rfl, rfl⟩
    · repeat (first | refine gp rfl rfl rfl ?_ | refine ggf rfl (by assumption) (by rfl) ?_ | refine gal rfl (by assumption) (by rfl) (by omega) (by omega) ?_ | refine gil rfl (by assumption) (by rfl) (by omega) (by omega) ?_ | refine gbl rfl (by assumption) (by rfl) (by omega) (by omega) ?_ | refine gln rfl (xlen_i (by assumption)) ?_ | refine gln rfl (xlen_q (by assumption)) ?_)
      refine gct rfl (show nI 3 < x from ?_) ?_
      · obtain ⟨j, hj, rfl⟩ := nI_of hge
        refine nI_lt ?_ hj
        by_cases h4 : j < 4
        · exact absurd ⟨nI_pos' hj, nI_lt h4 (by decide)⟩ hn
        · omega
      · repeat (first | refine gp rfl rfl rfl ?_ | refine ggf rfl (by assumption) (by rfl) ?_ | refine gal rfl (by assumption) (by rfl) (by omega) (by omega) ?_ | refine gil rfl (by assumption) (by rfl) (by omega) (by omega) ?_ | refine gbl rfl (by assumption) (by rfl) (by omega) (by omega) ?_ | refine gln rfl (xlen_i (by assumption)) ?_ | refine gln rfl (xlen_q (by assumption)) ?_)
        exact gri rfl (fun _ => Or.inl rfl) ⟨by rw [e]; rfl, rfl⟩
theorem m_isInput (d : Nat) (x : Int32) (σ : xS) : xEx (d + 1) 66 [.inl x] σ (some (.inl (bI (oN 3 x).isSome))) σ := by
  refine ⟨by decide, rfl, ?_⟩
  show xGo (xEx d) xtb_66 _ (0, [some (.inl x)], [], σ)
  repeat (first | refine gp rfl rfl rfl ?_ | refine ggf rfl (by assumption) (by rfl) ?_ | refine gal rfl (by assumption) (by rfl) (by omega) (by omega) ?_ | refine gil rfl (by assumption) (by rfl) (by omega) (by omega) ?_ | refine gbl rfl (by assumption) (by rfl) (by omega) (by omega) ?_ | refine gln rfl (xlen_i (by assumption)) ?_ | refine gln rfl (xlen_q (by assumption)) ?_)
  rcases oN_cases (n := 3) (by decide) x with ⟨j, hj, rfl, e⟩ | ⟨hn, e⟩
  · refine giff rfl (show ¬ nI j < 0 from nI_pos (by omega)) ?_
    repeat (first | refine gp rfl rfl rfl ?_ | refine ggf rfl (by assumption) (by rfl) ?_ | refine gal rfl (by assumption) (by rfl) (by omega) (by omega) ?_ | refine gil rfl (by assumption) (by rfl) (by omega) (by omega) ?_ | refine gbl rfl (by assumption) (by rfl) (by omega) (by omega) ?_ | refine gln rfl (xlen_i (by assumption)) ?_ | refine gln rfl (xlen_q (by assumption)) ?_)
    refine gcf rfl (show ¬ nI 2 < nI j from fun z => absurd ((nI_ltI (by omega) (by omega)).mp z) (by omega)) ?_
    repeat (first | refine gp rfl rfl rfl ?_ | refine ggf rfl (by assumption) (by rfl) ?_ | refine gal rfl (by assumption) (by rfl) (by omega) (by omega) ?_ | refine gil rfl (by assumption) (by rfl) (by omega) (by omega) ?_ | refine gbl rfl (by assumption) (by rfl) (by omega) (by omega) ?_ | refine gln rfl (xlen_i (by assumption)) ?_ | refine gln rfl (xlen_q (by assumption)) ?_)
    exact gri rfl (fun _ => Or.inr rfl) ⟨by rw [e]; rfl, rfl⟩
  · refine gif' rfl (fun hlt => ?_) (fun hge => ?_)
    · repeat (first | refine gp rfl rfl rfl ?_ | refine ggf rfl (by assumption) (by rfl) ?_ | refine gal rfl (by assumption) (by rfl) (by omega) (by omega) ?_ | refine gil rfl (by assumption) (by rfl) (by omega) (by omega) ?_ | refine gbl rfl (by assumption) (by rfl) (by omega) (by omega) ?_ | refine gln rfl (xlen_i (by assumption)) ?_ | refine gln rfl (xlen_q (by assumption)) ?_)
      exact gri rfl (fun _ => Or.inl rfl) ⟨by rw [e]; rfl, rfl⟩
    · repeat (first | refine gp rfl rfl rfl ?_ | refine ggf rfl (by assumption) (by rfl) ?_ | refine gal rfl (by assumption) (by rfl) (by omega) (by omega) ?_ | refine gil rfl (by assumption) (by rfl) (by omega) (by omega) ?_ | refine gbl rfl (by assumption) (by rfl) (by omega) (by omega) ?_ | refine gln rfl (xlen_i (by assumption)) ?_ | refine gln rfl (xlen_q (by assumption)) ?_)
      refine gct rfl (show nI 2 < x from ?_) ?_
      · obtain ⟨j, hj, rfl⟩ := nI_of hge
        refine nI_lt ?_ hj
        by_cases h4 : j < 3
        · exact absurd ⟨nI_pos' hj, nI_lt h4 (by decide)⟩ hn
        · omega
      · repeat (first | refine gp rfl rfl rfl ?_ | refine ggf rfl (by assumption) (by rfl) ?_ | refine gal rfl (by assumption) (by rfl) (by omega) (by omega) ?_ | refine gil rfl (by assumption) (by rfl) (by omega) (by omega) ?_ | refine gbl rfl (by assumption) (by rfl) (by omega) (by omega) ?_ | refine gln rfl (xlen_i (by assumption)) ?_ | refine gln rfl (xlen_q (by assumption)) ?_)
        exact gri rfl (fun _ => Or.inl rfl) ⟨by rw [e]; rfl, rfl⟩
abbrev pD : Type := (Nat → Option Nat) × (Nat → pP) × (Nat → Option Nat)
def hDs (σ : xS) (a : Nat) (D : pD) : Prop := hSide σ a D.1 D.2.1 D.2.2
/-- the whole object: trees, versions, codes, threshold, style, was there a merge, the two sides -/
def hTop (σ : xS) (Ts V : Nat → pT) (C : Nat → Int32) (th st : Nat) (mg : Bool) (D1 D2 : pD) : Prop := σ.1 2 = some (.inr (.inr (0, [.inr (some 3), .inr (some 4), .inl (nI th), .inl (nI st), .inl (bI mg)]))) ∧ (∃ g : Nat → Option Nat, σ.1 3 = some (.inr (.inl (1, 4, g))) ∧ ∀ i, i < 4 → g i = some (44 + 2 * i)) ∧ (∀ i, i < 4 → hT σ (44 + 2 * i) (Ts i)) ∧ hMS σ V C ∧ hDs σ 6 D1 ∧ hDs σ 13 D2
def cFile (Ts : Nat → pT) (t p : Int32) : Option pF := match oN 4 t, oN 64 p with
  | some i, some j => Ts i j
  | _, _ => none
section QUERY
variable {σ : xS} {Ts V : Nat → pT} {C : Nat → Int32} {th st : Nat} {mg : Bool} {D1 D2 : pD}
theorem m_findFile (d : Nat) (h : hTop σ Ts V C th st mg D1 D2) (t p : Int32) : ∃ q, xEx (d + 3) 79 [.inr (some 2), .inl t, .inl p] σ (some (.inr q)) σ ∧ hOpt σ q (cFile Ts t p) := by
  obtain ⟨h2, ⟨g, h3, hg⟩, hTs, -⟩ := h
  let K : Option xV → xS → Prop := fun r0 σ0 => ∃ q, r0 = some (.inr q) ∧ σ0 = σ ∧ hOpt σ q (cFile Ts t p)
  obtain ⟨r, σ', hex, q, rfl, rfl, ho⟩ := ex_of (d := d + 2) (y := 79) (as := [.inr (some 2), .inl t, .inl p]) (σ := σ) (K := K) (by decide) rfl (by
    show xGo (xEx (d + 2)) xtb_79 K (0, [some (.inr (some 2)), some (.inl t), some (.inl p)], [], σ)
    repeat (first | refine gp rfl rfl rfl ?_ | refine ggf rfl (by assumption) (by rfl) ?_ | refine gal rfl (by assumption) (by rfl) (by omega) (by omega) ?_ | refine gil rfl (by assumption) (by rfl) (by omega) (by omega) ?_ | refine gbl rfl (by assumption) (by rfl) (by omega) (by omega) ?_ | refine gln rfl (xlen_i (by assumption)) ?_ | refine gln rfl (xlen_q (by assumption)) ?_)
    refine gcs (As := [.inl t]) (rest := []) rfl (by decide) (m_isTree (d + 1) t σ) rfl rfl (by decide) ?_
    rcases oN_cases (n := 4) (by decide) t with ⟨i, hi, rfl, e⟩ | ⟨hn, e⟩
    · rw [e]
      refine giff rfl (fun h => absurd (show (1 : Int32) = 0 from h) (by decide)) ?_
      have ti := hTs i hi
      repeat (first | refine gp rfl rfl rfl ?_ | refine ggf rfl (by assumption) (by rfl) ?_ | refine gal rfl (by assumption) (by rfl) (by omega) (by omega) ?_ | refine gil rfl (by assumption) (by rfl) (by omega) (by omega) ?_ | refine gbl rfl (by assumption) (by rfl) (by omega) (by omega) ?_ | refine gln rfl (xlen_i (by assumption)) ?_ | refine gln rfl (xlen_q (by assumption)) ?_)
      rw [hg i hi]
      rcases oN_cases (n := 64) (by decide) p with ⟨j, hj, rfl, e'⟩ | ⟨hn, e'⟩
      · obtain ⟨q, f1, o1⟩ := m_fileAtT d ti hj
        refine gcv (As := [.inl (nI j)]) (rest := []) rfl (by decide) f1 ti.obj rfl rfl (by decide) ?_
        repeat (first | refine gp rfl rfl rfl ?_ | refine ggf rfl (by assumption) (by rfl) ?_ | refine gal rfl (by assumption) (by rfl) (by omega) (by omega) ?_ | refine gil rfl (by assumption) (by rfl) (by omega) (by omega) ?_ | refine gbl rfl (by assumption) (by rfl) (by omega) (by omega) ?_ | refine gln rfl (xlen_i (by assumption)) ?_ | refine gln rfl (xlen_q (by assumption)) ?_)
        exact gra rfl ⟨q, rfl, rfl, by unfold cFile; rw [e, e']; exact o1⟩
      · refine gcv (As := [.inl p]) (rest := []) rfl (by decide) (m_fileAt_no d hn) ti.obj rfl rfl (by decide) ?_
        repeat (first | refine gp rfl rfl rfl ?_ | refine ggf rfl (by assumption) (by rfl) ?_ | refine gal rfl (by assumption) (by rfl) (by omega) (by omega) ?_ | refine gil rfl (by assumption) (by rfl) (by omega) (by omega) ?_ | refine gbl rfl (by assumption) (by rfl) (by omega) (by omega) ?_ | refine gln rfl (xlen_i (by assumption)) ?_ | refine gln rfl (xlen_q (by assumption)) ?_)
        exact gra rfl ⟨none, rfl, rfl, by unfold cFile; rw [e, e']; trivial⟩
    · rw [e]
      refine git rfl (show (0 : Int32) = 0 from rfl) ?_
      repeat (first | refine gp rfl rfl rfl ?_ | refine ggf rfl (by assumption) (by rfl) ?_ | refine gal rfl (by assumption) (by rfl) (by omega) (by omega) ?_ | refine gil rfl (by assumption) (by rfl) (by omega) (by omega) ?_ | refine gbl rfl (by assumption) (by rfl) (by omega) (by omega) ?_ | refine gln rfl (xlen_i (by assumption)) ?_ | refine gln rfl (xlen_q (by assumption)) ?_)
      exact gra rfl ⟨none, rfl, rfl, by unfold cFile; rw [e]; trivial⟩)
  exact ⟨q, hex, ho⟩
def aKind (F : Option pF) : Int32 := match F with
  | none => nI 0
  | some F => if F.1 then nI 2 else nI 1
def aLen (F : Option pF) : Int32 := match F with
  | none => -1
  | some F => nI F.2.length
def aLine (F : Option pF) (i : Int32) : Int32 := match F with
  | none => 0
  | some F => match oN F.2.length i with
    | some j => F.2.getD j 0
    | none => 0
theorem m_kind (d : Nat) (h : hTop σ Ts V C th st mg D1 D2) (t p : Int32) : xEx (d + 4) 78 [.inr (some 2), .inl t, .inl p] σ (some (.inl (aKind (cFile Ts t p)))) σ := by
  obtain ⟨q, x1, o1⟩ := m_findFile d h t p
  have h2 := h.1
  refine ⟨by decide, rfl, ?_⟩
  show xGo (xEx (d + 3)) xtb_78 _ (0, [some (.inr (some 2)), some (.inl t), some (.inl p), none], [], σ)
  repeat (first | refine gp rfl rfl rfl ?_ | refine ggf rfl (by assumption) (by rfl) ?_ | refine gal rfl (by assumption) (by rfl) (by omega) (by omega) ?_ | refine gil rfl (by assumption) (by rfl) (by omega) (by omega) ?_ | refine gbl rfl (by assumption) (by rfl) (by omega) (by omega) ?_ | refine gln rfl (xlen_i (by assumption)) ?_ | refine gln rfl (xlen_q (by assumption)) ?_)
  refine gcv (As := [.inl t, .inl p]) (rest := []) rfl (by decide) x1 h2 rfl rfl (by decide) ?_
  repeat (first | refine gp rfl rfl rfl ?_ | refine ggf rfl (by assumption) (by rfl) ?_ | refine gal rfl (by assumption) (by rfl) (by omega) (by omega) ?_ | refine gil rfl (by assumption) (by rfl) (by omega) (by omega) ?_ | refine gbl rfl (by assumption) (by rfl) (by omega) (by omega) ?_ | refine gln rfl (xlen_i (by assumption)) ?_ | refine gln rfl (xlen_q (by assumption)) ?_)
  generalize cFile Ts t p = F at o1 ⊢
  match q, F, o1 with
  | none, none, _ =>
    refine gnn rfl (fun z hz => by cases hz) (fun _ => ?_)
    repeat (first | refine gp rfl rfl rfl ?_ | refine ggf rfl (by assumption) (by rfl) ?_ | refine gal rfl (by assumption) (by rfl) (by omega) (by omega) ?_ | refine gil rfl (by assumption) (by rfl) (by omega) (by omega) ?_ | refine gbl rfl (by assumption) (by rfl) (by omega) (by omega) ?_ | refine gln rfl (xlen_i (by assumption)) ?_ | refine gln rfl (xlen_q (by assumption)) ?_)
    exact gri rfl (fun h => absurd h (by decide)) ⟨rfl, rfl⟩
  | some q, some F, o1 =>
    obtain ⟨b, b1, -⟩ := id (show hFile σ q F from o1)
    refine gnn rfl (fun z hz => ?_) (fun z => by cases z)
    repeat (first | refine gp rfl rfl rfl ?_ | refine ggf rfl (by assumption) (by rfl) ?_ | refine gal rfl (by assumption) (by rfl) (by omega) (by omega) ?_ | refine gil rfl (by assumption) (by rfl) (by omega) (by omega) ?_ | refine gbl rfl (by assumption) (by rfl) (by omega) (by omega) ?_ | refine gln rfl (xlen_i (by assumption)) ?_ | refine gln rfl (xlen_q (by assumption)) ?_)
    cases hF : F.1 with
    | true =>
      refine giff rfl (fun h => absurd (show (1 : Int32) = 0 from h) (by decide)) ?_
      repeat (first | refine gp rfl rfl rfl ?_ | refine ggf rfl (by assumption) (by rfl) ?_ | refine gal rfl (by assumption) (by rfl) (by omega) (by omega) ?_ | refine gil rfl (by assumption) (by rfl) (by omega) (by omega) ?_ | refine gbl rfl (by assumption) (by rfl) (by omega) (by omega) ?_ | refine gln rfl (xlen_i (by assumption)) ?_ | refine gln rfl (xlen_q (by assumption)) ?_)
      exact gri rfl (fun h => absurd h (by decide)) ⟨by unfold aKind; simp only; rw [hF]; rfl, rfl⟩
    | false =>
      refine git rfl (show (0 : Int32) = 0 from rfl) ?_
      repeat (first | refine gp rfl rfl rfl ?_ | refine ggf rfl (by assumption) (by rfl) ?_ | refine gal rfl (by assumption) (by rfl) (by omega) (by omega) ?_ | refine gil rfl (by assumption) (by rfl) (by omega) (by omega) ?_ | refine gbl rfl (by assumption) (by rfl) (by omega) (by omega) ?_ | refine gln rfl (xlen_i (by assumption)) ?_ | refine gln rfl (xlen_q (by assumption)) ?_)
      exact gri rfl (fun h => absurd h (by decide)) ⟨by unfold aKind; simp only; rw [hF]; rfl, rfl⟩
theorem m_length (d : Nat) (h : hTop σ Ts V C th st mg D1 D2) (t p : Int32) : xEx (d + 4) 80 [.inr (some 2), .inl t, .inl p] σ (some (.inl (aLen (cFile Ts t p)))) σ := by
  obtain ⟨q, x1, o1⟩ := m_findFile d h t p
  have h2 := h.1
  refine ⟨by decide, rfl, ?_⟩
  show xGo (xEx (d + 3)) xtb_80 _ (0, [some (.inr (some 2)), some (.inl t), some (.inl p), none], [], σ)
  repeat (first | refine gp rfl rfl rfl ?_ | refine ggf rfl (by assumption) (by rfl) ?_ | refine gal rfl (by assumption) (by rfl) (by omega) (by omega) ?_ | refine gil rfl (by assumption) (by rfl) (by omega) (by omega) ?_ | refine gbl rfl (by assumption) (by rfl) (by omega) (by omega) ?_ | refine gln rfl (xlen_i (by assumption)) ?_ | refine gln rfl (xlen_q (by assumption)) ?_)
  refine gcv (As := [.inl t, .inl p]) (rest := []) rfl (by decide) x1 h2 rfl rfl (by decide) ?_
  repeat (first | refine gp rfl rfl rfl ?_ | refine ggf rfl (by assumption) (by rfl) ?_ | refine gal rfl (by assumption) (by rfl) (by omega) (by omega) ?_ | refine gil rfl (by assumption) (by rfl) (by omega) (by omega) ?_ | refine gbl rfl (by assumption) (by rfl) (by omega) (by omega) ?_ | refine gln rfl (xlen_i (by assumption)) ?_ | refine gln rfl (xlen_q (by assumption)) ?_)
  generalize cFile Ts t p = F at o1 ⊢
  match q, F, o1 with
  | none, none, _ =>
    refine gnn rfl (fun z hz => by cases hz) (fun _ => ?_)
    repeat (first | refine gp rfl rfl rfl ?_ | refine ggf rfl (by assumption) (by rfl) ?_ | refine gal rfl (by assumption) (by rfl) (by omega) (by omega) ?_ | refine gil rfl (by assumption) (by rfl) (by omega) (by omega) ?_ | refine gbl rfl (by assumption) (by rfl) (by omega) (by omega) ?_ | refine gln rfl (xlen_i (by assumption)) ?_ | refine gln rfl (xlen_q (by assumption)) ?_)
    exact gri rfl (fun h => absurd h (by decide)) ⟨by rw [xk_m1]; rfl, rfl⟩
  | some q, some F, o1 =>
    obtain ⟨b, b1, ⟨f, b2, -⟩, -⟩ := id (show hFile σ q F from o1)
    refine gnn rfl (fun z hz => ?_) (fun z => by cases z)
    repeat (first | refine gp rfl rfl rfl ?_ | refine ggf rfl (by assumption) (by rfl) ?_ | refine gal rfl (by assumption) (by rfl) (by omega) (by omega) ?_ | refine gil rfl (by assumption) (by rfl) (by omega) (by omega) ?_ | refine gbl rfl (by assumption) (by rfl) (by omega) (by omega) ?_ | refine gln rfl (xlen_i (by assumption)) ?_ | refine gln rfl (xlen_q (by assumption)) ?_)
    exact gri rfl (fun h => absurd h (by decide)) ⟨rfl, rfl⟩
theorem m_lineA (d : Nat) {q : Nat} {F : pF} (h : hFile σ q F) (i : Int32) : xEx (d + 1) 4 [.inr (some q), .inl i] σ (some (.inl (aLine (some F) i))) σ := by
  have hl := h
  obtain ⟨b, -, -, h76, -⟩ := hl
  rcases oN_cases (n := F.2.length) (by omega) i with ⟨j, hj, rfl, e⟩ | ⟨hn, e⟩
  · have := m_lineAt d h hj
    unfold aLine
    simp only
    rw [e]
    exact this
  · have := m_lineAt_no d h hn
    unfold aLine
    simp only
    rw [e]
    exact this
theorem m_line (d : Nat) (h : hTop σ Ts V C th st mg D1 D2) (t p i : Int32) : xEx (d + 4) 81 [.inr (some 2), .inl t, .inl p, .inl i] σ (some (.inl (aLine (cFile Ts t p) i))) σ := by
  obtain ⟨q, x1, o1⟩ := m_findFile d h t p
  have h2 := h.1
  refine ⟨by decide, rfl, ?_⟩
  show xGo (xEx (d + 3)) xtb_81 _ (0, [some (.inr (some 2)), some (.inl t), some (.inl p), some (.inl i), none], [], σ)
  repeat (first | refine gp rfl rfl rfl ?_ | refine ggf rfl (by assumption) (by rfl) ?_ | refine gal rfl (by assumption) (by rfl) (by omega) (by omega) ?_ | refine gil rfl (by assumption) (by rfl) (by omega) (by omega) ?_ | refine gbl rfl (by assumption) (by rfl) (by omega) (by omega) ?_ | refine gln rfl (xlen_i (by assumption)) ?_ | refine gln rfl (xlen_q (by assumption)) ?_)
  refine gcv (As := [.inl t, .inl p]) (rest := []) rfl (by decide) x1 h2 rfl rfl (by decide) ?_
  repeat (first | refine gp rfl rfl rfl ?_ | refine ggf rfl (by assumption) (by rfl) ?_ | refine gal rfl (by assumption) (by rfl) (by omega) (by omega) ?_ | refine gil rfl (by assumption) (by rfl) (by omega) (by omega) ?_ | refine gbl rfl (by assumption) (by rfl) (by omega) (by omega) ?_ | refine gln rfl (xlen_i (by assumption)) ?_ | refine gln rfl (xlen_q (by assumption)) ?_)
  generalize cFile Ts t p = F at o1 ⊢
  match q, F, o1 with
  | none, none, _ =>
    refine gnn rfl (fun z hz => by cases hz) (fun _ => ?_)
    repeat (first | refine gp rfl rfl rfl ?_ | refine ggf rfl (by assumption) (by rfl) ?_ | refine gal rfl (by assumption) (by rfl) (by omega) (by omega) ?_ | refine gil rfl (by assumption) (by rfl) (by omega) (by omega) ?_ | refine gbl rfl (by assumption) (by rfl) (by omega) (by omega) ?_ | refine gln rfl (xlen_i (by assumption)) ?_ | refine gln rfl (xlen_q (by assumption)) ?_)
    exact gri rfl (fun h => absurd h (by decide)) ⟨rfl, rfl⟩
  | some q, some F, o1 =>
    obtain ⟨b, b1, -⟩ := id (show hFile σ q F from o1)
    refine gnn rfl (fun z hz => ?_) (fun z => by cases z)
    repeat (first | refine gp rfl rfl rfl ?_ | refine ggf rfl (by assumption) (by rfl) ?_ | refine gal rfl (by assumption) (by rfl) (by omega) (by omega) ?_ | refine gil rfl (by assumption) (by rfl) (by omega) (by omega) ?_ | refine gbl rfl (by assumption) (by rfl) (by omega) (by omega) ?_ | refine gln rfl (xlen_i (by assumption)) ?_ | refine gln rfl (xlen_q (by assumption)) ?_)
    refine gcv (As := [.inl i]) (rest := []) rfl (by decide) (m_lineA (d + 2) o1 i) b1 rfl rfl (by decide) ?_
    repeat (first | refine gp rfl rfl rfl ?_ | refine ggf rfl (by assumption) (by rfl) ?_ | refine gal rfl (by assumption) (by rfl) (by omega) (by omega) ?_ | refine gil rfl (by assumption) (by rfl) (by omega) (by omega) ?_ | refine gbl rfl (by assumption) (by rfl) (by omega) (by omega) ?_ | refine gln rfl (xlen_i (by assumption)) ?_ | refine gln rfl (xlen_q (by assumption)) ?_)
    exact gri rfl (fun h => absurd h (by decide)) ⟨rfl, rfl⟩
def aCode (C : Nat → Int32) (p : Int32) : Int32 := match oN 64 p with
  | some j => C j
  | none => 0
theorem m_conflict (d : Nat) (h : hTop σ Ts V C th st mg D1 D2) (p : Int32) : xEx (d + 3) 82 [.inr (some 2), .inl p] σ (some (.inl (aCode C p))) σ := by
  obtain ⟨h2, -, -, hm, -⟩ := h
  have h4 := hm.1.1
  refine ⟨by decide, rfl, ?_⟩
  show xGo (xEx (d + 2)) xtb_82 _ (0, [some (.inr (some 2)), some (.inl p)], [], σ)
  repeat (first | refine gp rfl rfl rfl ?_ | refine ggf rfl (by assumption) (by rfl) ?_ | refine gal rfl (by assumption) (by rfl) (by omega) (by omega) ?_ | refine gil rfl (by assumption) (by rfl) (by omega) (by omega) ?_ | refine gbl rfl (by assumption) (by rfl) (by omega) (by omega) ?_ | refine gln rfl (xlen_i (by assumption)) ?_ | refine gln rfl (xlen_q (by assumption)) ?_)
  have x1 : xEx (d + 2) 60 [.inr (some 4), .inl p] σ (some (.inl (aCode C p))) σ := by
    unfold aCode
    rcases oN_cases (n := 64) (by decide) p with ⟨j, hj, rfl, e⟩ | ⟨hn, e⟩
    · rw [e]; exact m_codesAt d hm.1 hm.2.2.1 hj
    · rw [e]; exact m_codesAt_no d hn
  refine gcv (As := [.inl p]) (rest := []) rfl (by decide) x1 h4 rfl rfl (by decide) ?_
  exact gri rfl (fun h => absurd h (by decide)) ⟨rfl, rfl⟩
def cStaged (V : Nat → pT) (C : Nat → Int32) (v p : Int32) : Option pF := match oN 3 v, oN 64 p with
  | some i, some j => if C j = 0 then none else V i j
  | _, _ => none
theorem m_stagedA (d : Nat) (hm : hMS σ V C) (v p : Int32) : ∃ q, xEx (d + 3) 62 [.inr (some 4), .inl v, .inl p] σ (some (.inr q)) σ ∧ hOpt σ q (cStaged V C v p) := by
  unfold cStaged
  rcases oN_cases (n := 3) (by decide) v with ⟨i, hi, rfl, e⟩ | ⟨hn, e⟩
  · rcases oN_cases (n := 64) (by decide) p with ⟨j, hj, rfl, e'⟩ | ⟨hn', e'⟩
    · rw [e, e']; exact m_stagedFile d hm hi hj
    · rw [e, e']; exact ⟨none, m_stagedFile_no d hm.1 (Or.inr hn'), trivial⟩
  · rw [e]; exact ⟨none, m_stagedFile_no d hm.1 (Or.inl hn), trivial⟩
theorem m_staged (d : Nat) (h : hTop σ Ts V C th st mg D1 D2) (v p : Int32) : xEx (d + 4) 83 [.inr (some 2), .inl v, .inl p] σ (some (.inl (aLen (cStaged V C v p)))) σ := by
  obtain ⟨h2, -, -, hm, -⟩ := h
  have h4 := hm.1.1
  obtain ⟨q, x1, o1⟩ := m_stagedA d hm v p
  refine ⟨by decide, rfl, ?_⟩
  show xGo (xEx (d + 3)) xtb_83 _ (0, [some (.inr (some 2)), some (.inl v), some (.inl p), none], [], σ)
  repeat (first | refine gp rfl rfl rfl ?_ | refine ggf rfl (by assumption) (by rfl) ?_ | refine gal rfl (by assumption) (by rfl) (by omega) (by omega) ?_ | refine gil rfl (by assumption) (by rfl) (by omega) (by omega) ?_ | refine gbl rfl (by assumption) (by rfl) (by omega) (by omega) ?_ | refine gln rfl (xlen_i (by assumption)) ?_ | refine gln rfl (xlen_q (by assumption)) ?_)
  refine gcv (As := [.inl v, .inl p]) (rest := []) rfl (by decide) x1 h4 rfl rfl (by decide) ?_
  repeat (first | refine gp rfl rfl rfl ?_ | refine ggf rfl (by assumption) (by rfl) ?_ | refine gal rfl (by assumption) (by rfl) (by omega) (by omega) ?_ | refine gil rfl (by assumption) (by rfl) (by omega) (by omega) ?_ | refine gbl rfl (by assumption) (by rfl) (by omega) (by omega) ?_ | refine gln rfl (xlen_i (by assumption)) ?_ | refine gln rfl (xlen_q (by assumption)) ?_)
  generalize cStaged V C v p = F at o1 ⊢
  match q, F, o1 with
  | none, none, _ =>
    refine gnn rfl (fun z hz => by cases hz) (fun _ => ?_)
    repeat (first | refine gp rfl rfl rfl ?_ | refine ggf rfl (by assumption) (by rfl) ?_ | refine gal rfl (by assumption) (by rfl) (by omega) (by omega) ?_ | refine gil rfl (by assumption) (by rfl) (by omega) (by omega) ?_ | refine gbl rfl (by assumption) (by rfl) (by omega) (by omega) ?_ | refine gln rfl (xlen_i (by assumption)) ?_ | refine gln rfl (xlen_q (by assumption)) ?_)
    exact gri rfl (fun h => absurd h (by decide)) ⟨by rw [xk_m1]; rfl, rfl⟩
  | some q, some F, o1 =>
    obtain ⟨b, b1, ⟨f, b2, -⟩, -⟩ := id (show hFile σ q F from o1)
    refine gnn rfl (fun z hz => ?_) (fun z => by cases z)
    repeat (first | refine gp rfl rfl rfl ?_ | refine ggf rfl (by assumption) (by rfl) ?_ | refine gal rfl (by assumption) (by rfl) (by omega) (by omega) ?_ | refine gil rfl (by assumption) (by rfl) (by omega) (by omega) ?_ | refine gbl rfl (by assumption) (by rfl) (by omega) (by omega) ?_ | refine gln rfl (xlen_i (by assumption)) ?_ | refine gln rfl (xlen_q (by assumption)) ?_)
    exact gri rfl (fun h => absurd h (by decide)) ⟨rfl, rfl⟩
theorem m_stagedLine (d : Nat) (h : hTop σ Ts V C th st mg D1 D2) (v p i : Int32) : xEx (d + 4) 84 [.inr (some 2), .inl v, .inl p, .inl i] σ (some (.inl (aLine (cStaged V C v p) i))) σ := by
  obtain ⟨h2, -, -, hm, -⟩ := h
  have h4 := hm.1.1
  obtain ⟨q, x1, o1⟩ := m_stagedA d hm v p
  refine ⟨by decide, rfl, ?_⟩
  show xGo (xEx (d + 3)) xtb_84 _ (0, [some (.inr (some 2)), some (.inl v), some (.inl p), some (.inl i), none], [], σ)
  repeat (first | refine gp rfl rfl rfl ?_ | refine ggf rfl (by assumption) (by rfl) ?_ | refine gal rfl (by assumption) (by rfl) (by omega) (by omega) ?_ | refine gil rfl (by assumption) (by rfl) (by omega) (by omega) ?_ | refine gbl rfl (by assumption) (by rfl) (by omega) (by omega) ?_ | refine gln rfl (xlen_i (by assumption)) ?_ | refine gln rfl (xlen_q (by assumption)) ?_)
  refine gcv (As := [.inl v, .inl p]) (rest := []) rfl (by decide) x1 h4 rfl rfl (by decide) ?_
  repeat (first | refine gp rfl rfl rfl ?_ | refine ggf rfl (by assumption) (by rfl) ?_ | refine gal rfl (by assumption) (by rfl) (by omega) (by omega) ?_ | refine gil rfl (by assumption) (by rfl) (by omega) (by omega) ?_ | refine gbl rfl (by assumption) (by rfl) (by omega) (by omega) ?_ | refine gln rfl (xlen_i (by assumption)) ?_ | refine gln rfl (xlen_q (by assumption)) ?_)
  generalize cStaged V C v p = F at o1 ⊢
  match q, F, o1 with
  | none, none, _ =>
    refine gnn rfl (fun z hz => by cases hz) (fun _ => ?_)
    repeat (first | refine gp rfl rfl rfl ?_ | refine ggf rfl (by assumption) (by rfl) ?_ | refine gal rfl (by assumption) (by rfl) (by omega) (by omega) ?_ | refine gil rfl (by assumption) (by rfl) (by omega) (by omega) ?_ | refine gbl rfl (by assumption) (by rfl) (by omega) (by omega) ?_ | refine gln rfl (xlen_i (by assumption)) ?_ | refine gln rfl (xlen_q (by assumption)) ?_)
    exact gri rfl (fun h => absurd h (by decide)) ⟨rfl, rfl⟩
  | some q, some F, o1 =>
    obtain ⟨b, b1, -⟩ := id (show hFile σ q F from o1)
    refine gnn rfl (fun z hz => ?_) (fun z => by cases z)
    repeat (first | refine gp rfl rfl rfl ?_ | refine ggf rfl (by assumption) (by rfl) ?_ | refine gal rfl (by assumption) (by rfl) (by omega) (by omega) ?_ | refine gil rfl (by assumption) (by rfl) (by omega) (by omega) ?_ | refine gbl rfl (by assumption) (by rfl) (by omega) (by omega) ?_ | refine gln rfl (xlen_i (by assumption)) ?_ | refine gln rfl (xlen_q (by assumption)) ?_)
    refine gcv (As := [.inl i]) (rest := []) rfl (by decide) (m_lineA (d + 2) o1 i) b1 rfl rfl (by decide) ?_
    repeat (first | refine gp rfl rfl rfl ?_ | refine ggf rfl (by assumption) (by rfl) ?_ | refine gal rfl (by assumption) (by rfl) (by omega) (by omega) ?_ | refine gil rfl (by assumption) (by rfl) (by omega) (by omega) ?_ | refine gbl rfl (by assumption) (by rfl) (by omega) (by omega) ?_ | refine gln rfl (xlen_i (by assumption)) ?_ | refine gln rfl (xlen_q (by assumption)) ?_)
    exact gri rfl (fun h => absurd h (by decide)) ⟨rfl, rfl⟩
theorem m_size (d : Nat) (h : hTop σ Ts V C th st mg D1 D2) (t : Int32) : xEx (d + 2) 76 [.inr (some 2), .inl t] σ (some (.inl (match oN 4 t with
    | some i => nI (pCnt (fun p => (Ts i p).isSome) 64)
    | none => -1))) σ := by
  obtain ⟨h2, ⟨g, h3, hg⟩, hTs, -⟩ := h
  refine ⟨by decide, rfl, ?_⟩
  show xGo (xEx (d + 1)) xtb_76 _ (0, [some (.inr (some 2)), some (.inl t)], [], σ)
  repeat (first | refine gp rfl rfl rfl ?_ | refine ggf rfl (by assumption) (by rfl) ?_ | refine gal rfl (by assumption) (by rfl) (by omega) (by omega) ?_ | refine gil rfl (by assumption) (by rfl) (by omega) (by omega) ?_ | refine gbl rfl (by assumption) (by rfl) (by omega) (by omega) ?_ | refine gln rfl (xlen_i (by assumption)) ?_ | refine gln rfl (xlen_q (by assumption)) ?_)
  refine gcs (As := [.inl t]) (rest := []) rfl (by decide) (m_isTree d t σ) rfl rfl (by decide) ?_
  rcases oN_cases (n := 4) (by decide) t with ⟨i, hi, rfl, e⟩ | ⟨hn, e⟩
  · rw [e]
    refine giff rfl (fun h => absurd (show (1 : Int32) = 0 from h) (by decide)) ?_
    have ti := hTs i hi
    have to := ti.obj
    obtain ⟨g2, t1, t2⟩ := ti
    repeat (first | refine gp rfl rfl rfl ?_ | refine ggf rfl (by assumption) (by rfl) ?_ | refine gal rfl (by assumption) (by rfl) (by omega) (by omega) ?_ | refine gil rfl (by assumption) (by rfl) (by omega) (by omega) ?_ | refine gbl rfl (by assumption) (by rfl) (by omega) (by omega) ?_ | refine gln rfl (xlen_i (by assumption)) ?_ | refine gln rfl (xlen_q (by assumption)) ?_)
    rw [hg i hi]
    refine gcv (As := []) (rest := []) rfl (by decide) (m_countFiles d t1) to rfl rfl (by decide) ?_
    repeat (first | refine gp rfl rfl rfl ?_ | refine ggf rfl (by assumption) (by rfl) ?_ | refine gal rfl (by assumption) (by rfl) (by omega) (by omega) ?_ | refine gil rfl (by assumption) (by rfl) (by omega) (by omega) ?_ | refine gbl rfl (by assumption) (by rfl) (by omega) (by omega) ?_ | refine gln rfl (xlen_i (by assumption)) ?_ | refine gln rfl (xlen_q (by assumption)) ?_)
    refine gri rfl (fun h => absurd h (by decide)) ⟨?_, rfl⟩
    rw [pCnt_congr (P := fun i => (g2 i).isSome) (P' := fun p => (Ts i p).isSome) (fun j hj => hOpt_some (t2 j hj))]
  · rw [e]
    refine git rfl (show (0 : Int32) = 0 from rfl) ?_
    repeat (first | refine gp rfl rfl rfl ?_ | refine ggf rfl (by assumption) (by rfl) ?_ | refine gal rfl (by assumption) (by rfl) (by omega) (by omega) ?_ | refine gil rfl (by assumption) (by rfl) (by omega) (by omega) ?_ | refine gbl rfl (by assumption) (by rfl) (by omega) (by omega) ?_ | refine gln rfl (xlen_i (by assumption)) ?_ | refine gln rfl (xlen_q (by assumption)) ?_)
    exact gri rfl (fun h => absurd h (by decide)) ⟨by rw [xk_m1], rfl⟩
end QUERY
