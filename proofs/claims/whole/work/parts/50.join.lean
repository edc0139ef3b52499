/-! MODULE: three texts become one, the class -/
theorem pAft_len {c : Int32} : ∀ {x r : List Int32}, pAft c x = some r → r.length < x.length
  | [], r, h => by cases h
  | y :: x, r, h => by
    unfold pAft at h
    split at h
    · cases h; exact Nat.lt_succ_self _
    · exact Nat.lt_succ_of_lt (pAft_len h)
theorem pMt_in : ∀ {o x : List Int32} {s i p : Nat}, (pMt o x s).getD i none = some p → s ≤ p ∧ p < s + x.length
  | [], x, s, i, p, h => by simp [pMt] at h
  | c :: o, x, s, i, p, h => by
    unfold pMt at h
    split at h
    · rename_i r hr
      have hl := pAft_len hr
      split at h
      · cases i with
        | zero =>
          have h : some (s + (x.length - r.length - 1)) = some p := h
          cases h
          omega
        | succ i =>
          have h : (pMt o r (s + (x.length - r.length))).getD i none = some p := h
          have := pMt_in h
          omega
      · cases i with
        | zero => cases (show (none : Option Nat) = some p from h)
        | succ i => exact pMt_in (show (pMt o x s).getD i none = some p from h)
    · cases i with
      | zero => cases (show (none : Option Nat) = some p from h)
      | succ i => exact pMt_in (show (pMt o x s).getD i none = some p from h)
theorem pMt_up : ∀ {o x : List Int32} {s i i' p p' : Nat}, i < i' → (pMt o x s).getD i none = some p → (pMt o x s).getD i' none = some p' → p < p'
  | [], x, s, i, i', p, p', _, h, _ => by simp [pMt] at h
  | c :: o, x, s, i, 0, p, p', hi, _, _ => absurd hi (by omega)
  | c :: o, x, s, i, i' + 1, p, p', hi, h, h' => by
    unfold pMt at h h'
    cases hr : pAft c x with
    | none =>
      rw [hr] at h h'
      have h' : (pMt o x s).getD i' none = some p' := h'
      cases i with
      | zero => cases (show (none : Option Nat) = some p from h)
      | succ i => exact pMt_up (by omega) (show (pMt o x s).getD i none = some p from h) h'
    | some r =>
      have hl := pAft_len hr
      rw [hr] at h h'
      simp only at h h'
      split at h
      · rename_i hq
        rw [if_pos hq] at h'
        have h' : (pMt o r (s + (x.length - r.length))).getD i' none = some p' := h'
        cases i with
        | zero =>
          have h : some (s + (x.length - r.length - 1)) = some p := h
          cases h
          have := pMt_in h'
          omega
        | succ i => exact pMt_up (by omega) (show (pMt o r (s + (x.length - r.length))).getD i none = some p from h) h'
      · rename_i hq
        rw [if_neg hq] at h'
        have h' : (pMt o x s).getD i' none = some p' := h'
        cases i with
        | zero => cases (show (none : Option Nat) = some p from h)
        | succ i => exact pMt_up (by omega) (show (pMt o x s).getD i none = some p from h) h'
/-- up to line i of o: where the next gaps begin, what is written, was there a clash -/
def pJs (st : Nat) (lo la lb : List Int32) : Nat → Nat × Nat × Nat × List Int32 × Bool
  | 0 => (0, 0, 0, [], false)
  | i + 1 => match (pMt lo la 0).getD i none, (pMt lo lb 0).getD i none with
    | some p, some q => (i + 1, p + 1, q + 1, (pJs st lo la lb i).2.2.2.1 ++ pGap st (pCut lo (pJs st lo la lb i).1 i) (pCut la (pJs st lo la lb i).2.1 p) (pCut lb (pJs st lo la lb i).2.2.1 q) ++ [lo.getD i 0], (pJs st lo la lb i).2.2.2.2 || pBad (pCut lo (pJs st lo la lb i).1 i) (pCut la (pJs st lo la lb i).2.1 p) (pCut lb (pJs st lo la lb i).2.2.1 q))
    | _, _ => pJs st lo la lb i
def pJoin (st : Nat) (lo la lb : List Int32) : List Int32 := (pJs st lo la lb lo.length).2.2.2.1 ++ pGap st (pCut lo (pJs st lo la lb lo.length).1 lo.length) (pCut la (pJs st lo la lb lo.length).2.1 la.length) (pCut lb (pJs st lo la lb lo.length).2.2.1 lb.length)
def pJbad (st : Nat) (lo la lb : List Int32) : Bool := (pJs st lo la lb lo.length).2.2.2.2 || pBad (pCut lo (pJs st lo la lb lo.length).1 lo.length) (pCut la (pJs st lo la lb lo.length).2.1 la.length) (pCut lb (pJs st lo la lb lo.length).2.2.1 lb.length)
theorem pJs_ok (st : Nat) (lo la lb : List Int32) : ∀ i, (pJs st lo la lb i).1 ≤ i ∧ (pJs st lo la lb i).2.1 ≤ la.length ∧ (pJs st lo la lb i).2.2.1 ≤ lb.length ∧ (∀ i' p, i ≤ i' → (pMt lo la 0).getD i' none = some p → (pJs st lo la lb i).2.1 ≤ p) ∧ (∀ i' q, i ≤ i' → (pMt lo lb 0).getD i' none = some q → (pJs st lo la lb i).2.2.1 ≤ q)
  | 0 => ⟨Nat.le_refl _, Nat.zero_le _, Nat.zero_le _, fun _ _ _ _ => Nat.zero_le _, fun _ _ _ _ => Nat.zero_le _⟩
  | i + 1 => by
    obtain ⟨h1, h2, h3, h4, h5⟩ := pJs_ok st lo la lb i
    unfold pJs
    split
    · rename_i p q hp hq
      have ip := pMt_in hp
      have iq := pMt_in hq
      exact ⟨Nat.le_refl _, by simp only; omega, by simp only; omega, fun i' p' hi hh => pMt_up (by omega) hp hh, fun i' q' hi hh => pMt_up (by omega) hq hh⟩
    · exact ⟨by omega, h2, h3, fun i' p hi => h4 i' p (by omega), fun i' p hi => h5 i' p (by omega)⟩
/-- what the merger of lines sees -/
def hV (σ : xS) (w : List Int32) (c : Bool) (gA gB : Nat → Int32) (o a b : Nat) (lo la lb : List Int32) (fo wo fa wa fb wb : Nat) : Prop := hLM σ w c ∧ hPs σ o a b lo la lb fo wo fa wa fb wb ∧ σ.1 32 = some (.inl (0, 8, gA)) ∧ σ.1 33 = some (.inl (0, 8, gB))
theorem hLM.ne {σ : xS} {w : List Int32} {c : Bool} {k : Nat} {e : xE} (h : hLM σ w c) (hk : k ≠ 21 ∧ k ≠ 37) : hLM (xup σ k e) w c := by
  obtain ⟨h1, h2, f, h3, h4⟩ := h
  exact ⟨by rw [xup_ne (by omega)]; exact h1, h2, f, by rw [xup_ne (by omega)]; exact h3, h4⟩
theorem hInts.up {σ : xS} {b k : Nat} {l : List Int32} {e : xE} (h : hInts σ b l) (hk : b ≠ k) : hInts (xup σ k e) b l := by
  obtain ⟨f, h1, h2⟩ := h
  exact ⟨f, by rw [xup_ne hk]; exact h1, h2⟩
theorem hPart.up {σ : xS} {a b fr wd k : Nat} {e : xE} (h : hPart σ a b fr wd) (hk : a ≠ k) : hPart (xup σ k e) a b fr wd := by
  unfold hPart at h ⊢
  rw [xup_ne hk]
  exact h
theorem hV.o {σ : xS} {w : List Int32} {c : Bool} {gA gB : Nat → Int32} {o a b : Nat} {lo la lb : List Int32} {fo wo fa wa fb wb fo' wo' : Nat} (h : hV σ w c gA gB o a b lo la lb fo wo fa wa fb wb) (ho : far o) (ha : far a) (hb : far b) : hV (xup σ 34 (.inr (.inr (5, [.inr (some o), .inl (nI fo'), .inl (nI wo')])))) w c gA gB o a b lo la lb fo' wo' fa wa fb wb := by
  obtain ⟨h1, ⟨-, h3, h4, h5, h6, h7⟩, h8, h9⟩ := h
  unfold far at ho ha hb
  exact ⟨h1.ne (by decide), ⟨xup_eq _ _ _, h3.up (by decide), h4.up (by decide), h5.up (by omega), h6.up (by omega), h7.up (by omega)⟩, by rw [xup_ne (by decide)]; exact h8, by rw [xup_ne (by decide)]; exact h9⟩
theorem hV.a {σ : xS} {w : List Int32} {c : Bool} {gA gB : Nat → Int32} {o a b : Nat} {lo la lb : List Int32} {fo wo fa wa fb wb fo' wo' : Nat} (h : hV σ w c gA gB o a b lo la lb fo wo fa wa fb wb) (ho : far o) (ha : far a) (hb : far b) : hV (xup σ 35 (.inr (.inr (5, [.inr (some a), .inl (nI fo'), .inl (nI wo')])))) w c gA gB o a b lo la lb fo wo fo' wo' fb wb := by
  obtain ⟨h1, ⟨h3, -, h4, h5, h6, h7⟩, h8, h9⟩ := h
  unfold far at ho ha hb
  exact ⟨h1.ne (by decide), ⟨h3.up (by decide), xup_eq _ _ _, h4.up (by decide), h5.up (by omega), h6.up (by omega), h7.up (by omega)⟩, by rw [xup_ne (by decide)]; exact h8, by rw [xup_ne (by decide)]; exact h9⟩
theorem hV.b {σ : xS} {w : List Int32} {c : Bool} {gA gB : Nat → Int32} {o a b : Nat} {lo la lb : List Int32} {fo wo fa wa fb wb fo' wo' : Nat} (h : hV σ w c gA gB o a b lo la lb fo wo fa wa fb wb) (ho : far o) (ha : far a) (hb : far b) : hV (xup σ 36 (.inr (.inr (5, [.inr (some b), .inl (nI fo'), .inl (nI wo')])))) w c gA gB o a b lo la lb fo wo fa wa fo' wo' := by
  obtain ⟨h1, ⟨h3, h4, -, h5, h6, h7⟩, h8, h9⟩ := h
  unfold far at ho ha hb
  exact ⟨h1.ne (by decide), ⟨h3.up (by decide), h4.up (by decide), xup_eq _ _ _, h5.up (by omega), h6.up (by omega), h7.up (by omega)⟩, by rw [xup_ne (by decide)]; exact h8, by rw [xup_ne (by decide)]; exact h9⟩
theorem hV.w {σ σ' : xS} {w w' : List Int32} {c c' : Bool} {gA gB : Nat → Int32} {o a b : Nat} {lo la lb : List Int32} {fo wo fa wa fb wb : Nat} (h : hV σ w c gA gB o a b lo la lb fo wo fa wa fb wb) (hl : hLM σ' w' c') (hw : hW σ σ') (ho : far o) (ha : far a) (hb : far b) : hV σ' w' c' gA gB o a b lo la lb fo wo fa wa fb wb := by
  obtain ⟨h1, h2, h8, h9⟩ := h
  exact ⟨hl, h2.w hw ho ha hb, by rw [hw.2 32 (by decide) (by decide)]; exact h8, by rw [hw.2 33 (by decide) (by decide)]; exact h9⟩
theorem hW.fr {σ σ' : xS} (h : hW σ σ') : hFr 21 37 σ σ' := ⟨h.1, fun k hk => h.2 k (by omega) (by omega)⟩
/-- the merger of lines, its table and its parts, as they lie between two merges -/
def hL0 (σ : xS) : Prop := (∃ w c, hLM σ w c) ∧ (∃ F, hTb σ F) ∧ (∃ f, σ.1 32 = some (.inl (0, 8, f))) ∧ (∃ f, σ.1 33 = some (.inl (0, 8, f))) ∧ (∃ x y z, σ.1 34 = some (.inr (.inr (5, [x, y, z])))) ∧ (∃ x y z, σ.1 35 = some (.inr (.inr (5, [x, y, z])))) ∧ (∃ x y z, σ.1 36 = some (.inr (.inr (5, [x, y, z]))))
theorem m_join (d : Nat) {σ : xS} {o a b st : Nat} {lo la lb : List Int32} (h : hL0 σ) (hlo : hInts σ o lo) (hla : hInts σ a la) (hlb : hInts σ b lb) (ho : far o) (ha : far a) (hb : far b) (so : lo.length ≤ 8) (sa : la.length ≤ 76) (sb : lb.length ≤ 76) (hst : st < 1000) :
    ∃ σ', xEx (d + 3) 44 [.inr (some 21), .inr (some o), .inr (some a), .inr (some b), .inl (nI st)] σ none σ' ∧ hLM σ' (pW [] (pJoin st lo la lb)) (pJbad st lo la lb) ∧ hL0 σ' ∧ hFr 21 37 σ σ' := by
  let K : Option xV → xS → Prop := fun r0 σ0 => r0 = none ∧ hLM σ0 (pW [] (pJoin st lo la lb)) (pJbad st lo la lb) ∧ hL0 σ0 ∧ hFr 21 37 σ σ0
  have main : xGo (xEx (d + 2)) xtb_44 K (0, [some (.inr (some 21)), some (.inr (some o)), some (.inr (some a)), some (.inr (some b)), some (.inl (nI st)), none], [], σ) := by
    obtain ⟨⟨w0, c0, h21, -, f37, h37, -⟩, ⟨F0, tb0⟩, ⟨fA0, hA0⟩, ⟨fB0, hB0⟩, ⟨ox, oy, oz, hO⟩, ⟨ax, ay, az, hA⟩, ⟨bx, by', bz, hB⟩⟩ := h
    unfold far at ho ha hb
    repeat (first | refine gp rfl rfl rfl ?_ | refine ggf rfl (by assumption) (by rfl) ?_ | refine gal rfl (by assumption) (by rfl) (by omega) (by omega) ?_ | refine gil rfl (by assumption) (by rfl) (by omega) (by omega) ?_ | refine gbl rfl (by assumption) (by rfl) (by omega) (by omega) ?_ | refine gln rfl (xlen_i (by assumption)) ?_ | refine gln rfl (xlen_q (by assumption)) ?_)
    refine gpf rfl h21 (Nat.le_of_ble_eq_true rfl) (Or.inl rfl) ?_
    repeat (first | refine gp rfl rfl rfl ?_ | refine ggf rfl (by assumption) (by rfl) ?_ | refine gal rfl (by assumption) (by rfl) (by omega) (by omega) ?_ | refine gil rfl (by assumption) (by rfl) (by omega) (by omega) ?_ | refine gbl rfl (by assumption) (by rfl) (by omega) (by omega) ?_ | refine gln rfl (xlen_i (by assumption)) ?_ | refine gln rfl (xlen_q (by assumption)) ?_)
    refine gpf rfl (xup_eq _ _ _) (Nat.le_of_ble_eq_true rfl) (Or.inr ⟨rfl, Or.inl rfl⟩) ?_
    rw [xup_up]
    show xGo (xEx (d + 2)) xtb_44 K (10, [some (.inr (some 21)), some (.inr (some o)), some (.inr (some a)), some (.inr (some b)), some (.inl (nI st)), none], [], xup σ 21 (.inr (.inr (6, [.inr (some 22), .inr (some 32), .inr (some 33), .inr (some 34), .inr (some 35), .inr (some 36), .inr (some 37), .inl (nI 0), .inl (bI false)]))))
    have L1 : hLM (xup σ 21 (.inr (.inr (6, [.inr (some 22), .inr (some 32), .inr (some 33), .inr (some 34), .inr (some 35), .inr (some 36), .inr (some 37), .inl (nI 0), .inl (bI false)])))) [] false := ⟨xup_eq _ _ _, by decide, f37, by rw [xup_ne (by decide)]; exact h37, fun j hj => absurd hj (Nat.not_lt_zero _)⟩
    have R1 : hFr 21 37 σ (xup σ 21 (.inr (.inr (6, [.inr (some 22), .inr (some 32), .inr (some 33), .inr (some 34), .inr (some 35), .inr (some 36), .inr (some 37), .inl (nI 0), .inl (bI false)])))) := hFr.up (by decide) (by decide)
    have T1 : hTb (xup σ 21 (.inr (.inr (6, [.inr (some 22), .inr (some 32), .inr (some 33), .inr (some 34), .inr (some 35), .inr (some 36), .inr (some 37), .inl (nI 0), .inl (bI false)])))) F0 := ⟨by rw [xup_ne (by decide)]; exact tb0.1, fun i hi => by rw [xup_ne (by omega)]; exact tb0.2 i hi⟩
    have Q1 : ∀ k, k ≠ 21 → (xup σ 21 (.inr (.inr (6, [.inr (some 22), .inr (some 32), .inr (some 33), .inr (some 34), .inr (some 35), .inr (some 36), .inr (some 37), .inl (nI 0), .inl (bI false)])))).1 k = σ.1 k := fun k hk => xup_ne hk
    generalize xup σ 21 (.inr (.inr (6, [.inr (some 22), .inr (some 32), .inr (some 33), .inr (some 34), .inr (some 35), .inr (some 36), .inr (some 37), .inl (nI 0), .inl (bI false)]))) = σ1 at *
    have e21 := L1.1
    repeat (first | refine gp rfl rfl rfl ?_ | refine ggf rfl (by assumption) (by rfl) ?_ | refine gal rfl (by assumption) (by rfl) (by omega) (by omega) ?_ | refine gil rfl (by assumption) (by rfl) (by omega) (by omega) ?_ | refine gbl rfl (by assumption) (by rfl) (by omega) (by omega) ?_ | refine gln rfl (xlen_i (by assumption)) ?_ | refine gln rfl (xlen_q (by assumption)) ?_)
    obtain ⟨σ2, F2, gA, x2, T2, p2, v2, n2, q2⟩ := m_match d (p := 32) L1 T1 (hlo.fr R1 (by omega)) (hla.fr R1 (by omega)) ho ha so sa (by rw [Q1 32 (by decide)]; exact hA0) (Or.inl rfl)
    refine gcv (As := [.inr (some o), .inr (some a), .inr (some 32)]) (rest := []) rfl (by decide) x2 e21 rfl rfl (by decide) ?_
    have R2 : hFr 21 37 σ σ2 := R1.trans ⟨n2, fun k hk => q2 k (by omega) (by omega)⟩
    have L2 : hLM σ2 [] false := by
      obtain ⟨z1, z2, f, z3, z4⟩ := L1
      exact ⟨by rw [q2 21 (by decide) (by decide)]; exact z1, z2, f, by rw [q2 37 (by decide) (by decide)]; exact z3, z4⟩
    have e21 := L2.1
    repeat (first | refine gp rfl rfl rfl ?_ | refine ggf rfl (by assumption) (by rfl) ?_ | refine gal rfl (by assumption) (by rfl) (by omega) (by omega) ?_ | refine gil rfl (by assumption) (by rfl) (by omega) (by omega) ?_ | refine gbl rfl (by assumption) (by rfl) (by omega) (by omega) ?_ | refine gln rfl (xlen_i (by assumption)) ?_ | refine gln rfl (xlen_q (by assumption)) ?_)
    obtain ⟨σ3, F3, gB, x3, T3, p3, v3, n3, q3⟩ := m_match d (p := 33) L2 T2 (hlo.fr R2 (by omega)) (hlb.fr R2 (by omega)) ho hb so sb (by rw [q2 33 (by decide) (by decide), Q1 33 (by decide)]; exact hB0) (Or.inr rfl)
    refine gcv (As := [.inr (some o), .inr (some b), .inr (some 33)]) (rest := []) rfl (by decide) x3 e21 rfl rfl (by decide) ?_
    have R3 : hFr 21 37 σ σ3 := R2.trans ⟨n3, fun k hk => q3 k (by omega) (by omega)⟩
    have L3 : hLM σ3 [] false := by
      obtain ⟨z1, z2, f, z3, z4⟩ := L2
      exact ⟨by rw [q3 21 (by decide) (by decide)]; exact z1, z2, f, by rw [q3 37 (by decide) (by decide)]; exact z3, z4⟩
    have e32 : σ3.1 32 = some (.inl (0, 8, gA)) := by rw [q3 32 (by decide) (by decide)]; exact p2
    have e34 : σ3.1 34 = some (.inr (.inr (5, [ox, oy, oz]))) := by rw [q3 34 (by decide) (by decide), q2 34 (by decide) (by decide), Q1 34 (by decide)]; exact hO
    have e35 : σ3.1 35 = some (.inr (.inr (5, [ax, ay, az]))) := by rw [q3 35 (by decide) (by decide), q2 35 (by decide) (by decide), Q1 35 (by decide)]; exact hA
    have e36 : σ3.1 36 = some (.inr (.inr (5, [bx, by', bz]))) := by rw [q3 36 (by decide) (by decide), q2 36 (by decide) (by decide), Q1 36 (by decide)]; exact hB
    have e21 := L3.1
    have jO := hlo.fr R3 (by omega)
    have jA := hla.fr R3 (by omega)
    have jB := hlb.fr R3 (by omega)
    clear x2 x3 p2 q2 q3 L1 L2 T1 T2 n2 n3 R1 R2 Q1 h21 hA0 hB0 hO hA hB h37 tb0
    repeat (first | refine gp rfl rfl rfl ?_ | refine ggf rfl (by assumption) (by rfl) ?_ | refine gal rfl (by assumption) (by rfl) (by omega) (by omega) ?_ | refine gil rfl (by assumption) (by rfl) (by omega) (by omega) ?_ | refine gbl rfl (by assumption) (by rfl) (by omega) (by omega) ?_ | refine gln rfl (xlen_i (by assumption)) ?_ | refine gln rfl (xlen_q (by assumption)) ?_)
    refine gcv (As := [.inr (some o)]) (rest := []) rfl (by decide) (m_startAt (d + 1) e34) e34 rfl rfl (by decide) ?_
    have L4 := hLM.ne (k := 34) (e := (.inr (.inr (5, [.inr (some o), .inl (nI 0), .inl (nI 0)])))) L3 (by decide)
    have e21 := L4.1
    have e35' : (xup σ3 34 (.inr (.inr (5, [.inr (some o), .inl (nI 0), .inl (nI 0)])))).1 35 = some (.inr (.inr (5, [ax, ay, az]))) := by rw [xup_ne (by decide)]; exact e35
    repeat (first | refine gp rfl rfl rfl ?_ | refine ggf rfl (by assumption) (by rfl) ?_ | refine gal rfl (by assumption) (by rfl) (by omega) (by omega) ?_ | refine gil rfl (by assumption) (by rfl) (by omega) (by omega) ?_ | refine gbl rfl (by assumption) (by rfl) (by omega) (by omega) ?_ | refine gln rfl (xlen_i (by assumption)) ?_ | refine gln rfl (xlen_q (by assumption)) ?_)
    refine gcv (As := [.inr (some a)]) (rest := []) rfl (by decide) (m_startAt (d + 1) e35') e35' rfl rfl (by decide) ?_
    have L5 := hLM.ne (k := 35) (e := (.inr (.inr (5, [.inr (some a), .inl (nI 0), .inl (nI 0)])))) L4 (by decide)
    have e21 := L5.1
    have e36' : (xup (xup σ3 34 (.inr (.inr (5, [.inr (some o), .inl (nI 0), .inl (nI 0)])))) 35 (.inr (.inr (5, [.inr (some a), .inl (nI 0), .inl (nI 0)])))).1 36 = some (.inr (.inr (5, [bx, by', bz]))) := by rw [xup_ne (by decide), xup_ne (by decide)]; exact e36
    repeat (first | refine gp rfl rfl rfl ?_ | refine ggf rfl (by assumption) (by rfl) ?_ | refine gal rfl (by assumption) (by rfl) (by omega) (by omega) ?_ | refine gil rfl (by assumption) (by rfl) (by omega) (by omega) ?_ | refine gbl rfl (by assumption) (by rfl) (by omega) (by omega) ?_ | refine gln rfl (xlen_i (by assumption)) ?_ | refine gln rfl (xlen_q (by assumption)) ?_)
    refine gcv (As := [.inr (some b)]) (rest := []) rfl (by decide) (m_startAt (d + 1) e36') e36' rfl rfl (by decide) ?_
    have V6 : hV (xup (xup (xup σ3 34 (.inr (.inr (5, [.inr (some o), .inl (nI 0), .inl (nI 0)])))) 35 (.inr (.inr (5, [.inr (some a), .inl (nI 0), .inl (nI 0)])))) 36 (.inr (.inr (5, [.inr (some b), .inl (nI 0), .inl (nI 0)])))) [] false gA gB o a b lo la lb 0 0 0 0 0 0 := by
      refine ⟨L5.ne (by decide), ⟨?_, ?_, xup_eq _ _ _, ((jO.up (by omega)).up (by omega)).up (by omega), ((jA.up (by omega)).up (by omega)).up (by omega), ((jB.up (by omega)).up (by omega)).up (by omega)⟩, ?_, ?_⟩
      · exact hPart.up (hPart.up (xup_eq _ _ _) (by decide)) (by decide)
      · exact hPart.up (xup_eq _ _ _) (by decide)
      · rw [xup_ne (by decide), xup_ne (by decide), xup_ne (by decide)]; exact e32
      · rw [xup_ne (by decide), xup_ne (by decide), xup_ne (by decide)]; exact p3
    have R6 : hFr 21 37 σ (xup (xup (xup σ3 34 (.inr (.inr (5, [.inr (some o), .inl (nI 0), .inl (nI 0)])))) 35 (.inr (.inr (5, [.inr (some a), .inl (nI 0), .inl (nI 0)])))) 36 (.inr (.inr (5, [.inr (some b), .inl (nI 0), .inl (nI 0)])))) := R3.trans ((hFr.up (by decide) (by decide)).trans ((hFr.up (by decide) (by decide)).trans (hFr.up (by decide) (by decide))))
    have T6 : ∃ F, hTb (xup (xup (xup σ3 34 (.inr (.inr (5, [.inr (some o), .inl (nI 0), .inl (nI 0)])))) 35 (.inr (.inr (5, [.inr (some a), .inl (nI 0), .inl (nI 0)])))) 36 (.inr (.inr (5, [.inr (some b), .inl (nI 0), .inl (nI 0)])))) F := ⟨F3, by rw [xup_ne (by decide), xup_ne (by decide), xup_ne (by decide)]; exact T3.1, fun i hi => by rw [xup_ne (by omega), xup_ne (by omega), xup_ne (by omega)]; exact T3.2 i hi⟩
    generalize xup (xup (xup σ3 34 (.inr (.inr (5, [.inr (some o), .inl (nI 0), .inl (nI 0)])))) 35 (.inr (.inr (5, [.inr (some a), .inl (nI 0), .inl (nI 0)])))) 36 (.inr (.inr (5, [.inr (some b), .inl (nI 0), .inl (nI 0)]))) = σ6 at V6 R6 T6 ⊢
    clear e21 e32 e34 e35 e36 e35' e36' L3 L4 L5 jO jA jB p3 R3 T3
    have loop : ∀ k i (σ7 : xS) (wo wa wb : Nat), i + k = lo.length → hV σ7 (pW [] (pJs st lo la lb i).2.2.2.1) (pJs st lo la lb i).2.2.2.2 gA gB o a b lo la lb (pJs st lo la lb i).1 wo (pJs st lo la lb i).2.1 wa (pJs st lo la lb i).2.2.1 wb → hFr 21 37 σ σ7 → (∃ F, hTb σ7 F) → xGo (xEx (d + 2)) xtb_44 K (61, [some (.inr (some 21)), some (.inr (some o)), some (.inr (some a)), some (.inr (some b)), some (.inl (nI st)), some (.inl (nI i))], [.inl (nI lo.length), .inl (nI i)], σ7) := by
      intro k
      induction k with
      | zero =>
        intro i σ7 wo wa wb hi hv hr hT
        obtain rfl : i = lo.length := by omega
        obtain ⟨j1, j2, j3, j4, j5⟩ := pJs_ok st lo la lb lo.length
        refine gct rfl (show nI _ ≤ nI _ from nI_le (by omega) (by omega)) ?_
        obtain ⟨⟨e21, -⟩, ⟨zO, zA, zB, ⟨fo, io, -⟩, ⟨fa, ia, -⟩, ⟨fb, ib, -⟩⟩, e32, e33⟩ := id hv
        repeat (first | refine gp rfl rfl rfl ?_ | refine ggf rfl (by assumption) (by rfl) ?_ | refine gal rfl (by assumption) (by rfl) (by omega) (by omega) ?_ | refine gil rfl (by assumption) (by rfl) (by omega) (by omega) ?_ | refine gbl rfl (by assumption) (by rfl) (by omega) (by omega) ?_ | refine gln rfl (xlen_i (by assumption)) ?_ | refine gln rfl (xlen_q (by assumption)) ?_)
        refine gcv (As := [.inl (nI lo.length)]) (rest := []) rfl (by decide) (m_reachTo (d + 1) zO j1) (show σ7.1 34 = _ from zO) rfl rfl (by decide) ?_
        have hv8 := hv.o (fo' := (pJs st lo la lb lo.length).1) (wo' := lo.length - (pJs st lo la lb lo.length).1) ho ha hb
        have hr8 := hr.trans (hFr.up (k := 34) (e := (.inr (.inr (5, [.inr (some o), .inl (nI (pJs st lo la lb lo.length).1), .inl (nI (lo.length - (pJs st lo la lb lo.length).1))])))) (by decide) (by decide))
        obtain ⟨⟨e21, -⟩, ⟨zO, zA, zB, ⟨fo, io, -⟩, ⟨fa, ia, -⟩, ⟨fb, ib, -⟩⟩, e32, e33⟩ := id hv8
        repeat (first | refine gp rfl rfl rfl ?_ | refine ggf rfl (by assumption) (by rfl) ?_ | refine gal rfl (by assumption) (by rfl) (by omega) (by omega) ?_ | refine gil rfl (by assumption) (by rfl) (by omega) (by omega) ?_ | refine gbl rfl (by assumption) (by rfl) (by omega) (by omega) ?_ | refine gln rfl (xlen_i (by assumption)) ?_ | refine gln rfl (xlen_q (by assumption)) ?_)
        refine gcv (As := [.inl (nI la.length)]) (rest := []) rfl (by decide) (m_reachTo (d + 1) zA j2) (show _ = some (Sum.inr (Sum.inr (5, _))) from zA) rfl rfl (by decide) ?_
        have hv9 := hv8.a (fo' := (pJs st lo la lb lo.length).2.1) (wo' := la.length - (pJs st lo la lb lo.length).2.1) ho ha hb
        have hr9 := hr8.trans (hFr.up (k := 35) (e := (.inr (.inr (5, [.inr (some a), .inl (nI (pJs st lo la lb lo.length).2.1), .inl (nI (la.length - (pJs st lo la lb lo.length).2.1))])))) (by decide) (by decide))
        obtain ⟨⟨e21, -⟩, ⟨zO, zA, zB, ⟨fo, io, -⟩, ⟨fa, ia, -⟩, ⟨fb, ib, -⟩⟩, e32, e33⟩ := id hv9
        repeat (first | refine gp rfl rfl rfl ?_ | refine ggf rfl (by assumption) (by rfl) ?_ | refine gal rfl (by assumption) (by rfl) (by omega) (by omega) ?_ | refine gil rfl (by assumption) (by rfl) (by omega) (by omega) ?_ | refine gbl rfl (by assumption) (by rfl) (by omega) (by omega) ?_ | refine gln rfl (xlen_i (by assumption)) ?_ | refine gln rfl (xlen_q (by assumption)) ?_)
        refine gcv (As := [.inl (nI lb.length)]) (rest := []) rfl (by decide) (m_reachTo (d + 1) zB j3) (show _ = some (Sum.inr (Sum.inr (5, _))) from zB) rfl rfl (by decide) ?_
        have hv10 := hv9.b (fo' := (pJs st lo la lb lo.length).2.2.1) (wo' := lb.length - (pJs st lo la lb lo.length).2.2.1) ho ha hb
        have hr10 := hr9.trans (hFr.up (k := 36) (e := (.inr (.inr (5, [.inr (some b), .inl (nI (pJs st lo la lb lo.length).2.2.1), .inl (nI (lb.length - (pJs st lo la lb lo.length).2.2.1))])))) (by decide) (by decide))
        have hT10 : ∃ F, hTb (xup (xup (xup σ7 34 (.inr (.inr (5, [.inr (some o), .inl (nI (pJs st lo la lb lo.length).1), .inl (nI (lo.length - (pJs st lo la lb lo.length).1))])))) 35 (.inr (.inr (5, [.inr (some a), .inl (nI (pJs st lo la lb lo.length).2.1), .inl (nI (la.length - (pJs st lo la lb lo.length).2.1))])))) 36 (.inr (.inr (5, [.inr (some b), .inl (nI (pJs st lo la lb lo.length).2.2.1), .inl (nI (lb.length - (pJs st lo la lb lo.length).2.2.1))])))) F := by
          obtain ⟨F, t1, t2⟩ := hT
          exact ⟨F, by rw [xup_ne (by decide), xup_ne (by decide), xup_ne (by decide)]; exact t1, fun i hi => by rw [xup_ne (by omega), xup_ne (by omega), xup_ne (by omega)]; exact t2 i hi⟩
        obtain ⟨⟨e21, -⟩, -⟩ := id hv10
        repeat (first | refine gp rfl rfl rfl ?_ | refine ggf rfl (by assumption) (by rfl) ?_ | refine gal rfl (by assumption) (by rfl) (by omega) (by omega) ?_ | refine gil rfl (by assumption) (by rfl) (by omega) (by omega) ?_ | refine gbl rfl (by assumption) (by rfl) (by omega) (by omega) ?_ | refine gln rfl (xlen_i (by assumption)) ?_ | refine gln rfl (xlen_q (by assumption)) ?_)
        obtain ⟨σ8, y1, y2, y3⟩ := m_writeGap d (st := st) hv10.1 hv10.2.1 ho ha hb (by omega) sa sb (by omega) (by omega) (by omega) hst
        refine gcv (As := [.inl (nI st)]) (rest := []) rfl (by decide) y1 e21 rfl rfl (by decide) ?_
        have hv11 := hv10.w y2 y3 ho ha hb
        refine grv rfl ⟨rfl, ?_, ?_, hr10.trans y3.fr⟩
        · rw [pW_pW] at y2
          exact y2
        · obtain ⟨-, ⟨zO, zA, zB, -⟩, e32, e33⟩ := hv11
          obtain ⟨F, t1, t2⟩ := hT10
          exact ⟨⟨_, _, y2⟩, ⟨F, by rw [y3.2 22 (by decide) (by decide)]; exact t1, fun i hi => by rw [y3.2 _ (by omega) (by omega)]; exact t2 i hi⟩, ⟨_, e32⟩, ⟨_, e33⟩, ⟨_, _, _, zO⟩, ⟨_, _, _, zA⟩, ⟨_, _, _, zB⟩⟩
      | succ k ih =>
        intro i σ7 wo wa wb hi hv hr hT
        obtain ⟨j1, j2, j3, j4, j5⟩ := pJs_ok st lo la lb i
        obtain ⟨⟨e21, -⟩, ⟨zO, zA, zB, ⟨fo, io, io2⟩, ⟨fa, ia, -⟩, ⟨fb, ib, -⟩⟩, e32, e33⟩ := id hv
        refine gcf rfl (nI_ge (by omega) (by omega)) ?_
        repeat (first | refine gp rfl rfl rfl ?_ | refine ggf rfl (by assumption) (by rfl) ?_ | refine gal rfl (by assumption) (by rfl) (by omega) (by omega) ?_ | refine gil rfl (by assumption) (by rfl) (by omega) (by omega) ?_ | refine gbl rfl (by assumption) (by rfl) (by omega) (by omega) ?_ | refine gln rfl (xlen_i (by assumption)) ?_ | refine gln rfl (xlen_q (by assumption)) ?_)
        refine gcf rfl (show ¬ nI 8 ≤ nI i from nI_ge (by omega) (by omega)) ?_
        repeat (first | refine gp rfl rfl rfl ?_ | refine ggf rfl (by assumption) (by rfl) ?_ | refine gal rfl (by assumption) (by rfl) (by omega) (by omega) ?_ | refine gil rfl (by assumption) (by rfl) (by omega) (by omega) ?_ | refine gbl rfl (by assumption) (by rfl) (by omega) (by omega) ?_ | refine gln rfl (xlen_i (by assumption)) ?_ | refine gln rfl (xlen_q (by assumption)) ?_)
        rw [v2 i (by omega)]
        have stay : pJs st lo la lb (i + 1) = pJs st lo la lb i → xGo (xEx (d + 2)) xtb_44 K (181, [some (.inr (some 21)), some (.inr (some o)), some (.inr (some a)), some (.inr (some b)), some (.inl (nI st)), some (.inl (nI i))], [], σ7) := by
          intro he
          repeat (first | refine gp rfl rfl rfl ?_ | refine ggf rfl (by assumption) (by rfl) ?_ | refine gal rfl (by assumption) (by rfl) (by omega) (by omega) ?_ | refine gil rfl (by assumption) (by rfl) (by omega) (by omega) ?_ | refine gbl rfl (by assumption) (by rfl) (by omega) (by omega) ?_ | refine gln rfl (xlen_i (by assumption)) ?_ | refine gln rfl (xlen_q (by assumption)) ?_)
          rw [nI_s]
          refine ih (i + 1) σ7 wo wa wb (by omega) ?_ hr hT
          rw [he]
          exact hv
        cases hmA : (pMt lo la 0).getD i none with
        | none =>
          refine gct rfl (show oI none = xk 1 1 from xk_m1.symm) ?_
          exact stay (by rw [pJs, hmA])
        | some p =>
          have ip := pMt_in hmA
          refine gcf rfl (fun z => oI_ne (q := p) (by omega) ((show nI p = xk 1 1 from z).trans xk_m1)) ?_
          repeat (first | refine gp rfl rfl rfl ?_ | refine ggf rfl (by assumption) (by rfl) ?_ | refine gal rfl (by assumption) (by rfl) (by omega) (by omega) ?_ | refine gil rfl (by assumption) (by rfl) (by omega) (by omega) ?_ | refine gbl rfl (by assumption) (by rfl) (by omega) (by omega) ?_ | refine gln rfl (xlen_i (by assumption)) ?_ | refine gln rfl (xlen_q (by assumption)) ?_)
          rw [v3 i (by omega)]
          cases hmB : (pMt lo lb 0).getD i none with
          | none =>
            refine gct rfl (show oI none = xk 1 1 from xk_m1.symm) ?_
            exact stay (by rw [pJs, hmA, hmB])
          | some q =>
            have iq := pMt_in hmB
            have jp := j4 i p (Nat.le_refl _) hmA
            have jq := j5 i q (Nat.le_refl _) hmB
            refine gcf rfl (fun z => oI_ne (q := q) (by omega) ((show nI q = xk 1 1 from z).trans xk_m1)) ?_
            have eS : pJs st lo la lb (i + 1) = (i + 1, p + 1, q + 1, (pJs st lo la lb i).2.2.2.1 ++ pGap st (pCut lo (pJs st lo la lb i).1 i) (pCut la (pJs st lo la lb i).2.1 p) (pCut lb (pJs st lo la lb i).2.2.1 q) ++ [lo.getD i 0], (pJs st lo la lb i).2.2.2.2 || pBad (pCut lo (pJs st lo la lb i).1 i) (pCut la (pJs st lo la lb i).2.1 p) (pCut lb (pJs st lo la lb i).2.2.1 q)) := by rw [pJs, hmA, hmB]
            have a32 : gA i = nI p := by rw [v2 i (by omega), hmA]; rfl
            have a33 : gB i = nI q := by rw [v3 i (by omega), hmB]; rfl
            generalize pJs st lo la lb i = S at *
            obtain ⟨sO, sA, sB, W, C⟩ := S
            simp only at *
            repeat (first | refine gp rfl rfl rfl ?_ | refine ggf rfl (by assumption) (by rfl) ?_ | refine gal rfl (by assumption) (by rfl) (by omega) (by omega) ?_ | refine gil rfl (by assumption) (by rfl) (by omega) (by omega) ?_ | refine gbl rfl (by assumption) (by rfl) (by omega) (by omega) ?_ | refine gln rfl (xlen_i (by assumption)) ?_ | refine gln rfl (xlen_q (by assumption)) ?_)
            refine gcv (As := [.inl (nI i)]) (rest := []) rfl (by decide) (m_reachTo (d + 1) zO j1) (show σ7.1 34 = _ from zO) rfl rfl (by decide) ?_
            have hv8 := hv.o (fo' := sO) (wo' := i - sO) ho ha hb
            have hr8 := hr.trans (hFr.up (k := 34) (e := (.inr (.inr (5, [.inr (some o), .inl (nI sO), .inl (nI (i - sO))])))) (by decide) (by decide))
            obtain ⟨⟨e21, -⟩, ⟨zO, zA, zB, -⟩, e32, e33⟩ := id hv8
            repeat (first | refine gp rfl rfl rfl ?_ | refine ggf rfl (by assumption) (by rfl) ?_ | refine gal rfl (by assumption) (by rfl) (by omega) (by omega) ?_ | refine gil rfl (by assumption) (by rfl) (by omega) (by omega) ?_ | refine gbl rfl (by assumption) (by rfl) (by omega) (by omega) ?_ | refine gln rfl (xlen_i (by assumption)) ?_ | refine gln rfl (xlen_q (by assumption)) ?_)
            rw [a32]
            refine gcv (As := [.inl (nI p)]) (rest := []) rfl (by decide) (m_reachTo (d + 1) zA jp) (show _ = some (Sum.inr (Sum.inr (5, _))) from zA) rfl rfl (by decide) ?_
            have hv9 := hv8.a (fo' := sA) (wo' := p - sA) ho ha hb
            have hr9 := hr8.trans (hFr.up (k := 35) (e := (.inr (.inr (5, [.inr (some a), .inl (nI sA), .inl (nI (p - sA))])))) (by decide) (by decide))
            obtain ⟨⟨e21, -⟩, ⟨zO, zA, zB, -⟩, e32, e33⟩ := id hv9
            repeat (first | refine gp rfl rfl rfl ?_ | refine ggf rfl (by assumption) (by rfl) ?_ | refine gal rfl (by assumption) (by rfl) (by omega) (by omega) ?_ | refine gil rfl (by assumption) (by rfl) (by omega) (by omega) ?_ | refine gbl rfl (by assumption) (by rfl) (by omega) (by omega) ?_ | refine gln rfl (xlen_i (by assumption)) ?_ | refine gln rfl (xlen_q (by assumption)) ?_)
            rw [a33]
            refine gcv (As := [.inl (nI q)]) (rest := []) rfl (by decide) (m_reachTo (d + 1) zB jq) (show _ = some (Sum.inr (Sum.inr (5, _))) from zB) rfl rfl (by decide) ?_
            have hv10 := hv9.b (fo' := sB) (wo' := q - sB) ho ha hb
            have hr10 := hr9.trans (hFr.up (k := 36) (e := (.inr (.inr (5, [.inr (some b), .inl (nI sB), .inl (nI (q - sB))])))) (by decide) (by decide))
            have hT10 : ∃ F, hTb (xup (xup (xup σ7 34 (.inr (.inr (5, [.inr (some o), .inl (nI sO), .inl (nI (i - sO))])))) 35 (.inr (.inr (5, [.inr (some a), .inl (nI sA), .inl (nI (p - sA))])))) 36 (.inr (.inr (5, [.inr (some b), .inl (nI sB), .inl (nI (q - sB))])))) F := by
              obtain ⟨F, t1, t2⟩ := hT
              exact ⟨F, by rw [xup_ne (by decide), xup_ne (by decide), xup_ne (by decide)]; exact t1, fun i hi => by rw [xup_ne (by omega), xup_ne (by omega), xup_ne (by omega)]; exact t2 i hi⟩
            generalize (xup (xup (xup σ7 34 (.inr (.inr (5, [.inr (some o), .inl (nI sO), .inl (nI (i - sO))])))) 35 (.inr (.inr (5, [.inr (some a), .inl (nI sA), .inl (nI (p - sA))])))) 36 (.inr (.inr (5, [.inr (some b), .inl (nI sB), .inl (nI (q - sB))])))) = σ8 at hv10 hr10 hT10 ⊢
            obtain ⟨⟨e21, -⟩, -⟩ := id hv10
            repeat (first | refine gp rfl rfl rfl ?_ | refine ggf rfl (by assumption) (by rfl) ?_ | refine gal rfl (by assumption) (by rfl) (by omega) (by omega) ?_ | refine gil rfl (by assumption) (by rfl) (by omega) (by omega) ?_ | refine gbl rfl (by assumption) (by rfl) (by omega) (by omega) ?_ | refine gln rfl (xlen_i (by assumption)) ?_ | refine gln rfl (xlen_q (by assumption)) ?_)
            obtain ⟨σ9, y1, y2, y3⟩ := m_writeGap d (st := st) hv10.1 hv10.2.1 ho ha hb (by omega) sa sb (by omega) (by omega) (by omega) hst
            refine gcv (As := [.inl (nI st)]) (rest := []) rfl (by decide) y1 e21 rfl rfl (by decide) ?_
            have hv11 := hv10.w y2 y3 ho ha hb
            have hr11 := hr10.trans y3.fr
            obtain ⟨⟨e21, -⟩, ⟨-, -, -, ⟨fo', io', io2'⟩, -, -⟩, e32, e33⟩ := id hv11
            repeat (first | refine gp rfl rfl rfl ?_ | refine ggf rfl (by assumption) (by rfl) ?_ | refine gal rfl (by assumption) (by rfl) (by omega) (by omega) ?_ | refine gil rfl (by assumption) (by rfl) (by omega) (by omega) ?_ | refine gbl rfl (by assumption) (by rfl) (by omega) (by omega) ?_ | refine gln rfl (xlen_i (by assumption)) ?_ | refine gln rfl (xlen_q (by assumption)) ?_)
            rw [io2' i (by omega)]
            obtain ⟨σ10, u1, u2, u3⟩ := m_write (d + 1) (x := lo.getD i 0) y2
            refine gcv (As := [.inl (lo.getD i 0)]) (rest := []) rfl (by decide) u1 e21 rfl rfl (by decide) ?_
            have hv12 := hv11.w u2 u3 ho ha hb
            have hr12 := hr11.trans u3.fr
            have hT12 : ∃ F, hTb σ10 F := by
              obtain ⟨F, t1, t2⟩ := hT10
              exact ⟨F, by rw [u3.2 22 (by decide) (by decide), y3.2 22 (by decide) (by decide)]; exact t1, fun i hi => by rw [u3.2 _ (by omega) (by omega), y3.2 _ (by omega) (by omega)]; exact t2 i hi⟩
            obtain ⟨⟨e21, -⟩, ⟨zO, zA, zB, -⟩, e32, e33⟩ := id hv12
            repeat (first | refine gp rfl rfl rfl ?_ | refine ggf rfl (by assumption) (by rfl) ?_ | refine gal rfl (by assumption) (by rfl) (by omega) (by omega) ?_ | refine gil rfl (by assumption) (by rfl) (by omega) (by omega) ?_ | refine gbl rfl (by assumption) (by rfl) (by omega) (by omega) ?_ | refine gln rfl (xlen_i (by assumption)) ?_ | refine gln rfl (xlen_q (by assumption)) ?_)
            refine gcv (As := [.inl (nI i)]) (rest := []) rfl (by decide) (m_startBehind (d + 1) zO) (show _ = some (Sum.inr (Sum.inr (5, _))) from zO) rfl rfl (by decide) ?_
            have hv13 := hv12.o (fo' := i + 1) (wo' := 0) ho ha hb
            have hr13 := hr12.trans (hFr.up (k := 34) (e := (.inr (.inr (5, [.inr (some o), .inl (nI (i + 1)), .inl (nI 0)])))) (by decide) (by decide))
            obtain ⟨⟨e21, -⟩, ⟨zO, zA, zB, -⟩, e32, e33⟩ := id hv13
            repeat (first | refine gp rfl rfl rfl ?_ | refine ggf rfl (by assumption) (by rfl) ?_ | refine gal rfl (by assumption) (by rfl) (by omega) (by omega) ?_ | refine gil rfl (by assumption) (by rfl) (by omega) (by omega) ?_ | refine gbl rfl (by assumption) (by rfl) (by omega) (by omega) ?_ | refine gln rfl (xlen_i (by assumption)) ?_ | refine gln rfl (xlen_q (by assumption)) ?_)
            rw [a32]
            refine gcv (As := [.inl (nI p)]) (rest := []) rfl (by decide) (m_startBehind (d + 1) zA) (show _ = some (Sum.inr (Sum.inr (5, _))) from zA) rfl rfl (by decide) ?_
            have hv14 := hv13.a (fo' := p + 1) (wo' := 0) ho ha hb
            have hr14 := hr13.trans (hFr.up (k := 35) (e := (.inr (.inr (5, [.inr (some a), .inl (nI (p + 1)), .inl (nI 0)])))) (by decide) (by decide))
            obtain ⟨⟨e21, -⟩, ⟨zO, zA, zB, -⟩, e32, e33⟩ := id hv14
            repeat (first | refine gp rfl rfl rfl ?_ | refine ggf rfl (by assumption) (by rfl) ?_ | refine gal rfl (by assumption) (by rfl) (by omega) (by omega) ?_ | refine gil rfl (by assumption) (by rfl) (by omega) (by omega) ?_ | refine gbl rfl (by assumption) (by rfl) (by omega) (by omega) ?_ | refine gln rfl (xlen_i (by assumption)) ?_ | refine gln rfl (xlen_q (by assumption)) ?_)
            rw [a33]
            refine gcv (As := [.inl (nI q)]) (rest := []) rfl (by decide) (m_startBehind (d + 1) zB) (show _ = some (Sum.inr (Sum.inr (5, _))) from zB) rfl rfl (by decide) ?_
            have hv15 := hv14.b (fo' := q + 1) (wo' := 0) ho ha hb
            have hr15 := hr14.trans (hFr.up (k := 36) (e := (.inr (.inr (5, [.inr (some b), .inl (nI (q + 1)), .inl (nI 0)])))) (by decide) (by decide))
            have hT15 : ∃ F, hTb (xup (xup (xup σ10 34 (.inr (.inr (5, [.inr (some o), .inl (nI (i + 1)), .inl (nI 0)])))) 35 (.inr (.inr (5, [.inr (some a), .inl (nI (p + 1)), .inl (nI 0)])))) 36 (.inr (.inr (5, [.inr (some b), .inl (nI (q + 1)), .inl (nI 0)])))) F := by
              obtain ⟨F, t1, t2⟩ := hT12
              exact ⟨F, by rw [xup_ne (by decide), xup_ne (by decide), xup_ne (by decide)]; exact t1, fun i hi => by rw [xup_ne (by omega), xup_ne (by omega), xup_ne (by omega)]; exact t2 i hi⟩
            obtain ⟨-, ⟨-, -, -, ⟨fo2, io2, -⟩, -⟩, -⟩ := id hv15
            repeat (first | refine gp rfl rfl rfl ?_ | refine ggf rfl (by assumption) (by rfl) ?_ | refine gal rfl (by assumption) (by rfl) (by omega) (by omega) ?_ | refine gil rfl (by assumption) (by rfl) (by omega) (by omega) ?_ | refine gbl rfl (by assumption) (by rfl) (by omega) (by omega) ?_ | refine gln rfl (xlen_i (by assumption)) ?_ | refine gln rfl (xlen_q (by assumption)) ?_)
            rw [nI_s]
            refine ih (i + 1) _ 0 0 0 (by omega) ?_ hr15 hT15
            rw [eS]
            rw [pW_pW, pW_pW] at hv15
            rw [List.append_assoc]
            exact hv15
    obtain ⟨-, ⟨-, -, -, ⟨fo2, io2, -⟩, -⟩, -⟩ := id V6
    repeat (first | refine gp rfl rfl rfl ?_ | refine ggf rfl (by assumption) (by rfl) ?_ | refine gal rfl (by assumption) (by rfl) (by omega) (by omega) ?_ | refine gil rfl (by assumption) (by rfl) (by omega) (by omega) ?_ | refine gbl rfl (by assumption) (by rfl) (by omega) (by omega) ?_ | refine gln rfl (xlen_i (by assumption)) ?_ | refine gln rfl (xlen_q (by assumption)) ?_)
    exact loop lo.length 0 σ6 0 0 0 (by omega) V6 R6 T6
  obtain ⟨r, σ', hex, rfl, g1, g2, g3⟩ := ex_of (d := d + 2) (y := 44) (as := [.inr (some 21), .inr (some o), .inr (some a), .inr (some b), .inl (nI st)]) (σ := σ) (K := K) (by decide) rfl main
  exact ⟨σ', hex, g1, g2, g3⟩
