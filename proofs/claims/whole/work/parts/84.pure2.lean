/-! PURE: how long a joined text can be; what holds of the versions while renames are carried -/
theorem pClash_len {st b e : Nat} {O X Y : List Int32} (hle : b + e ≤ min X.length Y.length) : (pClash st O X Y b e).length ≤ O.length + X.length + Y.length + 4 := by
  unfold pClash
  simp only [List.length_append, List.length_cons, List.length_nil]
  rw [pCut_len (X := X) (s := 0) (t := b) (Nat.zero_le _) (by omega), pCut_len (X := X) (s := b) (t := X.length - e) (by omega) (by omega), pCut_len (X := Y) (s := b) (t := Y.length - e) (by omega) (by omega), pCut_len (X := X) (s := X.length - e) (t := X.length) (by omega) (Nat.le_refl _)]
  split
  · simp only [List.length_nil]; omega
  · simp only [List.length_append, List.length_cons, List.length_nil]; omega
theorem nil_of_len {l : List Int32} (h : l.length = 0) : l = [] := List.eq_nil_of_length_eq_zero h
theorem pGap_len (st : Nat) (O X Y : List Int32) : (pGap st O X Y).length ≤ O.length + X.length + Y.length ∨ ((pGap st O X Y).length ≤ O.length + X.length + Y.length + 4 ∧ 1 ≤ O.length + Y.length ∧ 1 ≤ O.length + X.length ∧ 1 ≤ X.length + Y.length) := by
  unfold pGap
  split
  · left; omega
  · rename_i n1
    split
    · left; omega
    · rename_i n2
      right
      refine ⟨pClash_len (pBE_le st X Y), ?_, ?_, ?_⟩
      · rcases Nat.eq_zero_or_pos (O.length + Y.length) with e | e
        · exact absurd (Or.inl ((nil_of_len (l := Y) (by omega)).trans (nil_of_len (l := O) (by omega)).symm)) n2
        · exact e
      · rcases Nat.eq_zero_or_pos (O.length + X.length) with e | e
        · exact absurd ((nil_of_len (l := X) (by omega)).trans (nil_of_len (l := O) (by omega)).symm) n1
        · exact e
      · rcases Nat.eq_zero_or_pos (X.length + Y.length) with e | e
        · exact absurd (Or.inr ((nil_of_len (l := X) (by omega)).trans (nil_of_len (l := Y) (by omega)).symm)) n2
        · exact e
theorem pJs_len (st : Nat) (lo la lb : List Int32) : ∀ i, i ≤ lo.length → ∃ k g, (pJs st lo la lb i).2.2.2.1.length + 2 * k ≤ (pJs st lo la lb i).1 + (pJs st lo la lb i).2.1 + (pJs st lo la lb i).2.2.1 + 4 * g ∧ g ≤ k ∧ k ≤ (pJs st lo la lb i).1 ∧ 2 * g + 3 * k ≤ (pJs st lo la lb i).1 + (pJs st lo la lb i).2.1 + (pJs st lo la lb i).2.2.1 ∧ g + 2 * k ≤ (pJs st lo la lb i).1 + (pJs st lo la lb i).2.2.1 ∧ g + 2 * k ≤ (pJs st lo la lb i).1 + (pJs st lo la lb i).2.1
  | 0, _ => ⟨0, 0, Nat.le_refl _, Nat.le_refl _, Nat.le_refl _, Nat.zero_le _, Nat.zero_le _, Nat.zero_le _⟩
  | i + 1, hi => by
    obtain ⟨k, g, h1, h2, h3, h4, h5, h6⟩ := pJs_len st lo la lb i (by omega)
    obtain ⟨j1, j2, j3, j4, j5⟩ := pJs_ok st lo la lb i
    rw [pJs_s]
    split
    · rename_i p q hp hq
      have ip := pMt_in hp
      have iq := pMt_in hq
      have a1 := j4 i p (Nat.le_refl _) hp
      have b1 := j5 i q (Nat.le_refl _) hq
      have lg := pGap_len st (pCut lo (pJs st lo la lb i).1 i) (pCut la (pJs st lo la lb i).2.1 p) (pCut lb (pJs st lo la lb i).2.2.1 q)
      rw [pCut_len j1 (by omega), pCut_len a1 (by omega), pCut_len b1 (by omega)] at lg
      rcases lg with lg | ⟨lg, l1, l2, l3⟩
      · refine ⟨k + 1, g, ?_, ?_, ?_, ?_, ?_, ?_⟩ <;> (try simp only [List.length_append, List.length_cons, List.length_nil]) <;> omega
      · refine ⟨k + 1, g + 1, ?_, ?_, ?_, ?_, ?_, ?_⟩ <;> (try simp only [List.length_append, List.length_cons, List.length_nil]) <;> omega
    · exact ⟨k, g, h1, h2, h3, h4, h5, h6⟩
theorem pJoin_len (st : Nat) (lo la lb : List Int32) : ∃ k g, (pJoin st lo la lb).length + 2 * k ≤ lo.length + la.length + lb.length + 4 * g ∧ g ≤ k + 1 ∧ k ≤ lo.length ∧ 2 * g + 3 * k ≤ lo.length + la.length + lb.length ∧ g + 2 * k ≤ lo.length + lb.length ∧ g + 2 * k ≤ lo.length + la.length := by
  obtain ⟨k, g, h1, h2, h3, h4, h5, h6⟩ := pJs_len st lo la lb lo.length (Nat.le_refl _)
  obtain ⟨j1, j2, j3, j4, j5⟩ := pJs_ok st lo la lb lo.length
  unfold pJoin
  have lg := pGap_len st (pCut lo (pJs st lo la lb lo.length).1 lo.length) (pCut la (pJs st lo la lb lo.length).2.1 la.length) (pCut lb (pJs st lo la lb lo.length).2.2.1 lb.length)
  rw [pCut_len j1 (Nat.le_refl _), pCut_len j2 (Nat.le_refl _), pCut_len j3 (Nat.le_refl _)] at lg
  rcases lg with lg | ⟨lg, l1, l2, l3⟩
  · refine ⟨k, g, ?_, ?_, ?_, ?_, ?_, ?_⟩ <;> (try simp only [List.length_append]) <;> omega
  · refine ⟨k, g + 1, ?_, ?_, ?_, ?_, ?_, ?_⟩ <;> (try simp only [List.length_append]) <;> omega
theorem J36 {st : Nat} {lo la lb : List Int32} (h1 : lo.length ≤ 8) (h2 : la.length ≤ 8) (h3 : lb.length ≤ 8) : (pJoin st lo la lb).length ≤ 36 := by
  obtain ⟨k, g, g1, g2, g3, g4, g5, g6⟩ := pJoin_len st lo la lb
  omega
theorem J76 {st : Nat} {lo la lb : List Int32} (h1 : lo.length ≤ 8) (h2 : la.length ≤ 36) (h3 : lb.length ≤ 36) (h : lo.length = 0 ∨ la.length ≤ 8 ∨ lb.length ≤ 8) : (pJoin st lo la lb).length ≤ 76 := by
  obtain ⟨k, g, g1, g2, g3, g4, g5, g6⟩ := pJoin_len st lo la lb
  omega
def ln (F : Option pF) : Nat := (pLn F).length
theorem pMerge_len {st : Nat} {o a b : Option pF} (ho : ln o ≤ 8) (ha : ln a ≤ 8) (hb : ln b ≤ 8) : ln (pMerge st o a b).1 ≤ 36 := by
  unfold pMerge
  split
  · show ln a ≤ 36; omega
  · split
    · show ln b ≤ 36; omega
    · split
      · show ln a ≤ 36; omega
      · cases a with
        | none => show ln b ≤ 36; omega
        | some A =>
          cases b with
          | none => show ln (some A) ≤ 36; omega
          | some B =>
            show ln (if A.1 || B.1 || pLk o then (some A, nI 8) else (some (false, pW [] (pJoin st (pLn o) A.2 B.2)), if pJbad st (pLn o) A.2 B.2 then (if o.isNone then nI 2 else nI 1) else 0)).1 ≤ 36
            by_cases c : (A.1 || B.1 || pLk o) = true
            · rw [if_pos c]
              show ln (some A) ≤ 36
              omega
            · rw [if_neg c]
              have := J36 (st := st) (lo := pLn o) (la := A.2) (lb := B.2) ho ha hb
              show (pW [] (pJoin st (pLn o) A.2 B.2)).length ≤ 36
              unfold pW
              rw [List.nil_append, List.length_take]
              omega
/-- while renames are carried, the first n of them done -/
def VI (B : pT) (X : Nat → Nat → Option Nat) (V : Nat → pT) (n : Nat) : Prop := ∀ x, x < 64 → ln (V 0 x) ≤ 8 ∧ (∀ s, (s = 1 ∨ s = 2) → ln (V s x) ≤ 36 ∧ (8 < ln (V s x) → ∃ p, p < n ∧ X s p = some x)) ∧ ((V 0 x).isSome = true → (B x).isSome = true ∨ ∃ s, (s = 1 ∨ s = 2) ∧ ln (V s x) ≤ 8 ∧ ∃ p, p < n ∧ X s p = some x)
theorem VI.up {B : pT} {X : Nat → Nat → Option Nat} {V : Nat → pT} {n : Nat} (h : VI B X V n) : VI B X V (n + 1) := by
  intro x hx
  obtain ⟨h1, h2, h3⟩ := h x hx
  refine ⟨h1, fun s hs => ⟨(h2 s hs).1, fun hl => ?_⟩, fun hv => ?_⟩
  · obtain ⟨p, a, b⟩ := (h2 s hs).2 hl
    exact ⟨p, by omega, b⟩
  · rcases h3 hv with e | ⟨s, a, b, p, c, d⟩
    · exact Or.inl e
    · exact Or.inr ⟨s, a, b, p, by omega, d⟩
/-- what renames lead to -/
def XI (B : pT) (X : Nat → Nat → Option Nat) : Prop := ∀ s, (s = 1 ∨ s = 2) → (∀ p x, X s p = some x → p < 64 ∧ (B p).isSome = true ∧ (B x).isSome = false ∧ x < 64 ∧ p ≠ x) ∧ ∀ p p' x, X s p = some x → X s p' = some x → p = p'
section VIS
variable {B : pT} {X : Nat → Nat → Option Nat} {V : Nat → pT} {n : Nat}
theorem VI.own (h : VI B X V n) (hX : XI B X) {s x : Nat} (hs : s = 1 ∨ s = 2) (e : X s n = some x) : ln (V s x) ≤ 8 := by
  have hx := (((hX s hs).1 n x e).2.2.2.1)
  rcases Nat.lt_or_ge 8 (ln (V s x)) with hl | hl
  · obtain ⟨p, a, b⟩ := ((h x hx).2.1 s hs).2 hl
    have := (hX s hs).2 p n x b e
    omega
  · exact hl
theorem VI.base (h : VI B X V n) (hX : XI B X) {s x : Nat} (hs : s = 1 ∨ s = 2) (hx : x < 64) (hb : (B x).isSome = true) : ln (V s x) ≤ 8 := by
  rcases Nat.lt_or_ge 8 (ln (V s x)) with hl | hl
  · obtain ⟨p, a, b⟩ := ((h x hx).2.1 s hs).2 hl
    have := ((hX s hs).1 p x b).2.2.1
    rw [hb] at this
    cases this
  · exact hl
theorem ln_none : ln none = 0 := rfl
/-- the base goes along -/
theorem VI.mv (h : VI B X V n) (hX : XI B X) {s i : Nat} (hs : s = 1 ∨ s = 2) (e : X s n = some i) : VI B X (vU V 0 (pMv (V 0) n i)) (n + 1) := by
  obtain ⟨p1, p2, p3, p4, p5⟩ := (hX s hs).1 n i e
  intro x hx
  obtain ⟨h1, h2, h3⟩ := h.up x hx
  have e0 : vU V 0 (pMv (V 0) n i) 0 x = if x = i then V 0 n else if x = n then none else V 0 x := by rw [vU_eq]; rfl
  have es : ∀ s, (s = 1 ∨ s = 2) → vU V 0 (pMv (V 0) n i) s = V s := fun s hs => vU_ne (by omega)
  rw [e0]
  refine ⟨?_, fun s hs => by rw [es s hs]; exact h2 s hs, fun hv => ?_⟩
  · split
    · exact (h n p1).1
    · split
      · exact Nat.zero_le _
      · exact h1
  · by_cases xi : x = i
    · subst xi
      refine Or.inr ⟨s, hs, ?_, n, by omega, e⟩
      rw [es s hs]
      exact h.own hX hs e
    · rw [if_neg xi] at hv
      by_cases xn : x = n
      · rw [if_pos xn] at hv; cases hv
      · rw [if_neg xn] at hv
        rcases h3 hv with b | ⟨s', a, b, c⟩
        · exact Or.inl b
        · exact Or.inr ⟨s', a, by rw [es s' a]; exact b, c⟩
theorem VI.ly0 (h : VI B X V n) : VI B X (vU V 0 (pLy (V 0) n none)) n := by
  intro x hx
  obtain ⟨h1, h2, h3⟩ := h x hx
  have e0 : vU V 0 (pLy (V 0) n none) 0 x = if x = n then none else V 0 x := by rw [vU_eq]; rfl
  have es : ∀ s, (s = 1 ∨ s = 2) → vU V 0 (pLy (V 0) n none) s = V s := fun s hs => vU_ne (by omega)
  rw [e0]
  refine ⟨?_, fun s hs => by rw [es s hs]; exact h2 s hs, fun hv => ?_⟩
  · split
    · exact Nat.zero_le _
    · exact h1
  · by_cases xn : x = n
    · rw [if_pos xn] at hv; cases hv
    · rw [if_neg xn] at hv
      rcases h3 hv with b | ⟨s', a, b, c⟩
      · exact Or.inl b
      · exact Or.inr ⟨s', a, by rw [es s' a]; exact b, c⟩
/-- a side's file changes for a short one -/
theorem VI.short {m : Nat} (h : VI B X V m) {q : Nat} {T : pT} (hq : q = 1 ∨ q = 2) (hT : ∀ x, x < 64 → ln (T x) ≤ 8 ∨ T x = V q x) : VI B X (vU V q T) m := by
  intro x hx
  obtain ⟨h1, h2, h3⟩ := h x hx
  rw [vU_ne (show 0 ≠ q by omega)]
  refine ⟨h1, fun s hs => ?_, fun hv => ?_⟩
  · by_cases e : s = q
    · subst e
      rw [vU_eq]
      rcases hT x hx with g | g
      · exact ⟨by omega, fun z => absurd z (by omega)⟩
      · rw [g]; exact h2 s hs
    · rw [vU_ne e]; exact h2 s hs
  · rcases h3 hv with b | ⟨s', a, b, c⟩
    · exact Or.inl b
    · refine Or.inr ⟨s', a, ?_, c⟩
      by_cases e : s' = q
      · subst e
        rw [vU_eq]
        rcases hT x hx with g | g
        · exact g
        · rw [g]; exact b
      · rw [vU_ne e]; exact b
theorem VI.one {st s q i : Nat} (h : VI B X V n) (hX : XI B X) (hs : (s = 1 ∧ q = 2) ∨ (s = 2 ∧ q = 1)) (e : X s n = some i) : VI B X (pOneV st s q V n i) (n + 1) := by
  have hs1 : s = 1 ∨ s = 2 := by omega
  have hq1 : q = 1 ∨ q = 2 := by omega
  obtain ⟨p1, p2, p3, p4, p5⟩ := (hX s hs1).1 n i e
  unfold pOneV
  split
  · split
    · exact (h.ly0).up
    · exact h.mv hX hs1 e
  · split
    · refine (h.mv hX hs1 e).short hq1 (fun x hx => ?_)
      rw [vU_ne (show q ≠ 0 by omega)]
      unfold pMv
      by_cases xi : x = i
      · rw [if_pos xi]; exact Or.inl (h.base hX hq1 p1 p2)
      · rw [if_neg xi]
        by_cases xn : x = n
        · rw [if_pos xn]; exact Or.inl (Nat.zero_le _)
        · rw [if_neg xn]; exact Or.inr rfl
    · have hM : ln (pOneM st s V n i).1 ≤ 36 := by
        unfold pOneM
        split
        · rename_i e1
          subst e1
          exact pMerge_len (h n p1).1 (h.own hX hs1 e) (h.base hX (Or.inr rfl) p1 p2)
        · have e2 : s = 2 := by omega
          subst e2
          exact pMerge_len (h n p1).1 (h.base hX (Or.inl rfl) p1 p2) (h.own hX hs1 e)
      have first : VI B X (vU (vU V s (pLy (V s) i (pOneM st s V n i).1)) 0 (pLy (V 0) n none)) (n + 1) := by
        intro x hx
        obtain ⟨h1, h2, h3⟩ := h.up x hx
        have e0 : vU (vU V s (pLy (V s) i (pOneM st s V n i).1)) 0 (pLy (V 0) n none) 0 x = if x = n then none else V 0 x := by rw [vU_eq]; rfl
        have es : ∀ s', (s' = 1 ∨ s' = 2) → vU (vU V s (pLy (V s) i (pOneM st s V n i).1)) 0 (pLy (V 0) n none) s' x = if s' = s ∧ x = i then (pOneM st s V n i).1 else V s' x := fun s' hs' => by
          rw [vU_ne (by omega)]
          by_cases e1 : s' = s
          · subst e1
            rw [vU_eq]
            unfold pLy
            by_cases e2 : x = i
            · rw [if_pos e2, if_pos ⟨rfl, e2⟩]
            · rw [if_neg e2, if_neg (fun z => e2 z.2)]
          · rw [vU_ne e1, if_neg (fun z => e1 z.1)]
        rw [e0]
        refine ⟨?_, fun s' hs' => ?_, fun hv => ?_⟩
        · split
          · exact Nat.zero_le _
          · exact h1
        · rw [es s' hs']
          by_cases c : s' = s ∧ x = i
          · rw [if_pos c]
            exact ⟨hM, fun _ => ⟨n, by omega, by rw [c.1, c.2]; exact e⟩⟩
          · rw [if_neg c]; exact h2 s' hs'
        · by_cases xn : x = n
          · rw [if_pos xn] at hv; cases hv
          · rw [if_neg xn] at hv
            rcases (h x hx).2.2 hv with b | ⟨s', a, b, p, c, d⟩
            · exact Or.inl b
            · refine Or.inr ⟨s', a, ?_, p, by omega, d⟩
              rw [es s' a]
              by_cases cc : s' = s ∧ x = i
              · exfalso
                rw [cc.1, cc.2] at d
                have := (hX s hs1).2 p n i d e
                omega
              · rw [if_neg cc]; exact b
      refine first.short hq1 (fun x hx => ?_)
      rw [vU_ne (show q ≠ 0 by omega), vU_ne (show q ≠ s by omega)]
      unfold pLy
      by_cases xn : x = n
      · rw [if_pos xn]; exact Or.inl (Nat.zero_le _)
      · rw [if_neg xn]; exact Or.inr rfl
theorem VI.car {st : Nat} (h : VI B X V n) (hX : XI B X) : VI B X (pCarV st (X 1 n) (X 2 n) V n) (n + 1) := by
  cases e1 : X 1 n with
  | none =>
    cases e2 : X 2 n with
    | none => exact h.up
    | some j => exact h.one hX (Or.inr ⟨rfl, rfl⟩) e2
  | some i =>
    cases e2 : X 2 n with
    | none => exact h.one hX (Or.inl ⟨rfl, rfl⟩) e1
    | some j =>
      show VI B X (if i = j then vU V 0 (pMv (V 0) n i) else V) (n + 1)
      split
      · exact h.mv hX (Or.inl rfl) e1
      · exact h.up
theorem VI.ok {st : Nat} (h : VI B X V n) (hX : XI B X) : carOK st V n (X 1 n) (X 2 n) := by
  refine ⟨fun x e1 _ _ _ => ?_, fun x _ e2 _ _ => ?_⟩
  · obtain ⟨p1, p2, p3, p4, p5⟩ := (hX 1 (Or.inl rfl)).1 n x e1
    have a := (h n p1).1
    have b := h.own hX (Or.inl rfl) e1
    have c := h.base hX (Or.inr rfl) p1 p2
    have := J36 (st := st) a b c
    exact ⟨by omega, pMerge_len a b c⟩
  · obtain ⟨p1, p2, p3, p4, p5⟩ := (hX 2 (Or.inr rfl)).1 n x e2
    have a := (h n p1).1
    have b := h.base hX (Or.inl rfl) p1 p2
    have c := h.own hX (Or.inr rfl) e2
    have := J36 (st := st) a b c
    exact ⟨by omega, pMerge_len a b c⟩
theorem VI.fin {st : Nat} (h : VI B X V n) (hX : XI B X) {x : Nat} (hx : x < 64) : (pJoin st (pLn (V 0 x)) (pLn (V 1 x)) (pLn (V 2 x))).length ≤ 76 := by
  obtain ⟨h1, h2, h3⟩ := h x hx
  refine J76 h1 (h2 1 (Or.inl rfl)).1 (h2 2 (Or.inr rfl)).1 ?_
  cases hv : (V 0 x).isSome with
  | false =>
    left
    cases hw : V 0 x with
    | none => rfl
    | some F => rw [hw] at hv; cases hv
  | true =>
    right
    rcases h3 hv with b | ⟨s, hs, c, -⟩
    · exact Or.inl (h.base hX (Or.inl rfl) hx b)
    · rcases hs with rfl | rfl
      · exact Or.inl c
      · exact Or.inr c
end VIS
theorem sVer_ln {T : pT} {S : Nat → Option Nat} (h : ∀ x, x < 64 → ln (T x) ≤ 8) : ∀ n, n ≤ 64 → ∀ x, ln (sVer T S n x) ≤ 8
  | 0, _, x => Nat.zero_le _
  | n + 1, hn, x => by
    have ih := sVer_ln (S := S) h n (by omega)
    rw [sVer_s]
    split
    · split
      · show ln (if _ then _ else _) ≤ 8
        split
        · exact h n (by omega)
        · exact ih x
      · exact ih x
    · exact ih x
theorem pTok_ln {T : pT} (h : pTok T) {x : Nat} (hx : x < 64) : ln (T x) ≤ 8 := by
  cases hw : T x with
  | none => exact Nat.zero_le _
  | some F => exact (h x hx F hw).1
/-- to where the renames of both sides lead -/
def bX (Ts : Nat → pT) (th : Nat) : Nat → Nat → Option Nat := fun s => if s = 1 then pTo (rAll (Ts 0) (Ts 1) th).1 (bS (Ts 0) (Ts 1) (Ts 2) th) else pTo (rAll (Ts 0) (Ts 2) th).1 (bS (Ts 0) (Ts 2) (Ts 1) th)
theorem XI_b (Ts : Nat → pT) (th : Nat) : XI (Ts 0) (bX Ts th) := by
  intro s hs
  rcases hs with rfl | rfl
  · exact ⟨fun p x e => bTo e, fun p p' x e e' => bTo_inj e e'⟩
  · exact ⟨fun p x e => bTo e, fun p p' x e e' => bTo_inj e e'⟩
theorem VI_b {Ts : Nat → pT} {th : Nat} (k0 : pTok (Ts 0)) (k1 : pTok (Ts 1)) (k2 : pTok (Ts 2)) : VI (Ts 0) (bX Ts th) (bV (Ts 0) (Ts 1) (Ts 2) th) 0 := by
  intro x hx
  refine ⟨pTok_ln k0 hx, fun s hs => ?_, fun hv => Or.inl hv⟩
  have : ln (bV (Ts 0) (Ts 1) (Ts 2) th s x) ≤ 8 := by
    rcases hs with rfl | rfl
    · exact sVer_ln (fun x hx => pTok_ln k1 hx) 64 (Nat.le_refl _) x
    · exact sVer_ln (fun x hx => pTok_ln k2 hx) 64 (Nat.le_refl _) x
  exact ⟨by omega, fun z => absurd z (by omega)⟩
theorem VI_mC {Ts : Nat → pT} {th st : Nat} (k0 : pTok (Ts 0)) (k1 : pTok (Ts 1)) (k2 : pTok (Ts 2)) : ∀ n, VI (Ts 0) (bX Ts th) (mC st (mD (Ts 0) (Ts 1) (Ts 2) th) (mD (Ts 0) (Ts 2) (Ts 1) th) (bV (Ts 0) (Ts 1) (Ts 2) th) (bC (Ts 0) (Ts 1) (Ts 2) th) n).1 n
  | 0 => VI_b k0 k1 k2
  | n + 1 => (VI_mC k0 k1 k2 n).car (XI_b Ts th)
