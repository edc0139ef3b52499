/-! PURE: the longest common subsequence, the first of the longest matchings, and the search over masks -/
/-- what is behind the first c -/
def pAft (c : Int32) : List Int32 → Option (List Int32)
  | [] => none
  | y :: x => if y = c then some x else pAft c x
/-- how many of o, in order, can be had in x -/
def pL : List Int32 → List Int32 → Nat
  | [], _ => 0
  | c :: o, x => max (pL o x) (match pAft c x with
    | some r => pL o r + 1
    | none => 0)
theorem pL_aft_le {o : List Int32} (hM : ∀ x y, pL o x ≤ pL o (y :: x)) {c : Int32} : ∀ {x r : List Int32}, pAft c x = some r → pL o r ≤ pL o x
  | [], r, h => by cases h
  | y :: x, r, h => by
    unfold pAft at h
    split at h
    · cases h
      exact hM _ _
    · exact Nat.le_trans (pL_aft_le hM h) (hM _ _)
theorem pL_mono : ∀ (o x : List Int32) (y : Int32), pL o x ≤ pL o (y :: x)
  | [], x, y => Nat.le_refl _
  | c :: o, x, y => by
    have ih := pL_mono o
    have h1 := ih x y
    unfold pL
    by_cases hy : y = c
    · have e : pAft c (y :: x) = some x := by unfold pAft; rw [if_pos hy]
      rw [e]
      cases hr : pAft c x with
      | none => simp only; omega
      | some r =>
        have := pL_aft_le (o := o) (fun x y => ih x y) hr
        simp only; omega
    · have e : pAft c (y :: x) = pAft c x := by rw [pAft, if_neg hy]
      rw [e]
      cases hr : pAft c x with
      | none => simp only; omega
      | some r => simp only; omega
theorem pL_lip : ∀ (o x : List Int32) (y : Int32), pL o (y :: x) ≤ pL o x + 1
  | [], x, y => by simp [pL]
  | c :: o, x, y => by
    have h1 := pL_lip o x y
    unfold pL
    by_cases hy : y = c
    · have e : pAft c (y :: x) = some x := by unfold pAft; rw [if_pos hy]
      rw [e]
      cases hr : pAft c x with
      | none => simp only; omega
      | some r => simp only; omega
    · have e : pAft c (y :: x) = pAft c x := by rw [pAft, if_neg hy]
      rw [e]
      cases hr : pAft c x with
      | none => simp only; omega
      | some r => simp only; omega
theorem pL_nil2 : ∀ o : List Int32, pL o [] = 0
  | [] => rfl
  | c :: o => by simp [pL, pAft, pL_nil2 o]
/-- the table's rule -/
theorem pL_rule (c y : Int32) (o x : List Int32) : pL (c :: o) (y :: x) = if c = y then pL o x + 1 else max (pL o (y :: x)) (pL (c :: o) x) := by
  by_cases h : c = y
  · subst h
    rw [if_pos rfl]
    have e : pAft c (c :: x) = some x := by unfold pAft; rw [if_pos rfl]
    rw [pL, e]
    have := pL_lip o x c
    simp only
    omega
  · rw [if_neg h]
    have e : pAft c (y :: x) = pAft c x := by rw [pAft, if_neg (fun z => h z.symm)]
    rw [pL, e, pL]
    have := pL_mono o x y
    cases hr : pAft c x with
    | none => simp only; omega
    | some r => simp only; omega
/-- which of o are taken: the first that still leaves the most -/
def pG : List Int32 → List Int32 → List Bool
  | [], _ => []
  | c :: o, x => match pAft c x with
    | some r => if pL o r + 1 = pL (c :: o) x then true :: pG o r else false :: pG o x
    | none => false :: pG o x
def pFit : List Int32 → List Bool → List Int32 → Bool
  | [], _, _ => true
  | _ :: _, [], _ => true
  | c :: o, true :: bs, x => match pAft c x with
    | some r => pFit o bs r
    | none => false
  | _ :: o, false :: bs, x => pFit o bs x
def pOnes (bs : List Bool) : Nat := bs.count true
theorem pL_skip {c : Int32} {o x : List Int32} (h : ∀ r, pAft c x = some r → ¬ pL o r + 1 = pL (c :: o) x) : pL (c :: o) x = pL o x := by
  have e : pL (c :: o) x = max (pL o x) (match pAft c x with
    | some r => pL o r + 1
    | none => 0) := rfl
  cases hr : pAft c x with
  | none => rw [e, hr]; simp
  | some r =>
    have h2 := h r hr
    rw [hr] at e
    simp only at e
    omega
theorem pG_len : ∀ o x, (pG o x).length = o.length
  | [], x => rfl
  | c :: o, x => by
    unfold pG
    split
    · split <;> simp [pG_len o]
    · simp [pG_len o]
theorem pG_fit : ∀ o x, pFit o (pG o x) x = true
  | [], x => rfl
  | c :: o, x => by
    unfold pG
    split
    · rename_i r hr
      split
      · simp [pFit, hr, pG_fit o r]
      · simp [pFit, pG_fit o x]
    · simp [pFit, pG_fit o x]
theorem pG_ones : ∀ o x, pOnes (pG o x) = pL o x
  | [], x => rfl
  | c :: o, x => by
    have h0 : ∀ bs, pOnes (false :: bs) = pOnes bs := fun bs => by simp [pOnes]
    have h1 : ∀ bs, pOnes (true :: bs) = pOnes bs + 1 := fun bs => by simp [pOnes]
    unfold pG
    cases hr : pAft c x with
    | none =>
      simp only
      rw [h0, pG_ones o x]
      exact (pL_skip (fun r h => by rw [hr] at h; cases h)).symm
    | some r =>
      simp only
      split
      · rename_i h
        rw [h1, pG_ones o r, h]
      · rename_i h
        rw [h0, pG_ones o x]
        exact (pL_skip (fun r' h' => by rw [hr] at h'; cases h'; exact h)).symm
theorem pFit_ones : ∀ (o : List Int32) (bs : List Bool) (x : List Int32), bs.length = o.length → pFit o bs x = true → pOnes bs ≤ pL o x
  | [], [], x, _, _ => Nat.le_refl _
  | c :: o, b :: bs, x, hl, hf => by
    have hl' : bs.length = o.length := by simpa using hl
    have e : pL (c :: o) x = max (pL o x) (match pAft c x with
      | some r => pL o r + 1
      | none => 0) := rfl
    cases b with
    | false =>
      have := pFit_ones o bs x hl' hf
      rw [e, show pOnes (false :: bs) = pOnes bs by simp [pOnes]]
      omega
    | true =>
      rw [e, show pOnes (true :: bs) = pOnes bs + 1 by simp [pOnes]]
      cases hr : pAft c x with
      | none => simp [pFit, hr] at hf
      | some r =>
        have := pFit_ones o bs r hl' (by simpa [pFit, hr] using hf)
        simp only
        omega
/-- the number that a row of bits spells, the first bit the highest -/
def pVal : List Bool → Nat
  | [] => 0
  | b :: bs => (if b then 2 ^ bs.length else 0) + pVal bs
theorem pVal_lt : ∀ bs, pVal bs < 2 ^ bs.length
  | [] => by simp [pVal]
  | b :: bs => by
    have := pVal_lt bs
    cases b <;> simp [pVal, Nat.pow_succ] <;> omega
/-- none that takes as many spells a higher number -/
theorem pG_max : ∀ (o : List Int32) (bs : List Bool) (x : List Int32), bs.length = o.length → pFit o bs x = true → pOnes bs = pL o x → pVal bs ≤ pVal (pG o x)
  | [], [], x, _, _, _ => Nat.le_refl _
  | c :: o, b :: bs, x, hl, hf, ho => by
    have hl' : bs.length = o.length := by simpa using hl
    unfold pG
    cases b with
    | false =>
      have hob : pOnes bs = pL (c :: o) x := by rw [← ho]; simp [pOnes]
      have hle := pFit_ones o bs x hl' hf
      have hlt := pVal_lt bs
      cases hr : pAft c x with
      | none =>
        simp only
        have e : pL (c :: o) x = pL o x := pL_skip (fun r h => by rw [hr] at h; cases h)
        have := pG_max o bs x hl' hf (by omega)
        simp [pVal]
        exact this
      | some r =>
        simp only
        split
        · simp only [pVal, pG_len, if_true, Bool.false_eq_true, if_false]
          rw [hl'] at hlt
          omega
        · rename_i h
          have e : pL (c :: o) x = pL o x := pL_skip (fun r' h' => by rw [hr] at h'; cases h'; exact h)
          have := pG_max o bs x hl' hf (by omega)
          simp [pVal]
          exact this
    | true =>
      have hob : pOnes bs + 1 = pL (c :: o) x := by rw [← ho]; simp [pOnes]
      cases hr : pAft c x with
      | none => simp [pFit, hr] at hf
      | some r =>
        have hf' : pFit o bs r = true := by simpa [pFit, hr] using hf
        have hle := pFit_ones o bs r hl' hf'
        have e : pL (c :: o) x = max (pL o x) (pL o r + 1) := by
          show max (pL o x) _ = _
          rw [hr]
        have h1 : pL o r + 1 = pL (c :: o) x := by omega
        simp only
        rw [if_pos h1]
        have := pG_max o bs r hl' hf' (by omega)
        simp only [pVal, pG_len, hl', if_true]
        omega
