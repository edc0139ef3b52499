/-! PURE: the renames: what a pair says; eight rounds are as good as the fewer -/
theorem pOn_true {P : Nat → Bool} {m : Nat} : ∀ {i x : Nat}, (pOn P m i).1 = some x → P x = true
  | 0, x, h => by cases h
  | i + 1, x, h => by
    rw [pOn_s] at h
    split at h
    · rename_i hp
      cases h
      exact hp
    · exact pOn_true h
theorem pOnly_true {P : Nat → Bool} {m x : Nat} (h : pOnly P m = some x) : P x = true := by
  unfold pOnly at h
  split at h
  · exact pOn_true h
  · cases h
theorem pCnt_pos {P : Nat → Bool} {i : Nat} (h : P i = true) : ∀ {n : Nat}, i < n → 0 < pCnt P n
  | 0, hn => by omega
  | n + 1, hn => by
    rw [pCnt_s]
    by_cases e : i = n
    · rw [← e, h]; simp
    · have := pCnt_pos h (n := n) (by omega)
      omega
/-- both are left -/
def bT (B T : pT) (R : pR) (b : pB) : Prop := ∀ p q, b.2 = some (p, q) → rSL B T R p = true ∧ rTL B T R q = true
theorem rBq_T {B T : pT} {th : Int32} {R : pR} {p q : Nat} {b : pB} (h : bT B T R b) (hp : rSL B T R p = true) : bT B T R (rBq B T th R p b q) := by
  intro p' q' e
  unfold rBq at e
  generalize (if p % 8 = q % 8 then (1 : Int32) else 0) = u at e
  split at e
  · rename_i hc
    cases e
    rw [Bool.and_eq_true, Bool.and_eq_true] at hc
    exact ⟨hp, hc.1.1⟩
  · exact h p' q' e
theorem rBr_T {B T : pT} {th : Int32} {R : pR} {p : Nat} {b : pB} (h : bT B T R b) (hp : rSL B T R p = true) : ∀ n, bT B T R (rBr B T th R p b n)
  | 0 => h
  | n + 1 => rBq_T (rBr_T h hp n) hp
theorem rBp_T {B T : pT} {th : Int32} {R : pR} : ∀ n, bT B T R (rBp B T th R n)
  | 0 => fun p q e => by cases e
  | n + 1 => by
    intro p q e
    unfold rBp at e
    split at e
    · rename_i hc
      exact rBr_T (rBp_T n) hc 64 p q e
    · exact rBp_T n p q e
/-- what a pair says -/
def RI (B T : pT) (R : pR) : Prop := rB R ∧ ∀ p q, R.1 p = some q → p < 64 ∧ (B p).isSome = true ∧ (T p).isSome = false ∧ (T q).isSome = true ∧ (B q).isSome = false ∧ R.2 q = some p
theorem isSome_none {α : Type} {o : Option α} (h : o.isNone = true) : o.isSome = false := by
  cases o with
  | none => rfl
  | some a => cases h
theorem RI_J {B T : pT} {R : pR} {p q : Nat} (h : RI B T R) (hp : rSL B T R p = true) (hq : rTL B T R q = true) (hp6 : p < 64) (hq6 : q < 64) : RI B T (rJ R p q) := by
  refine ⟨rJ_B h.1 hp6 hq6, fun p' q' e => ?_⟩
  unfold rSL at hp
  unfold rTL at hq
  rw [Bool.and_eq_true, Bool.and_eq_true] at hp hq
  by_cases e1 : p' = p
  · have e2 : q' = q := by
      unfold rJ va_up at e
      simp only [if_pos e1] at e
      cases e
      rfl
    subst e1 e2
    refine ⟨hp6, hp.1.1, isSome_none hp.1.2, hq.1.1, isSome_none hq.1.2, ?_⟩
    simp [rJ, va_up]
  · have e2 : R.1 p' = some q' := by
      unfold rJ va_up at e
      simp only [if_neg e1] at e
      exact e
    obtain ⟨a0, a1, a2, a3, a4, a5⟩ := h.2 p' q' e2
    refine ⟨a0, a1, a2, a3, a4, ?_⟩
    have e3 : q' ≠ q := fun z => by
      rw [z] at a5
      have := hq.2
      rw [a5] at this
      cases this
    simp [rJ, va_up, e3, a5]
theorem RI_0 (B T : pT) : RI B T (fun _ => none, fun _ => none) := ⟨⟨fun p q z => (by cases z), fun p q z => (by cases z)⟩, fun p q z => (by cases z)⟩
theorem RI_Ex {B T : pT} {R : pR} (h : RI B T R) : ∀ n, n ≤ 64 → RI B T (rExA B T R n)
  | 0, _ => h
  | n + 1, hn => by
    have ih := RI_Ex h n (by omega)
    show RI B T (rExS B T (rExA B T R n) n)
    unfold rExS
    split
    · rename_i ht
      split
      · rename_i p hp
        obtain ⟨g1, g2⟩ := pPick_in hp
        rw [Bool.and_eq_true] at g2
        exact RI_J ih g2.1 ht g1 (by omega)
      · exact ih
    · exact ih
theorem RI_Na {B T : pT} {ls : Int32} {R : pR} (h : RI B T R) : ∀ n, n ≤ 8 → RI B T (rNaA B T ls R n)
  | 0, _ => h
  | n + 1, hn => by
    have ih := RI_Na (ls := ls) h n (by omega)
    show RI B T (rNaS B T ls (rNaA B T ls R n) n)
    unfold rNaS
    split
    · rename_i p q hp hq
      split
      · exact RI_J ih (pOnly_true hp) (pOnly_true hq) (pOnly_lt hp (by omega)) (pOnly_lt hq (by omega))
      · exact ih
    · exact ih
/-- a round: no pair, or one of those left -/
theorem rBS_cases (B T : pT) (th : Int32) (R : pR) : rBS B T th R = R ∨ ∃ p q, rSL B T R p = true ∧ rTL B T R q = true ∧ p < 64 ∧ q < 64 ∧ rBS B T th R = rJ R p q := by
  unfold rBS
  cases hb : (rBp B T th R 64).2 with
  | none => exact Or.inl rfl
  | some pq =>
    obtain ⟨p, q⟩ := pq
    obtain ⟨h1, h2⟩ := rBp_T 64 p q hb
    obtain ⟨h3, h4⟩ := rBS_in hb
    exact Or.inr ⟨p, q, h1, h2, h3, h4, rfl⟩
theorem RI_It {B T : pT} {th : Int32} {R : pR} (h : RI B T R) : ∀ n, RI B T (rIt (rBS B T th) R n)
  | 0 => h
  | n + 1 => by
    have ih := RI_It (th := th) h n
    show RI B T (rBS B T th (rIt (rBS B T th) R n))
    rcases rBS_cases B T th (rIt (rBS B T th) R n) with e | ⟨p, q, h1, h2, h3, h4, e⟩
    · rw [e]; exact ih
    · rw [e]; exact RI_J ih h1 h2 h3 h4
theorem RI_all (B T : pT) (th : Nat) : RI B T (rAll B T th) := by
  unfold rAll rScA
  split
  · exact RI_Na (RI_Ex (RI_0 B T) 64 (Nat.le_refl _)) 8 (Nat.le_refl _)
  · exact RI_It (RI_Na (RI_Ex (RI_0 B T) 64 (Nat.le_refl _)) 8 (Nat.le_refl _)) _
theorem rOk_all (B T : pT) (th : Nat) : rOk (rAll B T th) := fun p q _ e => (RI_all B T th).1.1 p q e
theorem rIt_in (f : pR → pR) (R : pR) : ∀ n, rIt f R (n + 1) = rIt f (f R) n
  | 0 => rfl
  | n + 1 => by
    show f (rIt f R (n + 1)) = f (rIt f (f R) n)
    rw [rIt_in f R n]
theorem rIt_fix {f : pR → pR} {R : pR} (h : f R = R) : ∀ n, rIt f R n = R
  | 0 => rfl
  | n + 1 => by
    show f (rIt f R n) = R
    rw [rIt_fix h n, h]
theorem rSL_dec {B T : pT} {R : pR} {p q : Nat} (hp : rSL B T R p = true) (h6 : p < 64) : pCnt (rSL B T R) 64 = pCnt (rSL B T (rJ R p q)) 64 + 1 := by
  refine pCnt_dec (j0 := p) hp ?_ h6 (fun j _ hj => ?_)
  · simp [rSL, rJ, va_up]
  · simp [rSL, rJ, va_up, hj]
theorem rTL_dec {B T : pT} {R : pR} {p q : Nat} (hq : rTL B T R q = true) (h6 : q < 64) : pCnt (rTL B T R) 64 = pCnt (rTL B T (rJ R p q)) 64 + 1 := by
  refine pCnt_dec (j0 := q) hq ?_ h6 (fun j _ hj => ?_)
  · simp [rTL, rJ, va_up]
  · simp [rTL, rJ, va_up, hj]
theorem rIt_more {B T : pT} {th : Int32} : ∀ (m : Nat) (R : pR), min (pCnt (rSL B T R) 64) (pCnt (rTL B T R) 64) ≤ m → ∀ k, rIt (rBS B T th) R (m + k) = rIt (rBS B T th) R m
  | 0, R, h, k => by
    have hf : rBS B T th R = R := by
      rcases rBS_cases B T th R with e | ⟨p, q, h1, h2, h3, h4, -⟩
      · exact e
      · have := pCnt_pos h1 h3
        have := pCnt_pos h2 h4
        omega
    rw [rIt_fix hf, rIt_fix hf]
  | m + 1, R, h, k => by
    rcases rBS_cases B T th R with e | ⟨p, q, h1, h2, h3, h4, e⟩
    · rw [rIt_fix e, rIt_fix e]
    · have a1 := rSL_dec (q := q) h1 h3
      have a2 := rTL_dec (p := p) h2 h4
      rw [show m + 1 + k = m + k + 1 by omega, rIt_in, rIt_in, e]
      exact rIt_more m (rJ R p q) (by omega) k
theorem rSc8_eq (B T : pT) (th : Int32) (R : pR) : rSc8 B T th R = rScA B T th R := by
  unfold rSc8 rScA
  split
  · rfl
  · rename_i hno
    have h1 : min (pCnt (rSL B T R) 64) (pCnt (rTL B T R) 64) ≤ 8 := by
      rcases Nat.lt_or_ge 8 (min (pCnt (rSL B T R) 64) (pCnt (rTL B T R) 64)) with h | h
      · have := Nat.mul_le_mul (show 9 ≤ pCnt (rSL B T R) 64 by omega) (show 9 ≤ pCnt (rTL B T R) 64 by omega)
        omega
      · exact h
    have := rIt_more (th := th) (min (pCnt (rSL B T R) 64) (pCnt (rTL B T R) 64)) R (Nat.le_refl _) (8 - min (pCnt (rSL B T R) 64) (pCnt (rTL B T R) 64))
    rw [show min (pCnt (rSL B T R) 64) (pCnt (rTL B T R) 64) + (8 - min (pCnt (rSL B T R) 64) (pCnt (rTL B T R) 64)) = 8 by omega] at this
    exact this
theorem rAll8_eq (B T : pT) (th : Nat) : rAll8 B T th = rAll B T th := by
  unfold rAll8 rAll
  rw [rSc8_eq]
/-- where files stand -/
theorem sSt_some {B T O : pT} {Wt : Nat → pP} {x : Nat} (h : (T x).isSome = true) : ∃ y, sSt B T O Wt x = some y := by
  cases hw : Wt x with
  | none => exact ⟨x, by unfold sSt; rw [hw]; simp [h]⟩
  | some o =>
    cases o with
    | none => exact ⟨x, by unfold sSt; rw [hw]; simp [h]⟩
    | some y =>
      by_cases hh : sHi B T O Wt y = true
      · exact ⟨x, by unfold sSt; rw [hw]; simp [h, hh]⟩
      · exact ⟨y, by unfold sSt; rw [hw]; simp [hh]⟩
theorem sSt_cases {B T O : pT} {Wt : Nat → pP} {x y : Nat} (h : sSt B T O Wt x = some y) : (y = x ∧ (T x).isSome = true) ∨ (Wt x = some (some y) ∧ sHi B T O Wt y = false) := by
  unfold sSt at h
  split at h
  · rename_i z hz
    split at h
    · split at h
      · rename_i ht
        cases h
        exact Or.inl ⟨rfl, ht⟩
      · cases h
    · rename_i hh
      cases h
      refine Or.inr ⟨hz, ?_⟩
      cases hq : sHi B T O Wt y with
      | true => exact absurd hq hh
      | false => rfl
  · split at h
    · rename_i ht
      cases h
      exact Or.inl ⟨rfl, ht⟩
    · cases h
theorem sHi_no {B T O : pT} {Wt : Nat → pP} {y : Nat} (h : sHi B T O Wt y = false) : (B y).isSome = false ∧ (T y).isSome = false ∧ (O y).isSome = false ∧ ¬ 1 < pCnt (fun z => decide (Wt z = some (some y))) 64 := by
  unfold sHi at h
  rw [Bool.or_eq_false_iff, Bool.or_eq_false_iff, Bool.or_eq_false_iff] at h
  exact ⟨h.1.1.1, h.1.1.2, h.1.2, of_decide_eq_false h.2⟩
theorem sSt_lt {B T O : pT} {Wt : Nat → pP} {x y : Nat} (hW : ∀ x y, x < 64 → Wt x = some (some y) → y < 64) (hx : x < 64) (h : sSt B T O Wt x = some y) : y < 64 := by
  rcases sSt_cases h with ⟨e, -⟩ | ⟨e, -⟩
  · omega
  · exact hW x y hx e
theorem sSt_base {B T O : pT} {Wt : Nat → pP} {x y : Nat} (h : sSt B T O Wt x = some y) (hb : (B x).isSome = false) : (B y).isSome = false := by
  rcases sSt_cases h with ⟨e, -⟩ | ⟨-, e⟩
  · rw [e]; exact hb
  · exact (sHi_no e).1
theorem sSt_inj {B T O : pT} {Wt : Nat → pP} {x x' y : Nat} (hx : x < 64) (hx' : x' < 64) (h : sSt B T O Wt x = some y) (h' : sSt B T O Wt x' = some y) : x = x' := by
  rcases sSt_cases h with ⟨e, t⟩ | ⟨e, t⟩
  · rcases sSt_cases h' with ⟨e', t'⟩ | ⟨e', t'⟩
    · omega
    · rw [← e, (sHi_no t').2.1] at t
      cases t
  · rcases sSt_cases h' with ⟨e', t'⟩ | ⟨e', t'⟩
    · rw [← e', (sHi_no t).2.1] at t'
      cases t'
    · by_cases hne : x = x'
      · exact hne
      · exfalso
        have h2 := (pCnt_two (Q := fun z => decide (Wt z = some (some y))) (x := x) (decide_eq_true e) (n := 64)).1 hx
        refine (sHi_no t).2.2.2 (h2.mpr (pAny_up (i := x') ?_ hx'))
        rw [decide_eq_true e', decide_eq_false (fun z => hne z.symm)]
        rfl
theorem plOk_place (T : pT) (R : pR) : plOk (pPlace T R) := fun f e _ h => pPlace_lt h
theorem bW_lt {B X Y : pT} {th x y : Nat} (hx : x < 64) (h : bW B X Y th x = some (some y)) : y < 64 := sW_lt (plOk_place Y _) hx h
/-- to where the rename of p leads -/
theorem bTo {B X Y : pT} {th p x : Nat} (h : pTo (rAll B X th).1 (bS B X Y th) p = some x) : p < 64 ∧ (B p).isSome = true ∧ (B x).isSome = false ∧ x < 64 ∧ p ≠ x := by
  unfold pTo at h
  cases hr : (rAll B X th).1 p with
  | none => rw [hr] at h; cases h
  | some q =>
    rw [hr] at h
    have h : bS B X Y th q = some x := h
    obtain ⟨a0, a1, a2, a3, a4, a5⟩ := (RI_all B X th).2 p q hr
    have hq := (RI_all B X th).1.1 p q hr
    have hb := sSt_base h a4
    refine ⟨a0, a1, hb, sSt_lt (fun x y hx e => bW_lt hx e) hq h, fun z => ?_⟩
    rw [← z, a1] at hb
    cases hb
theorem bTo_inj {B X Y : pT} {th p p' x : Nat} (h : pTo (rAll B X th).1 (bS B X Y th) p = some x) (h' : pTo (rAll B X th).1 (bS B X Y th) p' = some x) : p = p' := by
  unfold pTo at h h'
  cases hr : (rAll B X th).1 p with
  | none => rw [hr] at h; cases h
  | some q =>
    cases hr' : (rAll B X th).1 p' with
    | none => rw [hr'] at h'; cases h'
    | some q' =>
      rw [hr] at h
      rw [hr'] at h'
      have h : bS B X Y th q = some x := h
      have h' : bS B X Y th q' = some x := h'
      have hq := (RI_all B X th).1.1 p q hr
      have hq' := (RI_all B X th).1.1 p' q' hr'
      have e := sSt_inj hq hq' h h'
      have a5 := ((RI_all B X th).2 p q hr).2.2.2.2.2
      have b5 := ((RI_all B X th).2 p' q' hr').2.2.2.2.2
      rw [← e, a5] at b5
      cases b5
      rfl
theorem bTo_some {B X Y : pT} {th p q : Nat} (h : (rAll B X th).1 p = some q) : q < 64 ∧ ∃ x, x < 64 ∧ bS B X Y th q = some x ∧ p ≠ x := by
  obtain ⟨a0, a1, a2, a3, a4, a5⟩ := (RI_all B X th).2 p q h
  have hq := (RI_all B X th).1.1 p q h
  obtain ⟨x, hx⟩ := sSt_some (B := B) (O := Y) (Wt := bW B X Y th) a3
  have e : pTo (rAll B X th).1 (bS B X Y th) p = some x := by
    unfold pTo
    rw [h]
    exact hx
  obtain ⟨-, -, -, h4, h5⟩ := bTo e
  exact ⟨hq, x, h4, hx, h5⟩
