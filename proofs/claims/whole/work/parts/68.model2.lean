/-! MODULE: the reference: its state, and steps over it -/
def aU (A : Nat → Nat → Int32) (k : Nat) (f : Nat → Int32) : Nat → Nat → Int32 := fun j => if j = k then f else A j
theorem aU_eq (A : Nat → Nat → Int32) (k : Nat) (f : Nat → Int32) : aU A k f k = f := if_pos rfl
theorem aU_ne {A : Nat → Nat → Int32} {k j : Nat} {f : Nat → Int32} (h : j ≠ k) : aU A k f j = A j := if_neg h
theorem aU_same (A : Nat → Nat → Int32) (k : Nat) : aU A k (A k) = A := by
  funext j
  unfold aU
  by_cases h : j = k
  · rw [if_pos h, h]
  · rw [if_neg h]
theorem aU_aU (A : Nat → Nat → Int32) (k : Nat) (f g : Nat → Int32) : aU (aU A k f) k g = aU A k g := by
  funext j
  unfold aU
  by_cases h : j = k
  · rw [if_pos h, if_pos h]
  · rw [if_neg h, if_neg h, if_neg h]
theorem upd_eq (f : Nat → Int32) (k : Nat) (x : Int32) : upd f k x k = x := if_pos rfl
theorem upd_ne {f : Nat → Int32} {k j : Nat} {x : Int32} (h : j ≠ k) : upd f k x j = f j := if_neg h
def rF (I : Nat → Int32) : List xV := [.inl (I 0), .inl (I 1), .inl (I 2), .inr (some 53), .inr (some 54), .inr (some 55), .inr (some 56), .inr (some 57), .inr (some 58), .inr (some 59), .inr (some 60), .inr (some 61), .inl (I 12), .inl (I 13), .inl (I 14), .inl (I 15), .inl (I 16), .inl (I 17), .inl (I 18), .inr (some 62)]
def rLn (k : Nat) : Nat := if k = 53 ∨ k = 54 then 448 else if k = 55 then 11520 else if k = 56 ∨ k = 57 ∨ k = 58 then 128 else if k = 60 then 64 else if k = 61 then 76 else 16
def rBy (k : Nat) : Nat := if k = 55 ∨ k = 61 then 1 else 0
/-- the heap with the reference in the state I (fields that are ints), A (arrays by their cells) -/
def mU (σ : xS) (I : Nat → Int32) (A : Nat → Nat → Int32) : xS := (fun k => if k = 52 then some (.inr (.inr (7, rF I))) else if 52 < k ∧ k < 63 then some (.inl (rBy k, rLn k, A k)) else σ.1 k, σ.2)
theorem mU_obj (σ : xS) (I : Nat → Int32) (A : Nat → Nat → Int32) : (mU σ I A).1 52 = some (.inr (.inr (7, rF I))) := rfl
theorem mU_arr {σ : xS} {I : Nat → Int32} {A : Nat → Nat → Int32} {k : Nat} (h : 52 < k ∧ k < 63) : (mU σ I A).1 k = some (.inl (rBy k, rLn k, A k)) := by
  show (if k = 52 then some (.inr (.inr (7, rF I))) else if 52 < k ∧ k < 63 then some (.inl (rBy k, rLn k, A k)) else σ.1 k) = _
  rw [if_neg (by omega), if_pos h]
theorem mU_out {σ : xS} {I : Nat → Int32} {A : Nat → Nat → Int32} {k : Nat} (h : k < 52 ∨ 62 < k) : (mU σ I A).1 k = σ.1 k := by
  show (if k = 52 then some (.inr (.inr (7, rF I))) else if 52 < k ∧ k < 63 then some (.inl (rBy k, rLn k, A k)) else σ.1 k) = _
  rw [if_neg (by omega), if_neg (by omega)]
theorem mU_up {σ : xS} {I : Nat → Int32} {A : Nat → Nat → Int32} {k : Nat} {f : Nat → Int32} (h : 52 < k ∧ k < 63) : xup (mU σ I A) k (.inl (rBy k, rLn k, f)) = mU σ I (aU A k f) := by
  refine Prod.ext (funext fun j => ?_) rfl
  by_cases hj : j = k
  · rw [hj, xup_eq, mU_arr h, aU_eq]
  · rw [xup_ne hj]
    by_cases h52 : j = 52
    · rw [h52, mU_obj, mU_obj]
    · by_cases hr : 52 < j ∧ j < 63
      · rw [mU_arr hr, mU_arr hr, aU_ne hj]
      · rw [mU_out (by omega), mU_out (by omega)]
theorem rF_set {I : Nat → Int32} {b : Nat} {v : Int32} (h : b < 3 ∨ (11 < b ∧ b < 19)) : (rF I).set b (.inl v) = rF (upd I b v) := by
  have e : b = 0 ∨ b = 1 ∨ b = 2 ∨ b = 12 ∨ b = 13 ∨ b = 14 ∨ b = 15 ∨ b = 16 ∨ b = 17 ∨ b = 18 := by omega
  rcases e with rfl | rfl | rfl | rfl | rfl | rfl | rfl | rfl | rfl | rfl <;> rfl
theorem mU_fd {σ : xS} {I : Nat → Int32} {A : Nat → Nat → Int32} {b : Nat} {v : Int32} (h : b < 3 ∨ (11 < b ∧ b < 19)) : xup (mU σ I A) 52 (.inr (.inr (7, (rF I).set b (.inl v)))) = mU σ (upd I b v) A := by
  rw [rF_set h]
  refine Prod.ext (funext fun j => ?_) rfl
  by_cases hj : j = 52
  · rw [hj, xup_eq, mU_obj]
  · rw [xup_ne hj]
    by_cases hr : 52 < j ∧ j < 63
    · rw [mU_arr hr, mU_arr hr]
    · rw [mU_out (by omega), mU_out (by omega)]
def rIx (q : Nat) : Option Nat := if q = 53 then some 448 else if q = 54 then some 448 else if q = 56 then some 128 else if q = 57 then some 128 else if q = 58 then some 128 else if q = 59 then some 16 else if q = 60 then some 64 else if q = 62 then some 16 else none
def rBx (q : Nat) : Option Nat := if q = 55 then some 11520 else if q = 61 then some 76 else none
theorem rIx_ok {q n : Nat} (h : rIx q = some n) : (52 < q ∧ q < 63) ∧ rBy q = 0 ∧ rLn q = n ∧ n ≤ 448 := by
  by_cases e1 : q = 53
  · subst e1; cases h; decide
  by_cases e2 : q = 54
  · subst e2; cases h; decide
  by_cases e3 : q = 56
  · subst e3; cases h; decide
  by_cases e4 : q = 57
  · subst e4; cases h; decide
  by_cases e5 : q = 58
  · subst e5; cases h; decide
  by_cases e6 : q = 59
  · subst e6; cases h; decide
  by_cases e7 : q = 60
  · subst e7; cases h; decide
  by_cases e8 : q = 62
  · subst e8; cases h; decide
  unfold rIx at h
  rw [if_neg e1, if_neg e2, if_neg e3, if_neg e4, if_neg e5, if_neg e6, if_neg e7, if_neg e8] at h
  cases h
theorem rBx_ok {q n : Nat} (h : rBx q = some n) : (52 < q ∧ q < 63) ∧ rBy q = 1 ∧ rLn q = n ∧ n ≤ 11520 := by
  by_cases e1 : q = 55
  · subst e1; cases h; decide
  by_cases e2 : q = 61
  · subst e2; cases h; decide
  unfold rBx at h
  rw [if_neg e1, if_neg e2] at h
  cases h
def xck (i : Instr) : Bool := match i with
  | .iconst _ | .bipush _ | .sipush _ => true
  | _ => false
def xcN (c : ClassFile.Cond) (x y : Nat) : Prop := match c with
  | .eq => x = y
  | .ne => ¬ x = y
  | .lt => x < y
  | .ge => y ≤ x
  | .gt => y < x
  | .le => x ≤ y
theorem xcN_iff {c : ClassFile.Cond} {x y : Nat} (hx : x < 2147483648) (hy : y < 2147483648) : xc c (nI x) (nI y) ↔ xcN c x y := by
  match c with
  | .eq => exact nI_eq hx hy
  | .ne => exact not_congr (nI_eq hx hy)
  | .lt => exact nI_ltI hx hy
  | .ge => exact nI_leI hy hx
  | .gt => exact nI_ltI hy hx
  | .le => exact nI_leI hx hy
theorem xN_eq {x y : Nat} (h : x = y) : xcN .eq x y := h
theorem xN_ne {x y : Nat} (h : ¬ x = y) : xcN .ne x y := h
theorem xN_lt {x y : Nat} (h : x < y) : xcN .lt x y := h
theorem xN_ge {x y : Nat} (h : y ≤ x) : xcN .ge x y := h
theorem xN_gt {x y : Nat} (h : y < x) : xcN .gt x y := h
theorem xN_le {x y : Nat} (h : x ≤ y) : xcN .le x y := h
theorem nN_eq {x y : Nat} (h : ¬ x = y) : ¬ xcN .eq x y := h
theorem nN_ne {x y : Nat} (h : x = y) : ¬ xcN .ne x y := fun z => z h
theorem nN_lt {x y : Nat} (h : y ≤ x) : ¬ xcN .lt x y := Nat.not_lt.mpr h
theorem nN_ge {x y : Nat} (h : x < y) : ¬ xcN .ge x y := Nat.not_le.mpr h
theorem nN_gt {x y : Nat} (h : x ≤ y) : ¬ xcN .gt x y := Nat.not_lt.mpr h
theorem nN_le {x y : Nat} (h : y < x) : ¬ xcN .le x y := Nat.not_le.mpr h
section XMOD
variable {E : Nat → List xV → xS → Option xV → xS → Prop} {tb : List xI} {K : Option xV → xS → Prop} {pc len a b w : Nat} {ls : xL} {st : List xV} {σ : xS} {i : Instr} {I : Nat → Int32} {A : Nat → Nat → Int32}
theorem gFl {idx : Nat} {v : xV} (hk : xfd tb pc = some (pc, .getfield idx, len, 7, b, w)) (h : (rF I)[b]? = some v) (g : xGo E tb K (pc + len, ls, v :: st, mU σ I A)) : xGo E tb K (pc, ls, .inr (some 52) :: st, mU σ I A) := ggf hk (mU_obj _ _ _) h g
theorem gFs {idx : Nat} {v : Int32} (hk : xfd tb pc = some (pc, .putfield idx, len, 7, b, w)) (hb : b < 3 ∨ (11 < b ∧ b < 19)) (h3 : xfit 7 b (.inl v)) (g : xGo E tb K (pc + len, ls, st, mU σ (upd I b v) A)) : xGo E tb K (pc, ls, .inl v :: .inr (some 52) :: st, mU σ I A) := by
  refine gpf hk (mU_obj _ _ _) (show b < 20 by omega) h3 ?_
  rw [mU_fd hb]
  exact g
theorem gAl {q n j : Nat} {x : Int32} (hk : xfd tb pc = some (pc, .iaload, len, a, b, w)) (hq : rIx q = some n) (h2 : x = nI j) (h3 : j < n) (g : xGo E tb K (pc + len, ls, .inl (A q j) :: st, mU σ I A)) : xGo E tb K (pc, ls, .inl x :: .inr (some q) :: st, mU σ I A) := by
  obtain ⟨e1, e2, e3, e4⟩ := rIx_ok hq
  exact gil hk (show _ = some (Sum.inl (0, n, A q)) by rw [mU_arr e1, e2, e3]) h2 h3 (by omega) g
theorem gAs {q n j : Nat} {x v : Int32} (hk : xfd tb pc = some (pc, .iastore, len, a, b, w)) (hq : rIx q = some n) (h2 : x = nI j) (h3 : j < n) (g : xGo E tb K (pc + len, ls, st, mU σ I (aU A q (upd (A q) j v)))) : xGo E tb K (pc, ls, .inl v :: .inl x :: .inr (some q) :: st, mU σ I A) := by
  obtain ⟨e1, e2, e3, e4⟩ := rIx_ok hq
  refine gis hk (show _ = some (Sum.inl (0, n, A q)) by rw [mU_arr e1, e2, e3]) h2 h3 (by omega) (by omega) ?_
  have e := mU_up (σ := σ) (I := I) (A := A) (k := q) (f := upd (A q) j v) e1
  rw [e2, e3] at e
  rw [e]
  exact g
theorem gBl {q n j : Nat} {x : Int32} (hk : xfd tb pc = some (pc, .baload, len, 1, b, w)) (hq : rBx q = some n) (h2 : x = nI j) (h3 : j < n) (g : xGo E tb K (pc + len, ls, .inl (A q j) :: st, mU σ I A)) : xGo E tb K (pc, ls, .inl x :: .inr (some q) :: st, mU σ I A) := by
  obtain ⟨e1, e2, e3, e4⟩ := rBx_ok hq
  exact gbl hk (show _ = some (Sum.inl (1, n, A q)) by rw [mU_arr e1, e2, e3]) h2 h3 (by omega) g
theorem gBs {q n j : Nat} {x v u : Int32} (hk : xfd tb pc = some (pc, .bastore, len, 1, b, w)) (hq : rBx q = some n) (h2 : x = nI j) (h3 : j < n) (hv : xnar 1 v = u) (g : xGo E tb K (pc + len, ls, st, mU σ I (aU A q (upd (A q) j u)))) : xGo E tb K (pc, ls, .inl v :: .inl x :: .inr (some q) :: st, mU σ I A) := by
  obtain ⟨e1, e2, e3, e4⟩ := rBx_ok hq
  refine gbs hk (show _ = some (Sum.inl (1, n, A q)) by rw [mU_arr e1, e2, e3]) h2 h3 (by omega) ?_
  have e := mU_up (σ := σ) (I := I) (A := A) (k := q) (f := upd (A q) j u) e1
  rw [e2, e3] at e
  rw [hv, e]
  exact g
theorem gkn (hk : xfd tb pc = some (pc, i, len, a, 0, w)) (hi : xck i = true) (g : xGo E tb K (pc + len, ls, .inl (nI a) :: st, σ)) : xGo E tb K (pc, ls, st, σ) := by
  cases i <;> first | exact absurd (show false = true from hi) (by decide) | exact g0 hk (o := .inl (pc + len, ls, .inl (nI a) :: st, σ)) rfl g
theorem gkm (hk : xfd tb pc = some (pc, i, len, 1, 1, w)) (hi : xck i = true) (g : xGo E tb K (pc + len, ls, .inl (-1) :: st, σ)) : xGo E tb K (pc, ls, st, σ) := by
  have e : (-1 : Int32) = xk 1 1 := xk_m1.symm
  rw [e] at g
  cases i <;> first | exact absurd (show false = true from hi) (by decide) | exact g0 hk (o := .inl (pc + len, ls, .inl (xk 1 1) :: st, σ)) rfl g
theorem gad {x y : Nat} (hk : xfd tb pc = some (pc, .iadd, len, a, b, w)) (g : xGo E tb K (pc + len, ls, .inl (nI (x + y)) :: st, σ)) : xGo E tb K (pc, ls, .inl (nI y) :: .inl (nI x) :: st, σ) := by
  rw [← nI_add] at g
  exact g0 hk (o := .inl (pc + len, ls, .inl (nI x + nI y) :: st, σ)) rfl g
theorem gml {x y : Nat} (hk : xfd tb pc = some (pc, .imul, len, a, b, w)) (g : xGo E tb K (pc + len, ls, .inl (nI (x * y)) :: st, σ)) : xGo E tb K (pc, ls, .inl (nI y) :: .inl (nI x) :: st, σ) := by
  rw [← pk_mul] at g
  exact g0 hk (o := .inl (pc + len, ls, .inl (nI x * nI y) :: st, σ)) rfl g
theorem gsb {x y : Nat} (hk : xfd tb pc = some (pc, .isub, len, a, b, w)) (h : y ≤ x) (g : xGo E tb K (pc + len, ls, .inl (nI (x - y)) :: st, σ)) : xGo E tb K (pc, ls, .inl (nI y) :: .inl (nI x) :: st, σ) := by
  rw [← pk_sub h] at g
  exact g0 hk (o := .inl (pc + len, ls, .inl (nI x - nI y) :: st, σ)) rfl g
theorem gdv {x y : Nat} (hk : xfd tb pc = some (pc, .idiv, len, a, b, w)) (hx : x < 2147483648) (hy : y < 2147483648) (h : 0 < y) (g : xGo E tb K (pc + len, ls, .inl (nI (x / y)) :: st, σ)) : xGo E tb K (pc, ls, .inl (nI y) :: .inl (nI x) :: st, σ) := by
  rw [← pk_div (by omega) (by omega) (by omega)] at g
  exact g0 hk (o := .inl (pc + len, ls, .inl (nI x / nI y) :: st, σ)) ⟨nI_ne0 h hy, rfl⟩ g
theorem grm {x y : Nat} (hk : xfd tb pc = some (pc, .irem, len, a, b, w)) (hx : x < 2147483648) (hy : y < 2147483648) (h : 0 < y) (g : xGo E tb K (pc + len, ls, .inl (nI (x % y)) :: st, σ)) : xGo E tb K (pc, ls, .inl (nI y) :: .inl (nI x) :: st, σ) := by
  rw [← pk_rem (by omega) (by omega) (by omega)] at g
  exact g0 hk (o := .inl (pc + len, ls, .inl (nI x - nI x / nI y * nI y) :: st, σ)) ⟨nI_ne0 h hy, rfl⟩ g
theorem gic {k n' : Nat} {n : Int} (hk : xfd tb pc = some (pc, .iinc k n, len, a, 0, w)) (hl : ls[k]? = some (some (.inl (nI n')))) (g : xGo E tb K (pc + len, ls.set k (some (.inl (nI (n' + a)))), st, σ)) : xGo E tb K (pc, ls, st, σ) := by
  rw [← nI_add] at g
  refine g0 hk (o := .inl (pc + len, ls.set k (some (.inl (nI n' + nI a))), st, σ)) ?_ g
  show xld ls k _
  unfold xld
  rw [hl]
  rfl
theorem gtN {c : ClassFile.Cond} {off : Int} {x y : Nat} (hk : xfd tb pc = some (pc, .if_icmp c off, len, a, b, w)) (hx : x < 2147483648) (hy : y < 2147483648) (h : xcN c x y) (g : xGo E tb K (a, ls, st, σ)) : xGo E tb K (pc, ls, .inl (nI y) :: .inl (nI x) :: st, σ) := gct hk ((xcN_iff hx hy).mpr h) g
theorem gfN {c : ClassFile.Cond} {off : Int} {x y : Nat} (hk : xfd tb pc = some (pc, .if_icmp c off, len, a, b, w)) (hx : x < 2147483648) (hy : y < 2147483648) (h : ¬ xcN c x y) (g : xGo E tb K (pc + len, ls, st, σ)) : xGo E tb K (pc, ls, .inl (nI y) :: .inl (nI x) :: st, σ) := gcf hk (fun z => h ((xcN_iff hx hy).mp z)) g
theorem gt0 {c : ClassFile.Cond} {off : Int} {x : Nat} (hk : xfd tb pc = some (pc, .ifCond c off, len, a, b, w)) (hx : x < 2147483648) (h : xcN c x 0) (g : xGo E tb K (a, ls, st, σ)) : xGo E tb K (pc, ls, .inl (nI x) :: st, σ) := git hk ((xcN_iff (y := 0) hx (by decide)).mpr h) g
theorem gf0 {c : ClassFile.Cond} {off : Int} {x : Nat} (hk : xfd tb pc = some (pc, .ifCond c off, len, a, b, w)) (hx : x < 2147483648) (h : ¬ xcN c x 0) (g : xGo E tb K (pc + len, ls, st, σ)) : xGo E tb K (pc, ls, .inl (nI x) :: st, σ) := giff hk (fun z => h ((xcN_iff (y := 0) hx (by decide)).mp z)) g
theorem gcN {c : ClassFile.Cond} {off : Int} {x y : Nat} (hk : xfd tb pc = some (pc, .if_icmp c off, len, a, b, w)) (hx : x < 2147483648) (hy : y < 2147483648) (ht : xcN c x y → xGo E tb K (a, ls, st, σ)) (hf : ¬ xcN c x y → xGo E tb K (pc + len, ls, st, σ)) : xGo E tb K (pc, ls, .inl (nI y) :: .inl (nI x) :: st, σ) := gcp hk (fun z => ht ((xcN_iff hx hy).mp z)) (fun z => hf (fun h => z ((xcN_iff hx hy).mpr h)))
theorem gbe {off : Int} {z : Bool} (hk : xfd tb pc = some (pc, .ifCond .eq off, len, a, b, w)) (ht : z = false → xGo E tb K (a, ls, st, σ)) (hf : z = true → xGo E tb K (pc + len, ls, st, σ)) : xGo E tb K (pc, ls, .inl (bI z) :: st, σ) := by
  cases z with
  | false => exact git hk (show (0 : Int32) = 0 from rfl) (ht rfl)
  | true => exact giff hk (fun h => absurd (show (1 : Int32) = 0 from h) (by decide)) (hf rfl)
theorem gbn {off : Int} {z : Bool} (hk : xfd tb pc = some (pc, .ifCond .ne off, len, a, b, w)) (ht : z = true → xGo E tb K (a, ls, st, σ)) (hf : z = false → xGo E tb K (pc + len, ls, st, σ)) : xGo E tb K (pc, ls, .inl (bI z) :: st, σ) := by
  cases z with
  | false => exact giff hk (fun h => h (show (0 : Int32) = 0 from rfl)) (hf rfl)
  | true => exact git hk (show ¬ (1 : Int32) = 0 by decide) (ht rfl)
end XMOD
theorem bI01 (z : Bool) : bI z = 0 ∨ bI z = 1 := by
  cases z
  · exact Or.inl rfl
  · exact Or.inr rfl
theorem oN_hi {n : Nat} {x : Int32} (hn : n + 1 < 2147483648) (h : ¬ (0 ≤ x ∧ x < nI (n + 1))) (h0 : ¬ x < 0) : nI n < x := by
  obtain ⟨j, hj, rfl⟩ := nI_of h0
  refine nI_lt ?_ hj
  by_cases h4 : j < n + 1
  · exact absurd ⟨nI_pos' hj, nI_lt h4 hn⟩ h
  · omega
