/-! MY OWN INTERPRETER of the bytecode over an abstract heap: values are ints or references (numbers of cells), cells are arrays of ints, arrays of references, objects. xGo is the least predicate that is closed under a step backwards. -/
abbrev xE : Type := (Nat × Nat × (Nat → Int32)) ⊕ ((Nat × Nat × (Nat → Option Nat)) ⊕ (Nat × List xV))
/-- the heap, the next cell's number, the slots used so far -/
abbrev xS : Type := (Nat → Option xE) × Nat × Nat
abbrev xL : Type := List (Option xV)
/-- a place in a method: pc, locals, stack, heap -/
abbrev xT : Type := Nat × xL × List xV × xS
/-- what a step gives: a place, or the method's end -/
abbrev xO : Type := xT ⊕ (Option xV × xS)
def xup (σ : xS) (k : Nat) (e : xE) : xS := (fun j => if j = k then some e else σ.1 j, σ.2)
def xnew (σ : xS) (e : xE) (n : Nat) : xS := (fun j => if j = σ.2.1 then some e else σ.1 j, σ.2.1 + 1, σ.2.2 + n)
def x1 (st : List xV) (f : Int32 → List xV → Prop) : Prop := match st with
  | .inl x :: r => f x r
  | _ => False
def x2 (st : List xV) (f : Int32 → Int32 → List xV → Prop) : Prop := match st with
  | .inl y :: .inl x :: r => f x y r
  | _ => False
def xq (st : List xV) (f : Option Nat → List xV → Prop) : Prop := match st with
  | .inr q :: r => f q r
  | _ => False
def xr (st : List xV) (f : Nat → List xV → Prop) : Prop := match st with
  | .inr (some a) :: r => f a r
  | _ => False
def xld (ls : xL) (k : Nat) (f : xV → Prop) : Prop := match ls[k]? with
  | some (some v) => f v
  | _ => False
def xint (v : xV) (f : Int32 → Prop) : Prop := match v with
  | .inl x => f x
  | _ => False
def xref (v : xV) (f : Option Nat → Prop) : Prop := match v with
  | .inr q => f q
  | _ => False
/-- the locals in ls0 stand so in ls -/
def xle (ls0 ls : xL) : Prop := ls0.length = ls.length ∧ ∀ (k : Nat) (v : xV), ls0[k]? = some (some v) → ls[k]? = some (some v)
def xc (c : ClassFile.Cond) (x y : Int32) : Prop := match c with
  | .eq => x = y
  | .ne => ¬ x = y
  | .lt => x < y
  | .ge => y ≤ x
  | .gt => y < x
  | .le => x ≤ y
noncomputable def xif (P : Prop) (a b : Nat) : Nat := @ite Nat P (Classical.propDecidable P) a b
/-- what a byte array, a boolean array keeps of an int -/
def xnar (t : Nat) (x : Int32) : Int32 := if t = 1 then vp_nar .byte x else vp_nar .boolean x
/-- of what class the references in an array of kind t are -/
def xqc (t : Nat) : Nat := if t = 0 then 1 else 2
def xlen (e : Option xE) : Option Nat := match e with
  | some (.inl (_, n, _)) => some n
  | some (.inr (.inl (_, n, _))) => some n
  | _ => none
/-- a grid of n rows of k ints -/
def xgrid (σ : xS) (n k : Nat) : xS := (fun j => if j = σ.2.1 then some (.inr (.inl (2, n, fun i => some (σ.2.1 + 1 + i)))) else if σ.2.1 < j ∧ j ≤ σ.2.1 + n then some (.inl (0, k, fun _ => 0)) else σ.1 j, σ.2.1 + 1 + n, σ.2.2 + n + n * k)
/-- may the value stand in the field: by the field's kind, 0 an int, 1 a boolean, 2 a reference -/
def xfit (c k : Nat) (v : xV) : Prop := match v with
  | .inl x => xft c k = 0 ∨ (xft c k = 1 ∧ (x = 0 ∨ x = 1))
  | .inr _ => xft c k = 2
def xrcv (a b : Nat) (as : List xV) (σ : xS) : Prop := if b < 2 then (∃ (q : Nat) (r : List xV), as = .inr (some q) :: r) else if b < 4 then (∃ (q : Nat) (r : List xV) (fs : List xV), as = .inr (some q) :: r ∧ σ.1 q = some (.inr (.inr (xmc a, fs)))) else True
section XCALL
variable (E : Nat → List xV → xS → Option xV → xS → Prop)
/-- a call: b says how (0, 1 a constructor's; 2, 3 on an object; 4, 5 without one; 6 the empty constructor of all objects; 7 an array's clone; 8 arraycopy; 9, 10 max, min), a is the callee's number -/
def xcall (a b pc : Nat) (ls : xL) (st : List xV) (σ : xS) (o : xO) : Prop :=
  if b = 6 then xr st fun _ r => r.length ≤ 8 ∧ o = .inl (pc, ls, r, σ)
  else if b = 7 then xr st fun q r => ∃ (n : Nat) (f : Nat → Int32), σ.1 q = some (.inl (0, n, f)) ∧ 2 ≤ q ∧ r.length ≤ 8 ∧ o = .inl (pc, ls, .inr (some σ.2.1) :: r, xnew σ (.inl (0, n, f)) n)
  else if b = 8 then match st with
    | .inl n :: .inl dp :: .inr (some q1) :: .inl sp :: .inr (some q0) :: r => ∃ (n0 n1 : Nat) (f g : Nat → Int32) (N S T : Nat), σ.1 q0 = some (.inl (0, n0, f)) ∧ σ.1 q1 = some (.inl (0, n1, g)) ∧ n = nI N ∧ dp = nI T ∧ sp = nI S ∧ S + N ≤ n0 ∧ T + N ≤ n1 ∧ S + N < 2147483648 ∧ T + N < 2147483648 ∧ 2 ≤ q0 ∧ 2 ≤ q1 ∧ ¬ q0 = q1 ∧ r.length ≤ 8 ∧ o = .inl (pc, ls, r, xup σ q1 (.inl (0, n1, va_cpy f g S T N)))
    | _ => False
  else if b = 9 then x2 st fun x y r => r.length ≤ 8 ∧ o = .inl (pc, ls, .inl (if x < y then y else x) :: r, σ)
  else if b = 10 then x2 st fun x y r => r.length ≤ 8 ∧ o = .inl (pc, ls, .inl (if y < x then y else x) :: r, σ)
  else ∃ (r : Option xV) (σ1 : xS), xma a ≤ st.length ∧ (st.drop (xma a)).length ≤ 8 ∧ xrcv a b (st.take (xma a)).reverse σ ∧ E a (st.take (xma a)).reverse σ r σ1 ∧ o = .inl (pc, ls, r.toList ++ st.drop (xma a), σ1)
end XCALL
section XSTEP
variable (E : Nat → List xV → xS → Option xV → xS → Prop)
/-- one instruction -/
def xst (i : Instr) (len a b pc : Nat) (ls : xL) (st : List xV) (σ : xS) (o : xO) : Prop :=
  match i with
  | .iconst _ | .bipush _ | .sipush _ => o = .inl (pc + len, ls, .inl (xk a b) :: st, σ)
  | .aconst_null => o = .inl (pc + len, ls, .inr none :: st, σ)
  | .iload_n k => xld ls k fun v => xint v fun x => o = .inl (pc + len, ls, .inl x :: st, σ)
  | .iload k => xld ls k fun v => xint v fun x => o = .inl (pc + len, ls, .inl x :: st, σ)
  | .aload_n k => xld ls k fun v => xref v fun q => o = .inl (pc + len, ls, .inr q :: st, σ)
  | .aload k => xld ls k fun v => xref v fun q => o = .inl (pc + len, ls, .inr q :: st, σ)
  | .istore_n k => x1 st fun x r => o = .inl (pc + len, ls.set k (some (.inl x)), r, σ)
  | .istore k => x1 st fun x r => o = .inl (pc + len, ls.set k (some (.inl x)), r, σ)
  | .astore_n k => xq st fun q r => o = .inl (pc + len, ls.set k (some (.inr q)), r, σ)
  | .astore k => xq st fun q r => o = .inl (pc + len, ls.set k (some (.inr q)), r, σ)
  | .iinc k _ => xld ls k fun v => xint v fun x => o = .inl (pc + len, ls.set k (some (.inl (x + xk a b))), st, σ)
  | .iadd => x2 st fun x y r => o = .inl (pc + len, ls, .inl (x + y) :: r, σ)
  | .isub => x2 st fun x y r => o = .inl (pc + len, ls, .inl (x - y) :: r, σ)
  | .imul => x2 st fun x y r => o = .inl (pc + len, ls, .inl (x * y) :: r, σ)
  | .iand => x2 st fun x y r => o = .inl (pc + len, ls, .inl (x &&& y) :: r, σ)
  | .ior => x2 st fun x y r => o = .inl (pc + len, ls, .inl (x ||| y) :: r, σ)
  | .idiv => x2 st fun x y r => ¬ y = 0 ∧ o = .inl (pc + len, ls, .inl (x / y) :: r, σ)
  | .irem => x2 st fun x y r => ¬ y = 0 ∧ o = .inl (pc + len, ls, .inl (x - x / y * y) :: r, σ)
  | .ishl => x2 st fun x y r => o = .inl (pc + len, ls, .inl (x <<< (y &&& 31)) :: r, σ)
  | .ishr => x2 st fun x y r => o = .inl (pc + len, ls, .inl (x >>> (y &&& 31)) :: r, σ)
  | .iushr => x2 st fun x y r => o = .inl (pc + len, ls, .inl ((x.toUInt32 >>> (y.toUInt32 &&& Int32.toUInt32 31)).toInt32) :: r, σ)
  | .i2b => x1 st fun x r => o = .inl (pc + len, ls, .inl (x.toInt8.toInt32) :: r, σ)
  | .dup => match st with
    | v :: r => o = .inl (pc + len, ls, v :: v :: r, σ)
    | _ => False
  | .dup2 => match st with
    | v :: w :: r => o = .inl (pc + len, ls, v :: w :: v :: w :: r, σ)
    | _ => False
  | .ifCond c _ => x1 st fun x r => o = .inl (xif (xc c x 0) a (pc + len), ls, r, σ)
  | .if_icmp c _ => x2 st fun x y r => o = .inl (xif (xc c x y) a (pc + len), ls, r, σ)
  | .ifnull _ => xq st fun q r => o = .inl (xif (q = none) a (pc + len), ls, r, σ)
  | .ifnonnull _ => xq st fun q r => o = .inl (xif (¬ q = none) a (pc + len), ls, r, σ)
  | .goto _ => o = .inl (a, ls, st, σ)
  | .tableswitch d lo hi offs => x1 st fun x r => ∃ t : Nat, (((x.toInt < lo ∨ hi < x.toInt) ∧ (pc : Int) + d = (t : Int)) ∨ (¬ x.toInt < lo ∧ ¬ hi < x.toInt ∧ ∃ off : Int, offs[(x.toInt - lo).toNat]? = some off ∧ (pc : Int) + off = (t : Int))) ∧ o = .inl (t, ls, r, σ)
  | .getfield _ => xr st fun q r => ∃ (fs : List xV) (v : xV), σ.1 q = some (.inr (.inr (a, fs))) ∧ fs[b]? = some v ∧ o = .inl (pc + len, ls, v :: r, σ)
  | .putfield _ => match st with
    | v :: .inr (some q) :: r => ∃ fs : List xV, σ.1 q = some (.inr (.inr (a, fs))) ∧ b < fs.length ∧ xfit a b v ∧ o = .inl (pc + len, ls, r, xup σ q (.inr (.inr (a, fs.set b v))))
    | _ => False
  | .getstatic _ => o = .inl (pc + len, ls, .inr (some 1) :: st, σ)
  | .iaload => match st with
    | .inl x :: .inr (some q) :: r => ∃ (n : Nat) (f : Nat → Int32) (j : Nat), σ.1 q = some (.inl (0, n, f)) ∧ x = nI j ∧ j < n ∧ j < 2147483648 ∧ o = .inl (pc + len, ls, .inl (f j) :: r, σ)
    | _ => False
  | .baload => match st with
    | .inl x :: .inr (some q) :: r => ∃ (n : Nat) (f : Nat → Int32) (j : Nat), σ.1 q = some (.inl (a, n, f)) ∧ x = nI j ∧ j < n ∧ j < 2147483648 ∧ o = .inl (pc + len, ls, .inl (f j) :: r, σ)
    | _ => False
  | .iastore => match st with
    | .inl v :: .inl x :: .inr (some q) :: r => ∃ (n : Nat) (f : Nat → Int32) (j : Nat), σ.1 q = some (.inl (0, n, f)) ∧ x = nI j ∧ j < n ∧ j < 2147483648 ∧ 2 ≤ q ∧ o = .inl (pc + len, ls, r, xup σ q (.inl (0, n, upd f j v)))
    | _ => False
  | .bastore => match st with
    | .inl v :: .inl x :: .inr (some q) :: r => ∃ (n : Nat) (f : Nat → Int32) (j : Nat), σ.1 q = some (.inl (a, n, f)) ∧ x = nI j ∧ j < n ∧ j < 2147483648 ∧ o = .inl (pc + len, ls, r, xup σ q (.inl (a, n, upd f j (xnar a v))))
    | _ => False
  | .aaload => match st with
    | .inl x :: .inr (some q) :: r => ∃ (t n : Nat) (g : Nat → Option Nat) (j : Nat), σ.1 q = some (.inr (.inl (t, n, g))) ∧ x = nI j ∧ j < n ∧ j < 2147483648 ∧ o = .inl (pc + len, ls, .inr (g j) :: r, σ)
    | _ => False
  | .aastore => match st with
    | .inr v :: .inl x :: .inr (some q) :: r => ∃ (n : Nat) (g : Nat → Option Nat) (j : Nat), σ.1 q = some (.inr (.inl (a, n, g))) ∧ x = nI j ∧ j < n ∧ j < 2147483648 ∧ (v = none ∨ ∃ (k : Nat) (fs : List xV), v = some k ∧ σ.1 k = some (.inr (.inr (xqc a, fs)))) ∧ o = .inl (pc + len, ls, r, xup σ q (.inr (.inl (a, n, va_up g j v))))
    | _ => False
  | .arraylength => xr st fun q r => ∃ n : Nat, xlen (σ.1 q) = some n ∧ o = .inl (pc + len, ls, .inl (nI n) :: r, σ)
  | .new _ => o = .inl (pc + len, ls, .inr (some σ.2.1) :: st, xnew σ (.inr (.inr (a, xdf a))) b)
  | .newarray _ => x1 st fun x r => ∃ n : Nat, x = nI n ∧ n ≤ 20000 ∧ o = .inl (pc + len, ls, .inr (some σ.2.1) :: r, xnew σ (.inl (a, n, fun _ => 0)) n)
  | .anewarray _ => x1 st fun x r => ∃ n : Nat, x = nI n ∧ n ≤ 20000 ∧ o = .inl (pc + len, ls, .inr (some σ.2.1) :: r, xnew σ (.inr (.inl (a, n, fun _ => none))) n)
  | .multianewarray _ _ => x2 st fun x y r => ∃ n k : Nat, x = nI n ∧ y = nI k ∧ n ≤ 20000 ∧ k ≤ 20000 ∧ o = .inl (pc + len, ls, .inr (some σ.2.1) :: r, xgrid σ n k)
  | .checkcast _ => xr st fun q r => ∃ (n : Nat) (f : Nat → Int32), σ.1 q = some (.inl (0, n, f)) ∧ 2 ≤ q ∧ o = .inl (pc + len, ls, .inr (some q) :: r, σ)
  | .invokestatic _ | .invokevirtual _ | .invokespecial _ => xcall E a b (pc + len) ls st σ o
  | .ireturn => match st with
    | [.inl x] => (a = 1 → x = 0 ∨ x = 1) ∧ o = .inr (some (.inl x), σ)
    | _ => False
  | .areturn => match st with
    | [.inr q] => o = .inr (some (.inr q), σ)
    | _ => False
  | .return_ => match st with
    | [] => o = .inr (none, σ)
    | _ => False
  | _ => False
def xstep (tb : List xI) (s : xT) (o : xO) : Prop := ∃ (ls0 : xL) (x : xI), xle ls0 s.2.1 ∧ x ∈ tb ∧ x.1 = s.1 ∧ xst E x.2.1 x.2.2.1 x.2.2.2.1 x.2.2.2.2.1 s.1 ls0 s.2.2.1 s.2.2.2 o
def xpost (P : xT → Prop) (K : Option xV → xS → Prop) (o : xO) : Prop := match o with
  | .inl s => P s
  | .inr z => K z.1 z.2
def xGo (tb : List xI) (K : Option xV → xS → Prop) (s : xT) : Prop := ∀ P : xT → Prop, (∀ (s : xT) (o : xO), xstep E tb s o → xpost P K o → P s) → P s
end XSTEP
section XGO
variable {E : Nat → List xV → xS → Option xV → xS → Prop} {tb : List xI} {K : Option xV → xS → Prop}
theorem xGo_step {s : xT} {o : xO} (h1 : xstep E tb s o) (h2 : xpost (xGo E tb K) K o) : xGo E tb K s := by
  intro P hP
  refine hP s o h1 ?_
  cases o with
  | inl s' => exact h2 P hP
  | inr z => exact h2
theorem xGo_ex {s : xT} (h : xGo E tb K s) : ∃ (r : Option xV) (σ' : xS), xGo E tb (fun r0 σ0 => r0 = r ∧ σ0 = σ') s ∧ K r σ' := by
  refine h (fun s => ∃ (r : Option xV) (σ' : xS), xGo E tb (fun r0 σ0 => r0 = r ∧ σ0 = σ') s ∧ K r σ') ?_
  intro s o hs hp
  cases o with
  | inl s' =>
    obtain ⟨r, σ', g, k⟩ := hp
    exact ⟨r, σ', xGo_step hs g, k⟩
  | inr z => exact ⟨z.1, z.2, xGo_step hs ⟨rfl, rfl⟩, hp⟩
theorem xGo_conseq {K' : Option xV → xS → Prop} (hK : ∀ r σ, K r σ → K' r σ) {s : xT} (h : xGo E tb K s) : xGo E tb K' s := by
  refine h (fun s => xGo E tb K' s) ?_
  intro s o hs hp
  refine xGo_step hs ?_
  cases o with
  | inl s' => exact hp
  | inr z => exact hK _ _ hp
theorem xle_refl (ls : xL) : xle ls ls := ⟨rfl, fun _ _ h => h⟩
theorem xle_trans {a b c : xL} (h1 : xle a b) (h2 : xle b c) : xle a c := ⟨h1.1.trans h2.1, fun k v h => h2.2 k v (h1.2 k v h)⟩
theorem xGo_weak {pc : Nat} {ls0 ls : xL} {st : List xV} {σ : xS} (h : xGo E tb K (pc, ls0, st, σ)) (hle : xle ls0 ls) : xGo E tb K (pc, ls, st, σ) := by
  refine h (fun s => ∀ ls, xle s.2.1 ls → xGo E tb K (s.1, ls, s.2.2)) ?_ ls hle
  intro s o hs hp ls hle
  obtain ⟨l0, x, h1, h2, h3, h4⟩ := hs
  refine xGo_step (o := o) ⟨l0, x, xle_trans h1 hle, h2, h3, h4⟩ ?_
  cases o with
  | inl s' => exact hp s'.2.1 (xle_refl _)
  | inr z => exact hp
variable {pc len a b w : Nat} {ls : xL} {st : List xV} {σ : xS} {i : Instr}
/-- a step: k is the row's place in the table -/
theorem gs (k : Nat) (hk : tb[k]? = some (pc, i, len, a, b, w)) {s' : xT} (h : xst E i len a b pc ls st σ (.inl s')) (g : xGo E tb K s') : xGo E tb K (pc, ls, st, σ) :=
  xGo_step (o := .inl s') ⟨ls, _, xle_refl ls, List.mem_of_getElem? hk, rfl, h⟩ g
theorem gend (k : Nat) (hk : tb[k]? = some (pc, i, len, a, b, w)) {r : Option xV} {σ' : xS} (h : xst E i len a b pc ls st σ (.inr (r, σ'))) (g : K r σ') : xGo E tb K (pc, ls, st, σ) :=
  xGo_step (o := .inr (r, σ')) ⟨ls, _, xle_refl ls, List.mem_of_getElem? hk, rfl, h⟩ g
theorem xif_t {P : Prop} {a b : Nat} (h : P) : xif P a b = a := if_pos h
theorem xif_f {P : Prop} {a b : Nat} (h : ¬ P) : xif P a b = b := if_neg h
theorem gif (k : Nat) {c : ClassFile.Cond} {off : Int} {x : Int32} (hk : tb[k]? = some (pc, .ifCond c off, len, a, b, w)) (ht : xc c x 0 → xGo E tb K (a, ls, st, σ)) (hf : ¬ xc c x 0 → xGo E tb K (pc + len, ls, st, σ)) : xGo E tb K (pc, ls, .inl x :: st, σ) := by
  refine gs k hk (s' := (xif (xc c x 0) a (pc + len), ls, st, σ)) rfl ?_
  by_cases h : xc c x 0
  · rw [xif_t h]; exact ht h
  · rw [xif_f h]; exact hf h
theorem gcmp (k : Nat) {c : ClassFile.Cond} {off : Int} {x y : Int32} (hk : tb[k]? = some (pc, .if_icmp c off, len, a, b, w)) (ht : xc c x y → xGo E tb K (a, ls, st, σ)) (hf : ¬ xc c x y → xGo E tb K (pc + len, ls, st, σ)) : xGo E tb K (pc, ls, .inl y :: .inl x :: st, σ) := by
  refine gs k hk (s' := (xif (xc c x y) a (pc + len), ls, st, σ)) rfl ?_
  by_cases h : xc c x y
  · rw [xif_t h]; exact ht h
  · rw [xif_f h]; exact hf h
theorem gnull (k : Nat) {off : Int} {q : Option Nat} (hk : tb[k]? = some (pc, .ifnull off, len, a, b, w)) (ht : q = none → xGo E tb K (a, ls, st, σ)) (hf : ∀ z, q = some z → xGo E tb K (pc + len, ls, st, σ)) : xGo E tb K (pc, ls, .inr q :: st, σ) := by
  refine gs k hk (s' := (xif (q = none) a (pc + len), ls, st, σ)) rfl ?_
  cases q with
  | none => rw [xif_t rfl]; exact ht rfl
  | some z => rw [xif_f (by simp)]; exact hf z rfl
theorem gnonn (k : Nat) {off : Int} {q : Option Nat} (hk : tb[k]? = some (pc, .ifnonnull off, len, a, b, w)) (ht : ∀ z, q = some z → xGo E tb K (a, ls, st, σ)) (hf : q = none → xGo E tb K (pc + len, ls, st, σ)) : xGo E tb K (pc, ls, .inr q :: st, σ) := by
  refine gs k hk (s' := (xif (¬ q = none) a (pc + len), ls, st, σ)) rfl ?_
  cases q with
  | none => rw [xif_f (by simp)]; exact hf rfl
  | some z => rw [xif_t (by simp)]; exact ht z rfl
end XGO
