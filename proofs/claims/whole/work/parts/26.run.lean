/-! RUNNING A METHOD: the row is found by its pc -/
def xfd (tb : List xI) (pc : Nat) : Option xI := tb.find? (fun r => r.1 == pc)
/-- no branch, no call, no end -/
def xsm (i : Instr) : Bool := match i with
  | .ifCond _ _ | .if_icmp _ _ | .ifnull _ | .ifnonnull _ | .tableswitch _ _ _ _ | .invokestatic _ | .invokevirtual _ | .invokespecial _ | .ireturn | .areturn | .return_ => false
  | _ => true
section XRUN
variable {E : Nat → List xV → xS → Option xV → xS → Prop} {tb : List xI} {K : Option xV → xS → Prop} {pc len a b w : Nat} {ls : xL} {st : List xV} {σ : xS} {i : Instr}
theorem xfd_mem {x : xI} (h : xfd tb pc = some x) : x ∈ tb ∧ x.1 = pc := ⟨List.mem_of_find?_eq_some h, by simpa using List.find?_some h⟩
theorem g0 (hk : xfd tb pc = some (pc, i, len, a, b, w)) {o : xO} (h : xst E i len a b pc ls st σ o) (g : xpost (xGo E tb K) K o) : xGo E tb K (pc, ls, st, σ) :=
  xGo_step (o := o) ⟨ls, _, xle_refl ls, (xfd_mem hk).1, rfl, h⟩ g
theorem gp (hk : xfd tb pc = some (pc, i, len, a, b, w)) (_ : xsm i = true) {s' : xT} (h : xst E i len a b pc ls st σ (.inl s')) (g : xGo E tb K s') : xGo E tb K (pc, ls, st, σ) := g0 hk h g
theorem gif' {c : ClassFile.Cond} {off : Int} {x : Int32} (hk : xfd tb pc = some (pc, .ifCond c off, len, a, b, w)) (ht : xc c x 0 → xGo E tb K (a, ls, st, σ)) (hf : ¬ xc c x 0 → xGo E tb K (pc + len, ls, st, σ)) : xGo E tb K (pc, ls, .inl x :: st, σ) := by
  refine g0 hk (o := .inl (xif (xc c x 0) a (pc + len), ls, st, σ)) rfl ?_
  by_cases h : xc c x 0
  · rw [xif_t h]; exact ht h
  · rw [xif_f h]; exact hf h
theorem gcp {c : ClassFile.Cond} {off : Int} {x y : Int32} (hk : xfd tb pc = some (pc, .if_icmp c off, len, a, b, w)) (ht : xc c x y → xGo E tb K (a, ls, st, σ)) (hf : ¬ xc c x y → xGo E tb K (pc + len, ls, st, σ)) : xGo E tb K (pc, ls, .inl y :: .inl x :: st, σ) := by
  refine g0 hk (o := .inl (xif (xc c x y) a (pc + len), ls, st, σ)) rfl ?_
  by_cases h : xc c x y
  · rw [xif_t h]; exact ht h
  · rw [xif_f h]; exact hf h
theorem gnl {off : Int} {q : Option Nat} (hk : xfd tb pc = some (pc, .ifnull off, len, a, b, w)) (ht : q = none → xGo E tb K (a, ls, st, σ)) (hf : ∀ z, q = some z → xGo E tb K (pc + len, ls, st, σ)) : xGo E tb K (pc, ls, .inr q :: st, σ) := by
  refine g0 hk (o := .inl (xif (q = none) a (pc + len), ls, st, σ)) rfl ?_
  cases q with
  | none => rw [xif_t rfl]; exact ht rfl
  | some z => rw [xif_f (by simp)]; exact hf z rfl
theorem gnn {off : Int} {q : Option Nat} (hk : xfd tb pc = some (pc, .ifnonnull off, len, a, b, w)) (ht : ∀ z, q = some z → xGo E tb K (a, ls, st, σ)) (hf : q = none → xGo E tb K (pc + len, ls, st, σ)) : xGo E tb K (pc, ls, .inr q :: st, σ) := by
  refine g0 hk (o := .inl (xif (¬ q = none) a (pc + len), ls, st, σ)) rfl ?_
  cases q with
  | none => rw [xif_f (by simp)]; exact hf rfl
  | some z => rw [xif_t (by simp)]; exact ht z rfl
theorem gri {x : Int32} (hk : xfd tb pc = some (pc, .ireturn, len, a, b, w)) (h : a = 1 → x = 0 ∨ x = 1) (g : K (some (.inl x)) σ) : xGo E tb K (pc, ls, [.inl x], σ) := g0 hk (o := .inr (some (.inl x), σ)) ⟨h, rfl⟩ g
theorem gra {q : Option Nat} (hk : xfd tb pc = some (pc, .areturn, len, a, b, w)) (g : K (some (.inr q)) σ) : xGo E tb K (pc, ls, [.inr q], σ) := g0 hk (o := .inr (some (.inr q), σ)) rfl g
theorem grv (hk : xfd tb pc = some (pc, .return_, len, a, b, w)) (g : K none σ) : xGo E tb K (pc, ls, [], σ) := g0 hk (o := .inr (none, σ)) rfl g
theorem xlen_i {σ : xS} {q t n : Nat} {f : Nat → Int32} (h : σ.1 q = some (.inl (t, n, f))) : xlen (σ.1 q) = some n := by rw [h]; rfl
theorem xlen_q {σ : xS} {q t n : Nat} {g : Nat → Option Nat} (h : σ.1 q = some (.inr (.inl (t, n, g)))) : xlen (σ.1 q) = some n := by rw [h]; rfl
theorem ggf {idx q : Nat} {fs : List xV} {v : xV} (hk : xfd tb pc = some (pc, .getfield idx, len, a, b, w)) (h1 : σ.1 q = some (.inr (.inr (a, fs)))) (h2 : fs[b]? = some v) (g : xGo E tb K (pc + len, ls, v :: st, σ)) : xGo E tb K (pc, ls, .inr (some q) :: st, σ) := g0 hk (o := .inl _) ⟨fs, v, h1, h2, rfl⟩ g
theorem gpf {idx q : Nat} {fs : List xV} {v : xV} (hk : xfd tb pc = some (pc, .putfield idx, len, a, b, w)) (h1 : σ.1 q = some (.inr (.inr (a, fs)))) (h2 : b < fs.length) (h3 : xfit a b v) (g : xGo E tb K (pc + len, ls, st, xup σ q (.inr (.inr (a, fs.set b v))))) : xGo E tb K (pc, ls, v :: .inr (some q) :: st, σ) := g0 hk (o := .inl _) ⟨fs, h1, h2, h3, rfl⟩ g
theorem gil {q n j : Nat} {f : Nat → Int32} {x : Int32} (hk : xfd tb pc = some (pc, .iaload, len, a, b, w)) (h1 : σ.1 q = some (.inl (0, n, f))) (h2 : x = nI j) (h3 : j < n) (h4 : j < 2147483648) (g : xGo E tb K (pc + len, ls, .inl (f j) :: st, σ)) : xGo E tb K (pc, ls, .inl x :: .inr (some q) :: st, σ) := g0 hk (o := .inl _) ⟨n, f, j, h1, h2, h3, h4, rfl⟩ g
theorem gbl {q n j : Nat} {f : Nat → Int32} {x : Int32} (hk : xfd tb pc = some (pc, .baload, len, a, b, w)) (h1 : σ.1 q = some (.inl (a, n, f))) (h2 : x = nI j) (h3 : j < n) (h4 : j < 2147483648) (g : xGo E tb K (pc + len, ls, .inl (f j) :: st, σ)) : xGo E tb K (pc, ls, .inl x :: .inr (some q) :: st, σ) := g0 hk (o := .inl _) ⟨n, f, j, h1, h2, h3, h4, rfl⟩ g
theorem gis {q n j : Nat} {f : Nat → Int32} {x v : Int32} (hk : xfd tb pc = some (pc, .iastore, len, a, b, w)) (h1 : σ.1 q = some (.inl (0, n, f))) (h2 : x = nI j) (h3 : j < n) (h4 : j < 2147483648) (h5 : 2 ≤ q) (g : xGo E tb K (pc + len, ls, st, xup σ q (.inl (0, n, upd f j v)))) : xGo E tb K (pc, ls, .inl v :: .inl x :: .inr (some q) :: st, σ) := g0 hk (o := .inl _) ⟨n, f, j, h1, h2, h3, h4, h5, rfl⟩ g
theorem gbs {q n j : Nat} {f : Nat → Int32} {x v : Int32} (hk : xfd tb pc = some (pc, .bastore, len, a, b, w)) (h1 : σ.1 q = some (.inl (a, n, f))) (h2 : x = nI j) (h3 : j < n) (h4 : j < 2147483648) (g : xGo E tb K (pc + len, ls, st, xup σ q (.inl (a, n, upd f j (xnar a v))))) : xGo E tb K (pc, ls, .inl v :: .inl x :: .inr (some q) :: st, σ) := g0 hk (o := .inl _) ⟨n, f, j, h1, h2, h3, h4, rfl⟩ g
theorem gal {q t n j : Nat} {f : Nat → Option Nat} {x : Int32} (hk : xfd tb pc = some (pc, .aaload, len, a, b, w)) (h1 : σ.1 q = some (.inr (.inl (t, n, f)))) (h2 : x = nI j) (h3 : j < n) (h4 : j < 2147483648) (g : xGo E tb K (pc + len, ls, .inr (f j) :: st, σ)) : xGo E tb K (pc, ls, .inl x :: .inr (some q) :: st, σ) := g0 hk (o := .inl _) ⟨t, n, f, j, h1, h2, h3, h4, rfl⟩ g
theorem gas {q n j : Nat} {f : Nat → Option Nat} {x : Int32} {v : Option Nat} (hk : xfd tb pc = some (pc, .aastore, len, a, b, w)) (h1 : σ.1 q = some (.inr (.inl (a, n, f)))) (h2 : x = nI j) (h3 : j < n) (h4 : j < 2147483648) (h5 : v = none ∨ ∃ (k : Nat) (fs : List xV), v = some k ∧ σ.1 k = some (.inr (.inr (xqc a, fs)))) (g : xGo E tb K (pc + len, ls, st, xup σ q (.inr (.inl (a, n, va_up f j v))))) : xGo E tb K (pc, ls, .inr v :: .inl x :: .inr (some q) :: st, σ) := g0 hk (o := .inl _) ⟨n, f, j, h1, h2, h3, h4, h5, rfl⟩ g
theorem gln {q n : Nat} (hk : xfd tb pc = some (pc, .arraylength, len, a, b, w)) (h1 : xlen (σ.1 q) = some n) (g : xGo E tb K (pc + len, ls, .inl (nI n) :: st, σ)) : xGo E tb K (pc, ls, .inr (some q) :: st, σ) := g0 hk (o := .inl _) ⟨n, h1, rfl⟩ g
/-- calls: on an object; without one; of a constructor -/
theorem gcv {idx q : Nat} {As rest fs : List xV} {r : Option xV} {σ1 : xS} (hk : xfd tb pc = some (pc, .invokevirtual idx, len, a, b, w)) (hb : b = 2 ∨ b = 3) (he : E a (.inr (some q) :: As) σ r σ1) (hq : σ.1 q = some (.inr (.inr (xmc a, fs)))) (hst : st = As.reverse ++ .inr (some q) :: rest) (hn : xma a = As.length + 1) (hr : rest.length ≤ 8) (g : xGo E tb K (pc + len, ls, r.toList ++ rest, σ1)) : xGo E tb K (pc, ls, st, σ) := by
  have e1 : st.take (xma a) = As.reverse ++ [.inr (some q)] := by
    rw [hst, show As.reverse ++ .inr (some q) :: rest = (As.reverse ++ [.inr (some q)]) ++ rest by simp, List.take_left' (by simp [hn])]
  have e2 : st.drop (xma a) = rest := by
    rw [hst, show As.reverse ++ .inr (some q) :: rest = (As.reverse ++ [.inr (some q)]) ++ rest by simp, List.drop_left' (by simp [hn])]
  have e3 : (st.take (xma a)).reverse = .inr (some q) :: As := by rw [e1]; simp
  refine g0 hk (o := .inl (pc + len, ls, r.toList ++ rest, σ1)) ?_ g
  show xcall E a b (pc + len) ls st σ _
  unfold xcall
  rw [if_neg (by omega), if_neg (by omega), if_neg (by omega), if_neg (by omega), if_neg (by omega)]
  refine ⟨r, σ1, by rw [hst, hn]; simp <;> omega, by rw [e2]; exact hr, ?_, by rw [e3]; exact he, by rw [e2]⟩
  unfold xrcv
  rw [if_neg (by omega), if_pos (by omega), e3]
  exact ⟨q, As, fs, rfl, hq⟩
theorem gcs {idx : Nat} {As rest : List xV} {r : Option xV} {σ1 : xS} (hk : xfd tb pc = some (pc, .invokestatic idx, len, a, b, w)) (hb : b = 4 ∨ b = 5) (he : E a As σ r σ1) (hst : st = As.reverse ++ rest) (hn : xma a = As.length) (hr : rest.length ≤ 8) (g : xGo E tb K (pc + len, ls, r.toList ++ rest, σ1)) : xGo E tb K (pc, ls, st, σ) := by
  have e1 : (st.take (xma a)).reverse = As := by rw [hst, List.take_left' (by simp [hn])]; simp
  have e2 : st.drop (xma a) = rest := by rw [hst, List.drop_left' (by simp [hn])]
  refine g0 hk (o := .inl (pc + len, ls, r.toList ++ rest, σ1)) ?_ g
  show xcall E a b (pc + len) ls st σ _
  unfold xcall
  rw [if_neg (by omega), if_neg (by omega), if_neg (by omega), if_neg (by omega), if_neg (by omega)]
  refine ⟨r, σ1, by rw [hst, hn]; simp, by rw [e2]; exact hr, ?_, by rw [e1]; exact he, by rw [e2]⟩
  unfold xrcv
  rw [if_neg (by omega), if_neg (by omega)]
  trivial
theorem gci {idx q : Nat} {As rest : List xV} {r : Option xV} {σ1 : xS} (hk : xfd tb pc = some (pc, .invokespecial idx, len, a, b, w)) (hb : b = 0 ∨ b = 1) (he : E a (.inr (some q) :: As) σ r σ1) (hst : st = As.reverse ++ .inr (some q) :: rest) (hn : xma a = As.length + 1) (hr : rest.length ≤ 8) (g : xGo E tb K (pc + len, ls, r.toList ++ rest, σ1)) : xGo E tb K (pc, ls, st, σ) := by
  have e1 : st.take (xma a) = As.reverse ++ [.inr (some q)] := by
    rw [hst, show As.reverse ++ .inr (some q) :: rest = (As.reverse ++ [.inr (some q)]) ++ rest by simp, List.take_left' (by simp [hn])]
  have e2 : st.drop (xma a) = rest := by
    rw [hst, show As.reverse ++ .inr (some q) :: rest = (As.reverse ++ [.inr (some q)]) ++ rest by simp, List.drop_left' (by simp [hn])]
  have e3 : (st.take (xma a)).reverse = .inr (some q) :: As := by rw [e1]; simp
  refine g0 hk (o := .inl (pc + len, ls, r.toList ++ rest, σ1)) ?_ g
  show xcall E a b (pc + len) ls st σ _
  unfold xcall
  rw [if_neg (by omega), if_neg (by omega), if_neg (by omega), if_neg (by omega), if_neg (by omega)]
  refine ⟨r, σ1, by rw [hst, hn]; simp <;> omega, by rw [e2]; exact hr, ?_, by rw [e3]; exact he, by rw [e2]⟩
  unfold xrcv
  rw [if_pos (by omega), e3]
  exact ⟨q, As, rfl⟩
theorem gct {c : ClassFile.Cond} {off : Int} {x y : Int32} (hk : xfd tb pc = some (pc, .if_icmp c off, len, a, b, w)) (h : xc c x y) (g : xGo E tb K (a, ls, st, σ)) : xGo E tb K (pc, ls, .inl y :: .inl x :: st, σ) := gcp hk (fun _ => g) (fun q => absurd h q)
theorem gcf {c : ClassFile.Cond} {off : Int} {x y : Int32} (hk : xfd tb pc = some (pc, .if_icmp c off, len, a, b, w)) (h : ¬ xc c x y) (g : xGo E tb K (pc + len, ls, st, σ)) : xGo E tb K (pc, ls, .inl y :: .inl x :: st, σ) := gcp hk (fun q => absurd q h) (fun _ => g)
theorem git {c : ClassFile.Cond} {off : Int} {x : Int32} (hk : xfd tb pc = some (pc, .ifCond c off, len, a, b, w)) (h : xc c x 0) (g : xGo E tb K (a, ls, st, σ)) : xGo E tb K (pc, ls, .inl x :: st, σ) := gif' hk (fun _ => g) (fun q => absurd h q)
theorem giff {c : ClassFile.Cond} {off : Int} {x : Int32} (hk : xfd tb pc = some (pc, .ifCond c off, len, a, b, w)) (h : ¬ xc c x 0) (g : xGo E tb K (pc + len, ls, st, σ)) : xGo E tb K (pc, ls, .inl x :: st, σ) := gif' hk (fun q => absurd q h) (fun _ => g)
theorem gmx {idx : Nat} {x y : Int32} (hk : xfd tb pc = some (pc, .invokestatic idx, len, a, 9, w)) (hr : st.length ≤ 8) (g : xGo E tb K (pc + len, ls, .inl (if x < y then y else x) :: st, σ)) : xGo E tb K (pc, ls, .inl y :: .inl x :: st, σ) := g0 hk (o := .inl _) (show xcall E a 9 (pc + len) ls (.inl y :: .inl x :: st) σ _ from ⟨hr, rfl⟩) g
theorem gmn {idx : Nat} {x y : Int32} (hk : xfd tb pc = some (pc, .invokestatic idx, len, a, 10, w)) (hr : st.length ≤ 8) (g : xGo E tb K (pc + len, ls, .inl (if y < x then y else x) :: st, σ)) : xGo E tb K (pc, ls, .inl y :: .inl x :: st, σ) := g0 hk (o := .inl _) (show xcall E a 10 (pc + len) ls (.inl y :: .inl x :: st) σ _ from ⟨hr, rfl⟩) g
theorem gob {idx q : Nat} (hk : xfd tb pc = some (pc, .invokespecial idx, len, a, 6, w)) (hr : st.length ≤ 8) (g : xGo E tb K (pc + len, ls, st, σ)) : xGo E tb K (pc, ls, .inr (some q) :: st, σ) := g0 hk (o := .inl _) (show xcall E a 6 (pc + len) ls (.inr (some q) :: st) σ _ from ⟨hr, rfl⟩) g
theorem gna {at_ : ArrayType} {n : Nat} {x : Int32} (hk : xfd tb pc = some (pc, .newarray at_, len, a, b, w)) (h1 : x = nI n) (h2 : n ≤ 20000) (g : xGo E tb K (pc + len, ls, .inr (some σ.2.1) :: st, xnew σ (.inl (a, n, fun _ => 0)) n)) : xGo E tb K (pc, ls, .inl x :: st, σ) := g0 hk (o := .inl _) ⟨n, h1, h2, rfl⟩ g
theorem gnq {idx n : Nat} {x : Int32} (hk : xfd tb pc = some (pc, .anewarray idx, len, a, b, w)) (h1 : x = nI n) (h2 : n ≤ 20000) (g : xGo E tb K (pc + len, ls, .inr (some σ.2.1) :: st, xnew σ (.inr (.inl (a, n, fun _ => none))) n)) : xGo E tb K (pc, ls, .inl x :: st, σ) := g0 hk (o := .inl _) ⟨n, h1, h2, rfl⟩ g
end XRUN
theorem xup_eq (σ : xS) (k : Nat) (e : xE) : (xup σ k e).1 k = some e := if_pos rfl
theorem xup_ne {σ : xS} {k j : Nat} {e : xE} (h : j ≠ k) : (xup σ k e).1 j = σ.1 j := if_neg h
theorem xup_up (σ : xS) (k : Nat) (e e' : xE) : xup (xup σ k e) k e' = xup σ k e' := by
  unfold xup
  congr 1
  funext j
  by_cases h : j = k
  · simp [h]
  · simp [h]
theorem xup_same {σ : xS} {k : Nat} {e : xE} (h : σ.1 k = some e) : xup σ k e = σ := by
  unfold xup
  refine Prod.ext ?_ rfl
  funext j
  show (if j = k then some e else σ.1 j) = σ.1 j
  by_cases hj : j = k
  · rw [if_pos hj, hj, h]
  · rw [if_neg hj]
theorem xnew_eq (σ : xS) (e : xE) (n : Nat) : (xnew σ e n).1 σ.2.1 = some e := if_pos rfl
theorem xnew_ne {σ : xS} {j : Nat} {e : xE} {n : Nat} (h : j ≠ σ.2.1) : (xnew σ e n).1 j = σ.1 j := if_neg h
theorem ex_of {d y : Nat} {as : List xV} {σ : xS} {K : Option xV → xS → Prop} (hy : y < 143) (hl : as.length = xma y) (h : xGo (xEx d) (xtb y) K (0, as.map some ++ List.replicate (xml y - as.length) none, [], σ)) : ∃ (r : Option xV) (σ' : xS), xEx (d + 1) y as σ r σ' ∧ K r σ' := by
  obtain ⟨r, σ', h1, h2⟩ := xGo_ex h
  exact ⟨r, σ', ⟨hy, hl, h1⟩, h2⟩
theorem xst_mono {E E' : Nat → List xV → xS → Option xV → xS → Prop} (hE : ∀ y as σ r σ', E y as σ r σ' → E' y as σ r σ') {i : Instr} {len a b pc : Nat} {ls : xL} {st : List xV} {σ : xS} {o : xO} (h : xst E i len a b pc ls st σ o) : xst E' i len a b pc ls st σ o := by
  have hc : ∀ pc', xcall E a b pc' ls st σ o → xcall E' a b pc' ls st σ o := by
    intro pc' h
    unfold xcall at h ⊢
    by_cases h6 : b = 6
    · rw [if_pos h6] at h ⊢; exact h
    rw [if_neg h6] at h ⊢
    by_cases h7 : b = 7
    · rw [if_pos h7] at h ⊢; exact h
    rw [if_neg h7] at h ⊢
    by_cases h8 : b = 8
    · rw [if_pos h8] at h ⊢; exact h
    rw [if_neg h8] at h ⊢
    by_cases h9 : b = 9
    · rw [if_pos h9] at h ⊢; exact h
    rw [if_neg h9] at h ⊢
    by_cases h10 : b = 10
    · rw [if_pos h10] at h ⊢; exact h
    rw [if_neg h10] at h ⊢
    obtain ⟨r, σ1, g1, g2, g3, g4, g5⟩ := h
    exact ⟨r, σ1, g1, g2, g3, hE _ _ _ _ _ g4, g5⟩
  cases i
  case invokestatic => exact hc _ h
  case invokevirtual => exact hc _ h
  case invokespecial => exact hc _ h
  all_goals exact h
/-- deeper is as well -/
theorem xEx_deep : ∀ {d d' y : Nat} {as : List xV} {σ : xS} {r : Option xV} {σ' : xS}, d ≤ d' → xEx d y as σ r σ' → xEx d' y as σ r σ'
  | 0, _, _, _, _, _, _, _, h => h.elim
  | d + 1, 0, _, _, _, _, _, hd, _ => by omega
  | d + 1, d' + 1, y, as, σ, r, σ', hd, ⟨h1, h2, h3⟩ => by
    refine ⟨h1, h2, ?_⟩
    refine h3 (fun t => xGo (xEx d') (xtb y) (fun r0 σ0 => r0 = r ∧ σ0 = σ') t) ?_
    rintro s o ⟨ls0, x, g1, g2, g3, g4⟩ hp
    refine xGo_step (o := o) ⟨ls0, x, g1, g2, g3, xst_mono (fun y as σ r σ' h => xEx_deep (by omega) h) g4⟩ ?_
    cases o with
    | inl s' => exact hp
    | inr z => exact hp
