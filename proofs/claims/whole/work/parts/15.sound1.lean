/-- the words that last -/
def xW : List Cond := lw_tbl.filter goodWord
theorem xW_good {w : Cond} (h : w ∈ xW) : (w.onTables && w.keeps) = true ∨ ∃ ty, w = .arrayClass ty := good_of_word (List.mem_filter.mp h).2
theorem xW_at {w : Cond} (i : Nat) (h : lw_tbl[i]? = some w) (hg : goodWord w = true) : w ∈ xW := List.mem_filter.mpr ⟨List.mem_of_getElem? h, hg⟩
/-- the words across a nest, and of casts -/
def xN (U : State) : Prop := (∀ q ∈ xNm, va_Nw (.methodLinkNest (xno.getD q.1 "") q.2.1 (xmn q.2.2) "RenameMerge") U) ∧ (∀ q ∈ xNf, va_Nw (.fieldLinkNest (xno.getD q.1 "") q.2 xNLc xNLn xNLd "RenameMerge") U) ∧ va_Nw (.castable "[I" "java/lang/Cloneable") U ∧ va_AO "RenameMerge$TreeFile" U ∧ va_AO "RenameMerge$Tree" U
theorem xN_warm {s U : State} (hW : s.WarmedH U.vm) (h : xN s) : xN U := ⟨fun q hq => va_Nw.warmM hW (h.1 q hq), fun q hq => va_Nw.warmF hW (h.2.1 q hq), va_Nw.warmC hW h.2.2.1, va_AO.moved hW.alike h.2.2.2.1, va_AO.moved hW.alike h.2.2.2.2⟩
theorem xN_same {u U : State} (e : u.vm = U.vm) (h : xN u) : xN U := ⟨fun q hq => va_Nw.same rfl e (h.1 q hq), fun q hq => va_Nw.same rfl e (h.2.1 q hq), va_Nw.same rfl e h.2.2.1, va_AO.moved (by rw [e]; exact Vm.Alike.refl _) h.2.2.2.1, va_AO.moved (by rw [e]; exact Vm.Alike.refl _) h.2.2.2.2⟩
/-! HOW THE ABSTRACT HEAP LIES IN THE MACHINE'S: G is (the script's cell, the empty array's cell, the first cell of ours, the numbers of the kinds of objects and of their fields, of arrays of ints, of arrays of references). -/
abbrev xG : Type := Nat × Nat × Nat × va_G × (Nat → ClassId) × (Nat → ClassId)
def xad (G : xG) (k : Nat) : Nat := if k = 0 then G.1 else if k = 1 then G.2.1 else G.2.2.1 + (k - 2)
def xv (G : xG) (v : xV) : Value := match v with
  | .inl x => .int x
  | .inr none => .null
  | .inr (some k) => .ref (xad G k)
def xat (G : xG) (k : Nat) (e : xE) (H : Heap) : Prop := match e with
  | .inl (t, n, f) => H[xad G k]? = some (arrV (G.2.2.2.2.1 t) n (fun j => .int (f j)))
  | .inr (.inl (t, n, g)) => H[xad G k]? = some (arrV (G.2.2.2.2.2 t) n (fun j => xv G (.inr (g j))))
  | .inr (.inr (c, fs)) => ∃ r : vw_C, xcl[c]? = some r ∧ t_OB (xad G k) (G.2.2.2.1.1 c) r.2.2 (G.2.2.2.1.2 c) H (vp_V (fs.map (xv G)))
def xro (G : xG) (U : State) (k : Nat) (e : xE) (H : Heap) : Prop := match e with
  | .inl (t, n, f) => t = 0 ∧ va_T .int (xad G k) n (fun j => .int (f j)) (fun q => G.2.2.1 ≤ q) U H
  | _ => False
def xR (G : xG) (U : State) (σ : xS) (H : Heap) : Prop :=
  2 ≤ σ.2.1 ∧ H.size = G.2.2.1 + (σ.2.1 - 2) ∧ G.1 < G.2.2.1 ∧ G.2.1 < G.2.2.1 ∧ (∀ (k : Nat) (e : xE), σ.1 k = some e → k < σ.2.1 ∧ (k < 2 → xro G U k e H) ∧ (2 ≤ k → xat G k e H)) ∧ va_Z xNLc xNLn xNLd (.ref G.2.1) (fun q => G.2.2.1 ≤ q) U H
theorem xad_2 {G : xG} {k : Nat} (h : 2 ≤ k) : xad G k = G.2.2.1 + (k - 2) := by
  unfold xad
  rw [if_neg (by omega), if_neg (by omega)]
theorem xad_lo {G : xG} {k : Nat} (h0 : G.1 < G.2.2.1) (h1 : G.2.1 < G.2.2.1) (h : k < 2) : xad G k < G.2.2.1 := by
  unfold xad
  split
  · exact h0
  · rw [if_pos (by omega)]; exact h1
theorem xat_kept {G : xG} {k : Nat} {e : xE} {H H' : Heap} (h : xat G k e H) (hq : H'[xad G k]? = H[xad G k]?) : xat G k e H' := by
  match e, h with
  | .inl (t, n, f), h => exact hq.trans h
  | .inr (.inl (t, n, g)), h => exact hq.trans h
  | .inr (.inr (c, fs)), h =>
    obtain ⟨r, h1, h2⟩ := h
    exact ⟨r, h1, h2.kept hq⟩
theorem xro_kept {G : xG} {U : State} {k : Nat} {e : xE} {H H' : Heap} (h : xro G U k e H) (hq : H'[xad G k]? = H[xad G k]?) : xro G U k e H' := by
  match e, h with
  | .inl (t, n, f), h =>
    obtain ⟨h0, cell, h1, h2⟩ := h
    exact ⟨h0, cell, by rw [hq]; exact h1, h2⟩
theorem xro_moved {G : xG} {u U : State} (hvm : u.vm.Alike U.vm) {k : Nat} {e : xE} {H : Heap} (h : xro G u k e H) : xro G U k e H := by
  match e, h with
  | .inl (t, n, f), h => exact ⟨h.1, h.2.moved hvm⟩
theorem xR_moved {G : xG} {u U : State} (hvm : u.vm.Alike U.vm) {σ : xS} {H : Heap} (h : xR G u σ H) : xR G U σ H := by
  obtain ⟨h1, h2, h3, h4, h5, h6⟩ := h
  exact ⟨h1, h2, h3, h4, fun k e hk => ⟨(h5 k e hk).1, fun q => xro_moved hvm ((h5 k e hk).2.1 q), (h5 k e hk).2.2⟩, h6.moved hvm⟩
theorem xR_up {G : xG} {U : State} {σ : xS} {H H' : Heap} {q : Nat} {e0 e : xE} (h : xR G U σ H) (hq : 2 ≤ q) (h0 : σ.1 q = some e0) (hz : H'.size = H.size) (ho : ∀ a : Nat, a ≠ xad G q → H'[a]? = H[a]?) (he : xat G q e H') : xR G U (xup σ q e) H' := by
  obtain ⟨h1, h2, h3, h4, h5, h6⟩ := h
  have hqa := xad_2 (G := G) hq
  refine ⟨h1, hz.trans h2, h3, h4, fun k e' hk => ?_, h6.kept (fun a _ ha => ho a (fun z => ha (by rw [z, hqa]; omega)))⟩
  by_cases hkq : k = q
  · subst hkq
    have hk' : (if k = k then some e else σ.1 k) = some e' := hk
    rw [if_pos rfl] at hk'
    cases hk'
    exact ⟨(h5 k e0 h0).1, fun z => absurd hq (by omega), fun _ => he⟩
  · have hk' : (if k = q then some e else σ.1 k) = some e' := hk
    rw [if_neg hkq] at hk'
    obtain ⟨g1, g2, g3⟩ := h5 k e' hk'
    refine ⟨g1, fun z => xro_kept (g2 z) (ho _ ?_), fun z => xat_kept (g3 z) (ho _ ?_)⟩
    · have := xad_lo h3 h4 z
      rw [hqa]; omega
    · rw [hqa, xad_2 z]; omega
theorem xR_nx {G : xG} {U : State} {σ : xS} {H : Heap} (h : xR G U σ H) : xad G σ.2.1 = H.size := by
  rw [xad_2 h.1, h.2.1]
theorem xR_new {G : xG} {U : State} {σ : xS} {H H' : Heap} {e : xE} (n : Nat) (h : xR G U σ H) (hz : H'.size = H.size + 1) (ho : ∀ a : Nat, a < H.size → H'[a]? = H[a]?) (he : xat G σ.2.1 e H') : xR G U (xnew σ e n) H' := by
  have hx := xR_nx h
  obtain ⟨h1, h2, h3, h4, h5, h6⟩ := h
  refine ⟨by show 2 ≤ σ.2.1 + 1; omega, by show H'.size = _ + (σ.2.1 + 1 - 2); omega, h3, h4, fun k e' hk => ?_, h6.kept (fun a ha _ => ho a ha)⟩
  show k < σ.2.1 + 1 ∧ _
  by_cases hkq : k = σ.2.1
  · have hk' : (if k = σ.2.1 then some e else σ.1 k) = some e' := hk
    rw [if_pos hkq] at hk'
    cases hk'
    subst hkq
    exact ⟨by omega, fun z => absurd h1 (by omega), fun _ => he⟩
  · have hk' : (if k = σ.2.1 then some e else σ.1 k) = some e' := hk
    rw [if_neg hkq] at hk'
    obtain ⟨g1, g2, g3⟩ := h5 k e' hk'
    refine ⟨by omega, fun z => xro_kept (g2 z) (ho _ ?_), fun z => xat_kept (g3 z) (ho _ ?_)⟩
    · have := xad_lo h3 h4 z
      omega
    · rw [xad_2 z]; omega
/-- the variables of a frame -/
def xas (G : xG) (ls : xL) : List (Nat × Value) := (List.range ls.length).filterMap (fun k => match ls[k]? with
  | some (some v) => some (k, xv G v)
  | _ => none)
theorem xas_mem {G : xG} {ls : xL} {k : Nat} {w : Value} : (k, w) ∈ xas G ls ↔ ∃ v, ls[k]? = some (some v) ∧ w = xv G v := by
  unfold xas
  rw [List.mem_filterMap]
  constructor
  · rintro ⟨j, -, hj⟩
    split at hj
    · rename_i v hv
      cases hj
      exact ⟨v, hv, rfl⟩
    · cases hj
  · rintro ⟨v, hv, rfl⟩
    refine ⟨k, List.mem_range.mpr (List.getElem?_eq_some_iff.mp hv).1, ?_⟩
    rw [hv]
def xlv (G : xG) (L : Array Slot) (nL : Nat) (ls : xL) : Prop := ls.length = nL ∧ lv_has L nL (xas G ls)
theorem xv_cat (G : xG) (v : xV) : (xv G v).category = 1 := by
  match v with
  | .inl x => rfl
  | .inr none => rfl
  | .inr (some k) => rfl
theorem xlv_get {G : xG} {L : Array Slot} {nL : Nat} {ls : xL} (h : xlv G L nL ls) {k : Nat} {v : xV} (hv : ls[k]? = some (some v)) : L[k]? = some (.val (xv G v)) := h.2.2.2 (k, xv G v) (xas_mem.mpr ⟨v, hv, rfl⟩)
theorem xlv_le {G : xG} {L : Array Slot} {nL : Nat} {ls0 ls : xL} (h : xlv G L nL ls) (hle : xle ls0 ls) : xlv G L nL ls0 := by
  refine ⟨hle.1.trans h.1, h.2.1, h.2.2.1, fun q hq => ?_⟩
  obtain ⟨k, w⟩ := q
  obtain ⟨v, hv, rfl⟩ := xas_mem.mp hq
  exact xlv_get h (hle.2 k v hv)
theorem xlv_set {G : xG} {L : Array Slot} {nL : Nat} {ls : xL} {i : Nat} {v : xV} (hn : ls.length = nL) (h : lv_has L nL ((i, xv G v) :: (xas G ls).filter (fun q => !(q.1 == i) && !(q.1 + 1 == i && q.2.category == 2)))) : xlv G L nL (ls.set i (some v)) := by
  refine ⟨by rw [List.length_set]; exact hn, h.1, h.2.1, fun q hq => ?_⟩
  obtain ⟨k, w⟩ := q
  obtain ⟨u, hu, rfl⟩ := xas_mem.mp hq
  by_cases hk : i = k
  · subst hk
    rw [List.getElem?_set] at hu
    rw [if_pos rfl] at hu
    split at hu
    · cases hu
      exact h.2.2 _ List.mem_cons_self
    · cases hu
  · rw [List.getElem?_set_ne hk] at hu
    refine h.2.2 _ (List.mem_cons_of_mem _ (List.mem_filter.mpr ⟨xas_mem.mpr ⟨u, hu, rfl⟩, ?_⟩))
    simp [xv_cat, Ne.symm hk]
/-! THE INTERPRETER IS SOUND: what xGo says the machine does. First the instructions that need no tables. -/
def xSem (G : xG) (p : Program) (l : Launch) (e : Env) (R : Room) (s : State) (m : MethodId) (args : Array Value) (below : List Frame) (meth : Method) (c : Code) (nL nx0 sl0 nxF slF : Nat) (Q : State → Prop) (t : xT) : Prop :=
  (t.2.2.2.2.1 ≤ nxF ∧ t.2.2.2.2.2 ≤ slF) ∧ ∀ (H : Heap) (locs : List Loc) (L : Array Slot), nx0 ≤ t.2.2.2.2.1 → sl0 ≤ t.2.2.2.2.2 → xR G s t.2.2.2 H → (∀ q ∈ locs, G.2.2.1 ≤ q.base) → xlv G L nL t.2.1 →
    W p l e R s m args below meth c H locs (t.2.2.2.2.1 - nx0) (t.2.2.2.2.2 - sl0) Q (F0 m t.1 L (t.2.2.1.map (xv G)))
theorem x1_inv {st : List xV} {f : Int32 → List xV → Prop} (h : x1 st f) : ∃ x r, st = .inl x :: r ∧ f x r := by
  match st, h with
  | .inl x :: r, h => exact ⟨x, r, rfl, h⟩
theorem x2_inv {st : List xV} {f : Int32 → Int32 → List xV → Prop} (h : x2 st f) : ∃ x y r, st = .inl y :: .inl x :: r ∧ f x y r := by
  match st, h with
  | .inl y :: .inl x :: r, h => exact ⟨x, y, r, rfl, h⟩
theorem xq_inv {st : List xV} {f : Option Nat → List xV → Prop} (h : xq st f) : ∃ q r, st = .inr q :: r ∧ f q r := by
  match st, h with
  | .inr q :: r, h => exact ⟨q, r, rfl, h⟩
theorem xr_inv {st : List xV} {f : Nat → List xV → Prop} (h : xr st f) : ∃ a r, st = .inr (some a) :: r ∧ f a r := by
  match st, h with
  | .inr (some a) :: r, h => exact ⟨a, r, rfl, h⟩
theorem xldi_inv {ls : xL} {k : Nat} {f : Int32 → Prop} (h : xld ls k fun v => xint v f) : ∃ x, ls[k]? = some (some (.inl x)) ∧ f x := by
  unfold xld at h
  split at h
  · rename_i v hv
    match v, h with
    | .inl x, h => exact ⟨x, hv, h⟩
  · exact h.elim
theorem xldr_inv {ls : xL} {k : Nat} {f : Option Nat → Prop} (h : xld ls k fun v => xref v f) : ∃ q, ls[k]? = some (some (.inr q)) ∧ f q := by
  unfold xld at h
  split at h
  · rename_i v hv
    match v, h with
    | .inr q, h => exact ⟨q, hv, h⟩
  · exact h.elim
section XSND
variable {G : xG} {p : Program} {l : Launch} {e : Env} {R : Room} {s : State} {m : MethodId} {args : Array Value} {below : List Frame} {meth : Method} {c : Code} {nL nx0 sl0 nxF slF : Nat} {Q : State → Prop}
variable {E : Nat → List xV → xS → Option xV → xS → Prop} {K : Option xV → xS → Prop} {cc : ByteArray} {pc a b : Nat} {ls : xL} {st : List xV} {σ : xS} {o : xO}
theorem sn_iconst (hx : p.tables.exec = Jvm.exec) (hb : c.code = cc) {n : Int} (hd : decode cc pc = .ok (.iconst n, 1)) (hv : Int32.ofInt n = xk a b) (h : xst E (.iconst n) 1 a b pc ls st σ o) (hp : xpost (xSem G p l e R s m args below meth c nL nx0 sl0 nxF slF Q) K o) : xSem G p l e R s m args below meth c nL nx0 sl0 nxF slF Q (pc, ls, st, σ) := by
  have h : o = .inl (pc + 1, ls, .inl (xk a b) :: st, σ) := h
  subst h
  exact ⟨hp.1, fun H locs L h1 h2 hR hl hL => lv_iconst hx hb hd hv (hp.2 H locs L h1 h2 hR hl hL)⟩
theorem sn_bipush (hx : p.tables.exec = Jvm.exec) (hb : c.code = cc) {n : Int} (hd : decode cc pc = .ok (.bipush n, 2)) (hv : (Int8.ofInt n).toInt32 = xk a b) (h : xst E (.bipush n) 2 a b pc ls st σ o) (hp : xpost (xSem G p l e R s m args below meth c nL nx0 sl0 nxF slF Q) K o) : xSem G p l e R s m args below meth c nL nx0 sl0 nxF slF Q (pc, ls, st, σ) := by
  have h : o = .inl (pc + 2, ls, .inl (xk a b) :: st, σ) := h
  subst h
  exact ⟨hp.1, fun H locs L h1 h2 hR hl hL => lv_bipush hx hb hd hv (hp.2 H locs L h1 h2 hR hl hL)⟩
theorem sn_sipush (hx : p.tables.exec = Jvm.exec) (hb : c.code = cc) {n : Int} (hd : decode cc pc = .ok (.sipush n, 3)) (hv : (Int16.ofInt n).toInt32 = xk a b) (h : xst E (.sipush n) 3 a b pc ls st σ o) (hp : xpost (xSem G p l e R s m args below meth c nL nx0 sl0 nxF slF Q) K o) : xSem G p l e R s m args below meth c nL nx0 sl0 nxF slF Q (pc, ls, st, σ) := by
  have h : o = .inl (pc + 3, ls, .inl (xk a b) :: st, σ) := h
  subst h
  exact ⟨hp.1, fun H locs L h1 h2 hR hl hL => lv_sipush hx hb hd hv (hp.2 H locs L h1 h2 hR hl hL)⟩
theorem sn_null (hx : p.tables.exec = Jvm.exec) (hb : c.code = cc) (hd : decode cc pc = .ok (.aconst_null, 1)) (h : xst E .aconst_null 1 a b pc ls st σ o) (hp : xpost (xSem G p l e R s m args below meth c nL nx0 sl0 nxF slF Q) K o) : xSem G p l e R s m args below meth c nL nx0 sl0 nxF slF Q (pc, ls, st, σ) := by
  have h : o = .inl (pc + 1, ls, .inr none :: st, σ) := h
  subst h
  exact ⟨hp.1, fun H locs L h1 h2 hR hl hL => lv_null hx hb hd (hp.2 H locs L h1 h2 hR hl hL)⟩
theorem sn_iload_n (hx : p.tables.exec = Jvm.exec) (hb : c.code = cc) {k : Fin 4} (hd : decode cc pc = .ok (.iload_n k, 1)) (h : xst E (.iload_n k) 1 a b pc ls st σ o) (hp : xpost (xSem G p l e R s m args below meth c nL nx0 sl0 nxF slF Q) K o) : xSem G p l e R s m args below meth c nL nx0 sl0 nxF slF Q (pc, ls, st, σ) := by
  obtain ⟨x, hl0, h⟩ := xldi_inv (k := k.val) h
  subst h
  exact ⟨hp.1, fun H locs L h1 h2 hR hl hL => lv_iload_n hx hb hd rfl (xlv_get hL hl0) (hp.2 H locs L h1 h2 hR hl hL)⟩
theorem sn_iload (hx : p.tables.exec = Jvm.exec) (hb : c.code = cc) {k : Nat} (hd : decode cc pc = .ok (.iload k, 2)) (h : xst E (.iload k) 2 a b pc ls st σ o) (hp : xpost (xSem G p l e R s m args below meth c nL nx0 sl0 nxF slF Q) K o) : xSem G p l e R s m args below meth c nL nx0 sl0 nxF slF Q (pc, ls, st, σ) := by
  obtain ⟨x, hl0, h⟩ := xldi_inv h
  subst h
  exact ⟨hp.1, fun H locs L h1 h2 hR hl hL => lv_iload hx hb hd (xlv_get hL hl0) (hp.2 H locs L h1 h2 hR hl hL)⟩
theorem sn_aload_n (hx : p.tables.exec = Jvm.exec) (hb : c.code = cc) {k : Fin 4} (hd : decode cc pc = .ok (.aload_n k, 1)) (h : xst E (.aload_n k) 1 a b pc ls st σ o) (hp : xpost (xSem G p l e R s m args below meth c nL nx0 sl0 nxF slF Q) K o) : xSem G p l e R s m args below meth c nL nx0 sl0 nxF slF Q (pc, ls, st, σ) := by
  obtain ⟨q, hl0, h⟩ := xldr_inv (k := k.val) h
  subst h
  cases q with
  | none => exact ⟨hp.1, fun H locs L h1 h2 hR hl hL => lv_aload_nN hx hb hd rfl (xlv_get hL hl0) (hp.2 H locs L h1 h2 hR hl hL)⟩
  | some q => exact ⟨hp.1, fun H locs L h1 h2 hR hl hL => lv_aload_n hx hb hd rfl (xlv_get hL hl0) (hp.2 H locs L h1 h2 hR hl hL)⟩
theorem sn_aload (hx : p.tables.exec = Jvm.exec) (hb : c.code = cc) {k : Nat} (hd : decode cc pc = .ok (.aload k, 2)) (h : xst E (.aload k) 2 a b pc ls st σ o) (hp : xpost (xSem G p l e R s m args below meth c nL nx0 sl0 nxF slF Q) K o) : xSem G p l e R s m args below meth c nL nx0 sl0 nxF slF Q (pc, ls, st, σ) := by
  obtain ⟨q, hl0, h⟩ := xldr_inv h
  subst h
  cases q with
  | none => exact ⟨hp.1, fun H locs L h1 h2 hR hl hL => lv_aloadN hx hb hd (xlv_get hL hl0) (hp.2 H locs L h1 h2 hR hl hL)⟩
  | some q => exact ⟨hp.1, fun H locs L h1 h2 hR hl hL => lv_aload hx hb hd (xlv_get hL hl0) (hp.2 H locs L h1 h2 hR hl hL)⟩
theorem sn_istore_n (hx : p.tables.exec = Jvm.exec) (hb : c.code = cc) {k : Fin 4} (hd : decode cc pc = .ok (.istore_n k, 1)) (hk : k.val < nL) (h : xst E (.istore_n k) 1 a b pc ls st σ o) (hp : xpost (xSem G p l e R s m args below meth c nL nx0 sl0 nxF slF Q) K o) : xSem G p l e R s m args below meth c nL nx0 sl0 nxF slF Q (pc, ls, st, σ) := by
  obtain ⟨x, r, rfl, h⟩ := x1_inv h
  subst h
  exact ⟨hp.1, fun H locs L h1 h2 hR hl hL => lv_istore_n hx hb hd rfl hL.2 hk rfl (fun L' hL' => hp.2 H locs L' h1 h2 hR hl (xlv_set (v := .inl x) hL.1 hL'))⟩
theorem sn_istore (hx : p.tables.exec = Jvm.exec) (hb : c.code = cc) {k : Nat} (hd : decode cc pc = .ok (.istore k, 2)) (hk : k < nL) (h : xst E (.istore k) 2 a b pc ls st σ o) (hp : xpost (xSem G p l e R s m args below meth c nL nx0 sl0 nxF slF Q) K o) : xSem G p l e R s m args below meth c nL nx0 sl0 nxF slF Q (pc, ls, st, σ) := by
  obtain ⟨x, r, rfl, h⟩ := x1_inv h
  subst h
  exact ⟨hp.1, fun H locs L h1 h2 hR hl hL => lv_istore hx hb hd hL.2 hk rfl (fun L' hL' => hp.2 H locs L' h1 h2 hR hl (xlv_set (v := .inl x) hL.1 hL'))⟩
theorem sn_astore_n (hx : p.tables.exec = Jvm.exec) (hb : c.code = cc) {k : Fin 4} (hd : decode cc pc = .ok (.astore_n k, 1)) (hk : k.val < nL) (h : xst E (.astore_n k) 1 a b pc ls st σ o) (hp : xpost (xSem G p l e R s m args below meth c nL nx0 sl0 nxF slF Q) K o) : xSem G p l e R s m args below meth c nL nx0 sl0 nxF slF Q (pc, ls, st, σ) := by
  obtain ⟨q, r, rfl, h⟩ := xq_inv h
  subst h
  cases q with
  | none => exact ⟨hp.1, fun H locs L h1 h2 hR hl hL => lv_astore_nN hx hb hd rfl hL.2 hk rfl (fun L' hL' => hp.2 H locs L' h1 h2 hR hl (xlv_set (v := .inr none) hL.1 hL'))⟩
  | some q => exact ⟨hp.1, fun H locs L h1 h2 hR hl hL => lv_astore_n hx hb hd rfl hL.2 hk rfl (fun L' hL' => hp.2 H locs L' h1 h2 hR hl (xlv_set (v := .inr (some q)) hL.1 hL'))⟩
theorem sn_astore (hx : p.tables.exec = Jvm.exec) (hb : c.code = cc) {k : Nat} (hd : decode cc pc = .ok (.astore k, 2)) (hk : k < nL) (h : xst E (.astore k) 2 a b pc ls st σ o) (hp : xpost (xSem G p l e R s m args below meth c nL nx0 sl0 nxF slF Q) K o) : xSem G p l e R s m args below meth c nL nx0 sl0 nxF slF Q (pc, ls, st, σ) := by
  obtain ⟨q, r, rfl, h⟩ := xq_inv h
  subst h
  cases q with
  | none => exact ⟨hp.1, fun H locs L h1 h2 hR hl hL => lv_astoreN hx hb hd hL.2 hk rfl (fun L' hL' => hp.2 H locs L' h1 h2 hR hl (xlv_set (v := .inr none) hL.1 hL'))⟩
  | some q => exact ⟨hp.1, fun H locs L h1 h2 hR hl hL => lv_astore hx hb hd hL.2 hk rfl (fun L' hL' => hp.2 H locs L' h1 h2 hR hl (xlv_set (v := .inr (some q)) hL.1 hL'))⟩
theorem sn_iinc (hx : p.tables.exec = Jvm.exec) (hb : c.code = cc) {k : Nat} {n : Int} (hd : decode cc pc = .ok (.iinc k n, 3)) (hk : k < nL) (hv : Int32.ofInt n = xk a b) (h : xst E (.iinc k n) 3 a b pc ls st σ o) (hp : xpost (xSem G p l e R s m args below meth c nL nx0 sl0 nxF slF Q) K o) : xSem G p l e R s m args below meth c nL nx0 sl0 nxF slF Q (pc, ls, st, σ) := by
  obtain ⟨x, hl0, h⟩ := xldi_inv h
  subst h
  refine ⟨hp.1, fun H locs L h1 h2 hR hl hL => ?_⟩
  obtain ⟨j, hj⟩ := List.getElem?_of_mem (xas_mem.mpr ⟨.inl x, hl0, rfl⟩ : (k, xv G (.inl x)) ∈ xas G ls)
  exact lv_iinc hx hb hd hL.2 hj (by rw [hv]) hk rfl (fun L' hL' => hp.2 H locs L' h1 h2 hR hl (xlv_set (v := .inl (x + xk a b)) hL.1 hL'))
theorem sn_iadd (hx : p.tables.exec = Jvm.exec) (hb : c.code = cc) (hd : decode cc pc = .ok (.iadd, 1)) (h : xst E .iadd 1 a b pc ls st σ o) (hp : xpost (xSem G p l e R s m args below meth c nL nx0 sl0 nxF slF Q) K o) : xSem G p l e R s m args below meth c nL nx0 sl0 nxF slF Q (pc, ls, st, σ) := by
  obtain ⟨x, y, r, rfl, h⟩ := x2_inv h
  subst h
  exact ⟨hp.1, fun H locs L h1 h2 hR hl hL => lv_iadd hx hb hd (hp.2 H locs L h1 h2 hR hl hL)⟩
theorem sn_isub (hx : p.tables.exec = Jvm.exec) (hb : c.code = cc) (hd : decode cc pc = .ok (.isub, 1)) (h : xst E .isub 1 a b pc ls st σ o) (hp : xpost (xSem G p l e R s m args below meth c nL nx0 sl0 nxF slF Q) K o) : xSem G p l e R s m args below meth c nL nx0 sl0 nxF slF Q (pc, ls, st, σ) := by
  obtain ⟨x, y, r, rfl, h⟩ := x2_inv h
  subst h
  exact ⟨hp.1, fun H locs L h1 h2 hR hl hL => lv_isub hx hb hd (hp.2 H locs L h1 h2 hR hl hL)⟩
theorem sn_imul (hx : p.tables.exec = Jvm.exec) (hb : c.code = cc) (hd : decode cc pc = .ok (.imul, 1)) (h : xst E .imul 1 a b pc ls st σ o) (hp : xpost (xSem G p l e R s m args below meth c nL nx0 sl0 nxF slF Q) K o) : xSem G p l e R s m args below meth c nL nx0 sl0 nxF slF Q (pc, ls, st, σ) := by
  obtain ⟨x, y, r, rfl, h⟩ := x2_inv h
  subst h
  exact ⟨hp.1, fun H locs L h1 h2 hR hl hL => lv_imul hx hb hd (hp.2 H locs L h1 h2 hR hl hL)⟩
theorem sn_iand (hx : p.tables.exec = Jvm.exec) (hb : c.code = cc) (hd : decode cc pc = .ok (.iand, 1)) (h : xst E .iand 1 a b pc ls st σ o) (hp : xpost (xSem G p l e R s m args below meth c nL nx0 sl0 nxF slF Q) K o) : xSem G p l e R s m args below meth c nL nx0 sl0 nxF slF Q (pc, ls, st, σ) := by
  obtain ⟨x, y, r, rfl, h⟩ := x2_inv h
  subst h
  exact ⟨hp.1, fun H locs L h1 h2 hR hl hL => lv_iand hx hb hd (hp.2 H locs L h1 h2 hR hl hL)⟩
theorem sn_ior (hx : p.tables.exec = Jvm.exec) (hb : c.code = cc) (hd : decode cc pc = .ok (.ior, 1)) (h : xst E .ior 1 a b pc ls st σ o) (hp : xpost (xSem G p l e R s m args below meth c nL nx0 sl0 nxF slF Q) K o) : xSem G p l e R s m args below meth c nL nx0 sl0 nxF slF Q (pc, ls, st, σ) := by
  obtain ⟨x, y, r, rfl, h⟩ := x2_inv h
  subst h
  exact ⟨hp.1, fun H locs L h1 h2 hR hl hL => lv_ior hx hb hd (hp.2 H locs L h1 h2 hR hl hL)⟩
theorem sn_ishl (hx : p.tables.exec = Jvm.exec) (hb : c.code = cc) (hd : decode cc pc = .ok (.ishl, 1)) (h : xst E .ishl 1 a b pc ls st σ o) (hp : xpost (xSem G p l e R s m args below meth c nL nx0 sl0 nxF slF Q) K o) : xSem G p l e R s m args below meth c nL nx0 sl0 nxF slF Q (pc, ls, st, σ) := by
  obtain ⟨x, y, r, rfl, h⟩ := x2_inv h
  subst h
  exact ⟨hp.1, fun H locs L h1 h2 hR hl hL => lv_ishl hx hb hd (hp.2 H locs L h1 h2 hR hl hL)⟩
theorem sn_ishr (hx : p.tables.exec = Jvm.exec) (hb : c.code = cc) (hd : decode cc pc = .ok (.ishr, 1)) (h : xst E .ishr 1 a b pc ls st σ o) (hp : xpost (xSem G p l e R s m args below meth c nL nx0 sl0 nxF slF Q) K o) : xSem G p l e R s m args below meth c nL nx0 sl0 nxF slF Q (pc, ls, st, σ) := by
  obtain ⟨x, y, r, rfl, h⟩ := x2_inv h
  subst h
  exact ⟨hp.1, fun H locs L h1 h2 hR hl hL => lv_ishr hx hb hd (hp.2 H locs L h1 h2 hR hl hL)⟩
theorem sn_idiv (hx : p.tables.exec = Jvm.exec) (hb : c.code = cc) (hd : decode cc pc = .ok (.idiv, 1)) (h : xst E .idiv 1 a b pc ls st σ o) (hp : xpost (xSem G p l e R s m args below meth c nL nx0 sl0 nxF slF Q) K o) : xSem G p l e R s m args below meth c nL nx0 sl0 nxF slF Q (pc, ls, st, σ) := by
  obtain ⟨x, y, r, rfl, hne, h⟩ := x2_inv h
  subst h
  exact ⟨hp.1, fun H locs L h1 h2 hR hl hL => lv_idiv hx hb hd hne (hp.2 H locs L h1 h2 hR hl hL)⟩
theorem sn_irem (hx : p.tables.exec = Jvm.exec) (hb : c.code = cc) (hd : decode cc pc = .ok (.irem, 1)) (h : xst E .irem 1 a b pc ls st σ o) (hp : xpost (xSem G p l e R s m args below meth c nL nx0 sl0 nxF slF Q) K o) : xSem G p l e R s m args below meth c nL nx0 sl0 nxF slF Q (pc, ls, st, σ) := by
  obtain ⟨x, y, r, rfl, hne, h⟩ := x2_inv h
  subst h
  exact ⟨hp.1, fun H locs L h1 h2 hR hl hL => lv_irem hx hb hd hne (hp.2 H locs L h1 h2 hR hl hL)⟩
theorem sn_iushr (hx : p.tables.exec = Jvm.exec) (hb : c.code = cc) (hd : decode cc pc = .ok (.iushr, 1)) (h : xst E .iushr 1 a b pc ls st σ o) (hp : xpost (xSem G p l e R s m args below meth c nL nx0 sl0 nxF slF Q) K o) : xSem G p l e R s m args below meth c nL nx0 sl0 nxF slF Q (pc, ls, st, σ) := by
  obtain ⟨x, y, r, rfl, h⟩ := x2_inv h
  subst h
  exact ⟨hp.1, fun H locs L h1 h2 hR hl hL => lv_iushr hx hb hd rfl (hp.2 H locs L h1 h2 hR hl hL)⟩
theorem sn_i2b (hx : p.tables.exec = Jvm.exec) (hb : c.code = cc) (hd : decode cc pc = .ok (.i2b, 1)) (h : xst E .i2b 1 a b pc ls st σ o) (hp : xpost (xSem G p l e R s m args below meth c nL nx0 sl0 nxF slF Q) K o) : xSem G p l e R s m args below meth c nL nx0 sl0 nxF slF Q (pc, ls, st, σ) := by
  obtain ⟨x, r, rfl, h⟩ := x1_inv h
  subst h
  exact ⟨hp.1, fun H locs L h1 h2 hR hl hL => lv_i2b hx hb hd rfl (hp.2 H locs L h1 h2 hR hl hL)⟩
theorem sn_dup (hx : p.tables.exec = Jvm.exec) (hb : c.code = cc) (hd : decode cc pc = .ok (.dup, 1)) (h : xst E .dup 1 a b pc ls st σ o) (hp : xpost (xSem G p l e R s m args below meth c nL nx0 sl0 nxF slF Q) K o) : xSem G p l e R s m args below meth c nL nx0 sl0 nxF slF Q (pc, ls, st, σ) := by
  match st, h with
  | v :: r, h =>
    have h : o = .inl _ := h
    subst h
    exact ⟨hp.1, fun H locs L h1 h2 hR hl hL => lv_dup hx hb hd (xv_cat G _) (hp.2 H locs L h1 h2 hR hl hL)⟩
theorem sn_dup2 (hx : p.tables.exec = Jvm.exec) (hb : c.code = cc) (hd : decode cc pc = .ok (.dup2, 1)) (h : xst E .dup2 1 a b pc ls st σ o) (hp : xpost (xSem G p l e R s m args below meth c nL nx0 sl0 nxF slF Q) K o) : xSem G p l e R s m args below meth c nL nx0 sl0 nxF slF Q (pc, ls, st, σ) := by
  match st, h with
  | v :: w :: r, h =>
    have h : o = .inl _ := h
    subst h
    exact ⟨hp.1, fun H locs L h1 h2 hR hl hL => lv_dup2_11 hx hb hd (xv_cat G _) (xv_cat G _) (hp.2 H locs L h1 h2 hR hl hL)⟩
theorem sn_ifCond (hx : p.tables.exec = Jvm.exec) (hb : c.code = cc) {k : ClassFile.Cond} {off : Int} (hd : decode cc pc = .ok (.ifCond k off, 3)) (ht : (pc : Int) + off = (a : Int)) (h : xst E (.ifCond k off) 3 a b pc ls st σ o) (hp : xpost (xSem G p l e R s m args below meth c nL nx0 sl0 nxF slF Q) K o) : xSem G p l e R s m args below meth c nL nx0 sl0 nxF slF Q (pc, ls, st, σ) := by
  obtain ⟨x, r, rfl, h⟩ := x1_inv h
  subst h
  refine ⟨hp.1, fun H locs L h1 h2 hR hl hL => ?_⟩
  have g := hp.2 H locs L h1 h2 hR hl hL
  have g1 : xc k x 0 → _ := fun q => (show xif (xc k x 0) a (pc + 3) = a from xif_t q) ▸ g
  have g2 : ¬ xc k x 0 → _ := fun q => (show xif (xc k x 0) a (pc + 3) = pc + 3 from xif_f q) ▸ g
  clear g
  cases k with
  | eq => exact lv_if_eq hx hb hd ht g1 g2
  | ne => exact lv_if_ne hx hb hd ht g1 (fun q => g2 (fun z => z q))
  | lt => exact lv_if_lt hx hb hd ht g1 g2
  | ge => exact lv_if_ge hx hb hd ht g1 g2
  | gt => exact lv_if_gt hx hb hd ht g1 g2
  | le => exact lv_if_le hx hb hd ht g1 g2
theorem sn_if_icmp (hx : p.tables.exec = Jvm.exec) (hb : c.code = cc) {k : ClassFile.Cond} {off : Int} (hd : decode cc pc = .ok (.if_icmp k off, 3)) (ht : (pc : Int) + off = (a : Int)) (h : xst E (.if_icmp k off) 3 a b pc ls st σ o) (hp : xpost (xSem G p l e R s m args below meth c nL nx0 sl0 nxF slF Q) K o) : xSem G p l e R s m args below meth c nL nx0 sl0 nxF slF Q (pc, ls, st, σ) := by
  obtain ⟨x, y, r, rfl, h⟩ := x2_inv h
  subst h
  refine ⟨hp.1, fun H locs L h1 h2 hR hl hL => ?_⟩
  have g := hp.2 H locs L h1 h2 hR hl hL
  have g1 : xc k x y → _ := fun q => (show xif (xc k x y) a (pc + 3) = a from xif_t q) ▸ g
  have g2 : ¬ xc k x y → _ := fun q => (show xif (xc k x y) a (pc + 3) = pc + 3 from xif_f q) ▸ g
  clear g
  cases k with
  | eq => exact lv_icmp_eq hx hb hd ht g1 g2
  | ne => exact lv_icmp_ne hx hb hd ht g1 (fun q => g2 (fun z => z q))
  | lt => exact lv_icmp_lt hx hb hd ht g1 g2
  | ge => exact lv_icmp_ge hx hb hd ht g1 g2
  | gt => exact lv_icmp_gt hx hb hd ht g1 g2
  | le => exact lv_icmp_le hx hb hd ht g1 g2
theorem sn_goto (hx : p.tables.exec = Jvm.exec) (hb : c.code = cc) {off : Int} (hd : decode cc pc = .ok (.goto off, 3)) (ht : (pc : Int) + off = (a : Int)) (h : xst E (.goto off) 3 a b pc ls st σ o) (hp : xpost (xSem G p l e R s m args below meth c nL nx0 sl0 nxF slF Q) K o) : xSem G p l e R s m args below meth c nL nx0 sl0 nxF slF Q (pc, ls, st, σ) := by
  have h : o = .inl (a, ls, st, σ) := h
  subst h
  exact ⟨hp.1, fun H locs L h1 h2 hR hl hL => lv_goto hx hb hd ht (hp.2 H locs L h1 h2 hR hl hL)⟩
theorem sn_ifnull (hx : p.tables.exec = Jvm.exec) (hb : c.code = cc) {off : Int} (hd : decode cc pc = .ok (.ifnull off, 3)) (ht : (pc : Int) + off = (a : Int)) (h : xst E (.ifnull off) 3 a b pc ls st σ o) (hp : xpost (xSem G p l e R s m args below meth c nL nx0 sl0 nxF slF Q) K o) : xSem G p l e R s m args below meth c nL nx0 sl0 nxF slF Q (pc, ls, st, σ) := by
  obtain ⟨q, r, rfl, h⟩ := xq_inv h
  subst h
  refine ⟨hp.1, fun H locs L h1 h2 hR hl hL => ?_⟩
  have g := hp.2 H locs L h1 h2 hR hl hL
  cases q with
  | none => exact lv_ifnullN hx hb hd ht ((show xif ((none : Option Nat) = none) a (pc + 3) = a from xif_t rfl) ▸ g)
  | some q => exact lv_ifnull hx hb hd ((show xif ((some q : Option Nat) = none) a (pc + 3) = pc + 3 from xif_f (by simp)) ▸ g)
theorem sn_ifnonnull (hx : p.tables.exec = Jvm.exec) (hb : c.code = cc) {off : Int} (hd : decode cc pc = .ok (.ifnonnull off, 3)) (ht : (pc : Int) + off = (a : Int)) (h : xst E (.ifnonnull off) 3 a b pc ls st σ o) (hp : xpost (xSem G p l e R s m args below meth c nL nx0 sl0 nxF slF Q) K o) : xSem G p l e R s m args below meth c nL nx0 sl0 nxF slF Q (pc, ls, st, σ) := by
  obtain ⟨q, r, rfl, h⟩ := xq_inv h
  subst h
  refine ⟨hp.1, fun H locs L h1 h2 hR hl hL => ?_⟩
  have g := hp.2 H locs L h1 h2 hR hl hL
  cases q with
  | none => exact lv_ifnonnullN hx hb hd ((show xif (¬ (none : Option Nat) = none) a (pc + 3) = pc + 3 from xif_f (by simp)) ▸ g)
  | some q => exact lv_ifnonnull hx hb hd ht ((show xif (¬ (some q : Option Nat) = none) a (pc + 3) = a from xif_t (by simp)) ▸ g)
theorem sn_tableswitch (hx : p.tables.exec = Jvm.exec) (hb : c.code = cc) {d lo hi : Int} {offs : Array Int} {len : Nat} (hd : decode cc pc = .ok (.tableswitch d lo hi offs, len)) (h : xst E (.tableswitch d lo hi offs) len a b pc ls st σ o) (hp : xpost (xSem G p l e R s m args below meth c nL nx0 sl0 nxF slF Q) K o) : xSem G p l e R s m args below meth c nL nx0 sl0 nxF slF Q (pc, ls, st, σ) := by
  obtain ⟨x, r, rfl, t, ht, h⟩ := x1_inv h
  subst h
  refine ⟨hp.1, fun H locs L h1 h2 hR hl hL => ?_⟩
  have g := hp.2 H locs L h1 h2 hR hl hL
  rcases ht with ⟨h3, h4⟩ | ⟨h3, h4, off, h5, h6⟩
  · exact lv_tableOut hx hb hd h3 h4 g
  · exact lv_tableIn hx hb hd h3 h4 h5 h6 g
end XSND
