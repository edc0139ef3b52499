/-! A GRID: an array of n arrays of k ints, made by one instruction -/
/-- the outer cell when i rows hang in it -/
def yO (cA : ClassId) (N h i : Nat) : Cell := arrV cA N (fun j => if j < i then .ref (h + 1 + j) else .null)
def yI (cI : ClassId) (M : Nat) : Cell := arrV cI M (fun _ => .int 0)
def yF (s : State) (cA cI : ClassId) (N M : Nat) : Nat → State
  | 0 => s.pushCell (yO cA N s.heap.size 0)
  | i + 1 => ((yF s cA cI N M i).pushCell (yI cI M)).setCell s.heap.size (yO cA N s.heap.size (i + 1))
theorem yO_set (cA : ClassId) (N h i : Nat) : (yO cA N h i).setSlot i (.ref (h + 1 + i)) = yO cA N h (i + 1) := by
  unfold yO
  rw [arrV_store]
  congr 1
  funext j
  unfold updV
  by_cases hj : j = i
  · subst hj
    rw [if_pos rfl, if_pos (by omega)]
  · rw [if_neg hj]
    show (if j < i then Value.ref (h + 1 + j) else Value.null) = _
    by_cases h1 : j < i
    · rw [if_pos h1, if_pos (by omega)]
    · rw [if_neg h1, if_neg (by omega)]
theorem yF_at (s : State) (cA cI : ClassId) (N M : Nat) : ∀ i, (yF s cA cI N M i).heap.size = s.heap.size + 1 + i ∧ (yF s cA cI N M i).heap[s.heap.size]? = some (yO cA N s.heap.size i) ∧ (yF s cA cI N M i).vm = s.vm ∧ (yF s cA cI N M i).slotsUsed = s.slotsUsed + N + i * M
  | 0 => ⟨by simp [yF], by simp [yF], rfl, by simp [yF, yO, arrV_size]⟩
  | i + 1 => by
    obtain ⟨a, b, d, u⟩ := yF_at s cA cI N M i
    have hlt : s.heap.size < (yF s cA cI N M i).heap.size := by omega
    have hb' : ((yF s cA cI N M i).pushCell (yI cI M)).heap[s.heap.size]? = some (yO cA N s.heap.size i) := by rw [State.heap_pushCell_of_lt (h := hlt)]; exact b
    refine ⟨?_, State.heap_setCell_self hb', by simp [yF, d], ?_⟩
    · simp [yF, State.setCell, a]; omega
    · simp [yF, u, yI, arrV_size, Nat.succ_mul]; omega
theorem yF_top (s : State) (f : JFrame) (cA cI : ClassId) (N M : Nat) : ∀ i, yF (s.setTop f) cA cI N M i = (yF s cA cI N M i).setTop f
  | 0 => rfl
  | i + 1 => by simp only [yF, yF_top s f cA cI N M i, State.heap_setTop, State.pushCell_setTop, State.setCell_setTop]
theorem yF_low (s : State) (cA cI : ClassId) (N M : Nat) {a : Addr} (ha : a < s.heap.size) : ∀ i, (yF s cA cI N M i).heap[a]? = s.heap[a]?
  | 0 => State.heap_pushCell_of_lt _ _ ha
  | i + 1 => by
    have f1 := (yF_at s cA cI N M i).1
    have hlt : a < (yF s cA cI N M i).heap.size := Nat.lt_of_lt_of_le ha (by rw [f1]; omega)
    show (((yF s cA cI N M i).pushCell (yI cI M)).setCell s.heap.size _).heap[a]? = _
    rw [State.heap_setCell_other (Nat.ne_of_gt ha), State.heap_pushCell_of_lt (h := hlt)]
    exact yF_low s cA cI N M ha i
theorem yF_row (s : State) (cA cI : ClassId) (N M : Nat) : ∀ i j, j < i → (yF s cA cI N M i).heap[s.heap.size + 1 + j]? = some (yI cI M)
  | 0, _, h => absurd h (Nat.not_lt_zero _)
  | i + 1, j, h => by
    have f1 := (yF_at s cA cI N M i).1
    show (((yF s cA cI N M i).pushCell (yI cI M)).setCell s.heap.size _).heap[s.heap.size + 1 + j]? = _
    rw [State.heap_setCell_other (show s.heap.size ≠ s.heap.size + 1 + j by omega)]
    rcases Nat.lt_or_ge j i with hj | hj
    · have hlt : s.heap.size + 1 + j < (yF s cA cI N M i).heap.size := by rw [f1]; omega
      rw [State.heap_pushCell_of_lt (h := hlt)]
      exact yF_row s cA cI N M i j hj
    · have e : j = i := by omega
      subst e
      rw [← f1]
      exact State.heap_pushCell_size _ _
theorem y_fitR {t : FieldType} (h : t.isReference = true) (v : Value) (hv : v = .null ∨ ∃ a, v = .ref a) : fits t v = true := by
  rcases hv with rfl | ⟨a, rfl⟩ <;> cases t <;> simp [FieldType.isReference] at h <;> rfl
section YWP
variable {E : CtlPost} {e : Env} {d : Bool} {acts : List Action} {s : State}
theorem y_newArray {c comp : ClassId} {k : Class} {type : FieldType} {len : Nat} {init : Value} (hk : s.vm.classes[c]? = some k) (hkind : k.kind = .array comp type)
    (hlimit : ¬ len > e.platform.arrayLengthLimit) (hheap : ¬ len * componentBytes type > e.platform.maxHeapBytes) (hfit : fits type init = true) (hdef : init.isDefault = true) {Q : Addr → Pre}
    (h1 : s.heap.size < e.platform.maxCells) (h2 : s.slotsUsed + len ≤ e.platform.maxSlots) (hq : Q s.heap.size d acts (s.pushCell (arrV c len (fun _ => init)))) : wp (Jvm.newArray c len init) Q E e d acts s := by
  have hfits : ∀ i v, (Array.replicate len init)[i]? = some v → s.fitsSlot c .none i v = true := by
    intro i v hv
    simp only [Array.getElem?_replicate] at hv
    split at hv
    · cases hv; simp [State.fitsSlot, State.slotType?, hk, hkind, hfit]
    · cases hv
  have hda : allocActs (Array.replicate len init) s.heap.size acts = acts := by
    have hall : ((Array.replicate len init).all (·.isDefault)) = true := by
      rw [Array.all_replicate]; split <;> simp [hdef]
    unfold allocActs; rw [if_pos hall]
  simp only [Jvm.newArray, Jvm.arrayFits, wp_bind', W.ask, W.ite, hlimit, if_false, wp_pure', W.theClass, hk, hkind, hheap, W.alloc, W.stop, Option.some.injEq, exists_eq_left', Array.size_replicate, hda]
  rw [if_neg (by omega)]
  refine ⟨h1, h2, hfits, ?_⟩
  rw [arrV_new]
  exact hq
theorem y_row {cI cc : ClassId} {kc : Class} {m : Int32} (hkc : s.vm.classes[cI]? = some kc) (hkindc : kc.kind = .array cc .int) (hm : ¬ m < 0)
    (hl2 : ¬ m.toNatClampNeg > e.platform.arrayLengthLimit) (hh2 : ¬ m.toNatClampNeg * componentBytes .int > e.platform.maxHeapBytes)
    (h1 : s.heap.size < e.platform.maxCells) (h2 : s.slotsUsed + m.toNatClampNeg ≤ e.platform.maxSlots) {Q : Addr → Pre} (hq : Q s.heap.size d acts (s.pushCell (yI cI m.toNatClampNeg))) : wp (multianewarray.make cI [m]) Q E e d acts s := by
  rw [multianewarray.make]
  simp only [wp_bind', W.ite, hm, if_false, wp_pure', W.theClass, hkc, hkindc, Option.some.injEq, exists_eq_left']
  exact y_newArray hkc hkindc hl2 hh2 rfl rfl h1 h2 hq
theorem y_grid {cA cI cc : ClassId} {k kc : Class} {n m : Int32} (hk : s.vm.classes[cA]? = some k) (hkind : k.kind = .array cI (.array .int)) (hkc : s.vm.classes[cI]? = some kc) (hkindc : kc.kind = .array cc .int) (hn : ¬ n < 0) (hm : ¬ m < 0)
    (hl1 : ¬ n.toNatClampNeg > e.platform.arrayLengthLimit) (hh1 : ¬ n.toNatClampNeg * componentBytes (.array .int) > e.platform.maxHeapBytes) (hl2 : ¬ m.toNatClampNeg > e.platform.arrayLengthLimit) (hh2 : ¬ m.toNatClampNeg * componentBytes .int > e.platform.maxHeapBytes)
    (hc : s.heap.size + 1 + n.toNatClampNeg ≤ e.platform.maxCells) (hs : s.slotsUsed + n.toNatClampNeg + n.toNatClampNeg * m.toNatClampNeg ≤ e.platform.maxSlots)
    {Q : Addr → Pre} (hq : ∀ d' acts', Q s.heap.size d' acts' (yF s cA cI n.toNatClampNeg m.toNatClampNeg n.toNatClampNeg)) : wp (multianewarray.make cA [n, m]) Q E e d acts s := by
  have hfind : ([m].find? (· < 0)) = none := by simp [hm]
  have hz : s.pushCell (arrV cA n.toNatClampNeg (fun _ => .null)) = yF s cA cI n.toNatClampNeg m.toNatClampNeg 0 := by
    show _ = s.pushCell (yO cA n.toNatClampNeg s.heap.size 0)
    unfold yO
    simp
  rw [multianewarray.make]
  simp only [wp_bind', W.ite, hn, if_false, wp_pure', W.theClass, hk, hkind, Option.some.injEq, exists_eq_left']
  refine y_newArray hk hkind hl1 hh1 rfl rfl (by omega) (by have := Nat.zero_le (n.toNatClampNeg * m.toNatClampNeg); omega) ?_
  rw [hz]
  simp only [hfind]
  rw [ite_self, wp_bind', Std.Legacy.Range.forIn_eq_forIn_range']
  have hsz : ([:n.toNatClampNeg] : Std.Legacy.Range).size = n.toNatClampNeg := by simp [Std.Legacy.Range.size]
  rw [hsz]
  show wp (forIn (List.range' 0 n.toNatClampNeg 1) PUnit.unit _) _ E e d acts _
  refine wp_forIn_inv (fun rest s' => ∃ i, i ≤ n.toNatClampNeg ∧ rest = List.range' i (n.toNatClampNeg - i) ∧ s' = yF s cA cI n.toNatClampNeg m.toNatClampNeg i) _ _ ⟨0, Nat.zero_le _, rfl, rfl⟩ ?_ ?_
  · rintro x rest s' d' acts' Q' ⟨i, hi, hl, rfl⟩ hnext
    have hlt : i < n.toNatClampNeg := by
      rcases Nat.lt_or_ge i n.toNatClampNeg with h | h
      · exact h
      · rw [show n.toNatClampNeg - i = 0 from by omega] at hl; simp at hl
    obtain ⟨rfl, hrest⟩ : x = i ∧ rest = List.range' (i + 1) (n.toNatClampNeg - (i + 1)) := by
      rw [show n.toNatClampNeg - i = (n.toNatClampNeg - (i + 1)) + 1 from by omega, List.range'_succ] at hl
      exact ⟨(List.cons.inj hl).1, (List.cons.inj hl).2⟩
    obtain ⟨f1, f2, f3, f4⟩ := yF_at s cA cI n.toNatClampNeg m.toNatClampNeg x
    have hmul : x * m.toNatClampNeg + m.toNatClampNeg ≤ n.toNatClampNeg * m.toNatClampNeg := by
      have := Nat.mul_le_mul_right m.toNatClampNeg (show x + 1 ≤ n.toNatClampNeg from hlt)
      rw [Nat.succ_mul] at this; exact this
    simp only [wp_bind']
    refine y_row (by rw [f3]; exact hkc) hkindc hm hl2 hh2 (by rw [f1]; omega) (by rw [f4]; omega) ?_
    have hlt0 : s.heap.size < (yF s cA cI n.toNatClampNeg m.toNatClampNeg x).heap.size := by rw [f1]; omega
    simp only [wp_bind', W.writeLoc, wp_pure']
    refine ⟨yO cA n.toNatClampNeg s.heap.size x, by rw [State.heap_pushCell_of_lt (h := hlt0)]; exact f2, (fun z => by cases z), by unfold yO; rw [arrV_size]; exact hlt, ?_, hnext _ _ _ ⟨x + 1, hlt, hrest, ?_⟩⟩
    · show State.fitsSlot _ cA .none _ _ = true
      simp [State.fitsSlot, State.slotType?, f3, hk, hkind, y_fitR (t := .array .int) rfl _ (Or.inr ⟨_, rfl⟩)]
    · rw [f1, yO_set]; rfl
  · rintro s' d' acts' ⟨i, hi, hl, rfl⟩
    have hiN : i = n.toNatClampNeg := by
      rcases Nat.lt_or_ge i n.toNatClampNeg with h | h
      · rw [show n.toNatClampNeg - i = (n.toNatClampNeg - (i + 1)) + 1 from by omega, List.range'_succ] at hl; cases hl
      · omega
    subst hiN
    simp only [wp_pure']
    exact hq _ _
end YWP
section YST
variable {G : xG} {p : Program} {l : Launch} {e : Env} {R : Room} {s : State} {m : MethodId} {args : Array Value} {below : List Frame} {meth : Method} {c : Code} {nL nx0 sl0 nxF slF : Nat} {Q : State → Prop}
variable {E : Nat → List xV → xS → Option xV → xS → Prop} {K : Option xV → xS → Prop} {cc : ByteArray} {pc a b : Nat} {ls : xL} {st : List xV} {σ : xS} {o : xO}
theorem y_filled {T : State} {locs : List Loc} {cells slots : Nat} (X : Stand p l e R s m args below meth c T locs cells slots) (cA cI : ClassId) (N M : Nat) :
    ∀ i, Stand p l e R s m args below meth c (yF T cA cI N M i) (locs ++ (List.range i).map fun j => ⟨T.heap.size, j⟩) (cells + 1 + i) (slots + N + i * M)
  | 0 => by
    have h := X.pushed (yO cA N T.heap.size 0)
    rw [show (yO cA N T.heap.size 0).slots.size = N from arrV_size _ _ _] at h
    simpa [yF] using h
  | i + 1 => by
    have Xi := y_filled X cA cI N M i
    obtain ⟨f1, f2, f3, f4⟩ := yF_at T cA cI N M i
    have hlt0 : T.heap.size < (yF T cA cI N M i).heap.size := by rw [f1]; omega
    have hcell : ((yF T cA cI N M i).pushCell (yI cI M)).heap[T.heap.size]? = some (yO cA N T.heap.size i) := by rw [State.heap_pushCell_of_lt (h := hlt0)]; exact f2
    have h := (Xi.pushed (yI cI M)).stored hcell i (.ref (T.heap.size + 1 + i))
    rw [show (yI cI M).slots.size = M from arrV_size _ _ _, yO_set] at h
    have e2 : (locs ++ (List.range (i + 1)).map fun j => (⟨T.heap.size, j⟩ : Loc)) = (locs ++ (List.range i).map fun j => (⟨T.heap.size, j⟩ : Loc)) ++ [⟨T.heap.size, i⟩] := by simp [List.range_succ, List.append_assoc]
    have e3 : slots + N + (i + 1) * M = slots + N + i * M + M := by rw [Nat.succ_mul]; omega
    rw [e2, e3]
    exact h
theorem y_step {T : State} {locs : List Loc} {cells slots : Nat} (X : Stand p l e R s m args below meth c T locs cells slots) (hexec : p.tables.exec = Jvm.exec) {own : String} {idx : Nat} (hown : s.vm.findClass own = some m.cls) (hclink : (Cond.classLink own idx "[[I").before args s = true)
    {cA cI ci : ClassId} {kA kC : Class} (hnameA : s.vm.findClass "[[I" = some cA) (hkA : s.vm.classes[cA]? = some kA) (hkindA : kA.kind = .array cI (.array .int)) (hkC : s.vm.classes[cI]? = some kC) (hkindC : kC.kind = .array ci .int)
    {g : JFrame} (hg : g.method = m) (hdg : decode c.code g.pc = .ok (.multianewarray idx 2, 4)) {n k : Nat} {rest : List Value} (hstack : g.stack = .int (nI k) :: .int (nI n) :: rest) (hn : n ≤ 20000) (hk : k ≤ 20000) (hcells : cells + (1 + n) ≤ R.cells) (hslots : slots + (n + n * k) ≤ R.slots) :
    ∃ vm₁ : Vm, s.WarmedH vm₁ ∧ Stand p l e R s m args below meth c (yF (T.setVm vm₁) cA cI n k n) (locs ++ (List.range n).map fun j => ⟨T.heap.size, j⟩) (cells + 1 + n) (slots + n + n * k) ∧
      ∀ target, Steps p.tables e below ((yF (T.setVm vm₁) cA cI n k n).setTop { g with pc := g.pc + 4, stack := .ref T.heap.size :: rest }) target → Steps p.tables e below (T.setTop g) target := by
  subst hg
  have cn := nI_clamp (n := n) (by omega)
  have ck := nI_clamp (n := k) (by omega)
  have hpl : e.platform.magicAccessors = ({} : Platform).magicAccessors := by rw [X.admits.platform]
  obtain ⟨c0, hfc0, hcl⟩ := Cond.classLink_spec hown hclink e.platform hpl
  obtain rfl : c0 = cA := Option.some.inj (hfc0.symm.trans hnameA)
  obtain ⟨hg₁, hwarm₁, hready₁⟩ := State.classEntry (e := e) X.warmed hcl
  generalize T.vm.noted g.method.cls idx (.cls c0) = vm₁ at hg₁ hwarm₁ hready₁
  have hal : s.vm.Alike vm₁ := hwarm₁.alike
  obtain ⟨kA₁, hkA₁, heA⟩ := hal.2.2 _ _ hkA
  obtain ⟨kC₁, hkC₁, heC⟩ := hal.2.2 _ _ hkC
  have hkindA₁ : kA₁.kind = .array cI (.array .int) := by rw [heA]; exact hkindA
  have hkindC₁ : kC₁.kind = .array ci .int := by rw [heC]; exact hkindC
  have X₁ := X.noted hwarm₁
  obtain ⟨hr1, hr2⟩ := X.roomAbove hcells hslots
  have XF := y_filled X₁ c0 cI n k n
  refine ⟨vm₁, hwarm₁, XF, fun target hrest => ?_⟩
  have hl1 : ¬ n > e.platform.arrayLengthLimit := by rw [Launch.admits_arrayLengthLimit X.admits]; omega
  have hh1 : ¬ n * componentBytes (.array .int) > e.platform.maxHeapBytes := by
    rw [Launch.admits_maxHeapBytes X.admits]; show ¬ n * 4 > 536870912; omega
  have hl2 : ¬ k > e.platform.arrayLengthLimit := by rw [Launch.admits_arrayLengthLimit X.admits]; omega
  have hh2 : ¬ k * componentBytes .int > e.platform.maxHeapBytes := by rw [Launch.admits_maxHeapBytes X.admits]; show ¬ k * 4 > 536870912; omega
  jvm_step X.here [hexec, hdg]
  simp only [multianewarray.sem, wp_bind', W.resolveClassAt_links (State.method?_setTop g X.here.top) hg₁]
  rw [W.popN, if_neg (by decide)]
  refine ⟨g, State.topJava?_setTop' (s := T.setVm vm₁) g X.here.top, [.int (nI n), .int (nI k)], rest, rfl, hstack, ?_⟩
  simp only [List.mapM_cons, List.mapM_nil, wp_bind', wp_pure']
  refine y_grid (k := kA₁) (kc := kC₁) (cI := cI) (cc := ci) hkA₁ hkindA₁ hkC₁ hkindC₁ (nI_pos (by omega)) (nI_pos (by omega)) (by rw [cn]; exact hl1) (by rw [cn]; exact hh1) (by rw [ck]; exact hl2) (by rw [ck]; exact hh2) (by rw [cn]; show T.heap.size + 1 + _ ≤ _; omega) (by rw [cn, ck]; show T.slotsUsed + _ + _ ≤ _; omega) (fun d' acts' => ?_)
  rw [cn, ck]
  have eS : ((T.setTop g).setVm vm₁).setTop { g with stack := rest } = (T.setVm vm₁).setTop { g with stack := rest } := by
    show ((T.setVm vm₁).setTop g).setTop _ = _
    rw [State.setTop_setTop]
  rw [eS, yF_top]
  simp only [wp_bind', W.mark, W.pushRef, State.topJava?_setTop' _ XF.here.top, Option.some.injEq, exists_eq_left', State.setTop_setTop, State.heap_setTop]
  intro acts
  simp [jvm, XF.here.top]
  exact hrest
theorem sn_multi {d : Nat} {own : String} (C : xCx G p l R s m args c cc nL d nx0 sl0 nxF slF own E) {idx : Nat} (hclink : (Cond.classLink own idx "[[I").before args s = true)
    (hd : decode cc pc = .ok (.multianewarray idx 2, 4)) (h : xst E (.multianewarray idx 2) 4 a b pc ls st σ o) (hp : xpost (xSem G p l e R s m args below meth c nL nx0 sl0 nxF slF Q) K o) : xSem G p l e R s m args below meth c nL nx0 sl0 nxF slF Q (pc, ls, st, σ) := by
  obtain ⟨hx, hb, hml, hown, hts, hK, hN, hf, hlo, hRc, hRs, hE⟩ := C
  obtain ⟨x, y, r, rfl, n, k, rfl, rfl, hn, hk, rfl⟩ := x2_inv h
  have hb1 : σ.2.1 + 1 + n ≤ nxF := hp.1.1
  have hb2 : σ.2.2 + n + n * k ≤ slF := hp.1.2
  refine ⟨⟨by show σ.2.1 ≤ nxF; omega, by show σ.2.2 ≤ slF; omega⟩, fun H locs L h1 h2 hR hl hL => ?_⟩
  have h1 : nx0 ≤ σ.2.1 := h1
  have h2 : sl0 ≤ σ.2.2 := h2
  have hR : xR G s σ H := hR
  have hnx := xR_nx hR
  have cn := nI_clamp (n := n) (by omega)
  have ck := nI_clamp (n := k) (by omega)
  obtain ⟨-, ⟨kA, comp, hkA, hkindA, hcomp⟩, hnameA⟩ := hK.2.2 2
  have hcI : s.vm.findClass "[I" = some (G.2.2.2.2.1 0) := (hK.2.1 0).2
  obtain rfl : comp = G.2.2.2.2.1 0 := Option.some.inj (hcomp.symm.trans hcI)
  obtain ⟨-, kC, hkC, ci, hkindC⟩ := (hK.2.1 0).1 0 (fun _ => .null)
  have hkC : s.vm.classes[G.2.2.2.2.1 0]? = some kC := hkC
  have hkindC : kC.kind = .array ci .int := hkindC
  have hkindA : kA.kind = .array (G.2.2.2.2.1 0) (.array .int) := hkindA
  intro T hT X
  have hcells : (σ.2.1 - nx0) + (1 + n) ≤ R.cells := by omega
  have hslots : (σ.2.2 - sl0) + (n + n * k) ≤ R.slots := by omega
  obtain ⟨vm₁, hwarm₁, XF, hstep⟩ := y_step X hx hown hclink hnameA hkA hkindA hkC hkindC (g := F0 m pc L (.int (nI k) :: .int (nI n) :: r.map (xv G))) rfl (by rw [hb]; exact hd) rfl hn hk hcells hslots
  obtain ⟨f1, f2, f3, f4⟩ := yF_at (T.setVm vm₁) (G.2.2.2.2.2 2) (G.2.2.2.2.1 0) n k n
  have hTs : (T.setVm vm₁).heap = H := hT
  rw [hTs] at f1 f2
  have g := fun (locs' : List Loc) (hl' : ∀ q ∈ locs', G.2.2.1 ≤ q.base) => hp.2 (yF (T.setVm vm₁) (G.2.2.2.2.2 2) (G.2.2.2.2.1 0) n k n).heap locs' L (by show nx0 ≤ σ.2.1 + 1 + n; omega) (by show sl0 ≤ σ.2.2 + n + n * k; omega) (by
    obtain ⟨z1, z2, z3, z4, z5, z6⟩ := hR
    refine ⟨by show 2 ≤ σ.2.1 + 1 + n; omega, by show _ = _ + (σ.2.1 + 1 + n - 2); omega, z3, z4, fun j en hj => ?_, z6.kept (fun q hq _ => by rw [← hTs] at hq ⊢; exact yF_low _ _ _ _ _ hq n)⟩
    show j < σ.2.1 + 1 + n ∧ _
    by_cases hj1 : j = σ.2.1
    · have hj' : (if j = σ.2.1 then some _ else _) = some en := hj
      rw [if_pos hj1] at hj'
      cases hj'
      subst hj1
      refine ⟨by omega, fun z => absurd z1 (by omega), fun _ => ?_⟩
      show _[xad G σ.2.1]? = some (arrV _ n _)
      rw [hnx, f2]
      unfold yO
      congr 1
      unfold arrV
      congr 1
      apply Array.ext
      · simp
      · intro q hq1 hq2
        have hq3 : q < n := by simpa using hq1
        simp only [Array.getElem_ofFn]
        rw [if_pos hq3]
        show Value.ref (H.size + 1 + q) = .ref (xad G (σ.2.1 + 1 + q))
        have e8 : H.size + 1 + q = xad G (σ.2.1 + 1 + q) := by
          rw [xad_2 (by omega), z2]; omega
        rw [e8]
    · have hj' : (if j = σ.2.1 then some _ else (if σ.2.1 < j ∧ j ≤ σ.2.1 + n then some _ else σ.1 j)) = some en := hj
      rw [if_neg hj1] at hj'
      by_cases hj2 : σ.2.1 < j ∧ j ≤ σ.2.1 + n
      · rw [if_pos hj2] at hj'
        cases hj'
        refine ⟨by omega, fun z => absurd z1 (by omega), fun _ => ?_⟩
        show _[xad G j]? = some (arrV _ k _)
        have e9 : xad G j = (T.setVm vm₁).heap.size + 1 + (j - σ.2.1 - 1) := by rw [hTs, ← hnx, xad_2 (by omega), xad_2 z1]; omega
        rw [e9, yF_row _ _ _ _ _ n (j - σ.2.1 - 1) (by omega)]
        rfl
      · rw [if_neg hj2] at hj'
        obtain ⟨g1, g2, g3⟩ := z5 j en hj'
        have hlo : xad G j < (T.setVm vm₁).heap.size := by
          rw [hTs, ← hnx, xad_2 z1]
          by_cases hj3 : j < 2
          · have := xad_lo z3 z4 hj3
            omega
          · rw [xad_2 (by omega)]; omega
        have hk9 := yF_low (T.setVm vm₁) (G.2.2.2.2.2 2) (G.2.2.2.2.1 0) n k hlo n
        rw [hTs] at hk9
        exact ⟨by omega, fun z => xro_kept (g2 z) hk9, fun z => xat_kept (g3 z) hk9⟩) hl' hL
  have e1 : σ.2.1 - nx0 + 1 + n = σ.2.1 + 1 + n - nx0 := by omega
  have e2 : σ.2.2 - sl0 + n + n * k = σ.2.2 + n + n * k - sl0 := by omega
  rw [e1, e2] at XF
  refine Exists.elim (g _ (fun q hq => ?_) _ rfl XF) (fun t ht => ⟨t, ?_, ht.2⟩)
  · rcases List.mem_append.mp hq with h | h
    · exact hl q h
    · obtain ⟨z, -, hz⟩ := List.mem_map.mp h
      rw [← hz]
      show G.2.2.1 ≤ (T.setVm vm₁).heap.size
      rw [hTs, ← hnx, xad_2 hR.1]; omega
  refine hstep t ?_
  have hrest := ht.1
  have e9 : xv G (.inr (some σ.2.1)) = .ref T.heap.size := by show Value.ref (xad G σ.2.1) = _; rw [hnx, hT]
  rw [show (Sum.inr (some σ.2.1) :: r : List xV).map (xv G) = .ref T.heap.size :: r.map (xv G) by rw [List.map_cons, e9]] at hrest
  exact hrest
end YST
