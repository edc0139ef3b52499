/-! ends and calls -/
/-- the room of a method that calls d deep -/
def xrm (d mc ms : Nat) : Room := { frames := d, cells := mc, slots := ms, locals := 40 * d }
/-- a method's words -/
def xws (y : Nat) : List Cond := Cond.code (xmn y) (xmb y) (xml y) (xmr y) :: xW
def xPc (G : xG) (as : List xV) (σ : xS) : Array Value → State → Prop := fun v U => v = (as.map (xv G)).toArray ∧ xR G U σ U.heap ∧ xK G U ∧ xN U
def xQc (G : xG) (r : Option xV) (σ' : xS) : Array Value → State → Outcome → State → Prop := fun _ _ oc t => oc = .returned (r.map (xv G)) ∧ xR G t σ' t.heap
/-- a contract, at one start and one end -/
def xCt (G : xG) (l : Launch) (d y : Nat) (as : List xV) (σ : xS) (r : Option xV) (σ' : xS) : Prop :=
  (σ.2.1 ≤ σ'.2.1 ∧ σ.2.2 ≤ σ'.2.2) ∧ Met l (xmn y) (xws y) (xrm d (σ'.2.1 - σ.2.1) (σ'.2.2 - σ.2.2)) (xPc G as σ) (xQc G r σ') (σ'.2.1 - σ.2.1) (σ'.2.2 - σ.2.2) (fun q => G.2.2.1 ≤ q)
theorem xPc_blind {G : xG} {as : List xV} {σ : xS} : FrameBlind (xPc G as σ) := by
  intro a U g mk q
  obtain ⟨h1, h2, h3, h4⟩ := q
  exact ⟨h1, xR_moved (u := U) (U := U.calling g mk a) (Vm.Alike.refl U.vm) h2, xK_moved (u := U) (U := U.calling g mk a) (Vm.Alike.refl U.vm) h3, xN_same (u := U) (U := U.calling g mk a) rfl h4⟩
section XSND
variable {G : xG} {p : Program} {l : Launch} {e : Env} {R : Room} {s : State} {m : MethodId} {args : Array Value} {below : List Frame} {meth : Method} {c : Code} {nL nx0 sl0 nxF slF : Nat} {Q : State → Prop}
variable {E : Nat → List xV → xS → Option xV → xS → Prop} {K : Option xV → xS → Prop} {cc : ByteArray} {pc a b : Nat} {ls : xL} {st : List xV} {σ : xS} {o : xO}
theorem x_went {H : Heap} {locs : List Loc} {cells slots mc ms : Nat} {L : Array Slot} {st0 rest : List Value} {r : Option xV} {σ1 : xS} {va : Array Value}
    (hr : va_Run p l e R s m args below meth c H locs cells slots mc ms (F0 m pc L st0) rest (xQc G r σ1 va) (fun q => G.2.2.1 ≤ q)) (hl : ∀ q ∈ locs, G.2.2.1 ≤ q.base)
    (kk : ∀ (H1 : Heap) (locs1 : List Loc), xR G s σ1 H1 → (∀ q ∈ locs1, G.2.2.1 ≤ q.base) → W p l e R s m args below meth c H1 locs1 (cells + mc) (slots + ms) Q (F0 m (pc + 3) L ((r.map (xv G)).toList ++ rest))) : W p l e R s m args below meth c H locs cells slots Q (F0 m pc L st0) := by
  intro T hT X
  obtain ⟨v, st₀, t, T', L', h0, X', hL, e1, e2, ⟨hv, hR⟩, stp⟩ := hr T hT X
  cases hv
  have hal : t.vm.Alike s.vm := by rw [← e2]; exact X'.warmed.alike.symm
  obtain ⟨t2, a1, b1⟩ := kk T'.heap (locs ++ L') (by rw [e1]; exact xR_moved hal hR) (fun q hq => by
    rcases List.mem_append.mp hq with h | h
    · exact hl q h
    · exact hL q h) T' rfl X'
  exact ⟨t2, stp t2 a1, b1⟩
/-- the rows of the tables that a call of y needs -/
def xgood (y : Nat) : Prop := Cond.code (xmn y) (xmb y) (xml y) (xmr y) ∈ xW ∧ Cond.initialized (xmn y).cls ∈ xW ∧ ((xmn y).cls ≠ "java/lang/invoke/MethodHandle" ∧ (xmn y).cls ≠ "java/lang/invoke/VarHandle") ∧ xml y ≤ 21
theorem x_pay (hts : ∀ w ∈ xW, w.before args s = true) {y : Nat} (hg : xgood y) : ∀ w ∈ xws y, ∀ (a' : Array Value) (U : State), s.WarmedH U.vm → w.before a' U = true := by
  have hin : ∀ w ∈ xws y, w ∈ xW := by
    intro w hw
    rcases List.mem_cons.mp hw with rfl | hw
    · exact hg.1
    · exact hw
  intro w hw a' U hW
  exact word_at hW (xW_good (hin w hw)) (hts w (hin w hw))
theorem x_room {d y mc ms : Nat} (hg : xgood y) (hf : R.frames = d + 1) (hlo : R.locals = 40 * (d + 1)) : (xrm d mc ms).frames + 1 ≤ R.frames ∧ 8 + (xml y + 11) + (xrm d mc ms).locals ≤ R.locals := by
  have := hg.2.2.2
  constructor
  · show d + 1 ≤ _; omega
  · show 8 + (xml y + 11) + 40 * d ≤ _; omega
theorem x_cats (G : xG) (st : List xV) : ((st.map (xv G)).map fun v => v.category).sum = st.length := by
  induction st with
  | nil => rfl
  | cons v st ih => simp only [List.map_cons, List.sum_cons, List.length_cons, ih, xv_cat]; omega
theorem x_take {st : List xV} {n : Nat} : st.map (xv G) = (((st.take n).reverse).map (xv G)).reverse ++ (st.drop n).map (xv G) := by
  rw [← List.map_reverse, List.reverse_reverse, ← List.map_append, List.take_append_drop]
end XSND
/-! calls, by their kind -/
section XSND
variable {G : xG} {p : Program} {l : Launch} {e : Env} {R : Room} {s : State} {m : MethodId} {args : Array Value} {below : List Frame} {meth : Method} {c : Code} {nL nx0 sl0 nxF slF : Nat} {Q : State → Prop}
variable {E : Nat → List xV → xS → Option xV → xS → Prop} {K : Option xV → xS → Prop} {cc : ByteArray} {pc a b : Nat} {ls : xL} {st : List xV} {σ : xS} {o : xO}
/-- what a caller stands on -/
def xCx (G : xG) (p : Program) (l : Launch) (R : Room) (s : State) (m : MethodId) (args : Array Value) (c : Code) (cc : ByteArray) (nL d nx0 sl0 nxF slF : Nat) (own : String) (E : Nat → List xV → xS → Option xV → xS → Prop) : Prop :=
  p.tables.exec = Jvm.exec ∧ c.code = cc ∧ c.maxLocals = nL ∧ s.vm.findClass own = some m.cls ∧ (∀ w ∈ xW, w.before args s = true) ∧ xK G s ∧ xN s ∧ R.frames = d + 1 ∧ R.locals = 40 * (d + 1) ∧ nxF - nx0 ≤ R.cells ∧ slF - sl0 ≤ R.slots ∧ (∀ y as σ r σ1, E y as σ r σ1 → xCt G l d y as σ r σ1)
theorem x_stack1 {m : Nat} {q : Nat} {As : List xV} (h : (st.take m).reverse = .inr (some q) :: As) : st.map (xv G) = (As.map (xv G)).reverse ++ .ref (xad G q) :: (st.drop m).map (xv G) := by
  rw [x_take (n := m), h]
  simp [xv]
theorem x_argsl {m : Nat} {q : Nat} {As : List xV} (h : (st.take m).reverse = .inr (some q) :: As) (hm : m ≤ st.length) : As.length + 1 = m := by
  have := congrArg List.length h
  simp at this
  omega
theorem x_toList {r : Option xV} {t : List xV} : (r.toList ++ t).map (xv G) = (r.map (xv G)).toList ++ t.map (xv G) := by
  cases r <;> simp
theorem sn_callV {d : Nat} {own : String} (C : xCx G p l R s m args c cc nL d nx0 sl0 nxF slF own E) {idx : Nat} (hg : xgood a) (hn : ∀ sig, parseMethodDescriptor (xmn a).desc = some sig → xma a = sig.parameters.length + 1) (hcl : ∀ r, xcl[xmc a]? = some r → r.1 = (xmn a).cls) (hin : Cond.instanceMethod (xmn a) ∈ xW) (hse : Cond.selects (xmn a).cls (xmn a) (xmn a) ∈ xW) (hlink : (Cond.methodLink own idx (xmn a)).before args s = true) (hd : decode cc pc = .ok (.invokevirtual idx, 3)) (h : xcall E a 2 (pc + 3) ls st σ o) (hp : xpost (xSem G p l e R s m args below meth c nL nx0 sl0 nxF slF Q) K o) : xSem G p l e R s m args below meth c nL nx0 sl0 nxF slF Q (pc, ls, st, σ) := by
  obtain ⟨hx, hb, hml, hown, hts, hK, hN, hf, hlo, hRc, hRs, hE⟩ := C
  obtain ⟨r, σ1, hlen, hrest, hrcv, he, rfl⟩ := h
  obtain ⟨q, As, fs, harg, hq⟩ := hrcv
  obtain ⟨⟨hm1, hm2⟩, hM⟩ := hE _ _ _ _ _ he
  have hb1 : σ1.2.1 ≤ nxF := hp.1.1
  have hb2 : σ1.2.2 ≤ slF := hp.1.2
  refine ⟨⟨Nat.le_trans hm1 hb1, Nat.le_trans hm2 hb2⟩, fun H locs L h1 h2 hR hl hL => ?_⟩
  have h1 : nx0 ≤ σ.2.1 := h1
  have h2 : sl0 ≤ σ.2.2 := h2
  have hrm := x_room (R := R) (d := d) (y := a) (mc := σ1.2.1 - σ.2.1) (ms := σ1.2.2 - σ.2.2) hg hf hlo
  have hal := x_argsl harg hlen
  obtain ⟨hq2, rr, hr, cell, q1, q2, q3, -⟩ := xR_obj hR hq
  have hnm := hcl rr hr
  have hcc := (hK.1 _ rr hr).2.1
  rw [hnm] at hcc
  have run := va_runV (C := (xmn a).cls) (bytes := xmb a) (maxL := xml a) (ret := xmr a) (n := xma a - 1) (b := xad G q) (As := As.map (xv G)) (rest := (st.drop (xma a)).map (xv G)) (g := F0 m pc L (st.map (xv G))) (e := e) (below := below) (meth := meth) (⟨hx, hb, hml, hown, hts⟩ : CallFix p m c cc nL s args xW own) hM ⟨⟨rfl, rfl, hrm.1, hrm.2, x_pay hts hg, List.mem_cons_self, hts _ hg.1, hts _ hg.2.1, hg.2.2.1, (fun sig h => by have := hn sig h; omega), hlink⟩, hts _ hin, hts _ hse⟩ ⟨xPc_blind, ⟨cell, q1, by rw [q3]; rfl, by rw [q2]; exact hcc⟩, fun U hU hW => ⟨by rw [harg]; rfl, by rw [hU]; exact xR_moved hW.alike hR, xK_moved hW.alike hK, xN_warm hW hN⟩⟩ rfl (by rw [List.length_map]; omega) hL.2.1 (x_stack1 harg) (lv_room (by rw [x_cats]; omega)) hd (H := H) (locs := locs) (cells := σ.2.1 - nx0) (slots := σ.2.2 - sl0) ⟨by omega, by omega⟩
  refine x_went run hl (fun H1 locs1 hR1 hl1 => ?_)
  have g := hp.2 H1 locs1 L (Nat.le_trans h1 hm1) (Nat.le_trans h2 hm2) hR1 hl1 hL
  have e1 : σ1.2.1 - nx0 = σ.2.1 - nx0 + (σ1.2.1 - σ.2.1) := by omega
  have e2 : σ1.2.2 - sl0 = σ.2.2 - sl0 + (σ1.2.2 - σ.2.2) := by omega
  dsimp only at g
  rw [x_toList, e1, e2] at g
  exact g
theorem sn_callVN {d : Nat} {own host : String} (C : xCx G p l R s m args c cc nL d nx0 sl0 nxF slF own E) {idx : Nat} (hg : xgood a) (hn : ∀ sig, parseMethodDescriptor (xmn a).desc = some sig → xma a = sig.parameters.length + 1) (hcl : ∀ r, xcl[xmc a]? = some r → r.1 = (xmn a).cls) (hin : Cond.instanceMethod (xmn a) ∈ xW) (hse : Cond.selects (xmn a).cls (xmn a) (xmn a) ∈ xW) (hlink : (Cond.methodLinkNest own idx (xmn a) host).before args s = true) (hd : decode cc pc = .ok (.invokevirtual idx, 3)) (h : xcall E a 3 (pc + 3) ls st σ o) (hp : xpost (xSem G p l e R s m args below meth c nL nx0 sl0 nxF slF Q) K o) : xSem G p l e R s m args below meth c nL nx0 sl0 nxF slF Q (pc, ls, st, σ) := by
  obtain ⟨hx, hb, hml, hown, hts, hK, hN, hf, hlo, hRc, hRs, hE⟩ := C
  obtain ⟨r, σ1, hlen, hrest, hrcv, he, rfl⟩ := h
  obtain ⟨q, As, fs, harg, hq⟩ := hrcv
  obtain ⟨⟨hm1, hm2⟩, hM⟩ := hE _ _ _ _ _ he
  have hb1 : σ1.2.1 ≤ nxF := hp.1.1
  have hb2 : σ1.2.2 ≤ slF := hp.1.2
  refine ⟨⟨Nat.le_trans hm1 hb1, Nat.le_trans hm2 hb2⟩, fun H locs L h1 h2 hR hl hL => ?_⟩
  have h1 : nx0 ≤ σ.2.1 := h1
  have h2 : sl0 ≤ σ.2.2 := h2
  have hrm := x_room (R := R) (d := d) (y := a) (mc := σ1.2.1 - σ.2.1) (ms := σ1.2.2 - σ.2.2) hg hf hlo
  have hal := x_argsl harg hlen
  obtain ⟨hq2, rr, hr, cell, q1, q2, q3, -⟩ := xR_obj hR hq
  have hnm := hcl rr hr
  have hcc := (hK.1 _ rr hr).2.1
  rw [hnm] at hcc
  have run := va_runVN (C := (xmn a).cls) (bytes := xmb a) (maxL := xml a) (ret := xmr a) (n := xma a - 1) (b := xad G q) (As := As.map (xv G)) (rest := (st.drop (xma a)).map (xv G)) (g := F0 m pc L (st.map (xv G))) (e := e) (below := below) (meth := meth) (⟨hx, hb, hml, hown, hts⟩ : CallFix p m c cc nL s args xW own) hM ⟨⟨⟨rfl, rfl, hrm.1, hrm.2, x_pay hts hg, List.mem_cons_self⟩, hts _ hg.1, hts _ hg.2.1, hg.2.2.1, (fun sig h => by have := hn sig h; omega), hlink⟩, hts _ hin, hts _ hse⟩ ⟨xPc_blind, ⟨cell, q1, by rw [q3]; rfl, by rw [q2]; exact hcc⟩, fun U hU hW => ⟨by rw [harg]; rfl, by rw [hU]; exact xR_moved hW.alike hR, xK_moved hW.alike hK, xN_warm hW hN⟩⟩ rfl (by rw [List.length_map]; omega) hL.2.1 (x_stack1 harg) (lv_room (by rw [x_cats]; omega)) hd (H := H) (locs := locs) (cells := σ.2.1 - nx0) (slots := σ.2.2 - sl0) ⟨by omega, by omega⟩
  refine x_went run hl (fun H1 locs1 hR1 hl1 => ?_)
  have g := hp.2 H1 locs1 L (Nat.le_trans h1 hm1) (Nat.le_trans h2 hm2) hR1 hl1 hL
  have e1 : σ1.2.1 - nx0 = σ.2.1 - nx0 + (σ1.2.1 - σ.2.1) := by omega
  have e2 : σ1.2.2 - sl0 = σ.2.2 - sl0 + (σ1.2.2 - σ.2.2) := by omega
  dsimp only at g
  rw [x_toList, e1, e2] at g
  exact g
theorem sn_callS {d : Nat} {own : String} (C : xCx G p l R s m args c cc nL d nx0 sl0 nxF slF own E) {idx : Nat} (hg : xgood a) (hn : ∀ sig, parseMethodDescriptor (xmn a).desc = some sig → xma a = sig.parameters.length) (hst : Cond.static (xmn a) ∈ xW) (hlink : (Cond.methodLink own idx (xmn a)).before args s = true) (hd : decode cc pc = .ok (.invokestatic idx, 3)) (h : xcall E a 4 (pc + 3) ls st σ o) (hp : xpost (xSem G p l e R s m args below meth c nL nx0 sl0 nxF slF Q) K o) : xSem G p l e R s m args below meth c nL nx0 sl0 nxF slF Q (pc, ls, st, σ) := by
  obtain ⟨hx, hb, hml, hown, hts, hK, hN, hf, hlo, hRc, hRs, hE⟩ := C
  obtain ⟨r, σ1, hlen, hrest, hrcv, he, rfl⟩ := h
  obtain ⟨⟨hm1, hm2⟩, hM⟩ := hE _ _ _ _ _ he
  have hb1 : σ1.2.1 ≤ nxF := hp.1.1
  have hb2 : σ1.2.2 ≤ slF := hp.1.2
  refine ⟨⟨Nat.le_trans hm1 hb1, Nat.le_trans hm2 hb2⟩, fun H locs L h1 h2 hR hl hL => ?_⟩
  have h1 : nx0 ≤ σ.2.1 := h1
  have h2 : sl0 ≤ σ.2.2 := h2
  have hrm := x_room (R := R) (d := d) (y := a) (mc := σ1.2.1 - σ.2.1) (ms := σ1.2.2 - σ.2.2) hg hf hlo
  have run := va_runS (bytes := xmb a) (maxL := xml a) (ret := xmr a) (n := xma a) (As := ((st.take (xma a)).reverse).map (xv G)) (rest := (st.drop (xma a)).map (xv G)) (g := F0 m pc L (st.map (xv G))) (e := e) (below := below) (meth := meth) (⟨hx, hb, hml, hown, hts⟩ : CallFix p m c cc nL s args xW own) hM ⟨⟨rfl, rfl, hrm.1, hrm.2, x_pay hts hg, List.mem_cons_self, hts _ hg.1, hts _ hg.2.1, hg.2.2.1, (fun sig h => hn sig h), hlink⟩, hts _ hst⟩ ⟨xPc_blind, fun U hU hW => ⟨rfl, by rw [hU]; exact xR_moved hW.alike hR, xK_moved hW.alike hK, xN_warm hW hN⟩⟩ rfl (by simp; omega) hL.2.1 (x_take (n := xma a)) (lv_room (by rw [x_cats]; omega)) hd (H := H) (locs := locs) (cells := σ.2.1 - nx0) (slots := σ.2.2 - sl0) ⟨by omega, by omega⟩
  refine x_went run hl (fun H1 locs1 hR1 hl1 => ?_)
  have g := hp.2 H1 locs1 L (Nat.le_trans h1 hm1) (Nat.le_trans h2 hm2) hR1 hl1 hL
  have e1 : σ1.2.1 - nx0 = σ.2.1 - nx0 + (σ1.2.1 - σ.2.1) := by omega
  have e2 : σ1.2.2 - sl0 = σ.2.2 - sl0 + (σ1.2.2 - σ.2.2) := by omega
  dsimp only at g
  rw [x_toList, e1, e2] at g
  exact g
theorem sn_callSN {d : Nat} {own host : String} (C : xCx G p l R s m args c cc nL d nx0 sl0 nxF slF own E) {idx : Nat} (hg : xgood a) (hn : ∀ sig, parseMethodDescriptor (xmn a).desc = some sig → xma a = sig.parameters.length) (hst : Cond.static (xmn a) ∈ xW) (hlink : (Cond.methodLinkNest own idx (xmn a) host).before args s = true) (hd : decode cc pc = .ok (.invokestatic idx, 3)) (h : xcall E a 5 (pc + 3) ls st σ o) (hp : xpost (xSem G p l e R s m args below meth c nL nx0 sl0 nxF slF Q) K o) : xSem G p l e R s m args below meth c nL nx0 sl0 nxF slF Q (pc, ls, st, σ) := by
  obtain ⟨hx, hb, hml, hown, hts, hK, hN, hf, hlo, hRc, hRs, hE⟩ := C
  obtain ⟨r, σ1, hlen, hrest, hrcv, he, rfl⟩ := h
  obtain ⟨⟨hm1, hm2⟩, hM⟩ := hE _ _ _ _ _ he
  have hb1 : σ1.2.1 ≤ nxF := hp.1.1
  have hb2 : σ1.2.2 ≤ slF := hp.1.2
  refine ⟨⟨Nat.le_trans hm1 hb1, Nat.le_trans hm2 hb2⟩, fun H locs L h1 h2 hR hl hL => ?_⟩
  have h1 : nx0 ≤ σ.2.1 := h1
  have h2 : sl0 ≤ σ.2.2 := h2
  have hrm := x_room (R := R) (d := d) (y := a) (mc := σ1.2.1 - σ.2.1) (ms := σ1.2.2 - σ.2.2) hg hf hlo
  have run := va_runSN (bytes := xmb a) (maxL := xml a) (ret := xmr a) (n := xma a) (As := ((st.take (xma a)).reverse).map (xv G)) (rest := (st.drop (xma a)).map (xv G)) (g := F0 m pc L (st.map (xv G))) (e := e) (below := below) (meth := meth) (⟨hx, hb, hml, hown, hts⟩ : CallFix p m c cc nL s args xW own) hM ⟨⟨⟨rfl, rfl, hrm.1, hrm.2, x_pay hts hg, List.mem_cons_self⟩, hts _ hg.1, hts _ hg.2.1, hg.2.2.1, (fun sig h => hn sig h), hlink⟩, hts _ hst, trivial⟩ ⟨xPc_blind, fun U hU hW => ⟨rfl, by rw [hU]; exact xR_moved hW.alike hR, xK_moved hW.alike hK, xN_warm hW hN⟩⟩ rfl (by simp; omega) hL.2.1 (x_take (n := xma a)) (lv_room (by rw [x_cats]; omega)) hd (H := H) (locs := locs) (cells := σ.2.1 - nx0) (slots := σ.2.2 - sl0) ⟨by omega, by omega⟩
  refine x_went run hl (fun H1 locs1 hR1 hl1 => ?_)
  have g := hp.2 H1 locs1 L (Nat.le_trans h1 hm1) (Nat.le_trans h2 hm2) hR1 hl1 hL
  have e1 : σ1.2.1 - nx0 = σ.2.1 - nx0 + (σ1.2.1 - σ.2.1) := by omega
  have e2 : σ1.2.2 - sl0 = σ.2.2 - sl0 + (σ1.2.2 - σ.2.2) := by omega
  dsimp only at g
  rw [x_toList, e1, e2] at g
  exact g
theorem sn_callI {d : Nat} {own : String} (C : xCx G p l R s m args c cc nL d nx0 sl0 nxF slF own E) {idx : Nat} (hg : xgood a) (hn : ∀ sig, parseMethodDescriptor (xmn a).desc = some sig → xma a = sig.parameters.length + 1) (hin : Cond.instanceMethod (xmn a) ∈ xW) (hnm : (xmn a).name = "<init>") (hrt : xmr a = none) (hlink : (Cond.methodLink own idx (xmn a)).before args s = true) (hd : decode cc pc = .ok (.invokespecial idx, 3)) (h : xcall E a 0 (pc + 3) ls st σ o) (hp : xpost (xSem G p l e R s m args below meth c nL nx0 sl0 nxF slF Q) K o) : xSem G p l e R s m args below meth c nL nx0 sl0 nxF slF Q (pc, ls, st, σ) := by
  obtain ⟨hx, hb, hml, hown, hts, hK, hN, hf, hlo, hRc, hRs, hE⟩ := C
  obtain ⟨r, σ1, hlen, hrest, hrcv, he, rfl⟩ := h
  obtain ⟨q, As, harg⟩ := hrcv
  obtain ⟨⟨hm1, hm2⟩, hM⟩ := hE _ _ _ _ _ he
  have hb1 : σ1.2.1 ≤ nxF := hp.1.1
  have hb2 : σ1.2.2 ≤ slF := hp.1.2
  refine ⟨⟨Nat.le_trans hm1 hb1, Nat.le_trans hm2 hb2⟩, fun H locs L h1 h2 hR hl hL => ?_⟩
  have h1 : nx0 ≤ σ.2.1 := h1
  have h2 : sl0 ≤ σ.2.2 := h2
  have hrm := x_room (R := R) (d := d) (y := a) (mc := σ1.2.1 - σ.2.1) (ms := σ1.2.2 - σ.2.2) hg hf hlo
  have hal := x_argsl harg hlen
  have hct : xws a = Cond.code (xmn a) (xmb a) (xml a) none :: xW := by unfold xws; rw [hrt]
  have run := va_runI (bytes := xmb a) (maxL := xml a) (n := xma a - 1) (b := xad G q) (As := As.map (xv G)) (rest := (st.drop (xma a)).map (xv G)) (g := F0 m pc L (st.map (xv G))) (e := e) (below := below) (meth := meth) (⟨hx, hb, hml, hown, hts⟩ : CallFix p m c cc nL s args xW own) hM ⟨⟨rfl, rfl, hrm.1, hrm.2, x_pay hts hg, (by rw [hct]; exact List.mem_cons_self), (by have := hts _ hg.1; rw [hrt] at this; exact this), hts _ hg.2.1, hg.2.2.1, (fun sig h => by have := hn sig h; omega), hlink⟩, hnm, hts _ hin⟩ ⟨xPc_blind, fun U hU hW => ⟨by rw [harg]; rfl, by rw [hU]; exact xR_moved hW.alike hR, xK_moved hW.alike hK, xN_warm hW hN⟩⟩ rfl (by rw [List.length_map]; omega) hL.2.1 (x_stack1 harg) (lv_room (by rw [x_cats]; omega)) hd (H := H) (locs := locs) (cells := σ.2.1 - nx0) (slots := σ.2.2 - sl0) ⟨by omega, by omega⟩
  refine x_went run hl (fun H1 locs1 hR1 hl1 => ?_)
  have g := hp.2 H1 locs1 L (Nat.le_trans h1 hm1) (Nat.le_trans h2 hm2) hR1 hl1 hL
  have e1 : σ1.2.1 - nx0 = σ.2.1 - nx0 + (σ1.2.1 - σ.2.1) := by omega
  have e2 : σ1.2.2 - sl0 = σ.2.2 - sl0 + (σ1.2.2 - σ.2.2) := by omega
  dsimp only at g
  rw [x_toList, e1, e2] at g
  exact g
theorem sn_callIN {d : Nat} {own host : String} (C : xCx G p l R s m args c cc nL d nx0 sl0 nxF slF own E) {idx : Nat} (hg : xgood a) (hn : ∀ sig, parseMethodDescriptor (xmn a).desc = some sig → xma a = sig.parameters.length + 1) (hin : Cond.instanceMethod (xmn a) ∈ xW) (hnm : (xmn a).name = "<init>") (hrt : xmr a = none) (hlink : (Cond.methodLinkNest own idx (xmn a) host).before args s = true) (hd : decode cc pc = .ok (.invokespecial idx, 3)) (h : xcall E a 1 (pc + 3) ls st σ o) (hp : xpost (xSem G p l e R s m args below meth c nL nx0 sl0 nxF slF Q) K o) : xSem G p l e R s m args below meth c nL nx0 sl0 nxF slF Q (pc, ls, st, σ) := by
  obtain ⟨hx, hb, hml, hown, hts, hK, hN, hf, hlo, hRc, hRs, hE⟩ := C
  obtain ⟨r, σ1, hlen, hrest, hrcv, he, rfl⟩ := h
  obtain ⟨q, As, harg⟩ := hrcv
  obtain ⟨⟨hm1, hm2⟩, hM⟩ := hE _ _ _ _ _ he
  have hb1 : σ1.2.1 ≤ nxF := hp.1.1
  have hb2 : σ1.2.2 ≤ slF := hp.1.2
  refine ⟨⟨Nat.le_trans hm1 hb1, Nat.le_trans hm2 hb2⟩, fun H locs L h1 h2 hR hl hL => ?_⟩
  have h1 : nx0 ≤ σ.2.1 := h1
  have h2 : sl0 ≤ σ.2.2 := h2
  have hrm := x_room (R := R) (d := d) (y := a) (mc := σ1.2.1 - σ.2.1) (ms := σ1.2.2 - σ.2.2) hg hf hlo
  have hal := x_argsl harg hlen
  have hct : xws a = Cond.code (xmn a) (xmb a) (xml a) none :: xW := by unfold xws; rw [hrt]
  have run := va_runIN (bytes := xmb a) (maxL := xml a) (n := xma a - 1) (b := xad G q) (As := As.map (xv G)) (rest := (st.drop (xma a)).map (xv G)) (g := F0 m pc L (st.map (xv G))) (e := e) (below := below) (meth := meth) (⟨hx, hb, hml, hown, hts⟩ : CallFix p m c cc nL s args xW own) hM ⟨⟨⟨rfl, rfl, hrm.1, hrm.2, x_pay hts hg, (by rw [hct]; exact List.mem_cons_self)⟩, (by have := hts _ hg.1; rw [hrt] at this; exact this), hts _ hg.2.1, hg.2.2.1, (fun sig h => by have := hn sig h; omega), hlink⟩, hnm, hts _ hin⟩ ⟨xPc_blind, fun U hU hW => ⟨by rw [harg]; rfl, by rw [hU]; exact xR_moved hW.alike hR, xK_moved hW.alike hK, xN_warm hW hN⟩⟩ rfl (by rw [List.length_map]; omega) hL.2.1 (x_stack1 harg) (lv_room (by rw [x_cats]; omega)) hd (H := H) (locs := locs) (cells := σ.2.1 - nx0) (slots := σ.2.2 - sl0) ⟨by omega, by omega⟩
  refine x_went run hl (fun H1 locs1 hR1 hl1 => ?_)
  have g := hp.2 H1 locs1 L (Nat.le_trans h1 hm1) (Nat.le_trans h2 hm2) hR1 hl1 hL
  have e1 : σ1.2.1 - nx0 = σ.2.1 - nx0 + (σ1.2.1 - σ.2.1) := by omega
  have e2 : σ1.2.2 - sl0 = σ.2.2 - sl0 + (σ1.2.2 - σ.2.2) := by omega
  dsimp only at g
  rw [x_toList, e1, e2] at g
  exact g
end XSND
/-! what the machine has of its own -/
section XSND
variable {G : xG} {p : Program} {l : Launch} {e : Env} {R : Room} {s : State} {m : MethodId} {args : Array Value} {below : List Frame} {meth : Method} {c : Code} {nL nx0 sl0 nxF slF : Nat} {Q : State → Prop}
variable {E : Nat → List xV → xS → Option xV → xS → Prop} {K : Option xV → xS → Prop} {cc : ByteArray} {pc a b : Nat} {ls : xL} {st : List xV} {σ : xS} {o : xO}
theorem sn_objInit {d : Nat} {own : String} (C : xCx G p l R s m args c cc nL d nx0 sl0 nxF slF own E) {idx : Nat} (hlink : (Cond.methodLink own idx Lib.objectInit).before args s = true) (hinst : (Cond.instanceMethod Lib.objectInit).before args s = true) (hcode : (Cond.code Lib.objectInit ⟨#[0xb1]⟩ 1 none).before args s = true)
    (hd : decode cc pc = .ok (.invokespecial idx, 3)) (h : xcall E a 6 (pc + 3) ls st σ o) (hp : xpost (xSem G p l e R s m args below meth c nL nx0 sl0 nxF slF Q) K o) : xSem G p l e R s m args below meth c nL nx0 sl0 nxF slF Q (pc, ls, st, σ) := by
  obtain ⟨hx, hb, hml, hown, hts, hK, hN, hf, hlo, hRc, hRs, hE⟩ := C
  obtain ⟨q, r, rfl, hr, rfl⟩ := xr_inv h
  refine ⟨hp.1, fun H locs L h1 h2 hR hl hL => ?_⟩
  refine W.objInit hx hb hown hlink hinst hcode rfl (by rw [hml]; exact hL.2.1) rfl hd (by omega) ?_ (hp.2 H locs L h1 h2 hR hl hL)
  show 2 * 0 + ((r.map (xv G)).map fun v => v.category).sum + 12 ≤ _
  rw [x_cats]; omega
theorem sn_getstatic (hx : p.tables.exec = Jvm.exec) (hb : c.code = cc) {own : String} {idx : Nat} (hown : s.vm.findClass own = some m.cls) (hlink : (Cond.fieldLink own idx xNLc xNLn xNLd).before args s = true ∨ ∃ host, (Cond.fieldLinkNest own idx xNLc xNLn xNLd host).before args s = true)
    (hd : decode cc pc = .ok (.getstatic idx, 3)) (h : xst E (.getstatic idx) 3 a b pc ls st σ o) (hp : xpost (xSem G p l e R s m args below meth c nL nx0 sl0 nxF slF Q) K o) : xSem G p l e R s m args below meth c nL nx0 sl0 nxF slF Q (pc, ls, st, σ) := by
  have h : o = .inl (pc + 3, ls, .inr (some 1) :: st, σ) := h
  subst h
  refine ⟨hp.1, fun H locs L h1 h2 hR hl hL => ?_⟩
  obtain ⟨cf, kf, fi, f, a1, cell, z1, z2, z3, z4, z5, z6, z7, z8⟩ := hR.2.2.2.2.2
  have g := hp.2 H locs L h1 h2 hR hl hL
  rcases hlink with hlink | ⟨host, hlink⟩
  · exact W.gets hx hb hown hlink z1 z2 z3 z4 z5 (fun e => by rw [e] at z6; cases z6) z7 rfl hd g
  · exact va_WgetsN hx hb hown hlink z1 z2 z3 z4 z5 (fun e => by rw [e] at z6; cases z6) z7 rfl hd g
theorem x_K0 (hK : xK G s) : va_K G.2.2.2.1 xcl [(G.2.2.2.2.1 0, .int)] s := by
  refine ⟨hK.1, fun k q hk => ?_⟩
  have hz : k < 1 := (List.getElem?_eq_some_iff.mp hk).1
  rw [show k = 0 by omega] at hk
  cases hk
  exact ⟨(hK.2.1 0).1, (hK.2.1 0).2⟩
theorem sn_clone {d : Nat} {own : String} (C : xCx G p l R s m args c cc nL d nx0 sl0 nxF slF own E) {idx : Nat}
    (hlink : (Cond.methodLink own idx ⟨"[I", "clone", "()Ljava/lang/Object;"⟩).before args s = true) (hsame : (Cond.sameMethod "[I" "java/lang/Object" "clone" "()Ljava/lang/Object;").before args s = true)
    (hnat : (Cond.native ⟨"java/lang/Object", "clone", "()Ljava/lang/Object;"⟩).before args s = true) (hinst : (Cond.instanceMethod ⟨"java/lang/Object", "clone", "()Ljava/lang/Object;"⟩).before args s = true)
    (hsel : (Cond.selects "[I" ⟨"[I", "clone", "()Ljava/lang/Object;"⟩ ⟨"java/lang/Object", "clone", "()Ljava/lang/Object;"⟩).before args s = true) (hcl : va_Nw (.castable "[I" "java/lang/Cloneable") s)
    (hd : decode cc pc = .ok (.invokevirtual idx, 3)) (h : xcall E a 7 (pc + 3) ls st σ o) (hp : xpost (xSem G p l e R s m args below meth c nL nx0 sl0 nxF slF Q) K o) : xSem G p l e R s m args below meth c nL nx0 sl0 nxF slF Q (pc, ls, st, σ) := by
  obtain ⟨hx, hb, hml, hown, hts, hK, hN, hf, hlo, hRc, hRs, hE⟩ := C
  obtain ⟨q, r, rfl, n, f, hq, hq2, hr, rfl⟩ := xr_inv h
  have hb1 : σ.2.1 + 1 ≤ nxF := hp.1.1
  have hb2 : σ.2.2 + n ≤ slF := hp.1.2
  refine ⟨⟨by show σ.2.1 ≤ nxF; omega, by show σ.2.2 ≤ slF; omega⟩, fun H locs L h1 h2 hR hl hL => ?_⟩
  have h1 : nx0 ≤ σ.2.1 := h1
  have h2 : sl0 ≤ σ.2.2 := h2
  have hnx := xR_nx hR
  have r1 := xR_arr2 hR hq hq2
  have e1 : σ.2.1 - nx0 + 1 = (xnew σ (.inl (0, n, f)) n).2.1 - nx0 := by show _ = σ.2.1 + 1 - nx0; omega
  have e2 : σ.2.2 - sl0 + n = (xnew σ (.inl (0, n, f)) n).2.2 - sl0 := by show _ = σ.2.2 + n - sl0; omega
  obtain ⟨c0, t0', f1, f2, f3⟩ := Cond.castable_spec (va_Nw.use (A := args) rfl hcl)
  have hnm : s.vm.findClass "[I" = some (G.2.2.2.2.1 0) := (hK.2.1 0).2
  cases hnm.symm.trans f1
  intro T hT X
  have hcellT : T.heap[xad G q]? = some (arrV (G.2.2.2.2.1 0) n (fun j => .int (f j))) := by rw [hT]; exact r1
  obtain ⟨-, kA, hkA, comp, hkind⟩ := State.isArrayOf_alike X.warmed.alike ((hK.2.1 0).1 0 (fun _ => .null))
  obtain ⟨-, kS, hkS, compS, hkindS⟩ := (hK.2.1 0).1 0 (fun _ => .null)
  obtain ⟨vm', X', stp⟩ := X.cloneArray hx hown hlink hsame hnat hinst hsel (a := xad G q) (cell := arrV (G.2.2.2.2.1 0) n (fun j => .int (f j))) hcellT (fun k h => by cases h) (fun h => by cases h) hnm f2 f3
    (fun i v hv => by
      have hk' : T.vm.classes[G.2.2.2.2.1 0]? = some kA := hkA
      have hfv : fits .int v = true := va_fit (ty := .int) (fun i _ => rfl) i v hv
      have hkind' : kA.kind = .array comp .int := hkind
      show T.fitsSlot (G.2.2.2.2.1 0) .none i v = true
      simpa [State.fitsSlot, State.slotType?, hk', hkind'] using hfv)
    (g := F0 m pc L (.ref (xad G q) :: r.map (xv G))) rfl (by rw [hml]; exact hL.2.1) rfl (by rw [hb]; exact hd) (by omega) (by show 2 * 0 + ((r.map (xv G)).map fun v => v.category).sum + 14 ≤ _; rw [x_cats]; omega) (by show σ.2.1 - nx0 + 1 ≤ _; omega) (by rw [arrV_size]; show σ.2.2 - sl0 + n ≤ _; omega) (hloader := Vm.clonesLoader_of_array hkS hkindS)
  rw [arrV_size] at X'
  have g := hp.2 (H.push (arrV (G.2.2.2.2.1 0) n (fun j => .int (f j)))) locs L (by show nx0 ≤ σ.2.1 + 1; omega) (by show sl0 ≤ σ.2.2 + n; omega) (xR_new n hR (by rw [Array.size_push]) (fun q hq => by rw [Array.getElem?_push, if_neg (Nat.ne_of_lt hq)]) (by show _[xad G σ.2.1]? = _; rw [hnx, Array.getElem?_push_size])) hl hL
  dsimp only at g
  rw [← e1, ← e2] at g
  obtain ⟨t, b1, b2⟩ := g ((T.setVm vm').pushCell (arrV (G.2.2.2.2.1 0) n (fun j => .int (f j)))) (by rw [← hT]; rfl) X'
  refine ⟨t, stp t ?_, b2⟩
  have e9 : xv G (.inr (some σ.2.1)) = .ref T.heap.size := by show Value.ref (xad G σ.2.1) = _; rw [hnx, hT]
  rw [List.map_cons, e9] at b1
  exact b1
theorem sn_arraycopy {d : Nat} {own : String} (C : xCx G p l R s m args c cc nL d nx0 sl0 nxF slF own E) {idx : Nat} (hlink : (Cond.methodLink own idx arraycopyName).before args s = true) (hnat : (Cond.native arraycopyName).before args s = true) (hstat : (Cond.static arraycopyName).before args s = true) (hini : (Cond.initialized "java/lang/System").before args s = true)
    (hd : decode cc pc = .ok (.invokestatic idx, 3)) (h : xcall E a 8 (pc + 3) ls st σ o) (hp : xpost (xSem G p l e R s m args below meth c nL nx0 sl0 nxF slF Q) K o) : xSem G p l e R s m args below meth c nL nx0 sl0 nxF slF Q (pc, ls, st, σ) := by
  obtain ⟨hx, hb, hml, hown, hts, hK, hN, hf, hlo, hRc, hRs, hE⟩ := C
  match st, h with
  | .inl z1 :: .inl z2 :: .inr (some q1) :: .inl z3 :: .inr (some q0) :: r, h =>
    obtain ⟨n0, n1, f, g, N, S, T', hq0, hq1, rfl, rfl, rfl, i1, i2, i3, i4, h20, h21, hne, hr, rfl⟩ := h
    refine ⟨hp.1, fun H locs L h1 h2 hR hl hL => ?_⟩
    have r0 := xR_arr2 hR hq0 h20
    have r1 := xR_arr2 hR hq1 h21
    have cN := nI_clamp (n := N) (by omega)
    have cS := nI_clamp (n := S) (by omega)
    have cT := nI_clamp (n := T') (by omega)
    have nn : ∀ k : Nat, k < 2147483648 → (nI k).toInt = (k : Int) := fun k hk => nI_toInt hk
    intro T hT X
    obtain ⟨-, k0, hk0, cm0, hkk0⟩ := (hK.2.1 0).1 n0 (fun j => .int (f j))
    obtain ⟨-, k1, hk1, cm1, hkk1⟩ := (hK.2.1 0).1 n1 (fun j => .int (g j))
    obtain ⟨vm', X', step⟩ := X.arraycopy hx hown hlink hnat hstat hini (src := xad G q0) (dst := xad G q1) (cs := arrV (G.2.2.2.2.1 0) n0 (fun j => .int (f j))) (cd := arrV (G.2.2.2.2.1 0) n1 (fun j => .int (g j))) (srcPos := nI S) (destPos := nI T') (n := nI N) (by rw [hT]; exact r0) (by rw [hT]; exact r1)
      (fun _ h => by cases h) (fun _ h => by cases h) (fun h => by cases h) (fun h => by cases h) hk0 hk1 hkk0 hkk1 (by simp [xty, refKind]) (nI_pos (by omega)) (nI_pos (by omega)) (nI_pos (by omega))
      (by rw [nn S (by omega), nn N (by omega), arrV_size]; omega)
      (by rw [nn T' (by omega), nn N (by omega), arrV_size]; omega)
      (fun vm₁ _ i hi => by
        rw [cN] at hi
        have e : (arrV (G.2.2.2.2.1 0) n0 (fun j => .int (f j))).slots.getD ((nI S).toNatClampNeg + i) .null = .int (f (S + i)) := by
          rw [cS, Array.getD_eq_getD_getElem?, arrV_read _ _ (by omega)]
          rfl
        refine ⟨?_, ?_⟩
        · rw [e]; rfl
        · rw [e]; exact trivial)
      (g := F0 m pc L (.int (nI N) :: .int (nI T') :: .ref (xad G q1) :: .int (nI S) :: .ref (xad G q0) :: r.map (xv G))) rfl (by rw [hml]; exact hL.2.1) (rest := r.map (xv G)) rfl (by rw [hb]; exact hd) (by omega) (by
        show 2 * 0 + ((r.map (xv G)).map fun v => v.category).sum + (nativeFrameWords "java/lang/System" "arraycopy" 5 + 11) ≤ _
        rw [x_cats]
        have : nativeFrameWords "java/lang/System" "arraycopy" 5 ≤ 21 := by decide +kernel
        omega)
    have e1 : copied (arrV (G.2.2.2.2.1 0) n0 (fun j => .int (f j))) (arrV (G.2.2.2.2.1 0) n1 (fun j => .int (g j))) (nI S) (nI T') (nI N) = arrV (G.2.2.2.2.1 0) n1 (fun j => .int (va_cpy f g S T' N j)) := by
      have := va_copied (fun z => Value.int z) (G.2.2.2.2.1 0) (G.2.2.2.2.1 0) (n1 := n1) (dp := T') f g i1
      rw [← this]
      unfold copied
      rw [cS, cT, cN]
    rw [e1] at X' step
    have hl1 : xad G q1 < H.size := (Array.getElem?_eq_some_iff.mp r1).1
    have hheap : ((T.setVm vm').setCell (xad G q1) (arrV (G.2.2.2.2.1 0) n1 (fun j => .int (va_cpy f g S T' N j)))).heap = H.setIfInBounds (xad G q1) (arrV (G.2.2.2.2.1 0) n1 (fun j => .int (va_cpy f g S T' N j))) := by rw [← hT]; rfl
    have gg := fun (locs' : List Loc) (hl' : ∀ q ∈ locs', G.2.2.1 ≤ q.base) => hp.2 (H.setIfInBounds (xad G q1) (arrV (G.2.2.2.2.1 0) n1 (fun j => .int (va_cpy f g S T' N j)))) locs' L h1 h2 (xR_up hR h21 hq1 (by simp) (fun q hq => by simp [Array.getElem?_setIfInBounds, Ne.symm hq]) (by show _[xad G q1]? = _; simp [Array.getElem?_setIfInBounds, hl1])) hl' hL
    refine Exists.elim (gg _ (fun q hq => ?_) _ hheap X') (fun t ht => ⟨t, step t ht.1, ht.2⟩)
    rcases List.mem_append.mp hq with h | h
    · exact hl q h
    · obtain ⟨z, -, hz⟩ := List.mem_map.mp h
      rw [← hz]
      show G.2.2.1 ≤ xad G q1
      rw [xad_2 h21]; omega
theorem sn_max {d : Nat} {own : String} (C : xCx G p l R s m args c cc nL d nx0 sl0 nxF slF own E) {idx : Nat} (hlink : (Cond.methodLink own idx Lib.Math.max.name).before args s = true) (hstat : (Cond.static Lib.Math.max.name).before args s = true) (hini : (Cond.initialized "java/lang/Math").before args s = true) (hcode : (Cond.code Lib.Math.max.name Lib.Math.max.code 2 (some .int)).before args s = true)
    (hd : decode cc pc = .ok (.invokestatic idx, 3)) (h : xcall E a 9 (pc + 3) ls st σ o) (hp : xpost (xSem G p l e R s m args below meth c nL nx0 sl0 nxF slF Q) K o) : xSem G p l e R s m args below meth c nL nx0 sl0 nxF slF Q (pc, ls, st, σ) := by
  obtain ⟨hx, hb, hml, hown, hts, hK, hN, hf, hlo, hRc, hRs, hE⟩ := C
  obtain ⟨x, y, r, rfl, hr, rfl⟩ := x2_inv h
  have hb1 : σ.2.1 ≤ nxF := hp.1.1
  have hb2 : σ.2.2 ≤ slF := hp.1.2
  refine ⟨hp.1, fun H locs L h1 h2 hR hl hL => ?_⟩
  exact va_mmax hx hb (by rw [hml]; exact hL.2.1.symm) hown hlink hstat hini hcode (by omega) (by rw [x_cats]; omega) (by show σ.2.1 - nx0 ≤ R.cells; omega) (by show σ.2.2 - sl0 ≤ R.slots; omega) hd (hp.2 H locs L h1 h2 hR hl hL)
theorem sn_min {d : Nat} {own : String} (C : xCx G p l R s m args c cc nL d nx0 sl0 nxF slF own E) {idx : Nat} (hlink : (Cond.methodLink own idx Lib.Math.min.name).before args s = true) (hstat : (Cond.static Lib.Math.min.name).before args s = true) (hini : (Cond.initialized "java/lang/Math").before args s = true) (hcode : (Cond.code Lib.Math.min.name Lib.Math.min.code 2 (some .int)).before args s = true)
    (hd : decode cc pc = .ok (.invokestatic idx, 3)) (h : xcall E a 10 (pc + 3) ls st σ o) (hp : xpost (xSem G p l e R s m args below meth c nL nx0 sl0 nxF slF Q) K o) : xSem G p l e R s m args below meth c nL nx0 sl0 nxF slF Q (pc, ls, st, σ) := by
  obtain ⟨hx, hb, hml, hown, hts, hK, hN, hf, hlo, hRc, hRs, hE⟩ := C
  obtain ⟨x, y, r, rfl, hr, rfl⟩ := x2_inv h
  have hb1 : σ.2.1 ≤ nxF := hp.1.1
  have hb2 : σ.2.2 ≤ slF := hp.1.2
  refine ⟨hp.1, fun H locs L h1 h2 hR hl hL => ?_⟩
  exact va_mmin hx hb (by rw [hml]; exact hL.2.1.symm) hown hlink hstat hini hcode (by omega) (by rw [x_cats]; omega) (by show σ.2.1 - nx0 ≤ R.cells; omega) (by show σ.2.2 - sl0 ≤ R.slots; omega) hd (hp.2 H locs L h1 h2 hR hl hL)
theorem sn_checkcast (hx : p.tables.exec = Jvm.exec) (hb : c.code = cc) (hK : xK G s) {own : String} {idx : Nat} (hown : s.vm.findClass own = some m.cls) (hlink : (Cond.classLink own idx "[I").before args s = true)
    (hd : decode cc pc = .ok (.checkcast idx, 3)) (h : xst E (.checkcast idx) 3 a b pc ls st σ o) (hp : xpost (xSem G p l e R s m args below meth c nL nx0 sl0 nxF slF Q) K o) : xSem G p l e R s m args below meth c nL nx0 sl0 nxF slF Q (pc, ls, st, σ) := by
  obtain ⟨q, r, rfl, n, f, hq, hq2, rfl⟩ := xr_inv h
  refine ⟨hp.1, fun H locs L h1 h2 hR hl hL => ?_⟩
  have r1 := xR_arr2 hR hq hq2
  refine va_castA (D := G.2.2.2.1) (cl := xcl) (ws := [(xad G q, .inl (G.2.2.2.2.1 0, n, .inl f))]) hx hb hown hlink (fun k x hk => ?_) 0 rfl (hK.2.1 0).2 hd (hp.2 H locs L h1 h2 hR hl hL)
  have hz : k < 1 := (List.getElem?_eq_some_iff.mp hk).1
  rw [show k = 0 by omega] at hk
  cases hk
  exact r1
end XSND
