/-! the instructions on arrays and fields -/
/-- what the tables say: the kinds of objects, of arrays -/
def xK (G : xG) (U : State) : Prop :=
  (∀ (k : Nat) (q : vw_C), xcl[k]? = some q → u_Kn U q.1 q.2.1 q.2.2 (G.2.2.2.1.1 k) (G.2.2.2.1.2 k)) ∧
  (∀ t : Nat, ArrOfT U (G.2.2.2.2.1 t) (xty t) ∧ U.vm.findClass ("[" ++ (xty t).toString) = some (G.2.2.2.2.1 t)) ∧
  (∀ t : Nat, ArrOfT U (G.2.2.2.2.2 t) (xqty t) ∧ (∃ (kA : Class) (comp : ClassId), U.vm.classes[G.2.2.2.2.2 t]? = some kA ∧ kA.kind = .array comp (xqty t) ∧ U.vm.findClass (xqn t) = some comp) ∧ U.vm.findClass ("[" ++ (xqty t).toString) = some (G.2.2.2.2.2 t))
theorem xK_moved {G : xG} {u U : State} (hvm : u.vm.Alike U.vm) (h : xK G u) : xK G U := by
  refine ⟨fun k q hq => u_Kn_moved hvm (h.1 k q hq), fun t => ⟨arrOfT_moved hvm (h.2.1 t).1, by rw [hvm.findClass]; exact (h.2.1 t).2⟩, fun t => ⟨arrOfT_moved hvm (h.2.2 t).1, ?_, by rw [hvm.findClass]; exact (h.2.2 t).2.2⟩⟩
  obtain ⟨kA, comp, h1, h2, h3⟩ := (h.2.2 t).2.1
  obtain ⟨k', hk', he⟩ := hvm.2.2 _ _ h1
  exact ⟨k', comp, hk', by rw [he]; exact h2, by rw [hvm.findClass]; exact h3⟩
theorem xR_arr {G : xG} {U : State} {σ : xS} {H : Heap} (h : xR G U σ H) (hK : xK G U) {q t n : Nat} {f : Nat → Int32} (hq : σ.1 q = some (.inl (t, n, f))) :
    ∃ cell : Cell, H[xad G q]? = some cell ∧ U.isArrayOf cell (xty t) ∧ cell.vm ≠ .unknown ∧ (n ≤ cell.slots.size ∧ cell.slots.size.toInt32 = Int32.ofNat n) ∧ ∀ j : Nat, j < n → cell.slots[j]? = some (.int (f j)) := by
  obtain ⟨-, -, -, -, h5, -⟩ := h
  obtain ⟨-, g2, g3⟩ := h5 q _ hq
  by_cases hlt : q < 2
  · obtain ⟨ht, scr, r1, r2, r3, r4, r5, r6, -⟩ := g2 hlt
    subst ht
    exact ⟨scr, r1, r2, r3, ⟨r4, r5⟩, r6⟩
  · have r1 : H[xad G q]? = some (arrV (G.2.2.2.2.1 t) n (fun j => .int (f j))) := g3 (by omega)
    exact ⟨_, r1, (hK.2.1 t).1 n _, (fun z => by cases z), ⟨Nat.le_of_eq (arrV_size _ _ _).symm, by rw [arrV_size] <;> rfl⟩, fun j hj => arrV_read _ _ hj⟩
theorem xR_arr2 {G : xG} {U : State} {σ : xS} {H : Heap} (h : xR G U σ H) {q t n : Nat} {f : Nat → Int32} (hq : σ.1 q = some (.inl (t, n, f))) (h2 : 2 ≤ q) : H[xad G q]? = some (arrV (G.2.2.2.2.1 t) n (fun j => .int (f j))) := (h.2.2.2.2.1 q _ hq).2.2 h2
theorem xR_nz {G : xG} {U : State} {σ : xS} {H : Heap} (h : xR G U σ H) {q t n : Nat} {f : Nat → Int32} (hq : σ.1 q = some (.inl (t, n, f))) (ht : t ≠ 0) : 2 ≤ q := by
  obtain ⟨-, g2, -⟩ := h.2.2.2.2.1 q _ hq
  by_cases hlt : q < 2
  · exact absurd (g2 hlt).1 ht
  · omega
theorem xR_refs {G : xG} {U : State} {σ : xS} {H : Heap} (h : xR G U σ H) {q t n : Nat} {g : Nat → Option Nat} (hq : σ.1 q = some (.inr (.inl (t, n, g)))) : 2 ≤ q ∧ H[xad G q]? = some (arrV (G.2.2.2.2.2 t) n (fun j => xv G (.inr (g j)))) := by
  obtain ⟨-, g2, g3⟩ := h.2.2.2.2.1 q _ hq
  by_cases hlt : q < 2
  · exact (g2 hlt).elim
  · exact ⟨by omega, g3 (by omega)⟩
theorem xR_obj {G : xG} {U : State} {σ : xS} {H : Heap} (h : xR G U σ H) {q a : Nat} {fs : List xV} (hq : σ.1 q = some (.inr (.inr (a, fs)))) : 2 ≤ q ∧ ∃ r : vw_C, xcl[a]? = some r ∧ t_OB (xad G q) (G.2.2.2.1.1 a) r.2.2 (G.2.2.2.1.2 a) H (vp_V (fs.map (xv G))) := by
  obtain ⟨-, g2, g3⟩ := h.2.2.2.2.1 q _ hq
  by_cases hlt : q < 2
  · exact (g2 hlt).elim
  · exact ⟨by omega, g3 (by omega)⟩
theorem x_in {j n : Nat} (h : j < n) (h2 : j < 2147483648) : ¬ (nI j < 0 ∨ n ≤ (nI j).toNatClampNeg) := by
  rw [nI_clamp h2]
  rintro (q | q)
  · exact nI_pos h2 q
  · omega
section XSND
variable {G : xG} {p : Program} {l : Launch} {e : Env} {R : Room} {s : State} {m : MethodId} {args : Array Value} {below : List Frame} {meth : Method} {c : Code} {nL nx0 sl0 nxF slF : Nat} {Q : State → Prop}
variable {E : Nat → List xV → xS → Option xV → xS → Prop} {K : Option xV → xS → Prop} {cc : ByteArray} {pc a b : Nat} {ls : xL} {st : List xV} {σ : xS} {o : xO}
theorem x_in2 {j n z : Nat} (h : j < n) (h2 : j < 2147483648) (hz : n ≤ z) : ¬ (nI j < 0 ∨ z ≤ (nI j).toNatClampNeg) := x_in (by omega) h2
theorem sn_iaload (hx : p.tables.exec = Jvm.exec) (hb : c.code = cc) (hK : xK G s) (hd : decode cc pc = .ok (.iaload, 1)) (h : xst E .iaload 1 a b pc ls st σ o) (hp : xpost (xSem G p l e R s m args below meth c nL nx0 sl0 nxF slF Q) K o) : xSem G p l e R s m args below meth c nL nx0 sl0 nxF slF Q (pc, ls, st, σ) := by
  match st, h with
  | .inl x :: .inr (some q) :: r, h =>
    obtain ⟨n, f, j, hq, rfl, hj, hj2, rfl⟩ := h
    refine ⟨hp.1, fun H locs L h1 h2 hR hl hL => ?_⟩
    obtain ⟨cell, r1, r2, r3, r4, r5⟩ := xR_arr hR hK hq
    exact W.iald hx hb r1 r2 r3 (x_in2 hj hj2 r4.1) (by rw [nI_clamp hj2]; exact r5 j hj) rfl rfl hd (hp.2 H locs L h1 h2 hR hl hL)
theorem sn_baload (hx : p.tables.exec = Jvm.exec) (hb : c.code = cc) (hK : xK G s) (hd : decode cc pc = .ok (.baload, 1)) (ha : a = 1 ∨ a = 2) (h : xst E .baload 1 a b pc ls st σ o) (hp : xpost (xSem G p l e R s m args below meth c nL nx0 sl0 nxF slF Q) K o) : xSem G p l e R s m args below meth c nL nx0 sl0 nxF slF Q (pc, ls, st, σ) := by
  match st, h with
  | .inl x :: .inr (some q) :: r, h =>
    obtain ⟨n, f, j, hq, rfl, hj, hj2, rfl⟩ := h
    refine ⟨hp.1, fun H locs L h1 h2 hR hl hL => ?_⟩
    obtain ⟨cell, r1, r2, r3, r4, r5⟩ := xR_arr hR hK hq
    rcases ha with rfl | rfl
    · exact W.bald hx hb r1 r2 r3 (x_in2 hj hj2 r4.1) (by rw [nI_clamp hj2]; exact r5 j hj) rfl rfl hd (hp.2 H locs L h1 h2 hR hl hL)
    · exact W.zald hx hb r1 r2 r3 (x_in2 hj hj2 r4.1) (by rw [nI_clamp hj2]; exact r5 j hj) rfl rfl hd (hp.2 H locs L h1 h2 hR hl hL)
theorem x_upd (f : Nat → Int32) (j : Nat) (x : Int32) : (updV (fun k => .int (f k)) j (.int x)) = (fun k => Value.int (upd f j x k)) := by
  funext k
  by_cases h : k = j
  · simp [updV, upd, h]
  · simp [updV, upd, h]
theorem sn_iastore (hx : p.tables.exec = Jvm.exec) (hb : c.code = cc) (hK : xK G s) (hd : decode cc pc = .ok (.iastore, 1)) (h : xst E .iastore 1 a b pc ls st σ o) (hp : xpost (xSem G p l e R s m args below meth c nL nx0 sl0 nxF slF Q) K o) : xSem G p l e R s m args below meth c nL nx0 sl0 nxF slF Q (pc, ls, st, σ) := by
  match st, h with
  | .inl v :: .inl x :: .inr (some q) :: r, h =>
    obtain ⟨n, f, j, hq, rfl, hj, hj2, hq2, rfl⟩ := h
    refine ⟨hp.1, fun H locs L h1 h2 hR hl hL => ?_⟩
    have r1 := xR_arr2 hR hq hq2
    refine W.iast hx hb r1 ((hK.2.1 0).1 n _) (fun z => by cases z) (by rw [arrV_size]; exact x_in hj hj2) rfl rfl hd (fun H' e1 e2 e3 => ?_)
    rw [nI_clamp hj2, arrV_store, x_upd] at e1
    refine hp.2 H' _ L h1 h2 (xR_up hR hq2 hq e2 e3 e1) ?_ hL
    exact t_lc hl (by rw [xad_2 hq2]; omega)
theorem sn_bastore (hx : p.tables.exec = Jvm.exec) (hb : c.code = cc) (hK : xK G s) (hd : decode cc pc = .ok (.bastore, 1)) (ha : a = 1 ∨ a = 2) (h : xst E .bastore 1 a b pc ls st σ o) (hp : xpost (xSem G p l e R s m args below meth c nL nx0 sl0 nxF slF Q) K o) : xSem G p l e R s m args below meth c nL nx0 sl0 nxF slF Q (pc, ls, st, σ) := by
  match st, h with
  | .inl v :: .inl x :: .inr (some q) :: r, h =>
    obtain ⟨n, f, j, hq, rfl, hj, hj2, rfl⟩ := h
    refine ⟨hp.1, fun H locs L h1 h2 hR hl hL => ?_⟩
    have hq2 : 2 ≤ q := xR_nz hR hq (by omega)
    have r1 := xR_arr2 hR hq hq2
    rcases ha with rfl | rfl
    · refine W.bast hx hb r1 ((hK.2.1 1).1 n _) (fun z => by cases z) (by rw [arrV_size]; exact x_in hj hj2) rfl rfl hd (fun H' e1 e2 e3 => ?_)
      rw [nI_clamp hj2, arrV_store] at e1
      refine hp.2 H' _ L h1 h2 (xR_up hR hq2 hq e2 e3 ?_) (t_lc hl (by rw [xad_2 hq2]; omega)) hL
      exact e1.trans (congrArg (fun F => some (arrV (G.2.2.2.2.1 1) n F)) (x_upd f j (xnar 1 v)))
    · refine W.zast hx hb r1 ((hK.2.1 2).1 n _) (fun z => by cases z) (by rw [arrV_size]; exact x_in hj hj2) rfl rfl hd (fun H' e1 e2 e3 => ?_)
      rw [nI_clamp hj2, arrV_store] at e1
      refine hp.2 H' _ L h1 h2 (xR_up hR hq2 hq e2 e3 ?_) (t_lc hl (by rw [xad_2 hq2]; omega)) hL
      exact e1.trans (congrArg (fun F => some (arrV (G.2.2.2.2.1 2) n F)) (x_upd f j (xnar 2 v)))
theorem x_qty (t : Nat) : (xqty t).isReference = true := by
  unfold xqty
  split
  · rfl
  · split <;> rfl
theorem sn_aaload (hx : p.tables.exec = Jvm.exec) (hb : c.code = cc) (hK : xK G s) (hd : decode cc pc = .ok (.aaload, 1)) (h : xst E .aaload 1 a b pc ls st σ o) (hp : xpost (xSem G p l e R s m args below meth c nL nx0 sl0 nxF slF Q) K o) : xSem G p l e R s m args below meth c nL nx0 sl0 nxF slF Q (pc, ls, st, σ) := by
  match st, h with
  | .inl x :: .inr (some q) :: r, h =>
    obtain ⟨t, n, g, j, hq, rfl, hj, hj2, rfl⟩ := h
    refine ⟨hp.1, fun H locs L h1 h2 hR hl hL => ?_⟩
    obtain ⟨hq2, r1⟩ := xR_refs hR hq
    exact W.aald hx hb r1 ((hK.2.2 t).1 n _) (x_qty t) (fun z => by cases z) (by rw [arrV_size]; exact x_in hj hj2) (by rw [nI_clamp hj2]; exact arrV_read _ _ hj) rfl rfl hd (hp.2 H locs L h1 h2 hR hl hL)
theorem x_updq (G : xG) (g : Nat → Option Nat) (j : Nat) (v : Option Nat) : (updV (fun k => xv G (.inr (g k))) j (xv G (.inr v))) = (fun k => xv G (.inr (va_up g j v k))) := by
  funext k
  by_cases h : k = j
  · simp [updV, va_up, h]
  · simp [updV, va_up, h]
theorem sn_aastore (hx : p.tables.exec = Jvm.exec) (hb : c.code = cc) (hK : xK G s) (hd : decode cc pc = .ok (.aastore, 1)) (ha : a < 2) (h : xst E .aastore 1 a b pc ls st σ o) (hp : xpost (xSem G p l e R s m args below meth c nL nx0 sl0 nxF slF Q) K o) : xSem G p l e R s m args below meth c nL nx0 sl0 nxF slF Q (pc, ls, st, σ) := by
  match st, h with
  | .inr v :: .inl x :: .inr (some q) :: r, h =>
    obtain ⟨n, g, j, hq, rfl, hj, hj2, hv, rfl⟩ := h
    refine ⟨hp.1, fun H locs L h1 h2 hR hl hL => ?_⟩
    obtain ⟨hq2, r1⟩ := xR_refs hR hq
    have hend : ∀ H' : Heap, H'[xad G q]? = some ((arrV (G.2.2.2.2.2 a) n (fun j => xv G (.inr (g j)))).setSlot (nI j).toNatClampNeg (xv G (.inr v))) → H'.size = H.size → (∀ q', q' ≠ xad G q → H'[q']? = H[q']?) → W p l e R s m args below meth c H' (locs ++ [⟨xad G q, (nI j).toNatClampNeg⟩]) (σ.2.1 - nx0) (σ.2.2 - sl0) Q (F0 m (pc + 1) L (r.map (xv G))) := by
      intro H' e1 e2 e3
      rw [nI_clamp hj2, arrV_store, x_updq] at e1
      exact hp.2 H' _ L h1 h2 (xR_up hR hq2 hq e2 e3 e1) (t_lc hl (by rw [xad_2 hq2]; omega)) hL
    obtain ⟨kA, comp, k1, k2, k3⟩ := (hK.2.2 a).2.1
    rcases hv with rfl | ⟨k, fs, rfl, hk⟩
    · have hob : ∃ C, xqty a = .object C := by
        rcases (show a = 0 ∨ a = 1 by omega) with rfl | rfl
        · exact ⟨_, rfl⟩
        · exact ⟨_, rfl⟩
      obtain ⟨C, hC⟩ := hob
      have hAr := (hK.2.2 a).1 n (fun j => xv G (.inr (g j)))
      rw [hC] at hAr
      exact va_WaastN hx hb r1 hAr (fun z => by cases z) (by rw [arrV_size]; exact x_in hj hj2) rfl rfl hd hend
    · obtain ⟨hk2, rr, hr, cellV, g1, g2, g3, -⟩ := xR_obj hR hk
      have hcls := (hK.1 _ rr hr).2
      have hnm : rr.1 = xqn a := by
        rcases (show a = 0 ∨ a = 1 by omega) with rfl | rfl
        · cases hr; rfl
        · cases hr; rfl
      rw [hnm] at hcls
      have hcomp : comp = G.2.2.2.1.1 (xqc a) := Option.some.inj (k3.symm.trans hcls.1)
      subst hcomp
      obtain ⟨kC, hkC, -⟩ := hcls.2
      exact W.aast hx hb r1 (fun z hz => by cases hz) (fun z => by cases z) k1 k2 (x_qty a) hkC ⟨fun z => nI_pos hj2 z, by rw [arrV_size, nI_clamp hj2]; exact hj⟩ g1 (fun z hz => by rw [g3] at hz; cases hz) (by rw [g2]; exact hkC) (by rw [g2]; exact va_assign hcls) rfl rfl hd hend
theorem sn_arraylength (hx : p.tables.exec = Jvm.exec) (hb : c.code = cc) (hK : xK G s) (hd : decode cc pc = .ok (.arraylength, 1)) (h : xst E .arraylength 1 a b pc ls st σ o) (hp : xpost (xSem G p l e R s m args below meth c nL nx0 sl0 nxF slF Q) K o) : xSem G p l e R s m args below meth c nL nx0 sl0 nxF slF Q (pc, ls, st, σ) := by
  obtain ⟨q, r, rfl, n, hn, rfl⟩ := xr_inv h
  refine ⟨hp.1, fun H locs L h1 h2 hR hl hL => ?_⟩
  cases hq : σ.1 q with
  | none => rw [hq] at hn; cases hn
  | some en =>
    match en, hq, hn with
    | .inl (t, n', f), hq, hn =>
      rw [hq] at hn
      cases hn
      obtain ⟨cell, r1, r2, r3, r4, r5⟩ := xR_arr hR hK hq
      exact W.alen hx hb r1 r2 r4.2 rfl rfl hd (hp.2 H locs L h1 h2 hR hl hL)
    | .inr (.inl (t, n', g)), hq, hn =>
      rw [hq] at hn
      cases hn
      obtain ⟨hq2, r1⟩ := xR_refs hR hq
      exact W.alen hx hb r1 ((hK.2.2 t).1 n _) (by rw [arrV_size]; rfl) rfl rfl hd (hp.2 H locs L h1 h2 hR hl hL)
    | .inr (.inr (c', fs)), hq, hn =>
      rw [hq] at hn
      cases hn
end XSND
/-! fields, new cells, ends -/
section XSND
variable {G : xG} {p : Program} {l : Launch} {e : Env} {R : Room} {s : State} {m : MethodId} {args : Array Value} {below : List Frame} {meth : Method} {c : Code} {nL nx0 sl0 nxF slF : Nat} {Q : State → Prop}
variable {E : Nat → List xV → xS → Option xV → xS → Prop} {K : Option xV → xS → Prop} {cc : ByteArray} {pc a b : Nat} {ls : xL} {st : List xV} {σ : xS} {o : xO}
theorem x_VV (G : xG) {fs : List xV} {k : Nat} {v : xV} (h : fs[k]? = some v) : vp_V (fs.map (xv G)) k = xv G v := by
  simp [vp_V, List.getD_eq_getElem?_getD, h]
theorem sn_getfield (hx : p.tables.exec = Jvm.exec) (hb : c.code = cc) (hK : xK G s) {own : String} {idx : Nat} {C : String} {T : u_T} {N : Nat} {Ts : List Cond} (hts : ∀ w ∈ Ts, w.before args s = true) (hin : ∀ w ∈ u_ws C T N, w ∈ Ts) (hown : s.vm.findClass own = some m.cls) (hc : xcl[a]? = some (C, T, N)) (hk : b < N)
    (hlink : (Cond.fieldLink own idx (T b).1 (T b).2.1 (T b).2.2.1).before args s = true) (hd : decode cc pc = .ok (.getfield idx, 3)) (h : xst E (.getfield idx) 3 a b pc ls st σ o) (hp : xpost (xSem G p l e R s m args below meth c nL nx0 sl0 nxF slF Q) K o) : xSem G p l e R s m args below meth c nL nx0 sl0 nxF slF Q (pc, ls, st, σ) := by
  obtain ⟨q, r, rfl, fs, v, hq, hv, rfl⟩ := xr_inv h
  refine ⟨hp.1, fun H locs L h1 h2 hR hl hL => ?_⟩
  obtain ⟨hq2, rr, hr, cell, q1, q2, q3, q4⟩ := xR_obj hR hq
  cases hr.symm.trans hc
  obtain ⟨hS, hfc, kC, hkC, hkind⟩ := hK.1 a _ hc
  obtain ⟨cf, kf, fi, f, hi, hsl⟩ := hS b hk
  refine W.getf hx hb hown hlink hi (u_facts hfc hkC (u_lays hts hin hk) hi).1 q1 (by rw [q3]; exact fun z => by cases z) (v := xv G v) ?_ rfl rfl hd (hp.2 H locs L h1 h2 hR hl hL)
  rw [hsl, q4 b hk, x_VV G hv]
theorem x_set (G : xG) (fs : List xV) (b : Nat) (v : xV) : (fs.set b v).map (xv G) = (fs.map (xv G)).set b (xv G v) := List.map_set ..
/-- what a field's kind says of its type -/
def xftok (k : Nat) (ty : FieldType) : Bool := match k, ty with
  | 0, .int => true
  | 1, .boolean => true
  | 2, .object _ => true
  | 2, .array _ => true
  | _, _ => false
theorem x_fits (G : xG) {v : xV} {ty : FieldType} (h : xfit a b v) (hk : xftok (xft a b) ty = true) : narrow ty (xv G v) = xv G v ∧ fits ty (xv G v) = true := by
  match v, h with
  | .inl x, h =>
    rcases h with h | ⟨h, h'⟩
    · rw [h] at hk
      cases ty <;> first | exact ⟨rfl, rfl⟩ | exact absurd hk (by decide) | cases hk
    · rw [h] at hk
      rcases h' with rfl | rfl
      · cases ty <;> first | exact ⟨rfl, rfl⟩ | exact absurd hk (by decide) | cases hk
      · cases ty <;> first | exact ⟨rfl, rfl⟩ | exact absurd hk (by decide) | cases hk
  | .inr none, h =>
    rw [show xft a b = 2 from h] at hk
    cases ty <;> first | exact ⟨rfl, rfl⟩ | exact absurd hk (by decide) | cases hk
  | .inr (some q), h =>
    rw [show xft a b = 2 from h] at hk
    cases ty <;> first | exact ⟨rfl, rfl⟩ | exact absurd hk (by decide) | cases hk
theorem sn_putfield (hx : p.tables.exec = Jvm.exec) (hb : c.code = cc) (hK : xK G s) {own : String} {idx : Nat} {C : String} {T : u_T} {N : Nat} {Ts : List Cond} (hts : ∀ w ∈ Ts, w.before args s = true) (hin : ∀ w ∈ u_ws C T N, w ∈ Ts) (hown : s.vm.findClass own = some m.cls) (hc : xcl[a]? = some (C, T, N)) (hk : b < N)
    (ty0 : Nat → FieldType) (hty : ∀ k, k < N → parseFieldDescriptor (T k).2.2.1 = some (ty0 k)) (hnm : ∀ a, a < N → ∀ b, b < N → a ≠ b → (T a).2.1 ≠ (T b).2.1) (hok : xftok (xft a b) (ty0 b) = true) (hfin : (T b).2.2.2 = false ∨ ((T b).2.2.2 = true ∧ meth.name = "<init>" ∧ (T b).1 = own))
    (hlink : (Cond.fieldLink own idx (T b).1 (T b).2.1 (T b).2.2.1).before args s = true) (hd : decode cc pc = .ok (.putfield idx, 3)) (h : xst E (.putfield idx) 3 a b pc ls st σ o) (hp : xpost (xSem G p l e R s m args below meth c nL nx0 sl0 nxF slF Q) K o) : xSem G p l e R s m args below meth c nL nx0 sl0 nxF slF Q (pc, ls, st, σ) := by
  match st, h with
  | v :: .inr (some q) :: r, h =>
    obtain ⟨fs, hq, hbl, hfit, rfl⟩ := h
    refine ⟨hp.1, fun H locs L h1 h2 hR hl hL => ?_⟩
    obtain ⟨hq2, rr, hr, cell, q1, q2, q3, q4⟩ := xR_obj hR hq
    cases hr.symm.trans hc
    obtain ⟨hn, hft⟩ := x_fits G hfit hok
    have hap : ∀ x y, x < N → y < N → x ≠ y → (G.2.2.2.1.2 a) x ≠ (G.2.2.2.1.2 a) y := va_apart (D := G.2.2.2.1) (cl := xcl) (tys := []) (own := own) hts hin ty0 hty hnm ⟨hK.1, fun k q hq => by cases hq⟩ hc
    obtain ⟨hS, hfc, kC, hkC, hkind⟩ := hK.1 a _ hc
    obtain ⟨cf, kf, fi, f, hi, hsl⟩ := hS b hk
    have hlay := hts _ (hin _ (u_in_lay hk))
    unfold u_lay at hlay
    have hst := (u_facts hfc hkC (u_lays hts hin hk) hi).1
    have hend : ∀ H' : Heap, H'[xad G q]? = some (cell.setSlot f.slot (xv G v)) → H'.size = H.size → (∀ q', q' ≠ xad G q → H'[q']? = H[q']?) → W p l e R s m args below meth c H' (locs ++ [⟨xad G q, f.slot⟩]) (σ.2.1 - nx0) (σ.2.2 - sl0) Q (F0 m (pc + 3) L (r.map (xv G))) := by
      intro H' e1 e2 e3
      rw [hsl] at e1
      refine hp.2 H' _ L h1 h2 (xR_up hR hq2 hq e2 e3 ?_) (t_lc hl (by rw [xad_2 hq2]; omega)) hL
      refine ⟨_, hc, ?_⟩
      rw [x_set]
      exact t_OB.to (V := updV (vp_V (fs.map (xv G))) b (xv G v)) ⟨_, e1, q2, q3, t_set q4 hap hk _⟩ (fun j _ => vp_updV_set (by rw [List.length_map]; exact hbl) _ j)
    rcases hfin with hf | ⟨hf, hin2, hdecl⟩
    · rw [if_neg (by rw [hf]; decide)] at hlay
      have h6 := u_store hfc hkC hkind hlay hi (hty b hk) hn hft
      exact W.putK hx hb (f := f) ⟨hown, hlink, ⟨_, _, _, hi⟩, hst⟩ (by rw [q2]; exact h6) q1 q3 (by rw [hsl]; exact k2_hasslot (q4 b hk)) rfl rfl hd hend
    · rw [if_pos hf] at hlay
      have hcf : m.cls = cf := by
        obtain ⟨_, _, c', _, _, _, -, -, hf', -, -, -, hown2, -⟩ := Cond.laysFinal_spec hlay
        have e1 : c' = cf := by have := hi.symm.trans hf'; simp at this; exact this.1.symm
        rw [hdecl] at hown2
        rw [← e1]; exact Option.some.inj (hown.symm.trans hown2)
      have h6 := u_fits hfc hkC hkind (Or.inr hlay) hi (hty b hk) hn hft
      exact W.putFinK hx hb hown hlink hi hst hcf hin2 (by rw [q2]; exact h6) q1 q3 (by rw [hsl]; exact k2_hasslot (q4 b hk)) rfl rfl hd hend
theorem sn_new (hx : p.tables.exec = Jvm.exec) (hb : c.code = cc) (hK : xK G s) {own : String} {idx : Nat} {C : String} {T : u_T} {N : Nat} {Ts : List Cond} (hts : ∀ w ∈ Ts, w.before args s = true) (hin : ∀ w ∈ u_ws C T N, w ∈ Ts) (hown : s.vm.findClass own = some m.cls) (hc : xcl[a]? = some (C, T, N))
    (ty0 : Nat → FieldType) (hty : ∀ k, k < N → parseFieldDescriptor (T k).2.2.1 = some (ty0 k)) (hdf : ∀ (G : xG) (k : Nat), k < N → defaultValue (ty0 k) = vp_V ((xdf a).map (xv G)) k) (hRc : nxF - nx0 ≤ R.cells) (hRs : slF - sl0 ≤ R.slots)
    (hcl : (Cond.classLink own idx C).before args s = true) (hinst : (Cond.instantiable C b).before args s = true) (hini : (Cond.initialized C).before args s = true)
    (hd : decode cc pc = .ok (.new idx, 3)) (h : xst E (.new idx) 3 a b pc ls st σ o) (hp : xpost (xSem G p l e R s m args below meth c nL nx0 sl0 nxF slF Q) K o) : xSem G p l e R s m args below meth c nL nx0 sl0 nxF slF Q (pc, ls, st, σ) := by
  have h : o = .inl (pc + 3, ls, .inr (some σ.2.1) :: st, xnew σ (.inr (.inr (a, xdf a))) b) := h
  subst h
  have hb1 : σ.2.1 + 1 ≤ nxF := hp.1.1
  have hb2 : σ.2.2 + b ≤ slF := hp.1.2
  refine ⟨⟨by show σ.2.1 ≤ nxF; omega, by show σ.2.2 ≤ slF; omega⟩, fun H locs L h1 h2 hR hl hL => ?_⟩
  have h1 : nx0 ≤ σ.2.1 := h1
  have h2 : sl0 ≤ σ.2.2 := h2
  have hnx := xR_nx hR
  obtain ⟨hS, hfc⟩ := hK.1 a _ hc
  have e1 : σ.2.1 - nx0 + 1 = (xnew σ (.inr (.inr (a, xdf a))) b).2.1 - nx0 := by show _ = σ.2.1 + 1 - nx0; omega
  have e2 : σ.2.2 - sl0 + b = (xnew σ (.inr (.inr (a, xdf a))) b).2.2 - sl0 := by show _ = σ.2.2 + b - sl0; omega
  refine W.newcK hx hb hown hcl hinst hini rfl hd (by show σ.2.1 - nx0 + 1 ≤ R.cells; omega) (by show σ.2.2 - sl0 + b ≤ R.slots; omega) hfc.1 hnx.symm (fun H' kC hkC g1 g2 g3 => ?_)
  show W p l e R s m args below meth c H' locs (σ.2.1 - nx0 + 1) (σ.2.2 - sl0 + b) Q _
  rw [e1, e2]
  refine hp.2 H' locs L (by show nx0 ≤ σ.2.1 + 1; omega) (by show sl0 ≤ σ.2.2 + b; omega) (xR_new b hR (by rw [g2, hnx]) (fun q hq => g3 q (by rw [hnx]; exact hq)) ?_) hl hL
  exact ⟨_, hc, (u_born ty0 hts hin ⟨hS, hfc⟩ hkC g1 hty).to (fun j hj => hdf G j hj)⟩
theorem sn_newarray (hx : p.tables.exec = Jvm.exec) (hb : c.code = cc) (hK : xK G s) {at_ : ArrayType} (harr : (Cond.arrayClass (newarray.typeOf at_)).before args s = true) (hat : newarray.typeOf at_ = xty a) (hRc : nxF - nx0 ≤ R.cells) (hRs : slF - sl0 ≤ R.slots)
    (hd : decode cc pc = .ok (.newarray at_, 2)) (h : xst E (.newarray at_) 2 a b pc ls st σ o) (hp : xpost (xSem G p l e R s m args below meth c nL nx0 sl0 nxF slF Q) K o) : xSem G p l e R s m args below meth c nL nx0 sl0 nxF slF Q (pc, ls, st, σ) := by
  obtain ⟨x, r, rfl, n, rfl, hn, rfl⟩ := x1_inv h
  have hb1 : σ.2.1 + 1 ≤ nxF := hp.1.1
  have hb2 : σ.2.2 + n ≤ slF := hp.1.2
  refine ⟨⟨by show σ.2.1 ≤ nxF; omega, by show σ.2.2 ≤ slF; omega⟩, fun H locs L h1 h2 hR hl hL => ?_⟩
  have h1 : nx0 ≤ σ.2.1 := h1
  have h2 : sl0 ≤ σ.2.2 := h2
  have hnx := xR_nx hR
  have hcl := nI_clamp (n := n) (by omega)
  have e1 : σ.2.1 - nx0 + 1 = (xnew σ (.inl (a, n, fun _ => 0)) n).2.1 - nx0 := by show _ = σ.2.1 + 1 - nx0; omega
  have e2 : σ.2.2 - sl0 + n = (xnew σ (.inl (a, n, fun _ => 0)) n).2.2 - sl0 := by show _ = σ.2.2 + n - sl0; omega
  refine va_newaK hx hb harr rfl hd rfl (nI_pos (by omega)) hcl ?_ (by show σ.2.1 - nx0 + 1 ≤ R.cells; omega) (by show σ.2.2 - sl0 + n ≤ R.slots; omega) hnx.symm (fun H' cA g1 g2 g3 g4 g5 => ?_)
  · have : componentBytes (newarray.typeOf at_) ≤ 8 := by cases at_ <;> decide
    calc n * componentBytes (newarray.typeOf at_) ≤ n * 8 := Nat.mul_le_mul_left _ this
      _ ≤ 536870912 := by omega
  · show W p l e R s m args below meth c H' locs (σ.2.1 - nx0 + 1) (σ.2.2 - sl0 + n) Q _
    rw [e1, e2]
    refine hp.2 H' locs L (by show nx0 ≤ σ.2.1 + 1; omega) (by show sl0 ≤ σ.2.2 + n; omega) (xR_new n hR (by rw [g2, hnx]) (fun q hq => g3 q (by rw [hnx]; exact hq)) ?_) hl hL
    rw [hat, (hK.2.1 a).2] at g5
    cases g5
    show H'[xad G σ.2.1]? = some (arrV (G.2.2.2.2.1 a) n (fun _ => .int 0))
    rw [g1]
    have : defaultValue (newarray.typeOf at_) = .int 0 := by
      rw [hat]
      unfold xty
      split
      · rfl
      · split <;> rfl
    rw [this]
theorem sn_anewarray (hx : p.tables.exec = Jvm.exec) (hb : c.code = cc) (hK : xK G s) {own : String} {idx : Nat} (hown : s.vm.findClass own = some m.cls) (ha : xqty a = .object (xqn a)) (hclink : (Cond.classLink own idx (xqn a)).before args s = true) (hover : (Cond.arrayOver (.object (xqn a))).before args s = true) (hRc : nxF - nx0 ≤ R.cells) (hRs : slF - sl0 ≤ R.slots)
    (hd : decode cc pc = .ok (.anewarray idx, 3)) (h : xst E (.anewarray idx) 3 a b pc ls st σ o) (hp : xpost (xSem G p l e R s m args below meth c nL nx0 sl0 nxF slF Q) K o) : xSem G p l e R s m args below meth c nL nx0 sl0 nxF slF Q (pc, ls, st, σ) := by
  obtain ⟨x, r, rfl, n, rfl, hn, rfl⟩ := x1_inv h
  have hb1 : σ.2.1 + 1 ≤ nxF := hp.1.1
  have hb2 : σ.2.2 + n ≤ slF := hp.1.2
  refine ⟨⟨by show σ.2.1 ≤ nxF; omega, by show σ.2.2 ≤ slF; omega⟩, fun H locs L h1 h2 hR hl hL => ?_⟩
  have h1 : nx0 ≤ σ.2.1 := h1
  have h2 : sl0 ≤ σ.2.2 := h2
  have hnx := xR_nx hR
  have hcl := nI_clamp (n := n) (by omega)
  have e1 : σ.2.1 - nx0 + 1 = (xnew σ (.inr (.inl (a, n, fun _ => none))) n).2.1 - nx0 := by show _ = σ.2.1 + 1 - nx0; omega
  have e2 : σ.2.2 - sl0 + n = (xnew σ (.inr (.inl (a, n, fun _ => none))) n).2.2 - sl0 := by show _ = σ.2.2 + n - sl0; omega
  refine W.anew hx hb hown hclink hover rfl hd rfl (nI_pos (by omega)) (by rw [hcl]; omega) (by show σ.2.1 - nx0 + 1 ≤ R.cells; omega) (by rw [hcl]; show σ.2.2 - sl0 + n ≤ R.slots; omega) (fun cA kA comp f1 f2 f3 f4 => ?_)
  rw [hcl]
  show W p l e R s m args below meth c _ locs (σ.2.1 - nx0 + 1) (σ.2.2 - sl0 + n) Q _
  rw [e1, e2, ← hnx]
  refine hp.2 _ locs L (by show nx0 ≤ σ.2.1 + 1; omega) (by show sl0 ≤ σ.2.2 + n; omega) (xR_new n hR (by rw [Array.size_push]) (fun q hq => by rw [Array.getElem?_push, if_neg (Nat.ne_of_lt hq)]) ?_) hl hL
  have g5 := (hK.2.2 a).2.2
  rw [ha, f1] at g5
  cases g5
  show _[xad G σ.2.1]? = some (arrV (G.2.2.2.2.2 a) n (fun _ => .null))
  rw [hnx, Array.getElem?_push_size, ← arrV_new]
end XSND
