/-! THE CLAIM OUT OF ONE WALK OF THE LAW'S BODY. Your part is whole_start (and what it stands on); all else here is the same for every law, but numbers. -/
def R_law : String := "RenameMergeLaw"
def lw_P (b : Addr) (xs : List Int32) (args : Array Value) (s : State) : Prop := args = #[.ref b] ∧ s.IntsAt b xs ∧ xs.length ≤ 2561 ∧ (Jvm.Cond.and given_1 narrow_1).before args s = true
def lw_Q (_ : Array Value) (s : State) (o : Outcome) (t : State) : Prop := o = .returned (some (.int 1)) ∧ Framed s o t [] 600000 7302250
def lw_Z (below : List Frame) (a : Array Value) (s : State) : State → Prop := fun t => ∃ o, t.status = .running ∧ Ended t below o ∧ lw_Q a s o t
/-- the law's own end, with 1 on the stack, nothing written that was there before, its room as the claim has it -/
theorem lw_ret {p : Program} {l : Launch} {e : Env} {s : State} {m : MethodId} {below : List Frame} {meth : Method} {c : Code} {b : Nat} (hx : p.tables.exec = Jvm.exec) (hb : c.code = code) (hr : meth.sig.returnType = ret) (hlocks : meth.locks = false) {pc : Nat} {H : Heap} {ls : Array Slot} (hdg : decode code pc = .ok (.ireturn, 1)) : W p l e room_1 s m #[Value.ref b] below meth c H [] 600000 7302250 (lw_Z below #[Value.ref b] s) (F0 m pc ls [.int 1]) := by
  intro T hT X
  obtain ⟨fs, hret, hrun, hended, hW, hframe⟩ := X.leave (v := some (.int 1)) (hlocks := hlocks) (fun h => by rw [hr] at h; cases h)
  have hmeth' : T.vm.method? m = some meth := X.method'
  refine ⟨T.setFrames fs, ?_, .returned (some (.int 1)), hrun, hended, rfl, ⟨_, rfl⟩, hW, hframe⟩
  jvm_step X.here [X.here.top, hx, hb, hdg, hmeth', hr, ret, narrow_b1]
  (try refine ⟨rfl, ?_⟩); (try refine ⟨rfl, ?_⟩)
  first | (intro acts; rw [hret _ acts rfl rfl rfl]) | rw [hret _ _ rfl rfl rfl]
  exact Steps.refl _
/-- what holds at the law's entry: the machine, the code, the tables' words (any of lw_tbl by 'hts w (by decide +kernel)'), the script of L ints xs at the cell b, what the Statement gives of the start (any of its parts by flat_of_before) -/
def lw_At (p : Program) (s : State) (m : MethodId) (meth : Method) (c : Code) (b L : Nat) (xs : Nat → Int32) : Prop :=
  p.tables.exec = Jvm.exec ∧ c.code = code ∧ meth.sig.returnType = ret ∧ c.maxLocals = 4 ∧ s.vm.findClass R_law = some m.cls ∧ (∀ w ∈ lw_tbl, w.before #[Value.ref b] s = true) ∧ va_X b L xs s s.heap ∧ b < s.heap.size ∧ meth.locks = false ∧ (Jvm.Cond.and given_1 narrow_1).before #[Value.ref b] s = true
-- ===== YOUR PART BEGINS =====
set_option maxRecDepth 50000 in
theorem x_start {p : Program} {e : Env} {s : State} {m : MethodId} {below : List Frame} {meth : Method} {c : Code} (l : Launch) {b L : Nat} {xs : Nat → Int32} (hL : L ≤ 2561) (C0 : lw_At p s m meth c b L xs) (hrun : xGo (xEx 9) (xtb 143) xEnd (0, [some (.inr (some 0)), none, none, none], [], xσ0 L xs)) :
    W p l e room_1 s m #[Value.ref b] below meth c s.heap [] 0 0 (lw_Z below #[Value.ref b] s) (entryFrame m ([Value.ref b] : List Value).toArray 4) := by
  obtain ⟨hx, hb, hr, hml, hown, hts, hX, hbl, hlocks, hgv⟩ := C0
  have hts' : ∀ w ∈ xW, w.before #[Value.ref b] s = true := fun w hw => hts w (List.mem_filter.mp hw).1
  have hfl := flat_of_before _ hgv
  have hA : ∀ a : Nat, a < s.heap.size → ¬ s.heap.size ≤ a := fun a h1 h2 => by omega
  have harr : (Cond.arrayOf (.static "RenameMerge" "NO_LINES" "[I") .int).before #[Value.ref b] s = true := hfl _ (by decide +kernel)
  have hlen : (Term.length (.static "RenameMerge" "NO_LINES" "[I")).eval #[Value.ref b] s none [] s = some (.int 0) := va_eqt (hfl (Cond.eq (.length (.static "RenameMerge" "NO_LINES" "[I")) (.int 0)) (by decide +kernel))
  obtain ⟨tN, htN, hTN⟩ := va_Tof (A := fun q => s.heap.size ≤ q) (N := 0) (f := fun _ => Value.int 0) (by decide) harr hlen (fun j hj => absurd hj (Nat.not_lt_zero j)) hA
  have hZ : va_Z xNLc xNLn xNLd (.ref tN) (fun q => s.heap.size ≤ q) s s.heap := va_Zref (hts _ (List.mem_of_getElem? (i := 128) rfl)) (hts _ (List.mem_of_getElem? (i := 55) rfl)) htN hA
  have htl : tN < s.heap.size := by
    obtain ⟨cell, h1, -⟩ := hTN
    exact (Array.getElem?_eq_some_iff.mp h1).1
  let D : va_G := (fun a => (Classical.choose (x_cl hts' a)).1, fun a => (Classical.choose (x_cl hts' a)).2)
  let G : xG := (b, tN, s.heap.size, D, fun t => Classical.choose (x_cp hts' t), fun t => Classical.choose (x_cq hts t))
  have hK : xK G s := by
    refine ⟨fun k q hq => ?_, fun t => Classical.choose_spec (x_cp hts' t), fun t => Classical.choose_spec (x_cq hts t)⟩
    have hk : k < 8 := (List.getElem?_eq_some_iff.mp hq).1
    have e9 : xcl.getD k xc0 = q := Option.some.inj ((x_lt8 hk).symm.trans hq)
    have hs := Classical.choose_spec (x_cl hts' k) hk
    subst e9
    exact hs
  have hN : xN s := xN_tbl hts
  have hR : xR G s (xσ0 L xs) s.heap := by
    refine ⟨Nat.le_refl 2, rfl, hbl, htl, fun k en hk => ?_, hZ⟩
    have hk' : (if k = 0 then some (.inl (0, L, xs)) else if k = 1 then some (.inl (0, 0, fun _ => 0)) else none) = some en := hk
    by_cases h0 : k = 0
    · rw [if_pos h0] at hk'
      cases hk'
      subst h0
      refine ⟨(by decide : 0 < 2), fun _ => ⟨rfl, ?_⟩, fun z => absurd z (by decide)⟩
      obtain ⟨scr, g1, g2, g3, g4, g5⟩ := hX
      exact ⟨scr, g1, g2, g3, Nat.le_of_eq g4.symm, by rw [g4] <;> rfl, g5, hA b hbl⟩
    · rw [if_neg h0] at hk'
      by_cases h1 : k = 1
      · rw [if_pos h1] at hk'
        cases hk'
        subst h1
        exact ⟨(by decide : 1 < 2), fun _ => ⟨rfl, hTN⟩, fun z => absurd z (by decide)⟩
      · rw [if_neg h1] at hk'
        cases hk'
  have C : xCx G p l room_1 s m #[Value.ref b] c code 4 9 2 0 600002 7302250 (xon 8) (xEx 9) :=
    ⟨hx, hb, hml, hown, hts', hK, hN, rfl, rfl, Nat.le_refl _, Nat.le_refl _, x_met (fun y hy => xVall_lt xV_all y (by omega)) 9⟩
  have hret : xRet G p l e room_1 s m #[Value.ref b] below meth c code (some .boolean) 2 0 600002 7302250 (lw_Z below #[Value.ref b] s) xEnd := by
    refine ⟨fun v σ hk => hk.2, ?_, ?_, ?_⟩
    · intro pc H locs L' σ x hk n1 n2 hR0 hl0 hd hrt
      obtain ⟨k1, k2, k3⟩ := hk
      have hx1 : x = 1 := Sum.inl.inj (Option.some.inj k1)
      subst hx1
      refine va_forget hl0 (W.widen (k := 600000) (n := 7302250) (by omega) (by omega) ?_)
      exact lw_ret hx hb hr hlocks hd
    · intro pc H locs L' σ q hk n1 n2 hR0 hl0 hd hrt
      have k1 : (some (.inr q) : Option xV) = some (.inl 1) := hk.1
      cases k1
    · intro pc H locs L' σ hk n1 n2 hR0 hl0 hd hrt
      have k1 : (none : Option xV) = some (.inl 1) := hk.1
      cases k1
  have hsem := hrun _ (x_all C (ini := false) (fun h => by cases h) (show (xtb 143).all (xvl 8 (some .boolean) code 4 false) = true from xVall_lt xV_all 143 (by decide)) hret)
  rw [lg_entry_eq]
  have hLv := x_entry (G := G) (as := [.inr (some 0)]) (n := 4) (by decide)
  exact hsem.2 s.heap [] _ (Nat.le_refl _) (Nat.le_refl _) hR (fun q hq => by cases hq) hLv
