/-! ALL TOGETHER -/
theorem x_le_sem {G : xG} {p : Program} {l : Launch} {e : Env} {R : Room} {s : State} {m : MethodId} {args : Array Value} {below : List Frame} {meth : Method} {c : Code} {nL nx0 sl0 nxF slF : Nat} {Q : State → Prop} {pc : Nat} {ls0 ls : xL} {st : List xV} {σ : xS} (hle : xle ls0 ls)
    (h : xSem G p l e R s m args below meth c nL nx0 sl0 nxF slF Q (pc, ls0, st, σ)) : xSem G p l e R s m args below meth c nL nx0 sl0 nxF slF Q (pc, ls, st, σ) :=
  ⟨h.1, fun H locs L h1 h2 hR hl hL => h.2 H locs L h1 h2 hR hl (xlv_le hL hle)⟩
theorem x_lt8 {a : Nat} (h : a < 8) : xcl[a]? = some (xcl.getD a xc0) := by
  have : a < xcl.length := h
  rw [List.getD_eq_getElem?_getD, List.getElem?_eq_getElem this]
  rfl
/-- the types of the fields of a kind -/
def xtt (a : Nat) : Nat → FieldType := ([xt0, xt1, xt2, xt3, xt4, xt5, xt6, xt7].getD a xt0)
def xCok (a : Nat) : Prop := (∀ w ∈ u_ws (xcl.getD a xc0).1 (xcl.getD a xc0).2.1 (xcl.getD a xc0).2.2, w ∈ xW) ∧ (∀ k, k < (xcl.getD a xc0).2.2 → parseFieldDescriptor ((xcl.getD a xc0).2.1 k).2.2.1 = some (xtt a k)) ∧ (∀ i, i < (xcl.getD a xc0).2.2 → ∀ j, j < (xcl.getD a xc0).2.2 → i ≠ j → ((xcl.getD a xc0).2.1 i).2.1 ≠ ((xcl.getD a xc0).2.1 j).2.1) ∧
  (∀ k, k < (xcl.getD a xc0).2.2 → xftok (xft a k) (xtt a k) = true) ∧ (∀ (G : xG) (k : Nat), k < (xcl.getD a xc0).2.2 → defaultValue (xtt a k) = vp_V ((xdf a).map (xv G)) k) ∧ Cond.instantiable (xcl.getD a xc0).1 (xcl.getD a xc0).2.2 ∈ xW ∧ Cond.initialized (xcl.getD a xc0).1 ∈ xW ∧ (∀ k, k < (xcl.getD a xc0).2.2 → ((xcl.getD a xc0).2.1 k).1 = xon a)
set_option maxRecDepth 50000 in
theorem xC_0 : xCok 0 := by
  refine ⟨?_, by decide +kernel, by decide +kernel, by decide +kernel, ?_, xW_at 67 rfl rfl, xW_at 55 rfl rfl, by decide +kernel⟩
  · intro w hw
    obtain ⟨k, hk, rfl⟩ := List.mem_map.mp hw
    have hk : k < 5 := List.mem_range.mp hk
    rcases Nat.lt_or_ge k 1 with h0 | h0
    · obtain rfl : k = 0 := by omega
      exact xW_at 203 rfl rfl
    rcases Nat.lt_or_ge k 2 with h1 | h1
    · obtain rfl : k = 1 := by omega
      exact xW_at 205 rfl rfl
    rcases Nat.lt_or_ge k 3 with h2 | h2
    · obtain rfl : k = 2 := by omega
      exact xW_at 207 rfl rfl
    rcases Nat.lt_or_ge k 4 with h3 | h3
    · obtain rfl : k = 3 := by omega
      exact xW_at 209 rfl rfl
    obtain rfl : k = 4 := by omega
    exact xW_at 211 rfl rfl
  · intro G k hk
    have hk : k < 5 := hk
    rcases Nat.lt_or_ge k 1 with h0 | h0
    · obtain rfl : k = 0 := by omega
      rfl
    rcases Nat.lt_or_ge k 2 with h1 | h1
    · obtain rfl : k = 1 := by omega
      rfl
    rcases Nat.lt_or_ge k 3 with h2 | h2
    · obtain rfl : k = 2 := by omega
      rfl
    rcases Nat.lt_or_ge k 4 with h3 | h3
    · obtain rfl : k = 3 := by omega
      rfl
    obtain rfl : k = 4 := by omega
    rfl
set_option maxRecDepth 50000 in
theorem xC_1 : xCok 1 := by
  refine ⟨?_, by decide +kernel, by decide +kernel, by decide +kernel, ?_, xW_at 234 rfl rfl, xW_at 63 rfl rfl, by decide +kernel⟩
  · intro w hw
    obtain ⟨k, hk, rfl⟩ := List.mem_map.mp hw
    have hk : k < 2 := List.mem_range.mp hk
    rcases Nat.lt_or_ge k 1 with h0 | h0
    · obtain rfl : k = 0 := by omega
      exact xW_at 265 rfl rfl
    obtain rfl : k = 1 := by omega
    exact xW_at 267 rfl rfl
  · intro G k hk
    have hk : k < 2 := hk
    rcases Nat.lt_or_ge k 1 with h0 | h0
    · obtain rfl : k = 0 := by omega
      rfl
    obtain rfl : k = 1 := by omega
    rfl
set_option maxRecDepth 50000 in
theorem xC_2 : xCok 2 := by
  refine ⟨?_, by decide +kernel, by decide +kernel, by decide +kernel, ?_, xW_at 170 rfl rfl, xW_at 61 rfl rfl, by decide +kernel⟩
  · intro w hw
    obtain ⟨k, hk, rfl⟩ := List.mem_map.mp hw
    have hk : k < 1 := List.mem_range.mp hk
        obtain rfl : k = 0 := by omega
    exact xW_at 178 rfl rfl
  · intro G k hk
    have hk : k < 1 := hk
        obtain rfl : k = 0 := by omega
    rfl
set_option maxRecDepth 50000 in
theorem xC_3 : xCok 3 := by
  refine ⟨?_, by decide +kernel, by decide +kernel, by decide +kernel, ?_, xW_at 84 rfl rfl, xW_at 57 rfl rfl, by decide +kernel⟩
  · intro w hw
    obtain ⟨k, hk, rfl⟩ := List.mem_map.mp hw
    have hk : k < 6 := List.mem_range.mp hk
    rcases Nat.lt_or_ge k 1 with h0 | h0
    · obtain rfl : k = 0 := by omega
      exact xW_at 98 rfl rfl
    rcases Nat.lt_or_ge k 2 with h1 | h1
    · obtain rfl : k = 1 := by omega
      exact xW_at 100 rfl rfl
    rcases Nat.lt_or_ge k 3 with h2 | h2
    · obtain rfl : k = 2 := by omega
      exact xW_at 102 rfl rfl
    rcases Nat.lt_or_ge k 4 with h3 | h3
    · obtain rfl : k = 3 := by omega
      exact xW_at 104 rfl rfl
    rcases Nat.lt_or_ge k 5 with h4 | h4
    · obtain rfl : k = 4 := by omega
      exact xW_at 106 rfl rfl
    obtain rfl : k = 5 := by omega
    exact xW_at 108 rfl rfl
  · intro G k hk
    have hk : k < 6 := hk
    rcases Nat.lt_or_ge k 1 with h0 | h0
    · obtain rfl : k = 0 := by omega
      rfl
    rcases Nat.lt_or_ge k 2 with h1 | h1
    · obtain rfl : k = 1 := by omega
      rfl
    rcases Nat.lt_or_ge k 3 with h2 | h2
    · obtain rfl : k = 2 := by omega
      rfl
    rcases Nat.lt_or_ge k 4 with h3 | h3
    · obtain rfl : k = 3 := by omega
      rfl
    rcases Nat.lt_or_ge k 5 with h4 | h4
    · obtain rfl : k = 4 := by omega
      rfl
    obtain rfl : k = 5 := by omega
    rfl
set_option maxRecDepth 50000 in
theorem xC_4 : xCok 4 := by
  refine ⟨?_, by decide +kernel, by decide +kernel, by decide +kernel, ?_, xW_at 77 rfl rfl, xW_at 56 rfl rfl, by decide +kernel⟩
  · intro w hw
    obtain ⟨k, hk, rfl⟩ := List.mem_map.mp hw
    have hk : k < 5 := List.mem_range.mp hk
    rcases Nat.lt_or_ge k 1 with h0 | h0
    · obtain rfl : k = 0 := by omega
      exact xW_at 186 rfl rfl
    rcases Nat.lt_or_ge k 2 with h1 | h1
    · obtain rfl : k = 1 := by omega
      exact xW_at 188 rfl rfl
    rcases Nat.lt_or_ge k 3 with h2 | h2
    · obtain rfl : k = 2 := by omega
      exact xW_at 190 rfl rfl
    rcases Nat.lt_or_ge k 4 with h3 | h3
    · obtain rfl : k = 3 := by omega
      exact xW_at 192 rfl rfl
    obtain rfl : k = 4 := by omega
    exact xW_at 194 rfl rfl
  · intro G k hk
    have hk : k < 5 := hk
    rcases Nat.lt_or_ge k 1 with h0 | h0
    · obtain rfl : k = 0 := by omega
      rfl
    rcases Nat.lt_or_ge k 2 with h1 | h1
    · obtain rfl : k = 1 := by omega
      rfl
    rcases Nat.lt_or_ge k 3 with h2 | h2
    · obtain rfl : k = 2 := by omega
      rfl
    rcases Nat.lt_or_ge k 4 with h3 | h3
    · obtain rfl : k = 3 := by omega
      rfl
    obtain rfl : k = 4 := by omega
    rfl
set_option maxRecDepth 50000 in
theorem xC_5 : xCok 5 := by
  refine ⟨?_, by decide +kernel, by decide +kernel, by decide +kernel, ?_, xW_at 122 rfl rfl, xW_at 60 rfl rfl, by decide +kernel⟩
  · intro w hw
    obtain ⟨k, hk, rfl⟩ := List.mem_map.mp hw
    have hk : k < 3 := List.mem_range.mp hk
    rcases Nat.lt_or_ge k 1 with h0 | h0
    · obtain rfl : k = 0 := by omega
      exact xW_at 135 rfl rfl
    rcases Nat.lt_or_ge k 2 with h1 | h1
    · obtain rfl : k = 1 := by omega
      exact xW_at 137 rfl rfl
    obtain rfl : k = 2 := by omega
    exact xW_at 139 rfl rfl
  · intro G k hk
    have hk : k < 3 := hk
    rcases Nat.lt_or_ge k 1 with h0 | h0
    · obtain rfl : k = 0 := by omega
      rfl
    rcases Nat.lt_or_ge k 2 with h1 | h1
    · obtain rfl : k = 1 := by omega
      rfl
    obtain rfl : k = 2 := by omega
    rfl
set_option maxRecDepth 50000 in
theorem xC_6 : xCok 6 := by
  refine ⟨?_, by decide +kernel, by decide +kernel, by decide +kernel, ?_, xW_at 114 rfl rfl, xW_at 59 rfl rfl, by decide +kernel⟩
  · intro w hw
    obtain ⟨k, hk, rfl⟩ := List.mem_map.mp hw
    have hk : k < 9 := List.mem_range.mp hk
    rcases Nat.lt_or_ge k 1 with h0 | h0
    · obtain rfl : k = 0 := by omega
      exact xW_at 151 rfl rfl
    rcases Nat.lt_or_ge k 2 with h1 | h1
    · obtain rfl : k = 1 := by omega
      exact xW_at 153 rfl rfl
    rcases Nat.lt_or_ge k 3 with h2 | h2
    · obtain rfl : k = 2 := by omega
      exact xW_at 155 rfl rfl
    rcases Nat.lt_or_ge k 4 with h3 | h3
    · obtain rfl : k = 3 := by omega
      exact xW_at 157 rfl rfl
    rcases Nat.lt_or_ge k 5 with h4 | h4
    · obtain rfl : k = 4 := by omega
      exact xW_at 159 rfl rfl
    rcases Nat.lt_or_ge k 6 with h5 | h5
    · obtain rfl : k = 5 := by omega
      exact xW_at 161 rfl rfl
    rcases Nat.lt_or_ge k 7 with h6 | h6
    · obtain rfl : k = 6 := by omega
      exact xW_at 163 rfl rfl
    rcases Nat.lt_or_ge k 8 with h7 | h7
    · obtain rfl : k = 7 := by omega
      exact xW_at 165 rfl rfl
    obtain rfl : k = 8 := by omega
    exact xW_at 167 rfl rfl
  · intro G k hk
    have hk : k < 9 := hk
    rcases Nat.lt_or_ge k 1 with h0 | h0
    · obtain rfl : k = 0 := by omega
      rfl
    rcases Nat.lt_or_ge k 2 with h1 | h1
    · obtain rfl : k = 1 := by omega
      rfl
    rcases Nat.lt_or_ge k 3 with h2 | h2
    · obtain rfl : k = 2 := by omega
      rfl
    rcases Nat.lt_or_ge k 4 with h3 | h3
    · obtain rfl : k = 3 := by omega
      rfl
    rcases Nat.lt_or_ge k 5 with h4 | h4
    · obtain rfl : k = 4 := by omega
      rfl
    rcases Nat.lt_or_ge k 6 with h5 | h5
    · obtain rfl : k = 5 := by omega
      rfl
    rcases Nat.lt_or_ge k 7 with h6 | h6
    · obtain rfl : k = 6 := by omega
      rfl
    rcases Nat.lt_or_ge k 8 with h7 | h7
    · obtain rfl : k = 7 := by omega
      rfl
    obtain rfl : k = 8 := by omega
    rfl
set_option maxRecDepth 50000 in
theorem xC_7 : xCok 7 := by
  refine ⟨?_, by decide +kernel, by decide +kernel, by decide +kernel, ?_, xW_at 595 rfl rfl, xW_at 62 rfl rfl, by decide +kernel⟩
  · intro w hw
    obtain ⟨k, hk, rfl⟩ := List.mem_map.mp hw
    have hk : k < 20 := List.mem_range.mp hk
    rcases Nat.lt_or_ge k 1 with h0 | h0
    · obtain rfl : k = 0 := by omega
      exact xW_at 620 rfl rfl
    rcases Nat.lt_or_ge k 2 with h1 | h1
    · obtain rfl : k = 1 := by omega
      exact xW_at 622 rfl rfl
    rcases Nat.lt_or_ge k 3 with h2 | h2
    · obtain rfl : k = 2 := by omega
      exact xW_at 624 rfl rfl
    rcases Nat.lt_or_ge k 4 with h3 | h3
    · obtain rfl : k = 3 := by omega
      exact xW_at 626 rfl rfl
    rcases Nat.lt_or_ge k 5 with h4 | h4
    · obtain rfl : k = 4 := by omega
      exact xW_at 628 rfl rfl
    rcases Nat.lt_or_ge k 6 with h5 | h5
    · obtain rfl : k = 5 := by omega
      exact xW_at 630 rfl rfl
    rcases Nat.lt_or_ge k 7 with h6 | h6
    · obtain rfl : k = 6 := by omega
      exact xW_at 632 rfl rfl
    rcases Nat.lt_or_ge k 8 with h7 | h7
    · obtain rfl : k = 7 := by omega
      exact xW_at 634 rfl rfl
    rcases Nat.lt_or_ge k 9 with h8 | h8
    · obtain rfl : k = 8 := by omega
      exact xW_at 636 rfl rfl
    rcases Nat.lt_or_ge k 10 with h9 | h9
    · obtain rfl : k = 9 := by omega
      exact xW_at 638 rfl rfl
    rcases Nat.lt_or_ge k 11 with h10 | h10
    · obtain rfl : k = 10 := by omega
      exact xW_at 640 rfl rfl
    rcases Nat.lt_or_ge k 12 with h11 | h11
    · obtain rfl : k = 11 := by omega
      exact xW_at 642 rfl rfl
    rcases Nat.lt_or_ge k 13 with h12 | h12
    · obtain rfl : k = 12 := by omega
      exact xW_at 644 rfl rfl
    rcases Nat.lt_or_ge k 14 with h13 | h13
    · obtain rfl : k = 13 := by omega
      exact xW_at 646 rfl rfl
    rcases Nat.lt_or_ge k 15 with h14 | h14
    · obtain rfl : k = 14 := by omega
      exact xW_at 648 rfl rfl
    rcases Nat.lt_or_ge k 16 with h15 | h15
    · obtain rfl : k = 15 := by omega
      exact xW_at 650 rfl rfl
    rcases Nat.lt_or_ge k 17 with h16 | h16
    · obtain rfl : k = 16 := by omega
      exact xW_at 652 rfl rfl
    rcases Nat.lt_or_ge k 18 with h17 | h17
    · obtain rfl : k = 17 := by omega
      exact xW_at 654 rfl rfl
    rcases Nat.lt_or_ge k 19 with h18 | h18
    · obtain rfl : k = 18 := by omega
      exact xW_at 656 rfl rfl
    obtain rfl : k = 19 := by omega
    exact xW_at 658 rfl rfl
  · intro G k hk
    have hk : k < 20 := hk
    rcases Nat.lt_or_ge k 1 with h0 | h0
    · obtain rfl : k = 0 := by omega
      rfl
    rcases Nat.lt_or_ge k 2 with h1 | h1
    · obtain rfl : k = 1 := by omega
      rfl
    rcases Nat.lt_or_ge k 3 with h2 | h2
    · obtain rfl : k = 2 := by omega
      rfl
    rcases Nat.lt_or_ge k 4 with h3 | h3
    · obtain rfl : k = 3 := by omega
      rfl
    rcases Nat.lt_or_ge k 5 with h4 | h4
    · obtain rfl : k = 4 := by omega
      rfl
    rcases Nat.lt_or_ge k 6 with h5 | h5
    · obtain rfl : k = 5 := by omega
      rfl
    rcases Nat.lt_or_ge k 7 with h6 | h6
    · obtain rfl : k = 6 := by omega
      rfl
    rcases Nat.lt_or_ge k 8 with h7 | h7
    · obtain rfl : k = 7 := by omega
      rfl
    rcases Nat.lt_or_ge k 9 with h8 | h8
    · obtain rfl : k = 8 := by omega
      rfl
    rcases Nat.lt_or_ge k 10 with h9 | h9
    · obtain rfl : k = 9 := by omega
      rfl
    rcases Nat.lt_or_ge k 11 with h10 | h10
    · obtain rfl : k = 10 := by omega
      rfl
    rcases Nat.lt_or_ge k 12 with h11 | h11
    · obtain rfl : k = 11 := by omega
      rfl
    rcases Nat.lt_or_ge k 13 with h12 | h12
    · obtain rfl : k = 12 := by omega
      rfl
    rcases Nat.lt_or_ge k 14 with h13 | h13
    · obtain rfl : k = 13 := by omega
      rfl
    rcases Nat.lt_or_ge k 15 with h14 | h14
    · obtain rfl : k = 14 := by omega
      rfl
    rcases Nat.lt_or_ge k 16 with h15 | h15
    · obtain rfl : k = 15 := by omega
      rfl
    rcases Nat.lt_or_ge k 17 with h16 | h16
    · obtain rfl : k = 16 := by omega
      rfl
    rcases Nat.lt_or_ge k 18 with h17 | h17
    · obtain rfl : k = 17 := by omega
      rfl
    rcases Nat.lt_or_ge k 19 with h18 | h18
    · obtain rfl : k = 18 := by omega
      rfl
    obtain rfl : k = 19 := by omega
    rfl
theorem xC_all {a : Nat} (h : a < 8) : xCok a := by
  rcases (show a = 0 ∨ a = 1 ∨ a = 2 ∨ a = 3 ∨ a = 4 ∨ a = 5 ∨ a = 6 ∨ a = 7 by omega) with rfl | rfl | rfl | rfl | rfl | rfl | rfl | rfl
  · exact xC_0
  · exact xC_1
  · exact xC_2
  · exact xC_3
  · exact xC_4
  · exact xC_5
  · exact xC_6
  · exact xC_7
theorem x_getD {y : Nat} (h : y < 143) : xMo y := xMall_lt xM_all y h
theorem xN_m {args : Array Value} {s : State} (hN : xN s) {w own idx a : Nat} (h : xNm[w]? = some (own, idx, a)) : (Cond.methodLinkNest (xon own) idx (xmn a) "RenameMerge").before args s = true := va_Nw.use rfl (hN.1 _ (List.mem_of_getElem? h))
theorem xN_f {args : Array Value} {s : State} (hN : xN s) {w own idx : Nat} (h : xNf[w]? = some (own, idx)) : (Cond.fieldLinkNest (xon own) idx xNLc xNLn xNLd "RenameMerge").before args s = true := va_Nw.use rfl (hN.2.1 _ (List.mem_of_getElem? h))
/-- what is known of a callee -/
theorem x_callee {y : Nat} (h : y < 143) : xgood y ∧ (xmk y = 0 → Cond.static (xmn y) ∈ xW ∧ ∀ sig, parseMethodDescriptor (xmn y).desc = some sig → xma y = sig.parameters.length) ∧
    (xmk y = 1 → Cond.instanceMethod (xmn y) ∈ xW ∧ Cond.selects (xmn y).cls (xmn y) (xmn y) ∈ xW ∧ (∀ r, xcl[xmc y]? = some r → r.1 = (xmn y).cls) ∧ ∀ sig, parseMethodDescriptor (xmn y).desc = some sig → xma y = sig.parameters.length + 1) ∧
    (xmk y = 2 → Cond.instanceMethod (xmn y) ∈ xW ∧ (xmn y).name = "<init>" ∧ xmr y = none ∧ ∀ sig, parseMethodDescriptor (xmn y).desc = some sig → xma y = sig.parameters.length + 1) := by
  obtain ⟨wc, wi, wm, ws, h1, h2, h3, h4, h5, h6, h7⟩ := x_getD h
  have hnum := List.all_eq_true.mp xnums_ok y (List.mem_range.mpr h)
  unfold xnums at hnum
  simp only [Bool.and_eq_true, decide_eq_true_eq] at hnum
  refine ⟨⟨xW_at _ h1 rfl, xW_at _ h2 rfl, h3, hnum.1⟩, fun hk => ?_, fun hk => ?_, fun hk => ?_⟩
  · rw [hk] at h6 h7
    simp only [if_true] at h6 h7
    exact ⟨xW_at _ h7 rfl, fun sig hs => by rw [hs] at h6; have := Option.some.inj h6; omega⟩
  · rw [hk] at h6 h7
    simp at h6 h7
    obtain ⟨g1, g2, g3⟩ := h7
    refine ⟨xW_at _ g1 rfl, xW_at _ g2 rfl, fun r hr => ?_, fun sig hs => ?_⟩
    · obtain ⟨a, b, c, e1, e2⟩ := g3
      rw [hr] at e1
      cases e1
      exact e2
    · obtain ⟨a, e1, e2⟩ := h6
      rw [hs] at e1
      cases e1
      omega
  · rw [hk] at h6 h7
    simp at h6 h7
    obtain ⟨g1, g2, g3⟩ := h7
    refine ⟨xW_at _ g1 rfl, g2, g3, fun sig hs => ?_⟩
    obtain ⟨a, e1, e2⟩ := h6
    rw [hs] at e1
    cases e1
    omega
section XALL
variable {G : xG} {p : Program} {l : Launch} {e : Env} {R : Room} {s : State} {m : MethodId} {args : Array Value} {below : List Frame} {meth : Method} {c : Code} {nL nx0 sl0 nxF slF d : Nat} {Q : State → Prop}
variable {E : Nat → List xV → xS → Option xV → xS → Prop} {K : Option xV → xS → Prop} {cc : ByteArray} {own : Nat} {rt : Option FieldType} {tb : List xI}
/-- what the method's end needs -/
def xRet (G : xG) (p : Program) (l : Launch) (e : Env) (R : Room) (s : State) (m : MethodId) (args : Array Value) (below : List Frame) (meth : Method) (c : Code) (cc : ByteArray) (rt : Option FieldType) (nx0 sl0 nxF slF : Nat) (Q : State → Prop) (K : Option xV → xS → Prop) : Prop :=
  (∀ v σ, K v σ → σ.2.1 ≤ nxF ∧ σ.2.2 ≤ slF) ∧
  (∀ (pc : Nat) (H : Heap) (locs : List Loc) (L : Array Slot) (σ : xS) (x : Int32), K (some (.inl x)) σ → nx0 ≤ σ.2.1 → sl0 ≤ σ.2.2 → xR G s σ H → (∀ q ∈ locs, G.2.2.1 ≤ q.base) → decode cc pc = .ok (.ireturn, 1) → (rt = some .int ∨ (rt = some .boolean ∧ (x = 0 ∨ x = 1))) → W p l e R s m args below meth c H locs (σ.2.1 - nx0) (σ.2.2 - sl0) Q (F0 m pc L [.int x])) ∧
  (∀ (pc : Nat) (H : Heap) (locs : List Loc) (L : Array Slot) (σ : xS) (q : Option Nat), K (some (.inr q)) σ → nx0 ≤ σ.2.1 → sl0 ≤ σ.2.2 → xR G s σ H → (∀ q ∈ locs, G.2.2.1 ≤ q.base) → decode cc pc = .ok (.areturn, 1) → (∃ t, rt = some t ∧ ((∃ n, t = .object n) ∨ ∃ u, t = .array u)) → W p l e R s m args below meth c H locs (σ.2.1 - nx0) (σ.2.2 - sl0) Q (F0 m pc L [xv G (.inr q)])) ∧
  (∀ (pc : Nat) (H : Heap) (locs : List Loc) (L : Array Slot) (σ : xS), K none σ → nx0 ≤ σ.2.1 → sl0 ≤ σ.2.2 → xR G s σ H → (∀ q ∈ locs, G.2.2.1 ≤ q.base) → decode cc pc = .ok (.return_, 1) → rt = none → W p l e R s m args below meth c H locs (σ.2.1 - nx0) (σ.2.2 - sl0) Q (F0 m pc L []))
theorem x_all (C : xCx G p l R s m args c cc nL d nx0 sl0 nxF slF (xon own) E) {ini : Bool} (hini : ini = true → meth.name = "<init>") (hv : tb.all (xvl own rt cc nL ini) = true) (hret : xRet G p l e R s m args below meth c cc rt nx0 sl0 nxF slF Q K) :
    ∀ (t : xT) (o : xO), xstep E tb t o → xpost (xSem G p l e R s m args below meth c nL nx0 sl0 nxF slF Q) K o → xSem G p l e R s m args below meth c nL nx0 sl0 nxF slF Q t := by
  rintro ⟨pc, ls, st, σ⟩ o ⟨ls0, ⟨pc', i, len, a, b, w⟩, hle, hx, hpc, hst⟩ hp
  have hpc : pc' = pc := hpc
  subst hpc
  refine x_le_sem hle ?_
  have hrow := List.all_eq_true.mp hv _ hx
  clear hle hx ls
  unfold xvl at hrow
  simp only [Bool.and_eq_true, decide_eq_true_eq] at hrow
  obtain ⟨hd, hrow⟩ := hrow
  have hst : xst E i len a b pc' ls0 st σ o := hst
  have hx := C.1
  have hb := C.2.1
  have hown := C.2.2.2.1
  have hts := C.2.2.2.2.1
  have hK := C.2.2.2.2.2.1
  have hN := C.2.2.2.2.2.2.1
  have hRc := C.2.2.2.2.2.2.2.2.2.1
  have hRs := C.2.2.2.2.2.2.2.2.2.2.1
  cases i
  case iadd =>
    unfold xvi at hrow; simp only [Bool.and_eq_true, decide_eq_true_eq] at hrow
    subst hrow
    exact sn_iadd hx hb hd hst hp
  case isub =>
    unfold xvi at hrow; simp only [Bool.and_eq_true, decide_eq_true_eq] at hrow
    subst hrow
    exact sn_isub hx hb hd hst hp
  case imul =>
    unfold xvi at hrow; simp only [Bool.and_eq_true, decide_eq_true_eq] at hrow
    subst hrow
    exact sn_imul hx hb hd hst hp
  case iand =>
    unfold xvi at hrow; simp only [Bool.and_eq_true, decide_eq_true_eq] at hrow
    subst hrow
    exact sn_iand hx hb hd hst hp
  case ior =>
    unfold xvi at hrow; simp only [Bool.and_eq_true, decide_eq_true_eq] at hrow
    subst hrow
    exact sn_ior hx hb hd hst hp
  case idiv =>
    unfold xvi at hrow; simp only [Bool.and_eq_true, decide_eq_true_eq] at hrow
    subst hrow
    exact sn_idiv hx hb hd hst hp
  case irem =>
    unfold xvi at hrow; simp only [Bool.and_eq_true, decide_eq_true_eq] at hrow
    subst hrow
    exact sn_irem hx hb hd hst hp
  case ishl =>
    unfold xvi at hrow; simp only [Bool.and_eq_true, decide_eq_true_eq] at hrow
    subst hrow
    exact sn_ishl hx hb hd hst hp
  case ishr =>
    unfold xvi at hrow; simp only [Bool.and_eq_true, decide_eq_true_eq] at hrow
    subst hrow
    exact sn_ishr hx hb hd hst hp
  case iushr =>
    unfold xvi at hrow; simp only [Bool.and_eq_true, decide_eq_true_eq] at hrow
    subst hrow
    exact sn_iushr hx hb hd hst hp
  case i2b =>
    unfold xvi at hrow; simp only [Bool.and_eq_true, decide_eq_true_eq] at hrow
    subst hrow
    exact sn_i2b hx hb hd hst hp
  case dup =>
    unfold xvi at hrow; simp only [Bool.and_eq_true, decide_eq_true_eq] at hrow
    subst hrow
    exact sn_dup hx hb hd hst hp
  case dup2 =>
    unfold xvi at hrow; simp only [Bool.and_eq_true, decide_eq_true_eq] at hrow
    subst hrow
    exact sn_dup2 hx hb hd hst hp
  case aconst_null =>
    unfold xvi at hrow; simp only [Bool.and_eq_true, decide_eq_true_eq] at hrow
    subst hrow
    exact sn_null hx hb hd hst hp
  case iconst n =>
    unfold xvi at hrow; simp only [Bool.and_eq_true, decide_eq_true_eq] at hrow
    obtain ⟨rfl, hv⟩ := hrow
    exact sn_iconst hx hb hd hv hst hp
  case bipush n =>
    unfold xvi at hrow; simp only [Bool.and_eq_true, decide_eq_true_eq] at hrow
    obtain ⟨rfl, hv⟩ := hrow
    exact sn_bipush hx hb hd hv hst hp
  case sipush n =>
    unfold xvi at hrow; simp only [Bool.and_eq_true, decide_eq_true_eq] at hrow
    obtain ⟨rfl, hv⟩ := hrow
    exact sn_sipush hx hb hd hv hst hp
  case iload_n n =>
    unfold xvi at hrow; simp only [Bool.and_eq_true, decide_eq_true_eq] at hrow
    subst hrow
    exact sn_iload_n hx hb hd hst hp
  case aload_n n =>
    unfold xvi at hrow; simp only [Bool.and_eq_true, decide_eq_true_eq] at hrow
    subst hrow
    exact sn_aload_n hx hb hd hst hp
  case iload n =>
    unfold xvi at hrow; simp only [Bool.and_eq_true, decide_eq_true_eq] at hrow
    subst hrow
    exact sn_iload hx hb hd hst hp
  case aload n =>
    unfold xvi at hrow; simp only [Bool.and_eq_true, decide_eq_true_eq] at hrow
    subst hrow
    exact sn_aload hx hb hd hst hp
  case istore_n n =>
    unfold xvi at hrow; simp only [Bool.and_eq_true, decide_eq_true_eq] at hrow
    obtain ⟨rfl, hk⟩ := hrow
    exact sn_istore_n hx hb hd hk hst hp
  case astore_n n =>
    unfold xvi at hrow; simp only [Bool.and_eq_true, decide_eq_true_eq] at hrow
    obtain ⟨rfl, hk⟩ := hrow
    exact sn_astore_n hx hb hd hk hst hp
  case istore n =>
    unfold xvi at hrow; simp only [Bool.and_eq_true, decide_eq_true_eq] at hrow
    obtain ⟨rfl, hk⟩ := hrow
    exact sn_istore hx hb hd hk hst hp
  case astore n =>
    unfold xvi at hrow; simp only [Bool.and_eq_true, decide_eq_true_eq] at hrow
    obtain ⟨rfl, hk⟩ := hrow
    exact sn_astore hx hb hd hk hst hp
  case iinc k n =>
    unfold xvi at hrow; simp only [Bool.and_eq_true, decide_eq_true_eq] at hrow
    obtain ⟨⟨rfl, hk⟩, hv⟩ := hrow
    exact sn_iinc hx hb hd hk hv hst hp
  case ifCond k off =>
    unfold xvi at hrow; simp only [Bool.and_eq_true, decide_eq_true_eq] at hrow
    obtain ⟨rfl, ht⟩ := hrow
    exact sn_ifCond hx hb hd ht hst hp
  case if_icmp k off =>
    unfold xvi at hrow; simp only [Bool.and_eq_true, decide_eq_true_eq] at hrow
    obtain ⟨rfl, ht⟩ := hrow
    exact sn_if_icmp hx hb hd ht hst hp
  case ifnull off =>
    unfold xvi at hrow; simp only [Bool.and_eq_true, decide_eq_true_eq] at hrow
    obtain ⟨rfl, ht⟩ := hrow
    exact sn_ifnull hx hb hd ht hst hp
  case ifnonnull off =>
    unfold xvi at hrow; simp only [Bool.and_eq_true, decide_eq_true_eq] at hrow
    obtain ⟨rfl, ht⟩ := hrow
    exact sn_ifnonnull hx hb hd ht hst hp
  case goto off =>
    unfold xvi at hrow; simp only [Bool.and_eq_true, decide_eq_true_eq] at hrow
    obtain ⟨rfl, ht⟩ := hrow
    exact sn_goto hx hb hd ht hst hp
  case tableswitch f lo hi offs =>
    exact sn_tableswitch hx hb hd hst hp
  case iaload =>
    unfold xvi at hrow; simp only [Bool.and_eq_true, decide_eq_true_eq] at hrow
    subst hrow
    exact sn_iaload hx hb hK hd hst hp
  case aaload =>
    unfold xvi at hrow; simp only [Bool.and_eq_true, decide_eq_true_eq] at hrow
    subst hrow
    exact sn_aaload hx hb hK hd hst hp
  case iastore =>
    unfold xvi at hrow; simp only [Bool.and_eq_true, decide_eq_true_eq] at hrow
    subst hrow
    exact sn_iastore hx hb hK hd hst hp
  case arraylength =>
    unfold xvi at hrow; simp only [Bool.and_eq_true, decide_eq_true_eq] at hrow
    subst hrow
    exact sn_arraylength hx hb hK hd hst hp
  case baload =>
    unfold xvi at hrow; simp only [Bool.and_eq_true, decide_eq_true_eq] at hrow
    obtain ⟨rfl, ha⟩ := hrow
    exact sn_baload hx hb hK hd ha hst hp
  case bastore =>
    unfold xvi at hrow; simp only [Bool.and_eq_true, decide_eq_true_eq] at hrow
    obtain ⟨rfl, ha⟩ := hrow
    exact sn_bastore hx hb hK hd ha hst hp
  case aastore =>
    unfold xvi at hrow; simp only [Bool.and_eq_true, decide_eq_true_eq] at hrow
    obtain ⟨rfl, ha⟩ := hrow
    exact sn_aastore hx hb hK hd ha hst hp
  case getfield idx =>
    unfold xvi at hrow; simp only [Bool.and_eq_true, decide_eq_true_eq] at hrow
    obtain ⟨rfl, hf⟩ := hrow
    unfold xvf at hf; simp only [Bool.and_eq_true, decide_eq_true_eq] at hf
    obtain ⟨⟨ha, hbn⟩, hw⟩ := hf
    have CC := xC_all ha
    exact sn_getfield hx hb hK hts CC.1 hown (x_lt8 ha) hbn (hts _ (xlw_in hw)) hd hst hp
  case putfield idx =>
    unfold xvi at hrow; simp only [Bool.and_eq_true, decide_eq_true_eq] at hrow
    obtain ⟨⟨rfl, hf⟩, hfin⟩ := hrow
    unfold xvf at hf; simp only [Bool.and_eq_true, decide_eq_true_eq] at hf
    obtain ⟨⟨ha, hbn⟩, hw⟩ := hf
    have CC := xC_all ha
    refine sn_putfield hx hb hK hts CC.1 hown (x_lt8 ha) hbn (xtt a) CC.2.1 CC.2.2.1 (CC.2.2.2.1 b hbn) ?_ (hts _ (xlw_in hw)) hd hst hp
    simp only [Bool.or_eq_true, Bool.and_eq_true, decide_eq_true_eq, Bool.not_eq_true'] at hfin
    rcases hfin with hfin | ⟨h1, h2⟩
    · exact Or.inl hfin
    · cases hfl : ((xcl.getD a xc0).2.1 b).2.2.2
      · exact Or.inl rfl
      · exact Or.inr ⟨rfl, hini h1, by rw [CC.2.2.2.2.2.2.2 b hbn, h2]⟩
  case new idx =>
    unfold xvi at hrow; simp only [Bool.and_eq_true, decide_eq_true_eq] at hrow
    obtain ⟨⟨⟨rfl, ha⟩, rfl⟩, hw⟩ := hrow
    have CC := xC_all ha
    unfold xvk at hw; simp only [decide_eq_true_eq] at hw
    exact sn_new hx hb hK hts CC.1 hown (x_lt8 ha) (xtt a) CC.2.1 CC.2.2.2.2.1 hRc hRs (hts _ (xlw_in hw)) (hts _ CC.2.2.2.2.2.1) (hts _ CC.2.2.2.2.2.2.1) hd hst hp
  case newarray q =>
    unfold xvi at hrow; simp only [Bool.and_eq_true, decide_eq_true_eq] at hrow
    obtain ⟨⟨rfl, hat⟩, ha⟩ := hrow
    refine sn_newarray hx hb hK (hts _ ?_) hat hRc hRs hd hst hp
    rw [hat]
    rcases (show a = 0 ∨ a = 1 ∨ a = 2 by omega) with rfl | rfl | rfl
    · exact xW_at 111 rfl rfl
    · exact xW_at 661 rfl rfl
    · exact xW_at 112 rfl rfl
  case anewarray idx =>
    unfold xvi at hrow; simp only [Bool.and_eq_true, decide_eq_true_eq] at hrow
    obtain ⟨⟨rfl, ha⟩, hw⟩ := hrow
    unfold xvk at hw; simp only [decide_eq_true_eq] at hw
    have hw := hts _ (xlw_in hw)
    rcases (show a = 0 ∨ a = 1 by omega) with rfl | rfl
    · exact sn_anewarray hx hb hK hown rfl hw (hts _ (xW_at 176 rfl rfl)) hRc hRs hd hst hp
    · exact sn_anewarray hx hb hK hown rfl hw (hts _ (xW_at 75 rfl rfl)) hRc hRs hd hst hp
  case multianewarray idx n =>
    unfold xvi at hrow; simp only [Bool.and_eq_true, decide_eq_true_eq] at hrow
    obtain ⟨⟨rfl, rfl⟩, hw⟩ := hrow
    unfold xvk at hw; simp only [decide_eq_true_eq] at hw
    exact sn_multi C (hts _ (xlw_in hw)) hd hst hp
  case getstatic idx =>
    unfold xvi at hrow; simp only [Bool.and_eq_true, decide_eq_true_eq] at hrow
    obtain ⟨rfl, hw⟩ := hrow
    exact sn_getstatic hx hb hown (Or.inr ⟨_, xN_f hN hw⟩) hd hst hp
  case checkcast idx =>
    unfold xvi at hrow; simp only [Bool.and_eq_true, decide_eq_true_eq] at hrow
    obtain ⟨rfl, hw⟩ := hrow
    unfold xvk at hw; simp only [decide_eq_true_eq] at hw
    exact sn_checkcast hx hb hK hown (hts _ (xlw_in hw)) hd hst hp
  case invokespecial idx =>
    unfold xvi at hrow; simp only [Bool.and_eq_true, decide_eq_true_eq] at hrow
    obtain ⟨rfl, hw⟩ := hrow
    by_cases hb6 : b = 6
    · subst hb6
      rw [if_pos rfl] at hw
      unfold xvk at hw; simp only [decide_eq_true_eq] at hw
      exact sn_objInit C (hts _ (xlw_in hw)) (hts _ (xW_at 72 rfl rfl)) (hts _ (xW_at 73 rfl rfl)) hd hst hp
    rw [if_neg hb6] at hw
    simp only [Bool.and_eq_true, decide_eq_true_eq] at hw
    obtain ⟨hw, hk⟩ := hw
    unfold xvc at hw
    by_cases hb2 : b = 2 * 0
    · rw [if_pos hb2] at hw
      simp only [Bool.and_eq_true, decide_eq_true_eq] at hw
      obtain ⟨ha, hw⟩ := hw
      have CC := x_callee ha
      obtain ⟨g1, g2, g3, g4⟩ := CC.2.2.2 hk
      subst hb2
      exact sn_callI C CC.1 g4 g1 g2 g3 (hts _ (xlw_in hw)) hd hst hp
    · rw [if_neg hb2] at hw
      simp only [Bool.and_eq_true, decide_eq_true_eq] at hw
      obtain ⟨⟨hb3, ha⟩, hw⟩ := hw
      have CC := x_callee ha
      obtain ⟨g1, g2, g3, g4⟩ := CC.2.2.2 hk
      subst hb3
      exact sn_callIN C CC.1 g4 g1 g2 g3 (xN_m hN hw) hd hst hp
  case invokevirtual idx =>
    unfold xvi at hrow; simp only [Bool.and_eq_true, decide_eq_true_eq] at hrow
    obtain ⟨rfl, hw⟩ := hrow
    by_cases hb6 : b = 7
    · subst hb6
      rw [if_pos rfl] at hw
      unfold xvk at hw; simp only [decide_eq_true_eq] at hw
      exact sn_clone C (hts _ (xlw_in hw)) (hts _ (xW_at 242 rfl rfl)) (hts _ (xW_at 243 rfl rfl)) (hts _ (xW_at 244 rfl rfl)) (hts _ (xW_at 245 rfl rfl)) hN.2.2 hd hst hp
    rw [if_neg hb6] at hw
    simp only [Bool.and_eq_true, decide_eq_true_eq] at hw
    obtain ⟨hw, hk⟩ := hw
    unfold xvc at hw
    by_cases hb2 : b = 2 * 1
    · rw [if_pos hb2] at hw
      simp only [Bool.and_eq_true, decide_eq_true_eq] at hw
      obtain ⟨ha, hw⟩ := hw
      have CC := x_callee ha
      obtain ⟨g1, g2, g3, g4⟩ := CC.2.2.1 hk
      subst hb2
      exact sn_callV C CC.1 g4 g3 g1 g2 (hts _ (xlw_in hw)) hd hst hp
    · rw [if_neg hb2] at hw
      simp only [Bool.and_eq_true, decide_eq_true_eq] at hw
      obtain ⟨⟨hb3, ha⟩, hw⟩ := hw
      have CC := x_callee ha
      obtain ⟨g1, g2, g3, g4⟩ := CC.2.2.1 hk
      subst hb3
      exact sn_callVN C CC.1 g4 g3 g1 g2 (xN_m hN hw) hd hst hp
  case invokestatic idx =>
    unfold xvi at hrow; simp only [Bool.and_eq_true, decide_eq_true_eq] at hrow
    obtain ⟨rfl, hw⟩ := hrow
    by_cases hb6 : b = 8
    · subst hb6
      rw [if_pos rfl] at hw
      unfold xvk at hw; simp only [decide_eq_true_eq] at hw
      exact sn_arraycopy C (hts _ (xlw_in hw)) (hts _ (xW_at 253 rfl rfl)) (hts _ (xW_at 252 rfl rfl)) (hts _ (xW_at 65 rfl rfl)) hd hst hp
    rw [if_neg hb6] at hw
    by_cases hb7 : b = 9
    · subst hb7
      rw [if_pos rfl] at hw
      unfold xvk at hw; simp only [decide_eq_true_eq] at hw
      exact sn_max C (hts _ (xlw_in hw)) (hts _ (xW_at 295 rfl rfl)) (hts _ (xW_at 64 rfl rfl)) (hts _ (xW_at 296 rfl rfl)) hd hst hp
    rw [if_neg hb7] at hw
    by_cases hb8 : b = 10
    · subst hb8
      rw [if_pos rfl] at hw
      unfold xvk at hw; simp only [decide_eq_true_eq] at hw
      exact sn_min C (hts _ (xlw_in hw)) (hts _ (xW_at 249 rfl rfl)) (hts _ (xW_at 64 rfl rfl)) (hts _ (xW_at 250 rfl rfl)) hd hst hp
    rw [if_neg hb8] at hw
    simp only [Bool.and_eq_true, decide_eq_true_eq] at hw
    obtain ⟨hw, hk⟩ := hw
    unfold xvc at hw
    by_cases hb2 : b = 2 * 2
    · rw [if_pos hb2] at hw
      simp only [Bool.and_eq_true, decide_eq_true_eq] at hw
      obtain ⟨ha, hw⟩ := hw
      have CC := x_callee ha
      obtain ⟨g1, g2⟩ := CC.2.1 hk
      subst hb2
      exact sn_callS C CC.1 g2 g1 (hts _ (xlw_in hw)) hd hst hp
    · rw [if_neg hb2] at hw
      simp only [Bool.and_eq_true, decide_eq_true_eq] at hw
      obtain ⟨⟨hb3, ha⟩, hw⟩ := hw
      have CC := x_callee ha
      obtain ⟨g1, g2⟩ := CC.2.1 hk
      subst hb3
      exact sn_callSN C CC.1 g2 g1 (xN_m hN hw) hd hst hp
  case ireturn =>
    unfold xvi at hrow; simp only [Bool.and_eq_true, decide_eq_true_eq] at hrow
    obtain ⟨rfl, hr⟩ := hrow
    match st, hst with
    | [.inl x], hst =>
      obtain ⟨h1, rfl⟩ := hst
      have hk : K (some (.inl x)) σ := hp
      refine ⟨hret.1 _ _ hk, fun H locs L n1 n2 hR hl hL => hret.2.1 pc' H locs L σ x hk n1 n2 hR hl hd ?_⟩
      by_cases ha : a = 1
      · rw [if_pos ha] at hr
        simp only [decide_eq_true_eq] at hr
        exact Or.inr ⟨hr, h1 ha⟩
      · rw [if_neg ha] at hr
        simp only [decide_eq_true_eq] at hr
        exact Or.inl hr
  case areturn =>
    unfold xvi at hrow; simp only [Bool.and_eq_true, decide_eq_true_eq] at hrow
    obtain ⟨rfl, hr⟩ := hrow
    match st, hst with
    | [.inr q], hst =>
      have hst : o = .inr (some (.inr q), σ) := hst
      subst hst
      have hk : K (some (.inr q)) σ := hp
      refine ⟨hret.1 _ _ hk, fun H locs L n1 n2 hR hl hL => hret.2.2.1 pc' H locs L σ q hk n1 n2 hR hl hd ?_⟩
      match rt, hr with
      | some (.object n), _ => exact ⟨_, rfl, Or.inl ⟨n, rfl⟩⟩
      | some (.array n), _ => exact ⟨_, rfl, Or.inr ⟨n, rfl⟩⟩
  case return_ =>
    unfold xvi at hrow; simp only [Bool.and_eq_true, decide_eq_true_eq] at hrow
    obtain ⟨rfl, hr⟩ := hrow
    match st, hst with
    | [], hst =>
      have hst : o = .inr (none, σ) := hst
      subst hst
      have hk : K none σ := hp
      exact ⟨hret.1 _ _ hk, fun H locs L n1 n2 hR hl hL => hret.2.2.2 pc' H locs L σ hk n1 n2 hR hl hd hr⟩
  all_goals exact hst.elim
end XALL
