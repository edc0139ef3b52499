/-! ALL TOGETHER -/
theorem x_le_sem {G : xG} {p : Program} {l : Launch} {e : Env} {R : Room} {s : State} {m : MethodId} {args : Array Value} {below : List Frame} {meth : Method} {c : Code} {nL nx0 sl0 nxF slF : Nat} {Q : State → Prop} {pc : Nat} {ls0 ls : xL} {st : List xV} {σ : xS} (hle : xle ls0 ls)
    (h : xSem G p l e R s m args below meth c nL nx0 sl0 nxF slF Q (pc, ls0, st, σ)) : xSem G p l e R s m args below meth c nL nx0 sl0 nxF slF Q (pc, ls, st, σ) :=
  ⟨h.1, fun H locs L h1 h2 hR hl hL => h.2 H locs L h1 h2 hR hl (xlv_le hL hle)⟩
theorem x_lt8 {a : Nat} (h : a < 8) : xcl[a]? = some (xcl.getD a xc0) := by
  have : a < xcl.length := h
  rw [List.getD_eq_getElem?_getD, List.getElem?_eq_getElem this]
  rfl
/-- the types of the fields of a kind -/
def xtt (a : Nat) : Nat → FieldType := ([xt0, xt1, xt2, xt3, xt4, xt5, xt6, xt7].getD a xt0)
def xCok (a : Nat) : Prop := (∀ w ∈ u_ws (xcl.getD a xc0).1 (xcl.getD a xc0).2.1 (xcl.getD a xc0).2.2, w ∈ xW) ∧ (∀ k, k < (xcl.getD a xc0).2.2 → parseFieldDescriptor ((xcl.getD a xc0).2.1 k).2.2.1 = some (xtt a k)) ∧ (∀ i, i < (xcl.getD a xc0).2.2 → ∀ j, j < (xcl.getD a xc0).2.2 → i ≠ j → ((xcl.getD a xc0).2.1 i).2.1 ≠ ((xcl.getD a xc0).2.1 j).2.1) ∧
  (∀ k, k < (xcl.getD a xc0).2.2 → xftok (xft a k) (xtt a k) = true) ∧ (∀ (G : xG) (k : Nat), k < (xcl.getD a xc0).2.2 → defaultValue (xtt a k) = vp_V ((xdf a).map (xv G)) k) ∧ Cond.instantiable (xcl.getD a xc0).1 (xcl.getD a xc0).2.2 ∈ xW ∧ Cond.initialized (xcl.getD a xc0).1 ∈ xW ∧ (∀ k, k < (xcl.getD a xc0).2.2 → ((xcl.getD a xc0).2.1 k).1 = xon a)
set_option maxRecDepth 50000 in
theorem xC_0 : xCok 0 := by
  refine ⟨?_, by decide +kernel, by decide +kernel, by decide +kernel, ?_, xW_at 67 rfl rfl, xW_at 55 rfl rfl, by decide +kernel⟩
  · intro w hw
    obtain ⟨k, hk, rfl⟩ := List.mem_map.mp hw
    have hk : k < 5 := List.mem_range.mp hk
    rcases Nat.lt_or_ge k 1 with h0 | h0
    · obtain rfl : k = 0 := by omega
      exact xW_at 203 rfl rfl
    rcases Nat.lt_or_ge k 2 with h1 | h1
    · obtain rfl : k = 1 := by omega
      exact xW_at 205 rfl rfl
    rcases Nat.lt_or_ge k 3 with h2 | h2
    · obtain rfl : k = 2 := by omega
      exact xW_at 207 rfl rfl
    rcases Nat.lt_or_ge k 4 with h3 | h3
    · obtain rfl : k = 3 := by omega
      exact xW_at 209 rfl rfl
    obtain rfl : k = 4 := by omega
    exact xW_at 211 rfl rfl
  · intro G k hk
    have hk : k < 5 := hk
    rcases Nat.lt_or_ge k 1 with h0 | h0
    · obtain rfl : k = 0 := by omega
      rfl
    rcases Nat.lt_or_ge k 2 with h1 | h1
    · obtain rfl : k = 1 := by omega
      rfl
    rcases Nat.lt_or_ge k 3 with h2 | h2
    · obtain rfl : k = 2 := by omega
      rfl
    rcases Nat.lt_or_ge k 4 with h3 | h3
    · obtain rfl : k = 3 := by omega
      rfl
    obtain rfl : k = 4 := by omega
    rfl
set_option maxRecDepth 50000 in
theorem xC_1 : xCok 1 := by
  refine ⟨?_, by decide +kernel, by decide +kernel, by decide +kernel, ?_, xW_at 234 rfl rfl, xW_at 63 rfl rfl, by decide +kernel⟩
  · intro w hw
    obtain ⟨k, hk, rfl⟩ := List.mem_map.mp hw
    have hk : k < 2 := List.mem_range.mp hk
    rcases Nat.lt_or_ge k 1 with h0 | h0
    · obtain rfl : k = 0 := by omega
      exact xW_at 265 rfl rfl
    obtain rfl : k = 1 := by omega
    exact xW_at 267 rfl rfl
  · intro G k hk
    have hk : k < 2 := hk
    rcases Nat.lt_or_ge k 1 with h0 | h0
    · obtain rfl : k = 0 := by omega
      rfl
    obtain rfl : k = 1 := by omega
    rfl
set_option maxRecDepth 50000 in
theorem xC_2 : xCok 2 := by
  refine ⟨?_, by decide +kernel, by decide +kernel, by decide +kernel, ?_, xW_at 170 rfl rfl, xW_at 61 rfl rfl, by decide +kernel⟩
  · intro w hw
    obtain ⟨k, hk, rfl⟩ := List.mem_map.mp hw
    have hk : k < 1 := List.mem_range.mp hk
    obtain rfl : k = 0 := by omega
    exact xW_at 178 rfl rfl
  · intro G k hk
    have hk : k < 1 := hk
    obtain rfl : k = 0 := by omega
    rfl
set_option maxRecDepth 50000 in
theorem xC_3 : xCok 3 := by
  refine ⟨?_, by decide +kernel, by decide +kernel, by decide +kernel, ?_, xW_at 84 rfl rfl, xW_at 57 rfl rfl, by decide +kernel⟩
  · intro w hw
    obtain ⟨k, hk, rfl⟩ := List.mem_map.mp hw
    have hk : k < 6 := List.mem_range.mp hk
    rcases Nat.lt_or_ge k 1 with h0 | h0
    · obtain rfl : k = 0 := by omega
      exact xW_at 98 rfl rfl
    rcases Nat.lt_or_ge k 2 with h1 | h1
    · obtain rfl : k = 1 := by omega
      exact xW_at 100 rfl rfl
    rcases Nat.lt_or_ge k 3 with h2 | h2
    · obtain rfl : k = 2 := by omega
      exact xW_at 102 rfl rfl
    rcases Nat.lt_or_ge k 4 with h3 | h3
    · obtain rfl : k = 3 := by omega
      exact xW_at 104 rfl rfl
    rcases Nat.lt_or_ge k 5 with h4 | h4
    · obtain rfl : k = 4 := by omega
      exact xW_at 106 rfl rfl
    obtain rfl : k = 5 := by omega
    exact xW_at 108 rfl rfl
  · intro G k hk
    have hk : k < 6 := hk
    rcases Nat.lt_or_ge k 1 with h0 | h0
    · obtain rfl : k = 0 := by omega
      rfl
    rcases Nat.lt_or_ge k 2 with h1 | h1
    · obtain rfl : k = 1 := by omega
      rfl
    rcases Nat.lt_or_ge k 3 with h2 | h2
    · obtain rfl : k = 2 := by omega
      rfl
    rcases Nat.lt_or_ge k 4 with h3 | h3
    · obtain rfl : k = 3 := by omega
      rfl
    rcases Nat.lt_or_ge k 5 with h4 | h4
    · obtain rfl : k = 4 := by omega
      rfl
    obtain rfl : k = 5 := by omega
    rfl
set_option maxRecDepth 50000 in
theorem xC_4 : xCok 4 := by
  refine ⟨?_, by decide +kernel, by decide +kernel, by decide +kernel, ?_, xW_at 77 rfl rfl, xW_at 56 rfl rfl, by decide +kernel⟩
  · intro w hw
    obtain ⟨k, hk, rfl⟩ := List.mem_map.mp hw
    have hk : k < 5 := List.mem_range.mp hk
    rcases Nat.lt_or_ge k 1 with h0 | h0
    · obtain rfl : k = 0 := by omega
      exact xW_at 186 rfl rfl
    rcases Nat.lt_or_ge k 2 with h1 | h1
    · obtain rfl : k = 1 := by omega
      exact xW_at 188 rfl rfl
    rcases Nat.lt_or_ge k 3 with h2 | h2
    · obtain rfl : k = 2 := by omega
      exact xW_at 190 rfl rfl
    rcases Nat.lt_or_ge k 4 with h3 | h3
    · obtain rfl : k = 3 := by omega
      exact xW_at 192 rfl rfl
    obtain rfl : k = 4 := by omega
    exact xW_at 194 rfl rfl
  · intro G k hk
    have hk : k < 5 := hk
    rcases Nat.lt_or_ge k 1 with h0 | h0
    · obtain rfl : k = 0 := by omega
      rfl
    rcases Nat.lt_or_ge k 2 with h1 | h1
    · obtain rfl : k = 1 := by omega
      rfl
    rcases Nat.lt_or_ge k 3 with h2 | h2
    · obtain rfl : k = 2 := by omega
      rfl
    rcases Nat.lt_or_ge k 4 with h3 | h3
    · obtain rfl : k = 3 := by omega
      rfl
    obtain rfl : k = 4 := by omega
    rfl
set_option maxRecDepth 50000 in
theorem xC_5 : xCok 5 := by
  refine ⟨?_, by decide +kernel, by decide +kernel, by decide +kernel, ?_, xW_at 122 rfl rfl, xW_at 60 rfl rfl, by decide +kernel⟩
  · intro w hw
    obtain ⟨k, hk, rfl⟩ := List.mem_map.mp hw
    have hk : k < 3 := List.mem_range.mp hk
    rcases Nat.lt_or_ge k 1 with h0 | h0
    · obtain rfl : k = 0 := by omega
      exact xW_at 135 rfl rfl
    rcases Nat.lt_or_ge k 2 with h1 | h1
    · obtain rfl : k = 1 := by omega
      exact xW_at 137 rfl rfl
    obtain rfl : k = 2 := by omega
    exact xW_at 139 rfl rfl
  · intro G k hk
    have hk : k < 3 := hk
    rcases Nat.lt_or_ge k 1 with h0 | h0
    · obtain rfl : k = 0 := by omega
      rfl
    rcases Nat.lt_or_ge k 2 with h1 | h1
    · obtain rfl : k = 1 := by omega
      rfl
    obtain rfl : k = 2 := by omega
    rfl
set_option maxRecDepth 50000 in
theorem xC_6 : xCok 6 := by
  refine ⟨?_, by decide +kernel, by decide +kernel, by decide +kernel, ?_, xW_at 114 rfl rfl, xW_at 59 rfl rfl, by decide +kernel⟩
  · intro w hw
    obtain ⟨k, hk, rfl⟩ := List.mem_map.mp hw
    have hk : k < 9 := List.mem_range.mp hk
    rcases Nat.lt_or_ge k 1 with h0 | h0
    · obtain rfl : k = 0 := by omega
      exact xW_at 151 rfl rfl
    rcases Nat.lt_or_ge k 2 with h1 | h1
    · obtain rfl : k = 1 := by omega
      exact xW_at 153 rfl rfl
    rcases Nat.lt_or_ge k 3 with h2 | h2
    · obtain rfl : k = 2 := by omega
      exact xW_at 155 rfl rfl
    rcases Nat.lt_or_ge k 4 with h3 | h3
    · obtain rfl : k = 3 := by omega
      exact xW_at 157 rfl rfl
    rcases Nat.lt_or_ge k 5 with h4 | h4
    · obtain rfl : k = 4 := by omega
      exact xW_at 159 rfl rfl
    rcases Nat.lt_or_ge k 6 with h5 | h5
    · obtain rfl : k = 5 := by omega
      exact xW_at 161 rfl rfl
    rcases Nat.lt_or_ge k 7 with h6 | h6
    · obtain rfl : k = 6 := by omega
      exact xW_at 163 rfl rfl
    rcases Nat.lt_or_ge k 8 with h7 | h7
    · obtain rfl : k = 7 := by omega
      exact xW_at 165 rfl rfl
    obtain rfl : k = 8 := by omega
    exact xW_at 167 rfl rfl
  · intro G k hk
    have hk : k < 9 := hk
    rcases Nat.lt_or_ge k 1 with h0 | h0
    · obtain rfl : k = 0 := by omega
      rfl
    rcases Nat.lt_or_ge k 2 with h1 | h1
    · obtain rfl : k = 1 := by omega
      rfl
    rcases Nat.lt_or_ge k 3 with h2 | h2
    · obtain rfl : k = 2 := by omega
      rfl
    rcases Nat.lt_or_ge k 4 with h3 | h3
    · obtain rfl : k = 3 := by omega
      rfl
    rcases Nat.lt_or_ge k 5 with h4 | h4
    · obtain rfl : k = 4 := by omega
      rfl
    rcases Nat.lt_or_ge k 6 with h5 | h5
    · obtain rfl : k = 5 := by omega
      rfl
    rcases Nat.lt_or_ge k 7 with h6 | h6
    · obtain rfl : k = 6 := by omega
      rfl
    rcases Nat.lt_or_ge k 8 with h7 | h7
    · obtain rfl : k = 7 := by omega
      rfl
    obtain rfl : k = 8 := by omega
    rfl
set_option maxRecDepth 50000 in
theorem xC_7 : xCok 7 := by
  refine ⟨?_, by decide +kernel, by decide +kernel, by decide +kernel, ?_, xW_at 595 rfl rfl, xW_at 62 rfl rfl, by decide +kernel⟩
  · intro w hw
    obtain ⟨k, hk, rfl⟩ := List.mem_map.mp hw
    have hk : k < 20 := List.mem_range.mp hk
    rcases Nat.lt_or_ge k 1 with h0 | h0
    · obtain rfl : k = 0 := by omega
      exact xW_at 620 rfl rfl
    rcases Nat.lt_or_ge k 2 with h1 | h1
    · obtain rfl : k = 1 := by omega
      exact xW_at 622 rfl rfl
    rcases Nat.lt_or_ge k 3 with h2 | h2
    · obtain rfl : k = 2 := by omega
      exact xW_at 624 rfl rfl
    rcases Nat.lt_or_ge k 4 with h3 | h3
    · obtain rfl : k = 3 := by omega
      exact xW_at 626 rfl rfl
    rcases Nat.lt_or_ge k 5 with h4 | h4
    · obtain rfl : k = 4 := by omega
      exact xW_at 628 rfl rfl
    rcases Nat.lt_or_ge k 6 with h5 | h5
    · obtain rfl : k = 5 := by omega
      exact xW_at 630 rfl rfl
    rcases Nat.lt_or_ge k 7 with h6 | h6
    · obtain rfl : k = 6 := by omega
      exact xW_at 632 rfl rfl
    rcases Nat.lt_or_ge k 8 with h7 | h7
    · obtain rfl : k = 7 := by omega
      exact xW_at 634 rfl rfl
    rcases Nat.lt_or_ge k 9 with h8 | h8
    · obtain rfl : k = 8 := by omega
      exact xW_at 636 rfl rfl
    rcases Nat.lt_or_ge k 10 with h9 | h9
    · obtain rfl : k = 9 := by omega
      exact xW_at 638 rfl rfl
    rcases Nat.lt_or_ge k 11 with h10 | h10
    · obtain rfl : k = 10 := by omega
      exact xW_at 640 rfl rfl
    rcases Nat.lt_or_ge k 12 with h11 | h11
    · obtain rfl : k = 11 := by omega
      exact xW_at 642 rfl rfl
    rcases Nat.lt_or_ge k 13 with h12 | h12
    · obtain rfl : k = 12 := by omega
      exact xW_at 644 rfl rfl
    rcases Nat.lt_or_ge k 14 with h13 | h13
    · obtain rfl : k = 13 := by omega
      exact xW_at 646 rfl rfl
    rcases Nat.lt_or_ge k 15 with h14 | h14
    · obtain rfl : k = 14 := by omega
      exact xW_at 648 rfl rfl
    rcases Nat.lt_or_ge k 16 with h15 | h15
    · obtain rfl : k = 15 := by omega
      exact xW_at 650 rfl rfl
    rcases Nat.lt_or_ge k 17 with h16 | h16
    · obtain rfl : k = 16 := by omega
      exact xW_at 652 rfl rfl
    rcases Nat.lt_or_ge k 18 with h17 | h17
    · obtain rfl : k = 17 := by omega
      exact xW_at 654 rfl rfl
    rcases Nat.lt_or_ge k 19 with h18 | h18
    · obtain rfl : k = 18 := by omega
      exact xW_at 656 rfl rfl
    obtain rfl : k = 19 := by omega
    exact xW_at 658 rfl rfl
  · intro G k hk
    have hk : k < 20 := hk
    rcases Nat.lt_or_ge k 1 with h0 | h0
    · obtain rfl : k = 0 := by omega
      rfl
    rcases Nat.lt_or_ge k 2 with h1 | h1
    · obtain rfl : k = 1 := by omega
      rfl
    rcases Nat.lt_or_ge k 3 with h2 | h2
    · obtain rfl : k = 2 := by omega
      rfl
    rcases Nat.lt_or_ge k 4 with h3 | h3
    · obtain rfl : k = 3 := by omega
      rfl
    rcases Nat.lt_or_ge k 5 with h4 | h4
    · obtain rfl : k = 4 := by omega
      rfl
    rcases Nat.lt_or_ge k 6 with h5 | h5
    · obtain rfl : k = 5 := by omega
      rfl
    rcases Nat.lt_or_ge k 7 with h6 | h6
    · obtain rfl : k = 6 := by omega
      rfl
    rcases Nat.lt_or_ge k 8 with h7 | h7
    · obtain rfl : k = 7 := by omega
      rfl
    rcases Nat.lt_or_ge k 9 with h8 | h8
    · obtain rfl : k = 8 := by omega
      rfl
    rcases Nat.lt_or_ge k 10 with h9 | h9
    · obtain rfl : k = 9 := by omega
      rfl
    rcases Nat.lt_or_ge k 11 with h10 | h10
    · obtain rfl : k = 10 := by omega
      rfl
    rcases Nat.lt_or_ge k 12 with h11 | h11
    · obtain rfl : k = 11 := by omega
      rfl
    rcases Nat.lt_or_ge k 13 with h12 | h12
    · obtain rfl : k = 12 := by omega
      rfl
    rcases Nat.lt_or_ge k 14 with h13 | h13
    · obtain rfl : k = 13 := by omega
      rfl
    rcases Nat.lt_or_ge k 15 with h14 | h14
    · obtain rfl : k = 14 := by omega
      rfl
    rcases Nat.lt_or_ge k 16 with h15 | h15
    · obtain rfl : k = 15 := by omega
      rfl
    rcases Nat.lt_or_ge k 17 with h16 | h16
    · obtain rfl : k = 16 := by omega
      rfl
    rcases Nat.lt_or_ge k 18 with h17 | h17
    · obtain rfl : k = 17 := by omega
      rfl
    rcases Nat.lt_or_ge k 19 with h18 | h18
    · obtain rfl : k = 18 := by omega
      rfl
    obtain rfl : k = 19 := by omega
    rfl
theorem xC_all {a : Nat} (h : a < 8) : xCok a := by
  rcases (show a = 0 ∨ a = 1 ∨ a = 2 ∨ a = 3 ∨ a = 4 ∨ a = 5 ∨ a = 6 ∨ a = 7 by omega) with rfl | rfl | rfl | rfl | rfl | rfl | rfl | rfl
  · exact xC_0
  · exact xC_1
  · exact xC_2
  · exact xC_3
  · exact xC_4
  · exact xC_5
  · exact xC_6
  · exact xC_7
theorem x_getD {y : Nat} (h : y < 143) : xMo y := xMall_lt xM_all y h
theorem xN_m {args : Array Value} {s : State} (hN : xN s) {w own idx a : Nat} (h : xNm[w]? = some (own, idx, a)) : (Cond.methodLinkNest (xon own) idx (xmn a) "RenameMerge").before args s = true := va_Nw.use rfl (hN.1 _ (List.mem_of_getElem? h))
theorem xN_f {args : Array Value} {s : State} (hN : xN s) {w own idx : Nat} (h : xNf[w]? = some (own, idx)) : (Cond.fieldLinkNest (xon own) idx xNLc xNLn xNLd "RenameMerge").before args s = true := va_Nw.use rfl (hN.2.1 _ (List.mem_of_getElem? h))
/-- what is known of a callee -/
theorem x_callee {y : Nat} (h : y < 143) : xgood y ∧ (xmk y = 0 → Cond.static (xmn y) ∈ xW ∧ ∀ sig, parseMethodDescriptor (xmn y).desc = some sig → xma y = sig.parameters.length) ∧
    (xmk y = 1 → Cond.instanceMethod (xmn y) ∈ xW ∧ Cond.selects (xmn y).cls (xmn y) (xmn y) ∈ xW ∧ (∀ r, xcl[xmc y]? = some r → r.1 = (xmn y).cls) ∧ ∀ sig, parseMethodDescriptor (xmn y).desc = some sig → xma y = sig.parameters.length + 1) ∧
    (xmk y = 2 → Cond.instanceMethod (xmn y) ∈ xW ∧ (xmn y).name = "<init>" ∧ xmr y = none ∧ ∀ sig, parseMethodDescriptor (xmn y).desc = some sig → xma y = sig.parameters.length + 1) := by
  obtain ⟨wc, wi, wm, ws, h1, h2, h3, h4, h5, h6, h7⟩ := x_getD h
  have hnum := List.all_eq_true.mp xnums_ok y (List.mem_range.mpr h)
  unfold xnums at hnum
  simp only [Bool.and_eq_true, decide_eq_true_eq] at hnum
  refine ⟨⟨xW_at _ h1 rfl, xW_at _ h2 rfl, h3, hnum.1⟩, fun hk => ?_, fun hk => ?_, fun hk => ?_⟩
  · rw [hk] at h6 h7
    have h6' : (parseMethodDescriptor (xmn y).desc).map (fun q => q.parameters.length + 0) = some (xma y) := h6
    have h7' : lw_tbl[wm]? = some (.static (xmn y)) := h7
    refine ⟨xW_at _ h7' rfl, fun sig hs => ?_⟩
    rw [hs] at h6'
    exact (Option.some.inj h6').symm
  · rw [hk] at h6 h7
    have h6' : (parseMethodDescriptor (xmn y).desc).map (fun q => q.parameters.length + 1) = some (xma y) := h6
    have h7' : lw_tbl[wm]? = some (.instanceMethod (xmn y)) ∧ lw_tbl[ws]? = some (.selects (xmn y).cls (xmn y) (xmn y)) ∧ (xcl[xmc y]?).map (fun r => r.1) = some (xmn y).cls := h7
    obtain ⟨g1, g2, g3⟩ := h7'
    refine ⟨xW_at _ g1 rfl, xW_at _ g2 rfl, fun r hr => ?_, fun sig hs => ?_⟩
    · rw [hr] at g3
      exact Option.some.inj g3
    · rw [hs] at h6'
      exact (Option.some.inj h6').symm
  · rw [hk] at h6 h7
    have h6' : (parseMethodDescriptor (xmn y).desc).map (fun q => q.parameters.length + 1) = some (xma y) := h6
    have h7' : lw_tbl[wm]? = some (.instanceMethod (xmn y)) ∧ (xmn y).name = "<init>" ∧ xmr y = none := h7
    obtain ⟨g1, g2, g3⟩ := h7'
    refine ⟨xW_at _ g1 rfl, g2, g3, fun sig hs => ?_⟩
    rw [hs] at h6'
    exact (Option.some.inj h6').symm
