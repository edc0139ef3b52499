/-! the contract of every method -/
theorem x_entry {G : xG} {as : List xV} {n : Nat} (h : as.length ≤ n) : xlv G ((lg_sl (as.map (xv G)) ++ List.replicate (n - (lg_sl (as.map (xv G))).length) Slot.unset).toArray) n (as.map some ++ List.replicate (n - as.length) none) := by
  have hsl : ∀ l : List xV, lg_sl (l.map (xv G)) = l.map (fun v => Slot.val (xv G v)) := by
    intro l
    induction l with
    | nil => rfl
    | cons v l ih =>
      rw [List.map_cons, List.map_cons, ← ih]
      have hc := xv_cat G v
      match v with
      | .inl x => rfl
      | .inr none => rfl
      | .inr (some k) => rfl
  have hlen : (lg_sl (as.map (xv G))).length = as.length := by rw [hsl, List.length_map]
  have hl := lv_entry (as.map (xv G)) (n := n) (by rw [hlen]; exact h)
  refine ⟨by simp; omega, hl.1, hl.2.1, fun q hq => ?_⟩
  obtain ⟨k, w⟩ := q
  obtain ⟨v, hv, rfl⟩ := xas_mem.mp hq
  have hk : k < as.length := by
    rcases Nat.lt_or_ge k as.length with h1 | h1
    · exact h1
    · rw [List.getElem?_append_right (by simpa using h1)] at hv
      rw [List.getElem?_replicate] at hv
      split at hv <;> cases hv
  rw [List.getElem?_append_left (by simpa using hk), List.getElem?_map, List.getElem?_eq_getElem hk] at hv
  have hv' : as[k] = v := by simpa using hv
  show ((lg_sl (as.map (xv G)) ++ _).toArray)[k]? = some (.val (xv G v))
  rw [List.getElem?_toArray, List.getElem?_append_left (by rw [hlen]; exact hk), hsl, List.getElem?_map, List.getElem?_eq_getElem hk, hv']
  rfl
theorem x_ini {meth : Method} {y : Nat} (h : meth.name = (xmn y).name) : decide ((xmn y).name = "<init>") = true → meth.name = "<init>" := fun q => h.trans (of_decide_eq_true q)
theorem x_met {G : xG} {l : Launch} (hv : ∀ y, y < 143 → xvm y = true) : ∀ (d y : Nat) (as : List xV) (σ : xS) (r : Option xV) (σ' : xS), xEx d y as σ r σ' → xCt G l d y as σ r σ'
  | 0, _, _, _, _, _, h => h.elim
  | d + 1, y, as, σ, r, σ', h => by
    have hgr := xEx_grow _ _ _ _ _ _ h
    obtain ⟨hy, hlen, hgo⟩ := h
    refine ⟨hgr, ?_⟩
    obtain ⟨wc, wi, wm, ws, -, -, -, hplain, hon, -, -⟩ := x_getD hy
    have hnum := List.all_eq_true.mp xnums_ok y (List.mem_range.mpr hy)
    unfold xnums at hnum
    simp only [Bool.and_eq_true, decide_eq_true_eq] at hnum
    refine Met.ofW (cc := xmb y) (maxL := xml y) (ret := xmr y) hplain rfl ?_
    intro p e s m args below meth c s₁ B hml hpc
    obtain ⟨rfl, hR, hK, hN⟩ := hpc
    have hx := B.exec
    have hb := B.bytes
    have hr := B.returns
    have hlocks := B.notSynchronized
    have hts : ∀ w ∈ xW, w.before ((as.map (xv G)).toArray) s = true := fun w hw => atoms_spec (ws := xws y) B.pre w (List.mem_cons_of_mem _ hw)
    have hown : s.vm.findClass (xon (xmo y)) = some m.cls := by rw [hon]; exact findClass_of_methodNamed B.named
    have hnm := (name_of_methodNamed B.named B.method).1
    rw [lg_entry_eq]
    have hL := x_entry (G := G) (as := as) (n := xml y) (by omega)
    generalize ((lg_sl (as.map (xv G)) ++ List.replicate (xml y - (lg_sl (as.map (xv G))).length) Slot.unset).toArray) = L at hL ⊢
    have C : xCx G p l (headSpec (xws y) (xrm (d + 1) (σ'.2.1 - σ.2.1) (σ'.2.2 - σ.2.2))).room s m ((as.map (xv G)).toArray) c (xmb y) (xml y) d σ.2.1 σ.2.2 σ'.2.1 σ'.2.2 (xon (xmo y)) (xEx d) :=
      ⟨hx, hb, hml, hown, hts, hK, hN, rfl, rfl, Nat.le_refl _, Nat.le_refl _, x_met hv d⟩
    have hret : xRet G p l e (headSpec (xws y) (xrm (d + 1) (σ'.2.1 - σ.2.1) (σ'.2.2 - σ.2.2))).room s m ((as.map (xv G)).toArray) below meth c (xmb y) (xmr y) σ.2.1 σ.2.2 σ'.2.1 σ'.2.2 (MQ below (xQc G r σ') ((as.map (xv G)).toArray) s (σ'.2.1 - σ.2.1) (σ'.2.2 - σ.2.2) (fun q => G.2.2.1 ≤ q)) (fun r0 σ0 => r0 = r ∧ σ0 = σ') := by
      refine ⟨fun v σ0 hk => by rw [hk.2]; exact ⟨Nat.le_refl _, Nat.le_refl _⟩, ?_, ?_, ?_⟩
      · intro pc H locs L σ0 x hk n1 n2 hR0 hl0 hd hrt
        obtain ⟨hk1, rfl⟩ := hk
        rcases hrt with hrt | ⟨hrt, hx01⟩
        · exact W.zret hx hb (hr.trans hrt) rfl (fun t ht hW => ⟨by rw [← hk1]; rfl, by rw [ht]; exact xR_moved hW.alike hR0⟩) hl0 hd
        · refine W.zret hx hb (hr.trans hrt) ?_ (fun t ht hW => ⟨by rw [← hk1]; rfl, by rw [ht]; exact xR_moved hW.alike hR0⟩) hl0 hd
          rcases hx01 with rfl | rfl <;> rfl
      · intro pc H locs L σ0 q hk n1 n2 hR0 hl0 hd hrt
        obtain ⟨hk1, rfl⟩ := hk
        obtain ⟨t, hrt, ht2⟩ := hrt
        refine W.aret hx hb (hr.trans hrt) ht2 ?_ (fun t ht hW => ⟨by rw [← hk1]; rfl, by rw [ht]; exact xR_moved hW.alike hR0⟩) hl0 hd
        cases q with
        | none => exact Or.inl rfl
        | some q => exact Or.inr ⟨_, rfl⟩
      · intro pc H locs L σ0 hk n1 n2 hR0 hl0 hd hrt
        obtain ⟨hk1, rfl⟩ := hk
        exact W.vret hx hb (hr.trans hrt) (fun t ht hW => ⟨by rw [← hk1]; rfl, by rw [ht]; exact xR_moved hW.alike hR0⟩) hl0 hd
    have hsem := hgo _ (x_all C (ini := decide ((xmn y).name = "<init>")) (x_ini hnm) (hv y hy) hret)
    have hw := hsem.2 s.heap [] L (Nat.le_refl _) (Nat.le_refl _) hR (fun q hq => by cases hq) (by rw [hlen] at hL ⊢; exact hL)
    dsimp only at hw
    rw [Nat.sub_self, Nat.sub_self] at hw
    exact hw
