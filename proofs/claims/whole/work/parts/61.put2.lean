/-! MODULE: changes of the class: put -/
section CHANGE3
variable {σ : xS} {Ts V : Nat → pT} {C : Nat → Int32} {th st : Nat} {mg : Bool} {D1 D2 : pD}
theorem hTop.of {σ' : xS} (h : hTop σ Ts V C th st mg D1 D2) (hk : ∀ k, k < 63 → σ'.1 k = σ.1 k) (kp : hKeep σ σ') (hf : hFresh σ') : hTop σ' Ts V C th st mg D1 D2 := by
  obtain ⟨h2, ⟨g, h3, hg⟩, hTs, hm, s1, s2⟩ := h
  refine ⟨by rw [hk 2 (by omega)]; exact h2, ⟨g, by rw [hk 3 (by omega)]; exact h3, hg⟩, fun i hi => ?_, hm.of (fun k hk' => hk k (by omega)) kp hf, hSide.of s1 (fun k h1 h2 => hk k (by omega)), hSide.of s2 (fun k h1 h2 => hk k (by omega))⟩
  obtain ⟨g, ⟨a1, a2⟩, a3⟩ := hTs i hi
  exact ⟨g, ⟨by rw [hk _ (by omega)]; exact a1, by rw [hk _ (by omega)]; exact a2⟩, fun p hp => (a3 p hp).keep kp⟩
/-- put: does it do it -/
def pDo (Ts : Nat → pT) (t p : Int32) : Option (Nat × Nat) := match oN 3 t, oN 64 p with
  | some i, some j => if (Ts i j).isSome = true ∨ pCnt (fun p => (Ts i p).isSome) 64 < 8 then some (i, j) else none
  | _, _ => none
def pTs (Ts : Nat → pT) (t p x : Int32) (l : Bool) : Nat → pT := match pDo Ts t p with
  | some (i, j) => vU Ts i (pLy (Ts i) j (some (l, pLs x 8)))
  | none => Ts
theorem m_put (d : Nat) (h : hTop σ Ts V C th st mg D1 D2) (t p x : Int32) (l : Bool) : ∃ σ', xEx (d + 3) 65 [.inr (some 2), .inl t, .inl p, .inl x, .inl (bI l)] σ (some (.inl (bI (pDo Ts t p).isSome))) σ' ∧ hTop σ' (pTs Ts t p x l) V C th st mg D1 D2 ∧ hTf σ σ' 3 18 := by
  let K : Option xV → xS → Prop := fun r0 σ0 => r0 = some (.inl (bI (pDo Ts t p).isSome)) ∧ hTop σ0 (pTs Ts t p x l) V C th st mg D1 D2 ∧ hTf σ σ0 3 18
  have stay : pDo Ts t p = none → hTop σ (pTs Ts t p x l) V C th st mg D1 D2 := by
    intro e
    unfold pTs
    rw [e]
    exact h
  have no : pDo Ts t p = none → xGo (xEx (d + 2)) xtb_65 K (14, [some (.inr (some 2)), some (.inl t), some (.inl p), some (.inl x), some (.inl (bI l)), none], [], σ) := by
    intro e
    repeat (first | refine gp rfl rfl rfl ?_ | refine ggf rfl (by assumption) (by rfl) ?_ | refine gal rfl (by assumption) (by rfl) (by omega) (by omega) ?_ | refine gil rfl (by assumption) (by rfl) (by omega) (by omega) ?_ | refine gbl rfl (by assumption) (by rfl) (by omega) (by omega) ?_ | refine gln rfl (xlen_i (by assumption)) ?_ | refine gln rfl (xlen_q (by assumption)) ?_)
    exact gri rfl (fun _ => Or.inl rfl) ⟨by rw [e]; rfl, stay e, (hTf.refl σ).wide (by omega) (by omega)⟩
  have main : xGo (xEx (d + 2)) xtb_65 K (0, [some (.inr (some 2)), some (.inl t), some (.inl p), some (.inl x), some (.inl (bI l)), none], [], σ) := by
    obtain ⟨h2, ⟨g, h3, hg⟩, hTs, hm, -⟩ := id h
    have hf := hm.2.2.2.2.1
    repeat (first | refine gp rfl rfl rfl ?_ | refine ggf rfl (by assumption) (by rfl) ?_ | refine gal rfl (by assumption) (by rfl) (by omega) (by omega) ?_ | refine gil rfl (by assumption) (by rfl) (by omega) (by omega) ?_ | refine gbl rfl (by assumption) (by rfl) (by omega) (by omega) ?_ | refine gln rfl (xlen_i (by assumption)) ?_ | refine gln rfl (xlen_q (by assumption)) ?_)
    refine gcs (As := [.inl t]) (rest := []) rfl (by decide) (m_isInput (d + 1) t σ) rfl rfl (by decide) ?_
    rcases oN_cases (n := 3) (by decide) t with ⟨i, hi, rfl, e⟩ | ⟨hn, e⟩
    · rw [e]
      refine giff rfl (fun h => absurd (show (1 : Int32) = 0 from h) (by decide)) ?_
      have ti := hTs i (by omega)
      repeat (first | refine gp rfl rfl rfl ?_ | refine ggf rfl (by assumption) (by rfl) ?_ | refine gal rfl (by assumption) (by rfl) (by omega) (by omega) ?_ | refine gil rfl (by assumption) (by rfl) (by omega) (by omega) ?_ | refine gbl rfl (by assumption) (by rfl) (by omega) (by omega) ?_ | refine gln rfl (xlen_i (by assumption)) ?_ | refine gln rfl (xlen_q (by assumption)) ?_)
      refine gcs (As := [.inl p]) (rest := []) rfl (by decide) (m_isPath (d + 1) p σ) rfl rfl (by decide) ?_
      rcases oN_cases (n := 64) (by decide) p with ⟨j, hj, rfl, e'⟩ | ⟨hn, e'⟩
      · rw [if_pos (p_ok hj)]
        refine git rfl (fun h => absurd (show (1 : Int32) = 0 from h) (by decide)) ?_
        repeat (first | refine gp rfl rfl rfl ?_ | refine ggf rfl (by assumption) (by rfl) ?_ | refine gal rfl (by assumption) (by rfl) (by omega) (by omega) ?_ | refine gil rfl (by assumption) (by rfl) (by omega) (by omega) ?_ | refine gbl rfl (by assumption) (by rfl) (by omega) (by omega) ?_ | refine gln rfl (xlen_i (by assumption)) ?_ | refine gln rfl (xlen_q (by assumption)) ?_)
        rw [hg i (by omega)]
        obtain ⟨q, f1, o1⟩ := m_fileAtT d ti hj
        have so := hOpt_some o1
        refine gcv (As := [.inl (nI j)]) (rest := []) rfl (by decide) f1 ti.obj rfl rfl (by decide) ?_
        have doit : ((Ts i j).isSome = true ∨ pCnt (fun p => (Ts i p).isSome) 64 < 8) → xGo (xEx (d + 2)) xtb_65 K (45, [some (.inr (some 2)), some (.inl (nI i)), some (.inl (nI j)), some (.inl x), some (.inl (bI l)), some (.inr (some (44 + 2 * i)))], [], σ) := by
          intro hd
          have e2 : pDo Ts (nI i) (nI j) = some (i, j) := by unfold pDo; rw [e, e']; simp only; rw [if_pos hd]
          have g1 : hGr σ (xnew σ (.inr (.inr (1, xdf 1))) 2) 1 2 := hGr.new hf
          have n1 : (xnew σ (.inr (.inr (1, xdf 1))) 2).1 σ.2.1 = some (.inr (.inr (1, [.inl 0, .inr none]))) := xnew_eq _ _ _
          obtain ⟨σ1, b, x1, i1, lb, g2, lw⟩ := m_linesOf d x g1.2.2.2.2.2
          have lb : σ.2.1 + 1 < b := lb
          have f63 := hf.1
          repeat (first | refine gp rfl rfl rfl ?_ | refine ggf rfl (by assumption) (by rfl) ?_ | refine gal rfl (by assumption) (by rfl) (by omega) (by omega) ?_ | refine gil rfl (by assumption) (by rfl) (by omega) (by omega) ?_ | refine gbl rfl (by assumption) (by rfl) (by omega) (by omega) ?_ | refine gln rfl (xlen_i (by assumption)) ?_ | refine gln rfl (xlen_q (by assumption)) ?_)
          refine gcs (As := [.inl x]) (rest := [.inl (bI l), .inr (some σ.2.1), .inr (some σ.2.1), .inl (nI j), .inr (some (44 + 2 * i))]) rfl (by decide) x1 rfl rfl (Nat.le_of_ble_eq_true rfl) ?_
          have n2 : σ1.1 σ.2.1 = some (.inr (.inr (1, [.inl 0, .inr none]))) := g2.1 _ _ f63 n1
          refine gci (As := [.inl (bI l), .inr (some b)]) (rest := [.inr (some σ.2.1), .inl (nI j), .inr (some (44 + 2 * i))]) rfl (by decide) (m_TreeFile (d + 1) n2) rfl rfl (Nat.le_of_ble_eq_true rfl) ?_
          obtain ⟨a1, a2, a3, a4, a5, a6⟩ := g1.trans g2
          have low : ∀ k, k < 63 → (xup σ1 σ.2.1 (.inr (.inr (1, [.inl (bI l), .inr (some b)])))).1 k = σ1.1 k := fun k hk => xup_ne (by omega)
          have low2 : ∀ k, k < 63 → σ1.1 k = σ.1 k := fun k hk => (lw k hk).trans (xnew_ne (by omega))
          have kp : hKeep σ (xup σ1 σ.2.1 (.inr (.inr (1, [.inl (bI l), .inr (some b)])))) := by
            intro k en hk hs
            rw [xup_ne]
            · exact a1 k en hk hs
            · intro z
              rw [hf.2 k (by omega)] at hs
              cases hs
          have nx1 : σ.2.1 + 1 ≤ σ1.2.1 := g2.2.2.1
          have fr2 : hFresh (xup σ1 σ.2.1 (.inr (.inr (1, [.inl (bI l), .inr (some b)])))) := ⟨a6.1, fun k hk => by
            have hk : σ1.2.1 ≤ k := hk
            rw [xup_ne (by omega)]
            exact a6.2 k hk⟩
          have H2 := h.of (fun k hk => (low k hk).trans (low2 k hk)) kp fr2
          have F2 : hOpt (xup σ1 σ.2.1 (.inr (.inr (1, [.inl (bI l), .inr (some b)])))) (some σ.2.1) (some (l, pLs x 8)) := ⟨b, xup_eq _ _ _, i1.up (by omega), Nat.le_trans (pLs_len x 8) (by decide), f63, by omega⟩
          have T2 : hTf σ (xup σ1 σ.2.1 (.inr (.inr (1, [.inl (bI l), .inr (some b)])))) 3 18 := ⟨kp, fun k hk => (low k (by omega)).trans (low2 k (by omega)), a3, a4, a5⟩
          have ti2 := H2.2.2.1 i (by omega)
          obtain ⟨σ3, y1, y2, y3⟩ := m_layT d ti2 F2 hj (by omega)
          refine gcv (As := [.inl (nI j), .inr (some σ.2.1)]) (rest := []) rfl (by decide) y1 ti2.obj rfl rfl (by decide) ?_
          obtain ⟨z1, z2⟩ := H2.tree (by omega) y2 y3
          repeat (first | refine gp rfl rfl rfl ?_ | refine ggf rfl (by assumption) (by rfl) ?_ | refine gal rfl (by assumption) (by rfl) (by omega) (by omega) ?_ | refine gil rfl (by assumption) (by rfl) (by omega) (by omega) ?_ | refine gbl rfl (by assumption) (by rfl) (by omega) (by omega) ?_ | refine gln rfl (xlen_i (by assumption)) ?_ | refine gln rfl (xlen_q (by assumption)) ?_)
          refine gri rfl (fun _ => Or.inr rfl) ⟨by rw [e2]; rfl, ?_, T2.trans z2⟩
          unfold pTs
          rw [e2]
          exact z1
        refine gnn rfl (fun z hz => ?_) (fun hz => ?_)
        · subst hz
          exact doit (Or.inl so.symm)
        · subst hz
          obtain ⟨g2, t1, t2⟩ := id ti
          have x1 := m_countFiles (d + 1) t1
          rw [pCnt_congr (P := fun i => (g2 i).isSome) (P' := fun p => (Ts i p).isSome) (fun j hj => hOpt_some (t2 j hj))] at x1
          have hc := pCnt_le (fun p => (Ts i p).isSome) 64
          repeat (first | refine gp rfl rfl rfl ?_ | refine ggf rfl (by assumption) (by rfl) ?_ | refine gal rfl (by assumption) (by rfl) (by omega) (by omega) ?_ | refine gil rfl (by assumption) (by rfl) (by omega) (by omega) ?_ | refine gbl rfl (by assumption) (by rfl) (by omega) (by omega) ?_ | refine gln rfl (xlen_i (by assumption)) ?_ | refine gln rfl (xlen_q (by assumption)) ?_)
          refine gcv (As := []) (rest := []) rfl (by decide) x1 ti.obj rfl rfl (by decide) ?_
          repeat (first | refine gp rfl rfl rfl ?_ | refine ggf rfl (by assumption) (by rfl) ?_ | refine gal rfl (by assumption) (by rfl) (by omega) (by omega) ?_ | refine gil rfl (by assumption) (by rfl) (by omega) (by omega) ?_ | refine gbl rfl (by assumption) (by rfl) (by omega) (by omega) ?_ | refine gln rfl (xlen_i (by assumption)) ?_ | refine gln rfl (xlen_q (by assumption)) ?_)
          by_cases c1 : pCnt (fun p => (Ts i p).isSome) 64 < 8
          · refine gct rfl (show nI _ < nI 8 from nI_lt c1 (by decide)) ?_
            exact doit (Or.inr c1)
          · refine gcf rfl (show ¬ nI _ < nI 8 from fun z => c1 ((nI_ltI (by omega) (by decide)).mp z)) ?_
            have e2 : pDo Ts (nI i) (nI j) = none := by unfold pDo; rw [e, e']; simp only; rw [if_neg (by intro z; rcases z with z | z; rw [← so] at z; cases z; exact c1 z)]
            repeat (first | refine gp rfl rfl rfl ?_ | refine ggf rfl (by assumption) (by rfl) ?_ | refine gal rfl (by assumption) (by rfl) (by omega) (by omega) ?_ | refine gil rfl (by assumption) (by rfl) (by omega) (by omega) ?_ | refine gbl rfl (by assumption) (by rfl) (by omega) (by omega) ?_ | refine gln rfl (xlen_i (by assumption)) ?_ | refine gln rfl (xlen_q (by assumption)) ?_)
            exact gri rfl (fun _ => Or.inl rfl) ⟨by rw [e2]; rfl, stay e2, (hTf.refl σ).wide (by omega) (by omega)⟩
      · rw [if_neg hn]
        refine giff rfl (fun z => z (show (0 : Int32) = 0 from rfl)) ?_
        exact no (by unfold pDo; rw [e, e'])
    · rw [e]
      refine git rfl (show (0 : Int32) = 0 from rfl) ?_
      exact no (by unfold pDo; rw [e])
  obtain ⟨r, σ', hex, rfl, g1, g2⟩ := ex_of (d := d + 2) (y := 65) (as := [.inr (some 2), .inl t, .inl p, .inl x, .inl (bI l)]) (σ := σ) (K := K) (by decide) rfl main
  exact ⟨σ', hex, g1, g2⟩
end CHANGE3
