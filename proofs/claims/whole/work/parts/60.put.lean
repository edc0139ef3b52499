/-! MODULE: changes of the class: adopt, put -/
section CHANGE2
variable {σ : xS} {Ts V : Nat → pT} {C : Nat → Int32} {th st : Nat} {mg : Bool} {D1 D2 : pD}
def aDo (Ts : Nat → pT) (mg : Bool) (x : Int32) : Option Nat := match oN 3 x with
  | some i => if mg = true ∧ pCnt (fun p => (Ts 3 p).isSome) 64 ≤ 8 ∧ pLong (Ts 3) 64 ≤ 8 then some i else none
  | none => none
def aTs (Ts : Nat → pT) (mg : Bool) (x : Int32) : Nat → pT := match aDo Ts mg x with
  | some i => vU Ts i (Ts 3)
  | none => Ts
theorem pLong_le {T : pT} (h : ∀ p, p < 64 → (pLn (T p)).length ≤ 76) : ∀ n, n ≤ 64 → pLong T n ≤ 76
  | 0, _ => Nat.zero_le _
  | n + 1, hn => by
    have h1 := pLong_le h n (by omega)
    have h2 := h n (by omega)
    show max (pLong T n) _ ≤ 76
    omega
theorem hT.ln {σ : xS} {t p : Nat} {T : pT} (h : hT σ t T) (hp : p < 64) : (pLn (T p)).length ≤ 76 := by
  obtain ⟨g, -, h3⟩ := h
  have o := h3 p hp
  cases hT : T p with
  | none => exact Nat.zero_le _
  | some F =>
    rw [hT] at o
    cases hg : g p with
    | none => rw [hg] at o; exact o.elim
    | some z =>
      rw [hg] at o
      obtain ⟨b, -, -, b3, -⟩ := (show hFile σ z F from o)
      exact b3
theorem m_adopt (d : Nat) (h : hTop σ Ts V C th st mg D1 D2) (x : Int32) : ∃ σ', xEx (d + 2) 71 [.inr (some 2), .inl x] σ (some (.inl (bI (aDo Ts mg x).isSome))) σ' ∧ hTop σ' (aTs Ts mg x) V C th st mg D1 D2 ∧ hTf σ σ' 0 0 := by
  let K : Option xV → xS → Prop := fun r0 σ0 => r0 = some (.inl (bI (aDo Ts mg x).isSome)) ∧ hTop σ0 (aTs Ts mg x) V C th st mg D1 D2 ∧ hTf σ σ0 0 0
  have no : aDo Ts mg x = none → xGo (xEx (d + 1)) xtb_71 K (39, [some (.inr (some 2)), some (.inl x), some (.inr (some (44 + 2 * 3)))], [], σ) := by
    intro e
    repeat (first | refine gp rfl rfl rfl ?_ | refine ggf rfl (by assumption) (by rfl) ?_ | refine gal rfl (by assumption) (by rfl) (by omega) (by omega) ?_ | refine gil rfl (by assumption) (by rfl) (by omega) (by omega) ?_ | refine gbl rfl (by assumption) (by rfl) (by omega) (by omega) ?_ | refine gln rfl (xlen_i (by assumption)) ?_ | refine gln rfl (xlen_q (by assumption)) ?_)
    refine gri rfl (fun _ => Or.inl rfl) ⟨by rw [e]; rfl, ?_, hTf.refl σ⟩
    unfold aTs
    rw [e]
    exact h
  have main : xGo (xEx (d + 1)) xtb_71 K (0, [some (.inr (some 2)), some (.inl x), none], [], σ) := by
    obtain ⟨h2, ⟨g, h3, hg⟩, hTs, -⟩ := id h
    have t3 := hTs 3 (by decide)
    have hl := pLong_le (T := Ts 3) (fun p hp => t3.ln hp) 64 (Nat.le_refl _)
    have hc := pCnt_le (fun p => (Ts 3 p).isSome) 64
    repeat (first | refine gp rfl rfl rfl ?_ | refine ggf rfl (by assumption) (by rfl) ?_ | refine gal rfl (by assumption) (by rfl) (by omega) (by omega) ?_ | refine gil rfl (by assumption) (by rfl) (by omega) (by omega) ?_ | refine gbl rfl (by assumption) (by rfl) (by omega) (by omega) ?_ | refine gln rfl (xlen_i (by assumption)) ?_ | refine gln rfl (xlen_q (by assumption)) ?_)
    rw [hg 3 (by decide)]
    refine gcs (As := [.inl x]) (rest := []) rfl (by decide) (m_isInput d x σ) rfl rfl (by decide) ?_
    rcases oN_cases (n := 3) (by decide) x with ⟨i, hi, rfl, e⟩ | ⟨hn, e⟩
    · rw [e]
      refine giff rfl (fun h => absurd (show (1 : Int32) = 0 from h) (by decide)) ?_
      repeat (first | refine gp rfl rfl rfl ?_ | refine ggf rfl (by assumption) (by rfl) ?_ | refine gal rfl (by assumption) (by rfl) (by omega) (by omega) ?_ | refine gil rfl (by assumption) (by rfl) (by omega) (by omega) ?_ | refine gbl rfl (by assumption) (by rfl) (by omega) (by omega) ?_ | refine gln rfl (xlen_i (by assumption)) ?_ | refine gln rfl (xlen_q (by assumption)) ?_)
      cases mg with
      | false =>
        refine git rfl (show (0 : Int32) = 0 from rfl) ?_
        exact no (by unfold aDo; rw [e]; simp)
      | true =>
        refine giff rfl (fun h => absurd (show (1 : Int32) = 0 from h) (by decide)) ?_
        obtain ⟨g2, t1, t2⟩ := id t3
        repeat (first | refine gp rfl rfl rfl ?_ | refine ggf rfl (by assumption) (by rfl) ?_ | refine gal rfl (by assumption) (by rfl) (by omega) (by omega) ?_ | refine gil rfl (by assumption) (by rfl) (by omega) (by omega) ?_ | refine gbl rfl (by assumption) (by rfl) (by omega) (by omega) ?_ | refine gln rfl (xlen_i (by assumption)) ?_ | refine gln rfl (xlen_q (by assumption)) ?_)
        have x1 := m_countFiles d t1
        rw [pCnt_congr (P := fun i => (g2 i).isSome) (P' := fun p => (Ts 3 p).isSome) (fun j hj => hOpt_some (t2 j hj))] at x1
        refine gcv (As := []) (rest := []) rfl (by decide) x1 t3.obj rfl rfl (by decide) ?_
        repeat (first | refine gp rfl rfl rfl ?_ | refine ggf rfl (by assumption) (by rfl) ?_ | refine gal rfl (by assumption) (by rfl) (by omega) (by omega) ?_ | refine gil rfl (by assumption) (by rfl) (by omega) (by omega) ?_ | refine gbl rfl (by assumption) (by rfl) (by omega) (by omega) ?_ | refine gln rfl (xlen_i (by assumption)) ?_ | refine gln rfl (xlen_q (by assumption)) ?_)
        by_cases c1 : pCnt (fun p => (Ts 3 p).isSome) 64 ≤ 8
        · refine gcf rfl (show ¬ nI 8 < nI _ from fun z => absurd ((nI_ltI (by omega) (by omega)).mp z) (by omega)) ?_
          repeat (first | refine gp rfl rfl rfl ?_ | refine ggf rfl (by assumption) (by rfl) ?_ | refine gal rfl (by assumption) (by rfl) (by omega) (by omega) ?_ | refine gil rfl (by assumption) (by rfl) (by omega) (by omega) ?_ | refine gbl rfl (by assumption) (by rfl) (by omega) (by omega) ?_ | refine gln rfl (xlen_i (by assumption)) ?_ | refine gln rfl (xlen_q (by assumption)) ?_)
          refine gcv (As := []) (rest := []) rfl (by decide) (m_longestText d t3) t3.obj rfl rfl (by decide) ?_
          repeat (first | refine gp rfl rfl rfl ?_ | refine ggf rfl (by assumption) (by rfl) ?_ | refine gal rfl (by assumption) (by rfl) (by omega) (by omega) ?_ | refine gil rfl (by assumption) (by rfl) (by omega) (by omega) ?_ | refine gbl rfl (by assumption) (by rfl) (by omega) (by omega) ?_ | refine gln rfl (xlen_i (by assumption)) ?_ | refine gln rfl (xlen_q (by assumption)) ?_)
          by_cases c2 : pLong (Ts 3) 64 ≤ 8
          · refine gct rfl (show nI _ ≤ nI 8 from nI_le c2 (by decide)) ?_
            repeat (first | refine gp rfl rfl rfl ?_ | refine ggf rfl (by assumption) (by rfl) ?_ | refine gal rfl (by assumption) (by rfl) (by omega) (by omega) ?_ | refine gil rfl (by assumption) (by rfl) (by omega) (by omega) ?_ | refine gbl rfl (by assumption) (by rfl) (by omega) (by omega) ?_ | refine gln rfl (xlen_i (by assumption)) ?_ | refine gln rfl (xlen_q (by assumption)) ?_)
            rw [hg i (by omega)]
            obtain ⟨σ1, x1, x2, x3⟩ := s_become d h (i := i) (j := 3) (by omega) (by decide)
            refine gcv (As := [.inr (some (44 + 2 * 3))]) (rest := []) rfl (by decide) x1 (hTs i (by omega)).obj rfl rfl (by decide) ?_
            have e2 : aDo Ts true (nI i) = some i := by unfold aDo; rw [e]; simp only; rw [if_pos ⟨trivial, c1, c2⟩]
            repeat (first | refine gp rfl rfl rfl ?_ | refine ggf rfl (by assumption) (by rfl) ?_ | refine gal rfl (by assumption) (by rfl) (by omega) (by omega) ?_ | refine gil rfl (by assumption) (by rfl) (by omega) (by omega) ?_ | refine gbl rfl (by assumption) (by rfl) (by omega) (by omega) ?_ | refine gln rfl (xlen_i (by assumption)) ?_ | refine gln rfl (xlen_q (by assumption)) ?_)
            refine gri rfl (fun _ => Or.inr rfl) ⟨by rw [e2]; rfl, ?_, x3⟩
            unfold aTs
            rw [e2]
            exact x2
          · refine gcf rfl (show ¬ nI _ ≤ nI 8 from nI_ge (by omega) (by omega)) ?_
            exact no (by unfold aDo; rw [e]; simp only; rw [if_neg (fun z => c2 z.2.2)])
        · refine gct rfl (show nI 8 < nI _ from nI_lt (by omega) (by omega)) ?_
          exact no (by unfold aDo; rw [e]; simp only; rw [if_neg (fun z => c1 z.2.1)])
    · rw [e]
      refine git rfl (show (0 : Int32) = 0 from rfl) ?_
      exact no (by unfold aDo; rw [e])
  obtain ⟨r, σ', hex, rfl, g1, g2⟩ := ex_of (d := d + 1) (y := 71) (as := [.inr (some 2), .inl x]) (σ := σ) (K := K) (by decide) rfl main
  exact ⟨σ', hex, g1, g2⟩
end CHANGE2
/-- a line of a code -/
def pNib (x : Int32) (i : Nat) : Int32 := (x.toUInt32 >>> ((nI 4 * nI i).toUInt32 &&& Int32.toUInt32 31)).toInt32 &&& nI 15
def pLs (x : Int32) : Nat → List Int32
  | 0 => []
  | i + 1 => if pNib x i = 0 then pLs x i else pLs x i ++ [pNib x i]
theorem pLs_len (x : Int32) : ∀ n, (pLs x n).length ≤ n
  | 0 => Nat.le_refl _
  | n + 1 => by
    have := pLs_len x n
    unfold pLs
    split
    · omega
    · rw [List.length_append]; show _ + 1 ≤ _; omega
theorem m_linesOf (d : Nat) {σ : xS} (x : Int32) (hf : hFresh σ) : ∃ (σ' : xS) (b : Nat), xEx (d + 2) 68 [.inl x] σ (some (.inr (some b))) σ' ∧ hInts σ' b (pLs x 8) ∧ σ.2.1 < b ∧ hGr σ σ' 2 16 ∧ ∀ k, k < 63 → σ'.1 k = σ.1 k := by
  have f63 := hf.1
  let K : Option xV → xS → Prop := fun r0 σ0 => ∃ b, r0 = some (.inr (some b)) ∧ hInts σ0 b (pLs x 8) ∧ σ.2.1 < b ∧ hGr σ σ0 2 16 ∧ ∀ k, k < 63 → σ0.1 k = σ.1 k
  have loop : ∀ k i (f : Nat → Int32) (y : Option xV), i + k = 8 → (∀ j, j < (pLs x i).length → f j = (pLs x i).getD j 0) → xGo (xEx (d + 1)) xtb_68 K (12, [some (.inl x), some (.inr (some σ.2.1)), some (.inl (nI (pLs x i).length)), some (.inl (nI i)), y], [.inl (nI 8), .inl (nI i)], xnew σ (.inl (0, 8, f)) 8) := by
    intro k
    induction k with
    | zero =>
      intro i f y hi hall
      obtain rfl : i = 8 := by omega
      refine gct rfl (show nI 8 ≤ nI _ from nI_le (by omega) (by omega)) ?_
      have l8 := pLs_len x 8
      have n2 : (xnew σ (.inl (0, 8, f)) 8).2.1 = σ.2.1 + 1 := rfl
      obtain ⟨f', e1, x1⟩ := m_copyOf d (σ := xnew σ (.inl (0, 8, f)) 8) (k := (pLs x 8).length) (xnew_eq _ _ _) l8 (by omega) (by omega) (by rw [n2]; omega) (by rw [n2]; omega)
      repeat (first | refine gp rfl rfl rfl ?_ | refine ggf rfl (by assumption) (by rfl) ?_ | refine gal rfl (by assumption) (by rfl) (by omega) (by omega) ?_ | refine gil rfl (by assumption) (by rfl) (by omega) (by omega) ?_ | refine gbl rfl (by assumption) (by rfl) (by omega) (by omega) ?_ | refine gln rfl (xlen_i (by assumption)) ?_ | refine gln rfl (xlen_q (by assumption)) ?_)
      refine gcs (As := [.inr (some σ.2.1), .inl (nI (pLs x 8).length)]) (rest := []) rfl (by decide) x1 rfl rfl (by decide) ?_
      have g1 : hGr σ (xnew σ (.inl (0, 8, f)) 8) 1 8 := hGr.new hf
      have g2 : hGr (xnew σ (.inl (0, 8, f)) 8) (xnew (xnew σ (.inl (0, 8, f)) 8) (.inl (0, (pLs x 8).length, f')) (pLs x 8).length) 1 _ := hGr.new g1.2.2.2.2.2
      refine gra rfl ⟨σ.2.1 + 1, rfl, ⟨f', xnew_eq _ _ _, fun j hj => (e1 j hj).trans (hall j hj)⟩, by omega, ?_, fun k hk => by rw [xnew_ne (by rw [n2]; omega), xnew_ne (by omega)]⟩
      obtain ⟨a1, a2, a3, a4, a5, a6⟩ := g1.trans g2
      exact ⟨a1, a2, a3, a4, by omega, a6⟩
    | succ k ih =>
      intro i f y hi hall
      have li := pLs_len x i
      refine gcf rfl (nI_ge (by omega) (by omega)) ?_
      repeat (first | refine gp rfl rfl rfl ?_ | refine ggf rfl (by assumption) (by rfl) ?_ | refine gal rfl (by assumption) (by rfl) (by omega) (by omega) ?_ | refine gil rfl (by assumption) (by rfl) (by omega) (by omega) ?_ | refine gbl rfl (by assumption) (by rfl) (by omega) (by omega) ?_ | refine gln rfl (xlen_i (by assumption)) ?_ | refine gln rfl (xlen_q (by assumption)) ?_)
      by_cases hz : pNib x i = 0
      · refine git rfl (show pNib x i = 0 from hz) ?_
        have e : pLs x (i + 1) = pLs x i := by rw [pLs, if_pos hz]
        have := fun y => ih (i + 1) f y (by omega) (by rw [e]; exact hall)
        rw [e] at this
        repeat (first | refine gp rfl rfl rfl ?_ | refine ggf rfl (by assumption) (by rfl) ?_ | refine gal rfl (by assumption) (by rfl) (by omega) (by omega) ?_ | refine gil rfl (by assumption) (by rfl) (by omega) (by omega) ?_ | refine gbl rfl (by assumption) (by rfl) (by omega) (by omega) ?_ | refine gln rfl (xlen_i (by assumption)) ?_ | refine gln rfl (xlen_q (by assumption)) ?_)
        rw [nI_s]
        exact this _
      · refine giff rfl (show ¬ pNib x i = 0 from hz) ?_
        have e : pLs x (i + 1) = pLs x i ++ [pNib x i] := by rw [pLs, if_neg hz]
        repeat (first | refine gp rfl rfl rfl ?_ | refine ggf rfl (by assumption) (by rfl) ?_ | refine gal rfl (by assumption) (by rfl) (by omega) (by omega) ?_ | refine gil rfl (by assumption) (by rfl) (by omega) (by omega) ?_ | refine gbl rfl (by assumption) (by rfl) (by omega) (by omega) ?_ | refine gln rfl (xlen_i (by assumption)) ?_ | refine gln rfl (xlen_q (by assumption)) ?_)
        refine gis rfl (xnew_eq _ _ _) rfl (by omega) (by omega) (by omega) ?_
        rw [xnew_up]
        repeat (first | refine gp rfl rfl rfl ?_ | refine ggf rfl (by assumption) (by rfl) ?_ | refine gal rfl (by assumption) (by rfl) (by omega) (by omega) ?_ | refine gil rfl (by assumption) (by rfl) (by omega) (by omega) ?_ | refine gbl rfl (by assumption) (by rfl) (by omega) (by omega) ?_ | refine gln rfl (xlen_i (by assumption)) ?_ | refine gln rfl (xlen_q (by assumption)) ?_)
        rw [nI_s, nI_s]
        have := fun y => ih (i + 1) (upd f (pLs x i).length (pNib x i)) y (by omega) (by
          rw [e]
          intro j hj
          rw [List.length_append] at hj
          have hj : j < (pLs x i).length + 1 := hj
          by_cases hjl : j = (pLs x i).length
          · subst hjl
            rw [getD_app']
            simp [upd]
          · rw [getD_app (by omega)]
            simp only [upd, if_neg hjl]
            exact hall j (by omega))
        rw [e, List.length_append] at this
        exact this _
  obtain ⟨r, σ', hex, b, rfl, g1, g2, g3, g4⟩ := ex_of (d := d + 1) (y := 68) (as := [.inl x]) (σ := σ) (K := K) (by decide) rfl (by
    show xGo (xEx (d + 1)) xtb_68 K (0, [some (.inl x), none, none, none, none], [], σ)
    repeat (first | refine gp rfl rfl rfl ?_ | refine ggf rfl (by assumption) (by rfl) ?_ | refine gal rfl (by assumption) (by rfl) (by omega) (by omega) ?_ | refine gil rfl (by assumption) (by rfl) (by omega) (by omega) ?_ | refine gbl rfl (by assumption) (by rfl) (by omega) (by omega) ?_ | refine gln rfl (xlen_i (by assumption)) ?_ | refine gln rfl (xlen_q (by assumption)) ?_)
    refine gna (n := 8) rfl rfl (by decide) ?_
    repeat (first | refine gp rfl rfl rfl ?_ | refine ggf rfl (by assumption) (by rfl) ?_ | refine gal rfl (by assumption) (by rfl) (by omega) (by omega) ?_ | refine gil rfl (by assumption) (by rfl) (by omega) (by omega) ?_ | refine gbl rfl (by assumption) (by rfl) (by omega) (by omega) ?_ | refine gln rfl (xlen_i (by assumption)) ?_ | refine gln rfl (xlen_q (by assumption)) ?_)
    exact loop 8 0 (fun _ => 0) none rfl (fun j hj => absurd hj (Nat.not_lt_zero _)))
  exact ⟨σ', b, hex, g1, g2, g3, g4⟩
