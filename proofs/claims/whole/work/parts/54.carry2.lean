/-! MODULE: renames are carried, the class -/
theorem m_carryByBoth (d : Nat) {σ : xS} {V : Nat → pT} {C : Nat → Int32} {p i j : Nat} (h : hMS σ V C) (hp : p < 64) (hi : i < 64) (hj : j < 64) :
    ∃ σ', xEx (d + 4) 55 [.inr (some 4), .inl (nI p), .inl (nI i), .inl (nI j)] σ none σ' ∧ hMS σ' (if i = j then vU V 0 (pMv (V 0) p i) else V) (if i = j then C else cUp (cUp (cUp C p (nI 32)) i (nI 32)) j (nI 32)) ∧ hGq σ σ' 0 0 := by
  let K : Option xV → xS → Prop := fun r0 σ0 => r0 = none ∧ hMS σ0 (if i = j then vU V 0 (pMv (V 0) p i) else V) (if i = j then C else cUp (cUp (cUp C p (nI 32)) i (nI 32)) j (nI 32)) ∧ hGq σ σ0 0 0
  have main : xGo (xEx (d + 3)) xtb_55 K (0, [some (.inr (some 4)), some (.inl (nI p)), some (.inl (nI i)), some (.inl (nI j))], [], σ) := by
    have hM := h.1
    have h4 := hM.1
    obtain ⟨g, h5, hg⟩ := hM.at
    repeat (first | refine gp rfl rfl rfl ?_ | refine ggf rfl (by assumption) (by rfl) ?_ | refine gal rfl (by assumption) (by rfl) (by omega) (by omega) ?_ | refine gil rfl (by assumption) (by rfl) (by omega) (by omega) ?_ | refine gbl rfl (by assumption) (by rfl) (by omega) (by omega) ?_ | refine gln rfl (xlen_i (by assumption)) ?_ | refine gln rfl (xlen_q (by assumption)) ?_)
    by_cases hij : i = j
    · refine gcf rfl (fun z => z (show nI i = nI j by rw [hij])) ?_
      repeat (first | refine gp rfl rfl rfl ?_ | refine ggf rfl (by assumption) (by rfl) ?_ | refine gal rfl (by assumption) (by rfl) (by omega) (by omega) ?_ | refine gil rfl (by assumption) (by rfl) (by omega) (by omega) ?_ | refine gbl rfl (by assumption) (by rfl) (by omega) (by omega) ?_ | refine gln rfl (xlen_i (by assumption)) ?_ | refine gln rfl (xlen_q (by assumption)) ?_)
      rw [hg 0 (by decide)]
      obtain ⟨σ1, x1, x2, x3⟩ := s_move d h (i := 0) (by decide) hp hi
      refine gcv (As := [.inl (nI p), .inl (nI i)]) (rest := []) rfl (by decide) x1 (h.2.2.2.2.2 0 (by decide)).obj rfl rfl (by decide) ?_
      repeat (first | refine gp rfl rfl rfl ?_ | refine ggf rfl (by assumption) (by rfl) ?_ | refine gal rfl (by assumption) (by rfl) (by omega) (by omega) ?_ | refine gil rfl (by assumption) (by rfl) (by omega) (by omega) ?_ | refine gbl rfl (by assumption) (by rfl) (by omega) (by omega) ?_ | refine gln rfl (xlen_i (by assumption)) ?_ | refine gln rfl (xlen_q (by assumption)) ?_)
      exact grv rfl ⟨rfl, by rw [if_pos hij, if_pos hij]; exact x2, x3⟩
    · refine gct rfl (fun z => hij ((nI_eq (by omega) (by omega)).mp z)) ?_
      repeat (first | refine gp rfl rfl rfl ?_ | refine ggf rfl (by assumption) (by rfl) ?_ | refine gal rfl (by assumption) (by rfl) (by omega) (by omega) ?_ | refine gil rfl (by assumption) (by rfl) (by omega) (by omega) ?_ | refine gbl rfl (by assumption) (by rfl) (by omega) (by omega) ?_ | refine gln rfl (xlen_i (by assumption)) ?_ | refine gln rfl (xlen_q (by assumption)) ?_)
      obtain ⟨σ1, x1, x2, x3⟩ := s_mark (d + 1) (k := nI 32) h hp
      refine gcv (As := [.inl (nI p), .inl (nI 32)]) (rest := []) rfl (by decide) x1 h4 rfl rfl (by decide) ?_
      have k1 := x2.1.1
      repeat (first | refine gp rfl rfl rfl ?_ | refine ggf rfl (by assumption) (by rfl) ?_ | refine gal rfl (by assumption) (by rfl) (by omega) (by omega) ?_ | refine gil rfl (by assumption) (by rfl) (by omega) (by omega) ?_ | refine gbl rfl (by assumption) (by rfl) (by omega) (by omega) ?_ | refine gln rfl (xlen_i (by assumption)) ?_ | refine gln rfl (xlen_q (by assumption)) ?_)
      obtain ⟨σ2, y1, y2, y3⟩ := s_mark (d + 1) (k := nI 32) x2 hi
      refine gcv (As := [.inl (nI i), .inl (nI 32)]) (rest := []) rfl (by decide) y1 k1 rfl rfl (by decide) ?_
      have k2 := y2.1.1
      repeat (first | refine gp rfl rfl rfl ?_ | refine ggf rfl (by assumption) (by rfl) ?_ | refine gal rfl (by assumption) (by rfl) (by omega) (by omega) ?_ | refine gil rfl (by assumption) (by rfl) (by omega) (by omega) ?_ | refine gbl rfl (by assumption) (by rfl) (by omega) (by omega) ?_ | refine gln rfl (xlen_i (by assumption)) ?_ | refine gln rfl (xlen_q (by assumption)) ?_)
      obtain ⟨σ3, z1, z2, z3⟩ := s_mark (d + 1) (k := nI 32) y2 hj
      refine gcv (As := [.inl (nI j), .inl (nI 32)]) (rest := []) rfl (by decide) z1 k2 rfl rfl (by decide) ?_
      exact grv rfl ⟨rfl, by rw [if_neg hij, if_neg hij]; exact z2, x3.trans (y3.trans z3)⟩
  obtain ⟨r, σ', hex, rfl, g1, g2⟩ := ex_of (d := d + 3) (y := 55) (as := [.inr (some 4), .inl (nI p), .inl (nI i), .inl (nI j)]) (σ := σ) (K := K) (by decide) rfl main
  exact ⟨σ', hex, g1, g2⟩
def pOneM (st s : Nat) (V : Nat → pT) (p t : Nat) : Option pF × Int32 := if s = 1 then pMerge st (V 0 p) (V 1 t) (V 2 p) else pMerge st (V 0 p) (V 1 p) (V 2 t)
def pOneV (st s q : Nat) (V : Nat → pT) (p t : Nat) : Nat → pT :=
  if (V q p).isNone then (if (V q t).isSome then vU V 0 (pLy (V 0) p none) else vU V 0 (pMv (V 0) p t))
  else if (V q t).isNone then vU (vU V 0 (pMv (V 0) p t)) q (pMv (V q) p t)
  else vU (vU (vU V s (pLy (V s) t (pOneM st s V p t).1)) 0 (pLy (V 0) p none)) q (pLy (V q) p none)
def pOneC (st s q : Nat) (V : Nat → pT) (C : Nat → Int32) (p t : Nat) : Nat → Int32 :=
  if (V q p).isNone then cUp C t (nI 16)
  else if (V q t).isNone then C
  else cUp (cUp C t (nI 64)) t (pOneM st s V p t).2
theorem vU_ne {V : Nat → pT} {i k : Nat} {T : pT} (h : k ≠ i) : vU V i T k = V k := if_neg h
theorem m_carryByOne (d : Nat) {σ : xS} {V : Nat → pT} {C : Nat → Int32} {s q p t st : Nat} (h : hMS σ V C) (hs : (s = 1 ∧ q = 2) ∨ (s = 2 ∧ q = 1)) (so : ∀ O, V 0 p = some O → O.2.length ≤ 8) (hp : p < 64) (ht : t < 64) (hst : st < 1000) :
    ∃ σ', xEx (d + 5) 57 [.inr (some 4), .inl (nI s), .inl (nI p), .inl (nI t), .inl (nI st)] σ none σ' ∧ hMS σ' (pOneV st s q V p t) (pOneC st s q V C p t) ∧ hGq σ σ' 2 78 := by
  let K : Option xV → xS → Prop := fun r0 σ0 => r0 = none ∧ hMS σ0 (pOneV st s q V p t) (pOneC st s q V C p t) ∧ hGq σ σ0 2 78
  have main : xGo (xEx (d + 4)) xtb_57 K (0, [some (.inr (some 4)), some (.inl (nI s)), some (.inl (nI p)), some (.inl (nI t)), some (.inl (nI st)), none, none, none, none, none], [], σ) := by
    have hM := h.1
    have h4 := hM.1
    obtain ⟨g, h5, hg⟩ := hM.at
    have hs3 : s < 3 := by omega
    have hq3 : q < 3 := by omega
    have hsq : s ≠ q := by omega
    have hs0 : s ≠ 0 := by omega
    have hq0 : q ≠ 0 := by omega
    have tq := h.2.2.2.2.2 q hq3
    have tS := h.2.2.2.2.2 s hs3
    have tz := h.2.2.2.2.2 0 (by decide)
    have rest : xGo (xEx (d + 4)) xtb_57 K (36, [some (.inr (some 4)), some (.inl (nI s)), some (.inl (nI p)), some (.inl (nI t)), some (.inl (nI st)), some (.inr (some (38 + 2 * 0))), some (.inr (some (38 + 2 * s))), some (.inr (some (38 + 2 * q))), none, none], [.inl (nI p), .inr (some (38 + 2 * q))], σ) := by
      refine gcv (As := [.inl (nI p)]) (rest := []) rfl (by decide) (m_hasT (d + 1) tq hp) tq.obj rfl rfl (by decide) ?_
      cases hqp : (V q p).isSome with
      | false =>
        have nqp : (V q p).isNone = true := by cases hv : V q p with
          | none => rfl
          | some _ => rw [hv] at hqp; cases hqp
        refine giff rfl (fun z => z (show (0 : Int32) = 0 from rfl)) ?_
        repeat (first | refine gp rfl rfl rfl ?_ | refine ggf rfl (by assumption) (by rfl) ?_ | refine gal rfl (by assumption) (by rfl) (by omega) (by omega) ?_ | refine gil rfl (by assumption) (by rfl) (by omega) (by omega) ?_ | refine gbl rfl (by assumption) (by rfl) (by omega) (by omega) ?_ | refine gln rfl (xlen_i (by assumption)) ?_ | refine gln rfl (xlen_q (by assumption)) ?_)
        obtain ⟨σ1, x1, x2, x3⟩ := s_mark (d + 2) (k := nI 16) h ht
        refine gcv (As := [.inl (nI t), .inl (nI 16)]) (rest := []) rfl (by decide) x1 h4 rfl rfl (by decide) ?_
        have tq1 := x2.2.2.2.2.2 q hq3
        have eC : pOneC st s q V C p t = cUp C t (nI 16) := by unfold pOneC; rw [if_pos nqp]
        repeat (first | refine gp rfl rfl rfl ?_ | refine ggf rfl (by assumption) (by rfl) ?_ | refine gal rfl (by assumption) (by rfl) (by omega) (by omega) ?_ | refine gil rfl (by assumption) (by rfl) (by omega) (by omega) ?_ | refine gbl rfl (by assumption) (by rfl) (by omega) (by omega) ?_ | refine gln rfl (xlen_i (by assumption)) ?_ | refine gln rfl (xlen_q (by assumption)) ?_)
        refine gcv (As := [.inl (nI t)]) (rest := []) rfl (by decide) (m_hasT (d + 1) tq1 ht) tq1.obj rfl rfl (by decide) ?_
        cases hqt : (V q t).isSome with
        | true =>
          refine giff rfl (fun h => absurd (show (1 : Int32) = 0 from h) (by decide)) ?_
          repeat (first | refine gp rfl rfl rfl ?_ | refine ggf rfl (by assumption) (by rfl) ?_ | refine gal rfl (by assumption) (by rfl) (by omega) (by omega) ?_ | refine gil rfl (by assumption) (by rfl) (by omega) (by omega) ?_ | refine gbl rfl (by assumption) (by rfl) (by omega) (by omega) ?_ | refine gln rfl (xlen_i (by assumption)) ?_ | refine gln rfl (xlen_q (by assumption)) ?_)
          obtain ⟨σ2, y1, y2, y3⟩ := s_lay (d + 2) (i := 0) (q := none) (F := none) x2 (by decide) hp trivial
          refine gcv (As := [.inl (nI p), .inr none]) (rest := []) rfl (by decide) y1 (x2.2.2.2.2.2 0 (by decide)).obj rfl rfl (by decide) ?_
          repeat (first | refine gp rfl rfl rfl ?_ | refine ggf rfl (by assumption) (by rfl) ?_ | refine gal rfl (by assumption) (by rfl) (by omega) (by omega) ?_ | refine gil rfl (by assumption) (by rfl) (by omega) (by omega) ?_ | refine gbl rfl (by assumption) (by rfl) (by omega) (by omega) ?_ | refine gln rfl (xlen_i (by assumption)) ?_ | refine gln rfl (xlen_q (by assumption)) ?_)
          exact grv rfl ⟨rfl, by rw [eC]; unfold pOneV; rw [if_pos nqp, if_pos hqt]; exact y2, (x3.trans y3).wide (by omega) (by omega)⟩
        | false =>
          refine git rfl (show (0 : Int32) = 0 from rfl) ?_
          repeat (first | refine gp rfl rfl rfl ?_ | refine ggf rfl (by assumption) (by rfl) ?_ | refine gal rfl (by assumption) (by rfl) (by omega) (by omega) ?_ | refine gil rfl (by assumption) (by rfl) (by omega) (by omega) ?_ | refine gbl rfl (by assumption) (by rfl) (by omega) (by omega) ?_ | refine gln rfl (xlen_i (by assumption)) ?_ | refine gln rfl (xlen_q (by assumption)) ?_)
          obtain ⟨σ2, y1, y2, y3⟩ := s_move (d + 1) (i := 0) x2 (by decide) hp ht
          refine gcv (As := [.inl (nI p), .inl (nI t)]) (rest := []) rfl (by decide) y1 (x2.2.2.2.2.2 0 (by decide)).obj rfl rfl (by decide) ?_
          repeat (first | refine gp rfl rfl rfl ?_ | refine ggf rfl (by assumption) (by rfl) ?_ | refine gal rfl (by assumption) (by rfl) (by omega) (by omega) ?_ | refine gil rfl (by assumption) (by rfl) (by omega) (by omega) ?_ | refine gbl rfl (by assumption) (by rfl) (by omega) (by omega) ?_ | refine gln rfl (xlen_i (by assumption)) ?_ | refine gln rfl (xlen_q (by assumption)) ?_)
          exact grv rfl ⟨rfl, by rw [eC]; unfold pOneV; rw [if_pos nqp, if_neg (by rw [hqt]; decide)]; exact y2, (x3.trans y3).wide (by omega) (by omega)⟩
      | true =>
        have nqp : ¬ (V q p).isNone = true := by cases hv : V q p with
          | none => rw [hv] at hqp; cases hqp
          | some _ => simp
        refine git rfl (fun z => absurd (show (1 : Int32) = 0 from z) (by decide)) ?_
        repeat (first | refine gp rfl rfl rfl ?_ | refine ggf rfl (by assumption) (by rfl) ?_ | refine gal rfl (by assumption) (by rfl) (by omega) (by omega) ?_ | refine gil rfl (by assumption) (by rfl) (by omega) (by omega) ?_ | refine gbl rfl (by assumption) (by rfl) (by omega) (by omega) ?_ | refine gln rfl (xlen_i (by assumption)) ?_ | refine gln rfl (xlen_q (by assumption)) ?_)
        refine gcv (As := [.inl (nI t)]) (rest := []) rfl (by decide) (m_hasT (d + 1) tq ht) tq.obj rfl rfl (by decide) ?_
        cases hqt : (V q t).isSome with
        | false =>
          have nqt : (V q t).isNone = true := by cases hv : V q t with
            | none => rfl
            | some _ => rw [hv] at hqt; cases hqt
          refine giff rfl (fun z => z (show (0 : Int32) = 0 from rfl)) ?_
          repeat (first | refine gp rfl rfl rfl ?_ | refine ggf rfl (by assumption) (by rfl) ?_ | refine gal rfl (by assumption) (by rfl) (by omega) (by omega) ?_ | refine gil rfl (by assumption) (by rfl) (by omega) (by omega) ?_ | refine gbl rfl (by assumption) (by rfl) (by omega) (by omega) ?_ | refine gln rfl (xlen_i (by assumption)) ?_ | refine gln rfl (xlen_q (by assumption)) ?_)
          obtain ⟨σ1, x1, x2, x3⟩ := s_move (d + 1) (i := 0) h (by decide) hp ht
          refine gcv (As := [.inl (nI p), .inl (nI t)]) (rest := []) rfl (by decide) x1 tz.obj rfl rfl (by decide) ?_
          repeat (first | refine gp rfl rfl rfl ?_ | refine ggf rfl (by assumption) (by rfl) ?_ | refine gal rfl (by assumption) (by rfl) (by omega) (by omega) ?_ | refine gil rfl (by assumption) (by rfl) (by omega) (by omega) ?_ | refine gbl rfl (by assumption) (by rfl) (by omega) (by omega) ?_ | refine gln rfl (xlen_i (by assumption)) ?_ | refine gln rfl (xlen_q (by assumption)) ?_)
          obtain ⟨σ2, y1, y2, y3⟩ := s_move (d + 1) (i := q) x2 hq3 hp ht
          refine gcv (As := [.inl (nI p), .inl (nI t)]) (rest := []) rfl (by decide) y1 (x2.2.2.2.2.2 q hq3).obj rfl rfl (by decide) ?_
          repeat (first | refine gp rfl rfl rfl ?_ | refine ggf rfl (by assumption) (by rfl) ?_ | refine gal rfl (by assumption) (by rfl) (by omega) (by omega) ?_ | refine gil rfl (by assumption) (by rfl) (by omega) (by omega) ?_ | refine gbl rfl (by assumption) (by rfl) (by omega) (by omega) ?_ | refine gln rfl (xlen_i (by assumption)) ?_ | refine gln rfl (xlen_q (by assumption)) ?_)
          rw [vU_ne hq0] at y2
          refine grv rfl ⟨rfl, ?_, (x3.trans y3).wide (by omega) (by omega)⟩
          unfold pOneV pOneC
          rw [if_neg nqp, if_neg nqp, if_pos nqt, if_pos nqt]
          exact y2
        | true =>
          have nqt : ¬ (V q t).isNone = true := by cases hv : V q t with
            | none => rw [hv] at hqt; cases hqt
            | some _ => simp
          refine git rfl (fun z => absurd (show (1 : Int32) = 0 from z) (by decide)) ?_
          repeat (first | refine gp rfl rfl rfl ?_ | refine ggf rfl (by assumption) (by rfl) ?_ | refine gal rfl (by assumption) (by rfl) (by omega) (by omega) ?_ | refine gil rfl (by assumption) (by rfl) (by omega) (by omega) ?_ | refine gbl rfl (by assumption) (by rfl) (by omega) (by omega) ?_ | refine gln rfl (xlen_i (by assumption)) ?_ | refine gln rfl (xlen_q (by assumption)) ?_)
          obtain ⟨σ1, x1, x2, x3⟩ := s_mark (d + 2) (k := nI 64) h ht
          refine gcv (As := [.inl (nI t), .inl (nI 64)]) (rest := []) rfl (by decide) x1 h4 rfl rfl (by decide) ?_
          have uq := x2.2.2.2.2.2 q hq3
          have uS := x2.2.2.2.2.2 s hs3
          have uz := x2.2.2.2.2.2 0 (by decide)
          have k4 := x2.1.1
          obtain ⟨qo, fo, oo⟩ := m_fileAtT (d + 2) uz hp
          obtain ⟨qx, fx, ox⟩ := m_fileAtT (d + 2) uS ht
          obtain ⟨qy, fy, oy⟩ := m_fileAtT (d + 2) uq hp
          have last : ∀ (qa qb : Option Nat) (a b : Option pF), hOpt σ1 qa a → hOpt σ1 qb b → pMerge st (V 0 p) a b = pOneM st s V p t → xGo (xEx (d + 4)) xtb_57 K (163, [some (.inr (some 4)), some (.inl (nI s)), some (.inl (nI p)), some (.inl (nI t)), some (.inl (nI st)), some (.inr (some (38 + 2 * 0))), some (.inr (some (38 + 2 * s))), some (.inr (some (38 + 2 * q))), some (.inr qa), some (.inr qb)], [.inl (nI p), .inr (some (38 + 2 * 0)), .inl (nI t), .inr (some 4), .inl (nI t), .inr (some (38 + 2 * s))], σ1) := by
            intro qa qb a b ha hb he
            refine gcv (As := [.inl (nI p)]) (rest := [.inl (nI t), .inr (some 4), .inl (nI t), .inr (some (38 + 2 * s))]) rfl (by decide) fo uz.obj rfl rfl (Nat.le_of_ble_eq_true rfl) ?_
            repeat (first | refine gp rfl rfl rfl ?_ | refine ggf rfl (by assumption) (by rfl) ?_ | refine gal rfl (by assumption) (by rfl) (by omega) (by omega) ?_ | refine gil rfl (by assumption) (by rfl) (by omega) (by omega) ?_ | refine gbl rfl (by assumption) (by rfl) (by omega) (by omega) ?_ | refine gln rfl (xlen_i (by assumption)) ?_ | refine gln rfl (xlen_q (by assumption)) ?_)
            obtain ⟨σ2, r, y1, y2, y3, y4⟩ := s_merge d x2 oo ha hb so ht hst
            refine gcv (As := [.inl (nI t), .inr qo, .inr qa, .inr qb, .inl (nI st)]) (rest := [.inl (nI t), .inr (some (38 + 2 * s))]) rfl (by decide) y1 k4 rfl rfl (Nat.le_of_ble_eq_true rfl) ?_
            rw [he] at y2 y3
            obtain ⟨σ3, z1, z2, z3⟩ := s_lay (d + 2) (i := s) y3 hs3 ht y2
            refine gcv (As := [.inl (nI t), .inr r]) (rest := []) rfl (by decide) z1 (y3.2.2.2.2.2 s hs3).obj rfl rfl (by decide) ?_
            repeat (first | refine gp rfl rfl rfl ?_ | refine ggf rfl (by assumption) (by rfl) ?_ | refine gal rfl (by assumption) (by rfl) (by omega) (by omega) ?_ | refine gil rfl (by assumption) (by rfl) (by omega) (by omega) ?_ | refine gbl rfl (by assumption) (by rfl) (by omega) (by omega) ?_ | refine gln rfl (xlen_i (by assumption)) ?_ | refine gln rfl (xlen_q (by assumption)) ?_)
            obtain ⟨σ4, w1, w2, w3⟩ := s_lay (d + 2) (i := 0) (p := p) (q := none) (F := none) z2 (by decide) hp trivial
            refine gcv (As := [.inl (nI p), .inr none]) (rest := []) rfl (by decide) w1 (z2.2.2.2.2.2 0 (by decide)).obj rfl rfl (by decide) ?_
            repeat (first | refine gp rfl rfl rfl ?_ | refine ggf rfl (by assumption) (by rfl) ?_ | refine gal rfl (by assumption) (by rfl) (by omega) (by omega) ?_ | refine gil rfl (by assumption) (by rfl) (by omega) (by omega) ?_ | refine gbl rfl (by assumption) (by rfl) (by omega) (by omega) ?_ | refine gln rfl (xlen_i (by assumption)) ?_ | refine gln rfl (xlen_q (by assumption)) ?_)
            obtain ⟨σ5, v1, v2, v3⟩ := s_lay (d + 2) (i := q) (p := p) (q := none) (F := none) w2 hq3 hp trivial
            refine gcv (As := [.inl (nI p), .inr none]) (rest := []) rfl (by decide) v1 (w2.2.2.2.2.2 q hq3).obj rfl rfl (by decide) ?_
            rw [vU_ne hq0, vU_ne (Ne.symm hsq), vU_ne (Ne.symm hs0)] at v2
            refine grv rfl ⟨rfl, ?_, ((x3.trans y4.q).trans (z3.trans (w3.trans v3))).wide (by omega) (by omega)⟩
            unfold pOneV pOneC
            rw [if_neg nqp, if_neg nqp, if_neg nqt, if_neg nqt]
            exact v2
          repeat (first | refine gp rfl rfl rfl ?_ | refine ggf rfl (by assumption) (by rfl) ?_ | refine gal rfl (by assumption) (by rfl) (by omega) (by omega) ?_ | refine gil rfl (by assumption) (by rfl) (by omega) (by omega) ?_ | refine gbl rfl (by assumption) (by rfl) (by omega) (by omega) ?_ | refine gln rfl (xlen_i (by assumption)) ?_ | refine gln rfl (xlen_q (by assumption)) ?_)
          rcases hs with ⟨rfl, rfl⟩ | ⟨rfl, rfl⟩
          · refine gcf rfl (fun z => z (show nI 1 = nI 1 from rfl)) ?_
            repeat (first | refine gp rfl rfl rfl ?_ | refine ggf rfl (by assumption) (by rfl) ?_ | refine gal rfl (by assumption) (by rfl) (by omega) (by omega) ?_ | refine gil rfl (by assumption) (by rfl) (by omega) (by omega) ?_ | refine gbl rfl (by assumption) (by rfl) (by omega) (by omega) ?_ | refine gln rfl (xlen_i (by assumption)) ?_ | refine gln rfl (xlen_q (by assumption)) ?_)
            refine gcv (As := [.inl (nI t)]) (rest := []) rfl (by decide) fx uS.obj rfl rfl (by decide) ?_
            repeat (first | refine gp rfl rfl rfl ?_ | refine ggf rfl (by assumption) (by rfl) ?_ | refine gal rfl (by assumption) (by rfl) (by omega) (by omega) ?_ | refine gil rfl (by assumption) (by rfl) (by omega) (by omega) ?_ | refine gbl rfl (by assumption) (by rfl) (by omega) (by omega) ?_ | refine gln rfl (xlen_i (by assumption)) ?_ | refine gln rfl (xlen_q (by assumption)) ?_)
            refine gcf rfl (fun z => z (show nI 1 = nI 1 from rfl)) ?_
            repeat (first | refine gp rfl rfl rfl ?_ | refine ggf rfl (by assumption) (by rfl) ?_ | refine gal rfl (by assumption) (by rfl) (by omega) (by omega) ?_ | refine gil rfl (by assumption) (by rfl) (by omega) (by omega) ?_ | refine gbl rfl (by assumption) (by rfl) (by omega) (by omega) ?_ | refine gln rfl (xlen_i (by assumption)) ?_ | refine gln rfl (xlen_q (by assumption)) ?_)
            refine gcv (As := [.inl (nI p)]) (rest := []) rfl (by decide) fy uq.obj rfl rfl (by decide) ?_
            repeat (first | refine gp rfl rfl rfl ?_ | refine ggf rfl (by assumption) (by rfl) ?_ | refine gal rfl (by assumption) (by rfl) (by omega) (by omega) ?_ | refine gil rfl (by assumption) (by rfl) (by omega) (by omega) ?_ | refine gbl rfl (by assumption) (by rfl) (by omega) (by omega) ?_ | refine gln rfl (xlen_i (by assumption)) ?_ | refine gln rfl (xlen_q (by assumption)) ?_)
            exact last qx qy _ _ ox oy rfl
          · refine gct rfl (fun z => absurd (show nI 2 = nI 1 from z) (by decide)) ?_
            repeat (first | refine gp rfl rfl rfl ?_ | refine ggf rfl (by assumption) (by rfl) ?_ | refine gal rfl (by assumption) (by rfl) (by omega) (by omega) ?_ | refine gil rfl (by assumption) (by rfl) (by omega) (by omega) ?_ | refine gbl rfl (by assumption) (by rfl) (by omega) (by omega) ?_ | refine gln rfl (xlen_i (by assumption)) ?_ | refine gln rfl (xlen_q (by assumption)) ?_)
            refine gcv (As := [.inl (nI p)]) (rest := []) rfl (by decide) fy uq.obj rfl rfl (by decide) ?_
            repeat (first | refine gp rfl rfl rfl ?_ | refine ggf rfl (by assumption) (by rfl) ?_ | refine gal rfl (by assumption) (by rfl) (by omega) (by omega) ?_ | refine gil rfl (by assumption) (by rfl) (by omega) (by omega) ?_ | refine gbl rfl (by assumption) (by rfl) (by omega) (by omega) ?_ | refine gln rfl (xlen_i (by assumption)) ?_ | refine gln rfl (xlen_q (by assumption)) ?_)
            refine gct rfl (fun z => absurd (show nI 2 = nI 1 from z) (by decide)) ?_
            repeat (first | refine gp rfl rfl rfl ?_ | refine ggf rfl (by assumption) (by rfl) ?_ | refine gal rfl (by assumption) (by rfl) (by omega) (by omega) ?_ | refine gil rfl (by assumption) (by rfl) (by omega) (by omega) ?_ | refine gbl rfl (by assumption) (by rfl) (by omega) (by omega) ?_ | refine gln rfl (xlen_i (by assumption)) ?_ | refine gln rfl (xlen_q (by assumption)) ?_)
            refine gcv (As := [.inl (nI t)]) (rest := []) rfl (by decide) fx uS.obj rfl rfl (by decide) ?_
            repeat (first | refine gp rfl rfl rfl ?_ | refine ggf rfl (by assumption) (by rfl) ?_ | refine gal rfl (by assumption) (by rfl) (by omega) (by omega) ?_ | refine gil rfl (by assumption) (by rfl) (by omega) (by omega) ?_ | refine gbl rfl (by assumption) (by rfl) (by omega) (by omega) ?_ | refine gln rfl (xlen_i (by assumption)) ?_ | refine gln rfl (xlen_q (by assumption)) ?_)
            exact last qy qx _ _ oy ox rfl
    repeat (first | refine gp rfl rfl rfl ?_ | refine ggf rfl (by assumption) (by rfl) ?_ | refine gal rfl (by assumption) (by rfl) (by omega) (by omega) ?_ | refine gil rfl (by assumption) (by rfl) (by omega) (by omega) ?_ | refine gbl rfl (by assumption) (by rfl) (by omega) (by omega) ?_ | refine gln rfl (xlen_i (by assumption)) ?_ | refine gln rfl (xlen_q (by assumption)) ?_)
    rw [hg 0 (by decide), hg s hs3]
    rcases hs with ⟨rfl, rfl⟩ | ⟨rfl, rfl⟩
    · refine gcf rfl (fun z => z (show nI 1 = nI 1 from rfl)) ?_
      repeat (first | refine gp rfl rfl rfl ?_ | refine ggf rfl (by assumption) (by rfl) ?_ | refine gal rfl (by assumption) (by rfl) (by omega) (by omega) ?_ | refine gil rfl (by assumption) (by rfl) (by omega) (by omega) ?_ | refine gbl rfl (by assumption) (by rfl) (by omega) (by omega) ?_ | refine gln rfl (xlen_i (by assumption)) ?_ | refine gln rfl (xlen_q (by assumption)) ?_)
      rw [hg 2 (by decide)]
      exact rest
    · refine gct rfl (fun z => absurd (show nI 2 = nI 1 from z) (by decide)) ?_
      repeat (first | refine gp rfl rfl rfl ?_ | refine ggf rfl (by assumption) (by rfl) ?_ | refine gal rfl (by assumption) (by rfl) (by omega) (by omega) ?_ | refine gil rfl (by assumption) (by rfl) (by omega) (by omega) ?_ | refine gbl rfl (by assumption) (by rfl) (by omega) (by omega) ?_ | refine gln rfl (xlen_i (by assumption)) ?_ | refine gln rfl (xlen_q (by assumption)) ?_)
      rw [hg 1 (by decide)]
      exact rest
  obtain ⟨r, σ', hex, rfl, g1, g2⟩ := ex_of (d := d + 4) (y := 57) (as := [.inr (some 4), .inl (nI s), .inl (nI p), .inl (nI t), .inl (nI st)]) (σ := σ) (K := K) (by decide) rfl main
  exact ⟨σ', hex, g1, g2⟩
