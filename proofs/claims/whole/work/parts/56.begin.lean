/-! MODULE: what is found before any file goes anywhere, the class -/
def bP (B X : pT) (th : Nat) : Nat → pP := pPlace X (rAll B X th)
def bW (B X Y : pT) (th : Nat) : Nat → pP := sW B X (bP B Y th) (bP B X th)
def bS (B X Y : pT) (th : Nat) : Nat → Option Nat := sSt B X Y (bW B X Y th)
def bC1 (B X Y : pT) (th : Nat) (C : Nat → Int32) : Nat → Int32 := fun p => if sCf B X Y (bW B X Y th) p then C p ||| nI 128 else C p
def bC (B A T : pT) (th : Nat) : Nat → Int32 := bC1 B T A th (bC1 B A T th (fun _ => 0))
def bV (B A T : pT) (th : Nat) : Nat → pT := fun i => if i = 0 then B else if i = 1 then sVer A (bS B A T th) 64 else sVer T (bS B T A th) 64
theorem bP_ok (B X : pT) (th : Nat) : plOk (bP B X th) := fun _ _ _ h => pPlace_lt h
theorem bS_lt {B X Y : pT} {th : Nat} : oLt (bS B X Y th) := by
  intro p q hp h
  unfold bS sSt at h
  split at h
  · rename_i y hy
    have := sW_lt (bP_ok B Y th) hp hy
    split at h
    · split at h
      · cases h; exact hp
      · cases h
    · cases h; exact this
  · split at h
    · cases h; exact hp
    · cases h
theorem bS_some {B X Y : pT} {th p : Nat} (h : (X p).isSome = true) : (bS B X Y th p).isSome = true := by
  unfold bS sSt
  split
  · split <;> simp [h]
  · simp [h]
theorem hT.of {σ σ' : xS} {t : Nat} {T : pT} (h : hT σ t T) (hk : ∀ k, 38 ≤ k → σ'.1 k = σ.1 k) (ht : 38 ≤ t) : hT σ' t T := by
  obtain ⟨g, ⟨a1, a2⟩, a3⟩ := h
  exact ⟨g, ⟨by rw [hk t ht]; exact a1, by rw [hk (t + 1) (by omega)]; exact a2⟩, fun p hp => (a3 p hp).keep (fun k e hk' hs => by rw [hk k (by omega)]; exact hs)⟩
theorem m_becomeT (d : Nat) {σ : xS} {a c : Nat} {T T' : pT} (h : hT σ a T) (h' : hT σ c T') (hac : a ≠ c) (hac' : a + 1 ≠ c) (ha : a + 1 < 63) : ∃ σ', xEx (d + 1) 11 [.inr (some a), .inr (some c)] σ none σ' ∧ hT σ' a T' ∧ hFr (a + 1) (a + 1) σ σ' := by
  obtain ⟨g, h1, h2⟩ := h
  obtain ⟨g', h1', h2'⟩ := h'
  obtain ⟨g'', e1, e2⟩ := m_become d h1 h1' hac (fun j hj => hOpt_cell (h2' j hj))
  refine ⟨_, e2, ⟨g'', ⟨by rw [xup_ne (by omega)]; exact h1.1, xup_eq _ _ _⟩, fun p hp => ?_⟩, hFr.up (Nat.le_refl _) (Nat.le_refl _)⟩
  rw [e1 p hp]
  exact (h2' p hp).keep (hKeep.up (by omega))
theorem m_begin (d : Nat) {σ : xS} {B A T V0 V1 V2 : pT} {C0 : Nat → Int32} {R1 R2 S1 S2 : Nat → Option Nat} {P1 P2 : Nat → pP} {th : Nat} (hM : hMg σ) (hL : hL0 σ) (hC : hCo σ C0) (hN : hInts σ 1 []) (hf : hFresh σ) (s1 : hSide σ 6 R1 P1 S1) (s2 : hSide σ 13 R2 P2 S2) (hV0 : hT σ 38 V0) (hV1 : hT σ 40 V1) (hV2 : hT σ 42 V2) (hB : hT σ 44 B) (hA : hT σ 46 A) (hT' : hT σ 48 T) (kB : pTok B) (kA : pTok A) (kT : pTok T) (hth : th ≤ 100) (ok1 : rOk (rAll B A th)) (ok2 : rOk (rAll B T th)) :
    ∃ σ', xEx (d + 6) 53 [.inr (some 4), .inr (some 44), .inr (some 46), .inr (some 48), .inl (nI th)] σ none σ' ∧ hMS σ' (bV B A T th) (bC B A T th) ∧ hSide σ' 6 (rAll B A th).1 (bP B A th) (bS B A T th) ∧ hSide σ' 13 (rAll B T th).1 (bP B T th) (bS B T A th) ∧ σ'.2 = σ.2 ∧ ∀ k, (k < 6 ∨ 43 < k) → σ'.1 k = σ.1 k := by
  let K : Option xV → xS → Prop := fun r0 σ0 => r0 = none ∧ hMS σ0 (bV B A T th) (bC B A T th) ∧ hSide σ0 6 (rAll B A th).1 (bP B A th) (bS B A T th) ∧ hSide σ0 13 (rAll B T th).1 (bP B T th) (bS B T A th) ∧ σ0.2 = σ.2 ∧ ∀ k, (k < 6 ∨ 43 < k) → σ0.1 k = σ.1 k
  have main : xGo (xEx (d + 5)) xtb_53 K (0, [some (.inr (some 4)), some (.inr (some 44)), some (.inr (some 46)), some (.inr (some 48)), some (.inl (nI th))], [], σ) := by
    obtain ⟨a0, ⟨a1, ha1, -⟩, ⟨a2, ha2⟩, ⟨a3, ha3⟩, ⟨a4, ha4, -⟩, ⟨a5, ha5⟩, ⟨a6, ha6, -⟩⟩ := s1
    obtain ⟨b0, ⟨b1, hb1, -⟩, ⟨b2, hb2⟩, ⟨b3, hb3⟩, ⟨b4, hb4, -⟩, ⟨b5, hb5⟩, ⟨b6, hb6, -⟩⟩ := s2
    have h4 := hM.1
    obtain ⟨g5, h5, hg⟩ := hM.at
    obtain ⟨c0, hc0, -⟩ := hC
    -- the codes
    repeat (first | refine gp rfl rfl rfl ?_ | refine ggf rfl (by assumption) (by rfl) ?_ | refine gal rfl (by assumption) (by rfl) (by omega) (by omega) ?_ | refine gil rfl (by assumption) (by rfl) (by omega) (by omega) ?_ | refine gbl rfl (by assumption) (by rfl) (by omega) (by omega) ?_ | refine gln rfl (xlen_i (by assumption)) ?_ | refine gln rfl (xlen_q (by assumption)) ?_)
    obtain ⟨f1, e1, x1⟩ := m_fill (d + 4) (x := (0 : Int32)) hc0 (by decide) (by decide)
    refine gcs (As := [.inr (some 20), .inl 0]) (rest := []) rfl (by decide) x1 rfl rfl (by decide) ?_
    have F1 : ∀ k, k ≠ 20 → (xup σ 20 (.inl (0, 64, f1))).1 k = σ.1 k := fun k hk => xup_ne hk
    have N1 : (xup σ 20 (.inl (0, 64, f1))).2 = σ.2 := rfl
    have q1 : (xup σ 20 (.inl (0, 64, f1))).1 20 = some (.inl (0, 64, f1)) := xup_eq _ _ _
    generalize xup σ 20 (.inl (0, 64, f1)) = σ1 at *
    have z4 : σ1.1 4 = _ := (F1 4 (by decide)).trans h4
    repeat (first | refine gp rfl rfl rfl ?_ | refine ggf rfl (by assumption) (by rfl) ?_ | refine gal rfl (by assumption) (by rfl) (by omega) (by omega) ?_ | refine gil rfl (by assumption) (by rfl) (by omega) (by omega) ?_ | refine gbl rfl (by assumption) (by rfl) (by omega) (by omega) ?_ | refine gln rfl (xlen_i (by assumption)) ?_ | refine gln rfl (xlen_q (by assumption)) ?_)
    -- renames
    obtain ⟨σ2, x2, r2, fr2⟩ := m_findRenames d (σ := σ1) (a := 6) (t := 44) (u := 46) (th := th) (by unfold hSd; rw [F1 _ (by decide)]; exact a0) (by rw [F1 _ (by decide)]; exact ha1) (by rw [F1 _ (by decide)]; exact ha2) (by rw [F1 _ (by decide)]; exact ha3) (hB.of (fun k hk => F1 k (by omega)) (by decide)) (hA.of (fun k hk => F1 k (by omega)) (by decide)) kB kA (by decide) (by decide) (by decide) hth
    have y6 : σ1.1 6 = some (.inr (.inr (3, _))) := (F1 6 (by decide)).trans a0
    refine gcv (As := [.inr (some 44), .inr (some 46), .inl (nI th)]) (rest := []) rfl (by decide) x2 y6 rfl rfl (by decide) ?_
    have F2 : ∀ k, k ≠ 20 → (k < 7 ∨ 9 < k) → σ2.1 k = σ.1 k := fun k h1 h2 => (fr2.2 k h2).trans (F1 k h1)
    have N2 : σ2.2 = σ.2 := fr2.1.trans N1
    have q2 : σ2.1 20 = some (.inl (0, 64, f1)) := (fr2.2 20 (by decide)).trans q1
    have z4 : σ2.1 4 = _ := (F2 4 (by decide) (by decide)).trans h4
    repeat (first | refine gp rfl rfl rfl ?_ | refine ggf rfl (by assumption) (by rfl) ?_ | refine gal rfl (by assumption) (by rfl) (by omega) (by omega) ?_ | refine gil rfl (by assumption) (by rfl) (by omega) (by omega) ?_ | refine gbl rfl (by assumption) (by rfl) (by omega) (by omega) ?_ | refine gln rfl (xlen_i (by assumption)) ?_ | refine gln rfl (xlen_q (by assumption)) ?_)
    obtain ⟨σ3, x3, r3, fr3⟩ := m_findRenames d (σ := σ2) (a := 13) (t := 44) (u := 48) (th := th) (by unfold hSd; rw [F2 _ (by decide) (by decide)]; exact b0) (by rw [F2 _ (by decide) (by decide)]; exact hb1) (by rw [F2 _ (by decide) (by decide)]; exact hb2) (by rw [F2 _ (by decide) (by decide)]; exact hb3) (hB.of (fun k hk => F2 k (by omega) (by omega)) (by decide)) (hT'.of (fun k hk => F2 k (by omega) (by omega)) (by decide)) kB kT (by decide) (by decide) (by decide) hth
    have y13 : σ2.1 13 = some (.inr (.inr (3, _))) := (F2 13 (by decide) (by decide)).trans b0
    refine gcv (As := [.inr (some 44), .inr (some 48), .inl (nI th)]) (rest := []) rfl (by decide) x3 y13 rfl rfl (by decide) ?_
    have F3 : ∀ k, k ≠ 20 → (k < 7 ∨ 9 < k) → (k < 14 ∨ 16 < k) → σ3.1 k = σ.1 k := fun k h1 h2 h3 => (fr3.2 k h3).trans (F2 k h1 h2)
    have N3 : σ3.2 = σ.2 := fr3.1.trans N2
    have q3 : σ3.1 20 = some (.inl (0, 64, f1)) := (fr3.2 20 (by decide)).trans q2
    obtain ⟨-, u1, u2, u3, hu1, hu2, hu3, hu⟩ := r2
    obtain ⟨-, v1, v2, v3, hv1, hv2, hv3, hv⟩ := r3
    have hu1 : σ3.1 (6 + 1) = _ := (fr3.2 _ (by decide)).trans hu1
    have hu2 : σ3.1 (6 + 2) = _ := (fr3.2 _ (by decide)).trans hu2
    have hu3 : σ3.1 (6 + 3) = _ := (fr3.2 _ (by decide)).trans hu3
    have z4 : σ3.1 4 = _ := (F3 4 (by decide) (by decide) (by decide)).trans h4
    repeat (first | refine gp rfl rfl rfl ?_ | refine ggf rfl (by assumption) (by rfl) ?_ | refine gal rfl (by assumption) (by rfl) (by omega) (by omega) ?_ | refine gil rfl (by assumption) (by rfl) (by omega) (by omega) ?_ | refine gbl rfl (by assumption) (by rfl) (by omega) (by omega) ?_ | refine gln rfl (xlen_i (by assumption)) ?_ | refine gln rfl (xlen_q (by assumption)) ?_)
    -- places
    obtain ⟨p1, hp1, x4⟩ := m_findPlaces d (σ := σ3) (a := 6) (t := 46) (T := A) (R := rAll B A th) (by unfold hSd; rw [F3 _ (by decide) (by decide) (by decide)]; exact a0) hu1 (fun p hp => (hu p hp).1) (by rw [F3 _ (by decide) (by decide) (by decide)]; exact ha4) ok1 (hA.of (fun k hk => F3 k (by omega) (by omega) (by omega)) (by decide)) (by decide) (by decide)
    have y6 : σ3.1 6 = some (.inr (.inr (3, _))) := (F3 6 (by decide) (by decide) (by decide)).trans a0
    refine gcv (As := [.inr (some 46)]) (rest := []) rfl (by decide) x4 y6 rfl rfl (by decide) ?_
    have F4 : ∀ k, k ≠ 20 → (k < 7 ∨ 10 < k) → (k < 14 ∨ 16 < k) → (xup σ3 (6 + 4) (.inl (0, 8, p1))).1 k = σ.1 k := fun k h1 h2 h3 => (xup_ne (by omega)).trans (F3 k h1 (by omega) h3)
    have N4 : (xup σ3 (6 + 4) (.inl (0, 8, p1))).2 = σ.2 := N3
    have q4 : (xup σ3 (6 + 4) (.inl (0, 8, p1))).1 20 = some (.inl (0, 64, f1)) := (xup_ne (by decide)).trans q3
    have hu1 : (xup σ3 (6 + 4) (.inl (0, 8, p1))).1 (6 + 1) = _ := (xup_ne (by decide)).trans hu1
    have hu2 : (xup σ3 (6 + 4) (.inl (0, 8, p1))).1 (6 + 2) = _ := (xup_ne (by decide)).trans hu2
    have hu3 : (xup σ3 (6 + 4) (.inl (0, 8, p1))).1 (6 + 3) = _ := (xup_ne (by decide)).trans hu3
    have hv1 : (xup σ3 (6 + 4) (.inl (0, 8, p1))).1 (13 + 1) = _ := (xup_ne (by decide)).trans hv1
    have hv2 : (xup σ3 (6 + 4) (.inl (0, 8, p1))).1 (13 + 2) = _ := (xup_ne (by decide)).trans hv2
    have hv3 : (xup σ3 (6 + 4) (.inl (0, 8, p1))).1 (13 + 3) = _ := (xup_ne (by decide)).trans hv3
    have hu4 : (xup σ3 (6 + 4) (.inl (0, 8, p1))).1 (6 + 4) = some (.inl (0, 8, p1)) := xup_eq _ _ _
    generalize xup σ3 (6 + 4) (.inl (0, 8, p1)) = σ4 at F4 N4 q4 hu1 hu2 hu3 hv1 hv2 hv3 hu4 ⊢
    have z4 : σ4.1 4 = _ := (F4 4 (by decide) (by decide) (by decide)).trans h4
    repeat (first | refine gp rfl rfl rfl ?_ | refine ggf rfl (by assumption) (by rfl) ?_ | refine gal rfl (by assumption) (by rfl) (by omega) (by omega) ?_ | refine gil rfl (by assumption) (by rfl) (by omega) (by omega) ?_ | refine gbl rfl (by assumption) (by rfl) (by omega) (by omega) ?_ | refine gln rfl (xlen_i (by assumption)) ?_ | refine gln rfl (xlen_q (by assumption)) ?_)
    obtain ⟨p2, hp2, x5⟩ := m_findPlaces d (σ := σ4) (a := 13) (t := 48) (T := T) (R := rAll B T th) (by unfold hSd; rw [F4 _ (by decide) (by decide) (by decide)]; exact b0) hv1 (fun p hp => (hv p hp).1) (by rw [F4 _ (by decide) (by decide) (by decide)]; exact hb4) ok2 (hT'.of (fun k hk => F4 k (by omega) (by omega) (by omega)) (by decide)) (by decide) (by decide)
    have y13 : σ4.1 13 = some (.inr (.inr (3, _))) := (F4 13 (by decide) (by decide) (by decide)).trans b0
    refine gcv (As := [.inr (some 48)]) (rest := []) rfl (by decide) x5 y13 rfl rfl (by decide) ?_
    have F5 : ∀ k, k ≠ 20 → (k < 7 ∨ 10 < k) → (k < 14 ∨ 17 < k) → (xup σ4 (13 + 4) (.inl (0, 8, p2))).1 k = σ.1 k := fun k h1 h2 h3 => (xup_ne (by omega)).trans (F4 k h1 h2 (by omega))
    have N5 : (xup σ4 (13 + 4) (.inl (0, 8, p2))).2 = σ.2 := N4
    have q5 : (xup σ4 (13 + 4) (.inl (0, 8, p2))).1 20 = some (.inl (0, 64, f1)) := (xup_ne (by decide)).trans q4
    have hu1 : (xup σ4 (13 + 4) (.inl (0, 8, p2))).1 (6 + 1) = _ := (xup_ne (by decide)).trans hu1
    have hu2 : (xup σ4 (13 + 4) (.inl (0, 8, p2))).1 (6 + 2) = _ := (xup_ne (by decide)).trans hu2
    have hu3 : (xup σ4 (13 + 4) (.inl (0, 8, p2))).1 (6 + 3) = _ := (xup_ne (by decide)).trans hu3
    have hu4 : (xup σ4 (13 + 4) (.inl (0, 8, p2))).1 (6 + 4) = _ := (xup_ne (by decide)).trans hu4
    have hv1 : (xup σ4 (13 + 4) (.inl (0, 8, p2))).1 (13 + 1) = _ := (xup_ne (by decide)).trans hv1
    have hv2 : (xup σ4 (13 + 4) (.inl (0, 8, p2))).1 (13 + 2) = _ := (xup_ne (by decide)).trans hv2
    have hv3 : (xup σ4 (13 + 4) (.inl (0, 8, p2))).1 (13 + 3) = _ := (xup_ne (by decide)).trans hv3
    have hv4 : (xup σ4 (13 + 4) (.inl (0, 8, p2))).1 (13 + 4) = some (.inl (0, 8, p2)) := xup_eq _ _ _
    generalize xup σ4 (13 + 4) (.inl (0, 8, p2)) = σ5 at F5 N5 q5 hu1 hu2 hu3 hu4 hv1 hv2 hv3 hv4 ⊢
    have z4 : σ5.1 4 = _ := (F5 4 (by decide) (by decide) (by decide)).trans h4
    repeat (first | refine gp rfl rfl rfl ?_ | refine ggf rfl (by assumption) (by rfl) ?_ | refine gal rfl (by assumption) (by rfl) (by omega) (by omega) ?_ | refine gil rfl (by assumption) (by rfl) (by omega) (by omega) ?_ | refine gbl rfl (by assumption) (by rfl) (by omega) (by omega) ?_ | refine gln rfl (xlen_i (by assumption)) ?_ | refine gln rfl (xlen_q (by assumption)) ?_)
    -- stands
    obtain ⟨σ6, w1, w2, w3, x6, hw1, hw2, hw3, hw4, n6, k6⟩ := m_findStands d (σ := σ5) (a := 6) (c := 13) (t := 44) (u := 46) (w := 48) (b := 20) (B := B) (T := A) (O := T) (PO := bP B T th) (PL := bP B A th) (by unfold hSd; rw [F5 _ (by decide) (by decide) (by decide)]; exact a0) hu4 hp1 (by rw [F5 _ (by decide) (by decide) (by decide)]; exact ha5) (by rw [F5 _ (by decide) (by decide) (by decide)]; exact ha6) (by unfold hSd; rw [F5 _ (by decide) (by decide) (by decide)]; exact b0) hv4 hp2 (bP_ok _ _ _) (bP_ok _ _ _) q5 (hB.of (fun k hk => F5 k (by omega) (by omega) (by omega)) (by decide)) (hA.of (fun k hk => F5 k (by omega) (by omega) (by omega)) (by decide)) (hT'.of (fun k hk => F5 k (by omega) (by omega) (by omega)) (by decide)) (by decide) (by decide) (by decide) (by decide) (by decide) (by decide) (by decide)
    have y6 : σ5.1 6 = some (.inr (.inr (3, _))) := (F5 6 (by decide) (by decide) (by decide)).trans a0
    refine gcv (As := [.inr (some 44), .inr (some 46), .inr (some 48), .inr (some 13), .inr (some 20)]) (rest := []) rfl (by decide) x6 y6 rfl rfl (by decide) ?_
    have F6 : ∀ k, k ≠ 20 → (k < 7 ∨ 12 < k) → (k < 14 ∨ 17 < k) → σ6.1 k = σ.1 k := fun k h1 h2 h3 => (k6 k (by omega) (by omega) h1).trans (F5 k h1 (by omega) h3)
    have N6 : σ6.2 = σ.2 := n6.trans N5
    have hu1 : σ6.1 (6 + 1) = _ := (k6 _ (by decide) (by decide) (by decide)).trans hu1
    have hu2 : σ6.1 (6 + 2) = _ := (k6 _ (by decide) (by decide) (by decide)).trans hu2
    have hu3 : σ6.1 (6 + 3) = _ := (k6 _ (by decide) (by decide) (by decide)).trans hu3
    have hu4 : σ6.1 (6 + 4) = _ := (k6 _ (by decide) (by decide) (by decide)).trans hu4
    have hv1 : σ6.1 (13 + 1) = _ := (k6 _ (by decide) (by decide) (by decide)).trans hv1
    have hv2 : σ6.1 (13 + 2) = _ := (k6 _ (by decide) (by decide) (by decide)).trans hv2
    have hv3 : σ6.1 (13 + 3) = _ := (k6 _ (by decide) (by decide) (by decide)).trans hv3
    have hv4 : σ6.1 (13 + 4) = _ := (k6 _ (by decide) (by decide) (by decide)).trans hv4
    have z4 : σ6.1 4 = _ := (F6 4 (by decide) (by decide) (by decide)).trans h4
    repeat (first | refine gp rfl rfl rfl ?_ | refine ggf rfl (by assumption) (by rfl) ?_ | refine gal rfl (by assumption) (by rfl) (by omega) (by omega) ?_ | refine gil rfl (by assumption) (by rfl) (by omega) (by omega) ?_ | refine gbl rfl (by assumption) (by rfl) (by omega) (by omega) ?_ | refine gln rfl (xlen_i (by assumption)) ?_ | refine gln rfl (xlen_q (by assumption)) ?_)
    obtain ⟨σ7, t1, t2, t3, x7, ht1, ht2, ht3, ht4, n7, k7⟩ := m_findStands d (σ := σ6) (a := 13) (c := 6) (t := 44) (u := 48) (w := 46) (b := 20) (B := B) (T := T) (O := A) (PO := bP B A th) (PL := bP B T th) (by unfold hSd; rw [F6 _ (by decide) (by decide) (by decide)]; exact b0) hv4 hp2 (by rw [F6 _ (by decide) (by decide) (by decide)]; exact hb5) (by rw [F6 _ (by decide) (by decide) (by decide)]; exact hb6) (by unfold hSd; rw [F6 _ (by decide) (by decide) (by decide)]; exact a0) hu4 hp1 (bP_ok _ _ _) (bP_ok _ _ _) hw3 (hB.of (fun k hk => F6 k (by omega) (by omega) (by omega)) (by decide)) (hT'.of (fun k hk => F6 k (by omega) (by omega) (by omega)) (by decide)) (hA.of (fun k hk => F6 k (by omega) (by omega) (by omega)) (by decide)) (by decide) (by decide) (by decide) (by decide) (by decide) (by decide) (by decide)
    have y13 : σ6.1 13 = some (.inr (.inr (3, _))) := (F6 13 (by decide) (by decide) (by decide)).trans b0
    refine gcv (As := [.inr (some 44), .inr (some 48), .inr (some 46), .inr (some 6), .inr (some 20)]) (rest := []) rfl (by decide) x7 y13 rfl rfl (by decide) ?_
    have F7 : ∀ k, k ≠ 20 → (k < 7 ∨ 12 < k) → (k < 14 ∨ 19 < k) → σ7.1 k = σ.1 k := fun k h1 h2 h3 => (k7 k (by omega) (by omega) h1).trans (F6 k h1 h2 (by omega))
    have N7 : σ7.2 = σ.2 := n7.trans N6
    have S1' : hSide σ7 6 (rAll B A th).1 (bP B A th) (bS B A T th) := ⟨by unfold hSd; rw [F7 _ (by decide) (by decide) (by decide)]; exact a0, ⟨u1, (k7 _ (by decide) (by decide) (by decide)).trans hu1, fun p hp => (hu p hp).1⟩, ⟨u2, (k7 _ (by decide) (by decide) (by decide)).trans hu2⟩, ⟨u3, (k7 _ (by decide) (by decide) (by decide)).trans hu3⟩, ⟨p1, (k7 _ (by decide) (by decide) (by decide)).trans hu4, hp1⟩, ⟨w1, (k7 _ (by decide) (by decide) (by decide)).trans hw1⟩, ⟨w2, (k7 _ (by decide) (by decide) (by decide)).trans hw2, fun p hp => (hw4 p hp).1⟩⟩
    have S2' : hSide σ7 13 (rAll B T th).1 (bP B T th) (bS B T A th) := ⟨by unfold hSd; rw [F7 _ (by decide) (by decide) (by decide)]; exact b0, ⟨v1, (k7 _ (by decide) (by decide) (by decide)).trans hv1, fun p hp => (hv p hp).1⟩, ⟨v2, (k7 _ (by decide) (by decide) (by decide)).trans hv2⟩, ⟨v3, (k7 _ (by decide) (by decide) (by decide)).trans hv3⟩, ⟨p2, (k7 _ (by decide) (by decide) (by decide)).trans hv4, hp2⟩, ⟨t1, ht1⟩, ⟨t2, ht2, fun p hp => (ht4 p hp).1⟩⟩
    have C7 : hCo σ7 (bC B A T th) := by
      refine ⟨t3, ht3, fun p hp => ?_⟩
      rw [(ht4 p hp).2, (hw4 p hp).2, e1 p hp]
      rfl
    have z4 : σ7.1 4 = _ := (F7 4 (by decide) (by decide) (by decide)).trans h4
    have z5 : σ7.1 5 = _ := (F7 5 (by decide) (by decide) (by decide)).trans h5
    have B7 := hB.of (σ' := σ7) (fun k hk => F7 k (by omega) (by omega) (by omega)) (by decide)
    have A7 := hA.of (σ' := σ7) (fun k hk => F7 k (by omega) (by omega) (by omega)) (by decide)
    have T7 := hT'.of (σ' := σ7) (fun k hk => F7 k (by omega) (by omega) (by omega)) (by decide)
    have V70 := hV0.of (σ' := σ7) (fun k hk => F7 k (by omega) (by omega) (by omega)) (by decide)
    have V71 := hV1.of (σ' := σ7) (fun k hk => F7 k (by omega) (by omega) (by omega)) (by decide)
    have V72 := hV2.of (σ' := σ7) (fun k hk => F7 k (by omega) (by omega) (by omega)) (by decide)
    clear x1 x2 x3 x4 x5 x6 x7 F1 F2 F3 F4 F5 F6 N1 N2 N3 N4 N5 N6 hu1 hu2 hu3 hu4 hv1 hv2 hv3 hv4 hw1 hw2 hw3 ht1 ht2 ht3
    repeat (first | refine gp rfl rfl rfl ?_ | refine ggf rfl (by assumption) (by rfl) ?_ | refine gal rfl (by assumption) (by rfl) (by omega) (by omega) ?_ | refine gil rfl (by assumption) (by rfl) (by omega) (by omega) ?_ | refine gbl rfl (by assumption) (by rfl) (by omega) (by omega) ?_ | refine gln rfl (xlen_i (by assumption)) ?_ | refine gln rfl (xlen_q (by assumption)) ?_)
    rw [hg 0 (by decide)]
    -- the versions
    obtain ⟨σ8, x8, V80, fr8⟩ := m_becomeT (d + 4) V70 B7 (by decide) (by decide) (by decide)
    refine gcv (As := [.inr (some 44)]) (rest := []) rfl (by decide) x8 V70.obj rfl rfl (by decide) ?_
    have z4 : σ8.1 4 = _ := (fr8.2 4 (by decide)).trans z4
    have z5 : σ8.1 5 = _ := (fr8.2 5 (by decide)).trans z5
    have A8 := A7.fr fr8 (by decide) (by decide)
    have V81 := V71.fr fr8 (by decide) (by decide)
    have S18 := S1'.of (fun k h1 h2 => fr8.2 k (by omega))
    obtain ⟨q0, -, -, -, -, -, ⟨q6, hq6, hq6'⟩⟩ := S18
    repeat (first | refine gp rfl rfl rfl ?_ | refine ggf rfl (by assumption) (by rfl) ?_ | refine gal rfl (by assumption) (by rfl) (by omega) (by omega) ?_ | refine gil rfl (by assumption) (by rfl) (by omega) (by omega) ?_ | refine gbl rfl (by assumption) (by rfl) (by omega) (by omega) ?_ | refine gln rfl (xlen_i (by assumption)) ?_ | refine gln rfl (xlen_q (by assumption)) ?_)
    rw [hg 1 (by decide)]
    obtain ⟨g9, x9, V91⟩ := m_layStanding (d + 1) q0 hq6 hq6' (fun p y hp h => bS_lt p y hp h) (fun p hp h => bS_some h) A8 V81 (by decide) (by decide) (by decide) (by decide)
    have y6 : σ8.1 6 = some (.inr (.inr (3, _))) := q0
    refine gcv (As := [.inr (some 46), .inr (some 40)]) (rest := []) rfl (by decide) x9 y6 rfl rfl (by decide) ?_
    have fr9 : hFr 41 41 σ8 (xup σ8 (40 + 1) (.inr (.inl (0, 64, g9)))) := hFr.up (by decide) (by decide)
    generalize xup σ8 (40 + 1) (.inr (.inl (0, 64, g9))) = σ9 at V91 fr9 ⊢
    have z4 : σ9.1 4 = _ := (fr9.2 4 (by decide)).trans z4
    have z5 : σ9.1 5 = _ := (fr9.2 5 (by decide)).trans z5
    have T9 := (T7.fr fr8 (by decide) (by decide)).fr fr9 (by decide) (by decide)
    have V92 := (V72.fr fr8 (by decide) (by decide)).fr fr9 (by decide) (by decide)
    have V90 := V80.fr fr9 (by decide) (by decide)
    have S29 := (S2'.of (fun k h1 h2 => fr8.2 k (by omega))).of (fun k h1 h2 => fr9.2 k (by omega))
    obtain ⟨r0, -, -, -, -, -, ⟨r6, hr6, hr6'⟩⟩ := S29
    repeat (first | refine gp rfl rfl rfl ?_ | refine ggf rfl (by assumption) (by rfl) ?_ | refine gal rfl (by assumption) (by rfl) (by omega) (by omega) ?_ | refine gil rfl (by assumption) (by rfl) (by omega) (by omega) ?_ | refine gbl rfl (by assumption) (by rfl) (by omega) (by omega) ?_ | refine gln rfl (xlen_i (by assumption)) ?_ | refine gln rfl (xlen_q (by assumption)) ?_)
    rw [hg 2 (by decide)]
    obtain ⟨g10, x10, V102⟩ := m_layStanding (d + 1) r0 hr6 hr6' (fun p y hp h => bS_lt p y hp h) (fun p hp h => bS_some h) T9 V92 (by decide) (by decide) (by decide) (by decide)
    have y13 : σ9.1 13 = some (.inr (.inr (3, _))) := r0
    refine gcv (As := [.inr (some 48), .inr (some 42)]) (rest := []) rfl (by decide) x10 y13 rfl rfl (by decide) ?_
    have fr10 : hFr 43 43 σ9 (xup σ9 (42 + 1) (.inr (.inl (0, 64, g10)))) := hFr.up (by decide) (by decide)
    generalize xup σ9 (42 + 1) (.inr (.inl (0, 64, g10))) = σ10 at V102 fr10 ⊢
    have V100 := V90.fr fr10 (by decide) (by decide)
    have V101 := V91.fr fr10 (by decide) (by decide)
    have N10 : σ10.2 = σ.2 := fr10.1.trans (fr9.1.trans (fr8.1.trans N7))
    have G : ∀ k, k ≤ 38 ∨ 43 < k → σ10.1 k = σ7.1 k := fun k hk => (fr10.2 k (by omega)).trans ((fr9.2 k (by omega)).trans (fr8.2 k (by omega)))
    have G2 : ∀ k, (k < 6 ∨ 43 < k) → σ10.1 k = σ.1 k := fun k hk => (G k (by omega)).trans (F7 k (by omega) (by omega) (by omega))
    refine grv rfl ⟨rfl, ⟨?_, ?_, C7.of (G 20 (by decide)), ?_, ?_, ?_⟩, S1'.of (fun k h1 h2 => G k (by omega)), S2'.of (fun k h1 h2 => G k (by omega)), N10, G2⟩
    · obtain ⟨m1, g, m2, m3⟩ := hM
      exact ⟨by rw [G2 4 (by decide)]; exact m1, g, by rw [G2 5 (by decide)]; exact m2, m3⟩
    · exact hL.of (fun k h1 h2 => (G k (by omega)).trans (F7 k (by omega) (by omega) (by omega)))
    · obtain ⟨f, m1, m2⟩ := hN
      exact ⟨f, by rw [G2 1 (by decide)]; exact m1, m2⟩
    · exact hf.of2 N10 (fun k hk => G2 k (by omega))
    · intro i hi
      match i, hi with
      | 0, _ => exact V100
      | 1, _ => exact V101
      | 2, _ => exact V102
  obtain ⟨r, σ', hex, rfl, g1, g2, g3, g4, g5⟩ := ex_of (d := d + 5) (y := 53) (as := [.inr (some 4), .inr (some 44), .inr (some 46), .inr (some 48), .inl (nI th)]) (σ := σ) (K := K) (by decide) rfl main
  exact ⟨σ', hex, g1, g2, g3, g4, g5⟩
