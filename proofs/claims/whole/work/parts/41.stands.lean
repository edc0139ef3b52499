/-! MODULE: where files stand, the class -/
theorem m_placeOf (d : Nat) {σ : xS} {a f : Nat} {fp : Nat → Int32} (h0 : hSd σ a) (h4 : σ.1 (a + 4) = some (.inl (0, 8, fp))) (hf : f < 8) : xEx (d + 1) 31 [.inr (some a), .inl (nI f)] σ (some (.inl (fp f))) σ := by
  have h0 : σ.1 a = some (.inr (.inr (3, [.inr (some (a + 1)), .inr (some (a + 2)), .inr (some (a + 3)), .inr (some (a + 4)), .inr (some (a + 5)), .inr (some (a + 6))]))) := h0
  refine ⟨by decide, rfl, ?_⟩
  show xGo (xEx d) xtb_31 _ (0, [some (.inr (some a)), some (.inl (nI f))], [], σ)
  repeat (first | refine gp rfl rfl rfl ?_ | refine ggf rfl (by assumption) (by rfl) ?_ | refine gal rfl (by assumption) (by rfl) (by omega) (by omega) ?_ | refine gil rfl (by assumption) (by rfl) (by omega) (by omega) ?_ | refine gbl rfl (by assumption) (by rfl) (by omega) (by omega) ?_ | refine gln rfl (xlen_i (by assumption)) ?_ | refine gln rfl (xlen_q (by assumption)) ?_)
  refine giff rfl (nI_pos (by omega)) ?_
  repeat (first | refine gp rfl rfl rfl ?_ | refine ggf rfl (by assumption) (by rfl) ?_ | refine gal rfl (by assumption) (by rfl) (by omega) (by omega) ?_ | refine gil rfl (by assumption) (by rfl) (by omega) (by omega) ?_ | refine gbl rfl (by assumption) (by rfl) (by omega) (by omega) ?_ | refine gln rfl (xlen_i (by assumption)) ?_ | refine gln rfl (xlen_q (by assumption)) ?_)
  refine gcf rfl (nI_ge (by omega) (by omega)) ?_
  repeat (first | refine gp rfl rfl rfl ?_ | refine ggf rfl (by assumption) (by rfl) ?_ | refine gal rfl (by assumption) (by rfl) (by omega) (by omega) ?_ | refine gil rfl (by assumption) (by rfl) (by omega) (by omega) ?_ | refine gbl rfl (by assumption) (by rfl) (by omega) (by omega) ?_ | refine gln rfl (xlen_i (by assumption)) ?_ | refine gln rfl (xlen_q (by assumption)) ?_)
  exact gri rfl (fun h => absurd h (by decide)) ⟨rfl, rfl⟩
theorem m_placeOf_no (d : Nat) {σ : xS} {a : Nat} {x : Int32} (hx : ¬ (0 ≤ x ∧ x < nI 8)) : xEx (d + 1) 31 [.inr (some a), .inl x] σ (some (.inl (-1))) σ := by
  refine ⟨by decide, rfl, ?_⟩
  show xGo (xEx d) xtb_31 _ (0, [some (.inr (some a)), some (.inl x)], [], σ)
  repeat (first | refine gp rfl rfl rfl ?_ | refine ggf rfl (by assumption) (by rfl) ?_ | refine gal rfl (by assumption) (by rfl) (by omega) (by omega) ?_ | refine gil rfl (by assumption) (by rfl) (by omega) (by omega) ?_ | refine gbl rfl (by assumption) (by rfl) (by omega) (by omega) ?_ | refine gln rfl (xlen_i (by assumption)) ?_ | refine gln rfl (xlen_q (by assumption)) ?_)
  refine gif' rfl (fun hn => ?_) (fun hn => ?_)
  · repeat (first | refine gp rfl rfl rfl ?_ | refine ggf rfl (by assumption) (by rfl) ?_ | refine gal rfl (by assumption) (by rfl) (by omega) (by omega) ?_ | refine gil rfl (by assumption) (by rfl) (by omega) (by omega) ?_ | refine gbl rfl (by assumption) (by rfl) (by omega) (by omega) ?_ | refine gln rfl (xlen_i (by assumption)) ?_ | refine gln rfl (xlen_q (by assumption)) ?_)
    exact gri rfl (fun h => absurd h (by decide)) ⟨by rw [xk_m1], rfl⟩
  · repeat (first | refine gp rfl rfl rfl ?_ | refine ggf rfl (by assumption) (by rfl) ?_ | refine gal rfl (by assumption) (by rfl) (by omega) (by omega) ?_ | refine gil rfl (by assumption) (by rfl) (by omega) (by omega) ?_ | refine gbl rfl (by assumption) (by rfl) (by omega) (by omega) ?_ | refine gln rfl (xlen_i (by assumption)) ?_ | refine gln rfl (xlen_q (by assumption)) ?_)
    refine gct rfl (show nI 8 ≤ x from Int32.not_lt.mp (fun z => hx ⟨Int32.not_lt.mp hn, z⟩)) ?_
    repeat (first | refine gp rfl rfl rfl ?_ | refine ggf rfl (by assumption) (by rfl) ?_ | refine gal rfl (by assumption) (by rfl) (by omega) (by omega) ?_ | refine gil rfl (by assumption) (by rfl) (by omega) (by omega) ?_ | refine gbl rfl (by assumption) (by rfl) (by omega) (by omega) ?_ | refine gln rfl (xlen_i (by assumption)) ?_ | refine gln rfl (xlen_q (by assumption)) ?_)
    exact gri rfl (fun h => absurd h (by decide)) ⟨by rw [xk_m1], rfl⟩
theorem m_targetOf (d : Nat) {σ : xS} {a p : Nat} {ft : Nat → Int32} (h0 : hSd σ a) (h1 : σ.1 (a + 1) = some (.inl (0, 64, ft))) (hp : p < 64) : xEx (d + 2) 34 [.inr (some a), .inl (nI p)] σ (some (.inl (ft p))) σ := by
  have h0 : σ.1 a = some (.inr (.inr (3, [.inr (some (a + 1)), .inr (some (a + 2)), .inr (some (a + 3)), .inr (some (a + 4)), .inr (some (a + 5)), .inr (some (a + 6))]))) := h0
  refine ⟨by decide, rfl, ?_⟩
  show xGo (xEx (d + 1)) xtb_34 _ (0, [some (.inr (some a)), some (.inl (nI p))], [], σ)
  repeat (first | refine gp rfl rfl rfl ?_ | refine ggf rfl (by assumption) (by rfl) ?_ | refine gal rfl (by assumption) (by rfl) (by omega) (by omega) ?_ | refine gil rfl (by assumption) (by rfl) (by omega) (by omega) ?_ | refine gbl rfl (by assumption) (by rfl) (by omega) (by omega) ?_ | refine gln rfl (xlen_i (by assumption)) ?_ | refine gln rfl (xlen_q (by assumption)) ?_)
  refine gcs rfl (by decide) (m_isPath d (nI p) σ) rfl rfl (by decide) ?_
  rw [if_pos (p_ok hp)]
  refine giff rfl (fun h => absurd (show (1 : Int32) = 0 from h) (by decide)) ?_
  repeat (first | refine gp rfl rfl rfl ?_ | refine ggf rfl (by assumption) (by rfl) ?_ | refine gal rfl (by assumption) (by rfl) (by omega) (by omega) ?_ | refine gil rfl (by assumption) (by rfl) (by omega) (by omega) ?_ | refine gbl rfl (by assumption) (by rfl) (by omega) (by omega) ?_ | refine gln rfl (xlen_i (by assumption)) ?_ | refine gln rfl (xlen_q (by assumption)) ?_)
  exact gri rfl (fun h => absurd h (by decide)) ⟨rfl, rfl⟩
theorem m_targetOf_no (d : Nat) {σ : xS} {a : Nat} {x : Int32} (hx : ¬ (0 ≤ x ∧ x < nI 64)) : xEx (d + 2) 34 [.inr (some a), .inl x] σ (some (.inl (-1))) σ := by
  refine ⟨by decide, rfl, ?_⟩
  show xGo (xEx (d + 1)) xtb_34 _ (0, [some (.inr (some a)), some (.inl x)], [], σ)
  repeat (first | refine gp rfl rfl rfl ?_ | refine ggf rfl (by assumption) (by rfl) ?_ | refine gal rfl (by assumption) (by rfl) (by omega) (by omega) ?_ | refine gil rfl (by assumption) (by rfl) (by omega) (by omega) ?_ | refine gbl rfl (by assumption) (by rfl) (by omega) (by omega) ?_ | refine gln rfl (xlen_i (by assumption)) ?_ | refine gln rfl (xlen_q (by assumption)) ?_)
  refine gcs rfl (by decide) (m_isPath d x σ) rfl rfl (by decide) ?_
  rw [if_neg hx]
  refine git rfl (show (0 : Int32) = 0 from rfl) ?_
  repeat (first | refine gp rfl rfl rfl ?_ | refine ggf rfl (by assumption) (by rfl) ?_ | refine gal rfl (by assumption) (by rfl) (by omega) (by omega) ?_ | refine gil rfl (by assumption) (by rfl) (by omega) (by omega) ?_ | refine gbl rfl (by assumption) (by rfl) (by omega) (by omega) ?_ | refine gln rfl (xlen_i (by assumption)) ?_ | refine gln rfl (xlen_q (by assumption)) ?_)
  exact gri rfl (fun h => absurd h (by decide)) ⟨by rw [xk_m1], rfl⟩
theorem m_standOf (d : Nat) {σ : xS} {a p : Nat} {fz : Nat → Int32} (h0 : hSd σ a) (h6 : σ.1 (a + 6) = some (.inl (0, 64, fz))) (hp : p < 64) : xEx (d + 2) 35 [.inr (some a), .inl (nI p)] σ (some (.inl (fz p))) σ := by
  have h0 : σ.1 a = some (.inr (.inr (3, [.inr (some (a + 1)), .inr (some (a + 2)), .inr (some (a + 3)), .inr (some (a + 4)), .inr (some (a + 5)), .inr (some (a + 6))]))) := h0
  refine ⟨by decide, rfl, ?_⟩
  show xGo (xEx (d + 1)) xtb_35 _ (0, [some (.inr (some a)), some (.inl (nI p))], [], σ)
  repeat (first | refine gp rfl rfl rfl ?_ | refine ggf rfl (by assumption) (by rfl) ?_ | refine gal rfl (by assumption) (by rfl) (by omega) (by omega) ?_ | refine gil rfl (by assumption) (by rfl) (by omega) (by omega) ?_ | refine gbl rfl (by assumption) (by rfl) (by omega) (by omega) ?_ | refine gln rfl (xlen_i (by assumption)) ?_ | refine gln rfl (xlen_q (by assumption)) ?_)
  refine gcs rfl (by decide) (m_isPath d (nI p) σ) rfl rfl (by decide) ?_
  rw [if_pos (p_ok hp)]
  refine giff rfl (fun h => absurd (show (1 : Int32) = 0 from h) (by decide)) ?_
  repeat (first | refine gp rfl rfl rfl ?_ | refine ggf rfl (by assumption) (by rfl) ?_ | refine gal rfl (by assumption) (by rfl) (by omega) (by omega) ?_ | refine gil rfl (by assumption) (by rfl) (by omega) (by omega) ?_ | refine gbl rfl (by assumption) (by rfl) (by omega) (by omega) ?_ | refine gln rfl (xlen_i (by assumption)) ?_ | refine gln rfl (xlen_q (by assumption)) ?_)
  exact gri rfl (fun h => absurd h (by decide)) ⟨rfl, rfl⟩
theorem m_standOf_no (d : Nat) {σ : xS} {a : Nat} {x : Int32} (hx : ¬ (0 ≤ x ∧ x < nI 64)) : xEx (d + 2) 35 [.inr (some a), .inl x] σ (some (.inl (-1))) σ := by
  refine ⟨by decide, rfl, ?_⟩
  show xGo (xEx (d + 1)) xtb_35 _ (0, [some (.inr (some a)), some (.inl x)], [], σ)
  repeat (first | refine gp rfl rfl rfl ?_ | refine ggf rfl (by assumption) (by rfl) ?_ | refine gal rfl (by assumption) (by rfl) (by omega) (by omega) ?_ | refine gil rfl (by assumption) (by rfl) (by omega) (by omega) ?_ | refine gbl rfl (by assumption) (by rfl) (by omega) (by omega) ?_ | refine gln rfl (xlen_i (by assumption)) ?_ | refine gln rfl (xlen_q (by assumption)) ?_)
  refine gcs rfl (by decide) (m_isPath d x σ) rfl rfl (by decide) ?_
  rw [if_neg hx]
  refine git rfl (show (0 : Int32) = 0 from rfl) ?_
  repeat (first | refine gp rfl rfl rfl ?_ | refine ggf rfl (by assumption) (by rfl) ?_ | refine gal rfl (by assumption) (by rfl) (by omega) (by omega) ?_ | refine gil rfl (by assumption) (by rfl) (by omega) (by omega) ?_ | refine gbl rfl (by assumption) (by rfl) (by omega) (by omega) ?_ | refine gln rfl (xlen_i (by assumption)) ?_ | refine gln rfl (xlen_q (by assumption)) ?_)
  exact gri rfl (fun h => absurd h (by decide)) ⟨by rw [xk_m1], rfl⟩
/-- where a file is wanted -/
def sW (B T : pT) (PO PL : Nat → pP) (p : Nat) : pP := if (T p).isSome && (B p).isNone then (match PO (p / 8) with
  | some none => some none
  | some (some e) => (match PL e with
    | some (some _) => none
    | _ => some (some (e * 8 + p % 8)))
  | none => none) else none
def plOk (PL : Nat → pP) : Prop := ∀ f e, f < 8 → PL f = some (some e) → e < 8
theorem sW_lt {B T : pT} {PO PL : Nat → pP} {p y : Nat} (ho : plOk PO) (hp : p < 64) (h : sW B T PO PL p = some (some y)) : y < 64 := by
  unfold sW at h
  split at h
  · cases hpo : PO (p / 8) with
    | none => rw [hpo] at h; cases h
    | some o =>
      cases o with
      | none => rw [hpo] at h; cases h
      | some e =>
        have he := ho _ e (by omega) hpo
        rw [hpo] at h
        simp only at h
        cases hpl : PL e with
        | none => rw [hpl] at h; cases h; omega
        | some o2 =>
          cases o2 with
          | none => rw [hpl] at h; cases h; omega
          | some _ => rw [hpl] at h; cases h
  · cases h
theorem plI_neg (o : pP) (h : ∀ y, o = some (some y) → y < 64) : ¬ (0 : Int32) ≤ plI o ↔ ∀ y, o ≠ some (some y) := by
  cases o with
  | none => exact ⟨fun _ y => by simp, fun _ => by decide⟩
  | some o =>
    cases o with
    | none => exact ⟨fun _ y => by simp, fun _ => by decide⟩
    | some y =>
      have := h y rfl
      constructor
      · intro z
        exact absurd (show (0 : Int32) ≤ nI y from nI_pos' (by omega)) z
      · intro z
        exact absurd rfl (z y)
theorem m_findWanted (d : Nat) {σ : xS} {a c t u : Nat} {B T : pT} {PO PL : Nat → pP} {fp fo fw : Nat → Int32} (h0 : hSd σ a) (h4 : σ.1 (a + 4) = some (.inl (0, 8, fp))) (h4' : ∀ f, f < 8 → fp f = plI (PL f)) (h5 : σ.1 (a + 5) = some (.inl (0, 64, fw))) (g0 : hSd σ c) (g4 : σ.1 (c + 4) = some (.inl (0, 8, fo))) (g4' : ∀ f, f < 8 → fo f = plI (PO f)) (okL : plOk PL) (okO : plOk PO) (hB : hT σ t B) (hTt : hT σ u T) (ha : 2 ≤ a ∧ a + 6 < 38) (hc : 2 ≤ c ∧ c + 6 < 38) (hac : a + 6 < c ∨ c + 6 < a) (ht : 38 ≤ t) (hu : 38 ≤ u) :
    ∃ fw' : Nat → Int32, (∀ p, p < 64 → fw' p = plI (sW B T PO PL p)) ∧ xEx (d + 4) 30 [.inr (some a), .inr (some t), .inr (some u), .inr (some c)] σ none (xup σ (a + 5) (.inl (0, 64, fw'))) := by
  have h0' : σ.1 a = some (.inr (.inr (3, [.inr (some (a + 1)), .inr (some (a + 2)), .inr (some (a + 3)), .inr (some (a + 4)), .inr (some (a + 5)), .inr (some (a + 6))]))) := h0
  have loop : ∀ k i (fi : Nat → Int32), i + k = 64 → (∀ p, p < i → fi p = plI (sW B T PO PL p)) → ∀ l5, xGo (xEx (d + 3)) xtb_30 (fun r0 σ0 => r0 = none ∧ ∃ fw' : Nat → Int32, (∀ p, p < 64 → fw' p = plI (sW B T PO PL p)) ∧ σ0 = xup σ (a + 5) (.inl (0, 64, fw'))) (7, [some (.inr (some a)), some (.inr (some t)), some (.inr (some u)), some (.inr (some c)), some (.inl (nI i)), l5], [.inl (nI 64), .inl (nI i)], xup σ (a + 5) (.inl (0, 64, fi))) := by
    intro k
    induction k with
    | zero =>
      intro i fi hi hall l5
      obtain rfl : i = 64 := by omega
      refine gct rfl (show nI 64 ≤ nI _ from nI_le (by omega) (by omega)) ?_
      exact grv rfl ⟨rfl, fi, hall, rfl⟩
    | succ k ih =>
      intro i fi hi hall l5
      have hi64 : i < 64 := by omega
      have key : ∀ fj : Nat → Int32, hT (xup σ (a + 5) (.inl (0, 64, fj))) t B ∧ hT (xup σ (a + 5) (.inl (0, 64, fj))) u T ∧ (xup σ (a + 5) (.inl (0, 64, fj))).1 a = some (.inr (.inr (3, [.inr (some (a + 1)), .inr (some (a + 2)), .inr (some (a + 3)), .inr (some (a + 4)), .inr (some (a + 5)), .inr (some (a + 6))]))) ∧ (xup σ (a + 5) (.inl (0, 64, fj))).1 (a + 4) = some (.inl (0, 8, fp)) ∧ hSd (xup σ (a + 5) (.inl (0, 64, fj))) c ∧ (xup σ (a + 5) (.inl (0, 64, fj))).1 (c + 4) = some (.inl (0, 8, fo)) ∧ (xup σ (a + 5) (.inl (0, 64, fj))).1 (a + 5) = some (.inl (0, 64, fj)) := by
        intro fj
        have hF : hFr (a + 5) (a + 5) σ (xup σ (a + 5) (.inl (0, 64, fj))) := hFr.up (Nat.le_refl _) (Nat.le_refl _)
        exact ⟨hB.fr hF (by omega) (Or.inl (by omega)), hTt.fr hF (by omega) (Or.inl (by omega)), by rw [xup_ne (by omega)]; exact h0', by rw [xup_ne (by omega)]; exact h4, g0.fr hF (by omega), by rw [xup_ne (by omega)]; exact g4, xup_eq _ _ _⟩
      have fin : ∀ (v : Int32) (l5 : Option xV), v = plI (sW B T PO PL i) → xGo (xEx (d + 3)) xtb_30 (fun r0 σ0 => r0 = none ∧ ∃ fw' : Nat → Int32, (∀ p, p < 64 → fw' p = plI (sW B T PO PL p)) ∧ σ0 = xup σ (a + 5) (.inl (0, 64, fw'))) (99, [some (.inr (some a)), some (.inr (some t)), some (.inr (some u)), some (.inr (some c)), some (.inl (nI i)), l5], [], xup σ (a + 5) (.inl (0, 64, upd fi i v))) := by
        intro v l5 hv
        repeat (first | refine gp rfl rfl rfl ?_ | refine ggf rfl (by assumption) (by rfl) ?_ | refine gal rfl (by assumption) (by rfl) (by omega) (by omega) ?_ | refine gil rfl (by assumption) (by rfl) (by omega) (by omega) ?_ | refine gbl rfl (by assumption) (by rfl) (by omega) (by omega) ?_ | refine gln rfl (xlen_i (by assumption)) ?_ | refine gln rfl (xlen_q (by assumption)) ?_)
        rw [nI_s]
        refine ih (i + 1) _ (by omega) (fun p hp => ?_) l5
        by_cases hpi : p = i
        · subst hpi; simp [upd, hv]
        · simp only [upd, if_neg hpi]; exact hall p (by omega)
      obtain ⟨a1, a2, a3, a4, a5, a6, a7⟩ := key fi
      refine gcf rfl (nI_ge (by omega) (by omega)) ?_
      repeat (first | refine gp rfl rfl rfl ?_ | refine ggf rfl (by assumption) (by rfl) ?_ | refine gal rfl (by assumption) (by rfl) (by omega) (by omega) ?_ | refine gil rfl (by assumption) (by rfl) (by omega) (by omega) ?_ | refine gbl rfl (by assumption) (by rfl) (by omega) (by omega) ?_ | refine gln rfl (xlen_i (by assumption)) ?_ | refine gln rfl (xlen_q (by assumption)) ?_)
      refine gis rfl a7 rfl hi64 (by omega) (by omega) ?_
      rw [xup_up, xk_m1]
      obtain ⟨b1, b2, b3, b4, b5, b6, b7⟩ := key (upd fi i (-1))
      repeat (first | refine gp rfl rfl rfl ?_ | refine ggf rfl (by assumption) (by rfl) ?_ | refine gal rfl (by assumption) (by rfl) (by omega) (by omega) ?_ | refine gil rfl (by assumption) (by rfl) (by omega) (by omega) ?_ | refine gbl rfl (by assumption) (by rfl) (by omega) (by omega) ?_ | refine gln rfl (xlen_i (by assumption)) ?_ | refine gln rfl (xlen_q (by assumption)) ?_)
      refine gcv (As := [.inl (nI i)]) (rest := []) rfl (by decide) (m_hasT d b2 hi64) b2.obj rfl rfl (by decide) ?_
      cases hti : (T i).isSome with
      | false =>
        refine git rfl (show (0 : Int32) = 0 from rfl) ?_
        exact fin (-1) _ (by unfold sW; rw [hti]; rfl)
      | true =>
        refine giff rfl (fun h => absurd (show (1 : Int32) = 0 from h) (by decide)) ?_
        repeat (first | refine gp rfl rfl rfl ?_ | refine ggf rfl (by assumption) (by rfl) ?_ | refine gal rfl (by assumption) (by rfl) (by omega) (by omega) ?_ | refine gil rfl (by assumption) (by rfl) (by omega) (by omega) ?_ | refine gbl rfl (by assumption) (by rfl) (by omega) (by omega) ?_ | refine gln rfl (xlen_i (by assumption)) ?_ | refine gln rfl (xlen_q (by assumption)) ?_)
        refine gcv (As := [.inl (nI i)]) (rest := []) rfl (by decide) (m_hasT d b1 hi64) b1.obj rfl rfl (by decide) ?_
        cases hbi : B i with
        | some F =>
          refine git rfl (show ¬ (1 : Int32) = 0 by decide) ?_
          exact fin (-1) _ (by unfold sW; rw [hti, hbi]; rfl)
        | none =>
          refine giff rfl (fun h => h (show (0 : Int32) = 0 from rfl)) ?_
          repeat (first | refine gp rfl rfl rfl ?_ | refine ggf rfl (by assumption) (by rfl) ?_ | refine gal rfl (by assumption) (by rfl) (by omega) (by omega) ?_ | refine gil rfl (by assumption) (by rfl) (by omega) (by omega) ?_ | refine gbl rfl (by assumption) (by rfl) (by omega) (by omega) ?_ | refine gln rfl (xlen_i (by assumption)) ?_ | refine gln rfl (xlen_q (by assumption)) ?_)
          refine gcs (As := [.inl (nI i)]) (rest := [.inr (some c)]) rfl (by decide) (m_dirOf (d + 2) (by omega)) rfl rfl (Nat.le_of_ble_eq_true rfl) ?_
          refine gcv (As := [.inl (nI (i / 8))]) (rest := []) rfl (by decide) (m_placeOf (d + 2) b5 b6 (by omega)) b5 rfl rfl (by decide) ?_
          rw [g4' _ (by omega)]
          have hw : sW B T PO PL i = (match PO (i / 8) with
            | some none => some none
            | some (some e) => (match PL e with
              | some (some _) => none
              | _ => some (some (e * 8 + i % 8)))
            | none => none) := by unfold sW; rw [hti, hbi]; rfl
          repeat (first | refine gp rfl rfl rfl ?_ | refine ggf rfl (by assumption) (by rfl) ?_ | refine gal rfl (by assumption) (by rfl) (by omega) (by omega) ?_ | refine gil rfl (by assumption) (by rfl) (by omega) (by omega) ?_ | refine gbl rfl (by assumption) (by rfl) (by omega) (by omega) ?_ | refine gln rfl (xlen_i (by assumption)) ?_ | refine gln rfl (xlen_q (by assumption)) ?_)
          rw [xk_m2]
          cases hpo : PO (i / 8) with
          | none =>
            rw [hpo] at hw
            refine gct rfl (show ¬ (-1 : Int32) = -2 by decide) ?_
            repeat (first | refine gp rfl rfl rfl ?_ | refine ggf rfl (by assumption) (by rfl) ?_ | refine gal rfl (by assumption) (by rfl) (by omega) (by omega) ?_ | refine gil rfl (by assumption) (by rfl) (by omega) (by omega) ?_ | refine gbl rfl (by assumption) (by rfl) (by omega) (by omega) ?_ | refine gln rfl (xlen_i (by assumption)) ?_ | refine gln rfl (xlen_q (by assumption)) ?_)
            rw [xk_m1]
            refine gct rfl (show (-1 : Int32) = -1 from rfl) ?_
            exact fin (-1) _ (by rw [hw]; rfl)
          | some o =>
            cases o with
            | none =>
              rw [hpo] at hw
              refine gcf rfl (fun h => h (show (-2 : Int32) = -2 from rfl)) ?_
              repeat (first | refine gp rfl rfl rfl ?_ | refine ggf rfl (by assumption) (by rfl) ?_ | refine gal rfl (by assumption) (by rfl) (by omega) (by omega) ?_ | refine gil rfl (by assumption) (by rfl) (by omega) (by omega) ?_ | refine gbl rfl (by assumption) (by rfl) (by omega) (by omega) ?_ | refine gln rfl (xlen_i (by assumption)) ?_ | refine gln rfl (xlen_q (by assumption)) ?_)
              refine gis rfl b7 rfl hi64 (by omega) (by omega) ?_
              rw [xup_up, xk_m2]
              repeat (first | refine gp rfl rfl rfl ?_ | refine ggf rfl (by assumption) (by rfl) ?_ | refine gal rfl (by assumption) (by rfl) (by omega) (by omega) ?_ | refine gil rfl (by assumption) (by rfl) (by omega) (by omega) ?_ | refine gbl rfl (by assumption) (by rfl) (by omega) (by omega) ?_ | refine gln rfl (xlen_i (by assumption)) ?_ | refine gln rfl (xlen_q (by assumption)) ?_)
              rw [nI_s]
              refine ih (i + 1) _ (by omega) (fun p hp => ?_) _
              by_cases hpi : p = i
              · subst hpi; simp [upd, hw, plI]
              · simp only [upd, if_neg hpi]; exact hall p (by omega)
            | some e =>
              have he := okO _ e (by omega) hpo
              rw [hpo] at hw
              simp only at hw
              refine gct rfl (show ¬ nI e = -2 from nI_ne2 (by omega)) ?_
              repeat (first | refine gp rfl rfl rfl ?_ | refine ggf rfl (by assumption) (by rfl) ?_ | refine gal rfl (by assumption) (by rfl) (by omega) (by omega) ?_ | refine gil rfl (by assumption) (by rfl) (by omega) (by omega) ?_ | refine gbl rfl (by assumption) (by rfl) (by omega) (by omega) ?_ | refine gln rfl (xlen_i (by assumption)) ?_ | refine gln rfl (xlen_q (by assumption)) ?_)
              rw [xk_m1]
              refine gcf rfl (show ¬ nI e = -1 from oI_ne (by omega)) ?_
              repeat (first | refine gp rfl rfl rfl ?_ | refine ggf rfl (by assumption) (by rfl) ?_ | refine gal rfl (by assumption) (by rfl) (by omega) (by omega) ?_ | refine gil rfl (by assumption) (by rfl) (by omega) (by omega) ?_ | refine gbl rfl (by assumption) (by rfl) (by omega) (by omega) ?_ | refine gln rfl (xlen_i (by assumption)) ?_ | refine gln rfl (xlen_q (by assumption)) ?_)
              refine gcv (As := [.inl (nI e)]) (rest := []) rfl (by decide) (m_placeOf (d + 2) (show hSd _ a from b3) b4 he) b3 rfl rfl (by decide) ?_
              rw [h4' e he]
              have hneg := plI_neg (PL e) (fun y hy => Nat.lt_of_lt_of_le (okL e y he hy) (by decide))
              refine gif' rfl (fun hge => ?_) (fun hlt => ?_)
              · have hge : (0 : Int32) ≤ plI (PL e) := hge
                have : ∃ y, PL e = some (some y) := by
                  cases hpl : PL e with
                  | none => rw [hpl] at hge; exact absurd hge (by decide)
                  | some o2 =>
                    cases o2 with
                    | none => rw [hpl] at hge; exact absurd hge (by decide)
                    | some y => exact ⟨y, rfl⟩
                obtain ⟨y, hy⟩ := this
                exact fin (-1) _ (by rw [hw, hy]; rfl)
              · have hne := hneg.mp hlt
                have hw2 : sW B T PO PL i = some (some (e * 8 + i % 8)) := by
                  rw [hw]
                  cases hpl : PL e with
                  | none => rfl
                  | some o2 =>
                    cases o2 with
                    | none => rfl
                    | some y => exact absurd hpl (hne y)
                repeat (first | refine gp rfl rfl rfl ?_ | refine ggf rfl (by assumption) (by rfl) ?_ | refine gal rfl (by assumption) (by rfl) (by omega) (by omega) ?_ | refine gil rfl (by assumption) (by rfl) (by omega) (by omega) ?_ | refine gbl rfl (by assumption) (by rfl) (by omega) (by omega) ?_ | refine gln rfl (xlen_i (by assumption)) ?_ | refine gln rfl (xlen_q (by assumption)) ?_)
                refine gcs (As := [.inl (nI i)]) (rest := [.inl (nI e * xk 8 0), .inl (nI i), .inr (some (a + 5))]) rfl (by decide) (m_nameOf (d + 2) (by omega)) rfl rfl (Nat.le_of_ble_eq_true rfl) ?_
                refine gp rfl rfl rfl ?_
                rw [nI_m8]
                refine gis rfl b7 rfl hi64 (by omega) (by omega) ?_
                rw [xup_up]
                repeat (first | refine gp rfl rfl rfl ?_ | refine ggf rfl (by assumption) (by rfl) ?_ | refine gal rfl (by assumption) (by rfl) (by omega) (by omega) ?_ | refine gil rfl (by assumption) (by rfl) (by omega) (by omega) ?_ | refine gbl rfl (by assumption) (by rfl) (by omega) (by omega) ?_ | refine gln rfl (xlen_i (by assumption)) ?_ | refine gln rfl (xlen_q (by assumption)) ?_)
                rw [nI_s]
                refine ih (i + 1) _ (by omega) (fun p hp => ?_) _
                by_cases hpi : p = i
                · subst hpi; simp [upd, hw2, plI]
                · simp only [upd, if_neg hpi]; exact hall p (by omega)
  obtain ⟨r, σ', hex, rfl, fw', hf, rfl⟩ := ex_of (d := d + 3) (y := 30) (as := [.inr (some a), .inr (some t), .inr (some u), .inr (some c)]) (σ := σ) (K := fun r0 σ0 => r0 = none ∧ ∃ fw' : Nat → Int32, (∀ p, p < 64 → fw' p = plI (sW B T PO PL p)) ∧ σ0 = xup σ (a + 5) (.inl (0, 64, fw'))) (by decide) rfl (by
    show xGo (xEx (d + 3)) xtb_30 _ (0, [some (.inr (some a)), some (.inr (some t)), some (.inr (some u)), some (.inr (some c)), none, none], [], σ)
    repeat (first | refine gp rfl rfl rfl ?_ | refine ggf rfl (by assumption) (by rfl) ?_ | refine gal rfl (by assumption) (by rfl) (by omega) (by omega) ?_ | refine gil rfl (by assumption) (by rfl) (by omega) (by omega) ?_ | refine gbl rfl (by assumption) (by rfl) (by omega) (by omega) ?_ | refine gln rfl (xlen_i (by assumption)) ?_ | refine gln rfl (xlen_q (by assumption)) ?_)
    have := loop 64 0 fw rfl (fun f hf => absurd hf (by omega)) none
    rw [xup_same h5] at this
    exact this)
  exact ⟨fw', hf, hex⟩
theorem m_countWanted (d : Nat) {σ : xS} {a y : Nat} {fw : Nat → Int32} {Wt : Nat → pP} (h0 : hSd σ a) (h5 : σ.1 (a + 5) = some (.inl (0, 64, fw))) (h5' : ∀ p, p < 64 → fw p = plI (Wt p)) (hok : ∀ p z, p < 64 → Wt p = some (some z) → z < 64) (hy : y < 64) : xEx (d + 1) 32 [.inr (some a), .inl (nI y)] σ (some (.inl (nI (pCnt (fun z => decide (Wt z = some (some y))) 64)))) σ := by
  have h0 : σ.1 a = some (.inr (.inr (3, [.inr (some (a + 1)), .inr (some (a + 2)), .inr (some (a + 3)), .inr (some (a + 4)), .inr (some (a + 5)), .inr (some (a + 6))]))) := h0
  refine ⟨by decide, rfl, ?_⟩
  show xGo (xEx d) xtb_32 _ (0, [some (.inr (some a)), some (.inl (nI y)), none, none], [], σ)
  have loop : ∀ k i, i + k = 64 → xGo (xEx d) xtb_32 (fun r0 σ0 => r0 = some (.inl (nI (pCnt (fun z => decide (Wt z = some (some y))) 64))) ∧ σ0 = σ) (7, [some (.inr (some a)), some (.inl (nI y)), some (.inl (nI (pCnt (fun z => decide (Wt z = some (some y))) i))), some (.inl (nI i))], [.inl (nI 64), .inl (nI i)], σ) := by
    intro k
    induction k with
    | zero =>
      intro i hi
      obtain rfl : i = 64 := by omega
      refine gct rfl (show nI 64 ≤ nI _ from nI_le (by omega) (by omega)) ?_
      repeat (first | refine gp rfl rfl rfl ?_ | refine ggf rfl (by assumption) (by rfl) ?_ | refine gal rfl (by assumption) (by rfl) (by omega) (by omega) ?_ | refine gil rfl (by assumption) (by rfl) (by omega) (by omega) ?_ | refine gbl rfl (by assumption) (by rfl) (by omega) (by omega) ?_ | refine gln rfl (xlen_i (by assumption)) ?_ | refine gln rfl (xlen_q (by assumption)) ?_)
      exact gri rfl (fun h => absurd h (by decide)) ⟨rfl, rfl⟩
    | succ k ih =>
      intro i hi
      refine gcf rfl (nI_ge (by omega) (by omega)) ?_
      repeat (first | refine gp rfl rfl rfl ?_ | refine ggf rfl (by assumption) (by rfl) ?_ | refine gal rfl (by assumption) (by rfl) (by omega) (by omega) ?_ | refine gil rfl (by assumption) (by rfl) (by omega) (by omega) ?_ | refine gbl rfl (by assumption) (by rfl) (by omega) (by omega) ?_ | refine gln rfl (xlen_i (by assumption)) ?_ | refine gln rfl (xlen_q (by assumption)) ?_)
      rw [h5' i (by omega)]
      have ih' := ih (i + 1) (by omega)
      rw [pCnt_s _ i] at ih'
      have hiff : plI (Wt i) = nI y ↔ Wt i = some (some y) := by
        cases hw : Wt i with
        | none => exact ⟨fun z => absurd z.symm (oI_ne (by omega)), fun z => by cases z⟩
        | some o =>
          cases o with
          | none => exact ⟨fun z => absurd z.symm (nI_ne2 (by omega)), fun z => by cases z⟩
          | some z =>
            have := hok i z (by omega) hw
            exact ⟨fun q => by rw [(nI_eq (by omega) (by omega)).mp q], fun q => by cases q; rfl⟩
      refine gcp rfl (fun hne => ?_) (fun heq => ?_)
      · have hne : ¬ Wt i = some (some y) := fun z => hne (hiff.mpr z)
        simp only [decide_eq_false hne] at ih'
        repeat (first | refine gp rfl rfl rfl ?_ | refine ggf rfl (by assumption) (by rfl) ?_ | refine gal rfl (by assumption) (by rfl) (by omega) (by omega) ?_ | refine gil rfl (by assumption) (by rfl) (by omega) (by omega) ?_ | refine gbl rfl (by assumption) (by rfl) (by omega) (by omega) ?_ | refine gln rfl (xlen_i (by assumption)) ?_ | refine gln rfl (xlen_q (by assumption)) ?_)
        rw [nI_s]
        exact ih'
      · have heq : Wt i = some (some y) := by
          by_cases hz : plI (Wt i) = nI y
          · exact hiff.mp hz
          · exact absurd hz heq
        simp only [decide_eq_true heq] at ih'
        repeat (first | refine gp rfl rfl rfl ?_ | refine ggf rfl (by assumption) (by rfl) ?_ | refine gal rfl (by assumption) (by rfl) (by omega) (by omega) ?_ | refine gil rfl (by assumption) (by rfl) (by omega) (by omega) ?_ | refine gbl rfl (by assumption) (by rfl) (by omega) (by omega) ?_ | refine gln rfl (xlen_i (by assumption)) ?_ | refine gln rfl (xlen_q (by assumption)) ?_)
        rw [nI_s, nI_s]
        exact ih'
  repeat (first | refine gp rfl rfl rfl ?_ | refine ggf rfl (by assumption) (by rfl) ?_ | refine gal rfl (by assumption) (by rfl) (by omega) (by omega) ?_ | refine gil rfl (by assumption) (by rfl) (by omega) (by omega) ?_ | refine gbl rfl (by assumption) (by rfl) (by omega) (by omega) ?_ | refine gln rfl (xlen_i (by assumption)) ?_ | refine gln rfl (xlen_q (by assumption)) ?_)
  exact loop 64 0 rfl
