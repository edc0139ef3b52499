/-! MODULE: where files stand, the class, the end -/
def sHi (B T O : pT) (Wt : Nat → pP) (y : Nat) : Bool := (B y).isSome || (T y).isSome || (O y).isSome || decide (1 < pCnt (fun z => decide (Wt z = some (some y))) 64)
def sSt (B T O : pT) (Wt : Nat → pP) (p : Nat) : Option Nat := match Wt p with
  | some (some y) => if sHi B T O Wt y then (if (T p).isSome then some p else none) else some y
  | _ => if (T p).isSome then some p else none
def sCf (B T O : pT) (Wt : Nat → pP) (p : Nat) : Bool := match Wt p with
  | some (some y) => sHi B T O Wt y
  | some none => true
  | none => false
theorem hT.hi {σ σ' : xS} {t : Nat} {T : pT} (h : hT σ t T) (hf : ∀ k, 38 ≤ k → σ'.1 k = σ.1 k) (ht : 38 ≤ t) : hT σ' t T := by
  obtain ⟨g, ⟨h1, h2⟩, h3⟩ := h
  exact ⟨g, ⟨by rw [hf t ht]; exact h1, by rw [hf (t + 1) (by omega)]; exact h2⟩, fun p hp => (h3 p hp).keep (fun k e hk hs => by rw [hf k (by omega)]; exact hs)⟩
theorem bI_z {b : Bool} : bI b = 0 ↔ b = false := by cases b <;> decide
theorem m_findStands (d : Nat) {σ : xS} {a c t u w b : Nat} {B T O : pT} {PO PL : Nat → pP} {fp fo fw fz cf : Nat → Int32} (h0 : hSd σ a) (h4 : σ.1 (a + 4) = some (.inl (0, 8, fp))) (h4' : ∀ f, f < 8 → fp f = plI (PL f)) (h5 : σ.1 (a + 5) = some (.inl (0, 64, fw))) (h6 : σ.1 (a + 6) = some (.inl (0, 64, fz))) (g0 : hSd σ c) (g4 : σ.1 (c + 4) = some (.inl (0, 8, fo))) (g4' : ∀ f, f < 8 → fo f = plI (PO f)) (okL : plOk PL) (okO : plOk PO) (hb : σ.1 b = some (.inl (0, 64, cf))) (hB : hT σ t B) (hTt : hT σ u T) (hO : hT σ w O)
    (ha : 2 ≤ a ∧ a + 6 < b) (hc : 2 ≤ c ∧ c + 6 < b) (hb2 : b < 38) (hac : a + 6 < c ∨ c + 6 < a) (ht : 38 ≤ t) (hu : 38 ≤ u) (hw : 38 ≤ w) :
    ∃ (σ' : xS) (fw' fz' cf' : Nat → Int32), xEx (d + 5) 29 [.inr (some a), .inr (some t), .inr (some u), .inr (some w), .inr (some c), .inr (some b)] σ none σ' ∧ σ'.1 (a + 5) = some (.inl (0, 64, fw')) ∧ σ'.1 (a + 6) = some (.inl (0, 64, fz')) ∧ σ'.1 b = some (.inl (0, 64, cf')) ∧ (∀ p, p < 64 → fz' p = oI (sSt B T O (sW B T PO PL) p) ∧ cf' p = if sCf B T O (sW B T PO PL) p then cf p ||| nI 128 else cf p) ∧ σ'.2 = σ.2 ∧ ∀ k, k ≠ a + 5 → k ≠ a + 6 → k ≠ b → σ'.1 k = σ.1 k := by
  obtain ⟨fw', hfw, hexw⟩ := m_findWanted d h0 h4 h4' h5 g0 g4 g4' okL okO hB hTt ⟨ha.1, by omega⟩ ⟨hc.1, by omega⟩ hac ht hu
  have hwok : ∀ p z, p < 64 → sW B T PO PL p = some (some z) → z < 64 := fun p z hp h => sW_lt okO hp h
  generalize hWe : sW B T PO PL = Wt at hfw hwok ⊢
  have h0' : σ.1 a = some (.inr (.inr (3, [.inr (some (a + 1)), .inr (some (a + 2)), .inr (some (a + 3)), .inr (some (a + 4)), .inr (some (a + 5)), .inr (some (a + 6))]))) := h0
  have loop : ∀ k i (σi : xS) (zi ci : Nat → Int32), i + k = 64 → σi.1 (a + 5) = some (.inl (0, 64, fw')) → σi.1 (a + 6) = some (.inl (0, 64, zi)) → σi.1 b = some (.inl (0, 64, ci)) → (∀ p, p < i → zi p = oI (sSt B T O Wt p) ∧ ci p = if sCf B T O Wt p then cf p ||| nI 128 else cf p) → (∀ p, i ≤ p → ci p = cf p) → σi.2 = σ.2 → (∀ k, k ≠ a + 5 → k ≠ a + 6 → k ≠ b → σi.1 k = σ.1 k) → ∀ l7,
      xGo (xEx (d + 4)) xtb_29 (fun r0 σ' => r0 = none ∧ ∃ fz' cf' : Nat → Int32, σ'.1 (a + 5) = some (.inl (0, 64, fw')) ∧ σ'.1 (a + 6) = some (.inl (0, 64, fz')) ∧ σ'.1 b = some (.inl (0, 64, cf')) ∧ (∀ p, p < 64 → fz' p = oI (sSt B T O Wt p) ∧ cf' p = if sCf B T O Wt p then cf p ||| nI 128 else cf p) ∧ σ'.2 = σ.2 ∧ ∀ k, k ≠ a + 5 → k ≠ a + 6 → k ≠ b → σ'.1 k = σ.1 k)
        (15, [some (.inr (some a)), some (.inr (some t)), some (.inr (some u)), some (.inr (some w)), some (.inr (some c)), some (.inr (some b)), some (.inl (nI i)), l7], [.inl (nI 64), .inl (nI i)], σi) := by
    intro k
    induction k with
    | zero =>
      intro i σi zi ci hi c5 c6 cb hall hrest hσ2 hfr l7
      obtain rfl : i = 64 := by omega
      refine gct rfl (show nI 64 ≤ nI _ from nI_le (by omega) (by omega)) ?_
      exact grv rfl ⟨rfl, zi, ci, c5, c6, cb, hall, hσ2, hfr⟩
    | succ k ih =>
      intro i σi zi ci hi c5 c6 cb hall hrest hσ2 hfr l7
      have hi64 : i < 64 := by omega
      have hB' := hB.hi (σ' := σi) (fun k hk => hfr k (by omega) (by omega) (by omega)) ht
      have hT' := hTt.hi (σ' := σi) (fun k hk => hfr k (by omega) (by omega) (by omega)) hu
      have c0 : σi.1 a = some (.inr (.inr (3, [.inr (some (a + 1)), .inr (some (a + 2)), .inr (some (a + 3)), .inr (some (a + 4)), .inr (some (a + 5)), .inr (some (a + 6))]))) := by rw [hfr a (by omega) (by omega) (by omega)]; exact h0'
      refine gcf rfl (nI_ge (by omega) (by omega)) ?_
      repeat (first | refine gp rfl rfl rfl ?_ | refine ggf rfl (by assumption) (by rfl) ?_ | refine gal rfl (by assumption) (by rfl) (by omega) (by omega) ?_ | refine gil rfl (by assumption) (by rfl) (by omega) (by omega) ?_ | refine gbl rfl (by assumption) (by rfl) (by omega) (by omega) ?_ | refine gln rfl (xlen_i (by assumption)) ?_ | refine gln rfl (xlen_q (by assumption)) ?_)
      refine gcv (As := [.inl (nI i)]) (rest := [.inl (nI i), .inr (some (a + 6))]) rfl (by decide) (m_hasT (d + 1) hT' hi64) hT'.obj rfl rfl (Nat.le_of_ble_eq_true rfl) ?_
      have stg : ∀ v : Int32, v = oI (if (T i).isSome then some i else none) → xGo (xEx (d + 4)) xtb_29 (fun r0 σ' => r0 = none ∧ ∃ fz' cf' : Nat → Int32, σ'.1 (a + 5) = some (.inl (0, 64, fw')) ∧ σ'.1 (a + 6) = some (.inl (0, 64, fz')) ∧ σ'.1 b = some (.inl (0, 64, cf')) ∧ (∀ p, p < 64 → fz' p = oI (sSt B T O Wt p) ∧ cf' p = if sCf B T O Wt p then cf p ||| nI 128 else cf p) ∧ σ'.2 = σ.2 ∧ ∀ k, k ≠ a + 5 → k ≠ a + 6 → k ≠ b → σ'.1 k = σ.1 k)
        (39, [some (.inr (some a)), some (.inr (some t)), some (.inr (some u)), some (.inr (some w)), some (.inr (some c)), some (.inr (some b)), some (.inl (nI i)), l7], [.inl v, .inl (nI i), .inr (some (a + 6))], σi) := by
        intro v hv
        refine gis rfl c6 rfl hi64 (by omega) (by omega) ?_
        generalize hσj : xup σi (a + 6) (.inl (0, 64, upd zi i v)) = σj
        have d0 : σj.1 a = some (.inr (.inr (3, [.inr (some (a + 1)), .inr (some (a + 2)), .inr (some (a + 3)), .inr (some (a + 4)), .inr (some (a + 5)), .inr (some (a + 6))]))) := by rw [← hσj, xup_ne (by omega)]; exact c0
        have d5 : σj.1 (a + 5) = some (.inl (0, 64, fw')) := by rw [← hσj, xup_ne (by omega)]; exact c5
        have d6 : σj.1 (a + 6) = some (.inl (0, 64, upd zi i v)) := by rw [← hσj]; exact xup_eq _ _ _
        have db : σj.1 b = some (.inl (0, 64, ci)) := by rw [← hσj, xup_ne (by omega)]; exact cb
        have d2 : σj.2 = σ.2 := by rw [← hσj]; exact hσ2
        have dfr : ∀ k, k ≠ a + 5 → k ≠ a + 6 → k ≠ b → σj.1 k = σ.1 k := fun k k1 k2 k3 => by rw [← hσj, xup_ne k2]; exact hfr k k1 k2 k3
        have eB := hB.hi (σ' := σj) (fun k hk => dfr k (by omega) (by omega) (by omega)) ht
        have eT := hTt.hi (σ' := σj) (fun k hk => dfr k (by omega) (by omega) (by omega)) hu
        have eO := hO.hi (σ' := σj) (fun k hk => dfr k (by omega) (by omega) (by omega)) hw
        have conf : ∀ l7, sCf B T O Wt i = true → sSt B T O Wt i = (if (T i).isSome then some i else none) → xGo (xEx (d + 4)) xtb_29 (fun r0 σ' => r0 = none ∧ ∃ fz' cf' : Nat → Int32, σ'.1 (a + 5) = some (.inl (0, 64, fw')) ∧ σ'.1 (a + 6) = some (.inl (0, 64, fz')) ∧ σ'.1 b = some (.inl (0, 64, cf')) ∧ (∀ p, p < 64 → fz' p = oI (sSt B T O Wt p) ∧ cf' p = if sCf B T O Wt p then cf p ||| nI 128 else cf p) ∧ σ'.2 = σ.2 ∧ ∀ k, k ≠ a + 5 → k ≠ a + 6 → k ≠ b → σ'.1 k = σ.1 k)
          (102, [some (.inr (some a)), some (.inr (some t)), some (.inr (some u)), some (.inr (some w)), some (.inr (some c)), some (.inr (some b)), some (.inl (nI i)), l7], [], σj) := by
          intro l7 hcf hst
          repeat (first | refine gp rfl rfl rfl ?_ | refine ggf rfl (by assumption) (by rfl) ?_ | refine gal rfl (by assumption) (by rfl) (by omega) (by omega) ?_ | refine gil rfl (by assumption) (by rfl) (by omega) (by omega) ?_ | refine gbl rfl (by assumption) (by rfl) (by omega) (by omega) ?_ | refine gln rfl (xlen_i (by assumption)) ?_ | refine gln rfl (xlen_q (by assumption)) ?_)
          refine gis rfl db rfl hi64 (by omega) (by omega) ?_
          repeat (first | refine gp rfl rfl rfl ?_ | refine ggf rfl (by assumption) (by rfl) ?_ | refine gal rfl (by assumption) (by rfl) (by omega) (by omega) ?_ | refine gil rfl (by assumption) (by rfl) (by omega) (by omega) ?_ | refine gbl rfl (by assumption) (by rfl) (by omega) (by omega) ?_ | refine gln rfl (xlen_i (by assumption)) ?_ | refine gln rfl (xlen_q (by assumption)) ?_)
          rw [nI_s]
          refine ih (i + 1) _ (upd zi i v) (upd ci i (ci i ||| xk 128 0)) (by omega) (by rw [xup_ne (by omega)]; exact d5) (by rw [xup_ne (by omega)]; exact d6) (xup_eq _ _ _) (fun p hp => ?_) (fun p hp => ?_) d2 (fun k k1 k2 k3 => by rw [xup_ne k3]; exact dfr k k1 k2 k3) l7
          · by_cases hpi : p = i
            · subst hpi
              rw [hcf, hst, if_pos rfl]
              refine ⟨by simp [upd, hv], ?_⟩
              simp only [upd, if_pos]
              rw [hrest p (Nat.le_refl _)]
              rfl
            · simp only [upd, if_neg hpi]; exact hall p (by omega)
          · simp only [upd, if_neg (show p ≠ i by omega)]; exact hrest p (by omega)
        repeat (first | refine gp rfl rfl rfl ?_ | refine ggf rfl (by assumption) (by rfl) ?_ | refine gal rfl (by assumption) (by rfl) (by omega) (by omega) ?_ | refine gil rfl (by assumption) (by rfl) (by omega) (by omega) ?_ | refine gbl rfl (by assumption) (by rfl) (by omega) (by omega) ?_ | refine gln rfl (xlen_i (by assumption)) ?_ | refine gln rfl (xlen_q (by assumption)) ?_)
        rw [hfw i hi64, xk_m1]
        cases hwi : Wt i with
        | none =>
          refine gcf rfl (fun h => h (show (-1 : Int32) = -1 from rfl)) ?_
          repeat (first | refine gp rfl rfl rfl ?_ | refine ggf rfl (by assumption) (by rfl) ?_ | refine gal rfl (by assumption) (by rfl) (by omega) (by omega) ?_ | refine gil rfl (by assumption) (by rfl) (by omega) (by omega) ?_ | refine gbl rfl (by assumption) (by rfl) (by omega) (by omega) ?_ | refine gln rfl (xlen_i (by assumption)) ?_ | refine gln rfl (xlen_q (by assumption)) ?_)
          rw [nI_s]
          refine ih (i + 1) σj (upd zi i v) ci (by omega) d5 d6 db (fun p hp => ?_) (fun p hp => hrest p (by omega)) d2 dfr _
          by_cases hpi : p = i
          · subst hpi
            have e1 : sSt B T O Wt p = (if (T p).isSome then some p else none) := by unfold sSt; rw [hwi]
            have e2 : sCf B T O Wt p = false := by unfold sCf; rw [hwi]
            rw [e1, e2]
            exact ⟨by simp [upd, hv], hrest p (Nat.le_refl _)⟩
          · simp only [upd, if_neg hpi]; exact hall p (by omega)
        | some o =>
          cases o with
          | none =>
            refine gct rfl (show ¬ (-2 : Int32) = -1 by decide) ?_
            repeat (first | refine gp rfl rfl rfl ?_ | refine ggf rfl (by assumption) (by rfl) ?_ | refine gal rfl (by assumption) (by rfl) (by omega) (by omega) ?_ | refine gil rfl (by assumption) (by rfl) (by omega) (by omega) ?_ | refine gbl rfl (by assumption) (by rfl) (by omega) (by omega) ?_ | refine gln rfl (xlen_i (by assumption)) ?_ | refine gln rfl (xlen_q (by assumption)) ?_)
            rw [xk_m2]
            refine gct rfl (show (-2 : Int32) = -2 from rfl) ?_
            exact conf _ (by unfold sCf; rw [hwi]) (by unfold sSt; rw [hwi])
          | some y =>
            have hy := hwok i y hi64 hwi
            refine gct rfl (show ¬ nI y = -1 from oI_ne (by omega)) ?_
            repeat (first | refine gp rfl rfl rfl ?_ | refine ggf rfl (by assumption) (by rfl) ?_ | refine gal rfl (by assumption) (by rfl) (by omega) (by omega) ?_ | refine gil rfl (by assumption) (by rfl) (by omega) (by omega) ?_ | refine gbl rfl (by assumption) (by rfl) (by omega) (by omega) ?_ | refine gln rfl (xlen_i (by assumption)) ?_ | refine gln rfl (xlen_q (by assumption)) ?_)
            rw [xk_m2]
            refine gcf rfl (show ¬ nI y = -2 from nI_ne2 (by omega)) ?_
            have hbad : sHi B T O Wt y = true → sCf B T O Wt i = true ∧ sSt B T O Wt i = (if (T i).isSome then some i else none) := fun z => ⟨by unfold sCf; rw [hwi]; exact z, by unfold sSt; rw [hwi]; simp [z]⟩
            repeat (first | refine gp rfl rfl rfl ?_ | refine ggf rfl (by assumption) (by rfl) ?_ | refine gal rfl (by assumption) (by rfl) (by omega) (by omega) ?_ | refine gil rfl (by assumption) (by rfl) (by omega) (by omega) ?_ | refine gbl rfl (by assumption) (by rfl) (by omega) (by omega) ?_ | refine gln rfl (xlen_i (by assumption)) ?_ | refine gln rfl (xlen_q (by assumption)) ?_)
            refine gcv (As := [.inl (nI y)]) (rest := []) rfl (by decide) (m_hasT (d + 1) eB hy) eB.obj rfl rfl (by decide) ?_
            cases q1 : (B y).isSome with
            | true =>
              have hz := hbad (by unfold sHi; rw [q1]; rfl)
              refine git rfl (show ¬ (1 : Int32) = 0 by decide) ?_
              exact conf _ hz.1 hz.2
            | false =>
              refine giff rfl (fun h => h (show (0 : Int32) = 0 from rfl)) ?_
              repeat (first | refine gp rfl rfl rfl ?_ | refine ggf rfl (by assumption) (by rfl) ?_ | refine gal rfl (by assumption) (by rfl) (by omega) (by omega) ?_ | refine gil rfl (by assumption) (by rfl) (by omega) (by omega) ?_ | refine gbl rfl (by assumption) (by rfl) (by omega) (by omega) ?_ | refine gln rfl (xlen_i (by assumption)) ?_ | refine gln rfl (xlen_q (by assumption)) ?_)
              refine gcv (As := [.inl (nI y)]) (rest := []) rfl (by decide) (m_hasT (d + 1) eT hy) eT.obj rfl rfl (by decide) ?_
              cases q2 : (T y).isSome with
              | true =>
                have hz := hbad (by unfold sHi; rw [q1, q2]; rfl)
                refine git rfl (show ¬ (1 : Int32) = 0 by decide) ?_
                exact conf _ hz.1 hz.2
              | false =>
                refine giff rfl (fun h => h (show (0 : Int32) = 0 from rfl)) ?_
                repeat (first | refine gp rfl rfl rfl ?_ | refine ggf rfl (by assumption) (by rfl) ?_ | refine gal rfl (by assumption) (by rfl) (by omega) (by omega) ?_ | refine gil rfl (by assumption) (by rfl) (by omega) (by omega) ?_ | refine gbl rfl (by assumption) (by rfl) (by omega) (by omega) ?_ | refine gln rfl (xlen_i (by assumption)) ?_ | refine gln rfl (xlen_q (by assumption)) ?_)
                refine gcv (As := [.inl (nI y)]) (rest := []) rfl (by decide) (m_hasT (d + 1) eO hy) eO.obj rfl rfl (by decide) ?_
                cases q3 : (O y).isSome with
                | true =>
                  have hz := hbad (by unfold sHi; rw [q1, q2, q3]; rfl)
                  refine git rfl (show ¬ (1 : Int32) = 0 by decide) ?_
                  exact conf _ hz.1 hz.2
                | false =>
                  refine giff rfl (fun h => h (show (0 : Int32) = 0 from rfl)) ?_
                  repeat (first | refine gp rfl rfl rfl ?_ | refine ggf rfl (by assumption) (by rfl) ?_ | refine gal rfl (by assumption) (by rfl) (by omega) (by omega) ?_ | refine gil rfl (by assumption) (by rfl) (by omega) (by omega) ?_ | refine gbl rfl (by assumption) (by rfl) (by omega) (by omega) ?_ | refine gln rfl (xlen_i (by assumption)) ?_ | refine gln rfl (xlen_q (by assumption)) ?_)
                  have hcl := pCnt_le (fun z => decide (Wt z = some (some y))) 64
                  refine gcv (As := [.inl (nI y)]) (rest := []) rfl (by decide) (m_countWanted (d + 3) (show hSd σj a from d0) d5 hfw hwok hy) d0 rfl rfl (by decide) ?_
                  repeat (first | refine gp rfl rfl rfl ?_ | refine ggf rfl (by assumption) (by rfl) ?_ | refine gal rfl (by assumption) (by rfl) (by omega) (by omega) ?_ | refine gil rfl (by assumption) (by rfl) (by omega) (by omega) ?_ | refine gbl rfl (by assumption) (by rfl) (by omega) (by omega) ?_ | refine gln rfl (xlen_i (by assumption)) ?_ | refine gln rfl (xlen_q (by assumption)) ?_)
                  refine gcp rfl (fun hle => ?_) (fun hgt => ?_)
                  · have hle := (nI_leI (by omega) (by decide)).mp (show nI (pCnt (fun z => decide (Wt z = some (some y))) 64) ≤ nI 1 from hle)
                    have hhi : sHi B T O Wt y = false := by
                      unfold sHi
                      rw [q1, q2, q3, decide_eq_false (by omega)]
                      rfl
                    repeat (first | refine gp rfl rfl rfl ?_ | refine ggf rfl (by assumption) (by rfl) ?_ | refine gal rfl (by assumption) (by rfl) (by omega) (by omega) ?_ | refine gil rfl (by assumption) (by rfl) (by omega) (by omega) ?_ | refine gbl rfl (by assumption) (by rfl) (by omega) (by omega) ?_ | refine gln rfl (xlen_i (by assumption)) ?_ | refine gln rfl (xlen_q (by assumption)) ?_)
                    refine gis rfl d6 rfl hi64 (by omega) (by omega) ?_
                    repeat (first | refine gp rfl rfl rfl ?_ | refine ggf rfl (by assumption) (by rfl) ?_ | refine gal rfl (by assumption) (by rfl) (by omega) (by omega) ?_ | refine gil rfl (by assumption) (by rfl) (by omega) (by omega) ?_ | refine gbl rfl (by assumption) (by rfl) (by omega) (by omega) ?_ | refine gln rfl (xlen_i (by assumption)) ?_ | refine gln rfl (xlen_q (by assumption)) ?_)
                    rw [nI_s]
                    refine ih (i + 1) _ (upd (upd zi i v) i (nI y)) ci (by omega) (by rw [xup_ne (by omega)]; exact d5) (xup_eq _ _ _) (by rw [xup_ne (by omega)]; exact db) (fun p hp => ?_) (fun p hp => hrest p (by omega)) d2 (fun k k1 k2 k3 => by rw [xup_ne k2]; exact dfr k k1 k2 k3) _
                    by_cases hpi : p = i
                    · subst hpi
                      have e1 : sSt B T O Wt p = some y := by unfold sSt; rw [hwi]; simp [hhi]
                      have e2 : sCf B T O Wt p = false := by unfold sCf; rw [hwi]; exact hhi
                      rw [e1, e2]
                      exact ⟨by simp [upd, oI], hrest p (Nat.le_refl _)⟩
                    · simp only [upd, if_neg hpi]; exact hall p (by omega)
                  · have hgt : 1 < pCnt (fun z => decide (Wt z = some (some y))) 64 := by
                      rcases Nat.lt_or_ge 1 (pCnt (fun z => decide (Wt z = some (some y))) 64) with z | z
                      · exact z
                      · exact absurd (show nI (pCnt (fun z => decide (Wt z = some (some y))) 64) ≤ nI 1 from (nI_leI (by omega) (by decide)).mpr z) hgt
                    have hz := hbad (by unfold sHi; rw [decide_eq_true hgt]; simp)
                    exact conf _ hz.1 hz.2
      cases hti : (T i).isSome with
      | true =>
        refine giff rfl (fun h => absurd (show (1 : Int32) = 0 from h) (by decide)) ?_
        refine gp rfl rfl rfl ?_
        refine gp rfl rfl rfl ?_
        exact stg (nI i) (by rw [hti]; rfl)
      | false =>
        refine git rfl (show (0 : Int32) = 0 from rfl) ?_
        refine gp rfl rfl rfl ?_
        exact stg (xk 1 1) (by rw [hti, xk_m1]; rfl)
  obtain ⟨r, σ', hex, rfl, fz', cf', r1, r2, r3, r4, r5, r6⟩ := ex_of (d := d + 4) (y := 29) (as := [.inr (some a), .inr (some t), .inr (some u), .inr (some w), .inr (some c), .inr (some b)]) (σ := σ) (K := fun r0 σ' => r0 = none ∧ ∃ fz' cf' : Nat → Int32, σ'.1 (a + 5) = some (.inl (0, 64, fw')) ∧ σ'.1 (a + 6) = some (.inl (0, 64, fz')) ∧ σ'.1 b = some (.inl (0, 64, cf')) ∧ (∀ p, p < 64 → fz' p = oI (sSt B T O Wt p) ∧ cf' p = if sCf B T O Wt p then cf p ||| nI 128 else cf p) ∧ σ'.2 = σ.2 ∧ ∀ k, k ≠ a + 5 → k ≠ a + 6 → k ≠ b → σ'.1 k = σ.1 k) (by decide) rfl (by
    show xGo (xEx (d + 4)) xtb_29 _ (0, [some (.inr (some a)), some (.inr (some t)), some (.inr (some u)), some (.inr (some w)), some (.inr (some c)), some (.inr (some b)), none, none], [], σ)
    repeat (first | refine gp rfl rfl rfl ?_ | refine ggf rfl (by assumption) (by rfl) ?_ | refine gal rfl (by assumption) (by rfl) (by omega) (by omega) ?_ | refine gil rfl (by assumption) (by rfl) (by omega) (by omega) ?_ | refine gbl rfl (by assumption) (by rfl) (by omega) (by omega) ?_ | refine gln rfl (xlen_i (by assumption)) ?_ | refine gln rfl (xlen_q (by assumption)) ?_)
    refine gcv (As := [.inr (some t), .inr (some u), .inr (some c)]) (rest := []) rfl (by decide) hexw h0' rfl rfl (by decide) ?_
    repeat (first | refine gp rfl rfl rfl ?_ | refine ggf rfl (by assumption) (by rfl) ?_ | refine gal rfl (by assumption) (by rfl) (by omega) (by omega) ?_ | refine gil rfl (by assumption) (by rfl) (by omega) (by omega) ?_ | refine gbl rfl (by assumption) (by rfl) (by omega) (by omega) ?_ | refine gln rfl (xlen_i (by assumption)) ?_ | refine gln rfl (xlen_q (by assumption)) ?_)
    exact loop 64 0 _ fz cf rfl (xup_eq _ _ _) (by rw [xup_ne (by omega)]; exact h6) (by rw [xup_ne (by omega)]; exact hb) (fun p hp => absurd hp (by omega)) (fun p hp => rfl) rfl (fun k k1 k2 k3 => xup_ne k1) none)
  exact ⟨σ', fw', fz', cf', hex, r1, r2, r3, r4, r5, r6⟩
