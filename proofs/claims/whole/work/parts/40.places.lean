/-! MODULE: new places, the class -/
abbrev pP : Type := Option (Option Nat)
def plI (o : pP) : Int32 := match o with
  | none => -1
  | some none => -2
  | some (some y) => nI y
theorem xk_m2 : xk 2 1 = -2 := by decide
theorem nI_ne2 {q : Nat} (h : q < 2147483648) : ¬ nI q = -2 := by
  intro z
  have := congrArg Int32.toInt z
  rw [nI_toInt h] at this
  have e : (-2 : Int32).toInt = -2 := by decide
  omega
def rOk (R : pR) : Prop := ∀ p q, p < 64 → R.1 p = some q → q < 64
def sHit (R : pR) (f e : Nat) (n : Nat) : Bool := match R.1 (f * 8 + n) with
  | some q => decide (q / 8 = e)
  | none => false
theorem nI_m8 (t i : Nat) : nI t * xk 8 0 + nI i = nI (t * 8 + i) := by
  show nI t * nI 8 + nI i = _
  rw [pk_mul, nI_add]
theorem m_countRenames (d : Nat) {σ : xS} {a f e : Nat} {R : pR} {ft : Nat → Int32} (h0 : hSd σ a) (h1 : σ.1 (a + 1) = some (.inl (0, 64, ft))) (h2 : ∀ p, p < 64 → ft p = oI (R.1 p)) (hok : rOk R) (hf : f < 8) (he : e < 8) : xEx (d + 2) 28 [.inr (some a), .inl (nI f), .inl (nI e)] σ (some (.inl (nI (pCnt (sHit R f e) 8)))) σ := by
  have h0 : σ.1 a = some (.inr (.inr (3, [.inr (some (a + 1)), .inr (some (a + 2)), .inr (some (a + 3)), .inr (some (a + 4)), .inr (some (a + 5)), .inr (some (a + 6))]))) := h0
  refine ⟨by decide, rfl, ?_⟩
  show xGo (xEx (d + 1)) xtb_28 _ (0, [some (.inr (some a)), some (.inl (nI f)), some (.inl (nI e)), none, none, none], [], σ)
  have loop : ∀ k i, i + k = 8 → ∀ l5, xGo (xEx (d + 1)) xtb_28 (fun r0 σ0 => r0 = some (.inl (nI (pCnt (sHit R f e) 8))) ∧ σ0 = σ) (9, [some (.inr (some a)), some (.inl (nI f)), some (.inl (nI e)), some (.inl (nI (pCnt (sHit R f e) i))), some (.inl (nI i)), l5], [.inl (nI 8), .inl (nI i)], σ) := by
    intro k
    induction k with
    | zero =>
      intro i hi l5
      obtain rfl : i = 8 := by omega
      refine gct rfl (show nI 8 ≤ nI _ from nI_le (by omega) (by omega)) ?_
      repeat (first | refine gp rfl rfl rfl ?_ | refine ggf rfl (by assumption) (by rfl) ?_ | refine gal rfl (by assumption) (by rfl) (by omega) (by omega) ?_ | refine gil rfl (by assumption) (by rfl) (by omega) (by omega) ?_ | refine gbl rfl (by assumption) (by rfl) (by omega) (by omega) ?_ | refine gln rfl (xlen_i (by assumption)) ?_ | refine gln rfl (xlen_q (by assumption)) ?_)
      exact gri rfl (fun h => absurd h (by decide)) ⟨rfl, rfl⟩
    | succ k ih =>
      intro i hi l5
      refine gcf rfl (nI_ge (by omega) (by omega)) ?_
      repeat (first | refine gp rfl rfl rfl ?_ | refine ggf rfl (by assumption) (by rfl) ?_ | refine gal rfl (by assumption) (by rfl) (by omega) (by omega) ?_ | refine gil rfl (by assumption) (by rfl) (by omega) (by omega) ?_ | refine gbl rfl (by assumption) (by rfl) (by omega) (by omega) ?_ | refine gln rfl (xlen_i (by assumption)) ?_ | refine gln rfl (xlen_q (by assumption)) ?_)
      rw [nI_m8]
      repeat (first | refine gp rfl rfl rfl ?_ | refine ggf rfl (by assumption) (by rfl) ?_ | refine gal rfl (by assumption) (by rfl) (by omega) (by omega) ?_ | refine gil rfl (by assumption) (by rfl) (by omega) (by omega) ?_ | refine gbl rfl (by assumption) (by rfl) (by omega) (by omega) ?_ | refine gln rfl (xlen_i (by assumption)) ?_ | refine gln rfl (xlen_q (by assumption)) ?_)
      rw [h2 _ (by omega), xk_m1]
      have hs : pCnt (sHit R f e) (i + 1) = pCnt (sHit R f e) i + (if sHit R f e i then 1 else 0) := rfl
      cases hq : R.1 (f * 8 + i) with
      | none =>
        refine gct rfl (show (-1 : Int32) = -1 from rfl) ?_
        have e0 : sHit R f e i = false := by unfold sHit; rw [hq]
        rw [e0] at hs
        have ih' := ih (i + 1) (by omega) (some (.inl (oI none)))
        rw [hs] at ih'
        repeat (first | refine gp rfl rfl rfl ?_ | refine ggf rfl (by assumption) (by rfl) ?_ | refine gal rfl (by assumption) (by rfl) (by omega) (by omega) ?_ | refine gil rfl (by assumption) (by rfl) (by omega) (by omega) ?_ | refine gbl rfl (by assumption) (by rfl) (by omega) (by omega) ?_ | refine gln rfl (xlen_i (by assumption)) ?_ | refine gln rfl (xlen_q (by assumption)) ?_)
        rw [nI_s]
        exact ih'
      | some q =>
        have hq64 := hok _ q (by omega) hq
        refine gcf rfl (show ¬ nI q = -1 from oI_ne (by omega)) ?_
        repeat (first | refine gp rfl rfl rfl ?_ | refine ggf rfl (by assumption) (by rfl) ?_ | refine gal rfl (by assumption) (by rfl) (by omega) (by omega) ?_ | refine gil rfl (by assumption) (by rfl) (by omega) (by omega) ?_ | refine gbl rfl (by assumption) (by rfl) (by omega) (by omega) ?_ | refine gln rfl (xlen_i (by assumption)) ?_ | refine gln rfl (xlen_q (by assumption)) ?_)
        refine gcs (As := [.inl (nI q)]) (rest := []) rfl (by decide) (m_dirOf d (by omega)) rfl rfl (by decide) ?_
        repeat (first | refine gp rfl rfl rfl ?_ | refine ggf rfl (by assumption) (by rfl) ?_ | refine gal rfl (by assumption) (by rfl) (by omega) (by omega) ?_ | refine gil rfl (by assumption) (by rfl) (by omega) (by omega) ?_ | refine gbl rfl (by assumption) (by rfl) (by omega) (by omega) ?_ | refine gln rfl (xlen_i (by assumption)) ?_ | refine gln rfl (xlen_q (by assumption)) ?_)
        have ih' := ih (i + 1) (by omega) (some (.inl (oI (some q))))
        refine gcp rfl (fun hne => ?_) (fun heq => ?_)
        · have e0 : sHit R f e i = false := by
            unfold sHit; rw [hq]
            exact decide_eq_false (fun z => hne (show nI (q / 8) = nI e by rw [z]))
          rw [hs, e0] at ih'
          repeat (first | refine gp rfl rfl rfl ?_ | refine ggf rfl (by assumption) (by rfl) ?_ | refine gal rfl (by assumption) (by rfl) (by omega) (by omega) ?_ | refine gil rfl (by assumption) (by rfl) (by omega) (by omega) ?_ | refine gbl rfl (by assumption) (by rfl) (by omega) (by omega) ?_ | refine gln rfl (xlen_i (by assumption)) ?_ | refine gln rfl (xlen_q (by assumption)) ?_)
          rw [nI_s]
          exact ih'
        · have e0 : sHit R f e i = true := by
            unfold sHit; rw [hq]
            refine decide_eq_true ?_
            by_cases hz : nI (q / 8) = nI e
            · exact (nI_eq (by omega) (by omega)).mp hz
            · exact absurd hz heq
          rw [hs, e0] at ih'
          repeat (first | refine gp rfl rfl rfl ?_ | refine ggf rfl (by assumption) (by rfl) ?_ | refine gal rfl (by assumption) (by rfl) (by omega) (by omega) ?_ | refine gil rfl (by assumption) (by rfl) (by omega) (by omega) ?_ | refine gbl rfl (by assumption) (by rfl) (by omega) (by omega) ?_ | refine gln rfl (xlen_i (by assumption)) ?_ | refine gln rfl (xlen_q (by assumption)) ?_)
          rw [nI_s, nI_s]
          exact ih'
  repeat (first | refine gp rfl rfl rfl ?_ | refine ggf rfl (by assumption) (by rfl) ?_ | refine gal rfl (by assumption) (by rfl) (by omega) (by omega) ?_ | refine gil rfl (by assumption) (by rfl) (by omega) (by omega) ?_ | refine gbl rfl (by assumption) (by rfl) (by omega) (by omega) ?_ | refine gln rfl (xlen_i (by assumption)) ?_ | refine gln rfl (xlen_q (by assumption)) ?_)
  exact loop 8 0 rfl none
def sPl (R : pR) (f : Nat) : Nat → Nat × pP
  | 0 => (0, none)
  | n + 1 => if (sPl R f n).1 < pCnt (sHit R f n) 8 then (pCnt (sHit R f n) 8, some (some n)) else if pCnt (sHit R f n) 8 = (sPl R f n).1 ∧ 0 < pCnt (sHit R f n) 8 then ((sPl R f n).1, some none) else sPl R f n
theorem sPl_le (R : pR) (f : Nat) : ∀ n, (sPl R f n).1 ≤ 8
  | 0 => Nat.zero_le _
  | n + 1 => by
    have h1 := sPl_le R f n
    have h2 := pCnt_le (sHit R f n) 8
    unfold sPl
    split
    · exact h2
    · split
      · exact h1
      · exact h1
theorem sPl_lt (R : pR) (f : Nat) : ∀ n e, (sPl R f n).2 = some (some e) → e < n
  | 0, e, h => by cases h
  | n + 1, e, h => by
    unfold sPl at h
    split at h
    · cases h; omega
    · split at h
      · cases h
      · exact Nat.lt_succ_of_lt (sPl_lt R f n e h)
theorem m_findPlace (d : Nat) {σ : xS} {a f : Nat} {R : pR} {ft : Nat → Int32} (h0 : hSd σ a) (h1 : σ.1 (a + 1) = some (.inl (0, 64, ft))) (h2 : ∀ p, p < 64 → ft p = oI (R.1 p)) (hok : rOk R) (hf : f < 8) : xEx (d + 3) 27 [.inr (some a), .inl (nI f)] σ (some (.inl (plI (sPl R f 8).2))) σ := by
  refine ⟨by decide, rfl, ?_⟩
  show xGo (xEx (d + 2)) xtb_27 _ (0, [some (.inr (some a)), some (.inl (nI f)), none, none, none, none], [], σ)
  have loop : ∀ k i, i + k = 8 → ∀ l5, xGo (xEx (d + 2)) xtb_27 (fun r0 σ0 => r0 = some (.inl (plI (sPl R f 8).2)) ∧ σ0 = σ) (11, [some (.inr (some a)), some (.inl (nI f)), some (.inl (nI (sPl R f i).1)), some (.inl (plI (sPl R f i).2)), some (.inl (nI i)), l5], [.inl (nI 8), .inl (nI i)], σ) := by
    intro k
    induction k with
    | zero =>
      intro i hi l5
      obtain rfl : i = 8 := by omega
      refine gct rfl (show nI 8 ≤ nI _ from nI_le (by omega) (by omega)) ?_
      repeat (first | refine gp rfl rfl rfl ?_ | refine ggf rfl (by assumption) (by rfl) ?_ | refine gal rfl (by assumption) (by rfl) (by omega) (by omega) ?_ | refine gil rfl (by assumption) (by rfl) (by omega) (by omega) ?_ | refine gbl rfl (by assumption) (by rfl) (by omega) (by omega) ?_ | refine gln rfl (xlen_i (by assumption)) ?_ | refine gln rfl (xlen_q (by assumption)) ?_)
      exact gri rfl (fun h => absurd h (by decide)) ⟨rfl, rfl⟩
    | succ k ih =>
      intro i hi l5
      have hc := pCnt_le (sHit R f i) 8
      have hm := sPl_le R f i
      refine gcf rfl (nI_ge (by omega) (by omega)) ?_
      repeat (first | refine gp rfl rfl rfl ?_ | refine ggf rfl (by assumption) (by rfl) ?_ | refine gal rfl (by assumption) (by rfl) (by omega) (by omega) ?_ | refine gil rfl (by assumption) (by rfl) (by omega) (by omega) ?_ | refine gbl rfl (by assumption) (by rfl) (by omega) (by omega) ?_ | refine gln rfl (xlen_i (by assumption)) ?_ | refine gln rfl (xlen_q (by assumption)) ?_)
      refine gcv (As := [.inl (nI f), .inl (nI i)]) (rest := []) rfl (by decide) (m_countRenames d h0 h1 h2 hok hf (by omega)) h0 rfl rfl (by decide) ?_
      repeat (first | refine gp rfl rfl rfl ?_ | refine ggf rfl (by assumption) (by rfl) ?_ | refine gal rfl (by assumption) (by rfl) (by omega) (by omega) ?_ | refine gil rfl (by assumption) (by rfl) (by omega) (by omega) ?_ | refine gbl rfl (by assumption) (by rfl) (by omega) (by omega) ?_ | refine gln rfl (xlen_i (by assumption)) ?_ | refine gln rfl (xlen_q (by assumption)) ?_)
      have ih' := ih (i + 1) (by omega) (some (.inl (nI (pCnt (sHit R f i) 8))))
      have hs : sPl R f (i + 1) = if (sPl R f i).1 < pCnt (sHit R f i) 8 then (pCnt (sHit R f i) 8, some (some i)) else if pCnt (sHit R f i) 8 = (sPl R f i).1 ∧ 0 < pCnt (sHit R f i) 8 then ((sPl R f i).1, some none) else sPl R f i := rfl
      rw [hs] at ih'
      refine gcp rfl (fun hle => ?_) (fun hgt => ?_)
      · have hle : ¬ (sPl R f i).1 < pCnt (sHit R f i) 8 := Nat.not_lt.mpr ((nI_leI (by omega) (by omega)).mp (show nI _ ≤ nI _ from hle))
        rw [if_neg hle] at ih'
        repeat (first | refine gp rfl rfl rfl ?_ | refine ggf rfl (by assumption) (by rfl) ?_ | refine gal rfl (by assumption) (by rfl) (by omega) (by omega) ?_ | refine gil rfl (by assumption) (by rfl) (by omega) (by omega) ?_ | refine gbl rfl (by assumption) (by rfl) (by omega) (by omega) ?_ | refine gln rfl (xlen_i (by assumption)) ?_ | refine gln rfl (xlen_q (by assumption)) ?_)
        refine gcp rfl (fun hne => ?_) (fun heq => ?_)
        · rw [if_neg (fun z => hne (show nI _ = nI _ by rw [z.1]))] at ih'
          repeat (first | refine gp rfl rfl rfl ?_ | refine ggf rfl (by assumption) (by rfl) ?_ | refine gal rfl (by assumption) (by rfl) (by omega) (by omega) ?_ | refine gil rfl (by assumption) (by rfl) (by omega) (by omega) ?_ | refine gbl rfl (by assumption) (by rfl) (by omega) (by omega) ?_ | refine gln rfl (xlen_i (by assumption)) ?_ | refine gln rfl (xlen_q (by assumption)) ?_)
          rw [nI_s]
          exact ih'
        · have heq : pCnt (sHit R f i) 8 = (sPl R f i).1 := by
            by_cases hz : nI (pCnt (sHit R f i) 8) = nI (sPl R f i).1
            · exact (nI_eq (by omega) (by omega)).mp hz
            · exact absurd hz heq
          repeat (first | refine gp rfl rfl rfl ?_ | refine ggf rfl (by assumption) (by rfl) ?_ | refine gal rfl (by assumption) (by rfl) (by omega) (by omega) ?_ | refine gil rfl (by assumption) (by rfl) (by omega) (by omega) ?_ | refine gbl rfl (by assumption) (by rfl) (by omega) (by omega) ?_ | refine gln rfl (xlen_i (by assumption)) ?_ | refine gln rfl (xlen_q (by assumption)) ?_)
          refine gif' rfl (fun hz => ?_) (fun hz => ?_)
          · have hz : ¬ 0 < pCnt (sHit R f i) 8 := by
              have := (nI_leI (a := pCnt (sHit R f i) 8) (b := 0) (by omega) (by decide)).mp hz
              omega
            rw [if_neg (fun z => hz z.2)] at ih'
            repeat (first | refine gp rfl rfl rfl ?_ | refine ggf rfl (by assumption) (by rfl) ?_ | refine gal rfl (by assumption) (by rfl) (by omega) (by omega) ?_ | refine gil rfl (by assumption) (by rfl) (by omega) (by omega) ?_ | refine gbl rfl (by assumption) (by rfl) (by omega) (by omega) ?_ | refine gln rfl (xlen_i (by assumption)) ?_ | refine gln rfl (xlen_q (by assumption)) ?_)
            rw [nI_s]
            exact ih'
          · have hz : 0 < pCnt (sHit R f i) 8 := by
              rcases Nat.eq_zero_or_pos (pCnt (sHit R f i) 8) with z | z
              · exact absurd (show nI (pCnt (sHit R f i) 8) ≤ 0 by rw [z]; decide) hz
              · exact z
            rw [if_pos ⟨heq, hz⟩] at ih'
            repeat (first | refine gp rfl rfl rfl ?_ | refine ggf rfl (by assumption) (by rfl) ?_ | refine gal rfl (by assumption) (by rfl) (by omega) (by omega) ?_ | refine gil rfl (by assumption) (by rfl) (by omega) (by omega) ?_ | refine gbl rfl (by assumption) (by rfl) (by omega) (by omega) ?_ | refine gln rfl (xlen_i (by assumption)) ?_ | refine gln rfl (xlen_q (by assumption)) ?_)
            rw [nI_s, xk_m2]
            exact ih'
      · have hgt : (sPl R f i).1 < pCnt (sHit R f i) 8 := by
          rcases Nat.lt_or_ge (sPl R f i).1 (pCnt (sHit R f i) 8) with z | z
          · exact z
          · exact absurd (show nI _ ≤ nI _ from (nI_leI (by omega) (by omega)).mpr z) hgt
        rw [if_pos hgt] at ih'
        repeat (first | refine gp rfl rfl rfl ?_ | refine ggf rfl (by assumption) (by rfl) ?_ | refine gal rfl (by assumption) (by rfl) (by omega) (by omega) ?_ | refine gil rfl (by assumption) (by rfl) (by omega) (by omega) ?_ | refine gbl rfl (by assumption) (by rfl) (by omega) (by omega) ?_ | refine gln rfl (xlen_i (by assumption)) ?_ | refine gln rfl (xlen_q (by assumption)) ?_)
        rw [nI_s]
        exact ih'
  repeat (first | refine gp rfl rfl rfl ?_ | refine ggf rfl (by assumption) (by rfl) ?_ | refine gal rfl (by assumption) (by rfl) (by omega) (by omega) ?_ | refine gil rfl (by assumption) (by rfl) (by omega) (by omega) ?_ | refine gbl rfl (by assumption) (by rfl) (by omega) (by omega) ?_ | refine gln rfl (xlen_i (by assumption)) ?_ | refine gln rfl (xlen_q (by assumption)) ?_)
  rw [xk_m1]
  exact loop 8 0 rfl none
def pPlace (T : pT) (R : pR) (f : Nat) : pP := if pAny (fun i => (T (f * 8 + i)).isSome) 8 then none else (sPl R f 8).2
theorem pPlace_lt {T : pT} {R : pR} {f e : Nat} (h : pPlace T R f = some (some e)) : e < 8 := by
  unfold pPlace at h
  split at h
  · cases h
  · exact sPl_lt R f 8 e h
theorem pAny_congr {P Q : Nat → Bool} : ∀ {n : Nat}, (∀ i, i < n → P i = Q i) → pAny P n = pAny Q n
  | 0, _ => rfl
  | n + 1, h => by
    show (pAny P n || P n) = (pAny Q n || Q n)
    rw [pAny_congr (fun i hi => h i (by omega)), h n (by omega)]
theorem m_hasFileInT (d : Nat) {σ : xS} {t f : Nat} {T : pT} (h : hT σ t T) (hf : f < 8) : xEx (d + 4) 14 [.inr (some t), .inl (nI f)] σ (some (.inl (bI (pAny (fun i => (T (f * 8 + i)).isSome) 8)))) σ := by
  obtain ⟨g, h1, h2⟩ := h
  rw [pAny_congr (P := fun i => (T (f * 8 + i)).isSome) (Q := fun i => (g (f * 8 + i)).isSome) (fun i hi => (hOpt_some (h2 _ (by omega))).symm)]
  exact m_hasFileIn d h1 hf
theorem m_findPlaces (d : Nat) {σ : xS} {a t : Nat} {T : pT} {R : pR} {ft fp : Nat → Int32} (h0 : hSd σ a) (h1 : σ.1 (a + 1) = some (.inl (0, 64, ft))) (h2 : ∀ p, p < 64 → ft p = oI (R.1 p)) (h4 : σ.1 (a + 4) = some (.inl (0, 8, fp))) (hok : rOk R) (hTt : hT σ t T) (ha : 2 ≤ a ∧ a + 6 < 38) (ht : 38 ≤ t) : ∃ fp' : Nat → Int32, (∀ f, f < 8 → fp' f = plI (pPlace T R f)) ∧ xEx (d + 5) 26 [.inr (some a), .inr (some t)] σ none (xup σ (a + 4) (.inl (0, 8, fp'))) := by
  have h0' : σ.1 a = some (.inr (.inr (3, [.inr (some (a + 1)), .inr (some (a + 2)), .inr (some (a + 3)), .inr (some (a + 4)), .inr (some (a + 5)), .inr (some (a + 6))]))) := h0
  have loop : ∀ k i (fi : Nat → Int32), i + k = 8 → (∀ f, f < i → fi f = plI (pPlace T R f)) → xGo (xEx (d + 4)) xtb_26 (fun r0 σ0 => r0 = none ∧ ∃ fp' : Nat → Int32, (∀ f, f < 8 → fp' f = plI (pPlace T R f)) ∧ σ0 = xup σ (a + 4) (.inl (0, 8, fp'))) (5, [some (.inr (some a)), some (.inr (some t)), some (.inl (nI i))], [.inl (nI 8), .inl (nI i)], xup σ (a + 4) (.inl (0, 8, fi))) := by
    intro k
    induction k with
    | zero =>
      intro i fi hi hall
      obtain rfl : i = 8 := by omega
      refine gct rfl (show nI 8 ≤ nI _ from nI_le (by omega) (by omega)) ?_
      exact grv rfl ⟨rfl, fi, hall, rfl⟩
    | succ k ih =>
      intro i fi hi hall
      have hF : hFr (a + 4) (a + 4) σ (xup σ (a + 4) (.inl (0, 8, fi))) := hFr.up (Nat.le_refl _) (Nat.le_refl _)
      have hT' := hTt.fr hF (by omega) (Or.inl (by omega))
      have c0 : (xup σ (a + 4) (.inl (0, 8, fi))).1 a = some (.inr (.inr (3, [.inr (some (a + 1)), .inr (some (a + 2)), .inr (some (a + 3)), .inr (some (a + 4)), .inr (some (a + 5)), .inr (some (a + 6))]))) := by rw [xup_ne (by omega)]; exact h0'
      have c1 : (xup σ (a + 4) (.inl (0, 8, fi))).1 (a + 1) = some (.inl (0, 64, ft)) := by rw [xup_ne (by omega)]; exact h1
      have c4 : (xup σ (a + 4) (.inl (0, 8, fi))).1 (a + 4) = some (.inl (0, 8, fi)) := xup_eq _ _ _
      refine gcf rfl (nI_ge (by omega) (by omega)) ?_
      repeat (first | refine gp rfl rfl rfl ?_ | refine ggf rfl (by assumption) (by rfl) ?_ | refine gal rfl (by assumption) (by rfl) (by omega) (by omega) ?_ | refine gil rfl (by assumption) (by rfl) (by omega) (by omega) ?_ | refine gbl rfl (by assumption) (by rfl) (by omega) (by omega) ?_ | refine gln rfl (xlen_i (by assumption)) ?_ | refine gln rfl (xlen_q (by assumption)) ?_)
      refine gcv (As := [.inl (nI i)]) (rest := [.inl (nI i), .inr (some (a + 4))]) rfl (by decide) (m_hasFileInT d hT' (by omega)) hT'.obj rfl rfl (Nat.le_of_ble_eq_true rfl) ?_
      have fin : ∀ v : Int32, v = plI (pPlace T R i) → xGo (xEx (d + 4)) xtb_26 (fun r0 σ0 => r0 = none ∧ ∃ fp' : Nat → Int32, (∀ f, f < 8 → fp' f = plI (pPlace T R f)) ∧ σ0 = xup σ (a + 4) (.inl (0, 8, fp'))) (30, [some (.inr (some a)), some (.inr (some t)), some (.inl (nI i))], [.inl v, .inl (nI i), .inr (some (a + 4))], xup σ (a + 4) (.inl (0, 8, fi))) := by
        intro v hv
        refine gis rfl c4 rfl (by omega) (by omega) (by omega) ?_
        rw [xup_up]
        repeat (first | refine gp rfl rfl rfl ?_ | refine ggf rfl (by assumption) (by rfl) ?_ | refine gal rfl (by assumption) (by rfl) (by omega) (by omega) ?_ | refine gil rfl (by assumption) (by rfl) (by omega) (by omega) ?_ | refine gbl rfl (by assumption) (by rfl) (by omega) (by omega) ?_ | refine gln rfl (xlen_i (by assumption)) ?_ | refine gln rfl (xlen_q (by assumption)) ?_)
        rw [nI_s]
        refine ih (i + 1) _ (by omega) (fun f hf => ?_)
        by_cases hfi : f = i
        · subst hfi; simp [upd, hv]
        · simp only [upd, if_neg hfi]; exact hall f (by omega)
      cases hp : pAny (fun j => (T (i * 8 + j)).isSome) 8 with
      | true =>
        refine giff rfl (fun h => absurd (show (1 : Int32) = 0 from h) (by decide)) ?_
        refine gp rfl rfl rfl ?_
        refine gp rfl rfl rfl ?_
        exact fin (xk 1 1) (by rw [xk_m1]; unfold pPlace; rw [hp]; rfl)
      | false =>
        refine git rfl (show (0 : Int32) = 0 from rfl) ?_
        repeat (first | refine gp rfl rfl rfl ?_ | refine ggf rfl (by assumption) (by rfl) ?_ | refine gal rfl (by assumption) (by rfl) (by omega) (by omega) ?_ | refine gil rfl (by assumption) (by rfl) (by omega) (by omega) ?_ | refine gbl rfl (by assumption) (by rfl) (by omega) (by omega) ?_ | refine gln rfl (xlen_i (by assumption)) ?_ | refine gln rfl (xlen_q (by assumption)) ?_)
        refine gcv (As := [.inl (nI i)]) (rest := [.inl (nI i), .inr (some (a + 4))]) rfl (by decide) (m_findPlace (d + 1) (show hSd _ a from c0) c1 h2 hok (by omega)) c0 rfl rfl (Nat.le_of_ble_eq_true rfl) ?_
        exact fin _ (by unfold pPlace; rw [hp]; rfl)
  obtain ⟨r, σ', hex, rfl, fp', hf, rfl⟩ := ex_of (d := d + 4) (y := 26) (as := [.inr (some a), .inr (some t)]) (σ := σ) (K := fun r0 σ0 => r0 = none ∧ ∃ fp' : Nat → Int32, (∀ f, f < 8 → fp' f = plI (pPlace T R f)) ∧ σ0 = xup σ (a + 4) (.inl (0, 8, fp'))) (by decide) rfl (by
    show xGo (xEx (d + 4)) xtb_26 _ (0, [some (.inr (some a)), some (.inr (some t)), none], [], σ)
    repeat (first | refine gp rfl rfl rfl ?_ | refine ggf rfl (by assumption) (by rfl) ?_ | refine gal rfl (by assumption) (by rfl) (by omega) (by omega) ?_ | refine gil rfl (by assumption) (by rfl) (by omega) (by omega) ?_ | refine gbl rfl (by assumption) (by rfl) (by omega) (by omega) ?_ | refine gln rfl (xlen_i (by assumption)) ?_ | refine gln rfl (xlen_q (by assumption)) ?_)
    have := loop 8 0 fp rfl (fun f hf => absurd hf (by omega))
    rw [xup_same h4] at this
    exact this)
  exact ⟨fp', hf, hex⟩
