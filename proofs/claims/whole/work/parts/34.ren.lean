/-! MODULE: renames of one side, the class -/
abbrev pT : Type := Nat → Option pF
abbrev pR : Type := (Nat → Option Nat) × (Nat → Option Nat)
def rSL (B T : pT) (R : pR) (p : Nat) : Bool := (B p).isSome && (T p).isNone && (R.1 p).isNone
def rTL (B T : pT) (R : pR) (q : Nat) : Bool := (T q).isSome && (B q).isNone && (R.2 q).isNone
def rJ (R : pR) (p q : Nat) : pR := (va_up R.1 p (some q), va_up R.2 q (some p))
def oI (o : Option Nat) : Int32 := match o with
  | none => -1
  | some q => nI q
theorem oI_ne {q : Nat} (h : q < 2147483648) : ¬ nI q = -1 := by
  intro z
  have := congrArg Int32.toInt z
  rw [nI_toInt h] at this
  have e : (-1 : Int32).toInt = -1 := by decide
  omega
theorem xk_m1 : xk 1 1 = -1 := by decide
def hT (σ : xS) (t : Nat) (T : pT) : Prop := ∃ g : Nat → Option Nat, hTree σ t g ∧ ∀ p, p < 64 → hOpt σ (g p) (T p)
theorem hOpt_some {σ : xS} {q : Option Nat} {F : Option pF} (h : hOpt σ q F) : q.isSome = F.isSome := by
  match q, F, h with
  | none, none, _ => rfl
  | some _, some _, _ => rfl
theorem hOpt_cell {σ : xS} {q : Option Nat} {F : Option pF} (h : hOpt σ q F) : q = none ∨ ∃ (k : Nat) (fs : List xV), q = some k ∧ σ.1 k = some (.inr (.inr (1, fs))) := by
  match q, F, h with
  | none, none, _ => exact Or.inl rfl
  | some k, some _, h =>
    obtain ⟨b, h1, -⟩ := h
    exact Or.inr ⟨k, _, rfl, h1⟩
/-- between lo and hi alone something changed; nothing was made -/
def hFr (lo hi : Nat) (σ σ' : xS) : Prop := σ'.2 = σ.2 ∧ ∀ k, (k < lo ∨ hi < k) → σ'.1 k = σ.1 k
theorem hFr.refl (lo hi : Nat) (σ : xS) : hFr lo hi σ σ := ⟨rfl, fun _ _ => rfl⟩
theorem hFr.trans {lo hi : Nat} {a b c : xS} (h1 : hFr lo hi a b) (h2 : hFr lo hi b c) : hFr lo hi a c := ⟨h2.1.trans h1.1, fun k hk => (h2.2 k hk).trans (h1.2 k hk)⟩
theorem hFr.up {lo hi k : Nat} {σ : xS} {e : xE} (h1 : lo ≤ k) (h2 : k ≤ hi) : hFr lo hi σ (xup σ k e) := ⟨rfl, fun j hj => xup_ne (by omega)⟩
theorem hFr.keep {lo hi : Nat} {σ σ' : xS} (h : hFr lo hi σ σ') (hh : hi < 63) : hKeep σ σ' := fun k e hk hs => by rw [h.2 k (Or.inr (by omega))]; exact hs
theorem hFr.wide {lo hi lo' hi' : Nat} {σ σ' : xS} (h : hFr lo hi σ σ') (h1 : lo' ≤ lo) (h2 : hi ≤ hi') : hFr lo' hi' σ σ' := ⟨h.1, fun k hk => h.2 k (by omega)⟩
theorem hT.fr {lo hi t : Nat} {σ σ' : xS} {T : pT} (h : hT σ t T) (hf : hFr lo hi σ σ') (hh : hi < 63) (ht : hi < t ∨ t + 1 < lo) : hT σ' t T := by
  obtain ⟨g, ⟨h1, h2⟩, h3⟩ := h
  exact ⟨g, ⟨by rw [hf.2 t (by omega)]; exact h1, by rw [hf.2 (t + 1) (by omega)]; exact h2⟩, fun p hp => (h3 p hp).keep (hf.keep hh)⟩
theorem m_fileAtT (d : Nat) {σ : xS} {t p : Nat} {T : pT} (h : hT σ t T) (hp : p < 64) : ∃ q, xEx (d + 2) 8 [.inr (some t), .inl (nI p)] σ (some (.inr q)) σ ∧ hOpt σ q (T p) := by
  obtain ⟨g, h1, h2⟩ := h
  exact ⟨g p, m_fileAt d h1 hp, h2 p hp⟩
theorem m_hasT (d : Nat) {σ : xS} {t p : Nat} {T : pT} (h : hT σ t T) (hp : p < 64) : xEx (d + 3) 13 [.inr (some t), .inl (nI p)] σ (some (.inl (bI (T p).isSome))) σ := by
  obtain ⟨g, h1, h2⟩ := h
  rw [← hOpt_some (h2 p hp)]
  exact m_has d h1 hp
theorem hT.obj {σ : xS} {t : Nat} {T : pT} (h : hT σ t T) : σ.1 t = some (.inr (.inr (2, [.inr (some (t + 1))]))) := by
  obtain ⟨g, h1, h2⟩ := h
  exact h1.1
def hSd (σ : xS) (a : Nat) : Prop := σ.1 a = some (.inr (.inr (3, [.inr (some (a + 1)), .inr (some (a + 2)), .inr (some (a + 3)), .inr (some (a + 4)), .inr (some (a + 5)), .inr (some (a + 6))])))
def hRen (σ : xS) (a : Nat) (B T : pT) (R : pR) : Prop := hSd σ a ∧ ∃ ft fs fl : Nat → Int32, σ.1 (a + 1) = some (.inl (0, 64, ft)) ∧ σ.1 (a + 2) = some (.inl (2, 64, fs)) ∧ σ.1 (a + 3) = some (.inl (2, 64, fl)) ∧ ∀ p, p < 64 → ft p = oI (R.1 p) ∧ fs p = bI (rSL B T R p) ∧ fl p = bI (rTL B T R p)
theorem m_pair (d : Nat) {σ : xS} {a p q : Nat} {B T : pT} {R : pR} (h : hRen σ a B T R) (hp : p < 64) (hq : q < 64) (ha : 2 ≤ a) : ∃ σ', xEx (d + 1) 20 [.inr (some a), .inl (nI p), .inl (nI q)] σ none σ' ∧ hRen σ' a B T (rJ R p q) ∧ hFr (a + 1) (a + 3) σ σ' := by
  obtain ⟨h0, ft, fs, fl, h1, h2, h3, h4⟩ := h
  have h0 : σ.1 a = some (.inr (.inr (3, [.inr (some (a + 1)), .inr (some (a + 2)), .inr (some (a + 3)), .inr (some (a + 4)), .inr (some (a + 5)), .inr (some (a + 6))]))) := h0
  refine ⟨xup (xup (xup σ (a + 1) (.inl (0, 64, upd ft p (nI q)))) (a + 2) (.inl (2, 64, upd fs p (xnar 2 (xk 0 0))))) (a + 3) (.inl (2, 64, upd fl q (xnar 2 (xk 0 0)))), ⟨by decide, rfl, ?_⟩, ⟨?_, upd ft p (nI q), upd fs p (xnar 2 (xk 0 0)), upd fl q (xnar 2 (xk 0 0)), ?_, ?_, ?_, ?_⟩, ?_⟩
  · show xGo (xEx d) xtb_20 _ (0, [some (.inr (some a)), some (.inl (nI p)), some (.inl (nI q))], [], σ)
    repeat (first | refine gp rfl rfl rfl ?_ | refine ggf rfl (by assumption) (by rfl) ?_ | refine gal rfl (by assumption) (by rfl) (by omega) (by omega) ?_ | refine gil rfl (by assumption) (by rfl) (by omega) (by omega) ?_ | refine gbl rfl (by assumption) (by rfl) (by omega) (by omega) ?_ | refine gln rfl (xlen_i (by assumption)) ?_ | refine gln rfl (xlen_q (by assumption)) ?_)
    refine gis rfl h1 rfl hp (by omega) (by omega) ?_
    have c0 : (xup σ (a + 1) (.inl (0, 64, upd ft p (nI q)))).1 a = some (.inr (.inr (3, [.inr (some (a + 1)), .inr (some (a + 2)), .inr (some (a + 3)), .inr (some (a + 4)), .inr (some (a + 5)), .inr (some (a + 6))]))) := by rw [xup_ne (by omega)]; exact h0
    repeat (first | refine gp rfl rfl rfl ?_ | refine ggf rfl (by assumption) (by rfl) ?_ | refine gal rfl (by assumption) (by rfl) (by omega) (by omega) ?_ | refine gil rfl (by assumption) (by rfl) (by omega) (by omega) ?_ | refine gbl rfl (by assumption) (by rfl) (by omega) (by omega) ?_ | refine gln rfl (xlen_i (by assumption)) ?_ | refine gln rfl (xlen_q (by assumption)) ?_)
    refine gbs rfl (show _ = some (Sum.inl (2, 64, fs)) by rw [xup_ne (by omega)]; exact h2) rfl hp (by omega) ?_
    have c1 : (xup (xup σ (a + 1) (.inl (0, 64, upd ft p (nI q)))) (a + 2) (.inl (2, 64, upd fs p (xnar 2 (xk 0 0))))).1 a = some (.inr (.inr (3, [.inr (some (a + 1)), .inr (some (a + 2)), .inr (some (a + 3)), .inr (some (a + 4)), .inr (some (a + 5)), .inr (some (a + 6))]))) := by rw [xup_ne (by omega)]; exact c0
    repeat (first | refine gp rfl rfl rfl ?_ | refine ggf rfl (by assumption) (by rfl) ?_ | refine gal rfl (by assumption) (by rfl) (by omega) (by omega) ?_ | refine gil rfl (by assumption) (by rfl) (by omega) (by omega) ?_ | refine gbl rfl (by assumption) (by rfl) (by omega) (by omega) ?_ | refine gln rfl (xlen_i (by assumption)) ?_ | refine gln rfl (xlen_q (by assumption)) ?_)
    refine gbs rfl (show _ = some (Sum.inl (2, 64, fl)) by rw [xup_ne (by omega), xup_ne (by omega)]; exact h3) rfl hq (by omega) ?_
    exact grv rfl ⟨rfl, rfl⟩
  · unfold hSd
    rw [xup_ne (by omega), xup_ne (by omega), xup_ne (by omega)]
    exact h0
  · rw [xup_ne (by omega), xup_ne (by omega)]; exact xup_eq _ _ _
  · rw [xup_ne (by omega)]; exact xup_eq _ _ _
  · exact xup_eq _ _ _
  · intro z hz
    obtain ⟨g1, g2, g3⟩ := h4 z hz
    have e0 : xnar 2 (xk 0 0) = 0 := by decide
    refine ⟨?_, ?_, ?_⟩
    · by_cases hzp : z = p
      · subst hzp; simp [upd, rJ, va_up, oI]
      · simp [upd, rJ, va_up, hzp, g1]
    · by_cases hzp : z = p
      · subst hzp; simp [upd, rSL, rJ, va_up, e0, bI]
      · simp [upd, rSL, rJ, va_up, hzp, g2]
    · by_cases hzq : z = q
      · subst hzq; simp [upd, rTL, rJ, va_up, e0, bI]
      · simp [upd, rTL, rJ, va_up, hzq, g3]
  · exact ⟨rfl, fun k hk => by rw [xup_ne (by omega), xup_ne (by omega), xup_ne (by omega)]⟩
/-- the last and how many of m, m + 8, .. -/
def pOn (P : Nat → Bool) (m : Nat) : Nat → Option Nat × Nat
  | 0 => (none, 0)
  | i + 1 => if P (m + 8 * i) then (some (m + 8 * i), (pOn P m i).2 + 1) else pOn P m i
def pOnly (P : Nat → Bool) (m : Nat) : Option Nat := if (pOn P m 8).2 = 1 then (pOn P m 8).1 else none
theorem pOn_mono (P : Nat → Bool) (m : Nat) : ∀ k i, (pOn P m i).2 ≤ (pOn P m (i + k)).2
  | 0, i => Nat.le_refl _
  | k + 1, i => by
    refine Nat.le_trans (pOn_mono P m k i) ?_
    show _ ≤ (pOn P m (i + k + 1)).2
    rw [pOn]
    split
    · exact Nat.le_succ _
    · exact Nat.le_refl _
theorem pOn_some (P : Nat → Bool) (m : Nat) : ∀ i, ((pOn P m i).2 = 0 → (pOn P m i).1 = none) ∧ (0 < (pOn P m i).2 → ∃ k, k < i ∧ (pOn P m i).1 = some (m + 8 * k))
  | 0 => ⟨fun _ => rfl, fun h => (Nat.lt_irrefl 0 h).elim⟩
  | i + 1 => by
    obtain ⟨h1, h2⟩ := pOn_some P m i
    rw [pOn]
    split
    · exact ⟨fun h => absurd h (by simp), fun _ => ⟨i, by omega, rfl⟩⟩
    · exact ⟨h1, fun h => by obtain ⟨k, hk, e⟩ := h2 h; exact ⟨k, by omega, e⟩⟩
theorem nI_s8 (i : Nat) : nI i + xk 8 0 = nI (i + 8) := by show nI i + nI 8 = _; rw [nI_add]
theorem m_findOnly (d : Nat) {σ : xS} {b m : Nat} {f : Nat → Int32} {P : Nat → Bool} (h : σ.1 b = some (.inl (2, 64, f))) (hf : ∀ p, p < 64 → f p = bI (P p)) (hm : m < 8) : xEx (d + 1) 22 [.inr (some b), .inl (nI m)] σ (some (.inl (oI (pOnly P m)))) σ := by
  refine ⟨by decide, rfl, ?_⟩
  show xGo (xEx d) xtb_22 _ (0, [some (.inr (some b)), some (.inl (nI m)), none, none], [], σ)
  have loop : ∀ k i, i + k = 8 → (pOn P m i).2 ≤ 1 → xGo (xEx d) xtb_22 (fun r0 σ0 => r0 = some (.inl (oI (pOnly P m))) ∧ σ0 = σ) (7, [some (.inr (some b)), some (.inl (nI m)), some (.inl (oI (pOn P m i).1)), some (.inl (nI (m + 8 * i)))], [.inl (nI 64), .inl (nI (m + 8 * i))], σ) := by
    intro k
    induction k with
    | zero =>
      intro i hi hc
      obtain rfl : i = 8 := by omega
      refine gct rfl (show nI 64 ≤ nI _ from nI_le (by omega) (by omega)) ?_
      repeat (first | refine gp rfl rfl rfl ?_ | refine ggf rfl (by assumption) (by rfl) ?_ | refine gal rfl (by assumption) (by rfl) (by omega) (by omega) ?_ | refine gil rfl (by assumption) (by rfl) (by omega) (by omega) ?_ | refine gbl rfl (by assumption) (by rfl) (by omega) (by omega) ?_ | refine gln rfl (xlen_i (by assumption)) ?_ | refine gln rfl (xlen_q (by assumption)) ?_)
      refine gri rfl (fun h => absurd h (by decide)) ⟨?_, rfl⟩
      unfold pOnly
      by_cases h1 : (pOn P m 8).2 = 1
      · rw [if_pos h1]
      · rw [if_neg h1, (pOn_some P m 8).1 (by omega)]
    | succ k ih =>
      intro i hi hc
      refine gcf rfl (nI_ge (by omega) (by omega)) ?_
      repeat (first | refine gp rfl rfl rfl ?_ | refine ggf rfl (by assumption) (by rfl) ?_ | refine gal rfl (by assumption) (by rfl) (by omega) (by omega) ?_ | refine gil rfl (by assumption) (by rfl) (by omega) (by omega) ?_ | refine gbl rfl (by assumption) (by rfl) (by omega) (by omega) ?_ | refine gln rfl (xlen_i (by assumption)) ?_ | refine gln rfl (xlen_q (by assumption)) ?_)
      rw [hf _ (by omega)]
      have ih' := ih (i + 1) (by omega)
      rw [pOn] at ih'
      cases hP : P (m + 8 * i) with
      | false =>
        rw [hP] at ih'
        refine git rfl (show (0 : Int32) = 0 from rfl) ?_
        repeat (first | refine gp rfl rfl rfl ?_ | refine ggf rfl (by assumption) (by rfl) ?_ | refine gal rfl (by assumption) (by rfl) (by omega) (by omega) ?_ | refine gil rfl (by assumption) (by rfl) (by omega) (by omega) ?_ | refine gbl rfl (by assumption) (by rfl) (by omega) (by omega) ?_ | refine gln rfl (xlen_i (by assumption)) ?_ | refine gln rfl (xlen_q (by assumption)) ?_)
        rw [nI_s8]
        exact ih' hc
      | true =>
        rw [hP] at ih'
        refine giff rfl (fun h => absurd (show (1 : Int32) = 0 from h) (by decide)) ?_
        repeat (first | refine gp rfl rfl rfl ?_ | refine ggf rfl (by assumption) (by rfl) ?_ | refine gal rfl (by assumption) (by rfl) (by omega) (by omega) ?_ | refine gil rfl (by assumption) (by rfl) (by omega) (by omega) ?_ | refine gbl rfl (by assumption) (by rfl) (by omega) (by omega) ?_ | refine gln rfl (xlen_i (by assumption)) ?_ | refine gln rfl (xlen_q (by assumption)) ?_)
        rw [xk_m1]
        rcases Nat.eq_zero_or_pos (pOn P m i).2 with hz | hz
        · rw [(pOn_some P m i).1 hz]
          refine gct rfl (show (-1 : Int32) = -1 from rfl) ?_
          repeat (first | refine gp rfl rfl rfl ?_ | refine ggf rfl (by assumption) (by rfl) ?_ | refine gal rfl (by assumption) (by rfl) (by omega) (by omega) ?_ | refine gil rfl (by assumption) (by rfl) (by omega) (by omega) ?_ | refine gbl rfl (by assumption) (by rfl) (by omega) (by omega) ?_ | refine gln rfl (xlen_i (by assumption)) ?_ | refine gln rfl (xlen_q (by assumption)) ?_)
          rw [nI_s8]
          refine ih' ?_
          show (pOn P m i).2 + 1 ≤ 1
          omega
        · obtain ⟨k', hk', e⟩ := (pOn_some P m i).2 hz
          rw [e]
          refine gcf rfl (oI_ne (by omega)) ?_
          repeat (first | refine gp rfl rfl rfl ?_ | refine ggf rfl (by assumption) (by rfl) ?_ | refine gal rfl (by assumption) (by rfl) (by omega) (by omega) ?_ | refine gil rfl (by assumption) (by rfl) (by omega) (by omega) ?_ | refine gbl rfl (by assumption) (by rfl) (by omega) (by omega) ?_ | refine gln rfl (xlen_i (by assumption)) ?_ | refine gln rfl (xlen_q (by assumption)) ?_)
          refine gri rfl (fun h => absurd h (by decide)) ⟨?_, rfl⟩
          have h2 : 2 ≤ (pOn P m 8).2 := by
            have := pOn_mono P m (8 - (i + 1)) (i + 1)
            rw [show i + 1 + (8 - (i + 1)) = 8 by omega] at this
            refine Nat.le_trans ?_ this
            rw [pOn, hP]
            show 2 ≤ (pOn P m i).2 + 1
            omega
          unfold pOnly
          rw [if_neg (by omega), xk_m1]
          rfl
  repeat (first | refine gp rfl rfl rfl ?_ | refine ggf rfl (by assumption) (by rfl) ?_ | refine gal rfl (by assumption) (by rfl) (by omega) (by omega) ?_ | refine gil rfl (by assumption) (by rfl) (by omega) (by omega) ?_ | refine gbl rfl (by assumption) (by rfl) (by omega) (by omega) ?_ | refine gln rfl (xlen_i (by assumption)) ?_ | refine gln rfl (xlen_q (by assumption)) ?_)
  exact loop 8 0 rfl (show 0 ≤ 1 from Nat.zero_le _)
theorem pCnt_s (P : Nat → Bool) (i : Nat) : pCnt P (i + 1) = pCnt P i + (if P i then 1 else 0) := rfl
theorem m_countLeft (d : Nat) {σ : xS} {b : Nat} {f : Nat → Int32} {P : Nat → Bool} (h : σ.1 b = some (.inl (2, 64, f))) (hf : ∀ p, p < 64 → f p = bI (P p)) : xEx (d + 1) 24 [.inr (some b)] σ (some (.inl (nI (pCnt P 64)))) σ := by
  refine ⟨by decide, rfl, ?_⟩
  show xGo (xEx d) xtb_24 _ (0, [some (.inr (some b)), none, none], [], σ)
  have loop : ∀ k i, i + k = 64 → xGo (xEx d) xtb_24 (fun r0 σ0 => r0 = some (.inl (nI (pCnt P 64))) ∧ σ0 = σ) (7, [some (.inr (some b)), some (.inl (nI (pCnt P i))), some (.inl (nI i))], [.inl (nI 64), .inl (nI i)], σ) := by
    intro k
    induction k with
    | zero =>
      intro i hi
      obtain rfl : i = 64 := by omega
      refine gct rfl (show nI 64 ≤ nI _ from nI_le (by omega) (by omega)) ?_
      repeat (first | refine gp rfl rfl rfl ?_ | refine ggf rfl (by assumption) (by rfl) ?_ | refine gal rfl (by assumption) (by rfl) (by omega) (by omega) ?_ | refine gil rfl (by assumption) (by rfl) (by omega) (by omega) ?_ | refine gbl rfl (by assumption) (by rfl) (by omega) (by omega) ?_ | refine gln rfl (xlen_i (by assumption)) ?_ | refine gln rfl (xlen_q (by assumption)) ?_)
      exact gri rfl (fun h => absurd h (by decide)) ⟨rfl, rfl⟩
    | succ k ih =>
      intro i hi
      refine gcf rfl (nI_ge (by omega) (by omega)) ?_
      repeat (first | refine gp rfl rfl rfl ?_ | refine ggf rfl (by assumption) (by rfl) ?_ | refine gal rfl (by assumption) (by rfl) (by omega) (by omega) ?_ | refine gil rfl (by assumption) (by rfl) (by omega) (by omega) ?_ | refine gbl rfl (by assumption) (by rfl) (by omega) (by omega) ?_ | refine gln rfl (xlen_i (by assumption)) ?_ | refine gln rfl (xlen_q (by assumption)) ?_)
      rw [hf _ (by omega)]
      have ih' := ih (i + 1) (by omega)
      rw [pCnt_s P i] at ih'
      cases hP : P i with
      | false =>
        rw [hP] at ih'
        refine git rfl (show (0 : Int32) = 0 from rfl) ?_
        repeat (first | refine gp rfl rfl rfl ?_ | refine ggf rfl (by assumption) (by rfl) ?_ | refine gal rfl (by assumption) (by rfl) (by omega) (by omega) ?_ | refine gil rfl (by assumption) (by rfl) (by omega) (by omega) ?_ | refine gbl rfl (by assumption) (by rfl) (by omega) (by omega) ?_ | refine gln rfl (xlen_i (by assumption)) ?_ | refine gln rfl (xlen_q (by assumption)) ?_)
        rw [nI_s]
        exact ih'
      | true =>
        rw [hP] at ih'
        refine giff rfl (fun h => absurd (show (1 : Int32) = 0 from h) (by decide)) ?_
        repeat (first | refine gp rfl rfl rfl ?_ | refine ggf rfl (by assumption) (by rfl) ?_ | refine gal rfl (by assumption) (by rfl) (by omega) (by omega) ?_ | refine gil rfl (by assumption) (by rfl) (by omega) (by omega) ?_ | refine gbl rfl (by assumption) (by rfl) (by omega) (by omega) ?_ | refine gln rfl (xlen_i (by assumption)) ?_ | refine gln rfl (xlen_q (by assumption)) ?_)
        rw [nI_s, nI_s]
        exact ih'
  repeat (first | refine gp rfl rfl rfl ?_ | refine ggf rfl (by assumption) (by rfl) ?_ | refine gal rfl (by assumption) (by rfl) (by omega) (by omega) ?_ | refine gil rfl (by assumption) (by rfl) (by omega) (by omega) ?_ | refine gbl rfl (by assumption) (by rfl) (by omega) (by omega) ?_ | refine gln rfl (xlen_i (by assumption)) ?_ | refine gln rfl (xlen_q (by assumption)) ?_)
  exact loop 64 0 rfl
