/-! MODULE: a side's version is laid, the class -/
def sVer (T : pT) (S : Nat → Option Nat) : Nat → pT
  | 0 => fun _ => none
  | n + 1 => if (T n).isSome then (match S n with
    | some y => fun p => if p = y then T n else sVer T S n p
    | none => sVer T S n) else sVer T S n
theorem hOpt_up {σ : xS} {q : Option Nat} {F : Option pF} {k : Nat} {e : xE} (h : hOpt σ q F) (hk : k < 63) : hOpt (xup σ k e) q F := h.keep (hKeep.up hk)
theorem m_layStanding (d : Nat) {σ : xS} {a u v : Nat} {T V : pT} {S : Nat → Option Nat} {fz : Nat → Int32} (h0 : hSd σ a) (h6 : σ.1 (a + 6) = some (.inl (0, 64, fz))) (h6' : ∀ p, p < 64 → fz p = oI (S p)) (hS : ∀ p y, p < 64 → S p = some y → y < 64) (hS2 : ∀ p, p < 64 → (T p).isSome = true → (S p).isSome = true) (hTt : hT σ u T) (hV : hT σ v V) (ha : a + 6 < 38) (hu : 38 ≤ u ∧ u + 1 < 63) (hv : 38 ≤ v ∧ v + 1 < 63) (huv : u + 1 < v ∨ v + 1 < u) :
    ∃ g : Nat → Option Nat, xEx (d + 4) 33 [.inr (some a), .inr (some u), .inr (some v)] σ none (xup σ (v + 1) (.inr (.inl (0, 64, g)))) ∧ hT (xup σ (v + 1) (.inr (.inl (0, 64, g)))) v (sVer T S 64) := by
  have h0' : σ.1 a = some (.inr (.inr (3, [.inr (some (a + 1)), .inr (some (a + 2)), .inr (some (a + 3)), .inr (some (a + 4)), .inr (some (a + 5)), .inr (some (a + 6))]))) := h0
  obtain ⟨gv, ⟨v1, v2⟩, v3⟩ := hV
  have tree : ∀ g : Nat → Option Nat, hTree (xup σ (v + 1) (.inr (.inl (0, 64, g)))) v g := fun g => ⟨by rw [xup_ne (by omega)]; exact v1, xup_eq _ _ _⟩
  have hTk : ∀ g : Nat → Option Nat, hT (xup σ (v + 1) (.inr (.inl (0, 64, g)))) u T := fun g => hTt.fr (hFr.up (lo := v + 1) (hi := v + 1) (Nat.le_refl _) (Nat.le_refl _)) (by omega) (by omega)
  have c0 : ∀ g : Nat → Option Nat, (xup σ (v + 1) (.inr (.inl (0, 64, g)))).1 a = some (.inr (.inr (3, [.inr (some (a + 1)), .inr (some (a + 2)), .inr (some (a + 3)), .inr (some (a + 4)), .inr (some (a + 5)), .inr (some (a + 6))]))) := fun g => by rw [xup_ne (by omega)]; exact h0'
  have c6 : ∀ g : Nat → Option Nat, (xup σ (v + 1) (.inr (.inl (0, 64, g)))).1 (a + 6) = some (.inl (0, 64, fz)) := fun g => by rw [xup_ne (by omega)]; exact h6
  have loop2 : ∀ k i (g : Nat → Option Nat), i + k = 64 → (∀ p, p < 64 → hOpt (xup σ (v + 1) (.inr (.inl (0, 64, g)))) (g p) (sVer T S i p)) → xGo (xEx (d + 3)) xtb_33 (fun r0 σ0 => r0 = none ∧ ∃ g : Nat → Option Nat, σ0 = xup σ (v + 1) (.inr (.inl (0, 64, g))) ∧ ∀ p, p < 64 → hOpt σ0 (g p) (sVer T S 64 p)) (25, [some (.inr (some a)), some (.inr (some u)), some (.inr (some v)), some (.inl (nI i))], [.inl (nI 64), .inl (nI i)], xup σ (v + 1) (.inr (.inl (0, 64, g)))) := by
    intro k
    induction k with
    | zero =>
      intro i g hi hall
      obtain rfl : i = 64 := by omega
      refine gct rfl (show nI 64 ≤ nI _ from nI_le (by omega) (by omega)) ?_
      exact grv rfl ⟨rfl, g, rfl, hall⟩
    | succ k ih =>
      intro i g hi hall
      have hi64 : i < 64 := by omega
      have e0 := c0 g
      have e6 := c6 g
      refine gcf rfl (nI_ge (by omega) (by omega)) ?_
      repeat (first | refine gp rfl rfl rfl ?_ | refine ggf rfl (by assumption) (by rfl) ?_ | refine gal rfl (by assumption) (by rfl) (by omega) (by omega) ?_ | refine gil rfl (by assumption) (by rfl) (by omega) (by omega) ?_ | refine gbl rfl (by assumption) (by rfl) (by omega) (by omega) ?_ | refine gln rfl (xlen_i (by assumption)) ?_ | refine gln rfl (xlen_q (by assumption)) ?_)
      refine gcv (As := [.inl (nI i)]) (rest := []) rfl (by decide) (m_hasT d (hTk g) hi64) (hTk g).obj rfl rfl (by decide) ?_
      cases hti : (T i).isSome with
      | false =>
        refine git rfl (show (0 : Int32) = 0 from rfl) ?_
        repeat (first | refine gp rfl rfl rfl ?_ | refine ggf rfl (by assumption) (by rfl) ?_ | refine gal rfl (by assumption) (by rfl) (by omega) (by omega) ?_ | refine gil rfl (by assumption) (by rfl) (by omega) (by omega) ?_ | refine gbl rfl (by assumption) (by rfl) (by omega) (by omega) ?_ | refine gln rfl (xlen_i (by assumption)) ?_ | refine gln rfl (xlen_q (by assumption)) ?_)
        rw [nI_s]
        refine ih (i + 1) g (by omega) (fun p hp => ?_)
        have e : sVer T S (i + 1) = sVer T S i := by rw [sVer, hti]; rfl
        rw [e]
        exact hall p hp
      | true =>
        refine giff rfl (fun h => absurd (show (1 : Int32) = 0 from h) (by decide)) ?_
        repeat (first | refine gp rfl rfl rfl ?_ | refine ggf rfl (by assumption) (by rfl) ?_ | refine gal rfl (by assumption) (by rfl) (by omega) (by omega) ?_ | refine gil rfl (by assumption) (by rfl) (by omega) (by omega) ?_ | refine gbl rfl (by assumption) (by rfl) (by omega) (by omega) ?_ | refine gln rfl (xlen_i (by assumption)) ?_ | refine gln rfl (xlen_q (by assumption)) ?_)
        obtain ⟨q, hq, ho⟩ := m_fileAtT (d + 1) (hTk g) hi64
        rw [h6' i hi64]
        obtain ⟨y, hy⟩ := Option.isSome_iff_exists.mp (hS2 i hi64 hti)
        have hy64 := hS i y hi64 hy
        rw [hy]
        refine gcv (As := [.inl (nI i)]) (rest := [.inl (oI (some y)), .inr (some v)]) rfl (by decide) hq (hTk g).obj rfl rfl (Nat.le_of_ble_eq_true rfl) ?_
        refine gcv (As := [.inl (nI y), .inr q]) (rest := []) rfl (by decide) (m_lay (d + 1) (tree g) hy64 (hOpt_cell ho)) (tree g).1 rfl rfl (by decide) ?_
        rw [xup_up]
        repeat (first | refine gp rfl rfl rfl ?_ | refine ggf rfl (by assumption) (by rfl) ?_ | refine gal rfl (by assumption) (by rfl) (by omega) (by omega) ?_ | refine gil rfl (by assumption) (by rfl) (by omega) (by omega) ?_ | refine gbl rfl (by assumption) (by rfl) (by omega) (by omega) ?_ | refine gln rfl (xlen_i (by assumption)) ?_ | refine gln rfl (xlen_q (by assumption)) ?_)
        rw [nI_s]
        refine ih (i + 1) _ (by omega) (fun p hp => ?_)
        have e : sVer T S (i + 1) = fun p => if p = y then T i else sVer T S i p := by rw [sVer, hti, if_pos rfl, hy]
        rw [e]
        have hk : hKeep (xup σ (v + 1) (.inr (.inl (0, 64, g)))) (xup σ (v + 1) (.inr (.inl (0, 64, va_up g y q)))) := fun k en hk hs => by rw [xup_ne (by omega)] at hs ⊢; exact hs
        by_cases hpy : p = y
        · subst hpy
          simp only [va_up, if_pos]
          exact ho.keep hk
        · simp only [va_up, if_neg hpy]
          exact (hall p hp).keep hk
  have loop1 : ∀ k i (g : Nat → Option Nat), i + k = 64 → (∀ p, p < i → g p = none) → xGo (xEx (d + 3)) xtb_33 (fun r0 σ0 => r0 = none ∧ ∃ g : Nat → Option Nat, σ0 = xup σ (v + 1) (.inr (.inl (0, 64, g))) ∧ ∀ p, p < 64 → hOpt σ0 (g p) (sVer T S 64 p)) (5, [some (.inr (some a)), some (.inr (some u)), some (.inr (some v)), some (.inl (nI i))], [.inl (nI 64), .inl (nI i)], xup σ (v + 1) (.inr (.inl (0, 64, g)))) := by
    intro k
    induction k with
    | zero =>
      intro i g hi hall
      obtain rfl : i = 64 := by omega
      refine gct rfl (show nI 64 ≤ nI _ from nI_le (by omega) (by omega)) ?_
      repeat (first | refine gp rfl rfl rfl ?_ | refine ggf rfl (by assumption) (by rfl) ?_ | refine gal rfl (by assumption) (by rfl) (by omega) (by omega) ?_ | refine gil rfl (by assumption) (by rfl) (by omega) (by omega) ?_ | refine gbl rfl (by assumption) (by rfl) (by omega) (by omega) ?_ | refine gln rfl (xlen_i (by assumption)) ?_ | refine gln rfl (xlen_q (by assumption)) ?_)
      exact loop2 64 0 g rfl (fun p hp => by rw [hall p hp]; trivial)
    | succ k ih =>
      intro i g hi hall
      refine gcf rfl (nI_ge (by omega) (by omega)) ?_
      repeat (first | refine gp rfl rfl rfl ?_ | refine ggf rfl (by assumption) (by rfl) ?_ | refine gal rfl (by assumption) (by rfl) (by omega) (by omega) ?_ | refine gil rfl (by assumption) (by rfl) (by omega) (by omega) ?_ | refine gbl rfl (by assumption) (by rfl) (by omega) (by omega) ?_ | refine gln rfl (xlen_i (by assumption)) ?_ | refine gln rfl (xlen_q (by assumption)) ?_)
      refine gcv (As := [.inl (nI i), .inr none]) (rest := []) rfl (by decide) (m_lay (d + 1) (tree g) (by omega) (Or.inl rfl)) (tree g).1 rfl rfl (by decide) ?_
      rw [xup_up]
      repeat (first | refine gp rfl rfl rfl ?_ | refine ggf rfl (by assumption) (by rfl) ?_ | refine gal rfl (by assumption) (by rfl) (by omega) (by omega) ?_ | refine gil rfl (by assumption) (by rfl) (by omega) (by omega) ?_ | refine gbl rfl (by assumption) (by rfl) (by omega) (by omega) ?_ | refine gln rfl (xlen_i (by assumption)) ?_ | refine gln rfl (xlen_q (by assumption)) ?_)
      rw [nI_s]
      refine ih (i + 1) _ (by omega) (fun p hp => ?_)
      by_cases hpi : p = i
      · subst hpi; simp [va_up]
      · simp only [va_up, if_neg hpi]; exact hall p (by omega)
  obtain ⟨r, σ', hex, rfl, g, rfl, hg⟩ := ex_of (d := d + 3) (y := 33) (as := [.inr (some a), .inr (some u), .inr (some v)]) (σ := σ) (K := fun r0 σ0 => r0 = none ∧ ∃ g : Nat → Option Nat, σ0 = xup σ (v + 1) (.inr (.inl (0, 64, g))) ∧ ∀ p, p < 64 → hOpt σ0 (g p) (sVer T S 64 p)) (by decide) rfl (by
    show xGo (xEx (d + 3)) xtb_33 _ (0, [some (.inr (some a)), some (.inr (some u)), some (.inr (some v)), none], [], σ)
    repeat (first | refine gp rfl rfl rfl ?_ | refine ggf rfl (by assumption) (by rfl) ?_ | refine gal rfl (by assumption) (by rfl) (by omega) (by omega) ?_ | refine gil rfl (by assumption) (by rfl) (by omega) (by omega) ?_ | refine gbl rfl (by assumption) (by rfl) (by omega) (by omega) ?_ | refine gln rfl (xlen_i (by assumption)) ?_ | refine gln rfl (xlen_q (by assumption)) ?_)
    have := loop1 64 0 gv rfl (fun p hp => absurd hp (by omega))
    rw [xup_same v2] at this
    exact this)
  exact ⟨g, hex, g, tree g, hg⟩
