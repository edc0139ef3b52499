/-! MODULE: trees of the class, the rest -/
theorem m_lay (d : Nat) {σ : xS} {a j : Nat} {g : Nat → Option Nat} {v : Option Nat} (h : hTree σ a g) (hj : j < 64) (hv : v = none ∨ ∃ (k : Nat) (fs : List xV), v = some k ∧ σ.1 k = some (.inr (.inr (1, fs)))) : xEx (d + 2) 10 [.inr (some a), .inl (nI j), .inr v] σ none (xup σ (a + 1) (.inr (.inl (0, 64, va_up g j v)))) := by
  obtain ⟨h1, h2⟩ := h
  refine ⟨by decide, rfl, ?_⟩
  show xGo (xEx (d + 1)) xtb_10 _ (0, [some (.inr (some a)), some (.inl (nI j)), some (.inr v)], [], σ)
  repeat (first | refine gp rfl rfl rfl ?_ | refine ggf rfl (by assumption) (by rfl) ?_ | refine gal rfl (by assumption) (by rfl) (by omega) (by omega) ?_ | refine gil rfl (by assumption) (by rfl) (by omega) (by omega) ?_ | refine gbl rfl (by assumption) (by rfl) (by omega) (by omega) ?_ | refine gln rfl (xlen_i (by assumption)) ?_ | refine gln rfl (xlen_q (by assumption)) ?_)
  refine gcs rfl (by decide) (m_isPath d (nI j) σ) rfl rfl (by decide) ?_
  rw [if_pos (p_ok hj)]
  refine giff rfl (fun h => absurd (show (1 : Int32) = 0 from h) (by decide)) ?_
  repeat (first | refine gp rfl rfl rfl ?_ | refine ggf rfl (by assumption) (by rfl) ?_ | refine gal rfl (by assumption) (by rfl) (by omega) (by omega) ?_ | refine gil rfl (by assumption) (by rfl) (by omega) (by omega) ?_ | refine gbl rfl (by assumption) (by rfl) (by omega) (by omega) ?_ | refine gln rfl (xlen_i (by assumption)) ?_ | refine gln rfl (xlen_q (by assumption)) ?_)
  refine gas rfl h2 rfl hj (by omega) hv ?_
  exact grv rfl ⟨rfl, rfl⟩
theorem m_lay_no (d : Nat) {σ : xS} {a : Nat} {p : Int32} {v : Option Nat} (hp : ¬ (0 ≤ p ∧ p < nI 64)) : xEx (d + 2) 10 [.inr (some a), .inl p, .inr v] σ none σ := by
  refine ⟨by decide, rfl, ?_⟩
  show xGo (xEx (d + 1)) xtb_10 _ (0, [some (.inr (some a)), some (.inl p), some (.inr v)], [], σ)
  repeat (first | refine gp rfl rfl rfl ?_ | refine ggf rfl (by assumption) (by rfl) ?_ | refine gal rfl (by assumption) (by rfl) (by omega) (by omega) ?_ | refine gil rfl (by assumption) (by rfl) (by omega) (by omega) ?_ | refine gbl rfl (by assumption) (by rfl) (by omega) (by omega) ?_ | refine gln rfl (xlen_i (by assumption)) ?_ | refine gln rfl (xlen_q (by assumption)) ?_)
  refine gcs rfl (by decide) (m_isPath d p σ) rfl rfl (by decide) ?_
  rw [if_neg hp]
  refine git rfl (show (0 : Int32) = 0 from rfl) ?_
  exact grv rfl ⟨rfl, rfl⟩
theorem m_has (d : Nat) {σ : xS} {a j : Nat} {g : Nat → Option Nat} (h : hTree σ a g) (hj : j < 64) : xEx (d + 3) 13 [.inr (some a), .inl (nI j)] σ (some (.inl (bI (g j).isSome))) σ := by
  refine ⟨by decide, rfl, ?_⟩
  show xGo (xEx (d + 2)) xtb_13 _ (0, [some (.inr (some a)), some (.inl (nI j))], [], σ)
  repeat (first | refine gp rfl rfl rfl ?_ | refine ggf rfl (by assumption) (by rfl) ?_ | refine gal rfl (by assumption) (by rfl) (by omega) (by omega) ?_ | refine gil rfl (by assumption) (by rfl) (by omega) (by omega) ?_ | refine gbl rfl (by assumption) (by rfl) (by omega) (by omega) ?_ | refine gln rfl (xlen_i (by assumption)) ?_ | refine gln rfl (xlen_q (by assumption)) ?_)
  refine gcv (As := [.inl (nI j)]) (rest := []) rfl (by decide) (m_fileAt d h hj) h.1 rfl rfl (by decide) ?_
  refine gnl rfl (fun hn => ?_) (fun z hz => ?_)
  · repeat (first | refine gp rfl rfl rfl ?_ | refine ggf rfl (by assumption) (by rfl) ?_ | refine gal rfl (by assumption) (by rfl) (by omega) (by omega) ?_ | refine gil rfl (by assumption) (by rfl) (by omega) (by omega) ?_ | refine gbl rfl (by assumption) (by rfl) (by omega) (by omega) ?_ | refine gln rfl (xlen_i (by assumption)) ?_ | refine gln rfl (xlen_q (by assumption)) ?_)
    exact gri rfl (fun _ => Or.inl rfl) ⟨by rw [hn]; rfl, rfl⟩
  · repeat (first | refine gp rfl rfl rfl ?_ | refine ggf rfl (by assumption) (by rfl) ?_ | refine gal rfl (by assumption) (by rfl) (by omega) (by omega) ?_ | refine gil rfl (by assumption) (by rfl) (by omega) (by omega) ?_ | refine gbl rfl (by assumption) (by rfl) (by omega) (by omega) ?_ | refine gln rfl (xlen_i (by assumption)) ?_ | refine gln rfl (xlen_q (by assumption)) ?_)
    exact gri rfl (fun _ => Or.inr rfl) ⟨by rw [hz]; rfl, rfl⟩
theorem m_has_no (d : Nat) {σ : xS} {a : Nat} {g : Nat → Option Nat} {p : Int32} (h : hTree σ a g) (hp : ¬ (0 ≤ p ∧ p < nI 64)) : xEx (d + 3) 13 [.inr (some a), .inl p] σ (some (.inl 0)) σ := by
  refine ⟨by decide, rfl, ?_⟩
  show xGo (xEx (d + 2)) xtb_13 _ (0, [some (.inr (some a)), some (.inl p)], [], σ)
  repeat (first | refine gp rfl rfl rfl ?_ | refine ggf rfl (by assumption) (by rfl) ?_ | refine gal rfl (by assumption) (by rfl) (by omega) (by omega) ?_ | refine gil rfl (by assumption) (by rfl) (by omega) (by omega) ?_ | refine gbl rfl (by assumption) (by rfl) (by omega) (by omega) ?_ | refine gln rfl (xlen_i (by assumption)) ?_ | refine gln rfl (xlen_q (by assumption)) ?_)
  refine gcv (As := [.inl p]) (rest := []) rfl (by decide) (m_fileAt_no d hp) h.1 rfl rfl (by decide) ?_
  refine gnl rfl (fun hn => ?_) (fun z hz => by cases hz)
  repeat (first | refine gp rfl rfl rfl ?_ | refine ggf rfl (by assumption) (by rfl) ?_ | refine gal rfl (by assumption) (by rfl) (by omega) (by omega) ?_ | refine gil rfl (by assumption) (by rfl) (by omega) (by omega) ?_ | refine gbl rfl (by assumption) (by rfl) (by omega) (by omega) ?_ | refine gln rfl (xlen_i (by assumption)) ?_ | refine gln rfl (xlen_q (by assumption)) ?_)
  exact gri rfl (fun _ => Or.inl rfl) ⟨rfl, rfl⟩
theorem bI_t {b : Bool} (h : b = true) : bI b = 1 := by rw [h]; rfl
theorem bI_f {b : Bool} (h : b = false) : bI b = 0 := by rw [h]; rfl
/-- some of the first n -/
def pAny (P : Nat → Bool) : Nat → Bool
  | 0 => false
  | n + 1 => pAny P n || P n
theorem m_hasFileIn (d : Nat) {σ : xS} {a t : Nat} {g : Nat → Option Nat} (h : hTree σ a g) (ht : t < 8) : xEx (d + 4) 14 [.inr (some a), .inl (nI t)] σ (some (.inl (bI (pAny (fun i => (g (t * 8 + i)).isSome) 8)))) σ := by
  refine ⟨by decide, rfl, ?_⟩
  show xGo (xEx (d + 3)) xtb_14 _ (0, [some (.inr (some a)), some (.inl (nI t)), none], [], σ)
  have loop : ∀ k i, i + k = 8 → pAny (fun i => (g (t * 8 + i)).isSome) i = false → xGo (xEx (d + 3)) xtb_14 (fun r0 σ0 => r0 = some (.inl (bI (pAny (fun i => (g (t * 8 + i)).isSome) 8))) ∧ σ0 = σ) (5, [some (.inr (some a)), some (.inl (nI t)), some (.inl (nI i))], [.inl (nI 8), .inl (nI i)], σ) := by
    intro k
    induction k with
    | zero =>
      intro i hi hn
      obtain rfl : i = 8 := by omega
      refine gct rfl (show nI 8 ≤ nI 8 from nI_le (Nat.le_refl _) (by decide)) ?_
      repeat (first | refine gp rfl rfl rfl ?_ | refine ggf rfl (by assumption) (by rfl) ?_ | refine gal rfl (by assumption) (by rfl) (by omega) (by omega) ?_ | refine gil rfl (by assumption) (by rfl) (by omega) (by omega) ?_ | refine gbl rfl (by assumption) (by rfl) (by omega) (by omega) ?_ | refine gln rfl (xlen_i (by assumption)) ?_ | refine gln rfl (xlen_q (by assumption)) ?_)
      exact gri rfl (fun _ => Or.inl rfl) ⟨by rw [hn]; rfl, rfl⟩
    | succ k ih =>
      intro i hi hn
      refine gcf rfl (fun h => absurd (show nI 8 ≤ nI i from h) (nI_ge (by omega) (by decide))) ?_
      repeat (first | refine gp rfl rfl rfl ?_ | refine ggf rfl (by assumption) (by rfl) ?_ | refine gal rfl (by assumption) (by rfl) (by omega) (by omega) ?_ | refine gil rfl (by assumption) (by rfl) (by omega) (by omega) ?_ | refine gbl rfl (by assumption) (by rfl) (by omega) (by omega) ?_ | refine gln rfl (xlen_i (by assumption)) ?_ | refine gln rfl (xlen_q (by assumption)) ?_)
      have e : nI t * xk 8 0 + nI i = nI (t * 8 + i) := by
        show nI t * nI 8 + nI i = _
        rw [pk_mul, nI_add]
      rw [e]
      refine gcv (As := [.inl (nI (t * 8 + i))]) (rest := []) rfl (by decide) (m_has d h (by omega)) h.1 rfl rfl (by decide) ?_
      cases hg : (g (t * 8 + i)).isSome with
      | true =>
        refine giff rfl (fun h => absurd (show (1 : Int32) = 0 from h) (by decide)) ?_
        repeat (first | refine gp rfl rfl rfl ?_ | refine ggf rfl (by assumption) (by rfl) ?_ | refine gal rfl (by assumption) (by rfl) (by omega) (by omega) ?_ | refine gil rfl (by assumption) (by rfl) (by omega) (by omega) ?_ | refine gbl rfl (by assumption) (by rfl) (by omega) (by omega) ?_ | refine gln rfl (xlen_i (by assumption)) ?_ | refine gln rfl (xlen_q (by assumption)) ?_)
        refine gri rfl (fun _ => Or.inr rfl) ⟨?_, rfl⟩
        have e2 : ∀ m, i < m → pAny (fun i => (g (t * 8 + i)).isSome) m = true := by
          intro m hm
          induction m with
          | zero => omega
          | succ m ihm =>
            unfold pAny
            by_cases hmi : m = i
            · subst hmi; simp [hg]
            · rw [ihm (by omega)]; rfl
        rw [e2 8 (by omega)]
        rfl
      | false =>
        refine git rfl (show (0 : Int32) = 0 from rfl) ?_
        repeat (first | refine gp rfl rfl rfl ?_ | refine ggf rfl (by assumption) (by rfl) ?_ | refine gal rfl (by assumption) (by rfl) (by omega) (by omega) ?_ | refine gil rfl (by assumption) (by rfl) (by omega) (by omega) ?_ | refine gbl rfl (by assumption) (by rfl) (by omega) (by omega) ?_ | refine gln rfl (xlen_i (by assumption)) ?_ | refine gln rfl (xlen_q (by assumption)) ?_)
        rw [nI_s]
        exact ih (i + 1) (by omega) (by unfold pAny; rw [hn, hg]; rfl)
  repeat (first | refine gp rfl rfl rfl ?_ | refine ggf rfl (by assumption) (by rfl) ?_ | refine gal rfl (by assumption) (by rfl) (by omega) (by omega) ?_ | refine gil rfl (by assumption) (by rfl) (by omega) (by omega) ?_ | refine gbl rfl (by assumption) (by rfl) (by omega) (by omega) ?_ | refine gln rfl (xlen_i (by assumption)) ?_ | refine gln rfl (xlen_q (by assumption)) ?_)
  exact loop 8 0 rfl rfl
theorem m_move (d : Nat) {σ : xS} {a i j : Nat} {g : Nat → Option Nat} (h : hTree σ a g) (hi : i < 64) (hj : j < 64) (hv : g i = none ∨ ∃ (k : Nat) (fs : List xV), g i = some k ∧ σ.1 k = some (.inr (.inr (1, fs)))) : xEx (d + 3) 15 [.inr (some a), .inl (nI i), .inl (nI j)] σ none (xup σ (a + 1) (.inr (.inl (0, 64, va_up (va_up g i none) j (g i))))) := by
  refine ⟨by decide, rfl, ?_⟩
  show xGo (xEx (d + 2)) xtb_15 _ (0, [some (.inr (some a)), some (.inl (nI i)), some (.inl (nI j)), none], [], σ)
  repeat (first | refine gp rfl rfl rfl ?_ | refine ggf rfl (by assumption) (by rfl) ?_ | refine gal rfl (by assumption) (by rfl) (by omega) (by omega) ?_ | refine gil rfl (by assumption) (by rfl) (by omega) (by omega) ?_ | refine gbl rfl (by assumption) (by rfl) (by omega) (by omega) ?_ | refine gln rfl (xlen_i (by assumption)) ?_ | refine gln rfl (xlen_q (by assumption)) ?_)
  refine gcv (As := [.inl (nI i)]) (rest := []) rfl (by decide) (m_fileAt d h hi) h.1 rfl rfl (by decide) ?_
  repeat (first | refine gp rfl rfl rfl ?_ | refine ggf rfl (by assumption) (by rfl) ?_ | refine gal rfl (by assumption) (by rfl) (by omega) (by omega) ?_ | refine gil rfl (by assumption) (by rfl) (by omega) (by omega) ?_ | refine gbl rfl (by assumption) (by rfl) (by omega) (by omega) ?_ | refine gln rfl (xlen_i (by assumption)) ?_ | refine gln rfl (xlen_q (by assumption)) ?_)
  refine gcv (As := [.inl (nI i), .inr none]) (rest := []) rfl (by decide) (m_lay d h hi (Or.inl rfl)) h.1 rfl rfl (by decide) ?_
  have h' : hTree (xup σ (a + 1) (.inr (.inl (0, 64, va_up g i none)))) a (va_up g i none) := ⟨by rw [xup_ne (by omega)]; exact h.1, xup_eq _ _ _⟩
  repeat (first | refine gp rfl rfl rfl ?_ | refine ggf rfl (by assumption) (by rfl) ?_ | refine gal rfl (by assumption) (by rfl) (by omega) (by omega) ?_ | refine gil rfl (by assumption) (by rfl) (by omega) (by omega) ?_ | refine gbl rfl (by assumption) (by rfl) (by omega) (by omega) ?_ | refine gln rfl (xlen_i (by assumption)) ?_ | refine gln rfl (xlen_q (by assumption)) ?_)
  refine gcv (As := [.inl (nI j), .inr (g i)]) (rest := []) rfl (by decide) (m_lay d h' hj ?_) h'.1 rfl rfl (by decide) ?_
  · rcases hv with hv | ⟨k, fs, hv, hk⟩
    · exact Or.inl hv
    · refine Or.inr ⟨k, fs, hv, ?_⟩
      by_cases hka : k = a + 1
      · rw [hka, h.2] at hk; cases hk
      · rw [xup_ne hka]; exact hk
  · rw [xup_up]
    exact grv rfl ⟨rfl, rfl⟩
