/-! MODULE: files and trees of the class -/
def bI (b : Bool) : Int32 := if b then 1 else 0
/-- a path: its number, or none -/
theorem p_in (p : Int32) : (∃ j : Nat, j < 64 ∧ p = nI j) ∨ ¬ (0 ≤ p ∧ p < nI 64) := by
  by_cases h : 0 ≤ p ∧ p < nI 64
  · obtain ⟨j, hj, rfl⟩ := nI_of (Int32.not_lt.mpr h.1)
    exact Or.inl ⟨j, (nI_ltI hj (by decide)).mp h.2, rfl⟩
  · exact Or.inr h
theorem p_ok {j : Nat} (h : j < 64) : 0 ≤ nI j ∧ nI j < nI 64 := ⟨nI_pos' (by omega), nI_lt h (by decide)⟩
theorem m_isPath (d : Nat) (p : Int32) (σ : xS) : xEx (d + 1) 67 [.inl p] σ (some (.inl (if 0 ≤ p ∧ p < nI 64 then 1 else 0))) σ := by
  refine ⟨by decide, rfl, ?_⟩
  show xGo (xEx d) xtb_67 _ (0, [some (.inl p)], [], σ)
  repeat (first | refine gp rfl rfl rfl ?_ | refine ggf rfl (by assumption) (by rfl) ?_ | refine gal rfl (by assumption) (by rfl) (by omega) (by omega) ?_ | refine gil rfl (by assumption) (by rfl) (by omega) (by omega) ?_ | refine gbl rfl (by assumption) (by rfl) (by omega) (by omega) ?_ | refine gln rfl (xlen_i (by assumption)) ?_ | refine gln rfl (xlen_q (by assumption)) ?_)
  refine gif' rfl (fun h => ?_) (fun h => ?_)
  · repeat (first | refine gp rfl rfl rfl ?_ | refine ggf rfl (by assumption) (by rfl) ?_ | refine gal rfl (by assumption) (by rfl) (by omega) (by omega) ?_ | refine gil rfl (by assumption) (by rfl) (by omega) (by omega) ?_ | refine gbl rfl (by assumption) (by rfl) (by omega) (by omega) ?_ | refine gln rfl (xlen_i (by assumption)) ?_ | refine gln rfl (xlen_q (by assumption)) ?_)
    refine gri rfl (fun _ => Or.inl rfl) ⟨?_, rfl⟩
    rw [if_neg]
    · rfl
    · rintro ⟨h1, -⟩
      exact Int32.not_lt.mpr h1 h
  · repeat (first | refine gp rfl rfl rfl ?_ | refine ggf rfl (by assumption) (by rfl) ?_ | refine gal rfl (by assumption) (by rfl) (by omega) (by omega) ?_ | refine gil rfl (by assumption) (by rfl) (by omega) (by omega) ?_ | refine gbl rfl (by assumption) (by rfl) (by omega) (by omega) ?_ | refine gln rfl (xlen_i (by assumption)) ?_ | refine gln rfl (xlen_q (by assumption)) ?_)
    refine gcp rfl (fun h2 => ?_) (fun h2 => ?_)
    · repeat (first | refine gp rfl rfl rfl ?_ | refine ggf rfl (by assumption) (by rfl) ?_ | refine gal rfl (by assumption) (by rfl) (by omega) (by omega) ?_ | refine gil rfl (by assumption) (by rfl) (by omega) (by omega) ?_ | refine gbl rfl (by assumption) (by rfl) (by omega) (by omega) ?_ | refine gln rfl (xlen_i (by assumption)) ?_ | refine gln rfl (xlen_q (by assumption)) ?_)
      refine gri rfl (fun _ => Or.inl rfl) ⟨?_, rfl⟩
      rw [if_neg]
      · rfl
      · rintro ⟨-, h1⟩
        exact Int32.not_lt.mpr h2 h1
    · repeat (first | refine gp rfl rfl rfl ?_ | refine ggf rfl (by assumption) (by rfl) ?_ | refine gal rfl (by assumption) (by rfl) (by omega) (by omega) ?_ | refine gil rfl (by assumption) (by rfl) (by omega) (by omega) ?_ | refine gbl rfl (by assumption) (by rfl) (by omega) (by omega) ?_ | refine gln rfl (xlen_i (by assumption)) ?_ | refine gln rfl (xlen_q (by assumption)) ?_)
      refine gri rfl (fun _ => Or.inr rfl) ⟨?_, rfl⟩
      rw [if_pos]
      · rfl
      · exact ⟨Int32.not_lt.mp h, Int32.not_le.mp h2⟩
def hTree (σ : xS) (a : Nat) (g : Nat → Option Nat) : Prop := σ.1 a = some (.inr (.inr (2, [.inr (some (a + 1))]))) ∧ σ.1 (a + 1) = some (.inr (.inl (0, 64, g)))
theorem m_fileAt (d : Nat) {σ : xS} {a j : Nat} {g : Nat → Option Nat} (h : hTree σ a g) (hj : j < 64) : xEx (d + 2) 8 [.inr (some a), .inl (nI j)] σ (some (.inr (g j))) σ := by
  obtain ⟨h1, h2⟩ := h
  refine ⟨by decide, rfl, ?_⟩
  show xGo (xEx (d + 1)) xtb_8 _ (0, [some (.inr (some a)), some (.inl (nI j))], [], σ)
  repeat (first | refine gp rfl rfl rfl ?_ | refine ggf rfl (by assumption) (by rfl) ?_ | refine gal rfl (by assumption) (by rfl) (by omega) (by omega) ?_ | refine gil rfl (by assumption) (by rfl) (by omega) (by omega) ?_ | refine gbl rfl (by assumption) (by rfl) (by omega) (by omega) ?_ | refine gln rfl (xlen_i (by assumption)) ?_ | refine gln rfl (xlen_q (by assumption)) ?_)
  refine gcs rfl (by decide) (m_isPath d (nI j) σ) rfl rfl (by decide) ?_
  rw [if_pos (p_ok hj)]
  refine gif' rfl (fun h => absurd (show (1 : Int32) = 0 from h) (by decide)) (fun _ => ?_)
  repeat (first | refine gp rfl rfl rfl ?_ | refine ggf rfl (by assumption) (by rfl) ?_ | refine gal rfl (by assumption) (by rfl) (by omega) (by omega) ?_ | refine gil rfl (by assumption) (by rfl) (by omega) (by omega) ?_ | refine gbl rfl (by assumption) (by rfl) (by omega) (by omega) ?_ | refine gln rfl (xlen_i (by assumption)) ?_ | refine gln rfl (xlen_q (by assumption)) ?_)
  exact gra rfl ⟨rfl, rfl⟩
theorem m_fileAt_no (d : Nat) {σ : xS} {a : Nat} {p : Int32} (hp : ¬ (0 ≤ p ∧ p < nI 64)) : xEx (d + 2) 8 [.inr (some a), .inl p] σ (some (.inr none)) σ := by
  refine ⟨by decide, rfl, ?_⟩
  show xGo (xEx (d + 1)) xtb_8 _ (0, [some (.inr (some a)), some (.inl p)], [], σ)
  repeat (first | refine gp rfl rfl rfl ?_ | refine ggf rfl (by assumption) (by rfl) ?_ | refine gal rfl (by assumption) (by rfl) (by omega) (by omega) ?_ | refine gil rfl (by assumption) (by rfl) (by omega) (by omega) ?_ | refine gbl rfl (by assumption) (by rfl) (by omega) (by omega) ?_ | refine gln rfl (xlen_i (by assumption)) ?_ | refine gln rfl (xlen_q (by assumption)) ?_)
  refine gcs rfl (by decide) (m_isPath d p σ) rfl rfl (by decide) ?_
  rw [if_neg hp]
  refine gif' rfl (fun _ => ?_) (fun h => absurd (show (0 : Int32) = 0 from rfl) h)
  repeat (first | refine gp rfl rfl rfl ?_ | refine ggf rfl (by assumption) (by rfl) ?_ | refine gal rfl (by assumption) (by rfl) (by omega) (by omega) ?_ | refine gil rfl (by assumption) (by rfl) (by omega) (by omega) ?_ | refine gbl rfl (by assumption) (by rfl) (by omega) (by omega) ?_ | refine gln rfl (xlen_i (by assumption)) ?_ | refine gln rfl (xlen_q (by assumption)) ?_)
  exact gra rfl ⟨rfl, rfl⟩
/-- how many of the first n -/
def pCnt (P : Nat → Bool) : Nat → Nat
  | 0 => 0
  | n + 1 => pCnt P n + (if P n then 1 else 0)
theorem pCnt_le (P : Nat → Bool) : ∀ n, pCnt P n ≤ n
  | 0 => Nat.le_refl _
  | n + 1 => by
    have := pCnt_le P n
    unfold pCnt
    split <;> omega
theorem nI_s (i : Nat) : nI i + xk 1 0 = nI (i + 1) := nI_1 i
theorem m_countFiles (d : Nat) {σ : xS} {a : Nat} {g : Nat → Option Nat} (h : hTree σ a g) : xEx (d + 1) 9 [.inr (some a)] σ (some (.inl (nI (pCnt (fun i => (g i).isSome) 64)))) σ := by
  obtain ⟨h1, h2⟩ := h
  refine ⟨by decide, rfl, ?_⟩
  show xGo (xEx d) xtb_9 _ (0, [some (.inr (some a)), none, none], [], σ)
  have loop : ∀ k i, i + k = 64 → xGo (xEx d) xtb_9 (fun r0 σ0 => r0 = some (.inl (nI (pCnt (fun i => (g i).isSome) 64))) ∧ σ0 = σ) (7, [some (.inr (some a)), some (.inl (nI (pCnt (fun i => (g i).isSome) i))), some (.inl (nI i))], [.inl (nI 64), .inl (nI i)], σ) := by
    intro k
    induction k with
    | zero =>
      intro i hi
      obtain rfl : i = 64 := by omega
      refine gcp rfl (fun _ => ?_) (fun h => absurd (show nI 64 ≤ nI 64 from nI_le (Nat.le_refl _) (by decide)) h)
      repeat (first | refine gp rfl rfl rfl ?_ | refine ggf rfl (by assumption) (by rfl) ?_ | refine gal rfl (by assumption) (by rfl) (by omega) (by omega) ?_ | refine gil rfl (by assumption) (by rfl) (by omega) (by omega) ?_ | refine gbl rfl (by assumption) (by rfl) (by omega) (by omega) ?_ | refine gln rfl (xlen_i (by assumption)) ?_ | refine gln rfl (xlen_q (by assumption)) ?_)
      exact gri rfl (fun h => absurd h (by decide)) ⟨rfl, rfl⟩
    | succ k ih =>
      intro i hi
      refine gcp rfl (fun h => absurd (show nI 64 ≤ nI i from h) (nI_ge (by omega) (by decide))) (fun _ => ?_)
      repeat (first | refine gp rfl rfl rfl ?_ | refine ggf rfl (by assumption) (by rfl) ?_ | refine gal rfl (by assumption) (by rfl) (by omega) (by omega) ?_ | refine gil rfl (by assumption) (by rfl) (by omega) (by omega) ?_ | refine gbl rfl (by assumption) (by rfl) (by omega) (by omega) ?_ | refine gln rfl (xlen_i (by assumption)) ?_ | refine gln rfl (xlen_q (by assumption)) ?_)
      have ih' := ih (i + 1) (by omega)
      refine gnl rfl (fun hn => ?_) (fun z hz => ?_)
      · have e : pCnt (fun i => (g i).isSome) (i + 1) = pCnt (fun i => (g i).isSome) i := by simp [pCnt, hn]
        rw [e] at ih'
        repeat (first | refine gp rfl rfl rfl ?_ | refine ggf rfl (by assumption) (by rfl) ?_ | refine gal rfl (by assumption) (by rfl) (by omega) (by omega) ?_ | refine gil rfl (by assumption) (by rfl) (by omega) (by omega) ?_ | refine gbl rfl (by assumption) (by rfl) (by omega) (by omega) ?_ | refine gln rfl (xlen_i (by assumption)) ?_ | refine gln rfl (xlen_q (by assumption)) ?_)
        rw [nI_s]
        exact ih'
      · have e : pCnt (fun i => (g i).isSome) (i + 1) = pCnt (fun i => (g i).isSome) i + 1 := by simp [pCnt, hz]
        rw [e] at ih'
        repeat (first | refine gp rfl rfl rfl ?_ | refine ggf rfl (by assumption) (by rfl) ?_ | refine gal rfl (by assumption) (by rfl) (by omega) (by omega) ?_ | refine gil rfl (by assumption) (by rfl) (by omega) (by omega) ?_ | refine gbl rfl (by assumption) (by rfl) (by omega) (by omega) ?_ | refine gln rfl (xlen_i (by assumption)) ?_ | refine gln rfl (xlen_q (by assumption)) ?_)
        rw [nI_s, nI_s]
        exact ih'
  repeat (first | refine gp rfl rfl rfl ?_ | refine ggf rfl (by assumption) (by rfl) ?_ | refine gal rfl (by assumption) (by rfl) (by omega) (by omega) ?_ | refine gil rfl (by assumption) (by rfl) (by omega) (by omega) ?_ | refine gbl rfl (by assumption) (by rfl) (by omega) (by omega) ?_ | refine gln rfl (xlen_i (by assumption)) ?_ | refine gln rfl (xlen_q (by assumption)) ?_)
  exact loop 64 0 rfl
