/-! MODULE: small ones -/
theorem m_nameOf (d : Nat) {σ : xS} {j : Nat} (hj : j < 1000) : xEx (d + 1) 74 [.inl (nI j)] σ (some (.inl (nI (j % 8)))) σ := by
  refine ⟨by decide, rfl, ?_⟩
  show xGo (xEx d) xtb_74 _ (0, [some (.inl (nI j))], [], σ)
  refine gp rfl rfl rfl ?_
  refine gp rfl rfl rfl ?_
  refine gp rfl rfl ⟨by decide, rfl⟩ ?_
  refine gri rfl (fun h => absurd h (by decide)) ⟨?_, rfl⟩
  show some (Sum.inl (nI j - nI j / nI 8 * nI 8)) = _
  rw [pk_rem (by omega) (by decide) (by decide)]
theorem m_dirOf (d : Nat) {σ : xS} {j : Nat} (hj : j < 1000) : xEx (d + 1) 75 [.inl (nI j)] σ (some (.inl (nI (j / 8)))) σ := by
  refine ⟨by decide, rfl, ?_⟩
  show xGo (xEx d) xtb_75 _ (0, [some (.inl (nI j))], [], σ)
  refine gp rfl rfl rfl ?_
  refine gp rfl rfl rfl ?_
  refine gp rfl rfl ⟨by decide, rfl⟩ ?_
  refine gri rfl (fun h => absurd h (by decide)) ⟨?_, rfl⟩
  show some (Sum.inl (nI j / nI 8)) = _
  rw [pk_div (by omega) (by decide) (by decide)]
theorem m_fill (d : Nat) {σ : xS} {q n : Nat} {f : Nat → Int32} {x : Int32} (h : σ.1 q = some (.inl (0, n, f))) (hn : n < 2147483648) (hq : 2 ≤ q) : ∃ f' : Nat → Int32, (∀ j, j < n → f' j = x) ∧ xEx (d + 1) 0 [.inr (some q), .inl x] σ none (xup σ q (.inl (0, n, f'))) := by
  have loop : ∀ k i (fi : Nat → Int32), i + k = n → (∀ j, j < i → fi j = x) → xGo (xEx d) xtb_0 (fun r0 σ0 => r0 = none ∧ ∃ f' : Nat → Int32, (∀ j, j < n → f' j = x) ∧ σ0 = xup σ q (.inl (0, n, f'))) (7, [some (.inr (some q)), some (.inl x), some (.inl (nI i)), some (.inl (nI n))], [.inl (nI n), .inl (nI i)], xup σ q (.inl (0, n, fi))) := by
    intro k
    induction k with
    | zero =>
      intro i fi hi hall
      obtain rfl : i = n := by omega
      refine gct rfl (show nI _ ≤ nI _ from nI_le (Nat.le_refl _) hn) ?_
      exact grv rfl ⟨rfl, fi, hall, rfl⟩
    | succ k ih =>
      intro i fi hi hall
      refine gcf rfl (nI_ge (by omega) hn) ?_
      repeat (first | refine gp rfl rfl rfl ?_ | refine ggf rfl (by assumption) (by rfl) ?_ | refine gal rfl (by assumption) (by rfl) (by omega) (by omega) ?_ | refine gil rfl (by assumption) (by rfl) (by omega) (by omega) ?_ | refine gbl rfl (by assumption) (by rfl) (by omega) (by omega) ?_ | refine gln rfl (xlen_i (by assumption)) ?_ | refine gln rfl (xlen_q (by assumption)) ?_)
      refine gis rfl (xup_eq _ _ _) rfl (by omega) (by omega) hq ?_
      rw [xup_up]
      repeat (first | refine gp rfl rfl rfl ?_ | refine ggf rfl (by assumption) (by rfl) ?_ | refine gal rfl (by assumption) (by rfl) (by omega) (by omega) ?_ | refine gil rfl (by assumption) (by rfl) (by omega) (by omega) ?_ | refine gbl rfl (by assumption) (by rfl) (by omega) (by omega) ?_ | refine gln rfl (xlen_i (by assumption)) ?_ | refine gln rfl (xlen_q (by assumption)) ?_)
      rw [nI_s]
      refine ih (i + 1) _ (by omega) (fun j hj => ?_)
      by_cases hji : j = i
      · subst hji; simp [upd]
      · simp [upd, hji]; exact hall j (by omega)
  obtain ⟨r, σ', hex, rfl, f', hf, rfl⟩ := ex_of (d := d) (y := 0) (as := [.inr (some q), .inl x]) (σ := σ) (K := fun r0 σ0 => r0 = none ∧ ∃ f' : Nat → Int32, (∀ j, j < n → f' j = x) ∧ σ0 = xup σ q (.inl (0, n, f'))) (by decide) rfl (by
    show xGo (xEx d) xtb_0 _ (0, [some (.inr (some q)), some (.inl x), none, none], [], σ)
    repeat (first | refine gp rfl rfl rfl ?_ | refine ggf rfl (by assumption) (by rfl) ?_ | refine gal rfl (by assumption) (by rfl) (by omega) (by omega) ?_ | refine gil rfl (by assumption) (by rfl) (by omega) (by omega) ?_ | refine gbl rfl (by assumption) (by rfl) (by omega) (by omega) ?_ | refine gln rfl (xlen_i (by assumption)) ?_ | refine gln rfl (xlen_q (by assumption)) ?_)
    have := loop n 0 f (by omega) (fun j hj => absurd hj (by omega))
    rw [xup_same h] at this
    exact this)
  exact ⟨f', hf, hex⟩
theorem m_TreeFile (d : Nat) {σ : xS} {q b : Nat} {l : Bool} {v w : xV} (h : σ.1 q = some (.inr (.inr (1, [v, w])))) : xEx (d + 1) 2 [.inr (some q), .inl (bI l), .inr (some b)] σ none (xup σ q (.inr (.inr (1, [.inl (bI l), .inr (some b)])))) := by
  refine ⟨by decide, rfl, ?_⟩
  show xGo (xEx d) xtb_2 _ (0, [some (.inr (some q)), some (.inl (bI l)), some (.inr (some b))], [], σ)
  repeat (first | refine gp rfl rfl rfl ?_ | refine ggf rfl (by assumption) (by rfl) ?_ | refine gal rfl (by assumption) (by rfl) (by omega) (by omega) ?_ | refine gil rfl (by assumption) (by rfl) (by omega) (by omega) ?_ | refine gbl rfl (by assumption) (by rfl) (by omega) (by omega) ?_ | refine gln rfl (xlen_i (by assumption)) ?_ | refine gln rfl (xlen_q (by assumption)) ?_)
  refine gob rfl (by decide) ?_
  repeat (first | refine gp rfl rfl rfl ?_ | refine ggf rfl (by assumption) (by rfl) ?_ | refine gal rfl (by assumption) (by rfl) (by omega) (by omega) ?_ | refine gil rfl (by assumption) (by rfl) (by omega) (by omega) ?_ | refine gbl rfl (by assumption) (by rfl) (by omega) (by omega) ?_ | refine gln rfl (xlen_i (by assumption)) ?_ | refine gln rfl (xlen_q (by assumption)) ?_)
  refine gpf rfl h (Nat.le_of_ble_eq_true rfl) (Or.inr ⟨rfl, ?_⟩) ?_
  · cases l
    · exact Or.inl rfl
    · exact Or.inr rfl
  repeat (first | refine gp rfl rfl rfl ?_ | refine ggf rfl (by assumption) (by rfl) ?_ | refine gal rfl (by assumption) (by rfl) (by omega) (by omega) ?_ | refine gil rfl (by assumption) (by rfl) (by omega) (by omega) ?_ | refine gbl rfl (by assumption) (by rfl) (by omega) (by omega) ?_ | refine gln rfl (xlen_i (by assumption)) ?_ | refine gln rfl (xlen_q (by assumption)) ?_)
  refine gpf rfl (xup_eq _ _ _) (Nat.le_of_ble_eq_true rfl) rfl ?_
  rw [xup_up]
  exact grv rfl ⟨rfl, rfl⟩
theorem m_Tree (d : Nat) {σ : xS} {q : Nat} {v : xV} (h : σ.1 q = some (.inr (.inr (2, [v])))) (hq : q ≠ σ.2.1) : xEx (d + 1) 7 [.inr (some q)] σ none (xup (xnew σ (.inr (.inl (0, 64, fun _ => none))) 64) q (.inr (.inr (2, [.inr (some σ.2.1)])))) := by
  refine ⟨by decide, rfl, ?_⟩
  show xGo (xEx d) xtb_7 _ (0, [some (.inr (some q))], [], σ)
  repeat (first | refine gp rfl rfl rfl ?_ | refine ggf rfl (by assumption) (by rfl) ?_ | refine gal rfl (by assumption) (by rfl) (by omega) (by omega) ?_ | refine gil rfl (by assumption) (by rfl) (by omega) (by omega) ?_ | refine gbl rfl (by assumption) (by rfl) (by omega) (by omega) ?_ | refine gln rfl (xlen_i (by assumption)) ?_ | refine gln rfl (xlen_q (by assumption)) ?_)
  refine gob rfl (by decide) ?_
  repeat (first | refine gp rfl rfl rfl ?_ | refine ggf rfl (by assumption) (by rfl) ?_ | refine gal rfl (by assumption) (by rfl) (by omega) (by omega) ?_ | refine gil rfl (by assumption) (by rfl) (by omega) (by omega) ?_ | refine gbl rfl (by assumption) (by rfl) (by omega) (by omega) ?_ | refine gln rfl (xlen_i (by assumption)) ?_ | refine gln rfl (xlen_q (by assumption)) ?_)
  refine gnq rfl rfl (by decide) ?_
  refine gpf rfl (show (xnew σ _ 64).1 q = _ by rw [xnew_ne hq]; exact h) (Nat.le_of_ble_eq_true rfl) rfl ?_
  exact grv rfl ⟨rfl, rfl⟩
