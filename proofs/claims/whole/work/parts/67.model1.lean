/-! MODULE: the reference: where lines lie -/
def rSt (t p : Nat) : Nat := if t < 3 then (64 * t + p) * 8 else if t = 3 then 1536 + p * 76 else if t = 4 then 6400 + p * 8 else 6912 + (64 * (t - 5) + p) * 36
theorem m_start (d : Nat) {σ : xS} {t p : Nat} (ht : t < 7) (hp : p < 64) : xEx (d + 1) 93 [.inl (nI t), .inl (nI p)] σ (some (.inl (nI (rSt t p)))) σ := by
  refine ⟨by decide, rfl, ?_⟩
  show xGo (xEx d) xtb_93 _ (0, [some (.inl (nI t)), some (.inl (nI p))], [], σ)
  repeat (first | refine gp rfl rfl rfl ?_ | refine ggf rfl (by assumption) (by rfl) ?_ | refine gal rfl (by assumption) (by rfl) (by omega) (by omega) ?_ | refine gil rfl (by assumption) (by rfl) (by omega) (by omega) ?_ | refine gbl rfl (by assumption) (by rfl) (by omega) (by omega) ?_ | refine gln rfl (xlen_i (by assumption)) ?_ | refine gln rfl (xlen_q (by assumption)) ?_)
  by_cases h3 : t < 3
  · refine gcf rfl (show ¬ nI 3 ≤ nI t from nI_ge h3 (by decide)) ?_
    repeat (first | refine gp rfl rfl rfl ?_ | refine ggf rfl (by assumption) (by rfl) ?_ | refine gal rfl (by assumption) (by rfl) (by omega) (by omega) ?_ | refine gil rfl (by assumption) (by rfl) (by omega) (by omega) ?_ | refine gbl rfl (by assumption) (by rfl) (by omega) (by omega) ?_ | refine gln rfl (xlen_i (by assumption)) ?_ | refine gln rfl (xlen_q (by assumption)) ?_)
    refine gri rfl (fun h => absurd h (by decide)) ⟨?_, rfl⟩
    show some (Sum.inl ((nI 64 * nI t + nI p) * nI 8)) = _
    rw [pk_mul, nI_add, pk_mul]
    unfold rSt
    rw [if_pos h3]
  · refine gct rfl (show nI 3 ≤ nI t from nI_le (by omega) (by omega)) ?_
    repeat (first | refine gp rfl rfl rfl ?_ | refine ggf rfl (by assumption) (by rfl) ?_ | refine gal rfl (by assumption) (by rfl) (by omega) (by omega) ?_ | refine gil rfl (by assumption) (by rfl) (by omega) (by omega) ?_ | refine gbl rfl (by assumption) (by rfl) (by omega) (by omega) ?_ | refine gln rfl (xlen_i (by assumption)) ?_ | refine gln rfl (xlen_q (by assumption)) ?_)
    by_cases e3 : t = 3
    · refine gcf rfl (fun z => z (show nI t = nI 3 by rw [e3])) ?_
      repeat (first | refine gp rfl rfl rfl ?_ | refine ggf rfl (by assumption) (by rfl) ?_ | refine gal rfl (by assumption) (by rfl) (by omega) (by omega) ?_ | refine gil rfl (by assumption) (by rfl) (by omega) (by omega) ?_ | refine gbl rfl (by assumption) (by rfl) (by omega) (by omega) ?_ | refine gln rfl (xlen_i (by assumption)) ?_ | refine gln rfl (xlen_q (by assumption)) ?_)
      refine gri rfl (fun h => absurd h (by decide)) ⟨?_, rfl⟩
      show some (Sum.inl (nI 1536 + nI p * nI 76)) = _
      rw [pk_mul, nI_add]
      unfold rSt
      rw [if_neg h3, if_pos e3]
    · refine gct rfl (fun z => e3 ((nI_eq (by omega) (by decide)).mp z)) ?_
      repeat (first | refine gp rfl rfl rfl ?_ | refine ggf rfl (by assumption) (by rfl) ?_ | refine gal rfl (by assumption) (by rfl) (by omega) (by omega) ?_ | refine gil rfl (by assumption) (by rfl) (by omega) (by omega) ?_ | refine gbl rfl (by assumption) (by rfl) (by omega) (by omega) ?_ | refine gln rfl (xlen_i (by assumption)) ?_ | refine gln rfl (xlen_q (by assumption)) ?_)
      by_cases e4 : t = 4
      · refine gcf rfl (fun z => z (show nI t = nI 4 by rw [e4])) ?_
        repeat (first | refine gp rfl rfl rfl ?_ | refine ggf rfl (by assumption) (by rfl) ?_ | refine gal rfl (by assumption) (by rfl) (by omega) (by omega) ?_ | refine gil rfl (by assumption) (by rfl) (by omega) (by omega) ?_ | refine gbl rfl (by assumption) (by rfl) (by omega) (by omega) ?_ | refine gln rfl (xlen_i (by assumption)) ?_ | refine gln rfl (xlen_q (by assumption)) ?_)
        refine gri rfl (fun h => absurd h (by decide)) ⟨?_, rfl⟩
        show some (Sum.inl (nI 6400 + nI p * nI 8)) = _
        rw [pk_mul, nI_add]
        unfold rSt
        rw [if_neg h3, if_neg e3, if_pos e4]
      · refine gct rfl (fun z => e4 ((nI_eq (by omega) (by decide)).mp z)) ?_
        repeat (first | refine gp rfl rfl rfl ?_ | refine ggf rfl (by assumption) (by rfl) ?_ | refine gal rfl (by assumption) (by rfl) (by omega) (by omega) ?_ | refine gil rfl (by assumption) (by rfl) (by omega) (by omega) ?_ | refine gbl rfl (by assumption) (by rfl) (by omega) (by omega) ?_ | refine gln rfl (xlen_i (by assumption)) ?_ | refine gln rfl (xlen_q (by assumption)) ?_)
        refine gri rfl (fun h => absurd h (by decide)) ⟨?_, rfl⟩
        show some (Sum.inl (nI 6912 + (nI 64 * (nI t - nI 5) + nI p) * nI 36)) = _
        rw [pk_sub (by omega), pk_mul, nI_add, pk_mul, nI_add]
        unfold rSt
        rw [if_neg h3, if_neg e3, if_neg e4]
