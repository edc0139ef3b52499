/-! MODULE: the reference: the search over masks -/
set_option maxRecDepth 100000 in
theorem sh_all : ∀ M : Fin 256, ∀ k : Fin 8, ((nI M.val >>> (nI k.val &&& 31)) &&& nI 1) = nI (if M.val.testBit k.val then 1 else 0) := by decide +kernel
theorem sh_ok {M k : Nat} (hM : M < 256) (hk : k < 8) : ((nI M >>> (nI k &&& 31)) &&& nI 1) = nI (if M.testBit k then 1 else 0) := sh_all ⟨M, hM⟩ ⟨k, hk⟩
theorem shl_all : ∀ n : Fin 9, (nI 1 <<< (nI n.val &&& 31)) = nI (2 ^ n.val) := by decide +kernel
theorem shl_ok {n : Nat} (h : n ≤ 8) : (nI 1 <<< (nI n &&& 31)) = nI (2 ^ n) := shl_all ⟨n, by omega⟩
def pBits : Nat → Nat → List Bool
  | 0, _ => []
  | n + 1, M => M.testBit n :: pBits n M
theorem pBits_len : ∀ n M, (pBits n M).length = n
  | 0, _ => rfl
  | n + 1, M => by
    show (pBits n M).length + 1 = n + 1
    rw [pBits_len n M]
theorem pVal_bits : ∀ n M, pVal (pBits n M) = M % 2 ^ n
  | 0, M => by
    show 0 = M % 1
    rw [Nat.mod_one]
  | n + 1, M => by
    show (if M.testBit n then 2 ^ (pBits n M).length else 0) + pVal (pBits n M) = _
    rw [pBits_len, pVal_bits n M, Nat.mod_pow_succ, Nat.testBit_eq_decide_div_mod_eq]
    rcases Nat.mod_two_eq_zero_or_one (M / 2 ^ n) with e | e
    · rw [e]; simp
    · rw [e]; simp; omega
theorem pVal_bits' {n M : Nat} (h : M < 2 ^ n) : pVal (pBits n M) = M := by rw [pVal_bits, Nat.mod_eq_of_lt h]
theorem pOnes_cons (b : Bool) (bs : List Bool) : pOnes (b :: bs) = pOnes bs + (if b then 1 else 0) := by
  cases b <;> simp [pOnes]
theorem pOnes_bits : ∀ n M, pOnes (pBits n M) = pCnt (fun k => M.testBit k) n
  | 0, _ => rfl
  | n + 1, M => by
    show pOnes (M.testBit n :: pBits n M) = _
    rw [pOnes_cons, pOnes_bits n M, pCnt_s]
/-- how many bits -/
def pOn8 (M : Nat) : Nat := pCnt (fun k => M.testBit k) 8
theorem pOn8_bits {n M : Nat} (hn : n ≤ 8) (h : M < 2 ^ n) : pOn8 M = pOnes (pBits n M) := by
  rw [pOnes_bits]
  have : ∀ k, n + k ≤ 8 → pCnt (fun k => M.testBit k) (n + k) = pCnt (fun k => M.testBit k) n := by
    intro k
    induction k with
    | zero => intro _; rfl
    | succ k ih =>
      intro hk
      show pCnt (fun k => M.testBit k) (n + k + 1) = _
      rw [pCnt_s, ih (by omega), Nat.testBit_lt_two_pow (Nat.lt_of_lt_of_le h (Nat.pow_le_pow_right (by decide) (by omega)))]
      simp
  have h2 := this (8 - n) (by omega)
  rw [show n + (8 - n) = 8 by omega] at h2
  exact h2
theorem pVal_inj : ∀ {a b : List Bool}, a.length = b.length → pVal a = pVal b → a = b
  | [], [], _, _ => rfl
  | [], _ :: _, h, _ => by cases h
  | _ :: _, [], h, _ => by cases h
  | x :: a, y :: b, h, e => by
    have hl : a.length = b.length := by simpa using h
    have l1 := pVal_lt a
    have l2 := pVal_lt b
    have e' : (if x then 2 ^ a.length else 0) + pVal a = (if y then 2 ^ b.length else 0) + pVal b := e
    rw [hl] at l1 e'
    cases x <;> cases y
    · simp at e'
      rw [pVal_inj hl e']
    · simp at e'
      omega
    · simp at e'
      omega
    · simp at e'
      rw [pVal_inj hl e']
theorem pOnes_0 : ∀ {bs : List Bool}, pOnes bs = 0 → pVal bs = 0
  | [], _ => rfl
  | b :: bs, h => by
    rw [pOnes_cons] at h
    cases b with
    | true => simp at h
    | false =>
      show (if false = true then _ else 0) + pVal bs = 0
      rw [pOnes_0 (bs := bs) (by simpa using h)]
      rfl
theorem pBits_pG {lo lx : List Int32} : pBits lo.length (pVal (pG lo lx)) = pG lo lx := by
  refine pVal_inj (by rw [pBits_len, pG_len]) ?_
  rw [pVal_bits' (by have := pVal_lt (pG lo lx); rwa [pG_len] at this)]
theorem pBits_drop {n M : Nat} : ∀ {i : Nat}, i < n → (pBits n M).drop i = M.testBit (n - 1 - i) :: (pBits n M).drop (i + 1) := by
  induction n with
  | zero => intro i h; omega
  | succ n ih =>
    intro i h
    cases i with
    | zero =>
      show M.testBit n :: pBits n M = M.testBit (n + 1 - 1 - 0) :: pBits n M
      rw [show n + 1 - 1 - 0 = n by omega]
    | succ i =>
      show (pBits n M).drop i = M.testBit (n + 1 - 1 - (i + 1)) :: (pBits n M).drop (i + 1)
      rw [ih (by omega), show n + 1 - 1 - (i + 1) = n - 1 - i by omega]
/-- what the search knows of each mask -/
theorem mask_le {lo lx : List Int32} {M : Nat} (hn : lo.length ≤ 8) (hM : M < 2 ^ lo.length) (hf : pFit lo (pBits lo.length M) lx = true) : pOn8 M ≤ pOn8 (pVal (pG lo lx)) ∧ (pOn8 M = pOn8 (pVal (pG lo lx)) → M ≤ pVal (pG lo lx)) := by
  have hg : pVal (pG lo lx) < 2 ^ lo.length := by have := pVal_lt (pG lo lx); rwa [pG_len] at this
  rw [pOn8_bits hn hM, pOn8_bits hn hg, pBits_pG, pG_ones]
  refine ⟨pFit_ones lo _ lx (pBits_len _ _) hf, fun e => ?_⟩
  have := pG_max lo _ lx (pBits_len _ _) hf e
  rwa [pVal_bits' hM] at this
theorem mask_pos {n M : Nat} (hn : n ≤ 8) (hM : M < 2 ^ n) (h0 : 0 < M) : 0 < pOn8 M := by
  rw [pOn8_bits hn hM]
  rcases Nat.eq_zero_or_pos (pOnes (pBits n M)) with e | e
  · have := pOnes_0 e
    rw [pVal_bits' hM] at this
    omega
  · exact e
section REF
variable {σ : xS} {I : Nat → Int32} {A : Nat → Nat → Int32}
theorem r_ones (d : Nat) {M : Nat} (hM : M < 256) : xEx (d + 1) 126 [.inl (nI M)] σ (some (.inl (nI (pOn8 M)))) σ := by
  refine ⟨by decide, rfl, ?_⟩
  show xGo (xEx d) xtb_126 _ (0, [some (.inl (nI M)), none, none], [], σ)
  have loop : ∀ k i, i + k = 8 → xGo (xEx d) xtb_126 (fun r0 σ0 => r0 = some (.inl (nI (pOn8 M))) ∧ σ0 = σ) (7, [some (.inl (nI M)), some (.inl (nI (pCnt (fun k => M.testBit k) i))), some (.inl (nI i))], [.inl (nI 8), .inl (nI i)], σ) := by
    intro k
    induction k with
    | zero =>
      intro i hi
      obtain rfl : i = 8 := by omega
      first | refine gtN rfl (by omega) (by omega) (xN_ge (by omega)) ?_ | refine gtN rfl (by omega) (by omega) (xN_lt (by omega)) ?_ | refine gtN rfl (by omega) (by omega) (xN_eq (by omega)) ?_ | refine gtN rfl (by omega) (by omega) (xN_ne (by omega)) ?_ | refine gtN rfl (by omega) (by omega) (xN_gt (by omega)) ?_ | refine gtN rfl (by omega) (by omega) (xN_le (by omega)) ?_
      repeat (first | refine gkn rfl rfl ?_ | refine gkm rfl rfl ?_ | refine gad rfl ?_ | refine gml rfl ?_ | refine gsb rfl (by omega) ?_ | refine gdv rfl (by omega) (by omega) (by omega) ?_ | refine grm rfl (by omega) (by omega) (by omega) ?_ | refine gic rfl rfl ?_ | refine gp rfl rfl rfl ?_ | refine gFl rfl (by rfl) ?_ | refine gAl rfl rfl (by rfl) (by omega) ?_ | refine gBl rfl rfl (by rfl) (by omega) ?_)
      exact gri rfl (fun h => absurd h (by decide)) ⟨rfl, rfl⟩
    | succ k ih =>
      intro i hi
      have ih' := ih (i + 1) (by omega)
      rw [pCnt_s _ i, ← nI_add, ← sh_ok hM (by omega)] at ih'
      first | refine gfN rfl (by omega) (by omega) (nN_ge (by omega)) ?_ | refine gfN rfl (by omega) (by omega) (nN_lt (by omega)) ?_ | refine gfN rfl (by omega) (by omega) (nN_eq (by omega)) ?_ | refine gfN rfl (by omega) (by omega) (nN_ne (by omega)) ?_ | refine gfN rfl (by omega) (by omega) (nN_gt (by omega)) ?_ | refine gfN rfl (by omega) (by omega) (nN_le (by omega)) ?_
      repeat (first | refine gkn rfl rfl ?_ | refine gkm rfl rfl ?_ | refine gad rfl ?_ | refine gml rfl ?_ | refine gsb rfl (by omega) ?_ | refine gdv rfl (by omega) (by omega) (by omega) ?_ | refine grm rfl (by omega) (by omega) (by omega) ?_ | refine gic rfl rfl ?_ | refine gp rfl rfl rfl ?_ | refine gFl rfl (by rfl) ?_ | refine gAl rfl rfl (by rfl) (by omega) ?_ | refine gBl rfl rfl (by rfl) (by omega) ?_)
      exact ih'
  repeat (first | refine gkn rfl rfl ?_ | refine gkm rfl rfl ?_ | refine gad rfl ?_ | refine gml rfl ?_ | refine gsb rfl (by omega) ?_ | refine gdv rfl (by omega) (by omega) (by omega) ?_ | refine grm rfl (by omega) (by omega) (by omega) ?_ | refine gic rfl rfl ?_ | refine gp rfl rfl rfl ?_ | refine gFl rfl (by rfl) ?_ | refine gAl rfl rfl (by rfl) (by omega) ?_ | refine gBl rfl rfl (by rfl) (by omega) ?_)
  exact loop 8 0 rfl
theorem r_fits (d : Nat) {M x bo : Nat} {lo lx : List Int32} (h15 : I 15 = nI bo) (hlo : sg A bo lo) (hlx : sg A x lx) (hn : lo.length ≤ 8) (hM : M < 256) : xEx (d + 1) 127 [.inr (some 52), .inl (nI M), .inl (nI lo.length), .inl (nI x), .inl (nI lx.length)] (mU σ I A) (some (.inl (bI (pFit lo (pBits lo.length M) lx)))) (mU σ I A) := by
  obtain ⟨a1, -, a3⟩ := hlo
  obtain ⟨c1, -, c3⟩ := hlx
  refine ⟨by decide, rfl, ?_⟩
  show xGo (xEx d) xtb_127 _ (0, [some (.inr (some 52)), some (.inl (nI M)), some (.inl (nI lo.length)), some (.inl (nI x)), some (.inl (nI lx.length)), none, none], [], mU σ I A)
  have outer : ∀ k i j, i + k = lo.length → j ≤ lx.length → pFit lo (pBits lo.length M) lx = pFit (lo.drop i) ((pBits lo.length M).drop i) (lx.drop j) → xGo (xEx d) xtb_127 (fun r0 σ0 => r0 = some (.inl (bI (pFit lo (pBits lo.length M) lx))) ∧ σ0 = mU σ I A) (9, [some (.inr (some 52)), some (.inl (nI M)), some (.inl (nI lo.length)), some (.inl (nI x)), some (.inl (nI lx.length)), some (.inl (nI j)), some (.inl (nI i))], [.inl (nI lo.length), .inl (nI i)], mU σ I A) := by
    intro k
    induction k with
    | zero =>
      intro i j hi hj e
      obtain rfl : i = lo.length := by omega
      rw [List.drop_length] at e
      first | refine gtN rfl (by omega) (by omega) (xN_ge (by omega)) ?_ | refine gtN rfl (by omega) (by omega) (xN_lt (by omega)) ?_ | refine gtN rfl (by omega) (by omega) (xN_eq (by omega)) ?_ | refine gtN rfl (by omega) (by omega) (xN_ne (by omega)) ?_ | refine gtN rfl (by omega) (by omega) (xN_gt (by omega)) ?_ | refine gtN rfl (by omega) (by omega) (xN_le (by omega)) ?_
      repeat (first | refine gkn rfl rfl ?_ | refine gkm rfl rfl ?_ | refine gad rfl ?_ | refine gml rfl ?_ | refine gsb rfl (by omega) ?_ | refine gdv rfl (by omega) (by omega) (by omega) ?_ | refine grm rfl (by omega) (by omega) (by omega) ?_ | refine gic rfl rfl ?_ | refine gp rfl rfl rfl ?_ | refine gFl rfl (by rfl) ?_ | refine gAl rfl rfl (by rfl) (by omega) ?_ | refine gBl rfl rfl (by rfl) (by omega) ?_)
      refine gri rfl (fun _ => Or.inr rfl) ⟨?_, rfl⟩
      rw [e]
      rfl
    | succ k ih =>
      intro i j hi hj e
      have hi2 : i < lo.length := by omega
      rw [drop_step hi2, pBits_drop hi2] at e
      have eb := sh_ok (k := lo.length - 1 - i) hM (by omega)
      first | refine gfN rfl (by omega) (by omega) (nN_ge (by omega)) ?_ | refine gfN rfl (by omega) (by omega) (nN_lt (by omega)) ?_ | refine gfN rfl (by omega) (by omega) (nN_eq (by omega)) ?_ | refine gfN rfl (by omega) (by omega) (nN_ne (by omega)) ?_ | refine gfN rfl (by omega) (by omega) (nN_gt (by omega)) ?_ | refine gfN rfl (by omega) (by omega) (nN_le (by omega)) ?_
      repeat (first | refine gkn rfl rfl ?_ | refine gkm rfl rfl ?_ | refine gad rfl ?_ | refine gml rfl ?_ | refine gsb rfl (by omega) ?_ | refine gdv rfl (by omega) (by omega) (by omega) ?_ | refine grm rfl (by omega) (by omega) (by omega) ?_ | refine gic rfl rfl ?_ | refine gp rfl rfl rfl ?_ | refine gFl rfl (by rfl) ?_ | refine gAl rfl rfl (by rfl) (by omega) ?_ | refine gBl rfl rfl (by rfl) (by omega) ?_)
      rw [eb]
      cases hb : M.testBit (lo.length - 1 - i) with
      | false =>
        rw [hb] at e
        refine gtN rfl (show 0 < 2147483648 by decide) (by decide) (show ¬ 0 = 1 by decide) ?_
        repeat (first | refine gkn rfl rfl ?_ | refine gkm rfl rfl ?_ | refine gad rfl ?_ | refine gml rfl ?_ | refine gsb rfl (by omega) ?_ | refine gdv rfl (by omega) (by omega) (by omega) ?_ | refine grm rfl (by omega) (by omega) (by omega) ?_ | refine gic rfl rfl ?_ | refine gp rfl rfl rfl ?_ | refine gFl rfl (by rfl) ?_ | refine gAl rfl rfl (by rfl) (by omega) ?_ | refine gBl rfl rfl (by rfl) (by omega) ?_)
        exact ih (i + 1) j (by omega) hj e
      | true =>
        rw [hb] at e
        refine gfN rfl (show 1 < 2147483648 by decide) (by decide) (show ¬ ¬ 1 = 1 by decide) ?_
        have inner : ∀ k j', j' + k = lx.length → pAft (lo.getD i 0) (lx.drop j) = pAft (lo.getD i 0) (lx.drop j') → xGo (xEx d) xtb_127 (fun r0 σ0 => r0 = some (.inl (bI (pFit lo (pBits lo.length M) lx))) ∧ σ0 = mU σ I A) (30, [some (.inr (some 52)), some (.inl (nI M)), some (.inl (nI lo.length)), some (.inl (nI x)), some (.inl (nI lx.length)), some (.inl (nI j')), some (.inl (nI i))], [.inl (nI lx.length), .inl (nI j')], mU σ I A) := by
          intro k
          induction k with
          | zero =>
            intro j' hj' e2
            obtain rfl : j' = lx.length := by omega
            rw [List.drop_length] at e2
            first | refine gtN rfl (by omega) (by omega) (xN_ge (by omega)) ?_ | refine gtN rfl (by omega) (by omega) (xN_lt (by omega)) ?_ | refine gtN rfl (by omega) (by omega) (xN_eq (by omega)) ?_ | refine gtN rfl (by omega) (by omega) (xN_ne (by omega)) ?_ | refine gtN rfl (by omega) (by omega) (xN_gt (by omega)) ?_ | refine gtN rfl (by omega) (by omega) (xN_le (by omega)) ?_
            repeat (first | refine gkn rfl rfl ?_ | refine gkm rfl rfl ?_ | refine gad rfl ?_ | refine gml rfl ?_ | refine gsb rfl (by omega) ?_ | refine gdv rfl (by omega) (by omega) (by omega) ?_ | refine grm rfl (by omega) (by omega) (by omega) ?_ | refine gic rfl rfl ?_ | refine gp rfl rfl rfl ?_ | refine gFl rfl (by rfl) ?_ | refine gAl rfl rfl (by rfl) (by omega) ?_ | refine gBl rfl rfl (by rfl) (by omega) ?_)
            first | refine gfN rfl (by omega) (by omega) (nN_ge (by omega)) ?_ | refine gfN rfl (by omega) (by omega) (nN_lt (by omega)) ?_ | refine gfN rfl (by omega) (by omega) (nN_eq (by omega)) ?_ | refine gfN rfl (by omega) (by omega) (nN_ne (by omega)) ?_ | refine gfN rfl (by omega) (by omega) (nN_gt (by omega)) ?_ | refine gfN rfl (by omega) (by omega) (nN_le (by omega)) ?_
            repeat (first | refine gkn rfl rfl ?_ | refine gkm rfl rfl ?_ | refine gad rfl ?_ | refine gml rfl ?_ | refine gsb rfl (by omega) ?_ | refine gdv rfl (by omega) (by omega) (by omega) ?_ | refine grm rfl (by omega) (by omega) (by omega) ?_ | refine gic rfl rfl ?_ | refine gp rfl rfl rfl ?_ | refine gFl rfl (by rfl) ?_ | refine gAl rfl rfl (by rfl) (by omega) ?_ | refine gBl rfl rfl (by rfl) (by omega) ?_)
            refine gri rfl (fun _ => Or.inl rfl) ⟨?_, rfl⟩
            rw [e]
            show _ = some (Sum.inl (bI (match pAft (lo.getD i 0) (lx.drop j) with
              | some r => pFit (lo.drop (i + 1)) ((pBits lo.length M).drop (i + 1)) r
              | none => false)))
            rw [e2]
            rfl
          | succ k ih2 =>
            intro j' hj' e2
            have hj2 : j' < lx.length := by omega
            first | refine gfN rfl (by omega) (by omega) (nN_ge (by omega)) ?_ | refine gfN rfl (by omega) (by omega) (nN_lt (by omega)) ?_ | refine gfN rfl (by omega) (by omega) (nN_eq (by omega)) ?_ | refine gfN rfl (by omega) (by omega) (nN_ne (by omega)) ?_ | refine gfN rfl (by omega) (by omega) (nN_gt (by omega)) ?_ | refine gfN rfl (by omega) (by omega) (nN_le (by omega)) ?_
            repeat (first | refine gkn rfl rfl ?_ | refine gkm rfl rfl ?_ | refine gad rfl ?_ | refine gml rfl ?_ | refine gsb rfl (by omega) ?_ | refine gdv rfl (by omega) (by omega) (by omega) ?_ | refine grm rfl (by omega) (by omega) (by omega) ?_ | refine gic rfl rfl ?_ | refine gp rfl rfl rfl ?_ | refine gFl rfl (by rfl) ?_ | refine gAl rfl rfl (by rfl) (by omega) ?_ | refine gBl rfl rfl (by rfl) (by omega) ?_)
            rw [h15]
            repeat (first | refine gkn rfl rfl ?_ | refine gkm rfl rfl ?_ | refine gad rfl ?_ | refine gml rfl ?_ | refine gsb rfl (by omega) ?_ | refine gdv rfl (by omega) (by omega) (by omega) ?_ | refine grm rfl (by omega) (by omega) (by omega) ?_ | refine gic rfl rfl ?_ | refine gp rfl rfl rfl ?_ | refine gFl rfl (by rfl) ?_ | refine gAl rfl rfl (by rfl) (by omega) ?_ | refine gBl rfl rfl (by rfl) (by omega) ?_)
            rw [nI_add]
            repeat (first | refine gkn rfl rfl ?_ | refine gkm rfl rfl ?_ | refine gad rfl ?_ | refine gml rfl ?_ | refine gsb rfl (by omega) ?_ | refine gdv rfl (by omega) (by omega) (by omega) ?_ | refine grm rfl (by omega) (by omega) (by omega) ?_ | refine gic rfl rfl ?_ | refine gp rfl rfl rfl ?_ | refine gFl rfl (by rfl) ?_ | refine gAl rfl rfl (by rfl) (by omega) ?_ | refine gBl rfl rfl (by rfl) (by omega) ?_)
            rw [c3 j' hj2, a3 i hi2]
            refine gcp rfl (fun heq => ?_) (fun hne => ?_)
            · have heq : lx.getD j' 0 = lo.getD i 0 := heq
              rw [pAft_hit hj2 heq] at e2
              repeat (first | refine gkn rfl rfl ?_ | refine gkm rfl rfl ?_ | refine gad rfl ?_ | refine gml rfl ?_ | refine gsb rfl (by omega) ?_ | refine gdv rfl (by omega) (by omega) (by omega) ?_ | refine grm rfl (by omega) (by omega) (by omega) ?_ | refine gic rfl rfl ?_ | refine gp rfl rfl rfl ?_ | refine gFl rfl (by rfl) ?_ | refine gAl rfl rfl (by rfl) (by omega) ?_ | refine gBl rfl rfl (by rfl) (by omega) ?_)
              first | refine gtN rfl (by omega) (by omega) (xN_ge (by omega)) ?_ | refine gtN rfl (by omega) (by omega) (xN_lt (by omega)) ?_ | refine gtN rfl (by omega) (by omega) (xN_eq (by omega)) ?_ | refine gtN rfl (by omega) (by omega) (xN_ne (by omega)) ?_ | refine gtN rfl (by omega) (by omega) (xN_gt (by omega)) ?_ | refine gtN rfl (by omega) (by omega) (xN_le (by omega)) ?_
              repeat (first | refine gkn rfl rfl ?_ | refine gkm rfl rfl ?_ | refine gad rfl ?_ | refine gml rfl ?_ | refine gsb rfl (by omega) ?_ | refine gdv rfl (by omega) (by omega) (by omega) ?_ | refine grm rfl (by omega) (by omega) (by omega) ?_ | refine gic rfl rfl ?_ | refine gp rfl rfl rfl ?_ | refine gFl rfl (by rfl) ?_ | refine gAl rfl rfl (by rfl) (by omega) ?_ | refine gBl rfl rfl (by rfl) (by omega) ?_)
              refine ih (i + 1) (j' + 1) (by omega) (by omega) ?_
              rw [e]
              show (match pAft (lo.getD i 0) (lx.drop j) with
                | some r => pFit (lo.drop (i + 1)) ((pBits lo.length M).drop (i + 1)) r
                | none => false) = _
              rw [e2]
            · have hne : ¬ lx.getD j' 0 = lo.getD i 0 := hne
              rw [pAft_pass hj2 hne] at e2
              repeat (first | refine gkn rfl rfl ?_ | refine gkm rfl rfl ?_ | refine gad rfl ?_ | refine gml rfl ?_ | refine gsb rfl (by omega) ?_ | refine gdv rfl (by omega) (by omega) (by omega) ?_ | refine grm rfl (by omega) (by omega) (by omega) ?_ | refine gic rfl rfl ?_ | refine gp rfl rfl rfl ?_ | refine gFl rfl (by rfl) ?_ | refine gAl rfl rfl (by rfl) (by omega) ?_ | refine gBl rfl rfl (by rfl) (by omega) ?_)
              exact ih2 (j' + 1) (by omega) e2
        repeat (first | refine gkn rfl rfl ?_ | refine gkm rfl rfl ?_ | refine gad rfl ?_ | refine gml rfl ?_ | refine gsb rfl (by omega) ?_ | refine gdv rfl (by omega) (by omega) (by omega) ?_ | refine grm rfl (by omega) (by omega) (by omega) ?_ | refine gic rfl rfl ?_ | refine gp rfl rfl rfl ?_ | refine gFl rfl (by rfl) ?_ | refine gAl rfl rfl (by rfl) (by omega) ?_ | refine gBl rfl rfl (by rfl) (by omega) ?_)
        exact inner (lx.length - j) j (by omega) rfl
  repeat (first | refine gkn rfl rfl ?_ | refine gkm rfl rfl ?_ | refine gad rfl ?_ | refine gml rfl ?_ | refine gsb rfl (by omega) ?_ | refine gdv rfl (by omega) (by omega) (by omega) ?_ | refine grm rfl (by omega) (by omega) (by omega) ?_ | refine gic rfl rfl ?_ | refine gp rfl rfl rfl ?_ | refine gFl rfl (by rfl) ?_ | refine gAl rfl rfl (by rfl) (by omega) ?_ | refine gBl rfl rfl (by rfl) (by omega) ?_)
  exact outer lo.length 0 0 (Nat.zero_add _) (Nat.zero_le _) rfl
theorem getD_of_drop {α : Type} {l t : List α} {i : Nat} {a b : α} (h : l.drop i = a :: t) : l.getD i b = a ∧ l.drop (i + 1) = t := by
  constructor
  · rw [List.getD_eq_getElem?_getD]
    have : (l.drop i)[0]? = some a := by rw [h]; rfl
    rw [List.getElem?_drop] at this
    rw [show i + 0 = i from rfl] at this
    rw [this]
    rfl
  · rw [← List.drop_drop, h]
    rfl
theorem r_match (d : Nat) {x bo to : Nat} {lo lx : List Int32} (h15 : I 15 = nI bo) (hlo : sg A bo lo) (hlx : sg A x lx) (hn : lo.length ≤ 8) (hto : to + 8 ≤ 16) : ∃ A', xEx (d + 2) 125 [.inr (some 52), .inl (nI lo.length), .inl (nI x), .inl (nI lx.length), .inl (nI to)] (mU σ I A) none (mU σ I A') ∧ (∀ i, i < lo.length → A' 62 (to + i) = oI ((pMt lo lx 0).getD i none)) ∧ (∀ z, (z < to ∨ to + 8 ≤ z) → A' 62 z = A 62 z) ∧ (∀ k, k ≠ 62 → A' k = A k) := by
  have hlo0 := hlo
  have hlx0 := hlx
  obtain ⟨a1, -, a3⟩ := hlo
  obtain ⟨c1, -, c3⟩ := hlx
  let K : Option xV → xS → Prop := fun r0 σ0 => r0 = none ∧ ∃ A', σ0 = mU σ I A' ∧ (∀ i, i < lo.length → A' 62 (to + i) = oI ((pMt lo lx 0).getD i none)) ∧ (∀ z, (z < to ∨ to + 8 ≤ z) → A' 62 z = A 62 z) ∧ (∀ k, k ≠ 62 → A' k = A k)
  have hg : pVal (pG lo lx) < 2 ^ lo.length := by have := pVal_lt (pG lo lx); rwa [pG_len] at this
  have h256 : 2 ^ lo.length ≤ 256 := Nat.pow_le_pow_right (n := 2) (by decide) hn
  have eG := pBits_pG (lo := lo) (lx := lx)
  have hbest := fun M => mask_le (lo := lo) (lx := lx) (M := M) hn
  have hfit : pFit lo (pBits lo.length (pVal (pG lo lx))) lx = true := by rw [eG]; exact pG_fit lo lx
  generalize pVal (pG lo lx) = g at *
  have outer2 : ∀ k i j (B : Nat → Nat → Int32), i + k = lo.length → j ≤ lx.length → (pBits lo.length g).drop i = pG (lo.drop i) (lx.drop j) → (pMt lo lx 0).drop i = pMt (lo.drop i) (lx.drop j) j → (∀ i', i' < i → B 62 (to + i') = oI ((pMt lo lx 0).getD i' none)) → (∀ z, (z < to ∨ to + 8 ≤ z) → B 62 z = A 62 z) → (∀ k, k ≠ 62 → B k = A k) → xGo (xEx (d + 1)) xtb_125 K (59, [some (.inr (some 52)), some (.inl (nI lo.length)), some (.inl (nI x)), some (.inl (nI lx.length)), some (.inl (nI to)), some (.inl (nI g)), some (.inl (nI j)), some (.inl (nI i))], [.inl (nI lo.length), .inl (nI i)], mU σ I B) := by
    intro k
    induction k with
    | zero =>
      intro i j B hi hj e1 e2 p1 p2 p3
      obtain rfl : i = lo.length := by omega
      first | refine gtN rfl (by omega) (by omega) (xN_ge (by omega)) ?_ | refine gtN rfl (by omega) (by omega) (xN_lt (by omega)) ?_ | refine gtN rfl (by omega) (by omega) (xN_eq (by omega)) ?_ | refine gtN rfl (by omega) (by omega) (xN_ne (by omega)) ?_ | refine gtN rfl (by omega) (by omega) (xN_gt (by omega)) ?_ | refine gtN rfl (by omega) (by omega) (xN_le (by omega)) ?_
      exact grv rfl ⟨rfl, B, rfl, p1, p2, p3⟩
    | succ k ih =>
      intro i j B hi hj e1 e2 p1 p2 p3
      have hi2 : i < lo.length := by omega
      rw [drop_step hi2] at e1 e2
      rw [pBits_drop hi2] at e1
      have eb := sh_ok (M := g) (k := lo.length - 1 - i) (by omega) (by omega)
      have q15 : ∀ B' : Nat → Nat → Int32, (∀ k, k ≠ 62 → B' k = A k) → B' 55 = A 55 := fun B' hB => hB 55 (by decide)
      first | refine gfN rfl (by omega) (by omega) (nN_ge (by omega)) ?_ | refine gfN rfl (by omega) (by omega) (nN_lt (by omega)) ?_ | refine gfN rfl (by omega) (by omega) (nN_eq (by omega)) ?_ | refine gfN rfl (by omega) (by omega) (nN_ne (by omega)) ?_ | refine gfN rfl (by omega) (by omega) (nN_gt (by omega)) ?_ | refine gfN rfl (by omega) (by omega) (nN_le (by omega)) ?_
      repeat (first | refine gkn rfl rfl ?_ | refine gkm rfl rfl ?_ | refine gad rfl ?_ | refine gml rfl ?_ | refine gsb rfl (by omega) ?_ | refine gdv rfl (by omega) (by omega) (by omega) ?_ | refine grm rfl (by omega) (by omega) (by omega) ?_ | refine gic rfl rfl ?_ | refine gp rfl rfl rfl ?_ | refine gFl rfl (by rfl) ?_ | refine gAl rfl rfl (by rfl) (by omega) ?_ | refine gBl rfl rfl (by rfl) (by omega) ?_)
      refine gAs rfl rfl rfl (by omega) ?_
      repeat (first | refine gkn rfl rfl ?_ | refine gkm rfl rfl ?_ | refine gad rfl ?_ | refine gml rfl ?_ | refine gsb rfl (by omega) ?_ | refine gdv rfl (by omega) (by omega) (by omega) ?_ | refine grm rfl (by omega) (by omega) (by omega) ?_ | refine gic rfl rfl ?_ | refine gp rfl rfl rfl ?_ | refine gFl rfl (by rfl) ?_ | refine gAl rfl rfl (by rfl) (by omega) ?_ | refine gBl rfl rfl (by rfl) (by omega) ?_)
      rw [eb]
      have pno : pG (lo.getD i 0 :: lo.drop (i + 1)) (lx.drop j) = false :: pG (lo.drop (i + 1)) (lx.drop j) → pMt (lo.getD i 0 :: lo.drop (i + 1)) (lx.drop j) j = none :: pMt (lo.drop (i + 1)) (lx.drop j) j → g.testBit (lo.length - 1 - i) = false → xGo (xEx (d + 1)) xtb_125 K (85, [some (.inr (some 52)), some (.inl (nI lo.length)), some (.inl (nI x)), some (.inl (nI lx.length)), some (.inl (nI to)), some (.inl (nI g)), some (.inl (nI j)), some (.inl (nI i))], [.inl (nI 1), .inl (nI (if g.testBit (lo.length - 1 - i) = true then 1 else 0))], mU σ I (aU B 62 (upd (B 62) (to + i) (-1)))) := by
        intro f1 f2 hb
        rw [f1] at e1
        rw [f2] at e2
        obtain ⟨m1, m2⟩ := getD_of_drop (b := none) e2
        rw [hb]
        refine gtN rfl (show 0 < 2147483648 by decide) (by decide) (show ¬ 0 = 1 by decide) ?_
        repeat (first | refine gkn rfl rfl ?_ | refine gkm rfl rfl ?_ | refine gad rfl ?_ | refine gml rfl ?_ | refine gsb rfl (by omega) ?_ | refine gdv rfl (by omega) (by omega) (by omega) ?_ | refine grm rfl (by omega) (by omega) (by omega) ?_ | refine gic rfl rfl ?_ | refine gp rfl rfl rfl ?_ | refine gFl rfl (by rfl) ?_ | refine gAl rfl rfl (by rfl) (by omega) ?_ | refine gBl rfl rfl (by rfl) (by omega) ?_)
        refine ih (i + 1) j _ (by omega) hj (List.cons.inj e1).2 m2 (fun i' hi' => ?_) (fun z hz => ?_) (fun k hk => ?_)
        · rw [aU_eq]
          by_cases e : i' = i
          · rw [e, upd_eq, m1]; rfl
          · rw [upd_ne (by omega)]; exact p1 i' (by omega)
        · rw [aU_eq, upd_ne (by omega)]; exact p2 z hz
        · rw [aU_ne hk]; exact p3 k hk
      cases hr : pAft (lo.getD i 0) (lx.drop j) with
      | none =>
        have f1 : pG (lo.getD i 0 :: lo.drop (i + 1)) (lx.drop j) = false :: pG (lo.drop (i + 1)) (lx.drop j) := by rw [pG, hr]
        have f2 : pMt (lo.getD i 0 :: lo.drop (i + 1)) (lx.drop j) j = none :: pMt (lo.drop (i + 1)) (lx.drop j) j := by rw [pMt, hr]
        refine pno f1 f2 ?_
        rw [f1] at e1
        exact (List.cons.inj e1).1
      | some r =>
        by_cases hc : pL (lo.drop (i + 1)) r + 1 = pL (lo.getD i 0 :: lo.drop (i + 1)) (lx.drop j)
        · have f1 : pG (lo.getD i 0 :: lo.drop (i + 1)) (lx.drop j) = true :: pG (lo.drop (i + 1)) r := by rw [pG, hr]; simp only; rw [if_pos hc]
          have f2 : pMt (lo.getD i 0 :: lo.drop (i + 1)) (lx.drop j) j = some (j + ((lx.drop j).length - r.length - 1)) :: pMt (lo.drop (i + 1)) r (j + ((lx.drop j).length - r.length)) := by rw [pMt, hr]; simp only; rw [if_pos hc]
          rw [f1] at e1
          rw [f2] at e2
          obtain ⟨hb, e1'⟩ := List.cons.inj e1
          obtain ⟨m1, m2⟩ := getD_of_drop (b := none) e2
          rw [hb]
          refine gfN rfl (show 1 < 2147483648 by decide) (by decide) (show ¬ ¬ 1 = 1 by decide) ?_
          have inner : ∀ k j', j' + k = lx.length → j ≤ j' → pAft (lo.getD i 0) (lx.drop j') = some r → xGo (xEx (d + 1)) xtb_125 K (88, [some (.inr (some 52)), some (.inl (nI lo.length)), some (.inl (nI x)), some (.inl (nI lx.length)), some (.inl (nI to)), some (.inl (nI g)), some (.inl (nI j')), some (.inl (nI i))], [], mU σ I (aU B 62 (upd (B 62) (to + i) (-1)))) := by
            intro k
            induction k with
            | zero =>
              intro j' hj' hle e3
              obtain rfl : j' = lx.length := by omega
              rw [List.drop_length] at e3
              cases e3
            | succ k ih2 =>
              intro j' hj' hle e3
              have hj2 : j' < lx.length := by omega
              have e55 : aU B 62 (upd (B 62) (to + i) (-1)) 55 = A 55 := by rw [aU_ne (by decide)]; exact p3 55 (by decide)
              repeat (first | refine gkn rfl rfl ?_ | refine gkm rfl rfl ?_ | refine gad rfl ?_ | refine gml rfl ?_ | refine gsb rfl (by omega) ?_ | refine gdv rfl (by omega) (by omega) (by omega) ?_ | refine grm rfl (by omega) (by omega) (by omega) ?_ | refine gic rfl rfl ?_ | refine gp rfl rfl rfl ?_ | refine gFl rfl (by rfl) ?_ | refine gAl rfl rfl (by rfl) (by omega) ?_ | refine gBl rfl rfl (by rfl) (by omega) ?_)
              rw [h15, nI_add]
              repeat (first | refine gkn rfl rfl ?_ | refine gkm rfl rfl ?_ | refine gad rfl ?_ | refine gml rfl ?_ | refine gsb rfl (by omega) ?_ | refine gdv rfl (by omega) (by omega) (by omega) ?_ | refine grm rfl (by omega) (by omega) (by omega) ?_ | refine gic rfl rfl ?_ | refine gp rfl rfl rfl ?_ | refine gFl rfl (by rfl) ?_ | refine gAl rfl rfl (by rfl) (by omega) ?_ | refine gBl rfl rfl (by rfl) (by omega) ?_)
              rw [e55, c3 j' hj2, a3 i hi2]
              refine gcp rfl (fun heq => ?_) (fun hne => ?_)
              · have heq : lx.getD j' 0 = lo.getD i 0 := heq
                rw [pAft_hit hj2 heq] at e3
                obtain rfl : lx.drop (j' + 1) = r := by cases e3; rfl
                have l1 : (lx.drop j).length - (lx.drop (j' + 1)).length = j' + 1 - j := by rw [List.length_drop, List.length_drop]; omega
                rw [l1, show j + (j' + 1 - j - 1) = j' by omega] at m1
                rw [l1, show j + (j' + 1 - j) = j' + 1 by omega] at m2
                repeat (first | refine gkn rfl rfl ?_ | refine gkm rfl rfl ?_ | refine gad rfl ?_ | refine gml rfl ?_ | refine gsb rfl (by omega) ?_ | refine gdv rfl (by omega) (by omega) (by omega) ?_ | refine grm rfl (by omega) (by omega) (by omega) ?_ | refine gic rfl rfl ?_ | refine gp rfl rfl rfl ?_ | refine gFl rfl (by rfl) ?_ | refine gAl rfl rfl (by rfl) (by omega) ?_ | refine gBl rfl rfl (by rfl) (by omega) ?_)
                refine gAs rfl rfl rfl (by omega) ?_
                repeat (first | refine gkn rfl rfl ?_ | refine gkm rfl rfl ?_ | refine gad rfl ?_ | refine gml rfl ?_ | refine gsb rfl (by omega) ?_ | refine gdv rfl (by omega) (by omega) (by omega) ?_ | refine grm rfl (by omega) (by omega) (by omega) ?_ | refine gic rfl rfl ?_ | refine gp rfl rfl rfl ?_ | refine gFl rfl (by rfl) ?_ | refine gAl rfl rfl (by rfl) (by omega) ?_ | refine gBl rfl rfl (by rfl) (by omega) ?_)
                rw [aU_eq, aU_aU]
                refine ih (i + 1) (j' + 1) _ (by omega) (by omega) e1' m2 (fun i' hi' => ?_) (fun z hz => ?_) (fun k hk => ?_)
                · rw [aU_eq]
                  by_cases e : i' = i
                  · rw [e, upd_eq, m1]; rfl
                  · rw [upd_ne (by omega), upd_ne (by omega)]; exact p1 i' (by omega)
                · rw [aU_eq, upd_ne (by omega), upd_ne (by omega)]; exact p2 z hz
                · rw [aU_ne hk]; exact p3 k hk
              · have hne : ¬ lx.getD j' 0 = lo.getD i 0 := hne
                rw [pAft_pass hj2 hne] at e3
                refine gic rfl rfl ?_
                refine gp rfl rfl rfl ?_
                exact ih2 (j' + 1) (by omega) (by omega) e3
          exact inner (lx.length - j) j (by omega) (Nat.le_refl _) hr
        · have f1 : pG (lo.getD i 0 :: lo.drop (i + 1)) (lx.drop j) = false :: pG (lo.drop (i + 1)) (lx.drop j) := by rw [pG, hr]; simp only; rw [if_neg hc]
          have f2 : pMt (lo.getD i 0 :: lo.drop (i + 1)) (lx.drop j) j = none :: pMt (lo.drop (i + 1)) (lx.drop j) j := by rw [pMt, hr]; simp only; rw [if_neg hc]
          refine pno f1 f2 ?_
          rw [f1] at e1
          exact (List.cons.inj e1).1
  have search : ∀ m best, m < 2 ^ lo.length → best < 2 ^ lo.length → ((m < g ∧ best = g) ∨ (g ≤ m ∧ (pOn8 best < pOn8 g ∨ (g = 0 ∧ best = 0)))) → xGo (xEx (d + 1)) xtb_125 K (12, [some (.inr (some 52)), some (.inl (nI lo.length)), some (.inl (nI x)), some (.inl (nI lx.length)), some (.inl (nI to)), some (.inl (nI best)), some (.inl (nI m)), none], [.inl (nI m)], mU σ I A) := by
    intro m
    induction m with
    | zero =>
      intro best hm hb inv
      have eb : best = g := by
        rcases inv with ⟨-, e⟩ | ⟨h1, h2 | ⟨h2, h3⟩⟩
        · exact e
        · have : g = 0 := by omega
          rw [this] at h2
          exact absurd h2 (by rw [show pOn8 0 = 0 by decide]; omega)
        · omega
      subst eb
      first | refine gt0 rfl (by omega) (xN_ge (by omega)) ?_ | refine gt0 rfl (by omega) (xN_lt (by omega)) ?_ | refine gt0 rfl (by omega) (xN_eq (by omega)) ?_ | refine gt0 rfl (by omega) (xN_ne (by omega)) ?_ | refine gt0 rfl (by omega) (xN_gt (by omega)) ?_ | refine gt0 rfl (by omega) (xN_le (by omega)) ?_
      repeat (first | refine gkn rfl rfl ?_ | refine gkm rfl rfl ?_ | refine gad rfl ?_ | refine gml rfl ?_ | refine gsb rfl (by omega) ?_ | refine gdv rfl (by omega) (by omega) (by omega) ?_ | refine grm rfl (by omega) (by omega) (by omega) ?_ | refine gic rfl rfl ?_ | refine gp rfl rfl rfl ?_ | refine gFl rfl (by rfl) ?_ | refine gAl rfl rfl (by rfl) (by omega) ?_ | refine gBl rfl rfl (by rfl) (by omega) ?_)
      exact outer2 lo.length 0 0 A (Nat.zero_add _) (Nat.zero_le _) eG rfl (fun i' h => absurd h (Nat.not_lt_zero _)) (fun _ _ => rfl) (fun _ _ => rfl)
    | succ m ih =>
      intro best hm hb inv
      have next : ∀ best', best' < 2 ^ lo.length → ((m < g ∧ best' = g) ∨ (g ≤ m ∧ (pOn8 best' < pOn8 g ∨ (g = 0 ∧ best' = 0)))) → xGo (xEx (d + 1)) xtb_125 K (44, [some (.inr (some 52)), some (.inl (nI lo.length)), some (.inl (nI x)), some (.inl (nI lx.length)), some (.inl (nI to)), some (.inl (nI best')), some (.inl (nI (m + 1))), none], [], mU σ I A) := by
        intro best' hb' inv'
        refine gp rfl rfl (s' := (_, [_, _, _, _, _, _, some (.inl (nI (m + 1) + xk 1 1)), _], _, _)) rfl ?_
        rw [dI_dec]
        show xGo (xEx (d + 1)) xtb_125 K (47, [some (.inr (some 52)), some (.inl (nI lo.length)), some (.inl (nI x)), some (.inl (nI lx.length)), some (.inl (nI to)), some (.inl (nI best')), some (.inl (nI m)), none], [], mU σ I A)
        repeat (first | refine gkn rfl rfl ?_ | refine gkm rfl rfl ?_ | refine gad rfl ?_ | refine gml rfl ?_ | refine gsb rfl (by omega) ?_ | refine gdv rfl (by omega) (by omega) (by omega) ?_ | refine grm rfl (by omega) (by omega) (by omega) ?_ | refine gic rfl rfl ?_ | refine gp rfl rfl rfl ?_ | refine gFl rfl (by rfl) ?_ | refine gAl rfl rfl (by rfl) (by omega) ?_ | refine gBl rfl rfl (by rfl) (by omega) ?_)
        exact ih best' (by omega) hb' inv'
      have p8 : ∀ M, pOn8 M ≤ 8 := fun M => pCnt_le _ _
      have q1 := p8 (m + 1)
      have q2 := p8 best
      first | refine gf0 rfl (by omega) (nN_ge (by omega)) ?_ | refine gf0 rfl (by omega) (nN_lt (by omega)) ?_ | refine gf0 rfl (by omega) (nN_eq (by omega)) ?_ | refine gf0 rfl (by omega) (nN_ne (by omega)) ?_ | refine gf0 rfl (by omega) (nN_gt (by omega)) ?_ | refine gf0 rfl (by omega) (nN_le (by omega)) ?_
      repeat (first | refine gkn rfl rfl ?_ | refine gkm rfl rfl ?_ | refine gad rfl ?_ | refine gml rfl ?_ | refine gsb rfl (by omega) ?_ | refine gdv rfl (by omega) (by omega) (by omega) ?_ | refine grm rfl (by omega) (by omega) (by omega) ?_ | refine gic rfl rfl ?_ | refine gp rfl rfl rfl ?_ | refine gFl rfl (by rfl) ?_ | refine gAl rfl rfl (by rfl) (by omega) ?_ | refine gBl rfl rfl (by rfl) (by omega) ?_)
      refine gcs (As := [.inl (nI (m + 1))]) (rest := []) rfl (by decide) (r_ones d (by omega)) rfl rfl (by decide) ?_
      repeat (first | refine gkn rfl rfl ?_ | refine gkm rfl rfl ?_ | refine gad rfl ?_ | refine gml rfl ?_ | refine gsb rfl (by omega) ?_ | refine gdv rfl (by omega) (by omega) (by omega) ?_ | refine grm rfl (by omega) (by omega) (by omega) ?_ | refine gic rfl rfl ?_ | refine gp rfl rfl rfl ?_ | refine gFl rfl (by rfl) ?_ | refine gAl rfl rfl (by rfl) (by omega) ?_ | refine gBl rfl rfl (by rfl) (by omega) ?_)
      refine gcs (As := [.inl (nI best)]) (rest := [.inl (nI (pOn8 (m + 1)))]) rfl (by decide) (r_ones d (by omega)) rfl rfl (Nat.le_of_ble_eq_true rfl) ?_
      refine gcN (x := pOn8 (m + 1)) (y := pOn8 best) rfl (by omega) (by omega) (fun hle => ?_) (fun hgt => ?_)
      · have hle : pOn8 (m + 1) ≤ pOn8 best := hle
        refine next best hb ?_
        rcases inv with ⟨h1, h2⟩ | ⟨h1, h2⟩
        · exact Or.inl ⟨by omega, h2⟩
        · by_cases e : g = m + 1
          · exfalso
            rcases h2 with h2 | ⟨h2, -⟩
            · rw [← e] at hle; omega
            · omega
          · exact Or.inr ⟨by omega, h2⟩
      · have hgt : ¬ pOn8 (m + 1) ≤ pOn8 best := hgt
        repeat (first | refine gkn rfl rfl ?_ | refine gkm rfl rfl ?_ | refine gad rfl ?_ | refine gml rfl ?_ | refine gsb rfl (by omega) ?_ | refine gdv rfl (by omega) (by omega) (by omega) ?_ | refine grm rfl (by omega) (by omega) (by omega) ?_ | refine gic rfl rfl ?_ | refine gp rfl rfl rfl ?_ | refine gFl rfl (by rfl) ?_ | refine gAl rfl rfl (by rfl) (by omega) ?_ | refine gBl rfl rfl (by rfl) (by omega) ?_)
        refine gcv (As := [.inl (nI (m + 1)), .inl (nI lo.length), .inl (nI x), .inl (nI lx.length)]) (rest := []) rfl (by decide) (r_fits d h15 hlo0 hlx0 hn (by omega)) (mU_obj _ _ _) rfl rfl (by decide) ?_
        refine gbe rfl (fun hz => ?_) (fun hz => ?_)
        · refine next best hb ?_
          rcases inv with ⟨h1, h2⟩ | ⟨h1, h2⟩
          · exact Or.inl ⟨by omega, h2⟩
          · by_cases e : g = m + 1
            · rw [← e, hfit] at hz; cases hz
            · exact Or.inr ⟨by omega, h2⟩
        · obtain ⟨k1, k2⟩ := hbest (m + 1) hm hz
          refine gp rfl rfl rfl ?_
          refine gp rfl rfl rfl ?_
          refine next (m + 1) hm ?_
          rcases inv with ⟨h1, h2⟩ | ⟨h1, h2⟩
          · rw [h2] at hgt; omega
          · by_cases e : g = m + 1
            · exact Or.inl ⟨by omega, e.symm⟩
            · refine Or.inr ⟨by omega, Or.inl ?_⟩
              by_cases ee : pOn8 (m + 1) = pOn8 g
              · have := k2 ee; omega
              · omega
  have main : xGo (xEx (d + 1)) xtb_125 K (0, [some (.inr (some 52)), some (.inl (nI lo.length)), some (.inl (nI x)), some (.inl (nI lx.length)), some (.inl (nI to)), none, none, none], [], mU σ I A) := by
    have h1 : 1 ≤ 2 ^ lo.length := Nat.one_le_two_pow
    repeat (first | refine gkn rfl rfl ?_ | refine gkm rfl rfl ?_ | refine gad rfl ?_ | refine gml rfl ?_ | refine gsb rfl (by omega) ?_ | refine gdv rfl (by omega) (by omega) (by omega) ?_ | refine grm rfl (by omega) (by omega) (by omega) ?_ | refine gic rfl rfl ?_ | refine gp rfl rfl rfl ?_ | refine gFl rfl (by rfl) ?_ | refine gAl rfl rfl (by rfl) (by omega) ?_ | refine gBl rfl rfl (by rfl) (by omega) ?_)
    rw [shl_ok hn, pk_sub h1]
    refine search (2 ^ lo.length - 1) 0 (by omega) (by omega) (Or.inr ⟨by omega, ?_⟩)
    rcases Nat.eq_zero_or_pos g with e | e
    · exact Or.inr ⟨e, rfl⟩
    · have := mask_pos hn hg e
      refine Or.inl ?_
      rw [show pOn8 0 = 0 by decide]
      exact this
  obtain ⟨r, σ', hex, rfl, A', rfl, g⟩ := ex_of (d := d + 1) (y := 125) (as := [.inr (some 52), .inl (nI lo.length), .inl (nI x), .inl (nI lx.length), .inl (nI to)]) (σ := mU σ I A) (K := K) (by decide) rfl main
  exact ⟨A', hex, g⟩
end REF
