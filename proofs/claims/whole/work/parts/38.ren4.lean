/-! MODULE: renames of one side, the class: by score -/
abbrev pB : Type := Int32 × Option (Nat × Nat)
def rBq (B T : pT) (th : Int32) (R : pR) (p : Nat) (b : pB) (q : Nat) : pB := if rTL B T R q && decide (th ≤ pScore (B p) (T q)) && decide (b.1 < nI 2 * pScore (B p) (T q) + (if p % 8 = q % 8 then 1 else 0)) then (nI 2 * pScore (B p) (T q) + (if p % 8 = q % 8 then 1 else 0), some (p, q)) else b
def rBr (B T : pT) (th : Int32) (R : pR) (p : Nat) (b : pB) : Nat → pB
  | 0 => b
  | n + 1 => rBq B T th R p (rBr B T th R p b n) n
def rBp (B T : pT) (th : Int32) (R : pR) : Nat → pB
  | 0 => (-1, none)
  | n + 1 => if rSL B T R n then rBr B T th R n (rBp B T th R n) 64 else rBp B T th R n
def rBS (B T : pT) (th : Int32) (R : pR) : pR := match (rBp B T th R 64).2 with
  | some (p, q) => rJ R p q
  | none => R
def bok (b : pB) : Prop := ∀ p q, b.2 = some (p, q) → p < 64 ∧ q < 64
theorem rBq_ok {B T : pT} {th : Int32} {R : pR} {p q : Nat} {b : pB} (h : bok b) (hp : p < 64) (hq : q < 64) : bok (rBq B T th R p b q) := by
  unfold rBq
  generalize nI 2 * pScore (B p) (T q) + (if p % 8 = q % 8 then 1 else 0) = u
  split
  · intro p' q' he
    cases he
    exact ⟨hp, hq⟩
  · exact h
theorem rBr_ok {B T : pT} {th : Int32} {R : pR} {p : Nat} {b : pB} (h : bok b) (hp : p < 64) : ∀ n, n ≤ 64 → bok (rBr B T th R p b n)
  | 0, _ => h
  | n + 1, hn => rBq_ok (rBr_ok h hp n (by omega)) hp (by omega)
theorem rBp_ok {B T : pT} {th : Int32} {R : pR} : ∀ n, n ≤ 64 → bok (rBp B T th R n)
  | 0, _ => fun _ _ h => by cases h
  | n + 1, hn => by
    unfold rBp
    split
    · exact rBr_ok (rBp_ok n (by omega)) (by omega) 64 (by omega)
    · exact rBp_ok n (by omega)
theorem m_pairBest (d : Nat) {σ : xS} {a t u : Nat} {B T : pT} {R : pR} {th : Int32} (h : hRen σ a B T R) (hB : hT σ t B) (hTt : hT σ u T) (kB : pTok B) (kT : pTok T) (ha : 2 ≤ a ∧ a + 6 < 38) (ht : 38 ≤ t) (hu : 38 ≤ u) : ∃ σ', xEx (d + 3) 25 [.inr (some a), .inr (some t), .inr (some u), .inl th] σ none σ' ∧ hRen σ' a B T (rBS B T th R) ∧ hFr (a + 1) (a + 3) σ σ' := by
  have hR0 := h
  obtain ⟨h0, ft, fs, fl, h1, h2, h3, h4⟩ := h
  have h0 : σ.1 a = some (.inr (.inr (3, [.inr (some (a + 1)), .inr (some (a + 2)), .inr (some (a + 3)), .inr (some (a + 4)), .inr (some (a + 5)), .inr (some (a + 6))]))) := h0
  have ho1 := hB.obj
  have ho2 := hTt.obj
  have outer : ∀ k i, i + k = 64 → ∀ l8 l9 l10, xGo (xEx (d + 2)) xtb_25 (fun r0 σ0 => r0 = none ∧ hRen σ0 a B T (rBS B T th R) ∧ hFr (a + 1) (a + 3) σ σ0) (16, [some (.inr (some a)), some (.inr (some t)), some (.inr (some u)), some (.inl th), some (.inl (rBp B T th R i).1), some (.inl (oI ((rBp B T th R i).2.map Prod.fst))), some (.inl (oI ((rBp B T th R i).2.map Prod.snd))), some (.inl (nI i)), l8, l9, l10], [.inl (nI 64), .inl (nI i)], σ) := by
    intro k
    induction k with
    | zero =>
      intro i hi l8 l9 l10
      obtain rfl : i = 64 := by omega
      refine gct rfl (show nI 64 ≤ nI _ from nI_le (by omega) (by omega)) ?_
      repeat (first | refine gp rfl rfl rfl ?_ | refine ggf rfl (by assumption) (by rfl) ?_ | refine gal rfl (by assumption) (by rfl) (by omega) (by omega) ?_ | refine gil rfl (by assumption) (by rfl) (by omega) (by omega) ?_ | refine gbl rfl (by assumption) (by rfl) (by omega) (by omega) ?_ | refine gln rfl (xlen_i (by assumption)) ?_ | refine gln rfl (xlen_q (by assumption)) ?_)
      rw [xk_m1]
      have hok := rBp_ok (B := B) (T := T) (th := th) (R := R) 64 (by omega)
      cases hb : (rBp B T th R 64).2 with
      | none =>
        refine gct rfl (show (-1 : Int32) = -1 from rfl) ?_
        refine grv rfl ⟨rfl, ?_, hFr.refl _ _ _⟩
        unfold rBS
        rw [hb]
        exact hR0
      | some pq =>
        obtain ⟨p, q⟩ := pq
        obtain ⟨hp, hq⟩ := hok p q hb
        refine gcf rfl (show ¬ nI p = -1 from oI_ne (by omega)) ?_
        repeat (first | refine gp rfl rfl rfl ?_ | refine ggf rfl (by assumption) (by rfl) ?_ | refine gal rfl (by assumption) (by rfl) (by omega) (by omega) ?_ | refine gil rfl (by assumption) (by rfl) (by omega) (by omega) ?_ | refine gbl rfl (by assumption) (by rfl) (by omega) (by omega) ?_ | refine gln rfl (xlen_i (by assumption)) ?_ | refine gln rfl (xlen_q (by assumption)) ?_)
        rw [xk_m1]
        refine gcf rfl (show ¬ nI q = -1 from oI_ne (by omega)) ?_
        repeat (first | refine gp rfl rfl rfl ?_ | refine ggf rfl (by assumption) (by rfl) ?_ | refine gal rfl (by assumption) (by rfl) (by omega) (by omega) ?_ | refine gil rfl (by assumption) (by rfl) (by omega) (by omega) ?_ | refine gbl rfl (by assumption) (by rfl) (by omega) (by omega) ?_ | refine gln rfl (xlen_i (by assumption)) ?_ | refine gln rfl (xlen_q (by assumption)) ?_)
        obtain ⟨σ2, hex, hR2, hF2⟩ := m_pair (d + 1) hR0 hp hq ha.1
        refine gcv (As := [.inl (nI p), .inl (nI q)]) (rest := []) rfl (by decide) hex h0 rfl rfl (by decide) ?_
        refine grv rfl ⟨rfl, ?_, hF2⟩
        unfold rBS
        rw [hb]
        exact hR2
    | succ k ih =>
      intro i hi l8 l9 l10
      have hi64 : i < 64 := by omega
      refine gcf rfl (nI_ge (by omega) (by omega)) ?_
      have inner : ∀ k2 j, j + k2 = 64 → (rSL B T R i = false → j = 0) → ∀ l9 l10, xGo (xEx (d + 2)) xtb_25 (fun r0 σ0 => r0 = none ∧ hRen σ0 a B T (rBS B T th R) ∧ hFr (a + 1) (a + 3) σ σ0) (26, [some (.inr (some a)), some (.inr (some t)), some (.inr (some u)), some (.inl th), some (.inl (rBr B T th R i (rBp B T th R i) j).1), some (.inl (oI ((rBr B T th R i (rBp B T th R i) j).2.map Prod.fst))), some (.inl (oI ((rBr B T th R i (rBp B T th R i) j).2.map Prod.snd))), some (.inl (nI i)), some (.inl (nI j)), l9, l10], [.inl (nI 64), .inl (nI j)], σ) := by
        intro k2
        induction k2 with
        | zero =>
          intro j hj hs l9 l10
          obtain rfl : j = 64 := by omega
          refine gct rfl (show nI 64 ≤ nI _ from nI_le (by omega) (by omega)) ?_
          repeat (first | refine gp rfl rfl rfl ?_ | refine ggf rfl (by assumption) (by rfl) ?_ | refine gal rfl (by assumption) (by rfl) (by omega) (by omega) ?_ | refine gil rfl (by assumption) (by rfl) (by omega) (by omega) ?_ | refine gbl rfl (by assumption) (by rfl) (by omega) (by omega) ?_ | refine gln rfl (xlen_i (by assumption)) ?_ | refine gln rfl (xlen_q (by assumption)) ?_)
          rw [nI_s]
          have ih' := ih (i + 1) (by omega) (some (.inl (nI 64))) l9 l10
          have e : rBp B T th R (i + 1) = rBr B T th R i (rBp B T th R i) 64 := by
            rw [rBp]
            cases hsl : rSL B T R i with
            | true => rw [if_pos rfl]
            | false => exact absurd (hs hsl) (by omega)
          rw [e] at ih'
          exact ih'
        | succ k2 ih2 =>
          intro j hj hs l9 l10
          have hj64 : j < 64 := by omega
          refine gcf rfl (nI_ge (by omega) (by omega)) ?_
          repeat (first | refine gp rfl rfl rfl ?_ | refine ggf rfl (by assumption) (by rfl) ?_ | refine gal rfl (by assumption) (by rfl) (by omega) (by omega) ?_ | refine gil rfl (by assumption) (by rfl) (by omega) (by omega) ?_ | refine gbl rfl (by assumption) (by rfl) (by omega) (by omega) ?_ | refine gln rfl (xlen_i (by assumption)) ?_ | refine gln rfl (xlen_q (by assumption)) ?_)
          rw [(h4 i hi64).2.1]
          cases hsl : rSL B T R i with
          | false =>
            obtain rfl := hs hsl
            refine git rfl (show (0 : Int32) = 0 from rfl) ?_
            repeat (first | refine gp rfl rfl rfl ?_ | refine ggf rfl (by assumption) (by rfl) ?_ | refine gal rfl (by assumption) (by rfl) (by omega) (by omega) ?_ | refine gil rfl (by assumption) (by rfl) (by omega) (by omega) ?_ | refine gbl rfl (by assumption) (by rfl) (by omega) (by omega) ?_ | refine gln rfl (xlen_i (by assumption)) ?_ | refine gln rfl (xlen_q (by assumption)) ?_)
            rw [nI_s]
            have ih' := ih (i + 1) (by omega) (some (.inl (nI 0))) l9 l10
            have e : rBp B T th R (i + 1) = rBr B T th R i (rBp B T th R i) 0 := by
              rw [rBp, hsl, if_neg (by decide)]
              rfl
            rw [e] at ih'
            exact ih'
          | true =>
            refine giff rfl (fun h => absurd (show (1 : Int32) = 0 from h) (by decide)) ?_
            repeat (first | refine gp rfl rfl rfl ?_ | refine ggf rfl (by assumption) (by rfl) ?_ | refine gal rfl (by assumption) (by rfl) (by omega) (by omega) ?_ | refine gil rfl (by assumption) (by rfl) (by omega) (by omega) ?_ | refine gbl rfl (by assumption) (by rfl) (by omega) (by omega) ?_ | refine gln rfl (xlen_i (by assumption)) ?_ | refine gln rfl (xlen_q (by assumption)) ?_)
            rw [(h4 j hj64).2.2]
            have hstep : rBr B T th R i (rBp B T th R i) (j + 1) = rBq B T th R i (rBr B T th R i (rBp B T th R i) j) j := rfl
            have hsk : ∀ l9 l10, rBq B T th R i (rBr B T th R i (rBp B T th R i) j) j = rBr B T th R i (rBp B T th R i) j → xGo (xEx (d + 2)) xtb_25 (fun r0 σ0 => r0 = none ∧ hRen σ0 a B T (rBS B T th R) ∧ hFr (a + 1) (a + 3) σ σ0) (116, [some (.inr (some a)), some (.inr (some t)), some (.inr (some u)), some (.inl th), some (.inl (rBr B T th R i (rBp B T th R i) j).1), some (.inl (oI ((rBr B T th R i (rBp B T th R i) j).2.map Prod.fst))), some (.inl (oI ((rBr B T th R i (rBp B T th R i) j).2.map Prod.snd))), some (.inl (nI i)), some (.inl (nI j)), l9, l10], [], σ) := by
              intro l9 l10 he
              have ih' := ih2 (j + 1) (by omega) (fun z => by rw [hsl] at z; cases z) l9 l10
              rw [hstep, he] at ih'
              repeat (first | refine gp rfl rfl rfl ?_ | refine ggf rfl (by assumption) (by rfl) ?_ | refine gal rfl (by assumption) (by rfl) (by omega) (by omega) ?_ | refine gil rfl (by assumption) (by rfl) (by omega) (by omega) ?_ | refine gbl rfl (by assumption) (by rfl) (by omega) (by omega) ?_ | refine gln rfl (xlen_i (by assumption)) ?_ | refine gln rfl (xlen_q (by assumption)) ?_)
              rw [nI_s]
              exact ih'
            cases htl : rTL B T R j with
            | false =>
              refine git rfl (show (0 : Int32) = 0 from rfl) ?_
              exact hsk l9 l10 (by unfold rBq; rw [htl]; rfl)
            | true =>
              refine giff rfl (fun h => absurd (show (1 : Int32) = 0 from h) (by decide)) ?_
              repeat (first | refine gp rfl rfl rfl ?_ | refine ggf rfl (by assumption) (by rfl) ?_ | refine gal rfl (by assumption) (by rfl) (by omega) (by omega) ?_ | refine gil rfl (by assumption) (by rfl) (by omega) (by omega) ?_ | refine gbl rfl (by assumption) (by rfl) (by omega) (by omega) ?_ | refine gln rfl (xlen_i (by assumption)) ?_ | refine gln rfl (xlen_q (by assumption)) ?_)
              obtain ⟨q1, hq1, ho3⟩ := m_fileAtT d hB hi64
              refine gcv (As := [.inl (nI i)]) (rest := []) rfl (by decide) hq1 ho1 rfl rfl (by decide) ?_
              repeat (first | refine gp rfl rfl rfl ?_ | refine ggf rfl (by assumption) (by rfl) ?_ | refine gal rfl (by assumption) (by rfl) (by omega) (by omega) ?_ | refine gil rfl (by assumption) (by rfl) (by omega) (by omega) ?_ | refine gbl rfl (by assumption) (by rfl) (by omega) (by omega) ?_ | refine gln rfl (xlen_i (by assumption)) ?_ | refine gln rfl (xlen_q (by assumption)) ?_)
              obtain ⟨q2, hq2, ho4⟩ := m_fileAtT d hTt hj64
              refine gcv (As := [.inl (nI j)]) (rest := [.inr q1]) rfl (by decide) hq2 ho2 rfl rfl (Nat.le_of_ble_eq_true rfl) ?_
              refine gcs (As := [.inr q1, .inr q2]) (rest := []) rfl (by decide) (m_likeness d ho3 ho4 (kB i hi64) (kT j hj64)) rfl rfl (by decide) ?_
              repeat (first | refine gp rfl rfl rfl ?_ | refine ggf rfl (by assumption) (by rfl) ?_ | refine gal rfl (by assumption) (by rfl) (by omega) (by omega) ?_ | refine gil rfl (by assumption) (by rfl) (by omega) (by omega) ?_ | refine gbl rfl (by assumption) (by rfl) (by omega) (by omega) ?_ | refine gln rfl (xlen_i (by assumption)) ?_ | refine gln rfl (xlen_q (by assumption)) ?_)
              refine gcs (As := [.inl (nI i)]) (rest := [.inl (nI 2 * pScore (B i) (T j))]) rfl (by decide) (m_nameOf (d + 1) (by omega)) rfl rfl (Nat.le_of_ble_eq_true rfl) ?_
              repeat (first | refine gp rfl rfl rfl ?_ | refine ggf rfl (by assumption) (by rfl) ?_ | refine gal rfl (by assumption) (by rfl) (by omega) (by omega) ?_ | refine gil rfl (by assumption) (by rfl) (by omega) (by omega) ?_ | refine gbl rfl (by assumption) (by rfl) (by omega) (by omega) ?_ | refine gln rfl (xlen_i (by assumption)) ?_ | refine gln rfl (xlen_q (by assumption)) ?_)
              refine gcs (As := [.inl (nI j)]) (rest := [.inl (nI (i % 8)), .inl (nI 2 * pScore (B i) (T j))]) rfl (by decide) (m_nameOf (d + 1) (by omega)) rfl rfl (Nat.le_of_ble_eq_true rfl) ?_
              have hfin : ∀ bn : Int32, (if i % 8 = j % 8 then (1 : Int32) else 0) = bn → xGo (xEx (d + 2)) xtb_25 (fun r0 σ0 => r0 = none ∧ hRen σ0 a B T (rBS B T th R) ∧ hFr (a + 1) (a + 3) σ σ0) (88, [some (.inr (some a)), some (.inr (some t)), some (.inr (some u)), some (.inl th), some (.inl (rBr B T th R i (rBp B T th R i) j).1), some (.inl (oI ((rBr B T th R i (rBp B T th R i) j).2.map Prod.fst))), some (.inl (oI ((rBr B T th R i (rBp B T th R i) j).2.map Prod.snd))), some (.inl (nI i)), some (.inl (nI j)), some (.inl (pScore (B i) (T j))), l10], [.inl bn, .inl (nI 2 * pScore (B i) (T j))], σ) := by
                intro bn hbn
                repeat (first | refine gp rfl rfl rfl ?_ | refine ggf rfl (by assumption) (by rfl) ?_ | refine gal rfl (by assumption) (by rfl) (by omega) (by omega) ?_ | refine gil rfl (by assumption) (by rfl) (by omega) (by omega) ?_ | refine gbl rfl (by assumption) (by rfl) (by omega) (by omega) ?_ | refine gln rfl (xlen_i (by assumption)) ?_ | refine gln rfl (xlen_q (by assumption)) ?_)
                refine gcp rfl (fun hlt => ?_) (fun hge => ?_)
                · exact hsk _ _ (by unfold rBq; rw [decide_eq_false (Int32.not_le.mpr hlt)]; simp)
                · have hge : th ≤ pScore (B i) (T j) := Int32.not_lt.mp hge
                  repeat (first | refine gp rfl rfl rfl ?_ | refine ggf rfl (by assumption) (by rfl) ?_ | refine gal rfl (by assumption) (by rfl) (by omega) (by omega) ?_ | refine gil rfl (by assumption) (by rfl) (by omega) (by omega) ?_ | refine gbl rfl (by assumption) (by rfl) (by omega) (by omega) ?_ | refine gln rfl (xlen_i (by assumption)) ?_ | refine gln rfl (xlen_q (by assumption)) ?_)
                  refine gcp rfl (fun hle => ?_) (fun hgt => ?_)
                  · exact hsk _ _ (by unfold rBq; rw [hbn, decide_eq_false (Int32.not_lt.mpr hle)]; simp)
                  · have hgt : (rBr B T th R i (rBp B T th R i) j).1 < nI 2 * pScore (B i) (T j) + bn := Int32.not_le.mp hgt
                    have ih' := ih2 (j + 1) (by omega) (fun z => by rw [hsl] at z; cases z) (some (.inl (pScore (B i) (T j)))) (some (.inl (nI 2 * pScore (B i) (T j) + bn)))
                    have e : rBq B T th R i (rBr B T th R i (rBp B T th R i) j) j = (nI 2 * pScore (B i) (T j) + bn, some (i, j)) := by
                      unfold rBq
                      rw [hbn, htl, decide_eq_true hge, decide_eq_true hgt]
                      rfl
                    rw [hstep, e] at ih'
                    repeat (first | refine gp rfl rfl rfl ?_ | refine ggf rfl (by assumption) (by rfl) ?_ | refine gal rfl (by assumption) (by rfl) (by omega) (by omega) ?_ | refine gil rfl (by assumption) (by rfl) (by omega) (by omega) ?_ | refine gbl rfl (by assumption) (by rfl) (by omega) (by omega) ?_ | refine gln rfl (xlen_i (by assumption)) ?_ | refine gln rfl (xlen_q (by assumption)) ?_)
                    rw [nI_s]
                    exact ih'
              refine gcp rfl (fun hne => ?_) (fun heq => ?_)
              · have hne : ¬ i % 8 = j % 8 := fun z => hne (show nI (i % 8) = nI (j % 8) by rw [z])
                refine gp rfl rfl rfl ?_
                exact hfin 0 (by rw [if_neg hne])
              · have heq : i % 8 = j % 8 := by
                  by_cases hz : nI (i % 8) = nI (j % 8)
                  · exact (nI_eq (by omega) (by omega)).mp hz
                  · exact absurd hz heq
                refine gp rfl rfl rfl ?_
                refine gp rfl rfl rfl ?_
                exact hfin 1 (by rw [if_pos heq])
      repeat (first | refine gp rfl rfl rfl ?_ | refine ggf rfl (by assumption) (by rfl) ?_ | refine gal rfl (by assumption) (by rfl) (by omega) (by omega) ?_ | refine gil rfl (by assumption) (by rfl) (by omega) (by omega) ?_ | refine gbl rfl (by assumption) (by rfl) (by omega) (by omega) ?_ | refine gln rfl (xlen_i (by assumption)) ?_ | refine gln rfl (xlen_q (by assumption)) ?_)
      exact inner 64 0 (by omega) (fun _ => rfl) l9 l10
  obtain ⟨r, σ', hex, rfl, h1, h2⟩ := ex_of (d := d + 2) (y := 25) (as := [.inr (some a), .inr (some t), .inr (some u), .inl th]) (σ := σ) (K := fun r0 σ0 => r0 = none ∧ hRen σ0 a B T (rBS B T th R) ∧ hFr (a + 1) (a + 3) σ σ0) (by decide) rfl (by
    show xGo (xEx (d + 2)) xtb_25 _ (0, [some (.inr (some a)), some (.inr (some t)), some (.inr (some u)), some (.inl th), none, none, none, none, none, none, none], [], σ)
    repeat (first | refine gp rfl rfl rfl ?_ | refine ggf rfl (by assumption) (by rfl) ?_ | refine gal rfl (by assumption) (by rfl) (by omega) (by omega) ?_ | refine gil rfl (by assumption) (by rfl) (by omega) (by omega) ?_ | refine gbl rfl (by assumption) (by rfl) (by omega) (by omega) ?_ | refine gln rfl (xlen_i (by assumption)) ?_ | refine gln rfl (xlen_q (by assumption)) ?_)
    have := outer 64 0 rfl none none none
    exact this)
  exact ⟨σ', hex, h1, h2⟩
