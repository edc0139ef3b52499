/-! MODULE: the reference: where files are wanted, where they stand -/
def wI (o : pP) : Int32 := match o with
  | some (some y) => nI y
  | _ => -1
theorem wI_lt0 {o : pP} (h : ∀ y, o = some (some y) → y < 64) : wI o < 0 ↔ ∀ y, o ≠ some (some y) := by
  match o, h with
  | none, _ => exact ⟨fun _ y z => (by cases z), fun _ => by decide⟩
  | some none, _ => exact ⟨fun _ y z => (by cases z), fun _ => by decide⟩
  | some (some y), h => exact ⟨fun z => absurd z (nI_pos (by have := h y rfl; omega)), fun z => absurd rfl (z y)⟩
def mPl (A : Nat → Nat → Int32) (P : Nat → Nat → pP) : Prop := (∀ s f, (s = 1 ∨ s = 2) → f < 8 → A 59 (8 * (s - 1) + f) = plI (P s f)) ∧ ∀ s, plOk (P s)
/-- where the files of side t are wanted -/
def tW (W : Nat → pT) (P : Nat → Nat → pP) (t : Nat) : Nat → pP := sW (W 0) (W t) (P (3 - t)) (P t)
theorem tW_lt {W : Nat → pT} {P : Nat → Nat → pP} {t p y : Nat} (h : ∀ s, plOk (P s)) (hp : p < 64) (e : tW W P t p = some (some y)) : y < 64 := sW_lt (h (3 - t)) hp e
section REF
variable {σ : xS} {I : Nat → Int32} {A : Nat → Nat → Int32} {W : Nat → pT} {P : Nat → Nat → pP} {t : Nat}
theorem r_wanted (d : Nat) {x : Nat} (h : mV A W) (hP : mPl A P) (ht : t = 1 ∨ t = 2) (hx : x < 64) : xEx (d + 2) 116 [.inr (some 52), .inl (nI t), .inl (nI x)] (mU σ I A) (some (.inl (wI (tW W P t x)))) (mU σ I A) := by
  obtain ⟨hp1, hp2⟩ := hP
  refine ⟨by decide, rfl, ?_⟩
  show xGo (xEx (d + 1)) xtb_116 _ (0, [some (.inr (some 52)), some (.inl (nI t)), some (.inl (nI x)), none], [], mU σ I A)
  unfold tW sW
  repeat (first | refine gkn rfl rfl ?_ | refine gkm rfl rfl ?_ | refine gad rfl ?_ | refine gml rfl ?_ | refine gsb rfl (by omega) ?_ | refine gdv rfl (by omega) (by omega) (by omega) ?_ | refine grm rfl (by omega) (by omega) (by omega) ?_ | refine gic rfl rfl ?_ | refine gp rfl rfl rfl ?_ | refine gFl rfl (by rfl) ?_ | refine gAl rfl rfl (by rfl) (by omega) ?_ | refine gBl rfl rfl (by rfl) (by omega) ?_)
  refine gcv (As := [.inl (nI t), .inl (nI x)]) (rest := []) rfl (by decide) (r_has d h (by omega) hx) (mU_obj _ _ _) rfl rfl (by decide) ?_
  refine gbe rfl (fun hz => ?_) (fun hz => ?_)
  · rw [hz]
    repeat (first | refine gkn rfl rfl ?_ | refine gkm rfl rfl ?_ | refine gad rfl ?_ | refine gml rfl ?_ | refine gsb rfl (by omega) ?_ | refine gdv rfl (by omega) (by omega) (by omega) ?_ | refine grm rfl (by omega) (by omega) (by omega) ?_ | refine gic rfl rfl ?_ | refine gp rfl rfl rfl ?_ | refine gFl rfl (by rfl) ?_ | refine gAl rfl rfl (by rfl) (by omega) ?_ | refine gBl rfl rfl (by rfl) (by omega) ?_)
    exact gri rfl (fun h => absurd h (by decide)) ⟨rfl, rfl⟩
  · rw [hz]
    repeat (first | refine gkn rfl rfl ?_ | refine gkm rfl rfl ?_ | refine gad rfl ?_ | refine gml rfl ?_ | refine gsb rfl (by omega) ?_ | refine gdv rfl (by omega) (by omega) (by omega) ?_ | refine grm rfl (by omega) (by omega) (by omega) ?_ | refine gic rfl rfl ?_ | refine gp rfl rfl rfl ?_ | refine gFl rfl (by rfl) ?_ | refine gAl rfl rfl (by rfl) (by omega) ?_ | refine gBl rfl rfl (by rfl) (by omega) ?_)
    refine gcv (As := [.inl (nI 0), .inl (nI x)]) (rest := []) rfl (by decide) (r_has d h (by decide) hx) (mU_obj _ _ _) rfl rfl (by decide) ?_
    cases hw : W 0 x with
    | some F =>
      refine gbe rfl (fun z => by cases z) (fun _ => ?_)
      repeat (first | refine gkn rfl rfl ?_ | refine gkm rfl rfl ?_ | refine gad rfl ?_ | refine gml rfl ?_ | refine gsb rfl (by omega) ?_ | refine gdv rfl (by omega) (by omega) (by omega) ?_ | refine grm rfl (by omega) (by omega) (by omega) ?_ | refine gic rfl rfl ?_ | refine gp rfl rfl rfl ?_ | refine gFl rfl (by rfl) ?_ | refine gAl rfl rfl (by rfl) (by omega) ?_ | refine gBl rfl rfl (by rfl) (by omega) ?_)
      exact gri rfl (fun h => absurd h (by decide)) ⟨rfl, rfl⟩
    | none =>
      refine gbe rfl (fun _ => ?_) (fun z => by cases z)
      repeat (first | refine gkn rfl rfl ?_ | refine gkm rfl rfl ?_ | refine gad rfl ?_ | refine gml rfl ?_ | refine gsb rfl (by omega) ?_ | refine gdv rfl (by omega) (by omega) (by omega) ?_ | refine grm rfl (by omega) (by omega) (by omega) ?_ | refine gic rfl rfl ?_ | refine gp rfl rfl rfl ?_ | refine gFl rfl (by rfl) ?_ | refine gAl rfl rfl (by rfl) (by omega) ?_ | refine gBl rfl rfl (by rfl) (by omega) ?_)
      have e2 := hp1 (3 - t) (x / 8) (by omega) (by omega)
      rw [show 8 * (3 - t - 1) + x / 8 = 8 * (2 - t) + x / 8 by omega] at e2
      rw [e2]
      have ok2 := hp2 (3 - t) (x / 8)
      show xGo (xEx (d + 1)) xtb_116 (fun r0 σ0 => r0 = some (.inl (wI (match P (3 - t) (x / 8) with
        | some none => some none
        | some (some e) => (match P t e with
          | some (some _) => none
          | _ => some (some (e * 8 + x % 8)))
        | none => none))) ∧ σ0 = mU σ I A) _
      generalize P (3 - t) (x / 8) = o at *
      match o, ok2 with
      | none, _ =>
        refine git rfl (show (-1 : Int32) < 0 by decide) ?_
        repeat (first | refine gkn rfl rfl ?_ | refine gkm rfl rfl ?_ | refine gad rfl ?_ | refine gml rfl ?_ | refine gsb rfl (by omega) ?_ | refine gdv rfl (by omega) (by omega) (by omega) ?_ | refine grm rfl (by omega) (by omega) (by omega) ?_ | refine gic rfl rfl ?_ | refine gp rfl rfl rfl ?_ | refine gFl rfl (by rfl) ?_ | refine gAl rfl rfl (by rfl) (by omega) ?_ | refine gBl rfl rfl (by rfl) (by omega) ?_)
        exact gri rfl (fun h => absurd h (by decide)) ⟨rfl, rfl⟩
      | some none, _ =>
        refine git rfl (show (-2 : Int32) < 0 by decide) ?_
        repeat (first | refine gkn rfl rfl ?_ | refine gkm rfl rfl ?_ | refine gad rfl ?_ | refine gml rfl ?_ | refine gsb rfl (by omega) ?_ | refine gdv rfl (by omega) (by omega) (by omega) ?_ | refine grm rfl (by omega) (by omega) (by omega) ?_ | refine gic rfl rfl ?_ | refine gp rfl rfl rfl ?_ | refine gFl rfl (by rfl) ?_ | refine gAl rfl rfl (by rfl) (by omega) ?_ | refine gBl rfl rfl (by rfl) (by omega) ?_)
        exact gri rfl (fun h => absurd h (by decide)) ⟨rfl, rfl⟩
      | some (some e), ok2 =>
        have he : e < 8 := ok2 e (by omega) rfl
        refine gf0 rfl (show e < 2147483648 by omega) (by simp only [xcN]; omega) ?_
        refine gp rfl rfl rfl ?_
        repeat (first | refine gkn rfl rfl ?_ | refine gkm rfl rfl ?_ | refine gad rfl ?_ | refine gml rfl ?_ | refine gsb rfl (by omega) ?_ | refine gdv rfl (by omega) (by omega) (by omega) ?_ | refine grm rfl (by omega) (by omega) (by omega) ?_ | refine gic rfl rfl ?_ | refine gp rfl rfl rfl ?_ | refine gFl rfl (by rfl) ?_ | refine gAl rfl rfl (by rfl) (by omega) ?_ | refine gBl rfl rfl (by rfl) (by omega) ?_)
        rw [hp1 t e ht he]
        have ok3 := hp2 t e
        have goalE : ∀ v : Int32, v = wI (match P t e with
            | some (some _) => none
            | _ => some (some (e * 8 + x % 8))) → (some (Sum.inl v) : Option xV) = some (Sum.inl (wI (match some (some e) with
        | some none => some none
        | some (some e) => (match P t e with
          | some (some _) => none
          | _ => some (some (e * 8 + x % 8)))
        | none => none))) := fun v hv => by rw [hv]
        generalize P t e = o2 at ok3 goalE ⊢
        match o2, ok3, goalE with
        | none, _, goalE =>
          refine giff rfl (show ¬ (0 : Int32) ≤ -1 by decide) ?_
          refine gkn rfl rfl ?_
          refine gp rfl rfl (s' := (_, _, [.inl (nI e), .inl (nI 8)], _)) rfl ?_
          repeat (first | refine gkn rfl rfl ?_ | refine gkm rfl rfl ?_ | refine gad rfl ?_ | refine gml rfl ?_ | refine gsb rfl (by omega) ?_ | refine gdv rfl (by omega) (by omega) (by omega) ?_ | refine grm rfl (by omega) (by omega) (by omega) ?_ | refine gic rfl rfl ?_ | refine gp rfl rfl rfl ?_ | refine gFl rfl (by rfl) ?_ | refine gAl rfl rfl (by rfl) (by omega) ?_ | refine gBl rfl rfl (by rfl) (by omega) ?_)
          refine gri rfl (fun h => absurd h (by decide)) ⟨goalE _ ?_, rfl⟩
          show nI (8 * e + x % 8) = nI (e * 8 + x % 8)
          rw [Nat.mul_comm]
        | some none, _, goalE =>
          refine giff rfl (show ¬ (0 : Int32) ≤ -2 by decide) ?_
          refine gkn rfl rfl ?_
          refine gp rfl rfl (s' := (_, _, [.inl (nI e), .inl (nI 8)], _)) rfl ?_
          repeat (first | refine gkn rfl rfl ?_ | refine gkm rfl rfl ?_ | refine gad rfl ?_ | refine gml rfl ?_ | refine gsb rfl (by omega) ?_ | refine gdv rfl (by omega) (by omega) (by omega) ?_ | refine grm rfl (by omega) (by omega) (by omega) ?_ | refine gic rfl rfl ?_ | refine gp rfl rfl rfl ?_ | refine gFl rfl (by rfl) ?_ | refine gAl rfl rfl (by rfl) (by omega) ?_ | refine gBl rfl rfl (by rfl) (by omega) ?_)
          refine gri rfl (fun h => absurd h (by decide)) ⟨goalE _ ?_, rfl⟩
          show nI (8 * e + x % 8) = nI (e * 8 + x % 8)
          rw [Nat.mul_comm]
        | some (some e'), ok3, goalE =>
          have he' : e' < 8 := ok3 e' he rfl
          refine gt0 rfl (show e' < 2147483648 by omega) (by simp only [xcN]; omega) ?_
          repeat (first | refine gkn rfl rfl ?_ | refine gkm rfl rfl ?_ | refine gad rfl ?_ | refine gml rfl ?_ | refine gsb rfl (by omega) ?_ | refine gdv rfl (by omega) (by omega) (by omega) ?_ | refine grm rfl (by omega) (by omega) (by omega) ?_ | refine gic rfl rfl ?_ | refine gp rfl rfl rfl ?_ | refine gFl rfl (by rfl) ?_ | refine gAl rfl rfl (by rfl) (by omega) ?_ | refine gBl rfl rfl (by rfl) (by omega) ?_)
          exact gri rfl (fun h => absurd h (by decide)) ⟨goalE _ rfl, rfl⟩
/-- somewhere else, too -/
theorem pCnt_two {Q : Nat → Bool} {x : Nat} (hx : Q x = true) : ∀ {n : Nat}, (x < n → (1 < pCnt Q n ↔ pAny (fun z => !decide (z = x) && Q z) n = true)) ∧ (n ≤ x → (0 < pCnt Q n ↔ pAny (fun z => !decide (z = x) && Q z) n = true))
  | 0 => ⟨fun h => by omega, fun _ => by simp [pCnt, pAny]⟩
  | n + 1 => by
    obtain ⟨h1, h2⟩ := pCnt_two hx (n := n)
    refine ⟨fun h => ?_, fun h => ?_⟩
    · rw [pCnt_s, pAny_s]
      by_cases e : n = x
      · subst e
        have := h2 (Nat.le_refl _)
        rw [hx]
        simp only [decide_true, Bool.not_true, Bool.false_and, Bool.or_false, if_true]
        rw [← this]
        omega
      · have := h1 (by omega)
        have e3 : (decide (n = x)) = false := decide_eq_false e
        simp only [e3, Bool.not_false, Bool.true_and]
        cases hq : Q n with
        | true =>
          simp only [Bool.or_true, if_true, iff_true]
          have hp : 0 < pCnt Q n := by
            have hm : ∀ m, x < m → 0 < pCnt Q m := by
              intro m
              induction m with
              | zero => intro z; omega
              | succ m ihm =>
                intro z
                rw [pCnt_s]
                by_cases e4 : m = x
                · rw [e4, hx]; simp
                · have := ihm (by omega); omega
            exact hm n (by omega)
          omega
        | false =>
          simp only [Bool.or_false]
          rw [← this]
          simp
    · rw [pCnt_s, pAny_s]
      have := h2 (by omega)
      have e3 : (decide (n = x)) = false := decide_eq_false (by omega)
      simp only [e3, Bool.not_false, Bool.true_and]
      cases hq : Q n with
      | true => simp
      | false =>
        simp only [Bool.or_false]
        rw [← this]
        simp
/-- where the files of side t stand; whether a conflict comes of it -/
def tS (W : Nat → pT) (P : Nat → Nat → pP) (t : Nat) : Nat → Option Nat := sSt (W 0) (W t) (W (3 - t)) (tW W P t)
def tC (W : Nat → pT) (P : Nat → Nat → pP) (t : Nat) : Nat → Bool := sCf (W 0) (W t) (W (3 - t)) (tW W P t)
theorem r_settle (d : Nat) {x : Nat} (h : mV A W) (hP : mPl A P) (ht : t = 1 ∨ t = 2) (hx : x < 64) : ∃ A', xEx (d + 3) 115 [.inr (some 52), .inl (nI t), .inl (nI x)] (mU σ I A) none (mU σ I A') ∧ A' 58 = upd (A 58) (64 * (t - 1) + x) (oI (tS W P t x)) ∧ A' 60 = upd (A 60) x (if tC W P t x then A 60 x ||| nI 128 else A 60 x) ∧ ∀ k, k ≠ 58 → k ≠ 60 → A' k = A k := by
  obtain ⟨hp1, hp2⟩ := id hP
  let K : Option xV → xS → Prop := fun r0 σ0 => r0 = none ∧ ∃ A', σ0 = mU σ I A' ∧ A' 58 = upd (A 58) (64 * (t - 1) + x) (oI (tS W P t x)) ∧ A' 60 = upd (A 60) x (if tC W P t x then A 60 x ||| nI 128 else A 60 x) ∧ ∀ k, k ≠ 58 → k ≠ 60 → A' k = A k
  have hu : ∀ f : Nat → Int32, ∀ j, upd f j (f j) = f := fun f j => by
    funext z
    unfold upd
    by_cases e : z = j
    · rw [if_pos e, e]
    · rw [if_neg e]
  have last : ∀ (v : Int32) (B : Nat → Nat → Int32) (ls : xL), v = oI (tS W P t x) → B 60 = upd (A 60) x (if tC W P t x then A 60 x ||| nI 128 else A 60 x) → (∀ k, k ≠ 60 → B k = A k) → xGo (xEx (d + 2)) xtb_115 K (208, ls, [.inl v, .inl (nI (64 * (t - 1) + x)), .inr (some 58)], mU σ I B) := by
    intro v B ls hv hB1 hB2
    refine gAs rfl rfl rfl (by omega) ?_
    refine grv rfl ⟨rfl, _, rfl, ?_, ?_, fun k a b => ?_⟩
    · rw [aU_eq, hB2 58 (by decide), hv]
    · rw [aU_ne (by decide), hB1]
    · rw [aU_ne a, hB2 k b]
  have stage3 : ∀ (B : Nat → Nat → Int32) (at' : Nat) (y z u v : Option xV), mV B W → (tS W P t x = if (W t x).isSome then some at' else none) → B 60 = upd (A 60) x (if tC W P t x then A 60 x ||| nI 128 else A 60 x) → (∀ k, k ≠ 60 → B k = A k) → xGo (xEx (d + 2)) xtb_115 K (182, [some (.inr (some 52)), some (.inl (nI t)), some (.inl (nI x)), some (.inl (nI at')), y, z, u, v], [], mU σ I B) := by
    intro B at' y z u v hV hS hB1 hB2
    repeat (first | refine gkn rfl rfl ?_ | refine gkm rfl rfl ?_ | refine gad rfl ?_ | refine gml rfl ?_ | refine gsb rfl (by omega) ?_ | refine gdv rfl (by omega) (by omega) (by omega) ?_ | refine grm rfl (by omega) (by omega) (by omega) ?_ | refine gic rfl rfl ?_ | refine gp rfl rfl rfl ?_ | refine gFl rfl (by rfl) ?_ | refine gAl rfl rfl (by rfl) (by omega) ?_ | refine gBl rfl rfl (by rfl) (by omega) ?_)
    refine gcv (As := [.inl (nI t), .inl (nI x)]) (rest := [.inl (nI (64 * (t - 1) + x)), .inr (some 58)]) rfl (by decide) (r_has (d + 1) hV (by omega) hx) (mU_obj _ _ _) rfl rfl (Nat.le_of_ble_eq_true rfl) ?_
    refine gbe rfl (fun hz => ?_) (fun hz => ?_)
    · refine gkm rfl rfl ?_
      refine last _ _ _ ?_ hB1 hB2
      rw [hS, hz]
      rfl
    · refine gp rfl rfl rfl ?_
      refine gp rfl rfl rfl ?_
      refine last _ _ _ ?_ hB1 hB2
      rw [hS, hz]
      rfl
  have mark : ∀ (y z u v : Option xV), tC W P t x = true → (tS W P t x = if (W t x).isSome then some x else none) → xGo (xEx (d + 2)) xtb_115 K (159, [some (.inr (some 52)), some (.inl (nI t)), some (.inl (nI x)), some (.inl (nI x)), y, z, u, v], [], mU σ I A) := by
    intro y z u v hc hS
    repeat (first | refine gkn rfl rfl ?_ | refine gkm rfl rfl ?_ | refine gad rfl ?_ | refine gml rfl ?_ | refine gsb rfl (by omega) ?_ | refine gdv rfl (by omega) (by omega) (by omega) ?_ | refine grm rfl (by omega) (by omega) (by omega) ?_ | refine gic rfl rfl ?_ | refine gp rfl rfl rfl ?_ | refine gFl rfl (by rfl) ?_ | refine gAl rfl rfl (by rfl) (by omega) ?_ | refine gBl rfl rfl (by rfl) (by omega) ?_)
    refine gAs rfl rfl rfl (by omega) ?_
    refine gp rfl rfl rfl ?_
    refine stage3 _ x _ _ _ _ (h.of (fun k hk => aU_ne (by omega))) hS ?_ (fun k hk => aU_ne hk)
    rw [aU_eq, hc]
    rfl
  have free : ∀ (at' : Nat) (y z u v : Option xV), tC W P t x = false → (tS W P t x = if (W t x).isSome then some at' else none) → xGo (xEx (d + 2)) xtb_115 K (182, [some (.inr (some 52)), some (.inl (nI t)), some (.inl (nI x)), some (.inl (nI at')), y, z, u, v], [], mU σ I A) := by
    intro at' y z u v hc hS
    refine stage3 A at' _ _ _ _ h hS ?_ (fun k hk => rfl)
    rw [hc]
    exact (hu (A 60) x).symm
  have tCe : tC W P t x = match tW W P t x with
      | some (some y) => sHi (W 0) (W t) (W (3 - t)) (tW W P t) y
      | some none => true
      | none => false := rfl
  have tSe : tS W P t x = match tW W P t x with
      | some (some y) => if sHi (W 0) (W t) (W (3 - t)) (tW W P t) y then (if (W t x).isSome then some x else none) else some y
      | _ => if (W t x).isSome then some x else none := rfl
  have tWs : ∀ y, tW W P t x = some y → (W t x).isSome = true ∧ (W 0 x).isNone = true := by
    intro y hy
    unfold tW sW at hy
    cases h1 : ((W t x).isSome && (W 0 x).isNone) with
    | true => rw [Bool.and_eq_true] at h1; exact h1
    | false => rw [h1] at hy; cases hy
  have tW2 : tW W P t x = some none ↔ (W t x).isSome = true ∧ (W 0 x).isSome = false ∧ P (3 - t) (x / 8) = some none := by
    unfold tW sW
    cases h1 : (W t x).isSome with
    | false => simp
    | true =>
      cases h2 : W 0 x with
      | some F => simp
      | none =>
        simp only [Option.isNone_none, Bool.and_self, if_true, Option.isSome_none, true_and]
        cases h3 : P (3 - t) (x / 8) with
        | none => simp
        | some o =>
          cases o with
          | none => simp
          | some e =>
            simp only [Option.some.injEq, reduceCtorEq, iff_false]
            intro z
            split at z <;> cases z
  have stage2 : ∀ sp : Bool, (sp = true ↔ tW W P t x = some none) → ∀ hi0 : Bool, (∀ y, tW W P t x = some (some y) → hi0 = ((W 0 y).isSome || (W 1 y).isSome || (W 2 y).isSome)) → ((∀ y, tW W P t x ≠ some (some y)) → hi0 = false) → xGo (xEx (d + 2)) xtb_115 K (96, [some (.inr (some 52)), some (.inl (nI t)), some (.inl (nI x)), some (.inl (nI x)), some (.inl (wI (tW W P t x))), some (.inl (bI sp)), none, none], [.inl (bI hi0)], mU σ I A) := by
    intro sp hsp hi0 hh1 hh2
    have loop : ∀ k i, i + k = 64 → xGo (xEx (d + 2)) xtb_115 K (105, [some (.inr (some 52)), some (.inl (nI t)), some (.inl (nI x)), some (.inl (nI x)), some (.inl (wI (tW W P t x))), some (.inl (bI sp)), some (.inl (bI (hi0 || pAny (fun z => !decide (z = x) && (decide (wI (tW W P t z) = wI (tW W P t x)) && !decide (wI (tW W P t x) < 0))) i))), some (.inl (nI i))], [.inl (nI 64), .inl (nI i)], mU σ I A) := by
      intro k
      induction k with
      | zero =>
        intro i hi
        obtain rfl : i = 64 := by omega
        first | refine gtN rfl (by omega) (by omega) (xN_ge (by omega)) ?_ | refine gtN rfl (by omega) (by omega) (xN_lt (by omega)) ?_ | refine gtN rfl (by omega) (by omega) (xN_eq (by omega)) ?_ | refine gtN rfl (by omega) (by omega) (xN_ne (by omega)) ?_ | refine gtN rfl (by omega) (by omega) (xN_gt (by omega)) ?_ | refine gtN rfl (by omega) (by omega) (xN_le (by omega)) ?_
        repeat (first | refine gkn rfl rfl ?_ | refine gkm rfl rfl ?_ | refine gad rfl ?_ | refine gml rfl ?_ | refine gsb rfl (by omega) ?_ | refine gdv rfl (by omega) (by omega) (by omega) ?_ | refine grm rfl (by omega) (by omega) (by omega) ?_ | refine gic rfl rfl ?_ | refine gp rfl rfl rfl ?_ | refine gFl rfl (by rfl) ?_ | refine gAl rfl rfl (by rfl) (by omega) ?_ | refine gBl rfl rfl (by rfl) (by omega) ?_)
        refine gbn rfl (fun hz => ?_) (fun hz => ?_)
        · have e := hsp.mp hz
          refine mark _ _ _ _ ?_ ?_
          · rw [tCe, e]
          · rw [tSe, e]
        · have ne : tW W P t x ≠ some none := fun z => by rw [hsp.mpr z] at hz; cases hz
          repeat (first | refine gkn rfl rfl ?_ | refine gkm rfl rfl ?_ | refine gad rfl ?_ | refine gml rfl ?_ | refine gsb rfl (by omega) ?_ | refine gdv rfl (by omega) (by omega) (by omega) ?_ | refine grm rfl (by omega) (by omega) (by omega) ?_ | refine gic rfl rfl ?_ | refine gp rfl rfl rfl ?_ | refine gFl rfl (by rfl) ?_ | refine gAl rfl rfl (by rfl) (by omega) ?_ | refine gBl rfl rfl (by rfl) (by omega) ?_)
          cases hw : tW W P t x with
          | none =>
            rw [hh2 (fun y z => by rw [hw] at z; cases z), pAny_congr (Q := fun _ => false) (fun z hz => by rw [show wI none = -1 from rfl]; simp), show pAny (fun _ => false) 64 = false by decide]
            refine gbe rfl (fun _ => ?_) (fun z => by cases z)
            repeat (first | refine gkn rfl rfl ?_ | refine gkm rfl rfl ?_ | refine gad rfl ?_ | refine gml rfl ?_ | refine gsb rfl (by omega) ?_ | refine gdv rfl (by omega) (by omega) (by omega) ?_ | refine grm rfl (by omega) (by omega) (by omega) ?_ | refine gic rfl rfl ?_ | refine gp rfl rfl rfl ?_ | refine gFl rfl (by rfl) ?_ | refine gAl rfl rfl (by rfl) (by omega) ?_ | refine gBl rfl rfl (by rfl) (by omega) ?_)
            refine git rfl (show (-1 : Int32) < 0 by decide) ?_
            exact free x _ _ _ _ (by rw [tCe, hw]) (by rw [tSe, hw])
          | some o =>
            cases o with
            | none => exact absurd hw ne
            | some y =>
              have hy := tW_lt hp2 hx hw
              obtain ⟨s1, s2⟩ := tWs _ hw
              have eq1 : ∀ z, z < 64 → (!decide (z = x) && (decide (wI (tW W P t z) = wI (some (some y))) && !decide (wI (some (some y)) < 0))) = (!decide (z = x) && decide (tW W P t z = some (some y))) := by
                intro z hz
                congr 1
                rw [show decide (wI (some (some y)) < 0) = false from decide_eq_false (nI_pos (by omega))]
                simp only [Bool.not_false, Bool.and_true]
                have hb : ∀ y', tW W P t z = some (some y') → y' < 64 := fun y' e => tW_lt hp2 hz e
                generalize tW W P t z = o2 at *
                match o2, hb with
                | none, _ =>
                  rw [decide_eq_false (fun e => oI_ne (q := y) (by omega) (show (nI y : Int32) = -1 from e.symm)), decide_eq_false (fun e => by cases e)]
                | some none, _ =>
                  rw [decide_eq_false (fun e => oI_ne (q := y) (by omega) (show (nI y : Int32) = -1 from e.symm)), decide_eq_false (fun e => by cases e)]
                | some (some y'), hb =>
                  have := hb y' rfl
                  by_cases e : y' = y
                  · rw [e, decide_eq_true rfl, decide_eq_true rfl]
                  · rw [decide_eq_false (show ¬ wI (some (some y')) = wI (some (some y)) from fun z => e ((nI_eq (by omega) (by omega)).mp z)), decide_eq_false (fun z => e (by cases z; rfl))]
              have eHi : (hi0 || pAny (fun z => !decide (z = x) && (decide (wI (tW W P t z) = wI (some (some y))) && !decide (wI (some (some y)) < 0))) 64) = sHi (W 0) (W t) (W (3 - t)) (tW W P t) y := by
                rw [pAny_congr eq1, hh1 y hw]
                unfold sHi
                have hc := (pCnt_two (Q := fun z => decide (tW W P t z = some (some y))) (x := x) (decide_eq_true hw) (n := 64)).1 hx
                have e5 : decide (1 < pCnt (fun z => decide (tW W P t z = some (some y))) 64) = pAny (fun z => !decide (z = x) && decide (tW W P t z = some (some y))) 64 := by
                  cases hq : pAny (fun z => !decide (z = x) && decide (tW W P t z = some (some y))) 64 with
                  | true => exact decide_eq_true (hc.mpr hq)
                  | false => exact decide_eq_false (fun z => by rw [hc.mp z] at hq; cases hq)
                rw [e5]
                rcases ht with rfl | rfl
                · rfl
                · show ((W 0 y).isSome || (W 1 y).isSome || (W 2 y).isSome || _) = ((W 0 y).isSome || (W 2 y).isSome || (W 1 y).isSome || _)
                  rw [Bool.or_assoc (W 0 y).isSome (W 1 y).isSome (W 2 y).isSome, Bool.or_comm (W 1 y).isSome (W 2 y).isSome, ← Bool.or_assoc]
              rw [eHi]
              refine gbe rfl (fun hz => ?_) (fun hz => ?_)
              · refine gp rfl rfl (s' := (_, _, [.inl (nI y)], _)) rfl ?_
                refine gf0 rfl (show y < 2147483648 by omega) (by simp only [xcN]; omega) ?_
                refine gp rfl rfl (s' := (_, _, [.inl (nI y)], _)) rfl ?_
                refine gp rfl rfl rfl ?_
                refine free y _ _ _ _ ?_ ?_
                · rw [tCe, hw]; exact hz
                · rw [tSe, hw]
                  simp only
                  rw [hz, s1]
                  rfl
              · refine mark _ _ _ _ ?_ ?_
                · rw [tCe, hw]; exact hz
                · rw [tSe, hw]
                  simp only
                  rw [hz]
                  rfl
      | succ k ih =>
        intro i hi
        have ih' := ih (i + 1) (by omega)
        rw [pAny_s _ i] at ih'
        generalize pAny (fun z => !decide (z = x) && (decide (wI (tW W P t z) = wI (tW W P t x)) && !decide (wI (tW W P t x) < 0))) i = b at ih' ⊢
        first | refine gfN rfl (by omega) (by omega) (nN_ge (by omega)) ?_ | refine gfN rfl (by omega) (by omega) (nN_lt (by omega)) ?_ | refine gfN rfl (by omega) (by omega) (nN_eq (by omega)) ?_ | refine gfN rfl (by omega) (by omega) (nN_ne (by omega)) ?_ | refine gfN rfl (by omega) (by omega) (nN_gt (by omega)) ?_ | refine gfN rfl (by omega) (by omega) (nN_le (by omega)) ?_
        repeat (first | refine gkn rfl rfl ?_ | refine gkm rfl rfl ?_ | refine gad rfl ?_ | refine gml rfl ?_ | refine gsb rfl (by omega) ?_ | refine gdv rfl (by omega) (by omega) (by omega) ?_ | refine grm rfl (by omega) (by omega) (by omega) ?_ | refine gic rfl rfl ?_ | refine gp rfl rfl rfl ?_ | refine gFl rfl (by rfl) ?_ | refine gAl rfl rfl (by rfl) (by omega) ?_ | refine gBl rfl rfl (by rfl) (by omega) ?_)
        refine gbn rfl (fun hz => ?_) (fun hz => ?_)
        · repeat (first | refine gkn rfl rfl ?_ | refine gkm rfl rfl ?_ | refine gad rfl ?_ | refine gml rfl ?_ | refine gsb rfl (by omega) ?_ | refine gdv rfl (by omega) (by omega) (by omega) ?_ | refine grm rfl (by omega) (by omega) (by omega) ?_ | refine gic rfl rfl ?_ | refine gp rfl rfl rfl ?_ | refine gFl rfl (by rfl) ?_ | refine gAl rfl rfl (by rfl) (by omega) ?_ | refine gBl rfl rfl (by rfl) (by omega) ?_)
          have e : (hi0 || (b || (!decide (i = x) && (decide (wI (tW W P t i) = wI (tW W P t x)) && !decide (wI (tW W P t x) < 0))))) = true := by rw [← Bool.or_assoc, hz]; rfl
          rw [e] at ih'
          exact ih'
        · rw [← Bool.or_assoc, hz, Bool.false_or] at ih'
          repeat (first | refine gkn rfl rfl ?_ | refine gkm rfl rfl ?_ | refine gad rfl ?_ | refine gml rfl ?_ | refine gsb rfl (by omega) ?_ | refine gdv rfl (by omega) (by omega) (by omega) ?_ | refine grm rfl (by omega) (by omega) (by omega) ?_ | refine gic rfl rfl ?_ | refine gp rfl rfl rfl ?_ | refine gFl rfl (by rfl) ?_ | refine gAl rfl rfl (by rfl) (by omega) ?_ | refine gBl rfl rfl (by rfl) (by omega) ?_)
          refine gif' rfl (fun h0 => ?_) (fun h0 => ?_)
          · rw [decide_eq_true (show wI (tW W P t x) < 0 from h0)] at ih'
            simp only [Bool.not_true, Bool.and_false] at ih'
            repeat (first | refine gkn rfl rfl ?_ | refine gkm rfl rfl ?_ | refine gad rfl ?_ | refine gml rfl ?_ | refine gsb rfl (by omega) ?_ | refine gdv rfl (by omega) (by omega) (by omega) ?_ | refine grm rfl (by omega) (by omega) (by omega) ?_ | refine gic rfl rfl ?_ | refine gp rfl rfl rfl ?_ | refine gFl rfl (by rfl) ?_ | refine gAl rfl rfl (by rfl) (by omega) ?_ | refine gBl rfl rfl (by rfl) (by omega) ?_)
            exact ih'
          · rw [decide_eq_false (show ¬ wI (tW W P t x) < 0 from h0)] at ih'
            repeat (first | refine gkn rfl rfl ?_ | refine gkm rfl rfl ?_ | refine gad rfl ?_ | refine gml rfl ?_ | refine gsb rfl (by omega) ?_ | refine gdv rfl (by omega) (by omega) (by omega) ?_ | refine grm rfl (by omega) (by omega) (by omega) ?_ | refine gic rfl rfl ?_ | refine gp rfl rfl rfl ?_ | refine gFl rfl (by rfl) ?_ | refine gAl rfl rfl (by rfl) (by omega) ?_ | refine gBl rfl rfl (by rfl) (by omega) ?_)
            refine gcN rfl (by omega) (by omega) (fun heq => ?_) (fun hne => ?_)
            · have heq : i = x := heq
              rw [decide_eq_true heq] at ih'
              simp only [Bool.not_true, Bool.false_and] at ih'
              repeat (first | refine gkn rfl rfl ?_ | refine gkm rfl rfl ?_ | refine gad rfl ?_ | refine gml rfl ?_ | refine gsb rfl (by omega) ?_ | refine gdv rfl (by omega) (by omega) (by omega) ?_ | refine grm rfl (by omega) (by omega) (by omega) ?_ | refine gic rfl rfl ?_ | refine gp rfl rfl rfl ?_ | refine gFl rfl (by rfl) ?_ | refine gAl rfl rfl (by rfl) (by omega) ?_ | refine gBl rfl rfl (by rfl) (by omega) ?_)
              exact ih'
            · have hne : ¬ i = x := hne
              rw [decide_eq_false hne] at ih'
              repeat (first | refine gkn rfl rfl ?_ | refine gkm rfl rfl ?_ | refine gad rfl ?_ | refine gml rfl ?_ | refine gsb rfl (by omega) ?_ | refine gdv rfl (by omega) (by omega) (by omega) ?_ | refine grm rfl (by omega) (by omega) (by omega) ?_ | refine gic rfl rfl ?_ | refine gp rfl rfl rfl ?_ | refine gFl rfl (by rfl) ?_ | refine gAl rfl rfl (by rfl) (by omega) ?_ | refine gBl rfl rfl (by rfl) (by omega) ?_)
              refine gcv (As := [.inl (nI t), .inl (nI i)]) (rest := []) rfl (by decide) (r_wanted d h hP ht (by omega)) (mU_obj _ _ _) rfl rfl (by decide) ?_
              repeat (first | refine gkn rfl rfl ?_ | refine gkm rfl rfl ?_ | refine gad rfl ?_ | refine gml rfl ?_ | refine gsb rfl (by omega) ?_ | refine gdv rfl (by omega) (by omega) (by omega) ?_ | refine grm rfl (by omega) (by omega) (by omega) ?_ | refine gic rfl rfl ?_ | refine gp rfl rfl rfl ?_ | refine gFl rfl (by rfl) ?_ | refine gAl rfl rfl (by rfl) (by omega) ?_ | refine gBl rfl rfl (by rfl) (by omega) ?_)
              refine gcp rfl (fun hne2 => ?_) (fun heq2 => ?_)
              · rw [decide_eq_false (show ¬ wI (tW W P t i) = wI (tW W P t x) from hne2)] at ih'
                simp only [Bool.not_false, Bool.false_and, Bool.and_false] at ih'
                repeat (first | refine gkn rfl rfl ?_ | refine gkm rfl rfl ?_ | refine gad rfl ?_ | refine gml rfl ?_ | refine gsb rfl (by omega) ?_ | refine gdv rfl (by omega) (by omega) (by omega) ?_ | refine grm rfl (by omega) (by omega) (by omega) ?_ | refine gic rfl rfl ?_ | refine gp rfl rfl rfl ?_ | refine gFl rfl (by rfl) ?_ | refine gAl rfl rfl (by rfl) (by omega) ?_ | refine gBl rfl rfl (by rfl) (by omega) ?_)
                exact ih'
              · have heq2 : wI (tW W P t i) = wI (tW W P t x) := by
                  by_cases z : wI (tW W P t i) = wI (tW W P t x)
                  · exact z
                  · exact absurd z heq2
                rw [decide_eq_true heq2] at ih'
                simp only [Bool.not_false, Bool.and_self] at ih'
                repeat (first | refine gkn rfl rfl ?_ | refine gkm rfl rfl ?_ | refine gad rfl ?_ | refine gml rfl ?_ | refine gsb rfl (by omega) ?_ | refine gdv rfl (by omega) (by omega) (by omega) ?_ | refine grm rfl (by omega) (by omega) (by omega) ?_ | refine gic rfl rfl ?_ | refine gp rfl rfl rfl ?_ | refine gFl rfl (by rfl) ?_ | refine gAl rfl rfl (by rfl) (by omega) ?_ | refine gBl rfl rfl (by rfl) (by omega) ?_)
                exact ih'
    repeat (first | refine gkn rfl rfl ?_ | refine gkm rfl rfl ?_ | refine gad rfl ?_ | refine gml rfl ?_ | refine gsb rfl (by omega) ?_ | refine gdv rfl (by omega) (by omega) (by omega) ?_ | refine grm rfl (by omega) (by omega) (by omega) ?_ | refine gic rfl rfl ?_ | refine gp rfl rfl rfl ?_ | refine gFl rfl (by rfl) ?_ | refine gAl rfl rfl (by rfl) (by omega) ?_ | refine gBl rfl rfl (by rfl) (by omega) ?_)
    have := loop 64 0 rfl
    rw [show pAny (fun z => !decide (z = x) && (decide (wI (tW W P t z) = wI (tW W P t x)) && !decide (wI (tW W P t x) < 0))) 0 = false from rfl, Bool.or_false] at this
    exact this
  have stage1 : ∀ sp : Bool, (sp = true ↔ tW W P t x = some none) → xGo (xEx (d + 2)) xtb_115 K (54, [some (.inr (some 52)), some (.inl (nI t)), some (.inl (nI x)), some (.inl (nI x)), some (.inl (wI (tW W P t x))), none, none, none], [.inl (bI sp)], mU σ I A) := by
    intro sp hsp
    have st2 := stage2 sp hsp
    refine gp rfl rfl rfl ?_
    refine gp rfl rfl rfl ?_
    by_cases h0 : wI (tW W P t x) < 0
    · have h1 := (wI_lt0 (fun y e => tW_lt hp2 hx e)).mp h0
      refine git rfl (show wI (tW W P t x) < 0 from h0) ?_
      refine gkn rfl rfl ?_
      exact st2 false (fun y e => absurd e (h1 y)) (fun _ => rfl)
    · have h1 : ∃ y, tW W P t x = some (some y) := by
        cases hw : tW W P t x with
        | none => rw [hw] at h0; exact absurd (show wI none < 0 by decide) h0
        | some o =>
          cases o with
          | none => rw [hw] at h0; exact absurd (show wI (some none) < 0 by decide) h0
          | some y => exact ⟨y, rfl⟩
      obtain ⟨y, hy⟩ := h1
      have hy64 := tW_lt hp2 hx hy
      rw [hy] at st2 ⊢
      refine gf0 rfl (show y < 2147483648 by omega) (by simp only [xcN]; omega) ?_
      refine gp rfl rfl rfl ?_
      refine gkn rfl rfl ?_
      refine gp rfl rfl rfl ?_
      refine gcv (As := [.inl (nI 0), .inl (nI y)]) (rest := []) rfl (by decide) (r_has (d + 1) h (by decide) hy64) (mU_obj _ _ _) rfl rfl (by decide) ?_
      refine gbn rfl (fun hz => ?_) (fun hz => ?_)
      · refine gkn rfl rfl ?_
        refine gp rfl rfl rfl ?_
        exact st2 true (fun y' e => by cases e; rw [hz]; rfl) (fun z => absurd rfl (z y))
      · refine gp rfl rfl rfl ?_
        refine gkn rfl rfl ?_
        refine gp rfl rfl rfl ?_
        refine gcv (As := [.inl (nI 1), .inl (nI y)]) (rest := []) rfl (by decide) (r_has (d + 1) h (by decide) hy64) (mU_obj _ _ _) rfl rfl (by decide) ?_
        refine gbn rfl (fun hz2 => ?_) (fun hz2 => ?_)
        · refine gkn rfl rfl ?_
          refine gp rfl rfl rfl ?_
          exact st2 true (fun y' e => by cases e; rw [hz2]; simp) (fun z => absurd rfl (z y))
        · refine gp rfl rfl rfl ?_
          refine gkn rfl rfl ?_
          refine gp rfl rfl rfl ?_
          refine gcv (As := [.inl (nI 2), .inl (nI y)]) (rest := []) rfl (by decide) (r_has (d + 1) h (by decide) hy64) (mU_obj _ _ _) rfl rfl (by decide) ?_
          refine gbe rfl (fun hz3 => ?_) (fun hz3 => ?_)
          · refine gkn rfl rfl ?_
            exact st2 false (fun y' e => by cases e; rw [hz, hz2, hz3]; rfl) (fun z => absurd rfl (z y))
          · refine gkn rfl rfl ?_
            refine gp rfl rfl rfl ?_
            exact st2 true (fun y' e => by cases e; rw [hz3]; simp) (fun z => absurd rfl (z y))
  have main : xGo (xEx (d + 2)) xtb_115 K (0, [some (.inr (some 52)), some (.inl (nI t)), some (.inl (nI x)), none, none, none, none, none], [], mU σ I A) := by
    repeat (first | refine gkn rfl rfl ?_ | refine gkm rfl rfl ?_ | refine gad rfl ?_ | refine gml rfl ?_ | refine gsb rfl (by omega) ?_ | refine gdv rfl (by omega) (by omega) (by omega) ?_ | refine grm rfl (by omega) (by omega) (by omega) ?_ | refine gic rfl rfl ?_ | refine gp rfl rfl rfl ?_ | refine gFl rfl (by rfl) ?_ | refine gAl rfl rfl (by rfl) (by omega) ?_ | refine gBl rfl rfl (by rfl) (by omega) ?_)
    refine gcv (As := [.inl (nI t), .inl (nI x)]) (rest := []) rfl (by decide) (r_wanted d h hP ht hx) (mU_obj _ _ _) rfl rfl (by decide) ?_
    repeat (first | refine gkn rfl rfl ?_ | refine gkm rfl rfl ?_ | refine gad rfl ?_ | refine gml rfl ?_ | refine gsb rfl (by omega) ?_ | refine gdv rfl (by omega) (by omega) (by omega) ?_ | refine grm rfl (by omega) (by omega) (by omega) ?_ | refine gic rfl rfl ?_ | refine gp rfl rfl rfl ?_ | refine gFl rfl (by rfl) ?_ | refine gAl rfl rfl (by rfl) (by omega) ?_ | refine gBl rfl rfl (by rfl) (by omega) ?_)
    refine gcv (As := [.inl (nI t), .inl (nI x)]) (rest := []) rfl (by decide) (r_has (d + 1) h (by omega) hx) (mU_obj _ _ _) rfl rfl (by decide) ?_
    refine gbe rfl (fun hz => ?_) (fun hz => ?_)
    · refine gkn rfl rfl ?_
      exact stage1 false ⟨fun z => (by cases z), fun z => by rw [(tW2.mp z).1] at hz; cases hz⟩
    · repeat (first | refine gkn rfl rfl ?_ | refine gkm rfl rfl ?_ | refine gad rfl ?_ | refine gml rfl ?_ | refine gsb rfl (by omega) ?_ | refine gdv rfl (by omega) (by omega) (by omega) ?_ | refine grm rfl (by omega) (by omega) (by omega) ?_ | refine gic rfl rfl ?_ | refine gp rfl rfl rfl ?_ | refine gFl rfl (by rfl) ?_ | refine gAl rfl rfl (by rfl) (by omega) ?_ | refine gBl rfl rfl (by rfl) (by omega) ?_)
      refine gcv (As := [.inl (nI 0), .inl (nI x)]) (rest := []) rfl (by decide) (r_has (d + 1) h (by decide) hx) (mU_obj _ _ _) rfl rfl (by decide) ?_
      refine gbn rfl (fun hz2 => ?_) (fun hz2 => ?_)
      · refine gkn rfl rfl ?_
        exact stage1 false ⟨fun z => (by cases z), fun z => by rw [(tW2.mp z).2.1] at hz2; cases hz2⟩
      · repeat (first | refine gkn rfl rfl ?_ | refine gkm rfl rfl ?_ | refine gad rfl ?_ | refine gml rfl ?_ | refine gsb rfl (by omega) ?_ | refine gdv rfl (by omega) (by omega) (by omega) ?_ | refine grm rfl (by omega) (by omega) (by omega) ?_ | refine gic rfl rfl ?_ | refine gp rfl rfl rfl ?_ | refine gFl rfl (by rfl) ?_ | refine gAl rfl rfl (by rfl) (by omega) ?_ | refine gBl rfl rfl (by rfl) (by omega) ?_)
        have e2 := hp1 (3 - t) (x / 8) (by omega) (by omega)
        rw [show 8 * (3 - t - 1) + x / 8 = 8 * (2 - t) + x / 8 by omega] at e2
        rw [e2, xk_m2]
        have ok2 := hp2 (3 - t) (x / 8)
        refine gcp rfl (fun hne => ?_) (fun heq => ?_)
        · refine gkn rfl rfl ?_
          refine stage1 false ⟨fun z => (by cases z), fun z => ?_⟩
          rw [(tW2.mp z).2.2] at hne
          exact absurd (show (-2 : Int32) = -2 from rfl) hne
        · have heq : plI (P (3 - t) (x / 8)) = -2 := by
            by_cases z : plI (P (3 - t) (x / 8)) = -2
            · exact z
            · exact absurd z heq
          refine gkn rfl rfl ?_
          refine gp rfl rfl rfl ?_
          refine stage1 true ⟨fun _ => tW2.mpr ⟨hz, hz2, ?_⟩, fun _ => rfl⟩
          generalize P (3 - t) (x / 8) = o at *
          match o, ok2, heq with
          | none, _, heq => exact absurd (show (-1 : Int32) = -2 from heq) (by decide)
          | some none, _, _ => rfl
          | some (some e), ok2, heq => exact absurd (show nI e = -2 from heq) (nI_ne2 (by have := ok2 e (by omega) rfl; omega))
  obtain ⟨r, σ', hex, rfl, A', rfl, g⟩ := ex_of (d := d + 2) (y := 115) (as := [.inr (some 52), .inl (nI t), .inl (nI x)]) (σ := mU σ I A) (K := K) (by decide) rfl main
  exact ⟨A', hex, g⟩
end REF
