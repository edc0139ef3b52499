/-! FROM STEPS TO CONTRACTS -/
/-- a method runs, d calls deep, from σ with the arguments as to the answer r and the heap σ' -/
def xEx : Nat → Nat → List xV → xS → Option xV → xS → Prop
  | 0 => fun _ _ _ _ _ => False
  | d + 1 => fun y as σ r σ' => y < 143 ∧ as.length = xma y ∧ xGo (xEx d) (xtb y) (fun r0 σ0 => r0 = r ∧ σ0 = σ') (0, as.map some ++ List.replicate (xml y - as.length) none, [], σ)
/-- numbers of cells and slots never fall -/
def xup2 (σ : xS) (o : xO) : Prop := match o with
  | .inl t => σ.2.1 ≤ t.2.2.2.2.1 ∧ σ.2.2 ≤ t.2.2.2.2.2
  | .inr z => σ.2.1 ≤ z.2.2.1 ∧ σ.2.2 ≤ z.2.2.2
theorem x_grow {E : Nat → List xV → xS → Option xV → xS → Prop} (hE : ∀ y as σ r σ1, E y as σ r σ1 → σ.2.1 ≤ σ1.2.1 ∧ σ.2.2 ≤ σ1.2.2) {i : Instr} {len a b pc : Nat} {ls : xL} {st : List xV} {σ : xS} {o : xO} (h : xst E i len a b pc ls st σ o) : xup2 σ o := by
  have r0 : σ.2.1 ≤ σ.2.1 ∧ σ.2.2 ≤ σ.2.2 := ⟨Nat.le_refl _, Nat.le_refl _⟩
  have hcall : ∀ pc', xcall E a b pc' ls st σ o → xup2 σ o := by
    intro pc' h
    unfold xcall at h
    split at h
    · obtain ⟨_, _, _, _, rfl⟩ := xr_inv h
      exact r0
    · split at h
      · obtain ⟨_, _, _, n, f, _, _, _, rfl⟩ := xr_inv h
        exact ⟨Nat.le_succ _, Nat.le_add_right _ _⟩
      · split at h
        · match st, h with
          | .inl _ :: .inl _ :: .inr (some _) :: .inl _ :: .inr (some _) :: _, h =>
            obtain ⟨_, _, _, _, _, _, _, _, _, _, _, _, _, _, _, _, _, _, _, _, rfl⟩ := h
            exact r0
        · split at h
          · obtain ⟨_, _, _, _, _, rfl⟩ := x2_inv h
            exact r0
          · split at h
            · obtain ⟨_, _, _, _, _, rfl⟩ := x2_inv h
              exact r0
            · obtain ⟨r, σ1, _, _, _, he, rfl⟩ := h
              exact hE _ _ _ _ _ he
  cases i
  case invokestatic => exact hcall _ h
  case invokevirtual => exact hcall _ h
  case invokespecial => exact hcall _ h
  case new =>
    have h : o = .inl (pc + len, ls, .inr (some σ.2.1) :: st, xnew σ (.inr (.inr (a, xdf a))) b) := h
    subst h
    exact ⟨Nat.le_succ _, Nat.le_add_right _ _⟩
  case newarray =>
    obtain ⟨_, _, _, n, _, _, rfl⟩ := x1_inv h
    exact ⟨Nat.le_succ _, Nat.le_add_right _ _⟩
  case anewarray =>
    obtain ⟨_, _, _, n, _, _, rfl⟩ := x1_inv h
    exact ⟨Nat.le_succ _, Nat.le_add_right _ _⟩
  case multianewarray =>
    obtain ⟨_, _, _, _, n, k, _, _, _, _, rfl⟩ := x2_inv h
    exact ⟨by show σ.2.1 ≤ σ.2.1 + 1 + n; omega, by show σ.2.2 ≤ σ.2.2 + n + n * k; omega⟩
  case tableswitch =>
    obtain ⟨_, _, _, t, _, rfl⟩ := x1_inv h
    exact r0
  case dup => match st, h with
    | _ :: _, h =>
      have h : o = .inl _ := h
      subst h
      exact r0
  case dup2 => match st, h with
    | _ :: _ :: _, h =>
      have h : o = .inl _ := h
      subst h
      exact r0
  case getfield =>
    obtain ⟨_, _, _, _, _, _, _, rfl⟩ := xr_inv h
    exact r0
  case arraylength =>
    obtain ⟨_, _, _, _, _, rfl⟩ := xr_inv h
    exact r0
  case checkcast =>
    obtain ⟨_, _, _, _, _, _, _, rfl⟩ := xr_inv h
    exact r0
  case putfield => match st, h with
    | _ :: .inr (some _) :: _, h =>
      obtain ⟨_, _, _, _, rfl⟩ := h
      exact r0
  case iaload => match st, h with
    | .inl _ :: .inr (some _) :: _, h =>
      obtain ⟨_, _, _, _, _, _, _, rfl⟩ := h
      exact r0
  case baload => match st, h with
    | .inl _ :: .inr (some _) :: _, h =>
      obtain ⟨_, _, _, _, _, _, _, rfl⟩ := h
      exact r0
  case aaload => match st, h with
    | .inl _ :: .inr (some _) :: _, h =>
      obtain ⟨_, _, _, _, _, _, _, _, rfl⟩ := h
      exact r0
  case iastore => match st, h with
    | .inl _ :: .inl _ :: .inr (some _) :: _, h =>
      obtain ⟨_, _, _, _, _, _, _, _, rfl⟩ := h
      exact r0
  case bastore => match st, h with
    | .inl _ :: .inl _ :: .inr (some _) :: _, h =>
      obtain ⟨_, _, _, _, _, _, _, rfl⟩ := h
      exact r0
  case aastore => match st, h with
    | .inr _ :: .inl _ :: .inr (some _) :: _, h =>
      obtain ⟨_, _, _, _, _, _, _, _, rfl⟩ := h
      exact r0
  case ireturn => match st, h with
    | [.inl _], h =>
      obtain ⟨_, rfl⟩ := h
      exact r0
  case areturn => match st, h with
    | [.inr _], h =>
      have h : o = .inr _ := h
      subst h
      exact r0
  case return_ => match st, h with
    | [], h =>
      have h : o = .inr _ := h
      subst h
      exact r0
  all_goals first
    | exact (show False from h).elim
    | (have h : o = .inl _ := h; subst h; exact r0)
    | (obtain ⟨_, _, h⟩ := xldi_inv h; subst h; exact r0)
    | (obtain ⟨_, _, h⟩ := xldr_inv h; subst h; exact r0)
    | (obtain ⟨_, _, _, h⟩ := x1_inv h; subst h; exact r0)
    | (obtain ⟨_, _, _, _, h⟩ := x2_inv h; subst h; exact r0)
    | (obtain ⟨_, _, _, _, _, h⟩ := x2_inv h; subst h; exact r0)
    | (obtain ⟨_, _, _, h⟩ := xq_inv h; subst h; exact r0)
theorem xGo_grow {E : Nat → List xV → xS → Option xV → xS → Prop} (hE : ∀ y as σ r σ1, E y as σ r σ1 → σ.2.1 ≤ σ1.2.1 ∧ σ.2.2 ≤ σ1.2.2) {tb : List xI} {r : Option xV} {σ' : xS} {t : xT} (h : xGo E tb (fun r0 σ0 => r0 = r ∧ σ0 = σ') t) : t.2.2.2.2.1 ≤ σ'.2.1 ∧ t.2.2.2.2.2 ≤ σ'.2.2 := by
  refine h (fun t => t.2.2.2.2.1 ≤ σ'.2.1 ∧ t.2.2.2.2.2 ≤ σ'.2.2) ?_
  rintro s o ⟨ls0, x, -, -, -, hst⟩ hp
  have hu := x_grow hE hst
  match o, hu, hp with
  | .inl t, hu, hp => exact ⟨Nat.le_trans hu.1 hp.1, Nat.le_trans hu.2 hp.2⟩
  | .inr (v, σ0), hu, hp =>
    obtain ⟨-, rfl⟩ := hp
    exact hu
theorem xEx_grow : ∀ d y as σ r σ1, xEx d y as σ r σ1 → σ.2.1 ≤ σ1.2.1 ∧ σ.2.2 ≤ σ1.2.2
  | 0, _, _, _, _, _, h => h.elim
  | d + 1, y, as, σ, r, σ1, h => xGo_grow (xEx_grow d) h.2.2
