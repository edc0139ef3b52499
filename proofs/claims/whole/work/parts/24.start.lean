/-! THE LAW'S START -/
def xVall : Nat → Prop
  | 0 => True
  | n + 1 => xvm n = true ∧ xVall n
theorem xVall_lt : ∀ {n : Nat}, xVall n → ∀ y, y < n → xvm y = true
  | 0, _, y, h => by omega
  | n + 1, ⟨h1, h2⟩, y, h => by
    rcases Nat.lt_or_ge y n with h3 | h3
    · exact xVall_lt h2 y h3
    · have e : y = n := by omega
      subst e
      exact h1
theorem xV_all : xVall 144 := ⟨xv_143, xv_142, xv_141, xv_140, xv_139, xv_138, xv_137, xv_136, xv_135, xv_134, xv_133, xv_132, xv_131, xv_130, xv_129, xv_128, xv_127, xv_126, xv_125, xv_124, xv_123, xv_122, xv_121, xv_120, xv_119, xv_118, xv_117, xv_116, xv_115, xv_114, xv_113, xv_112, xv_111, xv_110, xv_109, xv_108, xv_107, xv_106, xv_105, xv_104, xv_103, xv_102, xv_101, xv_100, xv_99, xv_98, xv_97, xv_96, xv_95, xv_94, xv_93, xv_92, xv_91, xv_90, xv_89, xv_88, xv_87, xv_86, xv_85, xv_84, xv_83, xv_82, xv_81, xv_80, xv_79, xv_78, xv_77, xv_76, xv_75, xv_74, xv_73, xv_72, xv_71, xv_70, xv_69, xv_68, xv_67, xv_66, xv_65, xv_64, xv_63, xv_62, xv_61, xv_60, xv_59, xv_58, xv_57, xv_56, xv_55, xv_54, xv_53, xv_52, xv_51, xv_50, xv_49, xv_48, xv_47, xv_46, xv_45, xv_44, xv_43, xv_42, xv_41, xv_40, xv_39, xv_38, xv_37, xv_36, xv_35, xv_34, xv_33, xv_32, xv_31, xv_30, xv_29, xv_28, xv_27, xv_26, xv_25, xv_24, xv_23, xv_22, xv_21, xv_20, xv_19, xv_18, xv_17, xv_16, xv_15, xv_14, xv_13, xv_12, xv_11, xv_10, xv_9, xv_8, xv_7, xv_6, xv_5, xv_4, xv_3, xv_2, xv_1, xv_0, trivial⟩
set_option maxRecDepth 50000 in
theorem xN_tbl {A : Array Value} {s : State} (hts : ∀ w ∈ lw_tbl, w.before A s = true) : xN s :=
  ⟨List.forall_mem_cons.mpr ⟨va_Nw.of rfl (hts _ (List.mem_of_getElem? (i := 228) rfl)), List.forall_mem_cons.mpr ⟨va_Nw.of rfl (hts _ (List.mem_of_getElem? (i := 324) rfl)), List.forall_mem_cons.mpr ⟨va_Nw.of rfl (hts _ (List.mem_of_getElem? (i := 387) rfl)), List.forall_mem_cons.mpr ⟨va_Nw.of rfl (hts _ (List.mem_of_getElem? (i := 420) rfl)), List.forall_mem_cons.mpr ⟨va_Nw.of rfl (hts _ (List.mem_of_getElem? (i := 123) rfl)), List.forall_mem_cons.mpr ⟨va_Nw.of rfl (hts _ (List.mem_of_getElem? (i := 115) rfl)), List.forall_mem_cons.mpr ⟨va_Nw.of rfl (hts _ (List.mem_of_getElem? (i := 171) rfl)), List.forall_mem_cons.mpr ⟨va_Nw.of rfl (hts _ (List.mem_of_getElem? (i := 438) rfl)), List.forall_mem_cons.mpr ⟨va_Nw.of rfl (hts _ (List.mem_of_getElem? (i := 197) rfl)), fun _ h => absurd h List.not_mem_nil⟩⟩⟩⟩⟩⟩⟩⟩⟩, List.forall_mem_cons.mpr ⟨va_Nw.of rfl (hts _ (List.mem_of_getElem? (i := 127) rfl)), List.forall_mem_cons.mpr ⟨va_Nw.of rfl (hts _ (List.mem_of_getElem? (i := 451) rfl)), fun _ h => absurd h List.not_mem_nil⟩⟩, va_Nw.of rfl (hts _ (List.mem_of_getElem? (i := 246) rfl)), va_AO.of (hts _ (List.mem_of_getElem? (i := 176) rfl)), va_AO.of (hts _ (List.mem_of_getElem? (i := 75) rfl))⟩
theorem y_overA {A : Array Value} {s : State} {t : FieldType} (h : (Cond.arrayOver (.array t)).before A s = true) : ∃ comp c k, s.vm.findClass (FieldType.array t).toString = some comp ∧ s.vm.classes[c]? = some k ∧ k.kind = .array comp (.array t) ∧ s.vm.findClass ("[" ++ (FieldType.array t).toString) = some c := by
  simp only [Cond.before, Cond.holds, Cond.value, beq_iff_eq] at h
  cases hc : s.vm.findClass (FieldType.array t).toString with
  | none => simp [hc] at h
  | some comp =>
    simp only [hc, Option.bind_some, Option.bind_eq_some_iff, Option.map_eq_some_iff] at h
    obtain ⟨c, hi, k, hk, hb⟩ := h
    obtain ⟨hlt, hp, -⟩ := Array.findIdx?_eq_some_iff_getElem.mp hi
    have hkk : s.vm.classes[c] = k := (Array.getElem?_eq_some_iff.mp hk).2
    rw [hkk] at hp
    cases hkind : k.kind with
    | array component ty =>
      rw [hkind] at hb hp
      simp at hb hp
      exact ⟨comp, c, k, rfl, hk, by rw [hkind, hp, hb.1], hb.2⟩
    | _ => rw [hkind] at hb; simp at hb
set_option maxRecDepth 50000 in
theorem x_cp {A : Array Value} {s : State} (hts : ∀ w ∈ xW, w.before A s = true) (t : Nat) : ∃ cA : ClassId, ArrOfT s cA (xty t) ∧ s.vm.findClass ("[" ++ (xty t).toString) = some cA := by
  have key : ∀ ty : FieldType, Cond.arrayClass ty ∈ xW → ∃ cA : ClassId, ArrOfT s cA ty ∧ s.vm.findClass ("[" ++ ty.toString) = some cA := by
    intro ty h
    obtain ⟨cA, kA, comp, h1, h2, h3⟩ := Cond.arrayClass_spec (hts _ h)
    exact ⟨cA, fun n z => ⟨fun k h => (by cases h), kA, h2, comp, h3⟩, h1⟩
  unfold xty
  split
  · exact key _ (xW_at 111 rfl rfl)
  · split
    · exact key _ (xW_at 661 (by rfl) rfl)
    · exact key _ (xW_at 112 rfl rfl)
set_option maxRecDepth 50000 in
theorem x_cq {A : Array Value} {s : State} (hts : ∀ w ∈ lw_tbl, w.before A s = true) (t : Nat) : ∃ cA : ClassId, ArrOfT s cA (xqty t) ∧ (∃ (kA : Class) (comp : ClassId), s.vm.classes[cA]? = some kA ∧ kA.kind = .array comp (xqty t) ∧ s.vm.findClass (xqn t) = some comp) ∧ s.vm.findClass ("[" ++ (xqty t).toString) = some cA := by
  have key : ∀ C : String, (Cond.arrayOver (.object C)).before A s = true → ∃ cA : ClassId, ArrOfT s cA (.object C) ∧ (∃ (kA : Class) (comp : ClassId), s.vm.classes[cA]? = some kA ∧ kA.kind = .array comp (.object C) ∧ s.vm.findClass C = some comp) ∧ s.vm.findClass ("[" ++ (FieldType.object C).toString) = some cA := by
    intro C h
    obtain ⟨comp, cA, kA, h1, -, h3, h4, h5⟩ := Cond.arrayOver_spec h
    exact ⟨cA, fun n z => ⟨fun k h => (by cases h), kA, h3, comp, h4⟩, ⟨kA, comp, h3, h4, h1⟩, h5⟩
  unfold xqty xqn
  split
  · exact key _ (hts _ (List.mem_of_getElem? (i := 176) rfl))
  · split
    · exact key _ (hts _ (List.mem_of_getElem? (i := 75) rfl))
    · obtain ⟨comp, cA, kA, h1, h3, h4, h5⟩ := y_overA (hts (.arrayOver (.array .int)) (List.mem_of_getElem? (i := 120) rfl))
      exact ⟨cA, fun n z => ⟨fun k h => (by cases h), kA, h3, comp, h4⟩, ⟨kA, comp, h3, h4, h1⟩, h5⟩
theorem x_cl {A : Array Value} {s : State} (hts : ∀ w ∈ xW, w.before A s = true) (a : Nat) : ∃ q : ClassId × (Nat → Nat), a < 8 → u_Kn s (xcl.getD a xc0).1 (xcl.getD a xc0).2.1 (xcl.getD a xc0).2.2 q.1 q.2 := by
  by_cases h : a < 8
  · have CC := xC_all h
    obtain ⟨cC, iS, hk⟩ := u_known hts CC.1 (hts _ CC.2.2.2.2.2.1)
    exact ⟨(cC, iS), fun _ => hk⟩
  · exact ⟨(0, fun _ => 0), fun h2 => absurd h2 h⟩
/-- the heap at the start: the script, and the empty array -/
def xσ0 (L : Nat) (xs : Nat → Int32) : xS := (fun k => if k = 0 then some (.inl (0, L, xs)) else if k = 1 then some (.inl (0, 0, fun _ => 0)) else none, 2, 0)
/-- what the law's run must come to -/
def xEnd (v : Option xV) (σ : xS) : Prop := v = some (.inl 1) ∧ σ.2.1 ≤ 600002 ∧ σ.2.2 ≤ 7302250
