section XALL
variable {G : xG} {p : Program} {l : Launch} {e : Env} {R : Room} {s : State} {m : MethodId} {args : Array Value} {below : List Frame} {meth : Method} {c : Code} {nL nx0 sl0 nxF slF d : Nat} {Q : State → Prop}
variable {E : Nat → List xV → xS → Option xV → xS → Prop} {K : Option xV → xS → Prop} {cc : ByteArray} {own : Nat} {rt : Option FieldType} {tb : List xI}
/-- what the method's end needs -/
def xRet (G : xG) (p : Program) (l : Launch) (e : Env) (R : Room) (s : State) (m : MethodId) (args : Array Value) (below : List Frame) (meth : Method) (c : Code) (cc : ByteArray) (rt : Option FieldType) (nx0 sl0 nxF slF : Nat) (Q : State → Prop) (K : Option xV → xS → Prop) : Prop :=
  (∀ v σ, K v σ → σ.2.1 ≤ nxF ∧ σ.2.2 ≤ slF) ∧
  (∀ (pc : Nat) (H : Heap) (locs : List Loc) (L : Array Slot) (σ : xS) (x : Int32), K (some (.inl x)) σ → nx0 ≤ σ.2.1 → sl0 ≤ σ.2.2 → xR G s σ H → (∀ q ∈ locs, G.2.2.1 ≤ q.base) → decode cc pc = .ok (.ireturn, 1) → (rt = some .int ∨ (rt = some .boolean ∧ (x = 0 ∨ x = 1))) → W p l e R s m args below meth c H locs (σ.2.1 - nx0) (σ.2.2 - sl0) Q (F0 m pc L [.int x])) ∧
  (∀ (pc : Nat) (H : Heap) (locs : List Loc) (L : Array Slot) (σ : xS) (q : Option Nat), K (some (.inr q)) σ → nx0 ≤ σ.2.1 → sl0 ≤ σ.2.2 → xR G s σ H → (∀ q ∈ locs, G.2.2.1 ≤ q.base) → decode cc pc = .ok (.areturn, 1) → (∃ t, rt = some t ∧ ((∃ n, t = .object n) ∨ ∃ u, t = .array u)) → W p l e R s m args below meth c H locs (σ.2.1 - nx0) (σ.2.2 - sl0) Q (F0 m pc L [xv G (.inr q)])) ∧
  (∀ (pc : Nat) (H : Heap) (locs : List Loc) (L : Array Slot) (σ : xS), K none σ → nx0 ≤ σ.2.1 → sl0 ≤ σ.2.2 → xR G s σ H → (∀ q ∈ locs, G.2.2.1 ≤ q.base) → decode cc pc = .ok (.return_, 1) → rt = none → W p l e R s m args below meth c H locs (σ.2.1 - nx0) (σ.2.2 - sl0) Q (F0 m pc L []))
set_option maxRecDepth 50000 in
theorem x_all (C : xCx G p l R s m args c cc nL d nx0 sl0 nxF slF (xon own) E) {ini : Bool} (hini : ini = true → meth.name = "<init>") (hv : tb.all (xvl own rt cc nL ini) = true) (hret : xRet G p l e R s m args below meth c cc rt nx0 sl0 nxF slF Q K) :
    ∀ (t : xT) (o : xO), xstep E tb t o → xpost (xSem G p l e R s m args below meth c nL nx0 sl0 nxF slF Q) K o → xSem G p l e R s m args below meth c nL nx0 sl0 nxF slF Q t := by
  rintro ⟨pc, ls, st, σ⟩ o ⟨ls0, ⟨pc', i, len, a, b, w⟩, hle, hmem, hpc, hst⟩ hp
  have hpc : pc' = pc := hpc
  subst hpc
  refine x_le_sem hle ?_
  have hrow := List.all_eq_true.mp hv _ hmem
  clear hle
  unfold xvl at hrow
  simp only [Bool.and_eq_true, decide_eq_true_eq] at hrow
  obtain ⟨hd, hrow⟩ := hrow
  have hst : xst E i len a b pc' ls0 st σ o := hst
  have hx := C.1
  have hb := C.2.1
  have hown := C.2.2.2.1
  have hts := C.2.2.2.2.1
  have hK := C.2.2.2.2.2.1
  have hN := C.2.2.2.2.2.2.1
  have hRc := C.2.2.2.2.2.2.2.2.2.1
  have hRs := C.2.2.2.2.2.2.2.2.2.2.1
  cases i
  case iadd =>
    unfold xvi at hrow; simp only [Bool.and_eq_true, decide_eq_true_eq] at hrow
    subst hrow
    exact sn_iadd hx hb hd hst hp
  case isub =>
    unfold xvi at hrow; simp only [Bool.and_eq_true, decide_eq_true_eq] at hrow
    subst hrow
    exact sn_isub hx hb hd hst hp
  case imul =>
    unfold xvi at hrow; simp only [Bool.and_eq_true, decide_eq_true_eq] at hrow
    subst hrow
    exact sn_imul hx hb hd hst hp
  case iand =>
    unfold xvi at hrow; simp only [Bool.and_eq_true, decide_eq_true_eq] at hrow
    subst hrow
    exact sn_iand hx hb hd hst hp
  case ior =>
    unfold xvi at hrow; simp only [Bool.and_eq_true, decide_eq_true_eq] at hrow
    subst hrow
    exact sn_ior hx hb hd hst hp
  case idiv =>
    unfold xvi at hrow; simp only [Bool.and_eq_true, decide_eq_true_eq] at hrow
    subst hrow
    exact sn_idiv hx hb hd hst hp
  case irem =>
    unfold xvi at hrow; simp only [Bool.and_eq_true, decide_eq_true_eq] at hrow
    subst hrow
    exact sn_irem hx hb hd hst hp
  case ishl =>
    unfold xvi at hrow; simp only [Bool.and_eq_true, decide_eq_true_eq] at hrow
    subst hrow
    exact sn_ishl hx hb hd hst hp
  case ishr =>
    unfold xvi at hrow; simp only [Bool.and_eq_true, decide_eq_true_eq] at hrow
    subst hrow
    exact sn_ishr hx hb hd hst hp
  case iushr =>
    unfold xvi at hrow; simp only [Bool.and_eq_true, decide_eq_true_eq] at hrow
    subst hrow
    exact sn_iushr hx hb hd hst hp
  case i2b =>
    unfold xvi at hrow; simp only [Bool.and_eq_true, decide_eq_true_eq] at hrow
    subst hrow
    exact sn_i2b hx hb hd hst hp
  case dup =>
    unfold xvi at hrow; simp only [Bool.and_eq_true, decide_eq_true_eq] at hrow
    subst hrow
    exact sn_dup hx hb hd hst hp
  case dup2 =>
    unfold xvi at hrow; simp only [Bool.and_eq_true, decide_eq_true_eq] at hrow
    subst hrow
    exact sn_dup2 hx hb hd hst hp
  case aconst_null =>
    unfold xvi at hrow; simp only [Bool.and_eq_true, decide_eq_true_eq] at hrow
    subst hrow
    exact sn_null hx hb hd hst hp
  case iconst n =>
    unfold xvi at hrow; simp only [Bool.and_eq_true, decide_eq_true_eq] at hrow
    obtain ⟨rfl, hv⟩ := hrow
    exact sn_iconst hx hb hd hv hst hp
  case bipush n =>
    unfold xvi at hrow; simp only [Bool.and_eq_true, decide_eq_true_eq] at hrow
    obtain ⟨rfl, hv⟩ := hrow
    exact sn_bipush hx hb hd hv hst hp
  case sipush n =>
    unfold xvi at hrow; simp only [Bool.and_eq_true, decide_eq_true_eq] at hrow
    obtain ⟨rfl, hv⟩ := hrow
    exact sn_sipush hx hb hd hv hst hp
  case iload_n n =>
    unfold xvi at hrow; simp only [Bool.and_eq_true, decide_eq_true_eq] at hrow
    subst hrow
    exact sn_iload_n hx hb hd hst hp
  case aload_n n =>
    unfold xvi at hrow; simp only [Bool.and_eq_true, decide_eq_true_eq] at hrow
    subst hrow
    exact sn_aload_n hx hb hd hst hp
  case iload n =>
    unfold xvi at hrow; simp only [Bool.and_eq_true, decide_eq_true_eq] at hrow
    subst hrow
    exact sn_iload hx hb hd hst hp
  case aload n =>
    unfold xvi at hrow; simp only [Bool.and_eq_true, decide_eq_true_eq] at hrow
    subst hrow
    exact sn_aload hx hb hd hst hp
  case istore_n n =>
    unfold xvi at hrow; simp only [Bool.and_eq_true, decide_eq_true_eq] at hrow
    obtain ⟨rfl, hk⟩ := hrow
    exact sn_istore_n hx hb hd hk hst hp
  case astore_n n =>
    unfold xvi at hrow; simp only [Bool.and_eq_true, decide_eq_true_eq] at hrow
    obtain ⟨rfl, hk⟩ := hrow
    exact sn_astore_n hx hb hd hk hst hp
  case istore n =>
    unfold xvi at hrow; simp only [Bool.and_eq_true, decide_eq_true_eq] at hrow
    obtain ⟨rfl, hk⟩ := hrow
    exact sn_istore hx hb hd hk hst hp
  case astore n =>
    unfold xvi at hrow; simp only [Bool.and_eq_true, decide_eq_true_eq] at hrow
    obtain ⟨rfl, hk⟩ := hrow
    exact sn_astore hx hb hd hk hst hp
  case iinc k n =>
    unfold xvi at hrow; simp only [Bool.and_eq_true, decide_eq_true_eq] at hrow
    obtain ⟨⟨rfl, hk⟩, hv⟩ := hrow
    exact sn_iinc hx hb hd hk hv hst hp
  case ifCond k off =>
    unfold xvi at hrow; simp only [Bool.and_eq_true, decide_eq_true_eq] at hrow
    obtain ⟨rfl, ht⟩ := hrow
    exact sn_ifCond hx hb hd ht hst hp
  case if_icmp k off =>
    unfold xvi at hrow; simp only [Bool.and_eq_true, decide_eq_true_eq] at hrow
    obtain ⟨rfl, ht⟩ := hrow
    exact sn_if_icmp hx hb hd ht hst hp
  case ifnull off =>
    unfold xvi at hrow; simp only [Bool.and_eq_true, decide_eq_true_eq] at hrow
    obtain ⟨rfl, ht⟩ := hrow
    exact sn_ifnull hx hb hd ht hst hp
  case ifnonnull off =>
    unfold xvi at hrow; simp only [Bool.and_eq_true, decide_eq_true_eq] at hrow
    obtain ⟨rfl, ht⟩ := hrow
    exact sn_ifnonnull hx hb hd ht hst hp
  case goto off =>
    unfold xvi at hrow; simp only [Bool.and_eq_true, decide_eq_true_eq] at hrow
    obtain ⟨rfl, ht⟩ := hrow
    exact sn_goto hx hb hd ht hst hp
  case tableswitch f lo hi offs =>
    exact sn_tableswitch hx hb hd hst hp
  case iaload =>
    unfold xvi at hrow; simp only [Bool.and_eq_true, decide_eq_true_eq] at hrow
    subst hrow
    exact sn_iaload hx hb hK hd hst hp
  case aaload =>
    unfold xvi at hrow; simp only [Bool.and_eq_true, decide_eq_true_eq] at hrow
    subst hrow
    exact sn_aaload hx hb hK hd hst hp
  case iastore =>
    unfold xvi at hrow; simp only [Bool.and_eq_true, decide_eq_true_eq] at hrow
    subst hrow
    exact sn_iastore hx hb hK hd hst hp
  case arraylength =>
    unfold xvi at hrow; simp only [Bool.and_eq_true, decide_eq_true_eq] at hrow
    subst hrow
    exact sn_arraylength hx hb hK hd hst hp
  case baload =>
    unfold xvi at hrow; simp only [Bool.and_eq_true, decide_eq_true_eq] at hrow
    obtain ⟨rfl, ha⟩ := hrow
    exact sn_baload hx hb hK hd ha hst hp
  case bastore =>
    unfold xvi at hrow; simp only [Bool.and_eq_true, decide_eq_true_eq] at hrow
    obtain ⟨rfl, ha⟩ := hrow
    exact sn_bastore hx hb hK hd ha hst hp
  case aastore =>
    unfold xvi at hrow; simp only [Bool.and_eq_true, decide_eq_true_eq] at hrow
    obtain ⟨rfl, ha⟩ := hrow
    exact sn_aastore hx hb hK hd ha hst hp
  case getfield idx =>
    unfold xvi at hrow; simp only [Bool.and_eq_true, decide_eq_true_eq] at hrow
    obtain ⟨rfl, hf⟩ := hrow
    unfold xvf at hf; simp only [Bool.and_eq_true, decide_eq_true_eq] at hf
    obtain ⟨⟨ha, hbn⟩, hw⟩ := hf
    have CC := xC_all ha
    exact sn_getfield hx hb hK hts CC.1 hown (x_lt8 ha) hbn (hts _ (xlw_in hw)) hd hst hp
  case putfield idx =>
    unfold xvi at hrow; simp only [Bool.and_eq_true, decide_eq_true_eq] at hrow
    obtain ⟨⟨rfl, hf⟩, hfin⟩ := hrow
    unfold xvf at hf; simp only [Bool.and_eq_true, decide_eq_true_eq] at hf
    obtain ⟨⟨ha, hbn⟩, hw⟩ := hf
    have CC := xC_all ha
    refine sn_putfield hx hb hK hts CC.1 hown (x_lt8 ha) hbn (xtt a) CC.2.1 CC.2.2.1 (CC.2.2.2.1 b hbn) ?_ (hts _ (xlw_in hw)) hd hst hp
    simp only [Bool.or_eq_true, Bool.and_eq_true, decide_eq_true_eq, Bool.not_eq_true'] at hfin
    rcases hfin with hfin | ⟨h1, h2⟩
    · exact Or.inl hfin
    · cases hfl : ((xcl.getD a xc0).2.1 b).2.2.2
      · exact Or.inl rfl
      · exact Or.inr ⟨rfl, hini h1, by rw [CC.2.2.2.2.2.2.2 b hbn, h2]⟩
  case new idx =>
    unfold xvi at hrow; simp only [Bool.and_eq_true, decide_eq_true_eq] at hrow
    obtain ⟨⟨⟨rfl, ha⟩, rfl⟩, hw⟩ := hrow
    have CC := xC_all ha
    unfold xvk at hw; simp only [decide_eq_true_eq] at hw
    exact sn_new hx hb hK hts CC.1 hown (x_lt8 ha) (xtt a) CC.2.1 CC.2.2.2.2.1 hRc hRs (hts _ (xlw_in hw)) (hts _ CC.2.2.2.2.2.1) (hts _ CC.2.2.2.2.2.2.1) hd hst hp
  case newarray q =>
    unfold xvi at hrow; simp only [Bool.and_eq_true, decide_eq_true_eq] at hrow
    obtain ⟨⟨rfl, hat⟩, ha⟩ := hrow
    refine sn_newarray hx hb hK (hts _ ?_) hat hRc hRs hd hst hp
    rw [hat]
    rcases (show a = 0 ∨ a = 1 ∨ a = 2 by omega) with rfl | rfl | rfl
    · exact xW_at 111 rfl rfl
    · exact xW_at 661 rfl rfl
    · exact xW_at 112 rfl rfl
  case anewarray idx =>
    unfold xvi at hrow; simp only [Bool.and_eq_true, decide_eq_true_eq] at hrow
    obtain ⟨⟨rfl, ha⟩, hw⟩ := hrow
    unfold xvk at hw; simp only [decide_eq_true_eq] at hw
    have hw := hts _ (xlw_in hw)
    rcases (show a = 0 ∨ a = 1 by omega) with rfl | rfl
    · exact sn_anewarray hx hb hK hown rfl hw (va_AO.use hN.2.2.2.1) hRc hRs hd hst hp
    · exact sn_anewarray hx hb hK hown rfl hw (va_AO.use hN.2.2.2.2) hRc hRs hd hst hp
  case multianewarray idx n =>
    unfold xvi at hrow; simp only [Bool.and_eq_true, decide_eq_true_eq] at hrow
    obtain ⟨⟨rfl, rfl⟩, hw⟩ := hrow
    unfold xvk at hw; simp only [decide_eq_true_eq] at hw
    exact sn_multi C (hts _ (xlw_in hw)) hd hst hp
  case getstatic idx =>
    unfold xvi at hrow; simp only [Bool.and_eq_true, decide_eq_true_eq] at hrow
    obtain ⟨rfl, hw⟩ := hrow
    exact sn_getstatic hx hb hown (Or.inr ⟨_, xN_f hN hw⟩) hd hst hp
  case checkcast idx =>
    unfold xvi at hrow; simp only [Bool.and_eq_true, decide_eq_true_eq] at hrow
    obtain ⟨rfl, hw⟩ := hrow
    unfold xvk at hw; simp only [decide_eq_true_eq] at hw
    exact sn_checkcast hx hb hK hown (hts _ (xlw_in hw)) hd hst hp
  case invokespecial idx =>
    unfold xvi at hrow; simp only [Bool.and_eq_true, decide_eq_true_eq] at hrow
    obtain ⟨rfl, hw⟩ := hrow
    by_cases hb6 : b = 6
    · subst hb6
      rw [if_pos rfl] at hw
      unfold xvk at hw; simp only [decide_eq_true_eq] at hw
      exact sn_objInit C (hts _ (xlw_in hw)) (hts _ (xW_at 72 rfl rfl)) (hts _ (xW_at 73 rfl rfl)) hd hst hp
    rw [if_neg hb6] at hw
    simp only [Bool.and_eq_true, decide_eq_true_eq] at hw
    obtain ⟨hw, hk⟩ := hw
    unfold xvc at hw
    by_cases hb2 : b = 2 * 0
    · rw [if_pos hb2] at hw
      simp only [Bool.and_eq_true, decide_eq_true_eq] at hw
      obtain ⟨ha, hw⟩ := hw
      have CC := x_callee ha
      obtain ⟨g1, g2, g3, g4⟩ := CC.2.2.2 hk
      subst hb2
      exact sn_callI C CC.1 g4 g1 g2 g3 (hts _ (xlw_in hw)) hd hst hp
    · rw [if_neg hb2] at hw
      simp only [Bool.and_eq_true, decide_eq_true_eq] at hw
      obtain ⟨⟨hb3, ha⟩, hw⟩ := hw
      have CC := x_callee ha
      obtain ⟨g1, g2, g3, g4⟩ := CC.2.2.2 hk
      subst hb3
      exact sn_callIN C CC.1 g4 g1 g2 g3 (xN_m hN hw) hd hst hp
  case invokevirtual idx =>
    unfold xvi at hrow; simp only [Bool.and_eq_true, decide_eq_true_eq] at hrow
    obtain ⟨rfl, hw⟩ := hrow
    by_cases hb6 : b = 7
    · subst hb6
      rw [if_pos rfl] at hw
      unfold xvk at hw; simp only [decide_eq_true_eq] at hw
      exact sn_clone C (hts _ (xlw_in hw)) (hts _ (xW_at 242 rfl rfl)) (hts _ (xW_at 243 rfl rfl)) (hts _ (xW_at 244 rfl rfl)) (hts _ (xW_at 245 rfl rfl)) hN.2.2.1 hd hst hp
    rw [if_neg hb6] at hw
    simp only [Bool.and_eq_true, decide_eq_true_eq] at hw
    obtain ⟨hw, hk⟩ := hw
    unfold xvc at hw
    by_cases hb2 : b = 2 * 1
    · rw [if_pos hb2] at hw
      simp only [Bool.and_eq_true, decide_eq_true_eq] at hw
      obtain ⟨ha, hw⟩ := hw
      have CC := x_callee ha
      obtain ⟨g1, g2, g3, g4⟩ := CC.2.2.1 hk
      subst hb2
      exact sn_callV C CC.1 g4 g3 g1 g2 (hts _ (xlw_in hw)) hd hst hp
    · rw [if_neg hb2] at hw
      simp only [Bool.and_eq_true, decide_eq_true_eq] at hw
      obtain ⟨⟨hb3, ha⟩, hw⟩ := hw
      have CC := x_callee ha
      obtain ⟨g1, g2, g3, g4⟩ := CC.2.2.1 hk
      subst hb3
      exact sn_callVN C CC.1 g4 g3 g1 g2 (xN_m hN hw) hd hst hp
  case invokestatic idx =>
    unfold xvi at hrow; simp only [Bool.and_eq_true, decide_eq_true_eq] at hrow
    obtain ⟨rfl, hw⟩ := hrow
    by_cases hb6 : b = 8
    · subst hb6
      rw [if_pos rfl] at hw
      unfold xvk at hw; simp only [decide_eq_true_eq] at hw
      exact sn_arraycopy C (hts _ (xlw_in hw)) (hts _ (xW_at 253 rfl rfl)) (hts _ (xW_at 252 rfl rfl)) (hts _ (xW_at 65 rfl rfl)) hd hst hp
    rw [if_neg hb6] at hw
    by_cases hb7 : b = 9
    · subst hb7
      rw [if_pos rfl] at hw
      unfold xvk at hw; simp only [decide_eq_true_eq] at hw
      exact sn_max C (hts _ (xlw_in hw)) (hts _ (xW_at 295 rfl rfl)) (hts _ (xW_at 64 rfl rfl)) (hts _ (xW_at 296 rfl rfl)) hd hst hp
    rw [if_neg hb7] at hw
    by_cases hb8 : b = 10
    · subst hb8
      rw [if_pos rfl] at hw
      unfold xvk at hw; simp only [decide_eq_true_eq] at hw
      exact sn_min C (hts _ (xlw_in hw)) (hts _ (xW_at 249 rfl rfl)) (hts _ (xW_at 64 rfl rfl)) (hts _ (xW_at 250 rfl rfl)) hd hst hp
    rw [if_neg hb8] at hw
    simp only [Bool.and_eq_true, decide_eq_true_eq] at hw
    obtain ⟨hw, hk⟩ := hw
    unfold xvc at hw
    by_cases hb2 : b = 2 * 2
    · rw [if_pos hb2] at hw
      simp only [Bool.and_eq_true, decide_eq_true_eq] at hw
      obtain ⟨ha, hw⟩ := hw
      have CC := x_callee ha
      obtain ⟨g1, g2⟩ := CC.2.1 hk
      subst hb2
      exact sn_callS C CC.1 g2 g1 (hts _ (xlw_in hw)) hd hst hp
    · rw [if_neg hb2] at hw
      simp only [Bool.and_eq_true, decide_eq_true_eq] at hw
      obtain ⟨⟨hb3, ha⟩, hw⟩ := hw
      have CC := x_callee ha
      obtain ⟨g1, g2⟩ := CC.2.1 hk
      subst hb3
      exact sn_callSN C CC.1 g2 g1 (xN_m hN hw) hd hst hp
  case ireturn =>
    unfold xvi at hrow; simp only [Bool.and_eq_true, decide_eq_true_eq] at hrow
    obtain ⟨rfl, hr⟩ := hrow
    match st, hst with
    | [.inl x], hst =>
      obtain ⟨h1, rfl⟩ := hst
      have hk : K (some (.inl x)) σ := hp
      refine ⟨hret.1 _ _ hk, fun H locs L n1 n2 hR hl hL => hret.2.1 pc' H locs L σ x hk n1 n2 hR hl hd ?_⟩
      by_cases ha : a = 1
      · rw [if_pos ha] at hr
        simp only [decide_eq_true_eq] at hr
        exact Or.inr ⟨hr, h1 ha⟩
      · rw [if_neg ha] at hr
        simp only [decide_eq_true_eq] at hr
        exact Or.inl hr
  case areturn =>
    unfold xvi at hrow; simp only [Bool.and_eq_true, decide_eq_true_eq] at hrow
    obtain ⟨rfl, hr⟩ := hrow
    match st, hst with
    | [.inr q], hst =>
      have hst : o = .inr (some (.inr q), σ) := hst
      subst hst
      have hk : K (some (.inr q)) σ := hp
      refine ⟨hret.1 _ _ hk, fun H locs L n1 n2 hR hl hL => hret.2.2.1 pc' H locs L σ q hk n1 n2 hR hl hd ?_⟩
      match rt, hr with
      | some (.object n), _ => exact ⟨_, rfl, Or.inl ⟨n, rfl⟩⟩
      | some (.array n), _ => exact ⟨_, rfl, Or.inr ⟨n, rfl⟩⟩
  case return_ =>
    unfold xvi at hrow; simp only [Bool.and_eq_true, decide_eq_true_eq] at hrow
    obtain ⟨rfl, hr⟩ := hrow
    match st, hst with
    | [], hst =>
      have hst : o = .inr (none, σ) := hst
      subst hst
      have hk : K none σ := hp
      exact ⟨hret.1 _ _ hk, fun H locs L n1 n2 hR hl hL => hret.2.2.2 pc' H locs L σ hk n1 n2 hR hl hd hr⟩
  all_goals exact hst.elim
end XALL
