section
-- ===== PART A: goes FIRST, ahead of the names: the tables' words, and 'selects' of the private methods out of them =====
/-- a private method of a class that the tables say can be made, by its rows of tables_1 -/
def lw_okq (q : MethodName × Nat) : Prop := (q.1.cls ≠ "java/lang/invoke/MethodHandle" ∧ q.1.cls ≠ "java/lang/invoke/VarHandle") ∧ Cond.instantiable q.1.cls q.2 ∈ tables_1 ∧ Cond.privateMethod q.1 ∈ tables_1 ∧ Cond.instanceMethod q.1 ∈ tables_1
theorem lw_p0 : lw_okq (⟨"RenameMerge$Side", "pairEqualFiles", "(LRenameMerge$Tree;LRenameMerge$Tree;)V"⟩, 6) := ⟨⟨by decide +kernel, by decide +kernel⟩, List.mem_of_getElem? (i := 30) (by decide +kernel), List.mem_of_getElem? (i := 266) (by decide +kernel), List.mem_of_getElem? (i := 267) (by decide +kernel)⟩
theorem lw_p1 : lw_okq (⟨"RenameMerge$Side", "findEqualSource", "(LRenameMerge$Tree;LRenameMerge$TreeFile;I)I"⟩, 6) := ⟨⟨by decide +kernel, by decide +kernel⟩, List.mem_of_getElem? (i := 30) (by decide +kernel), List.mem_of_getElem? (i := 274) (by decide +kernel), List.mem_of_getElem? (i := 275) (by decide +kernel)⟩
theorem lw_p2 : lw_okq (⟨"RenameMerge$Side", "pair", "(II)V"⟩, 6) := ⟨⟨by decide +kernel, by decide +kernel⟩, List.mem_of_getElem? (i := 30) (by decide +kernel), List.mem_of_getElem? (i := 285) (by decide +kernel), List.mem_of_getElem? (i := 286) (by decide +kernel)⟩
theorem lw_p3 : lw_okq (⟨"RenameMerge$Side", "pairOnlyNames", "(LRenameMerge$Tree;LRenameMerge$Tree;I)V"⟩, 6) := ⟨⟨by decide +kernel, by decide +kernel⟩, List.mem_of_getElem? (i := 30) (by decide +kernel), List.mem_of_getElem? (i := 289) (by decide +kernel), List.mem_of_getElem? (i := 290) (by decide +kernel)⟩
theorem lw_p4 : lw_okq (⟨"RenameMerge$TreeFile", "countShared", "(LRenameMerge$TreeFile;)I"⟩, 2) := ⟨⟨by decide +kernel, by decide +kernel⟩, List.mem_of_getElem? (i := 180) (by decide +kernel), List.mem_of_getElem? (i := 300) (by decide +kernel), List.mem_of_getElem? (i := 301) (by decide +kernel)⟩
theorem lw_p5 : lw_okq (⟨"RenameMerge$Side", "pairByScore", "(LRenameMerge$Tree;LRenameMerge$Tree;I)V"⟩, 6) := ⟨⟨by decide +kernel, by decide +kernel⟩, List.mem_of_getElem? (i := 30) (by decide +kernel), List.mem_of_getElem? (i := 305) (by decide +kernel), List.mem_of_getElem? (i := 306) (by decide +kernel)⟩
theorem lw_p6 : lw_okq (⟨"RenameMerge$Side", "pairBest", "(LRenameMerge$Tree;LRenameMerge$Tree;I)V"⟩, 6) := ⟨⟨by decide +kernel, by decide +kernel⟩, List.mem_of_getElem? (i := 30) (by decide +kernel), List.mem_of_getElem? (i := 313) (by decide +kernel), List.mem_of_getElem? (i := 314) (by decide +kernel)⟩
theorem lw_p7 : lw_okq (⟨"RenameMerge$Side", "findPlace", "(I)I"⟩, 6) := ⟨⟨by decide +kernel, by decide +kernel⟩, List.mem_of_getElem? (i := 30) (by decide +kernel), List.mem_of_getElem? (i := 326) (by decide +kernel), List.mem_of_getElem? (i := 327) (by decide +kernel)⟩
theorem lw_p8 : lw_okq (⟨"RenameMerge$Side", "countRenames", "(II)I"⟩, 6) := ⟨⟨by decide +kernel, by decide +kernel⟩, List.mem_of_getElem? (i := 30) (by decide +kernel), List.mem_of_getElem? (i := 330) (by decide +kernel), List.mem_of_getElem? (i := 331) (by decide +kernel)⟩
theorem lw_p9 : lw_okq (⟨"RenameMerge$Side", "findWanted", "(LRenameMerge$Tree;LRenameMerge$Tree;LRenameMerge$Side;)V"⟩, 6) := ⟨⟨by decide +kernel, by decide +kernel⟩, List.mem_of_getElem? (i := 30) (by decide +kernel), List.mem_of_getElem? (i := 341) (by decide +kernel), List.mem_of_getElem? (i := 342) (by decide +kernel)⟩
theorem lw_p10 : lw_okq (⟨"RenameMerge$Side", "countWanted", "(I)I"⟩, 6) := ⟨⟨by decide +kernel, by decide +kernel⟩, List.mem_of_getElem? (i := 30) (by decide +kernel), List.mem_of_getElem? (i := 349) (by decide +kernel), List.mem_of_getElem? (i := 350) (by decide +kernel)⟩
theorem lw_p11 : lw_okq (⟨"RenameMerge$Merger", "carryByBoth", "(III)V"⟩, 5) := ⟨⟨by decide +kernel, by decide +kernel⟩, List.mem_of_getElem? (i := 23) (by decide +kernel), List.mem_of_getElem? (i := 372) (by decide +kernel), List.mem_of_getElem? (i := 373) (by decide +kernel)⟩
theorem lw_p12 : lw_okq (⟨"RenameMerge$Merger", "mark", "(II)V"⟩, 5) := ⟨⟨by decide +kernel, by decide +kernel⟩, List.mem_of_getElem? (i := 23) (by decide +kernel), List.mem_of_getElem? (i := 381) (by decide +kernel), List.mem_of_getElem? (i := 382) (by decide +kernel)⟩
theorem lw_p13 : lw_okq (⟨"RenameMerge$Merger", "carryByOne", "(IIII)V"⟩, 5) := ⟨⟨by decide +kernel, by decide +kernel⟩, List.mem_of_getElem? (i := 23) (by decide +kernel), List.mem_of_getElem? (i := 386) (by decide +kernel), List.mem_of_getElem? (i := 387) (by decide +kernel)⟩
theorem lw_p14 : lw_okq (⟨"RenameMerge$Merger", "mergeFiles", "(ILRenameMerge$TreeFile;LRenameMerge$TreeFile;LRenameMerge$TreeFile;I)LRenameMerge$TreeFile;"⟩, 5) := ⟨⟨by decide +kernel, by decide +kernel⟩, List.mem_of_getElem? (i := 23) (by decide +kernel), List.mem_of_getElem? (i := 393) (by decide +kernel), List.mem_of_getElem? (i := 394) (by decide +kernel)⟩
theorem lw_p15 : lw_okq (⟨"RenameMerge$LineMerge", "match", "([I[I[I)V"⟩, 9) := ⟨⟨by decide +kernel, by decide +kernel⟩, List.mem_of_getElem? (i := 60) (by decide +kernel), List.mem_of_getElem? (i := 403) (by decide +kernel), List.mem_of_getElem? (i := 404) (by decide +kernel)⟩
def lw_privs_1 : List (MethodName × Nat) := [(⟨"RenameMerge$Side", "pairEqualFiles", "(LRenameMerge$Tree;LRenameMerge$Tree;)V"⟩, 6), (⟨"RenameMerge$Side", "findEqualSource", "(LRenameMerge$Tree;LRenameMerge$TreeFile;I)I"⟩, 6), (⟨"RenameMerge$Side", "pair", "(II)V"⟩, 6), (⟨"RenameMerge$Side", "pairOnlyNames", "(LRenameMerge$Tree;LRenameMerge$Tree;I)V"⟩, 6), (⟨"RenameMerge$TreeFile", "countShared", "(LRenameMerge$TreeFile;)I"⟩, 2), (⟨"RenameMerge$Side", "pairByScore", "(LRenameMerge$Tree;LRenameMerge$Tree;I)V"⟩, 6), (⟨"RenameMerge$Side", "pairBest", "(LRenameMerge$Tree;LRenameMerge$Tree;I)V"⟩, 6), (⟨"RenameMerge$Side", "findPlace", "(I)I"⟩, 6), (⟨"RenameMerge$Side", "countRenames", "(II)I"⟩, 6), (⟨"RenameMerge$Side", "findWanted", "(LRenameMerge$Tree;LRenameMerge$Tree;LRenameMerge$Side;)V"⟩, 6), (⟨"RenameMerge$Side", "countWanted", "(I)I"⟩, 6), (⟨"RenameMerge$Merger", "carryByBoth", "(III)V"⟩, 5), (⟨"RenameMerge$Merger", "mark", "(II)V"⟩, 5), (⟨"RenameMerge$Merger", "carryByOne", "(IIII)V"⟩, 5), (⟨"RenameMerge$Merger", "mergeFiles", "(ILRenameMerge$TreeFile;LRenameMerge$TreeFile;LRenameMerge$TreeFile;I)LRenameMerge$TreeFile;"⟩, 5), (⟨"RenameMerge$LineMerge", "match", "([I[I[I)V"⟩, 9)]
theorem lw_r1 : ∀ q ∈ lw_privs_1, lw_okq q := List.forall_mem_cons.mpr ⟨lw_p0, List.forall_mem_cons.mpr ⟨lw_p1, List.forall_mem_cons.mpr ⟨lw_p2, List.forall_mem_cons.mpr ⟨lw_p3, List.forall_mem_cons.mpr ⟨lw_p4, List.forall_mem_cons.mpr ⟨lw_p5, List.forall_mem_cons.mpr ⟨lw_p6, List.forall_mem_cons.mpr ⟨lw_p7, List.forall_mem_cons.mpr ⟨lw_p8, List.forall_mem_cons.mpr ⟨lw_p9, List.forall_mem_cons.mpr ⟨lw_p10, List.forall_mem_cons.mpr ⟨lw_p11, List.forall_mem_cons.mpr ⟨lw_p12, List.forall_mem_cons.mpr ⟨lw_p13, List.forall_mem_cons.mpr ⟨lw_p14, List.forall_mem_cons.mpr ⟨lw_p15, fun _ h => absurd h List.not_mem_nil⟩⟩⟩⟩⟩⟩⟩⟩⟩⟩⟩⟩⟩⟩⟩⟩
theorem lw_p16 : lw_okq (⟨"RenameMerge$LineMerge", "countCommon", "([II[II)V"⟩, 9) := ⟨⟨by decide +kernel, by decide +kernel⟩, List.mem_of_getElem? (i := 60) (by decide +kernel), List.mem_of_getElem? (i := 408) (by decide +kernel), List.mem_of_getElem? (i := 409) (by decide +kernel)⟩
theorem lw_p17 : lw_okq (⟨"RenameMerge$LineMerge", "writeGap", "(I)V"⟩, 9) := ⟨⟨by decide +kernel, by decide +kernel⟩, List.mem_of_getElem? (i := 60) (by decide +kernel), List.mem_of_getElem? (i := 421) (by decide +kernel), List.mem_of_getElem? (i := 422) (by decide +kernel)⟩
theorem lw_p18 : lw_okq (⟨"RenameMerge$LineMerge", "writeLines", "(LRenameMerge$Part;II)V"⟩, 9) := ⟨⟨by decide +kernel, by decide +kernel⟩, List.mem_of_getElem? (i := 60) (by decide +kernel), List.mem_of_getElem? (i := 429) (by decide +kernel), List.mem_of_getElem? (i := 430) (by decide +kernel)⟩
theorem lw_p19 : lw_okq (⟨"RenameMerge$LineMerge", "write", "(I)V"⟩, 9) := ⟨⟨by decide +kernel, by decide +kernel⟩, List.mem_of_getElem? (i := 60) (by decide +kernel), List.mem_of_getElem? (i := 442) (by decide +kernel), List.mem_of_getElem? (i := 443) (by decide +kernel)⟩
theorem lw_p20 : lw_okq (⟨"RenameMerge", "findFile", "(II)LRenameMerge$TreeFile;"⟩, 5) := ⟨⟨by decide +kernel, by decide +kernel⟩, List.mem_of_getElem? (i := 13) (by decide +kernel), List.mem_of_getElem? (i := 484) (by decide +kernel), List.mem_of_getElem? (i := 485) (by decide +kernel)⟩
theorem lw_p21 : lw_okq (⟨"RenameMergeModel", "has", "(II)Z"⟩, 20) := ⟨⟨by decide +kernel, by decide +kernel⟩, List.mem_of_getElem? (i := 541) (by decide +kernel), List.mem_of_getElem? (i := 613) (by decide +kernel), List.mem_of_getElem? (i := 614) (by decide +kernel)⟩
theorem lw_p22 : lw_okq (⟨"RenameMergeModel", "erase", "(II)V"⟩, 20) := ⟨⟨by decide +kernel, by decide +kernel⟩, List.mem_of_getElem? (i := 541) (by decide +kernel), List.mem_of_getElem? (i := 629) (by decide +kernel), List.mem_of_getElem? (i := 630) (by decide +kernel)⟩
theorem lw_p23 : lw_okq (⟨"RenameMergeModel", "copyFile", "(IIII)V"⟩, 20) := ⟨⟨by decide +kernel, by decide +kernel⟩, List.mem_of_getElem? (i := 541) (by decide +kernel), List.mem_of_getElem? (i := 637) (by decide +kernel), List.mem_of_getElem? (i := 638) (by decide +kernel)⟩
theorem lw_p24 : lw_okq (⟨"RenameMergeModel", "likeness", "(III)I"⟩, 20) := ⟨⟨by decide +kernel, by decide +kernel⟩, List.mem_of_getElem? (i := 541) (by decide +kernel), List.mem_of_getElem? (i := 653) (by decide +kernel), List.mem_of_getElem? (i := 654) (by decide +kernel)⟩
theorem lw_p25 : lw_okq (⟨"RenameMergeModel", "often", "(III)I"⟩, 20) := ⟨⟨by decide +kernel, by decide +kernel⟩, List.mem_of_getElem? (i := 541) (by decide +kernel), List.mem_of_getElem? (i := 657) (by decide +kernel), List.mem_of_getElem? (i := 658) (by decide +kernel)⟩
theorem lw_p26 : lw_okq (⟨"RenameMergeModel", "renames", "(I)V"⟩, 20) := ⟨⟨by decide +kernel, by decide +kernel⟩, List.mem_of_getElem? (i := 541) (by decide +kernel), List.mem_of_getElem? (i := 665) (by decide +kernel), List.mem_of_getElem? (i := 666) (by decide +kernel)⟩
theorem lw_p27 : lw_okq (⟨"RenameMergeModel", "exact", "(I)V"⟩, 20) := ⟨⟨by decide +kernel, by decide +kernel⟩, List.mem_of_getElem? (i := 541) (by decide +kernel), List.mem_of_getElem? (i := 669) (by decide +kernel), List.mem_of_getElem? (i := 670) (by decide +kernel)⟩
theorem lw_p28 : lw_okq (⟨"RenameMergeModel", "targetLeft", "(II)Z"⟩, 20) := ⟨⟨by decide +kernel, by decide +kernel⟩, List.mem_of_getElem? (i := 541) (by decide +kernel), List.mem_of_getElem? (i := 673) (by decide +kernel), List.mem_of_getElem? (i := 674) (by decide +kernel)⟩
theorem lw_p29 : lw_okq (⟨"RenameMergeModel", "sourceLeft", "(II)Z"⟩, 20) := ⟨⟨by decide +kernel, by decide +kernel⟩, List.mem_of_getElem? (i := 541) (by decide +kernel), List.mem_of_getElem? (i := 677) (by decide +kernel), List.mem_of_getElem? (i := 678) (by decide +kernel)⟩
theorem lw_p30 : lw_okq (⟨"RenameMergeModel", "alike", "(IIII)Z"⟩, 20) := ⟨⟨by decide +kernel, by decide +kernel⟩, List.mem_of_getElem? (i := 541) (by decide +kernel), List.mem_of_getElem? (i := 681) (by decide +kernel), List.mem_of_getElem? (i := 682) (by decide +kernel)⟩
theorem lw_p31 : lw_okq (⟨"RenameMergeModel", "join", "(III)V"⟩, 20) := ⟨⟨by decide +kernel, by decide +kernel⟩, List.mem_of_getElem? (i := 541) (by decide +kernel), List.mem_of_getElem? (i := 685) (by decide +kernel), List.mem_of_getElem? (i := 686) (by decide +kernel)⟩
def lw_privs_2 : List (MethodName × Nat) := [(⟨"RenameMerge$LineMerge", "countCommon", "([II[II)V"⟩, 9), (⟨"RenameMerge$LineMerge", "writeGap", "(I)V"⟩, 9), (⟨"RenameMerge$LineMerge", "writeLines", "(LRenameMerge$Part;II)V"⟩, 9), (⟨"RenameMerge$LineMerge", "write", "(I)V"⟩, 9), (⟨"RenameMerge", "findFile", "(II)LRenameMerge$TreeFile;"⟩, 5), (⟨"RenameMergeModel", "has", "(II)Z"⟩, 20), (⟨"RenameMergeModel", "erase", "(II)V"⟩, 20), (⟨"RenameMergeModel", "copyFile", "(IIII)V"⟩, 20), (⟨"RenameMergeModel", "likeness", "(III)I"⟩, 20), (⟨"RenameMergeModel", "often", "(III)I"⟩, 20), (⟨"RenameMergeModel", "renames", "(I)V"⟩, 20), (⟨"RenameMergeModel", "exact", "(I)V"⟩, 20), (⟨"RenameMergeModel", "targetLeft", "(II)Z"⟩, 20), (⟨"RenameMergeModel", "sourceLeft", "(II)Z"⟩, 20), (⟨"RenameMergeModel", "alike", "(IIII)Z"⟩, 20), (⟨"RenameMergeModel", "join", "(III)V"⟩, 20)]
theorem lw_r2 : ∀ q ∈ lw_privs_2, lw_okq q := List.forall_mem_cons.mpr ⟨lw_p16, List.forall_mem_cons.mpr ⟨lw_p17, List.forall_mem_cons.mpr ⟨lw_p18, List.forall_mem_cons.mpr ⟨lw_p19, List.forall_mem_cons.mpr ⟨lw_p20, List.forall_mem_cons.mpr ⟨lw_p21, List.forall_mem_cons.mpr ⟨lw_p22, List.forall_mem_cons.mpr ⟨lw_p23, List.forall_mem_cons.mpr ⟨lw_p24, List.forall_mem_cons.mpr ⟨lw_p25, List.forall_mem_cons.mpr ⟨lw_p26, List.forall_mem_cons.mpr ⟨lw_p27, List.forall_mem_cons.mpr ⟨lw_p28, List.forall_mem_cons.mpr ⟨lw_p29, List.forall_mem_cons.mpr ⟨lw_p30, List.forall_mem_cons.mpr ⟨lw_p31, fun _ h => absurd h List.not_mem_nil⟩⟩⟩⟩⟩⟩⟩⟩⟩⟩⟩⟩⟩⟩⟩⟩
theorem lw_p32 : lw_okq (⟨"RenameMergeModel", "names", "(I)V"⟩, 20) := ⟨⟨by decide +kernel, by decide +kernel⟩, List.mem_of_getElem? (i := 541) (by decide +kernel), List.mem_of_getElem? (i := 689) (by decide +kernel), List.mem_of_getElem? (i := 690) (by decide +kernel)⟩
theorem lw_p33 : lw_okq (⟨"RenameMergeModel", "lefts", "(IZ)I"⟩, 20) := ⟨⟨by decide +kernel, by decide +kernel⟩, List.mem_of_getElem? (i := 541) (by decide +kernel), List.mem_of_getElem? (i := 694) (by decide +kernel), List.mem_of_getElem? (i := 695) (by decide +kernel)⟩
theorem lw_p34 : lw_okq (⟨"RenameMergeModel", "bestLeft", "(I)I"⟩, 20) := ⟨⟨by decide +kernel, by decide +kernel⟩, List.mem_of_getElem? (i := 541) (by decide +kernel), List.mem_of_getElem? (i := 698) (by decide +kernel), List.mem_of_getElem? (i := 699) (by decide +kernel)⟩
theorem lw_p35 : lw_okq (⟨"RenameMergeModel", "newPlaceOf", "(II)I"⟩, 20) := ⟨⟨by decide +kernel, by decide +kernel⟩, List.mem_of_getElem? (i := 541) (by decide +kernel), List.mem_of_getElem? (i := 702) (by decide +kernel), List.mem_of_getElem? (i := 703) (by decide +kernel)⟩
theorem lw_p36 : lw_okq (⟨"RenameMergeModel", "moved", "(III)I"⟩, 20) := ⟨⟨by decide +kernel, by decide +kernel⟩, List.mem_of_getElem? (i := 541) (by decide +kernel), List.mem_of_getElem? (i := 706) (by decide +kernel), List.mem_of_getElem? (i := 707) (by decide +kernel)⟩
theorem lw_p37 : lw_okq (⟨"RenameMergeModel", "settle", "(II)V"⟩, 20) := ⟨⟨by decide +kernel, by decide +kernel⟩, List.mem_of_getElem? (i := 541) (by decide +kernel), List.mem_of_getElem? (i := 710) (by decide +kernel), List.mem_of_getElem? (i := 711) (by decide +kernel)⟩
theorem lw_p38 : lw_okq (⟨"RenameMergeModel", "wanted", "(II)I"⟩, 20) := ⟨⟨by decide +kernel, by decide +kernel⟩, List.mem_of_getElem? (i := 541) (by decide +kernel), List.mem_of_getElem? (i := 714) (by decide +kernel), List.mem_of_getElem? (i := 715) (by decide +kernel)⟩
theorem lw_p39 : lw_okq (⟨"RenameMergeModel", "versions", "()V"⟩, 20) := ⟨⟨by decide +kernel, by decide +kernel⟩, List.mem_of_getElem? (i := 541) (by decide +kernel), List.mem_of_getElem? (i := 718) (by decide +kernel), List.mem_of_getElem? (i := 719) (by decide +kernel)⟩
theorem lw_p40 : lw_okq (⟨"RenameMergeModel", "follow", "(I)V"⟩, 20) := ⟨⟨by decide +kernel, by decide +kernel⟩, List.mem_of_getElem? (i := 541) (by decide +kernel), List.mem_of_getElem? (i := 722) (by decide +kernel), List.mem_of_getElem? (i := 723) (by decide +kernel)⟩
theorem lw_p41 : lw_okq (⟨"RenameMergeModel", "go", "(III)V"⟩, 20) := ⟨⟨by decide +kernel, by decide +kernel⟩, List.mem_of_getElem? (i := 541) (by decide +kernel), List.mem_of_getElem? (i := 726) (by decide +kernel), List.mem_of_getElem? (i := 727) (by decide +kernel)⟩
theorem lw_p42 : lw_okq (⟨"RenameMergeModel", "alone", "(III)V"⟩, 20) := ⟨⟨by decide +kernel, by decide +kernel⟩, List.mem_of_getElem? (i := 541) (by decide +kernel), List.mem_of_getElem? (i := 730) (by decide +kernel), List.mem_of_getElem? (i := 731) (by decide +kernel)⟩
theorem lw_p43 : lw_okq (⟨"RenameMergeModel", "mergeFiles", "(III)V"⟩, 20) := ⟨⟨by decide +kernel, by decide +kernel⟩, List.mem_of_getElem? (i := 541) (by decide +kernel), List.mem_of_getElem? (i := 734) (by decide +kernel), List.mem_of_getElem? (i := 735) (by decide +kernel)⟩
theorem lw_p44 : lw_okq (⟨"RenameMergeModel", "takeFile", "(II)V"⟩, 20) := ⟨⟨by decide +kernel, by decide +kernel⟩, List.mem_of_getElem? (i := 541) (by decide +kernel), List.mem_of_getElem? (i := 738) (by decide +kernel), List.mem_of_getElem? (i := 739) (by decide +kernel)⟩
theorem lw_p45 : lw_okq (⟨"RenameMergeModel", "write", "(I)V"⟩, 20) := ⟨⟨by decide +kernel, by decide +kernel⟩, List.mem_of_getElem? (i := 541) (by decide +kernel), List.mem_of_getElem? (i := 742) (by decide +kernel), List.mem_of_getElem? (i := 743) (by decide +kernel)⟩
theorem lw_p46 : lw_okq (⟨"RenameMergeModel", "mergeLines", "(III)V"⟩, 20) := ⟨⟨by decide +kernel, by decide +kernel⟩, List.mem_of_getElem? (i := 541) (by decide +kernel), List.mem_of_getElem? (i := 746) (by decide +kernel), List.mem_of_getElem? (i := 747) (by decide +kernel)⟩
theorem lw_p47 : lw_okq (⟨"RenameMergeModel", "match", "(IIII)V"⟩, 20) := ⟨⟨by decide +kernel, by decide +kernel⟩, List.mem_of_getElem? (i := 541) (by decide +kernel), List.mem_of_getElem? (i := 750) (by decide +kernel), List.mem_of_getElem? (i := 751) (by decide +kernel)⟩
def lw_privs_3 : List (MethodName × Nat) := [(⟨"RenameMergeModel", "names", "(I)V"⟩, 20), (⟨"RenameMergeModel", "lefts", "(IZ)I"⟩, 20), (⟨"RenameMergeModel", "bestLeft", "(I)I"⟩, 20), (⟨"RenameMergeModel", "newPlaceOf", "(II)I"⟩, 20), (⟨"RenameMergeModel", "moved", "(III)I"⟩, 20), (⟨"RenameMergeModel", "settle", "(II)V"⟩, 20), (⟨"RenameMergeModel", "wanted", "(II)I"⟩, 20), (⟨"RenameMergeModel", "versions", "()V"⟩, 20), (⟨"RenameMergeModel", "follow", "(I)V"⟩, 20), (⟨"RenameMergeModel", "go", "(III)V"⟩, 20), (⟨"RenameMergeModel", "alone", "(III)V"⟩, 20), (⟨"RenameMergeModel", "mergeFiles", "(III)V"⟩, 20), (⟨"RenameMergeModel", "takeFile", "(II)V"⟩, 20), (⟨"RenameMergeModel", "write", "(I)V"⟩, 20), (⟨"RenameMergeModel", "mergeLines", "(III)V"⟩, 20), (⟨"RenameMergeModel", "match", "(IIII)V"⟩, 20)]
theorem lw_r3 : ∀ q ∈ lw_privs_3, lw_okq q := List.forall_mem_cons.mpr ⟨lw_p32, List.forall_mem_cons.mpr ⟨lw_p33, List.forall_mem_cons.mpr ⟨lw_p34, List.forall_mem_cons.mpr ⟨lw_p35, List.forall_mem_cons.mpr ⟨lw_p36, List.forall_mem_cons.mpr ⟨lw_p37, List.forall_mem_cons.mpr ⟨lw_p38, List.forall_mem_cons.mpr ⟨lw_p39, List.forall_mem_cons.mpr ⟨lw_p40, List.forall_mem_cons.mpr ⟨lw_p41, List.forall_mem_cons.mpr ⟨lw_p42, List.forall_mem_cons.mpr ⟨lw_p43, List.forall_mem_cons.mpr ⟨lw_p44, List.forall_mem_cons.mpr ⟨lw_p45, List.forall_mem_cons.mpr ⟨lw_p46, List.forall_mem_cons.mpr ⟨lw_p47, fun _ h => absurd h List.not_mem_nil⟩⟩⟩⟩⟩⟩⟩⟩⟩⟩⟩⟩⟩⟩⟩⟩
theorem lw_p48 : lw_okq (⟨"RenameMergeModel", "fits", "(IIII)Z"⟩, 20) := ⟨⟨by decide +kernel, by decide +kernel⟩, List.mem_of_getElem? (i := 541) (by decide +kernel), List.mem_of_getElem? (i := 757) (by decide +kernel), List.mem_of_getElem? (i := 758) (by decide +kernel)⟩
theorem lw_p49 : lw_okq (⟨"RenameMergeModel", "gap", "(IIIIII)V"⟩, 20) := ⟨⟨by decide +kernel, by decide +kernel⟩, List.mem_of_getElem? (i := 541) (by decide +kernel), List.mem_of_getElem? (i := 761) (by decide +kernel), List.mem_of_getElem? (i := 762) (by decide +kernel)⟩
theorem lw_p50 : lw_okq (⟨"RenameMergeModel", "same", "(IIII)Z"⟩, 20) := ⟨⟨by decide +kernel, by decide +kernel⟩, List.mem_of_getElem? (i := 541) (by decide +kernel), List.mem_of_getElem? (i := 765) (by decide +kernel), List.mem_of_getElem? (i := 766) (by decide +kernel)⟩
theorem lw_p51 : lw_okq (⟨"RenameMergeModel", "writeAll", "(II)V"⟩, 20) := ⟨⟨by decide +kernel, by decide +kernel⟩, List.mem_of_getElem? (i := 541) (by decide +kernel), List.mem_of_getElem? (i := 769) (by decide +kernel), List.mem_of_getElem? (i := 770) (by decide +kernel)⟩
theorem lw_p52 : lw_okq (⟨"RenameMergeModel", "putOut", "(II)V"⟩, 20) := ⟨⟨by decide +kernel, by decide +kernel⟩, List.mem_of_getElem? (i := 541) (by decide +kernel), List.mem_of_getElem? (i := 773) (by decide +kernel), List.mem_of_getElem? (i := 774) (by decide +kernel)⟩
theorem lw_p53 : lw_okq (⟨"RenameMergeModel", "finish", "(I)V"⟩, 20) := ⟨⟨by decide +kernel, by decide +kernel⟩, List.mem_of_getElem? (i := 541) (by decide +kernel), List.mem_of_getElem? (i := 777) (by decide +kernel), List.mem_of_getElem? (i := 778) (by decide +kernel)⟩
def lw_privs_4 : List (MethodName × Nat) := [(⟨"RenameMergeModel", "fits", "(IIII)Z"⟩, 20), (⟨"RenameMergeModel", "gap", "(IIIIII)V"⟩, 20), (⟨"RenameMergeModel", "same", "(IIII)Z"⟩, 20), (⟨"RenameMergeModel", "writeAll", "(II)V"⟩, 20), (⟨"RenameMergeModel", "putOut", "(II)V"⟩, 20), (⟨"RenameMergeModel", "finish", "(I)V"⟩, 20)]
theorem lw_r4 : ∀ q ∈ lw_privs_4, lw_okq q := List.forall_mem_cons.mpr ⟨lw_p48, List.forall_mem_cons.mpr ⟨lw_p49, List.forall_mem_cons.mpr ⟨lw_p50, List.forall_mem_cons.mpr ⟨lw_p51, List.forall_mem_cons.mpr ⟨lw_p52, List.forall_mem_cons.mpr ⟨lw_p53, fun _ h => absurd h List.not_mem_nil⟩⟩⟩⟩⟩⟩
def lw_privs : List (MethodName × Nat) := lw_privs_1 ++ (lw_privs_2 ++ (lw_privs_3 ++ (lw_privs_4)))
def lw_tbl : List Cond := k2_sels lw_privs ++ tables_1
theorem lw_privs_ok : ∀ q ∈ lw_privs, lw_okq q := by
  show ∀ q ∈ lw_privs_1 ++ (lw_privs_2 ++ (lw_privs_3 ++ (lw_privs_4))), lw_okq q
  exact List.forall_mem_append.mpr ⟨lw_r1, List.forall_mem_append.mpr ⟨lw_r2, List.forall_mem_append.mpr ⟨lw_r3, lw_r4⟩⟩⟩
end
section
/-! NAMES: printed by program (wip/whole/prog/gen.py) out of the Statement: the kinds of objects with their fields, the methods with their bytes, the rows of their instructions. -/
abbrev xV : Type := Int32 ⊕ Option Nat
/-- a row of a method's table: pc, instruction, length, two numbers that say what the constant pool says (or a branch's target), the place of its word in the tables -/
abbrev xI : Type := Nat × Instr × Nat × Nat × Nat × Nat
def xT0 : u_T := fun k => match k with
  | 0 => ("RenameMerge", "trees", "[LRenameMerge$Tree;", true)
  | 1 => ("RenameMerge", "merger", "LRenameMerge$Merger;", true)
  | 2 => ("RenameMerge", "threshold", "I", true)
  | 3 => ("RenameMerge", "chosenStyle", "I", false)
  | _ => ("RenameMerge", "hasMerged", "Z", false)
def xt0 : Nat → FieldType := fun k => match k with
  | 0 => (.array (.object "RenameMerge$Tree"))
  | 1 => (.object "RenameMerge$Merger")
  | 2 => .int
  | 3 => .int
  | _ => .boolean
def xT1 : u_T := fun k => match k with
  | 0 => ("RenameMerge$TreeFile", "link", "Z", true)
  | _ => ("RenameMerge$TreeFile", "lines", "[I", true)
def xt1 : Nat → FieldType := fun k => match k with
  | 0 => .boolean
  | _ => (.array .int)
def xT2 : u_T := fun k => match k with
  | _ => ("RenameMerge$Tree", "files", "[LRenameMerge$TreeFile;", true)
def xt2 : Nat → FieldType := fun k => match k with
  | _ => (.array (.object "RenameMerge$TreeFile"))
def xT3 : u_T := fun k => match k with
  | 0 => ("RenameMerge$Side", "targets", "[I", true)
  | 1 => ("RenameMerge$Side", "sourceLeft", "[Z", true)
  | 2 => ("RenameMerge$Side", "targetLeft", "[Z", true)
  | 3 => ("RenameMerge$Side", "places", "[I", true)
  | 4 => ("RenameMerge$Side", "wanted", "[I", true)
  | _ => ("RenameMerge$Side", "standing", "[I", true)
def xt3 : Nat → FieldType := fun k => match k with
  | 0 => (.array .int)
  | 1 => (.array .boolean)
  | 2 => (.array .boolean)
  | 3 => (.array .int)
  | 4 => (.array .int)
  | _ => (.array .int)
def xT4 : u_T := fun k => match k with
  | 0 => ("RenameMerge$Merger", "versions", "[LRenameMerge$Tree;", true)
  | 1 => ("RenameMerge$Merger", "ours", "LRenameMerge$Side;", true)
  | 2 => ("RenameMerge$Merger", "theirs", "LRenameMerge$Side;", true)
  | 3 => ("RenameMerge$Merger", "conflicts", "[I", true)
  | _ => ("RenameMerge$Merger", "lineMerge", "LRenameMerge$LineMerge;", true)
def xt4 : Nat → FieldType := fun k => match k with
  | 0 => (.array (.object "RenameMerge$Tree"))
  | 1 => (.object "RenameMerge$Side")
  | 2 => (.object "RenameMerge$Side")
  | 3 => (.array .int)
  | _ => (.object "RenameMerge$LineMerge")
def xT5 : u_T := fun k => match k with
  | 0 => ("RenameMerge$Part", "text", "[I", false)
  | 1 => ("RenameMerge$Part", "from", "I", false)
  | _ => ("RenameMerge$Part", "width", "I", false)
def xt5 : Nat → FieldType := fun k => match k with
  | 0 => (.array .int)
  | 1 => .int
  | _ => .int
def xT6 : u_T := fun k => match k with
  | 0 => ("RenameMerge$LineMerge", "common", "[[I", true)
  | 1 => ("RenameMerge$LineMerge", "pairedA", "[I", true)
  | 2 => ("RenameMerge$LineMerge", "pairedB", "[I", true)
  | 3 => ("RenameMerge$LineMerge", "partO", "LRenameMerge$Part;", true)
  | 4 => ("RenameMerge$LineMerge", "partA", "LRenameMerge$Part;", true)
  | 5 => ("RenameMerge$LineMerge", "partB", "LRenameMerge$Part;", true)
  | 6 => ("RenameMerge$LineMerge", "written", "[I", true)
  | 7 => ("RenameMerge$LineMerge", "count", "I", false)
  | _ => ("RenameMerge$LineMerge", "clash", "Z", false)
def xt6 : Nat → FieldType := fun k => match k with
  | 0 => (.array (.array .int))
  | 1 => (.array .int)
  | 2 => (.array .int)
  | 3 => (.object "RenameMerge$Part")
  | 4 => (.object "RenameMerge$Part")
  | 5 => (.object "RenameMerge$Part")
  | 6 => (.array .int)
  | 7 => .int
  | _ => .boolean
def xT7 : u_T := fun k => match k with
  | 0 => ("RenameMergeModel", "bound", "I", true)
  | 1 => ("RenameMergeModel", "style", "I", false)
  | 2 => ("RenameMergeModel", "merged", "Z", false)
  | 3 => ("RenameMergeModel", "kinds", "[I", true)
  | 4 => ("RenameMergeModel", "sizes", "[I", true)
  | 5 => ("RenameMergeModel", "lines", "[B", true)
  | 6 => ("RenameMergeModel", "target", "[I", true)
  | 7 => ("RenameMergeModel", "source", "[I", true)
  | 8 => ("RenameMergeModel", "stand", "[I", true)
  | 9 => ("RenameMergeModel", "place", "[I", true)
  | 10 => ("RenameMergeModel", "conflict", "[I", true)
  | 11 => ("RenameMergeModel", "out", "[B", true)
  | 12 => ("RenameMergeModel", "outSize", "I", false)
  | 13 => ("RenameMergeModel", "outKind", "I", false)
  | 14 => ("RenameMergeModel", "outConflict", "I", false)
  | 15 => ("RenameMergeModel", "baseO", "I", false)
  | 16 => ("RenameMergeModel", "baseA", "I", false)
  | 17 => ("RenameMergeModel", "baseB", "I", false)
  | 18 => ("RenameMergeModel", "clash", "Z", false)
  | _ => ("RenameMergeModel", "pair", "[I", true)
def xt7 : Nat → FieldType := fun k => match k with
  | 0 => .int
  | 1 => .int
  | 2 => .boolean
  | 3 => (.array .int)
  | 4 => (.array .int)
  | 5 => (.array .byte)
  | 6 => (.array .int)
  | 7 => (.array .int)
  | 8 => (.array .int)
  | 9 => (.array .int)
  | 10 => (.array .int)
  | 11 => (.array .byte)
  | 12 => .int
  | 13 => .int
  | 14 => .int
  | 15 => .int
  | 16 => .int
  | 17 => .int
  | 18 => .boolean
  | _ => (.array .int)
abbrev xcl : List vw_C := [("RenameMerge", xT0, 5), ("RenameMerge$TreeFile", xT1, 2), ("RenameMerge$Tree", xT2, 1), ("RenameMerge$Side", xT3, 6), ("RenameMerge$Merger", xT4, 5), ("RenameMerge$Part", xT5, 3), ("RenameMerge$LineMerge", xT6, 9), ("RenameMergeModel", xT7, 20)]
def xfts : List (List Nat) := [[2, 2, 0, 0, 1], [1, 2], [2], [2, 2, 2, 2, 2, 2], [2, 2, 2, 2, 2], [2, 0, 0], [2, 2, 2, 2, 2, 2, 2, 0, 1], [0, 0, 1, 2, 2, 2, 2, 2, 2, 2, 2, 2, 0, 0, 0, 0, 0, 0, 1, 2]]
def xft (c k : Nat) : Nat := (xfts.getD c []).getD k 9
def xdfs : List (List xV) := [[.inr none, .inr none, .inl 0, .inl 0, .inl 0], [.inl 0, .inr none], [.inr none], [.inr none, .inr none, .inr none, .inr none, .inr none, .inr none], [.inr none, .inr none, .inr none, .inr none, .inr none], [.inr none, .inl 0, .inl 0], [.inr none, .inr none, .inr none, .inr none, .inr none, .inr none, .inr none, .inl 0, .inl 0], [.inl 0, .inl 0, .inl 0, .inr none, .inr none, .inr none, .inr none, .inr none, .inr none, .inr none, .inr none, .inr none, .inl 0, .inl 0, .inl 0, .inl 0, .inl 0, .inl 0, .inl 0, .inr none]]
def xdf (c : Nat) : List xV := xdfs.getD c []
/-- arrays of references by their kind: 0, 1, 2 -/
def xqn (t : Nat) : String := if t = 0 then "RenameMerge$TreeFile" else if t = 1 then "RenameMerge$Tree" else "[I"
def xqty (t : Nat) : FieldType := if t = 0 then .object "RenameMerge$TreeFile" else if t = 1 then .object "RenameMerge$Tree" else .array .int
def xNLc : String := "RenameMerge"
def xNLn : String := "NO_LINES"
def xNLd : String := "[I"
def xms_0 : List (MethodName × ByteArray × Nat × Option FieldType × Nat × Nat) := [(⟨"java/util/Arrays", "fill", "([II)V"⟩, prog_13_method_103_code, 4, none, 2, 99),
  (⟨"java/util/Arrays", "copyOf", "([II)[I"⟩, prog_13_method_123_code, 3, (some (.array .int)), 2, 99),
  (⟨"RenameMerge$TreeFile", "<init>", "(Z[I)V"⟩, prog_7_method_1_code, 3, none, 3, 1),
  (⟨"RenameMerge$TreeFile", "same", "(LRenameMerge$TreeFile;LRenameMerge$TreeFile;)Z"⟩, prog_7_method_3_code, 3, (some .boolean), 2, 1),
  (⟨"RenameMerge$TreeFile", "lineAt", "(I)I"⟩, prog_7_method_2_code, 2, (some .int), 2, 1),
  (⟨"RenameMerge$TreeFile", "likeness", "(LRenameMerge$TreeFile;LRenameMerge$TreeFile;)I"⟩, prog_7_method_4_code, 3, (some .int), 2, 1),
  (⟨"RenameMerge$TreeFile", "countShared", "(LRenameMerge$TreeFile;)I"⟩, prog_7_method_5_code, 7, (some .int), 2, 1),
  (⟨"RenameMerge$Tree", "<init>", "()V"⟩, prog_6_method_1_code, 1, none, 1, 2),
  (⟨"RenameMerge$Tree", "fileAt", "(I)LRenameMerge$TreeFile;"⟩, prog_6_method_2_code, 2, (some (.object "RenameMerge$TreeFile")), 2, 2),
  (⟨"RenameMerge$Tree", "countFiles", "()I"⟩, prog_6_method_7_code, 3, (some .int), 1, 2),
  (⟨"RenameMerge$Tree", "lay", "(ILRenameMerge$TreeFile;)V"⟩, prog_6_method_4_code, 3, none, 3, 2),
  (⟨"RenameMerge$Tree", "become", "(LRenameMerge$Tree;)V"⟩, prog_6_method_6_code, 3, none, 2, 2),
  (⟨"RenameMerge$Tree", "longestText", "()I"⟩, prog_6_method_8_code, 4, (some .int), 1, 2),
  (⟨"RenameMerge$Tree", "has", "(I)Z"⟩, prog_6_method_3_code, 2, (some .boolean), 2, 2),
  (⟨"RenameMerge$Tree", "hasFileIn", "(I)Z"⟩, prog_6_method_9_code, 3, (some .boolean), 2, 2),
  (⟨"RenameMerge$Tree", "move", "(II)V"⟩, prog_6_method_5_code, 4, none, 3, 2),
  (⟨"RenameMerge$Side", "<init>", "()V"⟩, prog_5_method_1_code, 1, none, 1, 3),
  (⟨"RenameMerge$Side", "findRenames", "(LRenameMerge$Tree;LRenameMerge$Tree;I)V"⟩, prog_5_method_5_code, 5, none, 4, 3),
  (⟨"RenameMerge$Side", "pairEqualFiles", "(LRenameMerge$Tree;LRenameMerge$Tree;)V"⟩, prog_5_method_7_code, 5, none, 3, 3),
  (⟨"RenameMerge$Side", "findEqualSource", "(LRenameMerge$Tree;LRenameMerge$TreeFile;I)I"⟩, prog_5_method_8_code, 6, (some .int), 4, 3),
  (⟨"RenameMerge$Side", "pair", "(II)V"⟩, prog_5_method_6_code, 3, none, 3, 3),
  (⟨"RenameMerge$Side", "pairOnlyNames", "(LRenameMerge$Tree;LRenameMerge$Tree;I)V"⟩, prog_5_method_9_code, 7, none, 4, 3),
  (⟨"RenameMerge$Side", "findOnly", "([ZI)I"⟩, prog_5_method_10_code, 4, (some .int), 2, 3),
  (⟨"RenameMerge$Side", "pairByScore", "(LRenameMerge$Tree;LRenameMerge$Tree;I)V"⟩, prog_5_method_11_code, 8, none, 4, 3),
  (⟨"RenameMerge$Side", "countLeft", "([Z)I"⟩, prog_5_method_12_code, 3, (some .int), 1, 3),
  (⟨"RenameMerge$Side", "pairBest", "(LRenameMerge$Tree;LRenameMerge$Tree;I)V"⟩, prog_5_method_13_code, 11, none, 4, 3),
  (⟨"RenameMerge$Side", "findPlaces", "(LRenameMerge$Tree;)V"⟩, prog_5_method_14_code, 3, none, 2, 3),
  (⟨"RenameMerge$Side", "findPlace", "(I)I"⟩, prog_5_method_15_code, 6, (some .int), 2, 3),
  (⟨"RenameMerge$Side", "countRenames", "(II)I"⟩, prog_5_method_16_code, 6, (some .int), 3, 3),
  (⟨"RenameMerge$Side", "findStands", "(LRenameMerge$Tree;LRenameMerge$Tree;LRenameMerge$Tree;LRenameMerge$Side;[I)V"⟩, prog_5_method_17_code, 8, none, 6, 3),
  (⟨"RenameMerge$Side", "findWanted", "(LRenameMerge$Tree;LRenameMerge$Tree;LRenameMerge$Side;)V"⟩, prog_5_method_18_code, 6, none, 4, 3),
  (⟨"RenameMerge$Side", "placeOf", "(I)I"⟩, prog_5_method_3_code, 2, (some .int), 2, 3),
  (⟨"RenameMerge$Side", "countWanted", "(I)I"⟩, prog_5_method_19_code, 4, (some .int), 2, 3),
  (⟨"RenameMerge$Side", "layStanding", "(LRenameMerge$Tree;LRenameMerge$Tree;)V"⟩, prog_5_method_20_code, 4, none, 3, 3),
  (⟨"RenameMerge$Side", "targetOf", "(I)I"⟩, prog_5_method_2_code, 2, (some .int), 2, 3),
  (⟨"RenameMerge$Side", "standOf", "(I)I"⟩, prog_5_method_4_code, 2, (some .int), 2, 3),
  (⟨"RenameMerge$Part", "<init>", "()V"⟩, prog_4_method_1_code, 1, none, 1, 5),
  (⟨"RenameMerge$Part", "startAt", "([I)V"⟩, prog_4_method_2_code, 2, none, 2, 5),
  (⟨"RenameMerge$Part", "reachTo", "(I)V"⟩, prog_4_method_3_code, 2, none, 2, 5),
  (⟨"RenameMerge$Part", "sameAs", "(LRenameMerge$Part;)Z"⟩, prog_4_method_5_code, 3, (some .boolean), 2, 5)]
def xms_1 : List (MethodName × ByteArray × Nat × Option FieldType × Nat × Nat) := [(⟨"RenameMerge$Part", "commonBeginning", "(LRenameMerge$Part;)I"⟩, prog_4_method_6_code, 4, (some .int), 2, 5),
  (⟨"RenameMerge$Part", "commonEnd", "(LRenameMerge$Part;I)I"⟩, prog_4_method_7_code, 7, (some .int), 3, 5),
  (⟨"RenameMerge$Part", "startBehind", "(I)V"⟩, prog_4_method_4_code, 2, none, 2, 5),
  (⟨"RenameMerge$LineMerge", "<init>", "()V"⟩, prog_2_method_1_code, 1, none, 1, 6),
  (⟨"RenameMerge$LineMerge", "join", "([I[I[II)V"⟩, prog_2_method_4_code, 6, none, 5, 6),
  (⟨"RenameMerge$LineMerge", "match", "([I[I[I)V"⟩, prog_2_method_5_code, 10, none, 4, 6),
  (⟨"RenameMerge$LineMerge", "countCommon", "([II[II)V"⟩, prog_2_method_6_code, 7, none, 5, 6),
  (⟨"RenameMerge$LineMerge", "writeGap", "(I)V"⟩, prog_2_method_7_code, 5, none, 2, 6),
  (⟨"RenameMerge$LineMerge", "writeLines", "(LRenameMerge$Part;II)V"⟩, prog_2_method_8_code, 5, none, 4, 6),
  (⟨"RenameMerge$LineMerge", "write", "(I)V"⟩, prog_2_method_9_code, 2, none, 2, 6),
  (⟨"RenameMerge$LineMerge", "hasClash", "()Z"⟩, prog_2_method_2_code, 1, (some .boolean), 1, 6),
  (⟨"RenameMerge$LineMerge", "takeWritten", "()[I"⟩, prog_2_method_3_code, 1, (some (.array .int)), 1, 6),
  (⟨"RenameMerge$Merger", "<init>", "()V"⟩, prog_3_method_1_code, 2, none, 1, 4),
  (⟨"RenameMerge$Merger", "begin", "(LRenameMerge$Tree;LRenameMerge$Tree;LRenameMerge$Tree;I)V"⟩, prog_3_method_6_code, 5, none, 5, 4),
  (⟨"RenameMerge$Merger", "carryRename", "(II)V"⟩, prog_3_method_7_code, 5, none, 3, 4),
  (⟨"RenameMerge$Merger", "carryByBoth", "(III)V"⟩, prog_3_method_8_code, 4, none, 4, 4),
  (⟨"RenameMerge$Merger", "mark", "(II)V"⟩, prog_3_method_12_code, 3, none, 3, 4),
  (⟨"RenameMerge$Merger", "carryByOne", "(IIII)V"⟩, prog_3_method_9_code, 10, none, 5, 4),
  (⟨"RenameMerge$Merger", "mergeFiles", "(ILRenameMerge$TreeFile;LRenameMerge$TreeFile;LRenameMerge$TreeFile;I)LRenameMerge$TreeFile;"⟩, prog_3_method_11_code, 6, (some (.object "RenameMerge$TreeFile")), 6, 4),
  (⟨"RenameMerge$Merger", "settle", "(II)LRenameMerge$TreeFile;"⟩, prog_3_method_10_code, 5, (some (.object "RenameMerge$TreeFile")), 3, 4),
  (⟨"RenameMerge$Merger", "codesAt", "(I)I"⟩, prog_3_method_3_code, 2, (some .int), 2, 4),
  (⟨"RenameMerge$Merger", "countConflictPaths", "()I"⟩, prog_3_method_5_code, 3, (some .int), 1, 4),
  (⟨"RenameMerge$Merger", "stagedFile", "(II)LRenameMerge$TreeFile;"⟩, prog_3_method_4_code, 4, (some (.object "RenameMerge$TreeFile")), 3, 4),
  (⟨"RenameMerge$Merger", "sideOf", "(I)LRenameMerge$Side;"⟩, prog_3_method_2_code, 2, (some (.object "RenameMerge$Side")), 2, 4),
  (⟨"RenameMerge", "<init>", "(I)V"⟩, prog_1_method_1_code, 3, none, 2, 0),
  (⟨"RenameMerge", "put", "(IIIZ)Z"⟩, prog_1_method_2_code, 6, (some .boolean), 5, 0),
  (⟨"RenameMerge", "isInput", "(I)Z"⟩, prog_1_method_21_code, 1, (some .boolean), 1, 0),
  (⟨"RenameMerge", "isPath", "(I)Z"⟩, prog_1_method_22_code, 1, (some .boolean), 1, 0),
  (⟨"RenameMerge", "linesOf", "(I)[I"⟩, prog_1_method_25_code, 5, (some (.array .int)), 1, 0),
  (⟨"RenameMerge", "drop", "(II)Z"⟩, prog_1_method_3_code, 3, (some .boolean), 3, 0),
  (⟨"RenameMerge", "copy", "(II)Z"⟩, prog_1_method_4_code, 3, (some .boolean), 3, 0),
  (⟨"RenameMerge", "adopt", "(I)Z"⟩, prog_1_method_5_code, 3, (some .boolean), 2, 0),
  (⟨"RenameMerge", "style", "(I)Z"⟩, prog_1_method_6_code, 2, (some .boolean), 2, 0),
  (⟨"RenameMerge", "merge", "()I"⟩, prog_1_method_7_code, 2, (some .int), 1, 0),
  (⟨"RenameMerge", "nameOf", "(I)I"⟩, prog_1_method_24_code, 1, (some .int), 1, 0),
  (⟨"RenameMerge", "directoryOf", "(I)I"⟩, prog_1_method_23_code, 1, (some .int), 1, 0),
  (⟨"RenameMerge", "size", "(I)I"⟩, prog_1_method_8_code, 2, (some .int), 2, 0),
  (⟨"RenameMerge", "isTree", "(I)Z"⟩, prog_1_method_20_code, 1, (some .boolean), 1, 0),
  (⟨"RenameMerge", "kind", "(II)I"⟩, prog_1_method_9_code, 4, (some .int), 3, 0),
  (⟨"RenameMerge", "findFile", "(II)LRenameMerge$TreeFile;"⟩, prog_1_method_19_code, 3, (some (.object "RenameMerge$TreeFile")), 3, 0)]
def xms_2 : List (MethodName × ByteArray × Nat × Option FieldType × Nat × Nat) := [(⟨"RenameMerge", "length", "(II)I"⟩, prog_1_method_10_code, 4, (some .int), 3, 0),
  (⟨"RenameMerge", "line", "(III)I"⟩, prog_1_method_11_code, 5, (some .int), 4, 0),
  (⟨"RenameMerge", "conflict", "(I)I"⟩, prog_1_method_12_code, 2, (some .int), 2, 0),
  (⟨"RenameMerge", "staged", "(II)I"⟩, prog_1_method_13_code, 4, (some .int), 3, 0),
  (⟨"RenameMerge", "stagedLine", "(III)I"⟩, prog_1_method_14_code, 5, (some .int), 4, 0),
  (⟨"RenameMerge", "renamed", "(II)I"⟩, prog_1_method_15_code, 4, (some .int), 3, 0),
  (⟨"RenameMerge", "newPlace", "(II)I"⟩, prog_1_method_16_code, 4, (some .int), 3, 0),
  (⟨"RenameMerge", "stands", "(II)I"⟩, prog_1_method_17_code, 4, (some .int), 3, 0),
  (⟨"RenameMerge", "score", "(III)I"⟩, prog_1_method_18_code, 4, (some .int), 4, 0),
  (⟨"RenameMergeModel", "<init>", "(I)V"⟩, prog_9_method_1_code, 3, none, 2, 7),
  (⟨"RenameMergeModel", "size", "(I)I"⟩, prog_9_method_7_code, 4, (some .int), 2, 7),
  (⟨"RenameMergeModel", "has", "(II)Z"⟩, prog_9_method_3_code, 3, (some .boolean), 3, 7),
  (⟨"RenameMergeModel", "put", "(IIIZ)Z"⟩, prog_9_method_8_code, 8, (some .boolean), 5, 7),
  (⟨"RenameMergeModel", "start", "(II)I"⟩, prog_9_method_2_code, 2, (some .int), 2, 7),
  (⟨"RenameMergeModel", "drop", "(II)Z"⟩, prog_9_method_9_code, 3, (some .boolean), 3, 7),
  (⟨"RenameMergeModel", "erase", "(II)V"⟩, prog_9_method_4_code, 3, none, 3, 7),
  (⟨"RenameMergeModel", "copy", "(II)Z"⟩, prog_9_method_10_code, 4, (some .boolean), 3, 7),
  (⟨"RenameMergeModel", "copyFile", "(IIII)V"⟩, prog_9_method_5_code, 7, none, 5, 7),
  (⟨"RenameMergeModel", "adopt", "(I)Z"⟩, prog_9_method_11_code, 3, (some .boolean), 2, 7),
  (⟨"RenameMergeModel", "style", "(I)Z"⟩, prog_9_method_12_code, 2, (some .boolean), 2, 7),
  (⟨"RenameMergeModel", "score", "(III)I"⟩, prog_9_method_15_code, 4, (some .int), 4, 7),
  (⟨"RenameMergeModel", "likeness", "(III)I"⟩, prog_9_method_14_code, 11, (some .int), 4, 7),
  (⟨"RenameMergeModel", "often", "(III)I"⟩, prog_9_method_13_code, 6, (some .int), 4, 7),
  (⟨"RenameMergeModel", "merge", "()I"⟩, prog_9_method_44_code, 3, (some .int), 1, 7),
  (⟨"RenameMergeModel", "renames", "(I)V"⟩, prog_9_method_23_code, 4, none, 2, 7),
  (⟨"RenameMergeModel", "exact", "(I)V"⟩, prog_9_method_19_code, 6, none, 2, 7),
  (⟨"RenameMergeModel", "targetLeft", "(II)Z"⟩, prog_9_method_17_code, 3, (some .boolean), 3, 7),
  (⟨"RenameMergeModel", "sourceLeft", "(II)Z"⟩, prog_9_method_16_code, 3, (some .boolean), 3, 7),
  (⟨"RenameMergeModel", "alike", "(IIII)Z"⟩, prog_9_method_6_code, 8, (some .boolean), 5, 7),
  (⟨"RenameMergeModel", "join", "(III)V"⟩, prog_9_method_18_code, 4, none, 4, 7),
  (⟨"RenameMergeModel", "names", "(I)V"⟩, prog_9_method_20_code, 8, none, 2, 7),
  (⟨"RenameMergeModel", "lefts", "(IZ)I"⟩, prog_9_method_21_code, 5, (some .int), 3, 7),
  (⟨"RenameMergeModel", "bestLeft", "(I)I"⟩, prog_9_method_22_code, 8, (some .int), 2, 7),
  (⟨"RenameMergeModel", "newPlaceOf", "(II)I"⟩, prog_9_method_25_code, 7, (some .int), 3, 7),
  (⟨"RenameMergeModel", "moved", "(III)I"⟩, prog_9_method_24_code, 7, (some .int), 4, 7),
  (⟨"RenameMergeModel", "settle", "(II)V"⟩, prog_9_method_27_code, 8, none, 3, 7),
  (⟨"RenameMergeModel", "wanted", "(II)I"⟩, prog_9_method_26_code, 4, (some .int), 3, 7),
  (⟨"RenameMergeModel", "versions", "()V"⟩, prog_9_method_39_code, 3, none, 1, 7),
  (⟨"RenameMergeModel", "follow", "(I)V"⟩, prog_9_method_42_code, 6, none, 2, 7),
  (⟨"RenameMergeModel", "go", "(III)V"⟩, prog_9_method_40_code, 4, none, 4, 7)]
def xms_3 : List (MethodName × ByteArray × Nat × Option FieldType × Nat × Nat) := [(⟨"RenameMergeModel", "alone", "(III)V"⟩, prog_9_method_41_code, 6, none, 4, 7),
  (⟨"RenameMergeModel", "mergeFiles", "(III)V"⟩, prog_9_method_37_code, 7, none, 4, 7),
  (⟨"RenameMergeModel", "takeFile", "(II)V"⟩, prog_9_method_36_code, 4, none, 3, 7),
  (⟨"RenameMergeModel", "write", "(I)V"⟩, prog_9_method_31_code, 2, none, 2, 7),
  (⟨"RenameMergeModel", "mergeLines", "(III)V"⟩, prog_9_method_35_code, 8, none, 4, 7),
  (⟨"RenameMergeModel", "match", "(IIII)V"⟩, prog_9_method_30_code, 8, none, 5, 7),
  (⟨"RenameMergeModel", "ones", "(I)I"⟩, prog_9_method_28_code, 3, (some .int), 1, 7),
  (⟨"RenameMergeModel", "fits", "(IIII)Z"⟩, prog_9_method_29_code, 7, (some .boolean), 5, 7),
  (⟨"RenameMergeModel", "gap", "(IIIIII)V"⟩, prog_9_method_34_code, 9, none, 7, 7),
  (⟨"RenameMergeModel", "same", "(IIII)Z"⟩, prog_9_method_33_code, 7, (some .boolean), 5, 7),
  (⟨"RenameMergeModel", "writeAll", "(II)V"⟩, prog_9_method_32_code, 4, none, 3, 7),
  (⟨"RenameMergeModel", "putOut", "(II)V"⟩, prog_9_method_38_code, 4, none, 3, 7),
  (⟨"RenameMergeModel", "finish", "(I)V"⟩, prog_9_method_43_code, 2, none, 2, 7),
  (⟨"RenameMergeModel", "kind", "(II)I"⟩, prog_9_method_45_code, 3, (some .int), 3, 7),
  (⟨"RenameMergeModel", "length", "(II)I"⟩, prog_9_method_46_code, 3, (some .int), 3, 7),
  (⟨"RenameMergeModel", "line", "(III)I"⟩, prog_9_method_47_code, 4, (some .int), 4, 7),
  (⟨"RenameMergeModel", "conflict", "(I)I"⟩, prog_9_method_48_code, 2, (some .int), 2, 7),
  (⟨"RenameMergeModel", "staged", "(II)I"⟩, prog_9_method_49_code, 3, (some .int), 3, 7),
  (⟨"RenameMergeModel", "stagedLine", "(III)I"⟩, prog_9_method_50_code, 4, (some .int), 4, 7),
  (⟨"RenameMergeModel", "renamed", "(II)I"⟩, prog_9_method_51_code, 3, (some .int), 3, 7),
  (⟨"RenameMergeModel", "newPlace", "(II)I"⟩, prog_9_method_52_code, 3, (some .int), 3, 7),
  (⟨"RenameMergeModel", "stands", "(II)I"⟩, prog_9_method_53_code, 3, (some .int), 3, 7),
  (⟨"RenameMergeLaw", "cell", "([II)I"⟩, method_2_code, 2, (some .int), 2, 99),
  (⟨"RenameMergeLaw", "law", "([I)Z"⟩, code, 4, (some .boolean), 1, 99)]
def xms : List (MethodName × ByteArray × Nat × Option FieldType × Nat × Nat) := xms_0 ++ (xms_1 ++ (xms_2 ++ (xms_3)))
def xm0 : MethodName × ByteArray × Nat × Option FieldType × Nat × Nat := (⟨"", "", ""⟩, ⟨#[]⟩, 0, none, 0, 99)
def xmn (y : Nat) : MethodName := (xms.getD y xm0).1
def xmb (y : Nat) : ByteArray := (xms.getD y xm0).2.1
def xml (y : Nat) : Nat := (xms.getD y xm0).2.2.1
def xmr (y : Nat) : Option FieldType := (xms.getD y xm0).2.2.2.1
def xma (y : Nat) : Nat := (xms.getD y xm0).2.2.2.2.1
def xmc (y : Nat) : Nat := (xms.getD y xm0).2.2.2.2.2
def xno : List String := ["RenameMerge", "RenameMerge$TreeFile", "RenameMerge$Tree", "RenameMerge$Side", "RenameMerge$Merger", "RenameMerge$Part", "RenameMerge$LineMerge", "RenameMergeModel", "RenameMergeLaw", "java/util/Arrays"]
def xmos : List Nat := [9, 9, 1, 1, 1, 1, 1, 2, 2, 2, 2, 2, 2, 2, 2, 2, 3, 3, 3, 3, 3, 3, 3, 3, 3, 3, 3, 3, 3, 3, 3, 3, 3, 3, 3, 3, 5, 5, 5, 5, 5, 5, 5, 6, 6, 6, 6, 6, 6, 6, 6, 6, 4, 4, 4, 4, 4, 4, 4, 4, 4, 4, 4, 4, 0, 0, 0, 0, 0, 0, 0, 0, 0, 0, 0, 0, 0, 0, 0, 0, 0, 0, 0, 0, 0, 0, 0, 0, 0, 7, 7, 7, 7, 7, 7, 7, 7, 7, 7, 7, 7, 7, 7, 7, 7, 7, 7, 7, 7, 7, 7, 7, 7, 7, 7, 7, 7, 7, 7, 7, 7, 7, 7, 7, 7, 7, 7, 7, 7, 7, 7, 7, 7, 7, 7, 7, 7, 7, 7, 7, 7, 7, 8, 8]
def xmo (y : Nat) : Nat := xmos.getD y 99
/-- links across the nest: the holder, the entry, the method -/
def xNm : List (Nat × Nat × Nat) := [(2, 17, 67), (3, 61, 74), (3, 109, 75), (3, 37, 67), (6, 25, 36), (4, 33, 43), (4, 38, 7), (4, 39, 67), (0, 33, 7)]
def xNf : List (Nat × Nat) := [(5, 7), (4, 118)]
/-- links: the place in the tables, the kind, the holder, the entry, two numbers -/
def xlw : List (Nat × Nat × Nat × Nat × Nat × Nat) := [(241, 7, 9, 316, 0, 0), (247, 5, 9, 317, 0, 0), (248, 10, 9, 304, 0, 0), (251, 8, 9, 150, 0, 0), (257, 6, 1, 3, 0, 0), (258, 0, 1, 9, 1, 0), (261, 0, 1, 15, 1, 1), (334, 1, 1, 19, 4, 0), (352, 9, 1, 23, 0, 0), (353, 1, 1, 29, 6, 0), (357, 10, 1, 33, 0, 0), (174, 6, 2, 3, 0, 0), (175, 3, 2, 9, 0, 0), (177, 0, 2, 11, 2, 0), (262, 0, 2, 29, 1, 1), (294, 9, 2, 33, 0, 0), (318, 1, 2, 21, 8, 0), (378, 1, 2, 39, 13, 0), (433, 1, 2, 25, 10, 0), (88, 6, 3, 3, 0, 0), (92, 0, 3, 9, 3, 0), (93, 0, 3, 15, 3, 1), (94, 0, 3, 19, 3, 2), (95, 0, 3, 22, 3, 3), (96, 0, 3, 25, 3, 4), (97, 0, 3, 28, 3, 5), (89, 1, 3, 31, 0, 0), (314, 1, 3, 41, 13, 0), (319, 1, 3, 46, 18, 0), (342, 1, 3, 50, 21, 0), (358, 1, 3, 54, 23, 0), (323, 1, 3, 57, 8, 0), (327, 1, 3, 65, 19, 0), (338, 1, 3, 69, 20, 0), (331, 1, 3, 73, 3, 0), (346, 1, 3, 79, 22, 0), (349, 1, 3, 83, 5, 0), (362, 1, 3, 87, 24, 0), (365, 10, 3, 91, 0, 0), (366, 1, 3, 97, 25, 0), (374, 1, 3, 100, 14, 0), (379, 1, 3, 103, 27, 0), (383, 1, 3, 106, 28, 0), (394, 1, 3, 112, 30, 0), (402, 1, 3, 116, 32, 0), (398, 1, 3, 119, 31, 0), (411, 1, 3, 122, 10, 0), (126, 6, 5, 1, 0, 0), (129, 0, 5, 13, 5, 0), (131, 0, 5, 18, 5, 1), (133, 0, 5, 22, 5, 2), (490, 10, 5, 25, 0, 0), (118, 6, 6, 3, 0, 0), (119, 4, 6, 9, 0, 0), (142, 0, 6, 11, 6, 0), (143, 0, 6, 16, 6, 1), (144, 0, 6, 20, 6, 2), (121, 2, 6, 23, 5, 0), (145, 0, 6, 26, 6, 3), (146, 0, 6, 30, 6, 4), (147, 0, 6, 33, 6, 5), (148, 0, 6, 36, 6, 6), (149, 0, 6, 39, 6, 7), (150, 0, 6, 43, 6, 8), (456, 1, 6, 53, 45, 0), (466, 1, 6, 57, 37, 0), (470, 1, 6, 61, 38, 0), (474, 1, 6, 65, 47, 0), (495, 1, 6, 68, 49, 0), (499, 1, 6, 71, 42, 0), (460, 10, 6, 74, 0, 0), (461, 1, 6, 80, 46, 0), (465, 9, 6, 84, 0, 0), (478, 1, 6, 87, 39, 0), (134, 0, 6, 91, 5, 2), (482, 1, 6, 94, 48, 0), (486, 1, 6, 98, 40, 0), (491, 1, 6, 102, 41, 0), (130, 0, 6, 106, 5, 0), (132, 0, 6, 109, 5, 1), (512, 1, 6, 47, 1, 0), (81, 6, 4, 3, 0, 0), (82, 3, 4, 9, 1, 0), (181, 0, 4, 11, 4, 0), (83, 2, 4, 17, 3, 0), (85, 1, 4, 19, 16, 0), (182, 0, 4, 20, 4, 1), (183, 0, 4, 24, 4, 2), (184, 0, 4, 27, 4, 3), (113, 2, 4, 31, 6, 0), (185, 0, 4, 34, 4, 4), (82, 2, 4, 9, 2, 0), (309, 1, 4, 51, 0, 0), (310, 1, 4, 57, 17, 0), (370, 1, 4, 61, 26, 0), (390, 1, 4, 65, 29, 0), (406, 1, 4, 69, 11, 0), (407, 1, 4, 72, 33, 0), (416, 1, 4, 76, 34, 0), (421, 1, 4, 79, 35, 0), (425, 1, 4, 82, 55, 0), (439, 1, 4, 86, 57, 0), (429, 1, 4, 90, 15, 0), (434, 1, 4, 94, 56, 0), (443, 1, 4, 97, 13, 0), (444, 1, 4, 100, 10, 0), (445, 1, 4, 47, 8, 0), (446, 1, 4, 104, 58, 0), (450, 1, 4, 108, 3, 0), (260, 0, 4, 114, 1, 0), (264, 0, 4, 121, 1, 1), (452, 1, 4, 124, 44, 0), (503, 1, 4, 128, 50, 0), (507, 2, 4, 109, 1, 0), (508, 1, 4, 132, 51, 0), (513, 1, 4, 136, 2, 0), (518, 1, 4, 43, 60, 0), (71, 6, 0, 1, 0, 0), (74, 3, 0, 9, 1, 0), (198, 0, 0, 11, 0, 0), (76, 2, 0, 15, 4, 0), (78, 1, 0, 17, 52, 0), (199, 0, 0, 18, 0, 1), (201, 0, 0, 22, 0, 3), (202, 0, 0, 26, 0, 4), (200, 0, 0, 30, 0, 2), (74, 2, 0, 9, 2, 0), (218, 1, 0, 34, 66, 0), (221, 1, 0, 38, 67, 0), (224, 1, 0, 41, 8, 0), (229, 1, 0, 45, 9, 0), (233, 2, 0, 49, 1, 0), (235, 1, 0, 51, 68, 0), (254, 1, 0, 55, 2, 0), (270, 1, 0, 58, 10, 0), (238, 1, 0, 126, 1, 0), (282, 1, 0, 62, 11, 0), (290, 1, 0, 66, 12, 0), (305, 1, 0, 69, 53, 0), (412, 1, 0, 73, 54, 0), (514, 1, 0, 77, 59, 0), (522, 1, 0, 81, 61, 0), (530, 1, 0, 84, 77, 0), (537, 1, 0, 87, 79, 0), (259, 0, 0, 90, 1, 0), (263, 0, 0, 93, 1, 1), (549, 1, 0, 97, 4, 0), (554, 1, 0, 101, 60, 0), (559, 1, 0, 104, 62, 0), (571, 1, 0, 107, 63, 0), (575, 1, 0, 111, 34, 0), (580, 1, 0, 116, 31, 0), (585, 1, 0, 119, 35, 0), (590, 1, 0, 122, 5, 0), (599, 6, 7, 1, 0, 0), (603, 0, 7, 7, 7, 3), (604, 0, 7, 13, 7, 4), (605, 0, 7, 16, 7, 5), (606, 0, 7, 20, 7, 6), (607, 0, 7, 23, 7, 7), (608, 0, 7, 26, 7, 8), (609, 0, 7, 29, 7, 9), (610, 0, 7, 32, 7, 10), (611, 0, 7, 35, 7, 11), (619, 0, 7, 38, 7, 19), (600, 0, 7, 41, 7, 0), (666, 1, 7, 49, 91, 0), (674, 1, 7, 53, 90, 0), (675, 1, 7, 45, 93, 0), (682, 1, 7, 57, 95, 0), (690, 1, 7, 61, 97, 0), (602, 0, 7, 65, 7, 2), (601, 0, 7, 69, 7, 1), (706, 1, 7, 76, 101, 0), (710, 1, 7, 72, 102, 0), (718, 1, 7, 177, 104, 0), (755, 1, 7, 180, 113, 0), (763, 1, 7, 183, 115, 0), (771, 1, 7, 186, 117, 0), (775, 1, 7, 189, 118, 0), (830, 1, 7, 192, 132, 0), (722, 1, 7, 96, 105, 0), (742, 1, 7, 100, 110, 0), (747, 1, 7, 103, 111, 0), (751, 1, 7, 107, 112, 0), (738, 1, 7, 89, 109, 0), (726, 1, 7, 79, 106, 0), (730, 1, 7, 82, 107, 0), (734, 1, 7, 85, 108, 0), (746, 1, 7, 93, 100, 0), (759, 1, 7, 110, 114, 0), (767, 1, 7, 113, 116, 0), (779, 1, 7, 165, 119, 0), (783, 1, 7, 174, 120, 0), (787, 1, 7, 168, 121, 0), (826, 1, 7, 171, 131, 0), (614, 0, 7, 156, 7, 14), (791, 1, 7, 159, 122, 0), (615, 0, 7, 116, 7, 15), (616, 0, 7, 140, 7, 16), (617, 0, 7, 146, 7, 17), (613, 0, 7, 153, 7, 13), (799, 1, 7, 162, 124, 0), (618, 0, 7, 137, 7, 18), (612, 0, 7, 125, 7, 12), (795, 1, 7, 128, 123, 0), (803, 1, 7, 143, 125, 0), (814, 1, 7, 149, 128, 0), (807, 1, 7, 119, 126, 0), (810, 1, 7, 122, 127, 0), (818, 1, 7, 131, 129, 0), (822, 1, 7, 134, 130, 0), (846, 1, 7, 195, 134, 0), (855, 1, 7, 198, 136, 0), (860, 1, 7, 200, 137, 0), (66, 2, 8, 7, 0, 0), (591, 1, 8, 9, 142, 0), (68, 1, 8, 15, 64, 0), (594, 2, 8, 18, 7, 0), (596, 1, 8, 20, 89, 0), (214, 1, 8, 21, 65, 0), (670, 1, 8, 25, 92, 0), (274, 1, 8, 26, 69, 0), (678, 1, 8, 30, 94, 0), (278, 1, 8, 31, 70, 0), (686, 1, 8, 34, 96, 0), (286, 1, 8, 35, 71, 0), (694, 1, 8, 39, 98, 0), (297, 1, 8, 40, 72, 0), (698, 1, 8, 43, 99, 0), (301, 1, 8, 44, 73, 0), (714, 1, 8, 48, 103, 0), (526, 1, 8, 49, 76, 0), (662, 1, 8, 53, 90, 0), (533, 1, 8, 54, 78, 0), (834, 1, 8, 58, 133, 0), (541, 1, 8, 59, 80, 0), (838, 1, 8, 62, 134, 0), (545, 1, 8, 63, 81, 0), (842, 1, 8, 67, 135, 0), (550, 1, 8, 68, 82, 0), (847, 1, 8, 71, 136, 0), (555, 1, 8, 72, 83, 0), (851, 1, 8, 75, 137, 0), (563, 1, 8, 76, 84, 0), (856, 1, 8, 79, 138, 0), (567, 1, 8, 80, 85, 0), (861, 1, 8, 83, 139, 0), (576, 1, 8, 84, 86, 0), (865, 1, 8, 87, 140, 0), (581, 1, 8, 88, 87, 0), (869, 1, 8, 91, 141, 0), (586, 1, 8, 92, 88, 0), (702, 1, 8, 95, 100, 0)]
/-- a constant: a number, or its negative -/
def xk (a b : Nat) : Int32 := if b = 0 then nI a else - nI a
def xty (t : Nat) : FieldType := if t = 0 then .int else if t = 1 then .byte else .boolean
end
section
/-- java/util/Arrays.fill ([II)V -/
def xtb_0 : List xI := [(0, .iconst 0, 1, 0, 0, 0), (1, .istore_n 2, 1, 0, 0, 0), (2, .aload_n 0, 1, 0, 0, 0), (3, .arraylength, 1, 0, 0, 0), (4, .istore_n 3, 1, 0, 0, 0), (5, .iload_n 2, 1, 0, 0, 0), (6, .iload_n 3, 1, 0, 0, 0), (7, .if_icmp .ge 13, 3, 20, 0, 0), (10, .aload_n 0, 1, 0, 0, 0), (11, .iload_n 2, 1, 0, 0, 0), (12, .iload_n 1, 1, 0, 0, 0), (13, .iastore, 1, 0, 0, 0), (14, .iinc 2 1, 3, 1, 0, 0), (17, .goto (-12), 3, 5, 0, 0), (20, .return_, 1, 0, 0, 0)]
/-- java/util/Arrays.copyOf ([II)[I -/
def xtb_1 : List xI := [(0, .iload_n 1, 1, 0, 0, 0), (1, .aload_n 0, 1, 0, 0, 0), (2, .arraylength, 1, 0, 0, 0), (3, .if_icmp .ne 11, 3, 14, 0, 0), (6, .aload_n 0, 1, 0, 0, 0), (7, .invokevirtual 316, 3, 0, 7, 0), (10, .checkcast 317, 3, 0, 0, 1), (13, .areturn, 1, 0, 0, 0), (14, .iload_n 1, 1, 0, 0, 0), (15, .newarray .int, 2, 0, 0, 0), (17, .astore_n 2, 1, 0, 0, 0), (18, .aload_n 0, 1, 0, 0, 0), (19, .iconst 0, 1, 0, 0, 0), (20, .aload_n 2, 1, 0, 0, 0), (21, .iconst 0, 1, 0, 0, 0), (22, .aload_n 0, 1, 0, 0, 0), (23, .arraylength, 1, 0, 0, 0), (24, .iload_n 1, 1, 0, 0, 0), (25, .invokestatic 304, 3, 0, 10, 2), (28, .invokestatic 150, 3, 0, 8, 3), (31, .aload_n 2, 1, 0, 0, 0), (32, .areturn, 1, 0, 0, 0)]
/-- RenameMerge.TreeFile.init (Z[I)V -/
def xtb_2 : List xI := [(0, .aload_n 0, 1, 0, 0, 0), (1, .invokespecial 3, 3, 0, 6, 4), (4, .aload_n 0, 1, 0, 0, 0), (5, .iload_n 1, 1, 0, 0, 0), (6, .putfield 9, 3, 1, 0, 5), (9, .aload_n 0, 1, 0, 0, 0), (10, .aload_n 2, 1, 0, 0, 0), (11, .putfield 15, 3, 1, 1, 6), (14, .return_, 1, 0, 0, 0)]
/-- RenameMerge.TreeFile.same (LRenameMerge$TreeFile;LRenameMerge$TreeFile;)Z -/
def xtb_3 : List xI := [(0, .aload_n 0, 1, 0, 0, 0), (1, .ifnull 7, 3, 8, 0, 0), (4, .aload_n 1, 1, 0, 0, 0), (5, .ifnonnull 17, 3, 22, 0, 0), (8, .aload_n 0, 1, 0, 0, 0), (9, .ifnonnull 11, 3, 20, 0, 0), (12, .aload_n 1, 1, 0, 0, 0), (13, .ifnonnull 7, 3, 20, 0, 0), (16, .iconst 1, 1, 1, 0, 0), (17, .goto 4, 3, 21, 0, 0), (20, .iconst 0, 1, 0, 0, 0), (21, .ireturn, 1, 1, 0, 0), (22, .aload_n 0, 1, 0, 0, 0), (23, .getfield 9, 3, 1, 0, 5), (26, .aload_n 1, 1, 0, 0, 0), (27, .getfield 9, 3, 1, 0, 5), (30, .if_icmp .ne 16, 3, 46, 0, 0), (33, .aload_n 0, 1, 0, 0, 0), (34, .getfield 15, 3, 1, 1, 6), (37, .arraylength, 1, 0, 0, 0), (38, .aload_n 1, 1, 0, 0, 0), (39, .getfield 15, 3, 1, 1, 6), (42, .arraylength, 1, 0, 0, 0), (43, .if_icmp .eq 5, 3, 48, 0, 0), (46, .iconst 0, 1, 0, 0, 0), (47, .ireturn, 1, 1, 0, 0), (48, .iconst 0, 1, 0, 0, 0), (49, .istore_n 2, 1, 0, 0, 0), (50, .iload_n 2, 1, 0, 0, 0), (51, .aload_n 0, 1, 0, 0, 0), (52, .getfield 15, 3, 1, 1, 6), (55, .arraylength, 1, 0, 0, 0), (56, .if_icmp .ge 24, 3, 80, 0, 0), (59, .aload_n 0, 1, 0, 0, 0), (60, .iload_n 2, 1, 0, 0, 0), (61, .invokevirtual 19, 3, 4, 2, 7), (64, .aload_n 1, 1, 0, 0, 0), (65, .iload_n 2, 1, 0, 0, 0), (66, .invokevirtual 19, 3, 4, 2, 7), (69, .if_icmp .eq 5, 3, 74, 0, 0), (72, .iconst 0, 1, 0, 0, 0), (73, .ireturn, 1, 1, 0, 0), (74, .iinc 2 1, 3, 1, 0, 0), (77, .goto (-27), 3, 50, 0, 0), (80, .iconst 1, 1, 1, 0, 0), (81, .ireturn, 1, 1, 0, 0)]
/-- RenameMerge.TreeFile.lineAt (I)I -/
def xtb_4 : List xI := [(0, .iload_n 1, 1, 0, 0, 0), (1, .ifCond .lt 21, 3, 22, 0, 0), (4, .iload_n 1, 1, 0, 0, 0), (5, .aload_n 0, 1, 0, 0, 0), (6, .getfield 15, 3, 1, 1, 6), (9, .arraylength, 1, 0, 0, 0), (10, .if_icmp .ge 12, 3, 22, 0, 0), (13, .aload_n 0, 1, 0, 0, 0), (14, .getfield 15, 3, 1, 1, 6), (17, .iload_n 1, 1, 0, 0, 0), (18, .iaload, 1, 0, 0, 0), (19, .goto 4, 3, 23, 0, 0), (22, .iconst 0, 1, 0, 0, 0), (23, .ireturn, 1, 0, 0, 0)]
/-- RenameMerge.TreeFile.likeness (LRenameMerge$TreeFile;LRenameMerge$TreeFile;)I -/
def xtb_5 : List xI := [(0, .aload_n 0, 1, 0, 0, 0), (1, .ifnull 21, 3, 22, 0, 0), (4, .aload_n 1, 1, 0, 0, 0), (5, .ifnull 17, 3, 22, 0, 0), (8, .aload_n 0, 1, 0, 0, 0), (9, .getfield 9, 3, 1, 0, 5), (12, .ifCond .ne 10, 3, 22, 0, 0), (15, .aload_n 1, 1, 0, 0, 0), (16, .getfield 9, 3, 1, 0, 5), (19, .ifCond .eq 5, 3, 24, 0, 0), (22, .iconst (-1), 1, 1, 1, 0), (23, .ireturn, 1, 0, 0, 0), (24, .aload_n 0, 1, 0, 0, 0), (25, .getfield 15, 3, 1, 1, 6), (28, .arraylength, 1, 0, 0, 0), (29, .aload_n 1, 1, 0, 0, 0), (30, .getfield 15, 3, 1, 1, 6), (33, .arraylength, 1, 0, 0, 0), (34, .invokestatic 23, 3, 0, 9, 8), (37, .istore_n 2, 1, 0, 0, 0), (38, .iload_n 2, 1, 0, 0, 0), (39, .ifCond .ne 7, 3, 46, 0, 0), (42, .iconst 0, 1, 0, 0, 0), (43, .goto 13, 3, 56, 0, 0), (46, .bipush 100, 2, 100, 0, 0), (48, .aload_n 0, 1, 0, 0, 0), (49, .aload_n 1, 1, 0, 0, 0), (50, .invokevirtual 29, 3, 6, 2, 9), (53, .imul, 1, 0, 0, 0), (54, .iload_n 2, 1, 0, 0, 0), (55, .idiv, 1, 0, 0, 0), (56, .ireturn, 1, 0, 0, 0)]
/-- RenameMerge.TreeFile.countShared (LRenameMerge$TreeFile;)I -/
def xtb_6 : List xI := [(0, .aload_n 1, 1, 0, 0, 0), (1, .getfield 15, 3, 1, 1, 6), (4, .arraylength, 1, 0, 0, 0), (5, .bipush 8, 2, 8, 0, 0), (7, .invokestatic 33, 3, 0, 10, 10), (10, .istore_n 2, 1, 0, 0, 0), (11, .iconst 0, 1, 0, 0, 0), (12, .istore_n 3, 1, 0, 0, 0), (13, .iconst 0, 1, 0, 0, 0), (14, .istore 4, 2, 0, 0, 0), (16, .iconst 0, 1, 0, 0, 0), (17, .istore 5, 2, 0, 0, 0), (19, .iload 5, 2, 0, 0, 0), (21, .aload_n 0, 1, 0, 0, 0), (22, .getfield 15, 3, 1, 1, 6), (25, .arraylength, 1, 0, 0, 0), (26, .if_icmp .ge 63, 3, 89, 0, 0), (29, .iconst 0, 1, 0, 0, 0), (30, .istore 6, 2, 0, 0, 0), (32, .iload 6, 2, 0, 0, 0), (34, .iload_n 2, 1, 0, 0, 0), (35, .if_icmp .ge 48, 3, 83, 0, 0), (38, .iload_n 3, 1, 0, 0, 0), (39, .iconst 1, 1, 1, 0, 0), (40, .iload 6, 2, 0, 0, 0), (42, .ishl, 1, 0, 0, 0), (43, .iand, 1, 0, 0, 0), (44, .ifCond .ne 33, 3, 77, 0, 0), (47, .aload_n 0, 1, 0, 0, 0), (48, .getfield 15, 3, 1, 1, 6), (51, .iload 5, 2, 0, 0, 0), (53, .iaload, 1, 0, 0, 0), (54, .aload_n 1, 1, 0, 0, 0), (55, .getfield 15, 3, 1, 1, 6), (58, .iload 6, 2, 0, 0, 0), (60, .iaload, 1, 0, 0, 0), (61, .if_icmp .ne 16, 3, 77, 0, 0), (64, .iload_n 3, 1, 0, 0, 0), (65, .iconst 1, 1, 1, 0, 0), (66, .iload 6, 2, 0, 0, 0), (68, .ishl, 1, 0, 0, 0), (69, .ior, 1, 0, 0, 0), (70, .istore_n 3, 1, 0, 0, 0), (71, .iinc 4 1, 3, 1, 0, 0), (74, .goto 9, 3, 83, 0, 0), (77, .iinc 6 1, 3, 1, 0, 0), (80, .goto (-48), 3, 32, 0, 0), (83, .iinc 5 1, 3, 1, 0, 0), (86, .goto (-67), 3, 19, 0, 0), (89, .iload 4, 2, 0, 0, 0), (91, .ireturn, 1, 0, 0, 0)]
/-- RenameMerge.Tree.init ()V -/
def xtb_7 : List xI := [(0, .aload_n 0, 1, 0, 0, 0), (1, .invokespecial 3, 3, 0, 6, 11), (4, .aload_n 0, 1, 0, 0, 0), (5, .bipush 64, 2, 64, 0, 0), (7, .anewarray 9, 3, 0, 0, 12), (10, .putfield 11, 3, 2, 0, 13), (13, .return_, 1, 0, 0, 0)]
/-- RenameMerge.Tree.fileAt (I)LRenameMerge$TreeFile; -/
def xtb_8 : List xI := [(0, .iload_n 1, 1, 0, 0, 0), (1, .invokestatic 17, 3, 67, 5, 0), (4, .ifCond .eq 12, 3, 16, 0, 0), (7, .aload_n 0, 1, 0, 0, 0), (8, .getfield 11, 3, 2, 0, 13), (11, .iload_n 1, 1, 0, 0, 0), (12, .aaload, 1, 0, 0, 0), (13, .goto 4, 3, 17, 0, 0), (16, .aconst_null, 1, 0, 0, 0), (17, .areturn, 1, 0, 0, 0)]
/-- RenameMerge.Tree.countFiles ()I -/
def xtb_9 : List xI := [(0, .iconst 0, 1, 0, 0, 0), (1, .istore_n 1, 1, 0, 0, 0), (2, .iconst 0, 1, 0, 0, 0), (3, .istore_n 2, 1, 0, 0, 0), (4, .iload_n 2, 1, 0, 0, 0), (5, .bipush 64, 2, 64, 0, 0), (7, .if_icmp .ge 21, 3, 28, 0, 0), (10, .aload_n 0, 1, 0, 0, 0), (11, .getfield 11, 3, 2, 0, 13), (14, .iload_n 2, 1, 0, 0, 0), (15, .aaload, 1, 0, 0, 0), (16, .ifnull 6, 3, 22, 0, 0), (19, .iinc 1 1, 3, 1, 0, 0), (22, .iinc 2 1, 3, 1, 0, 0), (25, .goto (-21), 3, 4, 0, 0), (28, .iload_n 1, 1, 0, 0, 0), (29, .ireturn, 1, 0, 0, 0)]
/-- RenameMerge.Tree.lay (ILRenameMerge$TreeFile;)V -/
def xtb_10 : List xI := [(0, .iload_n 1, 1, 0, 0, 0), (1, .invokestatic 17, 3, 67, 5, 0), (4, .ifCond .eq 10, 3, 14, 0, 0), (7, .aload_n 0, 1, 0, 0, 0), (8, .getfield 11, 3, 2, 0, 13), (11, .iload_n 1, 1, 0, 0, 0), (12, .aload_n 2, 1, 0, 0, 0), (13, .aastore, 1, 0, 0, 0), (14, .return_, 1, 0, 0, 0)]
/-- RenameMerge.Tree.become (LRenameMerge$Tree;)V -/
def xtb_11 : List xI := [(0, .iconst 0, 1, 0, 0, 0), (1, .istore_n 2, 1, 0, 0, 0), (2, .iload_n 2, 1, 0, 0, 0), (3, .bipush 64, 2, 64, 0, 0), (5, .if_icmp .ge 21, 3, 26, 0, 0), (8, .aload_n 0, 1, 0, 0, 0), (9, .getfield 11, 3, 2, 0, 13), (12, .iload_n 2, 1, 0, 0, 0), (13, .aload_n 1, 1, 0, 0, 0), (14, .getfield 11, 3, 2, 0, 13), (17, .iload_n 2, 1, 0, 0, 0), (18, .aaload, 1, 0, 0, 0), (19, .aastore, 1, 0, 0, 0), (20, .iinc 2 1, 3, 1, 0, 0), (23, .goto (-21), 3, 2, 0, 0), (26, .return_, 1, 0, 0, 0)]
/-- RenameMerge.Tree.longestText ()I -/
def xtb_12 : List xI := [(0, .iconst 0, 1, 0, 0, 0), (1, .istore_n 1, 1, 0, 0, 0), (2, .iconst 0, 1, 0, 0, 0), (3, .istore_n 2, 1, 0, 0, 0), (4, .iload_n 2, 1, 0, 0, 0), (5, .bipush 64, 2, 64, 0, 0), (7, .if_icmp .ge 30, 3, 37, 0, 0), (10, .aload_n 0, 1, 0, 0, 0), (11, .getfield 11, 3, 2, 0, 13), (14, .iload_n 2, 1, 0, 0, 0), (15, .aaload, 1, 0, 0, 0), (16, .astore_n 3, 1, 0, 0, 0), (17, .aload_n 3, 1, 0, 0, 0), (18, .ifnull 13, 3, 31, 0, 0), (21, .iload_n 1, 1, 0, 0, 0), (22, .aload_n 3, 1, 0, 0, 0), (23, .getfield 29, 3, 1, 1, 14), (26, .arraylength, 1, 0, 0, 0), (27, .invokestatic 33, 3, 0, 9, 15), (30, .istore_n 1, 1, 0, 0, 0), (31, .iinc 2 1, 3, 1, 0, 0), (34, .goto (-30), 3, 4, 0, 0), (37, .iload_n 1, 1, 0, 0, 0), (38, .ireturn, 1, 0, 0, 0)]
/-- RenameMerge.Tree.has (I)Z -/
def xtb_13 : List xI := [(0, .aload_n 0, 1, 0, 0, 0), (1, .iload_n 1, 1, 0, 0, 0), (2, .invokevirtual 21, 3, 8, 2, 16), (5, .ifnull 7, 3, 12, 0, 0), (8, .iconst 1, 1, 1, 0, 0), (9, .goto 4, 3, 13, 0, 0), (12, .iconst 0, 1, 0, 0, 0), (13, .ireturn, 1, 1, 0, 0)]
/-- RenameMerge.Tree.hasFileIn (I)Z -/
def xtb_14 : List xI := [(0, .iconst 0, 1, 0, 0, 0), (1, .istore_n 2, 1, 0, 0, 0), (2, .iload_n 2, 1, 0, 0, 0), (3, .bipush 8, 2, 8, 0, 0), (5, .if_icmp .ge 24, 3, 29, 0, 0), (8, .aload_n 0, 1, 0, 0, 0), (9, .iload_n 1, 1, 0, 0, 0), (10, .bipush 8, 2, 8, 0, 0), (12, .imul, 1, 0, 0, 0), (13, .iload_n 2, 1, 0, 0, 0), (14, .iadd, 1, 0, 0, 0), (15, .invokevirtual 39, 3, 13, 2, 17), (18, .ifCond .eq 5, 3, 23, 0, 0), (21, .iconst 1, 1, 1, 0, 0), (22, .ireturn, 1, 1, 0, 0), (23, .iinc 2 1, 3, 1, 0, 0), (26, .goto (-24), 3, 2, 0, 0), (29, .iconst 0, 1, 0, 0, 0), (30, .ireturn, 1, 1, 0, 0)]
/-- RenameMerge.Tree.move (II)V -/
def xtb_15 : List xI := [(0, .aload_n 0, 1, 0, 0, 0), (1, .iload_n 1, 1, 0, 0, 0), (2, .invokevirtual 21, 3, 8, 2, 16), (5, .astore_n 3, 1, 0, 0, 0), (6, .aload_n 0, 1, 0, 0, 0), (7, .iload_n 1, 1, 0, 0, 0), (8, .aconst_null, 1, 0, 0, 0), (9, .invokevirtual 25, 3, 10, 2, 18), (12, .aload_n 0, 1, 0, 0, 0), (13, .iload_n 2, 1, 0, 0, 0), (14, .aload_n 3, 1, 0, 0, 0), (15, .invokevirtual 25, 3, 10, 2, 18), (18, .return_, 1, 0, 0, 0)]
/-- RenameMerge.Side.init ()V -/
def xtb_16 : List xI := [(0, .aload_n 0, 1, 0, 0, 0), (1, .invokespecial 3, 3, 0, 6, 19), (4, .aload_n 0, 1, 0, 0, 0), (5, .bipush 64, 2, 64, 0, 0), (7, .newarray .int, 2, 0, 0, 0), (9, .putfield 9, 3, 3, 0, 20), (12, .aload_n 0, 1, 0, 0, 0), (13, .bipush 64, 2, 64, 0, 0), (15, .newarray .boolean, 2, 2, 0, 0), (17, .putfield 15, 3, 3, 1, 21), (20, .aload_n 0, 1, 0, 0, 0), (21, .bipush 64, 2, 64, 0, 0), (23, .newarray .boolean, 2, 2, 0, 0), (25, .putfield 19, 3, 3, 2, 22), (28, .aload_n 0, 1, 0, 0, 0), (29, .bipush 8, 2, 8, 0, 0), (31, .newarray .int, 2, 0, 0, 0), (33, .putfield 22, 3, 3, 3, 23), (36, .aload_n 0, 1, 0, 0, 0), (37, .bipush 64, 2, 64, 0, 0), (39, .newarray .int, 2, 0, 0, 0), (41, .putfield 25, 3, 3, 4, 24), (44, .aload_n 0, 1, 0, 0, 0), (45, .bipush 64, 2, 64, 0, 0), (47, .newarray .int, 2, 0, 0, 0), (49, .putfield 28, 3, 3, 5, 25), (52, .aload_n 0, 1, 0, 0, 0), (53, .getfield 9, 3, 3, 0, 20), (56, .iconst (-1), 1, 1, 1, 0), (57, .invokestatic 31, 3, 0, 4, 26), (60, .aload_n 0, 1, 0, 0, 0), (61, .getfield 22, 3, 3, 3, 23), (64, .iconst (-1), 1, 1, 1, 0), (65, .invokestatic 31, 3, 0, 4, 26), (68, .aload_n 0, 1, 0, 0, 0), (69, .getfield 28, 3, 3, 5, 25), (72, .iconst (-1), 1, 1, 1, 0), (73, .invokestatic 31, 3, 0, 4, 26), (76, .return_, 1, 0, 0, 0)]
/-- RenameMerge.Side.findRenames (LRenameMerge$Tree;LRenameMerge$Tree;I)V -/
def xtb_17 : List xI := [(0, .aload_n 0, 1, 0, 0, 0), (1, .getfield 9, 3, 3, 0, 20), (4, .iconst (-1), 1, 1, 1, 0), (5, .invokestatic 31, 3, 0, 4, 26), (8, .iconst 0, 1, 0, 0, 0), (9, .istore 4, 2, 0, 0, 0), (11, .iload 4, 2, 0, 0, 0), (13, .bipush 64, 2, 64, 0, 0), (15, .if_icmp .ge 69, 3, 84, 0, 0), (18, .aload_n 0, 1, 0, 0, 0), (19, .getfield 15, 3, 3, 1, 21), (22, .iload 4, 2, 0, 0, 0), (24, .aload_n 1, 1, 0, 0, 0), (25, .iload 4, 2, 0, 0, 0), (27, .invokevirtual 41, 3, 13, 2, 27), (30, .ifCond .eq 16, 3, 46, 0, 0), (33, .aload_n 2, 1, 0, 0, 0), (34, .iload 4, 2, 0, 0, 0), (36, .invokevirtual 41, 3, 13, 2, 27), (39, .ifCond .ne 7, 3, 46, 0, 0), (42, .iconst 1, 1, 1, 0, 0), (43, .goto 4, 3, 47, 0, 0), (46, .iconst 0, 1, 0, 0, 0), (47, .bastore, 1, 2, 0, 0), (48, .aload_n 0, 1, 0, 0, 0), (49, .getfield 19, 3, 3, 2, 22), (52, .iload 4, 2, 0, 0, 0), (54, .aload_n 2, 1, 0, 0, 0), (55, .iload 4, 2, 0, 0, 0), (57, .invokevirtual 41, 3, 13, 2, 27), (60, .ifCond .eq 16, 3, 76, 0, 0), (63, .aload_n 1, 1, 0, 0, 0), (64, .iload 4, 2, 0, 0, 0), (66, .invokevirtual 41, 3, 13, 2, 27), (69, .ifCond .ne 7, 3, 76, 0, 0), (72, .iconst 1, 1, 1, 0, 0), (73, .goto 4, 3, 77, 0, 0), (76, .iconst 0, 1, 0, 0, 0), (77, .bastore, 1, 2, 0, 0), (78, .iinc 4 1, 3, 1, 0, 0), (81, .goto (-70), 3, 11, 0, 0), (84, .aload_n 0, 1, 0, 0, 0), (85, .aload_n 1, 1, 0, 0, 0), (86, .aload_n 2, 1, 0, 0, 0), (87, .invokevirtual 46, 3, 18, 2, 28), (90, .aload_n 0, 1, 0, 0, 0), (91, .aload_n 1, 1, 0, 0, 0), (92, .aload_n 2, 1, 0, 0, 0), (93, .bipush 101, 2, 101, 0, 0), (95, .iload_n 3, 1, 0, 0, 0), (96, .iadd, 1, 0, 0, 0), (97, .iconst 2, 1, 2, 0, 0), (98, .idiv, 1, 0, 0, 0), (99, .invokevirtual 50, 3, 21, 2, 29), (102, .aload_n 0, 1, 0, 0, 0), (103, .aload_n 1, 1, 0, 0, 0), (104, .aload_n 2, 1, 0, 0, 0), (105, .iload_n 3, 1, 0, 0, 0), (106, .invokevirtual 54, 3, 23, 2, 30), (109, .return_, 1, 0, 0, 0)]
/-- RenameMerge.Side.pairEqualFiles (LRenameMerge$Tree;LRenameMerge$Tree;)V -/
def xtb_18 : List xI := [(0, .iconst 0, 1, 0, 0, 0), (1, .istore_n 3, 1, 0, 0, 0), (2, .iload_n 3, 1, 0, 0, 0), (3, .bipush 64, 2, 64, 0, 0), (5, .if_icmp .ge 47, 3, 52, 0, 0), (8, .aload_n 0, 1, 0, 0, 0), (9, .getfield 19, 3, 3, 2, 22), (12, .iload_n 3, 1, 0, 0, 0), (13, .baload, 1, 2, 0, 0), (14, .ifCond .eq 32, 3, 46, 0, 0), (17, .aload_n 0, 1, 0, 0, 0), (18, .aload_n 1, 1, 0, 0, 0), (19, .aload_n 2, 1, 0, 0, 0), (20, .iload_n 3, 1, 0, 0, 0), (21, .invokevirtual 57, 3, 8, 2, 31), (24, .iload_n 3, 1, 0, 0, 0), (25, .invokestatic 61, 3, 74, 5, 1), (28, .invokevirtual 65, 3, 19, 2, 32), (31, .istore 4, 2, 0, 0, 0), (33, .iload 4, 2, 0, 0, 0), (35, .iconst (-1), 1, 1, 1, 0), (36, .if_icmp .eq 10, 3, 46, 0, 0), (39, .aload_n 0, 1, 0, 0, 0), (40, .iload 4, 2, 0, 0, 0), (42, .iload_n 3, 1, 0, 0, 0), (43, .invokevirtual 69, 3, 20, 2, 33), (46, .iinc 3 1, 3, 1, 0, 0), (49, .goto (-47), 3, 2, 0, 0), (52, .return_, 1, 0, 0, 0)]
/-- RenameMerge.Side.findEqualSource (LRenameMerge$Tree;LRenameMerge$TreeFile;I)I -/
def xtb_19 : List xI := [(0, .iconst (-1), 1, 1, 1, 0), (1, .istore 4, 2, 0, 0, 0), (3, .iconst 0, 1, 0, 0, 0), (4, .istore 5, 2, 0, 0, 0), (6, .iload 5, 2, 0, 0, 0), (8, .bipush 64, 2, 64, 0, 0), (10, .if_icmp .ge 54, 3, 64, 0, 0), (13, .aload_n 0, 1, 0, 0, 0), (14, .getfield 15, 3, 3, 1, 21), (17, .iload 5, 2, 0, 0, 0), (19, .baload, 1, 2, 0, 0), (20, .ifCond .eq 38, 3, 58, 0, 0), (23, .aload_n 1, 1, 0, 0, 0), (24, .iload 5, 2, 0, 0, 0), (26, .invokevirtual 57, 3, 8, 2, 31), (29, .aload_n 2, 1, 0, 0, 0), (30, .invokestatic 73, 3, 3, 4, 34), (33, .ifCond .eq 25, 3, 58, 0, 0), (36, .iload 5, 2, 0, 0, 0), (38, .invokestatic 61, 3, 74, 5, 1), (41, .iload_n 3, 1, 0, 0, 0), (42, .if_icmp .ne 6, 3, 48, 0, 0), (45, .iload 5, 2, 0, 0, 0), (47, .ireturn, 1, 0, 0, 0), (48, .iload 4, 2, 0, 0, 0), (50, .iconst (-1), 1, 1, 1, 0), (51, .if_icmp .ne 7, 3, 58, 0, 0), (54, .iload 5, 2, 0, 0, 0), (56, .istore 4, 2, 0, 0, 0), (58, .iinc 5 1, 3, 1, 0, 0), (61, .goto (-55), 3, 6, 0, 0), (64, .iload 4, 2, 0, 0, 0), (66, .ireturn, 1, 0, 0, 0)]
/-- RenameMerge.Side.pair (II)V -/
def xtb_20 : List xI := [(0, .aload_n 0, 1, 0, 0, 0), (1, .getfield 9, 3, 3, 0, 20), (4, .iload_n 1, 1, 0, 0, 0), (5, .iload_n 2, 1, 0, 0, 0), (6, .iastore, 1, 0, 0, 0), (7, .aload_n 0, 1, 0, 0, 0), (8, .getfield 15, 3, 3, 1, 21), (11, .iload_n 1, 1, 0, 0, 0), (12, .iconst 0, 1, 0, 0, 0), (13, .bastore, 1, 2, 0, 0), (14, .aload_n 0, 1, 0, 0, 0), (15, .getfield 19, 3, 3, 2, 22), (18, .iload_n 2, 1, 0, 0, 0), (19, .iconst 0, 1, 0, 0, 0), (20, .bastore, 1, 2, 0, 0), (21, .return_, 1, 0, 0, 0)]
/-- RenameMerge.Side.pairOnlyNames (LRenameMerge$Tree;LRenameMerge$Tree;I)V -/
def xtb_21 : List xI := [(0, .iconst 0, 1, 0, 0, 0), (1, .istore 4, 2, 0, 0, 0), (3, .iload 4, 2, 0, 0, 0), (5, .bipush 8, 2, 8, 0, 0), (7, .if_icmp .ge 70, 3, 77, 0, 0), (10, .aload_n 0, 1, 0, 0, 0), (11, .getfield 15, 3, 3, 1, 21), (14, .iload 4, 2, 0, 0, 0), (16, .invokestatic 79, 3, 22, 4, 35), (19, .istore 5, 2, 0, 0, 0), (21, .aload_n 0, 1, 0, 0, 0), (22, .getfield 19, 3, 3, 2, 22), (25, .iload 4, 2, 0, 0, 0), (27, .invokestatic 79, 3, 22, 4, 35), (30, .istore 6, 2, 0, 0, 0), (32, .iload 5, 2, 0, 0, 0), (34, .iconst (-1), 1, 1, 1, 0), (35, .if_icmp .eq 36, 3, 71, 0, 0), (38, .iload 6, 2, 0, 0, 0), (40, .iconst (-1), 1, 1, 1, 0), (41, .if_icmp .eq 30, 3, 71, 0, 0), (44, .aload_n 1, 1, 0, 0, 0), (45, .iload 5, 2, 0, 0, 0), (47, .invokevirtual 57, 3, 8, 2, 31), (50, .aload_n 2, 1, 0, 0, 0), (51, .iload 6, 2, 0, 0, 0), (53, .invokevirtual 57, 3, 8, 2, 31), (56, .invokestatic 83, 3, 5, 4, 36), (59, .iload_n 3, 1, 0, 0, 0), (60, .if_icmp .lt 11, 3, 71, 0, 0), (63, .aload_n 0, 1, 0, 0, 0), (64, .iload 5, 2, 0, 0, 0), (66, .iload 6, 2, 0, 0, 0), (68, .invokevirtual 69, 3, 20, 2, 33), (71, .iinc 4 1, 3, 1, 0, 0), (74, .goto (-71), 3, 3, 0, 0), (77, .return_, 1, 0, 0, 0)]
/-- RenameMerge.Side.findOnly ([ZI)I -/
def xtb_22 : List xI := [(0, .iconst (-1), 1, 1, 1, 0), (1, .istore_n 2, 1, 0, 0, 0), (2, .iload_n 1, 1, 0, 0, 0), (3, .istore_n 3, 1, 0, 0, 0), (4, .iload_n 3, 1, 0, 0, 0), (5, .aload_n 0, 1, 0, 0, 0), (6, .arraylength, 1, 0, 0, 0), (7, .if_icmp .ge 24, 3, 31, 0, 0), (10, .aload_n 0, 1, 0, 0, 0), (11, .iload_n 3, 1, 0, 0, 0), (12, .baload, 1, 2, 0, 0), (13, .ifCond .eq 12, 3, 25, 0, 0), (16, .iload_n 2, 1, 0, 0, 0), (17, .iconst (-1), 1, 1, 1, 0), (18, .if_icmp .eq 5, 3, 23, 0, 0), (21, .iconst (-1), 1, 1, 1, 0), (22, .ireturn, 1, 0, 0, 0), (23, .iload_n 3, 1, 0, 0, 0), (24, .istore_n 2, 1, 0, 0, 0), (25, .iinc 3 8, 3, 8, 0, 0), (28, .goto (-24), 3, 4, 0, 0), (31, .iload_n 2, 1, 0, 0, 0), (32, .ireturn, 1, 0, 0, 0)]
/-- RenameMerge.Side.pairByScore (LRenameMerge$Tree;LRenameMerge$Tree;I)V -/
def xtb_23 : List xI := [(0, .aload_n 0, 1, 0, 0, 0), (1, .getfield 15, 3, 3, 1, 21), (4, .invokestatic 87, 3, 24, 4, 37), (7, .istore 4, 2, 0, 0, 0), (9, .aload_n 0, 1, 0, 0, 0), (10, .getfield 19, 3, 3, 2, 22), (13, .invokestatic 87, 3, 24, 4, 37), (16, .istore 5, 2, 0, 0, 0), (18, .iload 4, 2, 0, 0, 0), (20, .iload 5, 2, 0, 0, 0), (22, .imul, 1, 0, 0, 0), (23, .bipush 20, 2, 20, 0, 0), (25, .if_icmp .le 4, 3, 29, 0, 0), (28, .return_, 1, 0, 0, 0), (29, .iload 4, 2, 0, 0, 0), (31, .iload 5, 2, 0, 0, 0), (33, .invokestatic 91, 3, 0, 10, 38), (36, .istore 6, 2, 0, 0, 0), (38, .iconst 0, 1, 0, 0, 0), (39, .istore 7, 2, 0, 0, 0), (41, .iload 7, 2, 0, 0, 0), (43, .iload 6, 2, 0, 0, 0), (45, .if_icmp .ge 16, 3, 61, 0, 0), (48, .aload_n 0, 1, 0, 0, 0), (49, .aload_n 1, 1, 0, 0, 0), (50, .aload_n 2, 1, 0, 0, 0), (51, .iload_n 3, 1, 0, 0, 0), (52, .invokevirtual 97, 3, 25, 2, 39), (55, .iinc 7 1, 3, 1, 0, 0), (58, .goto (-17), 3, 41, 0, 0), (61, .return_, 1, 0, 0, 0)]
/-- RenameMerge.Side.countLeft ([Z)I -/
def xtb_24 : List xI := [(0, .iconst 0, 1, 0, 0, 0), (1, .istore_n 1, 1, 0, 0, 0), (2, .iconst 0, 1, 0, 0, 0), (3, .istore_n 2, 1, 0, 0, 0), (4, .iload_n 2, 1, 0, 0, 0), (5, .aload_n 0, 1, 0, 0, 0), (6, .arraylength, 1, 0, 0, 0), (7, .if_icmp .ge 18, 3, 25, 0, 0), (10, .aload_n 0, 1, 0, 0, 0), (11, .iload_n 2, 1, 0, 0, 0), (12, .baload, 1, 2, 0, 0), (13, .ifCond .eq 6, 3, 19, 0, 0), (16, .iinc 1 1, 3, 1, 0, 0), (19, .iinc 2 1, 3, 1, 0, 0), (22, .goto (-18), 3, 4, 0, 0), (25, .iload_n 1, 1, 0, 0, 0), (26, .ireturn, 1, 0, 0, 0)]
/-- RenameMerge.Side.pairBest (LRenameMerge$Tree;LRenameMerge$Tree;I)V -/
def xtb_25 : List xI := [(0, .iconst (-1), 1, 1, 1, 0), (1, .istore 4, 2, 0, 0, 0), (3, .iconst (-1), 1, 1, 1, 0), (4, .istore 5, 2, 0, 0, 0), (6, .iconst (-1), 1, 1, 1, 0), (7, .istore 6, 2, 0, 0, 0), (9, .iconst 0, 1, 0, 0, 0), (10, .istore 7, 2, 0, 0, 0), (12, .iload 7, 2, 0, 0, 0), (14, .bipush 64, 2, 64, 0, 0), (16, .if_icmp .ge 112, 3, 128, 0, 0), (19, .iconst 0, 1, 0, 0, 0), (20, .istore 8, 2, 0, 0, 0), (22, .iload 8, 2, 0, 0, 0), (24, .bipush 64, 2, 64, 0, 0), (26, .if_icmp .ge 96, 3, 122, 0, 0), (29, .aload_n 0, 1, 0, 0, 0), (30, .getfield 15, 3, 3, 1, 21), (33, .iload 7, 2, 0, 0, 0), (35, .baload, 1, 2, 0, 0), (36, .ifCond .eq 86, 3, 122, 0, 0), (39, .aload_n 0, 1, 0, 0, 0), (40, .getfield 19, 3, 3, 2, 22), (43, .iload 8, 2, 0, 0, 0), (45, .baload, 1, 2, 0, 0), (46, .ifCond .eq 70, 3, 116, 0, 0), (49, .aload_n 1, 1, 0, 0, 0), (50, .iload 7, 2, 0, 0, 0), (52, .invokevirtual 57, 3, 8, 2, 31), (55, .aload_n 2, 1, 0, 0, 0), (56, .iload 8, 2, 0, 0, 0), (58, .invokevirtual 57, 3, 8, 2, 31), (61, .invokestatic 83, 3, 5, 4, 36), (64, .istore 9, 2, 0, 0, 0), (66, .iconst 2, 1, 2, 0, 0), (67, .iload 9, 2, 0, 0, 0), (69, .imul, 1, 0, 0, 0), (70, .iload 7, 2, 0, 0, 0), (72, .invokestatic 61, 3, 74, 5, 1), (75, .iload 8, 2, 0, 0, 0), (77, .invokestatic 61, 3, 74, 5, 1), (80, .if_icmp .ne 7, 3, 87, 0, 0), (83, .iconst 1, 1, 1, 0, 0), (84, .goto 4, 3, 88, 0, 0), (87, .iconst 0, 1, 0, 0, 0), (88, .iadd, 1, 0, 0, 0), (89, .istore 10, 2, 0, 0, 0), (91, .iload 9, 2, 0, 0, 0), (93, .iload_n 3, 1, 0, 0, 0), (94, .if_icmp .lt 22, 3, 116, 0, 0), (97, .iload 10, 2, 0, 0, 0), (99, .iload 4, 2, 0, 0, 0), (101, .if_icmp .le 15, 3, 116, 0, 0), (104, .iload 10, 2, 0, 0, 0), (106, .istore 4, 2, 0, 0, 0), (108, .iload 7, 2, 0, 0, 0), (110, .istore 5, 2, 0, 0, 0), (112, .iload 8, 2, 0, 0, 0), (114, .istore 6, 2, 0, 0, 0), (116, .iinc 8 1, 3, 1, 0, 0), (119, .goto (-97), 3, 22, 0, 0), (122, .iinc 7 1, 3, 1, 0, 0), (125, .goto (-113), 3, 12, 0, 0), (128, .iload 5, 2, 0, 0, 0), (130, .iconst (-1), 1, 1, 1, 0), (131, .if_icmp .eq 17, 3, 148, 0, 0), (134, .iload 6, 2, 0, 0, 0), (136, .iconst (-1), 1, 1, 1, 0), (137, .if_icmp .eq 11, 3, 148, 0, 0), (140, .aload_n 0, 1, 0, 0, 0), (141, .iload 5, 2, 0, 0, 0), (143, .iload 6, 2, 0, 0, 0), (145, .invokevirtual 69, 3, 20, 2, 33), (148, .return_, 1, 0, 0, 0)]
/-- RenameMerge.Side.findPlaces (LRenameMerge$Tree;)V -/
def xtb_26 : List xI := [(0, .iconst 0, 1, 0, 0, 0), (1, .istore_n 2, 1, 0, 0, 0), (2, .iload_n 2, 1, 0, 0, 0), (3, .bipush 8, 2, 8, 0, 0), (5, .if_icmp .ge 32, 3, 37, 0, 0), (8, .aload_n 0, 1, 0, 0, 0), (9, .getfield 22, 3, 3, 3, 23), (12, .iload_n 2, 1, 0, 0, 0), (13, .aload_n 1, 1, 0, 0, 0), (14, .iload_n 2, 1, 0, 0, 0), (15, .invokevirtual 100, 3, 14, 2, 40), (18, .ifCond .eq 7, 3, 25, 0, 0), (21, .iconst (-1), 1, 1, 1, 0), (22, .goto 8, 3, 30, 0, 0), (25, .aload_n 0, 1, 0, 0, 0), (26, .iload_n 2, 1, 0, 0, 0), (27, .invokevirtual 103, 3, 27, 2, 41), (30, .iastore, 1, 0, 0, 0), (31, .iinc 2 1, 3, 1, 0, 0), (34, .goto (-32), 3, 2, 0, 0), (37, .return_, 1, 0, 0, 0)]
/-- RenameMerge.Side.findPlace (I)I -/
def xtb_27 : List xI := [(0, .iconst 0, 1, 0, 0, 0), (1, .istore_n 2, 1, 0, 0, 0), (2, .iconst (-1), 1, 1, 1, 0), (3, .istore_n 3, 1, 0, 0, 0), (4, .iconst 0, 1, 0, 0, 0), (5, .istore 4, 2, 0, 0, 0), (7, .iload 4, 2, 0, 0, 0), (9, .bipush 8, 2, 8, 0, 0), (11, .if_icmp .ge 47, 3, 58, 0, 0), (14, .aload_n 0, 1, 0, 0, 0), (15, .iload_n 1, 1, 0, 0, 0), (16, .iload 4, 2, 0, 0, 0), (18, .invokevirtual 106, 3, 28, 2, 42), (21, .istore 5, 2, 0, 0, 0), (23, .iload 5, 2, 0, 0, 0), (25, .iload_n 2, 1, 0, 0, 0), (26, .if_icmp .le 12, 3, 38, 0, 0), (29, .iload 5, 2, 0, 0, 0), (31, .istore_n 2, 1, 0, 0, 0), (32, .iload 4, 2, 0, 0, 0), (34, .istore_n 3, 1, 0, 0, 0), (35, .goto 17, 3, 52, 0, 0), (38, .iload 5, 2, 0, 0, 0), (40, .iload_n 2, 1, 0, 0, 0), (41, .if_icmp .ne 11, 3, 52, 0, 0), (44, .iload 5, 2, 0, 0, 0), (46, .ifCond .le 6, 3, 52, 0, 0), (49, .bipush (-2), 2, 2, 1, 0), (51, .istore_n 3, 1, 0, 0, 0), (52, .iinc 4 1, 3, 1, 0, 0), (55, .goto (-48), 3, 7, 0, 0), (58, .iload_n 3, 1, 0, 0, 0), (59, .ireturn, 1, 0, 0, 0)]
/-- RenameMerge.Side.countRenames (II)I -/
def xtb_28 : List xI := [(0, .iconst 0, 1, 0, 0, 0), (1, .istore_n 3, 1, 0, 0, 0), (2, .iconst 0, 1, 0, 0, 0), (3, .istore 4, 2, 0, 0, 0), (5, .iload 4, 2, 0, 0, 0), (7, .bipush 8, 2, 8, 0, 0), (9, .if_icmp .ge 41, 3, 50, 0, 0), (12, .aload_n 0, 1, 0, 0, 0), (13, .getfield 9, 3, 3, 0, 20), (16, .iload_n 1, 1, 0, 0, 0), (17, .bipush 8, 2, 8, 0, 0), (19, .imul, 1, 0, 0, 0), (20, .iload 4, 2, 0, 0, 0), (22, .iadd, 1, 0, 0, 0), (23, .iaload, 1, 0, 0, 0), (24, .istore 5, 2, 0, 0, 0), (26, .iload 5, 2, 0, 0, 0), (28, .iconst (-1), 1, 1, 1, 0), (29, .if_icmp .eq 15, 3, 44, 0, 0), (32, .iload 5, 2, 0, 0, 0), (34, .invokestatic 109, 3, 75, 5, 2), (37, .iload_n 2, 1, 0, 0, 0), (38, .if_icmp .ne 6, 3, 44, 0, 0), (41, .iinc 3 1, 3, 1, 0, 0), (44, .iinc 4 1, 3, 1, 0, 0), (47, .goto (-42), 3, 5, 0, 0), (50, .iload_n 3, 1, 0, 0, 0), (51, .ireturn, 1, 0, 0, 0)]
/-- RenameMerge.Side.findStands (LRenameMerge$Tree;LRenameMerge$Tree;LRenameMerge$Tree;LRenameMerge$Side;[I)V -/
def xtb_29 : List xI := [(0, .aload_n 0, 1, 0, 0, 0), (1, .aload_n 1, 1, 0, 0, 0), (2, .aload_n 2, 1, 0, 0, 0), (3, .aload 4, 2, 0, 0, 0), (5, .invokevirtual 112, 3, 30, 2, 43), (8, .iconst 0, 1, 0, 0, 0), (9, .istore 6, 2, 0, 0, 0), (11, .iload 6, 2, 0, 0, 0), (13, .bipush 64, 2, 64, 0, 0), (15, .if_icmp .ge 116, 3, 131, 0, 0), (18, .aload_n 0, 1, 0, 0, 0), (19, .getfield 28, 3, 3, 5, 25), (22, .iload 6, 2, 0, 0, 0), (24, .aload_n 2, 1, 0, 0, 0), (25, .iload 6, 2, 0, 0, 0), (27, .invokevirtual 41, 3, 13, 2, 27), (30, .ifCond .eq 8, 3, 38, 0, 0), (33, .iload 6, 2, 0, 0, 0), (35, .goto 4, 3, 39, 0, 0), (38, .iconst (-1), 1, 1, 1, 0), (39, .iastore, 1, 0, 0, 0), (40, .aload_n 0, 1, 0, 0, 0), (41, .getfield 25, 3, 3, 4, 24), (44, .iload 6, 2, 0, 0, 0), (46, .iaload, 1, 0, 0, 0), (47, .istore 7, 2, 0, 0, 0), (49, .iload 7, 2, 0, 0, 0), (51, .iconst (-1), 1, 1, 1, 0), (52, .if_icmp .ne 6, 3, 58, 0, 0), (55, .goto 70, 3, 125, 0, 0), (58, .iload 7, 2, 0, 0, 0), (60, .bipush (-2), 2, 2, 1, 0), (62, .if_icmp .eq 40, 3, 102, 0, 0), (65, .aload_n 1, 1, 0, 0, 0), (66, .iload 7, 2, 0, 0, 0), (68, .invokevirtual 41, 3, 13, 2, 27), (71, .ifCond .ne 31, 3, 102, 0, 0), (74, .aload_n 2, 1, 0, 0, 0), (75, .iload 7, 2, 0, 0, 0), (77, .invokevirtual 41, 3, 13, 2, 27), (80, .ifCond .ne 22, 3, 102, 0, 0), (83, .aload_n 3, 1, 0, 0, 0), (84, .iload 7, 2, 0, 0, 0), (86, .invokevirtual 41, 3, 13, 2, 27), (89, .ifCond .ne 13, 3, 102, 0, 0), (92, .aload_n 0, 1, 0, 0, 0), (93, .iload 7, 2, 0, 0, 0), (95, .invokevirtual 116, 3, 32, 2, 44), (98, .iconst 1, 1, 1, 0, 0), (99, .if_icmp .le 17, 3, 116, 0, 0), (102, .aload 5, 2, 0, 0, 0), (104, .iload 6, 2, 0, 0, 0), (106, .dup2, 1, 0, 0, 0), (107, .iaload, 1, 0, 0, 0), (108, .sipush 128, 3, 128, 0, 0), (111, .ior, 1, 0, 0, 0), (112, .iastore, 1, 0, 0, 0), (113, .goto 12, 3, 125, 0, 0), (116, .aload_n 0, 1, 0, 0, 0), (117, .getfield 28, 3, 3, 5, 25), (120, .iload 6, 2, 0, 0, 0), (122, .iload 7, 2, 0, 0, 0), (124, .iastore, 1, 0, 0, 0), (125, .iinc 6 1, 3, 1, 0, 0), (128, .goto (-117), 3, 11, 0, 0), (131, .return_, 1, 0, 0, 0)]
/-- RenameMerge.Side.findWanted (LRenameMerge$Tree;LRenameMerge$Tree;LRenameMerge$Side;)V -/
def xtb_30 : List xI := [(0, .iconst 0, 1, 0, 0, 0), (1, .istore 4, 2, 0, 0, 0), (3, .iload 4, 2, 0, 0, 0), (5, .bipush 64, 2, 64, 0, 0), (7, .if_icmp .ge 98, 3, 105, 0, 0), (10, .aload_n 0, 1, 0, 0, 0), (11, .getfield 25, 3, 3, 4, 24), (14, .iload 4, 2, 0, 0, 0), (16, .iconst (-1), 1, 1, 1, 0), (17, .iastore, 1, 0, 0, 0), (18, .aload_n 2, 1, 0, 0, 0), (19, .iload 4, 2, 0, 0, 0), (21, .invokevirtual 41, 3, 13, 2, 27), (24, .ifCond .eq 75, 3, 99, 0, 0), (27, .aload_n 1, 1, 0, 0, 0), (28, .iload 4, 2, 0, 0, 0), (30, .invokevirtual 41, 3, 13, 2, 27), (33, .ifCond .ne 66, 3, 99, 0, 0), (36, .aload_n 3, 1, 0, 0, 0), (37, .iload 4, 2, 0, 0, 0), (39, .invokestatic 109, 3, 75, 5, 2), (42, .invokevirtual 119, 3, 31, 2, 45), (45, .istore 5, 2, 0, 0, 0), (47, .iload 5, 2, 0, 0, 0), (49, .bipush (-2), 2, 2, 1, 0), (51, .if_icmp .ne 15, 3, 66, 0, 0), (54, .aload_n 0, 1, 0, 0, 0), (55, .getfield 25, 3, 3, 4, 24), (58, .iload 4, 2, 0, 0, 0), (60, .bipush (-2), 2, 2, 1, 0), (62, .iastore, 1, 0, 0, 0), (63, .goto 36, 3, 99, 0, 0), (66, .iload 5, 2, 0, 0, 0), (68, .iconst (-1), 1, 1, 1, 0), (69, .if_icmp .eq 30, 3, 99, 0, 0), (72, .aload_n 0, 1, 0, 0, 0), (73, .iload 5, 2, 0, 0, 0), (75, .invokevirtual 119, 3, 31, 2, 45), (78, .ifCond .ge 21, 3, 99, 0, 0), (81, .aload_n 0, 1, 0, 0, 0), (82, .getfield 25, 3, 3, 4, 24), (85, .iload 4, 2, 0, 0, 0), (87, .iload 5, 2, 0, 0, 0), (89, .bipush 8, 2, 8, 0, 0), (91, .imul, 1, 0, 0, 0), (92, .iload 4, 2, 0, 0, 0), (94, .invokestatic 61, 3, 74, 5, 1), (97, .iadd, 1, 0, 0, 0), (98, .iastore, 1, 0, 0, 0), (99, .iinc 4 1, 3, 1, 0, 0), (102, .goto (-99), 3, 3, 0, 0), (105, .return_, 1, 0, 0, 0)]
/-- RenameMerge.Side.placeOf (I)I -/
def xtb_31 : List xI := [(0, .iload_n 1, 1, 0, 0, 0), (1, .ifCond .lt 18, 3, 19, 0, 0), (4, .iload_n 1, 1, 0, 0, 0), (5, .bipush 8, 2, 8, 0, 0), (7, .if_icmp .ge 12, 3, 19, 0, 0), (10, .aload_n 0, 1, 0, 0, 0), (11, .getfield 22, 3, 3, 3, 23), (14, .iload_n 1, 1, 0, 0, 0), (15, .iaload, 1, 0, 0, 0), (16, .goto 4, 3, 20, 0, 0), (19, .iconst (-1), 1, 1, 1, 0), (20, .ireturn, 1, 0, 0, 0)]
/-- RenameMerge.Side.countWanted (I)I -/
def xtb_32 : List xI := [(0, .iconst 0, 1, 0, 0, 0), (1, .istore_n 2, 1, 0, 0, 0), (2, .iconst 0, 1, 0, 0, 0), (3, .istore_n 3, 1, 0, 0, 0), (4, .iload_n 3, 1, 0, 0, 0), (5, .bipush 64, 2, 64, 0, 0), (7, .if_icmp .ge 22, 3, 29, 0, 0), (10, .aload_n 0, 1, 0, 0, 0), (11, .getfield 25, 3, 3, 4, 24), (14, .iload_n 3, 1, 0, 0, 0), (15, .iaload, 1, 0, 0, 0), (16, .iload_n 1, 1, 0, 0, 0), (17, .if_icmp .ne 6, 3, 23, 0, 0), (20, .iinc 2 1, 3, 1, 0, 0), (23, .iinc 3 1, 3, 1, 0, 0), (26, .goto (-22), 3, 4, 0, 0), (29, .iload_n 2, 1, 0, 0, 0), (30, .ireturn, 1, 0, 0, 0)]
/-- RenameMerge.Side.layStanding (LRenameMerge$Tree;LRenameMerge$Tree;)V -/
def xtb_33 : List xI := [(0, .iconst 0, 1, 0, 0, 0), (1, .istore_n 3, 1, 0, 0, 0), (2, .iload_n 3, 1, 0, 0, 0), (3, .bipush 64, 2, 64, 0, 0), (5, .if_icmp .ge 15, 3, 20, 0, 0), (8, .aload_n 2, 1, 0, 0, 0), (9, .iload_n 3, 1, 0, 0, 0), (10, .aconst_null, 1, 0, 0, 0), (11, .invokevirtual 122, 3, 10, 2, 46), (14, .iinc 3 1, 3, 1, 0, 0), (17, .goto (-15), 3, 2, 0, 0), (20, .iconst 0, 1, 0, 0, 0), (21, .istore_n 3, 1, 0, 0, 0), (22, .iload_n 3, 1, 0, 0, 0), (23, .bipush 64, 2, 64, 0, 0), (25, .if_icmp .ge 32, 3, 57, 0, 0), (28, .aload_n 1, 1, 0, 0, 0), (29, .iload_n 3, 1, 0, 0, 0), (30, .invokevirtual 41, 3, 13, 2, 27), (33, .ifCond .eq 18, 3, 51, 0, 0), (36, .aload_n 2, 1, 0, 0, 0), (37, .aload_n 0, 1, 0, 0, 0), (38, .getfield 28, 3, 3, 5, 25), (41, .iload_n 3, 1, 0, 0, 0), (42, .iaload, 1, 0, 0, 0), (43, .aload_n 1, 1, 0, 0, 0), (44, .iload_n 3, 1, 0, 0, 0), (45, .invokevirtual 57, 3, 8, 2, 31), (48, .invokevirtual 122, 3, 10, 2, 46), (51, .iinc 3 1, 3, 1, 0, 0), (54, .goto (-32), 3, 22, 0, 0), (57, .return_, 1, 0, 0, 0)]
/-- RenameMerge.Side.targetOf (I)I -/
def xtb_34 : List xI := [(0, .iload_n 1, 1, 0, 0, 0), (1, .invokestatic 37, 3, 67, 5, 3), (4, .ifCond .eq 12, 3, 16, 0, 0), (7, .aload_n 0, 1, 0, 0, 0), (8, .getfield 9, 3, 3, 0, 20), (11, .iload_n 1, 1, 0, 0, 0), (12, .iaload, 1, 0, 0, 0), (13, .goto 4, 3, 17, 0, 0), (16, .iconst (-1), 1, 1, 1, 0), (17, .ireturn, 1, 0, 0, 0)]
/-- RenameMerge.Side.standOf (I)I -/
def xtb_35 : List xI := [(0, .iload_n 1, 1, 0, 0, 0), (1, .invokestatic 37, 3, 67, 5, 3), (4, .ifCond .eq 12, 3, 16, 0, 0), (7, .aload_n 0, 1, 0, 0, 0), (8, .getfield 28, 3, 3, 5, 25), (11, .iload_n 1, 1, 0, 0, 0), (12, .iaload, 1, 0, 0, 0), (13, .goto 4, 3, 17, 0, 0), (16, .iconst (-1), 1, 1, 1, 0), (17, .ireturn, 1, 0, 0, 0)]
/-- RenameMerge.Part.init ()V -/
def xtb_36 : List xI := [(0, .aload_n 0, 1, 0, 0, 0), (1, .invokespecial 1, 3, 0, 6, 47), (4, .aload_n 0, 1, 0, 0, 0), (5, .getstatic 7, 3, 0, 0, 0), (8, .putfield 13, 3, 5, 0, 48), (11, .aload_n 0, 1, 0, 0, 0), (12, .iconst 0, 1, 0, 0, 0), (13, .putfield 18, 3, 5, 1, 49), (16, .aload_n 0, 1, 0, 0, 0), (17, .iconst 0, 1, 0, 0, 0), (18, .putfield 22, 3, 5, 2, 50), (21, .return_, 1, 0, 0, 0)]
/-- RenameMerge.Part.startAt ([I)V -/
def xtb_37 : List xI := [(0, .aload_n 0, 1, 0, 0, 0), (1, .aload_n 1, 1, 0, 0, 0), (2, .putfield 13, 3, 5, 0, 48), (5, .aload_n 0, 1, 0, 0, 0), (6, .iconst 0, 1, 0, 0, 0), (7, .putfield 18, 3, 5, 1, 49), (10, .aload_n 0, 1, 0, 0, 0), (11, .iconst 0, 1, 0, 0, 0), (12, .putfield 22, 3, 5, 2, 50), (15, .return_, 1, 0, 0, 0)]
/-- RenameMerge.Part.reachTo (I)V -/
def xtb_38 : List xI := [(0, .aload_n 0, 1, 0, 0, 0), (1, .iload_n 1, 1, 0, 0, 0), (2, .aload_n 0, 1, 0, 0, 0), (3, .getfield 18, 3, 5, 1, 49), (6, .isub, 1, 0, 0, 0), (7, .putfield 22, 3, 5, 2, 50), (10, .return_, 1, 0, 0, 0)]
/-- RenameMerge.Part.sameAs (LRenameMerge$Part;)Z -/
def xtb_39 : List xI := [(0, .aload_n 0, 1, 0, 0, 0), (1, .getfield 22, 3, 5, 2, 50), (4, .aload_n 1, 1, 0, 0, 0), (5, .getfield 22, 3, 5, 2, 50), (8, .if_icmp .eq 5, 3, 13, 0, 0), (11, .iconst 0, 1, 0, 0, 0), (12, .ireturn, 1, 1, 0, 0), (13, .iconst 0, 1, 0, 0, 0), (14, .istore_n 2, 1, 0, 0, 0), (15, .iload_n 2, 1, 0, 0, 0), (16, .aload_n 0, 1, 0, 0, 0), (17, .getfield 22, 3, 5, 2, 50), (20, .if_icmp .ge 36, 3, 56, 0, 0), (23, .aload_n 0, 1, 0, 0, 0), (24, .getfield 13, 3, 5, 0, 48), (27, .aload_n 0, 1, 0, 0, 0), (28, .getfield 18, 3, 5, 1, 49), (31, .iload_n 2, 1, 0, 0, 0), (32, .iadd, 1, 0, 0, 0), (33, .iaload, 1, 0, 0, 0), (34, .aload_n 1, 1, 0, 0, 0), (35, .getfield 13, 3, 5, 0, 48), (38, .aload_n 1, 1, 0, 0, 0), (39, .getfield 18, 3, 5, 1, 49), (42, .iload_n 2, 1, 0, 0, 0), (43, .iadd, 1, 0, 0, 0), (44, .iaload, 1, 0, 0, 0), (45, .if_icmp .eq 5, 3, 50, 0, 0), (48, .iconst 0, 1, 0, 0, 0), (49, .ireturn, 1, 1, 0, 0), (50, .iinc 2 1, 3, 1, 0, 0), (53, .goto (-38), 3, 15, 0, 0), (56, .iconst 1, 1, 1, 0, 0), (57, .ireturn, 1, 1, 0, 0)]
/-- RenameMerge.Part.commonBeginning (LRenameMerge$Part;)I -/
def xtb_40 : List xI := [(0, .aload_n 0, 1, 0, 0, 0), (1, .getfield 22, 3, 5, 2, 50), (4, .aload_n 1, 1, 0, 0, 0), (5, .getfield 22, 3, 5, 2, 50), (8, .invokestatic 25, 3, 0, 10, 51), (11, .istore_n 2, 1, 0, 0, 0), (12, .iconst 0, 1, 0, 0, 0), (13, .istore_n 3, 1, 0, 0, 0), (14, .iload_n 3, 1, 0, 0, 0), (15, .iload_n 2, 1, 0, 0, 0), (16, .if_icmp .ge 34, 3, 50, 0, 0), (19, .aload_n 0, 1, 0, 0, 0), (20, .getfield 13, 3, 5, 0, 48), (23, .aload_n 0, 1, 0, 0, 0), (24, .getfield 18, 3, 5, 1, 49), (27, .iload_n 3, 1, 0, 0, 0), (28, .iadd, 1, 0, 0, 0), (29, .iaload, 1, 0, 0, 0), (30, .aload_n 1, 1, 0, 0, 0), (31, .getfield 13, 3, 5, 0, 48), (34, .aload_n 1, 1, 0, 0, 0), (35, .getfield 18, 3, 5, 1, 49), (38, .iload_n 3, 1, 0, 0, 0), (39, .iadd, 1, 0, 0, 0), (40, .iaload, 1, 0, 0, 0), (41, .if_icmp .ne 9, 3, 50, 0, 0), (44, .iinc 3 1, 3, 1, 0, 0), (47, .goto (-33), 3, 14, 0, 0), (50, .iload_n 3, 1, 0, 0, 0), (51, .ireturn, 1, 0, 0, 0)]
/-- RenameMerge.Part.commonEnd (LRenameMerge$Part;I)I -/
def xtb_41 : List xI := [(0, .aload_n 0, 1, 0, 0, 0), (1, .getfield 22, 3, 5, 2, 50), (4, .aload_n 1, 1, 0, 0, 0), (5, .getfield 22, 3, 5, 2, 50), (8, .invokestatic 25, 3, 0, 10, 51), (11, .iload_n 2, 1, 0, 0, 0), (12, .isub, 1, 0, 0, 0), (13, .istore_n 3, 1, 0, 0, 0), (14, .aload_n 0, 1, 0, 0, 0), (15, .getfield 18, 3, 5, 1, 49), (18, .aload_n 0, 1, 0, 0, 0), (19, .getfield 22, 3, 5, 2, 50), (22, .iadd, 1, 0, 0, 0), (23, .iconst 1, 1, 1, 0, 0), (24, .isub, 1, 0, 0, 0), (25, .istore 4, 2, 0, 0, 0), (27, .aload_n 1, 1, 0, 0, 0), (28, .getfield 18, 3, 5, 1, 49), (31, .aload_n 1, 1, 0, 0, 0), (32, .getfield 22, 3, 5, 2, 50), (35, .iadd, 1, 0, 0, 0), (36, .iconst 1, 1, 1, 0, 0), (37, .isub, 1, 0, 0, 0), (38, .istore 5, 2, 0, 0, 0), (40, .iconst 0, 1, 0, 0, 0), (41, .istore 6, 2, 0, 0, 0), (43, .iload 6, 2, 0, 0, 0), (45, .iload_n 3, 1, 0, 0, 0), (46, .if_icmp .ge 32, 3, 78, 0, 0), (49, .aload_n 0, 1, 0, 0, 0), (50, .getfield 13, 3, 5, 0, 48), (53, .iload 4, 2, 0, 0, 0), (55, .iload 6, 2, 0, 0, 0), (57, .isub, 1, 0, 0, 0), (58, .iaload, 1, 0, 0, 0), (59, .aload_n 1, 1, 0, 0, 0), (60, .getfield 13, 3, 5, 0, 48), (63, .iload 5, 2, 0, 0, 0), (65, .iload 6, 2, 0, 0, 0), (67, .isub, 1, 0, 0, 0), (68, .iaload, 1, 0, 0, 0), (69, .if_icmp .ne 9, 3, 78, 0, 0), (72, .iinc 6 1, 3, 1, 0, 0), (75, .goto (-32), 3, 43, 0, 0), (78, .iload 6, 2, 0, 0, 0), (80, .ireturn, 1, 0, 0, 0)]
/-- RenameMerge.Part.startBehind (I)V -/
def xtb_42 : List xI := [(0, .aload_n 0, 1, 0, 0, 0), (1, .iload_n 1, 1, 0, 0, 0), (2, .iconst 1, 1, 1, 0, 0), (3, .iadd, 1, 0, 0, 0), (4, .putfield 18, 3, 5, 1, 49), (7, .aload_n 0, 1, 0, 0, 0), (8, .iconst 0, 1, 0, 0, 0), (9, .putfield 22, 3, 5, 2, 50), (12, .return_, 1, 0, 0, 0)]
/-- RenameMerge.LineMerge.init ()V -/
def xtb_43 : List xI := [(0, .aload_n 0, 1, 0, 0, 0), (1, .invokespecial 3, 3, 0, 6, 52), (4, .aload_n 0, 1, 0, 0, 0), (5, .bipush 9, 2, 9, 0, 0), (7, .bipush 77, 2, 77, 0, 0), (9, .multianewarray 9 2, 4, 0, 0, 53), (13, .putfield 11, 3, 6, 0, 54), (16, .aload_n 0, 1, 0, 0, 0), (17, .bipush 8, 2, 8, 0, 0), (19, .newarray .int, 2, 0, 0, 0), (21, .putfield 16, 3, 6, 1, 55), (24, .aload_n 0, 1, 0, 0, 0), (25, .bipush 8, 2, 8, 0, 0), (27, .newarray .int, 2, 0, 0, 0), (29, .putfield 20, 3, 6, 2, 56), (32, .aload_n 0, 1, 0, 0, 0), (33, .new 23, 3, 5, 3, 57), (36, .dup, 1, 0, 0, 0), (37, .invokespecial 25, 3, 36, 1, 4), (40, .putfield 26, 3, 6, 3, 58), (43, .aload_n 0, 1, 0, 0, 0), (44, .new 23, 3, 5, 3, 57), (47, .dup, 1, 0, 0, 0), (48, .invokespecial 25, 3, 36, 1, 4), (51, .putfield 30, 3, 6, 4, 59), (54, .aload_n 0, 1, 0, 0, 0), (55, .new 23, 3, 5, 3, 57), (58, .dup, 1, 0, 0, 0), (59, .invokespecial 25, 3, 36, 1, 4), (62, .putfield 33, 3, 6, 5, 60), (65, .aload_n 0, 1, 0, 0, 0), (66, .bipush 76, 2, 76, 0, 0), (68, .newarray .int, 2, 0, 0, 0), (70, .putfield 36, 3, 6, 6, 61), (73, .aload_n 0, 1, 0, 0, 0), (74, .iconst 0, 1, 0, 0, 0), (75, .putfield 39, 3, 6, 7, 62), (78, .aload_n 0, 1, 0, 0, 0), (79, .iconst 0, 1, 0, 0, 0), (80, .putfield 43, 3, 6, 8, 63), (83, .return_, 1, 0, 0, 0)]
/-- RenameMerge.LineMerge.join ([I[I[II)V -/
def xtb_44 : List xI := [(0, .aload_n 0, 1, 0, 0, 0), (1, .iconst 0, 1, 0, 0, 0), (2, .putfield 39, 3, 6, 7, 62), (5, .aload_n 0, 1, 0, 0, 0), (6, .iconst 0, 1, 0, 0, 0), (7, .putfield 43, 3, 6, 8, 63), (10, .aload_n 0, 1, 0, 0, 0), (11, .aload_n 1, 1, 0, 0, 0), (12, .aload_n 2, 1, 0, 0, 0), (13, .aload_n 0, 1, 0, 0, 0), (14, .getfield 16, 3, 6, 1, 55), (17, .invokevirtual 53, 3, 45, 2, 64), (20, .aload_n 0, 1, 0, 0, 0), (21, .aload_n 1, 1, 0, 0, 0), (22, .aload_n 3, 1, 0, 0, 0), (23, .aload_n 0, 1, 0, 0, 0), (24, .getfield 20, 3, 6, 2, 56), (27, .invokevirtual 53, 3, 45, 2, 64), (30, .aload_n 0, 1, 0, 0, 0), (31, .getfield 26, 3, 6, 3, 58), (34, .aload_n 1, 1, 0, 0, 0), (35, .invokevirtual 57, 3, 37, 2, 65), (38, .aload_n 0, 1, 0, 0, 0), (39, .getfield 30, 3, 6, 4, 59), (42, .aload_n 2, 1, 0, 0, 0), (43, .invokevirtual 57, 3, 37, 2, 65), (46, .aload_n 0, 1, 0, 0, 0), (47, .getfield 33, 3, 6, 5, 60), (50, .aload_n 3, 1, 0, 0, 0), (51, .invokevirtual 57, 3, 37, 2, 65), (54, .iconst 0, 1, 0, 0, 0), (55, .istore 5, 2, 0, 0, 0), (57, .iload 5, 2, 0, 0, 0), (59, .aload_n 1, 1, 0, 0, 0), (60, .arraylength, 1, 0, 0, 0), (61, .if_icmp .ge 126, 3, 187, 0, 0), (64, .iload 5, 2, 0, 0, 0), (66, .bipush 8, 2, 8, 0, 0), (68, .if_icmp .ge 119, 3, 187, 0, 0), (71, .aload_n 0, 1, 0, 0, 0), (72, .getfield 16, 3, 6, 1, 55), (75, .iload 5, 2, 0, 0, 0), (77, .iaload, 1, 0, 0, 0), (78, .iconst (-1), 1, 1, 1, 0), (79, .if_icmp .eq 102, 3, 181, 0, 0), (82, .aload_n 0, 1, 0, 0, 0), (83, .getfield 20, 3, 6, 2, 56), (86, .iload 5, 2, 0, 0, 0), (88, .iaload, 1, 0, 0, 0), (89, .iconst (-1), 1, 1, 1, 0), (90, .if_icmp .eq 91, 3, 181, 0, 0), (93, .aload_n 0, 1, 0, 0, 0), (94, .getfield 26, 3, 6, 3, 58), (97, .iload 5, 2, 0, 0, 0), (99, .invokevirtual 61, 3, 38, 2, 66), (102, .aload_n 0, 1, 0, 0, 0), (103, .getfield 30, 3, 6, 4, 59), (106, .aload_n 0, 1, 0, 0, 0), (107, .getfield 16, 3, 6, 1, 55), (110, .iload 5, 2, 0, 0, 0), (112, .iaload, 1, 0, 0, 0), (113, .invokevirtual 61, 3, 38, 2, 66), (116, .aload_n 0, 1, 0, 0, 0), (117, .getfield 33, 3, 6, 5, 60), (120, .aload_n 0, 1, 0, 0, 0), (121, .getfield 20, 3, 6, 2, 56), (124, .iload 5, 2, 0, 0, 0), (126, .iaload, 1, 0, 0, 0), (127, .invokevirtual 61, 3, 38, 2, 66), (130, .aload_n 0, 1, 0, 0, 0), (131, .iload 4, 2, 0, 0, 0), (133, .invokevirtual 65, 3, 47, 2, 67), (136, .aload_n 0, 1, 0, 0, 0), (137, .aload_n 1, 1, 0, 0, 0), (138, .iload 5, 2, 0, 0, 0), (140, .iaload, 1, 0, 0, 0), (141, .invokevirtual 68, 3, 49, 2, 68), (144, .aload_n 0, 1, 0, 0, 0), (145, .getfield 26, 3, 6, 3, 58), (148, .iload 5, 2, 0, 0, 0), (150, .invokevirtual 71, 3, 42, 2, 69), (153, .aload_n 0, 1, 0, 0, 0), (154, .getfield 30, 3, 6, 4, 59), (157, .aload_n 0, 1, 0, 0, 0), (158, .getfield 16, 3, 6, 1, 55), (161, .iload 5, 2, 0, 0, 0), (163, .iaload, 1, 0, 0, 0), (164, .invokevirtual 71, 3, 42, 2, 69), (167, .aload_n 0, 1, 0, 0, 0), (168, .getfield 33, 3, 6, 5, 60), (171, .aload_n 0, 1, 0, 0, 0), (172, .getfield 20, 3, 6, 2, 56), (175, .iload 5, 2, 0, 0, 0), (177, .iaload, 1, 0, 0, 0), (178, .invokevirtual 71, 3, 42, 2, 69), (181, .iinc 5 1, 3, 1, 0, 0), (184, .goto (-127), 3, 57, 0, 0), (187, .aload_n 0, 1, 0, 0, 0), (188, .getfield 26, 3, 6, 3, 58), (191, .aload_n 1, 1, 0, 0, 0), (192, .arraylength, 1, 0, 0, 0), (193, .invokevirtual 61, 3, 38, 2, 66), (196, .aload_n 0, 1, 0, 0, 0), (197, .getfield 30, 3, 6, 4, 59), (200, .aload_n 2, 1, 0, 0, 0), (201, .arraylength, 1, 0, 0, 0), (202, .invokevirtual 61, 3, 38, 2, 66), (205, .aload_n 0, 1, 0, 0, 0), (206, .getfield 33, 3, 6, 5, 60), (209, .aload_n 3, 1, 0, 0, 0), (210, .arraylength, 1, 0, 0, 0), (211, .invokevirtual 61, 3, 38, 2, 66), (214, .aload_n 0, 1, 0, 0, 0), (215, .iload 4, 2, 0, 0, 0), (217, .invokevirtual 65, 3, 47, 2, 67), (220, .return_, 1, 0, 0, 0)]
/-- RenameMerge.LineMerge.match ([I[I[I)V -/
def xtb_45 : List xI := [(0, .aload_n 1, 1, 0, 0, 0), (1, .arraylength, 1, 0, 0, 0), (2, .bipush 8, 2, 8, 0, 0), (4, .invokestatic 74, 3, 0, 10, 70), (7, .istore 4, 2, 0, 0, 0), (9, .aload_n 2, 1, 0, 0, 0), (10, .arraylength, 1, 0, 0, 0), (11, .bipush 76, 2, 76, 0, 0), (13, .invokestatic 74, 3, 0, 10, 70), (16, .istore 5, 2, 0, 0, 0), (18, .aload_n 0, 1, 0, 0, 0), (19, .aload_n 1, 1, 0, 0, 0), (20, .iload 4, 2, 0, 0, 0), (22, .aload_n 2, 1, 0, 0, 0), (23, .iload 5, 2, 0, 0, 0), (25, .invokevirtual 80, 3, 46, 2, 71), (28, .iconst 0, 1, 0, 0, 0), (29, .istore 6, 2, 0, 0, 0), (31, .aload_n 0, 1, 0, 0, 0), (32, .getfield 11, 3, 6, 0, 54), (35, .iconst 0, 1, 0, 0, 0), (36, .aaload, 1, 0, 0, 0), (37, .iconst 0, 1, 0, 0, 0), (38, .iaload, 1, 0, 0, 0), (39, .istore 7, 2, 0, 0, 0), (41, .iconst 0, 1, 0, 0, 0), (42, .istore 8, 2, 0, 0, 0), (44, .iload 8, 2, 0, 0, 0), (46, .iload 4, 2, 0, 0, 0), (48, .if_icmp .ge 88, 3, 136, 0, 0), (51, .iload 6, 2, 0, 0, 0), (53, .istore 9, 2, 0, 0, 0), (55, .iload 9, 2, 0, 0, 0), (57, .iload 5, 2, 0, 0, 0), (59, .if_icmp .ge 20, 3, 79, 0, 0), (62, .aload_n 2, 1, 0, 0, 0), (63, .iload 9, 2, 0, 0, 0), (65, .iaload, 1, 0, 0, 0), (66, .aload_n 1, 1, 0, 0, 0), (67, .iload 8, 2, 0, 0, 0), (69, .iaload, 1, 0, 0, 0), (70, .if_icmp .eq 9, 3, 79, 0, 0), (73, .iinc 9 1, 3, 1, 0, 0), (76, .goto (-21), 3, 55, 0, 0), (79, .iload 9, 2, 0, 0, 0), (81, .iload 5, 2, 0, 0, 0), (83, .if_icmp .ge 42, 3, 125, 0, 0), (86, .aload_n 0, 1, 0, 0, 0), (87, .getfield 11, 3, 6, 0, 54), (90, .iload 8, 2, 0, 0, 0), (92, .iconst 1, 1, 1, 0, 0), (93, .iadd, 1, 0, 0, 0), (94, .aaload, 1, 0, 0, 0), (95, .iload 9, 2, 0, 0, 0), (97, .iconst 1, 1, 1, 0, 0), (98, .iadd, 1, 0, 0, 0), (99, .iaload, 1, 0, 0, 0), (100, .iconst 1, 1, 1, 0, 0), (101, .iadd, 1, 0, 0, 0), (102, .iload 7, 2, 0, 0, 0), (104, .if_icmp .ne 21, 3, 125, 0, 0), (107, .aload_n 3, 1, 0, 0, 0), (108, .iload 8, 2, 0, 0, 0), (110, .iload 9, 2, 0, 0, 0), (112, .iastore, 1, 0, 0, 0), (113, .iload 9, 2, 0, 0, 0), (115, .iconst 1, 1, 1, 0, 0), (116, .iadd, 1, 0, 0, 0), (117, .istore 6, 2, 0, 0, 0), (119, .iinc 7 (-1), 3, 1, 1, 0), (122, .goto 8, 3, 130, 0, 0), (125, .aload_n 3, 1, 0, 0, 0), (126, .iload 8, 2, 0, 0, 0), (128, .iconst (-1), 1, 1, 1, 0), (129, .iastore, 1, 0, 0, 0), (130, .iinc 8 1, 3, 1, 0, 0), (133, .goto (-89), 3, 44, 0, 0), (136, .return_, 1, 0, 0, 0)]
/-- RenameMerge.LineMerge.countCommon ([II[II)V -/
def xtb_46 : List xI := [(0, .iconst 0, 1, 0, 0, 0), (1, .istore 5, 2, 0, 0, 0), (3, .iload 5, 2, 0, 0, 0), (5, .iload 4, 2, 0, 0, 0), (7, .if_icmp .gt 19, 3, 26, 0, 0), (10, .aload_n 0, 1, 0, 0, 0), (11, .getfield 11, 3, 6, 0, 54), (14, .iload_n 2, 1, 0, 0, 0), (15, .aaload, 1, 0, 0, 0), (16, .iload 5, 2, 0, 0, 0), (18, .iconst 0, 1, 0, 0, 0), (19, .iastore, 1, 0, 0, 0), (20, .iinc 5 1, 3, 1, 0, 0), (23, .goto (-20), 3, 3, 0, 0), (26, .iload_n 2, 1, 0, 0, 0), (27, .iconst 1, 1, 1, 0, 0), (28, .isub, 1, 0, 0, 0), (29, .istore 5, 2, 0, 0, 0), (31, .iload 5, 2, 0, 0, 0), (33, .ifCond .lt 104, 3, 137, 0, 0), (36, .aload_n 0, 1, 0, 0, 0), (37, .getfield 11, 3, 6, 0, 54), (40, .iload 5, 2, 0, 0, 0), (42, .aaload, 1, 0, 0, 0), (43, .iload 4, 2, 0, 0, 0), (45, .iconst 0, 1, 0, 0, 0), (46, .iastore, 1, 0, 0, 0), (47, .iload 4, 2, 0, 0, 0), (49, .iconst 1, 1, 1, 0, 0), (50, .isub, 1, 0, 0, 0), (51, .istore 6, 2, 0, 0, 0), (53, .iload 6, 2, 0, 0, 0), (55, .ifCond .lt 76, 3, 131, 0, 0), (58, .aload_n 0, 1, 0, 0, 0), (59, .getfield 11, 3, 6, 0, 54), (62, .iload 5, 2, 0, 0, 0), (64, .aaload, 1, 0, 0, 0), (65, .iload 6, 2, 0, 0, 0), (67, .aload_n 1, 1, 0, 0, 0), (68, .iload 5, 2, 0, 0, 0), (70, .iaload, 1, 0, 0, 0), (71, .aload_n 3, 1, 0, 0, 0), (72, .iload 6, 2, 0, 0, 0), (74, .iaload, 1, 0, 0, 0), (75, .if_icmp .ne 22, 3, 97, 0, 0), (78, .aload_n 0, 1, 0, 0, 0), (79, .getfield 11, 3, 6, 0, 54), (82, .iload 5, 2, 0, 0, 0), (84, .iconst 1, 1, 1, 0, 0), (85, .iadd, 1, 0, 0, 0), (86, .aaload, 1, 0, 0, 0), (87, .iload 6, 2, 0, 0, 0), (89, .iconst 1, 1, 1, 0, 0), (90, .iadd, 1, 0, 0, 0), (91, .iaload, 1, 0, 0, 0), (92, .iconst 1, 1, 1, 0, 0), (93, .iadd, 1, 0, 0, 0), (94, .goto 30, 3, 124, 0, 0), (97, .aload_n 0, 1, 0, 0, 0), (98, .getfield 11, 3, 6, 0, 54), (101, .iload 5, 2, 0, 0, 0), (103, .iconst 1, 1, 1, 0, 0), (104, .iadd, 1, 0, 0, 0), (105, .aaload, 1, 0, 0, 0), (106, .iload 6, 2, 0, 0, 0), (108, .iaload, 1, 0, 0, 0), (109, .aload_n 0, 1, 0, 0, 0), (110, .getfield 11, 3, 6, 0, 54), (113, .iload 5, 2, 0, 0, 0), (115, .aaload, 1, 0, 0, 0), (116, .iload 6, 2, 0, 0, 0), (118, .iconst 1, 1, 1, 0, 0), (119, .iadd, 1, 0, 0, 0), (120, .iaload, 1, 0, 0, 0), (121, .invokestatic 84, 3, 0, 9, 72), (124, .iastore, 1, 0, 0, 0), (125, .iinc 6 (-1), 3, 1, 1, 0), (128, .goto (-75), 3, 53, 0, 0), (131, .iinc 5 (-1), 3, 1, 1, 0), (134, .goto (-103), 3, 31, 0, 0), (137, .return_, 1, 0, 0, 0)]
/-- RenameMerge.LineMerge.writeGap (I)V -/
def xtb_47 : List xI := [(0, .aload_n 0, 1, 0, 0, 0), (1, .getfield 30, 3, 6, 4, 59), (4, .aload_n 0, 1, 0, 0, 0), (5, .getfield 26, 3, 6, 3, 58), (8, .invokevirtual 87, 3, 39, 2, 73), (11, .ifCond .eq 22, 3, 33, 0, 0), (14, .aload_n 0, 1, 0, 0, 0), (15, .aload_n 0, 1, 0, 0, 0), (16, .getfield 33, 3, 6, 5, 60), (19, .iconst 0, 1, 0, 0, 0), (20, .aload_n 0, 1, 0, 0, 0), (21, .getfield 33, 3, 6, 5, 60), (24, .getfield 91, 3, 5, 2, 74), (27, .invokevirtual 94, 3, 48, 2, 75), (30, .goto 225, 3, 255, 0, 0), (33, .aload_n 0, 1, 0, 0, 0), (34, .getfield 33, 3, 6, 5, 60), (37, .aload_n 0, 1, 0, 0, 0), (38, .getfield 26, 3, 6, 3, 58), (41, .invokevirtual 87, 3, 39, 2, 73), (44, .ifCond .ne 17, 3, 61, 0, 0), (47, .aload_n 0, 1, 0, 0, 0), (48, .getfield 30, 3, 6, 4, 59), (51, .aload_n 0, 1, 0, 0, 0), (52, .getfield 33, 3, 6, 5, 60), (55, .invokevirtual 87, 3, 39, 2, 73), (58, .ifCond .eq 22, 3, 80, 0, 0), (61, .aload_n 0, 1, 0, 0, 0), (62, .aload_n 0, 1, 0, 0, 0), (63, .getfield 30, 3, 6, 4, 59), (66, .iconst 0, 1, 0, 0, 0), (67, .aload_n 0, 1, 0, 0, 0), (68, .getfield 30, 3, 6, 4, 59), (71, .getfield 91, 3, 5, 2, 74), (74, .invokevirtual 94, 3, 48, 2, 75), (77, .goto 178, 3, 255, 0, 0), (80, .aload_n 0, 1, 0, 0, 0), (81, .iconst 1, 1, 1, 0, 0), (82, .putfield 43, 3, 6, 8, 63), (85, .iload_n 1, 1, 0, 0, 0), (86, .iconst 2, 1, 2, 0, 0), (87, .if_icmp .ne 7, 3, 94, 0, 0), (90, .iconst 1, 1, 1, 0, 0), (91, .goto 4, 3, 95, 0, 0), (94, .iconst 0, 1, 0, 0, 0), (95, .istore_n 2, 1, 0, 0, 0), (96, .iload_n 2, 1, 0, 0, 0), (97, .ifCond .eq 17, 3, 114, 0, 0), (100, .aload_n 0, 1, 0, 0, 0), (101, .getfield 30, 3, 6, 4, 59), (104, .aload_n 0, 1, 0, 0, 0), (105, .getfield 33, 3, 6, 5, 60), (108, .invokevirtual 98, 3, 40, 2, 76), (111, .goto 4, 3, 115, 0, 0), (114, .iconst 0, 1, 0, 0, 0), (115, .istore_n 3, 1, 0, 0, 0), (116, .iload_n 2, 1, 0, 0, 0), (117, .ifCond .eq 18, 3, 135, 0, 0), (120, .aload_n 0, 1, 0, 0, 0), (121, .getfield 30, 3, 6, 4, 59), (124, .aload_n 0, 1, 0, 0, 0), (125, .getfield 33, 3, 6, 5, 60), (128, .iload_n 3, 1, 0, 0, 0), (129, .invokevirtual 102, 3, 41, 2, 77), (132, .goto 4, 3, 136, 0, 0), (135, .iconst 0, 1, 0, 0, 0), (136, .istore 4, 2, 0, 0, 0), (138, .aload_n 0, 1, 0, 0, 0), (139, .aload_n 0, 1, 0, 0, 0), (140, .getfield 30, 3, 6, 4, 59), (143, .iconst 0, 1, 0, 0, 0), (144, .iload_n 3, 1, 0, 0, 0), (145, .invokevirtual 94, 3, 48, 2, 75), (148, .aload_n 0, 1, 0, 0, 0), (149, .bipush 16, 2, 16, 0, 0), (151, .invokevirtual 68, 3, 49, 2, 68), (154, .aload_n 0, 1, 0, 0, 0), (155, .aload_n 0, 1, 0, 0, 0), (156, .getfield 30, 3, 6, 4, 59), (159, .iload_n 3, 1, 0, 0, 0), (160, .aload_n 0, 1, 0, 0, 0), (161, .getfield 30, 3, 6, 4, 59), (164, .getfield 91, 3, 5, 2, 74), (167, .iload 4, 2, 0, 0, 0), (169, .isub, 1, 0, 0, 0), (170, .invokevirtual 94, 3, 48, 2, 75), (173, .iload_n 1, 1, 0, 0, 0), (174, .ifCond .eq 25, 3, 199, 0, 0), (177, .aload_n 0, 1, 0, 0, 0), (178, .bipush 17, 2, 17, 0, 0), (180, .invokevirtual 68, 3, 49, 2, 68), (183, .aload_n 0, 1, 0, 0, 0), (184, .aload_n 0, 1, 0, 0, 0), (185, .getfield 26, 3, 6, 3, 58), (188, .iconst 0, 1, 0, 0, 0), (189, .aload_n 0, 1, 0, 0, 0), (190, .getfield 26, 3, 6, 3, 58), (193, .getfield 91, 3, 5, 2, 74), (196, .invokevirtual 94, 3, 48, 2, 75), (199, .aload_n 0, 1, 0, 0, 0), (200, .bipush 18, 2, 18, 0, 0), (202, .invokevirtual 68, 3, 49, 2, 68), (205, .aload_n 0, 1, 0, 0, 0), (206, .aload_n 0, 1, 0, 0, 0), (207, .getfield 33, 3, 6, 5, 60), (210, .iload_n 3, 1, 0, 0, 0), (211, .aload_n 0, 1, 0, 0, 0), (212, .getfield 33, 3, 6, 5, 60), (215, .getfield 91, 3, 5, 2, 74), (218, .iload 4, 2, 0, 0, 0), (220, .isub, 1, 0, 0, 0), (221, .invokevirtual 94, 3, 48, 2, 75), (224, .aload_n 0, 1, 0, 0, 0), (225, .bipush 19, 2, 19, 0, 0), (227, .invokevirtual 68, 3, 49, 2, 68), (230, .aload_n 0, 1, 0, 0, 0), (231, .aload_n 0, 1, 0, 0, 0), (232, .getfield 30, 3, 6, 4, 59), (235, .aload_n 0, 1, 0, 0, 0), (236, .getfield 30, 3, 6, 4, 59), (239, .getfield 91, 3, 5, 2, 74), (242, .iload 4, 2, 0, 0, 0), (244, .isub, 1, 0, 0, 0), (245, .aload_n 0, 1, 0, 0, 0), (246, .getfield 30, 3, 6, 4, 59), (249, .getfield 91, 3, 5, 2, 74), (252, .invokevirtual 94, 3, 48, 2, 75), (255, .return_, 1, 0, 0, 0)]
/-- RenameMerge.LineMerge.writeLines (LRenameMerge$Part;II)V -/
def xtb_48 : List xI := [(0, .iload_n 2, 1, 0, 0, 0), (1, .istore 4, 2, 0, 0, 0), (3, .iload 4, 2, 0, 0, 0), (5, .iload_n 3, 1, 0, 0, 0), (6, .if_icmp .ge 49, 3, 55, 0, 0), (9, .aload_n 0, 1, 0, 0, 0), (10, .getfield 39, 3, 6, 7, 62), (13, .bipush 76, 2, 76, 0, 0), (15, .if_icmp .ge 40, 3, 55, 0, 0), (18, .aload_n 0, 1, 0, 0, 0), (19, .getfield 36, 3, 6, 6, 61), (22, .aload_n 0, 1, 0, 0, 0), (23, .getfield 39, 3, 6, 7, 62), (26, .aload_n 1, 1, 0, 0, 0), (27, .getfield 106, 3, 5, 0, 78), (30, .aload_n 1, 1, 0, 0, 0), (31, .getfield 109, 3, 5, 1, 79), (34, .iload 4, 2, 0, 0, 0), (36, .iadd, 1, 0, 0, 0), (37, .iaload, 1, 0, 0, 0), (38, .iastore, 1, 0, 0, 0), (39, .aload_n 0, 1, 0, 0, 0), (40, .dup, 1, 0, 0, 0), (41, .getfield 39, 3, 6, 7, 62), (44, .iconst 1, 1, 1, 0, 0), (45, .iadd, 1, 0, 0, 0), (46, .putfield 39, 3, 6, 7, 62), (49, .iinc 4 1, 3, 1, 0, 0), (52, .goto (-49), 3, 3, 0, 0), (55, .return_, 1, 0, 0, 0)]
/-- RenameMerge.LineMerge.write (I)V -/
def xtb_49 : List xI := [(0, .aload_n 0, 1, 0, 0, 0), (1, .getfield 39, 3, 6, 7, 62), (4, .bipush 76, 2, 76, 0, 0), (6, .if_icmp .ge 23, 3, 29, 0, 0), (9, .aload_n 0, 1, 0, 0, 0), (10, .getfield 36, 3, 6, 6, 61), (13, .aload_n 0, 1, 0, 0, 0), (14, .getfield 39, 3, 6, 7, 62), (17, .iload_n 1, 1, 0, 0, 0), (18, .iastore, 1, 0, 0, 0), (19, .aload_n 0, 1, 0, 0, 0), (20, .dup, 1, 0, 0, 0), (21, .getfield 39, 3, 6, 7, 62), (24, .iconst 1, 1, 1, 0, 0), (25, .iadd, 1, 0, 0, 0), (26, .putfield 39, 3, 6, 7, 62), (29, .return_, 1, 0, 0, 0)]
/-- RenameMerge.LineMerge.hasClash ()Z -/
def xtb_50 : List xI := [(0, .aload_n 0, 1, 0, 0, 0), (1, .getfield 43, 3, 6, 8, 63), (4, .ireturn, 1, 1, 0, 0)]
/-- RenameMerge.LineMerge.takeWritten ()[I -/
def xtb_51 : List xI := [(0, .aload_n 0, 1, 0, 0, 0), (1, .getfield 36, 3, 6, 6, 61), (4, .aload_n 0, 1, 0, 0, 0), (5, .getfield 39, 3, 6, 7, 62), (8, .invokestatic 47, 3, 1, 4, 80), (11, .areturn, 1, 0, 0, 0)]
/-- RenameMerge.Merger.init ()V -/
def xtb_52 : List xI := [(0, .aload_n 0, 1, 0, 0, 0), (1, .invokespecial 3, 3, 0, 6, 81), (4, .aload_n 0, 1, 0, 0, 0), (5, .iconst 3, 1, 3, 0, 0), (6, .anewarray 9, 3, 1, 0, 82), (9, .putfield 11, 3, 4, 0, 83), (12, .aload_n 0, 1, 0, 0, 0), (13, .new 17, 3, 3, 6, 84), (16, .dup, 1, 0, 0, 0), (17, .invokespecial 19, 3, 16, 0, 85), (20, .putfield 20, 3, 4, 1, 86), (23, .aload_n 0, 1, 0, 0, 0), (24, .new 17, 3, 3, 6, 84), (27, .dup, 1, 0, 0, 0), (28, .invokespecial 19, 3, 16, 0, 85), (31, .putfield 24, 3, 4, 2, 87), (34, .aload_n 0, 1, 0, 0, 0), (35, .bipush 64, 2, 64, 0, 0), (37, .newarray .int, 2, 0, 0, 0), (39, .putfield 27, 3, 4, 3, 88), (42, .aload_n 0, 1, 0, 0, 0), (43, .new 31, 3, 6, 9, 89), (46, .dup, 1, 0, 0, 0), (47, .invokespecial 33, 3, 43, 1, 5), (50, .putfield 34, 3, 4, 4, 90), (53, .iconst 0, 1, 0, 0, 0), (54, .istore_n 1, 1, 0, 0, 0), (55, .iload_n 1, 1, 0, 0, 0), (56, .iconst 3, 1, 3, 0, 0), (57, .if_icmp .ge 22, 3, 79, 0, 0), (60, .aload_n 0, 1, 0, 0, 0), (61, .getfield 11, 3, 4, 0, 83), (64, .iload_n 1, 1, 0, 0, 0), (65, .new 9, 3, 2, 1, 91), (68, .dup, 1, 0, 0, 0), (69, .invokespecial 38, 3, 7, 1, 6), (72, .aastore, 1, 1, 0, 0), (73, .iinc 1 1, 3, 1, 0, 0), (76, .goto (-21), 3, 55, 0, 0), (79, .return_, 1, 0, 0, 0)]
/-- RenameMerge.Merger.begin (LRenameMerge$Tree;LRenameMerge$Tree;LRenameMerge$Tree;I)V -/
def xtb_53 : List xI := [(0, .aload_n 0, 1, 0, 0, 0), (1, .getfield 27, 3, 4, 3, 88), (4, .iconst 0, 1, 0, 0, 0), (5, .invokestatic 51, 3, 0, 4, 92), (8, .aload_n 0, 1, 0, 0, 0), (9, .getfield 20, 3, 4, 1, 86), (12, .aload_n 1, 1, 0, 0, 0), (13, .aload_n 2, 1, 0, 0, 0), (14, .iload 4, 2, 0, 0, 0), (16, .invokevirtual 57, 3, 17, 2, 93), (19, .aload_n 0, 1, 0, 0, 0), (20, .getfield 24, 3, 4, 2, 87), (23, .aload_n 1, 1, 0, 0, 0), (24, .aload_n 3, 1, 0, 0, 0), (25, .iload 4, 2, 0, 0, 0), (27, .invokevirtual 57, 3, 17, 2, 93), (30, .aload_n 0, 1, 0, 0, 0), (31, .getfield 20, 3, 4, 1, 86), (34, .aload_n 2, 1, 0, 0, 0), (35, .invokevirtual 61, 3, 26, 2, 94), (38, .aload_n 0, 1, 0, 0, 0), (39, .getfield 24, 3, 4, 2, 87), (42, .aload_n 3, 1, 0, 0, 0), (43, .invokevirtual 61, 3, 26, 2, 94), (46, .aload_n 0, 1, 0, 0, 0), (47, .getfield 20, 3, 4, 1, 86), (50, .aload_n 1, 1, 0, 0, 0), (51, .aload_n 2, 1, 0, 0, 0), (52, .aload_n 3, 1, 0, 0, 0), (53, .aload_n 0, 1, 0, 0, 0), (54, .getfield 24, 3, 4, 2, 87), (57, .aload_n 0, 1, 0, 0, 0), (58, .getfield 27, 3, 4, 3, 88), (61, .invokevirtual 65, 3, 29, 2, 95), (64, .aload_n 0, 1, 0, 0, 0), (65, .getfield 24, 3, 4, 2, 87), (68, .aload_n 1, 1, 0, 0, 0), (69, .aload_n 3, 1, 0, 0, 0), (70, .aload_n 2, 1, 0, 0, 0), (71, .aload_n 0, 1, 0, 0, 0), (72, .getfield 20, 3, 4, 1, 86), (75, .aload_n 0, 1, 0, 0, 0), (76, .getfield 27, 3, 4, 3, 88), (79, .invokevirtual 65, 3, 29, 2, 95), (82, .aload_n 0, 1, 0, 0, 0), (83, .getfield 11, 3, 4, 0, 83), (86, .iconst 0, 1, 0, 0, 0), (87, .aaload, 1, 0, 0, 0), (88, .aload_n 1, 1, 0, 0, 0), (89, .invokevirtual 69, 3, 11, 2, 96), (92, .aload_n 0, 1, 0, 0, 0), (93, .getfield 20, 3, 4, 1, 86), (96, .aload_n 2, 1, 0, 0, 0), (97, .aload_n 0, 1, 0, 0, 0), (98, .getfield 11, 3, 4, 0, 83), (101, .iconst 1, 1, 1, 0, 0), (102, .aaload, 1, 0, 0, 0), (103, .invokevirtual 72, 3, 33, 2, 97), (106, .aload_n 0, 1, 0, 0, 0), (107, .getfield 24, 3, 4, 2, 87), (110, .aload_n 3, 1, 0, 0, 0), (111, .aload_n 0, 1, 0, 0, 0), (112, .getfield 11, 3, 4, 0, 83), (115, .iconst 2, 1, 2, 0, 0), (116, .aaload, 1, 0, 0, 0), (117, .invokevirtual 72, 3, 33, 2, 97), (120, .return_, 1, 0, 0, 0)]
/-- RenameMerge.Merger.carryRename (II)V -/
def xtb_54 : List xI := [(0, .aload_n 0, 1, 0, 0, 0), (1, .getfield 20, 3, 4, 1, 86), (4, .aload_n 0, 1, 0, 0, 0), (5, .getfield 20, 3, 4, 1, 86), (8, .iload_n 1, 1, 0, 0, 0), (9, .invokevirtual 76, 3, 34, 2, 98), (12, .invokevirtual 79, 3, 35, 2, 99), (15, .istore_n 3, 1, 0, 0, 0), (16, .aload_n 0, 1, 0, 0, 0), (17, .getfield 24, 3, 4, 2, 87), (20, .aload_n 0, 1, 0, 0, 0), (21, .getfield 24, 3, 4, 2, 87), (24, .iload_n 1, 1, 0, 0, 0), (25, .invokevirtual 76, 3, 34, 2, 98), (28, .invokevirtual 79, 3, 35, 2, 99), (31, .istore 4, 2, 0, 0, 0), (33, .iload_n 3, 1, 0, 0, 0), (34, .iconst (-1), 1, 1, 1, 0), (35, .if_icmp .eq 20, 3, 55, 0, 0), (38, .iload 4, 2, 0, 0, 0), (40, .iconst (-1), 1, 1, 1, 0), (41, .if_icmp .eq 14, 3, 55, 0, 0), (44, .aload_n 0, 1, 0, 0, 0), (45, .iload_n 1, 1, 0, 0, 0), (46, .iload_n 3, 1, 0, 0, 0), (47, .iload 4, 2, 0, 0, 0), (49, .invokevirtual 82, 3, 55, 2, 100), (52, .goto 34, 3, 86, 0, 0), (55, .iload_n 3, 1, 0, 0, 0), (56, .iconst (-1), 1, 1, 1, 0), (57, .if_icmp .eq 14, 3, 71, 0, 0), (60, .aload_n 0, 1, 0, 0, 0), (61, .iconst 1, 1, 1, 0, 0), (62, .iload_n 1, 1, 0, 0, 0), (63, .iload_n 3, 1, 0, 0, 0), (64, .iload_n 2, 1, 0, 0, 0), (65, .invokevirtual 86, 3, 57, 2, 101), (68, .goto 18, 3, 86, 0, 0), (71, .iload 4, 2, 0, 0, 0), (73, .iconst (-1), 1, 1, 1, 0), (74, .if_icmp .eq 12, 3, 86, 0, 0), (77, .aload_n 0, 1, 0, 0, 0), (78, .iconst 2, 1, 2, 0, 0), (79, .iload_n 1, 1, 0, 0, 0), (80, .iload 4, 2, 0, 0, 0), (82, .iload_n 2, 1, 0, 0, 0), (83, .invokevirtual 86, 3, 57, 2, 101), (86, .return_, 1, 0, 0, 0)]
/-- RenameMerge.Merger.carryByBoth (III)V -/
def xtb_55 : List xI := [(0, .iload_n 2, 1, 0, 0, 0), (1, .iload_n 3, 1, 0, 0, 0), (2, .if_icmp .ne 17, 3, 19, 0, 0), (5, .aload_n 0, 1, 0, 0, 0), (6, .getfield 11, 3, 4, 0, 83), (9, .iconst 0, 1, 0, 0, 0), (10, .aaload, 1, 0, 0, 0), (11, .iload_n 1, 1, 0, 0, 0), (12, .iload_n 2, 1, 0, 0, 0), (13, .invokevirtual 90, 3, 15, 2, 102), (16, .goto 24, 3, 40, 0, 0), (19, .aload_n 0, 1, 0, 0, 0), (20, .iload_n 1, 1, 0, 0, 0), (21, .bipush 32, 2, 32, 0, 0), (23, .invokevirtual 94, 3, 56, 2, 103), (26, .aload_n 0, 1, 0, 0, 0), (27, .iload_n 2, 1, 0, 0, 0), (28, .bipush 32, 2, 32, 0, 0), (30, .invokevirtual 94, 3, 56, 2, 103), (33, .aload_n 0, 1, 0, 0, 0), (34, .iload_n 3, 1, 0, 0, 0), (35, .bipush 32, 2, 32, 0, 0), (37, .invokevirtual 94, 3, 56, 2, 103), (40, .return_, 1, 0, 0, 0)]
/-- RenameMerge.Merger.mark (II)V -/
def xtb_56 : List xI := [(0, .iload_n 1, 1, 0, 0, 0), (1, .invokestatic 39, 3, 67, 5, 7), (4, .ifCond .eq 13, 3, 17, 0, 0), (7, .aload_n 0, 1, 0, 0, 0), (8, .getfield 27, 3, 4, 3, 88), (11, .iload_n 1, 1, 0, 0, 0), (12, .dup2, 1, 0, 0, 0), (13, .iaload, 1, 0, 0, 0), (14, .iload_n 2, 1, 0, 0, 0), (15, .ior, 1, 0, 0, 0), (16, .iastore, 1, 0, 0, 0), (17, .return_, 1, 0, 0, 0)]
/-- RenameMerge.Merger.carryByOne (IIII)V -/
def xtb_57 : List xI := [(0, .aload_n 0, 1, 0, 0, 0), (1, .getfield 11, 3, 4, 0, 83), (4, .iconst 0, 1, 0, 0, 0), (5, .aaload, 1, 0, 0, 0), (6, .astore 5, 2, 0, 0, 0), (8, .aload_n 0, 1, 0, 0, 0), (9, .getfield 11, 3, 4, 0, 83), (12, .iload_n 1, 1, 0, 0, 0), (13, .aaload, 1, 0, 0, 0), (14, .astore 6, 2, 0, 0, 0), (16, .aload_n 0, 1, 0, 0, 0), (17, .getfield 11, 3, 4, 0, 83), (20, .iload_n 1, 1, 0, 0, 0), (21, .iconst 1, 1, 1, 0, 0), (22, .if_icmp .ne 7, 3, 29, 0, 0), (25, .iconst 2, 1, 2, 0, 0), (26, .goto 4, 3, 30, 0, 0), (29, .iconst 1, 1, 1, 0, 0), (30, .aaload, 1, 0, 0, 0), (31, .astore 7, 2, 0, 0, 0), (33, .aload 7, 2, 0, 0, 0), (35, .iload_n 2, 1, 0, 0, 0), (36, .invokevirtual 97, 3, 13, 2, 104), (39, .ifCond .ne 39, 3, 78, 0, 0), (42, .aload_n 0, 1, 0, 0, 0), (43, .iload_n 3, 1, 0, 0, 0), (44, .bipush 16, 2, 16, 0, 0), (46, .invokevirtual 94, 3, 56, 2, 103), (49, .aload 7, 2, 0, 0, 0), (51, .iload_n 3, 1, 0, 0, 0), (52, .invokevirtual 97, 3, 13, 2, 104), (55, .ifCond .eq 13, 3, 68, 0, 0), (58, .aload 5, 2, 0, 0, 0), (60, .iload_n 2, 1, 0, 0, 0), (61, .aconst_null, 1, 0, 0, 0), (62, .invokevirtual 100, 3, 10, 2, 105), (65, .goto 127, 3, 192, 0, 0), (68, .aload 5, 2, 0, 0, 0), (70, .iload_n 2, 1, 0, 0, 0), (71, .iload_n 3, 1, 0, 0, 0), (72, .invokevirtual 90, 3, 15, 2, 102), (75, .goto 117, 3, 192, 0, 0), (78, .aload 7, 2, 0, 0, 0), (80, .iload_n 3, 1, 0, 0, 0), (81, .invokevirtual 97, 3, 13, 2, 104), (84, .ifCond .ne 20, 3, 104, 0, 0), (87, .aload 5, 2, 0, 0, 0), (89, .iload_n 2, 1, 0, 0, 0), (90, .iload_n 3, 1, 0, 0, 0), (91, .invokevirtual 90, 3, 15, 2, 102), (94, .aload 7, 2, 0, 0, 0), (96, .iload_n 2, 1, 0, 0, 0), (97, .iload_n 3, 1, 0, 0, 0), (98, .invokevirtual 90, 3, 15, 2, 102), (101, .goto 91, 3, 192, 0, 0), (104, .aload_n 0, 1, 0, 0, 0), (105, .iload_n 3, 1, 0, 0, 0), (106, .bipush 64, 2, 64, 0, 0), (108, .invokevirtual 94, 3, 56, 2, 103), (111, .iload_n 1, 1, 0, 0, 0), (112, .iconst 1, 1, 1, 0, 0), (113, .if_icmp .ne 12, 3, 125, 0, 0), (116, .aload 6, 2, 0, 0, 0), (118, .iload_n 3, 1, 0, 0, 0), (119, .invokevirtual 47, 3, 8, 2, 106), (122, .goto 9, 3, 131, 0, 0), (125, .aload 7, 2, 0, 0, 0), (127, .iload_n 2, 1, 0, 0, 0), (128, .invokevirtual 47, 3, 8, 2, 106), (131, .astore 8, 2, 0, 0, 0), (133, .iload_n 1, 1, 0, 0, 0), (134, .iconst 1, 1, 1, 0, 0), (135, .if_icmp .ne 12, 3, 147, 0, 0), (138, .aload 7, 2, 0, 0, 0), (140, .iload_n 2, 1, 0, 0, 0), (141, .invokevirtual 47, 3, 8, 2, 106), (144, .goto 9, 3, 153, 0, 0), (147, .aload 6, 2, 0, 0, 0), (149, .iload_n 3, 1, 0, 0, 0), (150, .invokevirtual 47, 3, 8, 2, 106), (153, .astore 9, 2, 0, 0, 0), (155, .aload 6, 2, 0, 0, 0), (157, .iload_n 3, 1, 0, 0, 0), (158, .aload_n 0, 1, 0, 0, 0), (159, .iload_n 3, 1, 0, 0, 0), (160, .aload 5, 2, 0, 0, 0), (162, .iload_n 2, 1, 0, 0, 0), (163, .invokevirtual 47, 3, 8, 2, 106), (166, .aload 8, 2, 0, 0, 0), (168, .aload 9, 2, 0, 0, 0), (170, .iload 4, 2, 0, 0, 0), (172, .invokevirtual 104, 3, 58, 2, 107), (175, .invokevirtual 100, 3, 10, 2, 105), (178, .aload 5, 2, 0, 0, 0), (180, .iload_n 2, 1, 0, 0, 0), (181, .aconst_null, 1, 0, 0, 0), (182, .invokevirtual 100, 3, 10, 2, 105), (185, .aload 7, 2, 0, 0, 0), (187, .iload_n 2, 1, 0, 0, 0), (188, .aconst_null, 1, 0, 0, 0), (189, .invokevirtual 100, 3, 10, 2, 105), (192, .return_, 1, 0, 0, 0)]
/-- RenameMerge.Merger.mergeFiles (ILRenameMerge$TreeFile;LRenameMerge$TreeFile;LRenameMerge$TreeFile;I)LRenameMerge$TreeFile; -/
def xtb_58 : List xI := [(0, .aload_n 3, 1, 0, 0, 0), (1, .aload 4, 2, 0, 0, 0), (3, .invokestatic 108, 3, 3, 4, 108), (6, .ifCond .eq 5, 3, 11, 0, 0), (9, .aload_n 3, 1, 0, 0, 0), (10, .areturn, 1, 0, 0, 0), (11, .aload_n 2, 1, 0, 0, 0), (12, .aload_n 3, 1, 0, 0, 0), (13, .invokestatic 108, 3, 3, 4, 108), (16, .ifCond .eq 6, 3, 22, 0, 0), (19, .aload 4, 2, 0, 0, 0), (21, .areturn, 1, 0, 0, 0), (22, .aload_n 2, 1, 0, 0, 0), (23, .aload 4, 2, 0, 0, 0), (25, .invokestatic 108, 3, 3, 4, 108), (28, .ifCond .eq 5, 3, 33, 0, 0), (31, .aload_n 3, 1, 0, 0, 0), (32, .areturn, 1, 0, 0, 0), (33, .aload_n 3, 1, 0, 0, 0), (34, .ifnull 8, 3, 42, 0, 0), (37, .aload 4, 2, 0, 0, 0), (39, .ifnonnull 20, 3, 59, 0, 0), (42, .aload_n 0, 1, 0, 0, 0), (43, .iload_n 1, 1, 0, 0, 0), (44, .iconst 4, 1, 4, 0, 0), (45, .invokevirtual 94, 3, 56, 2, 103), (48, .aload_n 3, 1, 0, 0, 0), (49, .ifnonnull 8, 3, 57, 0, 0), (52, .aload 4, 2, 0, 0, 0), (54, .goto 4, 3, 58, 0, 0), (57, .aload_n 3, 1, 0, 0, 0), (58, .areturn, 1, 0, 0, 0), (59, .aload_n 3, 1, 0, 0, 0), (60, .getfield 114, 3, 1, 0, 109), (63, .ifCond .ne 22, 3, 85, 0, 0), (66, .aload 4, 2, 0, 0, 0), (68, .getfield 114, 3, 1, 0, 109), (71, .ifCond .ne 14, 3, 85, 0, 0), (74, .aload_n 2, 1, 0, 0, 0), (75, .ifnull 19, 3, 94, 0, 0), (78, .aload_n 2, 1, 0, 0, 0), (79, .getfield 114, 3, 1, 0, 109), (82, .ifCond .eq 12, 3, 94, 0, 0), (85, .aload_n 0, 1, 0, 0, 0), (86, .iload_n 1, 1, 0, 0, 0), (87, .bipush 8, 2, 8, 0, 0), (89, .invokevirtual 94, 3, 56, 2, 103), (92, .aload_n 3, 1, 0, 0, 0), (93, .areturn, 1, 0, 0, 0), (94, .aload_n 0, 1, 0, 0, 0), (95, .getfield 34, 3, 4, 4, 90), (98, .aload_n 2, 1, 0, 0, 0), (99, .ifnonnull 9, 3, 108, 0, 0), (102, .getstatic 118, 3, 0, 0, 1), (105, .goto 7, 3, 112, 0, 0), (108, .aload_n 2, 1, 0, 0, 0), (109, .getfield 121, 3, 1, 1, 110), (112, .aload_n 3, 1, 0, 0, 0), (113, .getfield 121, 3, 1, 1, 110), (116, .aload 4, 2, 0, 0, 0), (118, .getfield 121, 3, 1, 1, 110), (121, .iload 5, 2, 0, 0, 0), (123, .invokevirtual 124, 3, 44, 2, 111), (126, .aload_n 0, 1, 0, 0, 0), (127, .getfield 34, 3, 4, 4, 90), (130, .invokevirtual 128, 3, 50, 2, 112), (133, .ifCond .eq 17, 3, 150, 0, 0), (136, .aload_n 0, 1, 0, 0, 0), (137, .iload_n 1, 1, 0, 0, 0), (138, .aload_n 2, 1, 0, 0, 0), (139, .ifnonnull 7, 3, 146, 0, 0), (142, .iconst 2, 1, 2, 0, 0), (143, .goto 4, 3, 147, 0, 0), (146, .iconst 1, 1, 1, 0, 0), (147, .invokevirtual 94, 3, 56, 2, 103), (150, .new 109, 3, 1, 2, 113), (153, .dup, 1, 0, 0, 0), (154, .iconst 0, 1, 0, 0, 0), (155, .aload_n 0, 1, 0, 0, 0), (156, .getfield 34, 3, 4, 4, 90), (159, .invokevirtual 132, 3, 51, 2, 114), (162, .invokespecial 136, 3, 2, 0, 115), (165, .areturn, 1, 0, 0, 0)]
/-- RenameMerge.Merger.settle (II)LRenameMerge$TreeFile; -/
def xtb_59 : List xI := [(0, .aload_n 0, 1, 0, 0, 0), (1, .getfield 11, 3, 4, 0, 83), (4, .iconst 1, 1, 1, 0, 0), (5, .aaload, 1, 0, 0, 0), (6, .iload_n 1, 1, 0, 0, 0), (7, .invokevirtual 47, 3, 8, 2, 106), (10, .astore_n 3, 1, 0, 0, 0), (11, .aload_n 0, 1, 0, 0, 0), (12, .getfield 11, 3, 4, 0, 83), (15, .iconst 2, 1, 2, 0, 0), (16, .aaload, 1, 0, 0, 0), (17, .iload_n 1, 1, 0, 0, 0), (18, .invokevirtual 47, 3, 8, 2, 106), (21, .astore 4, 2, 0, 0, 0), (23, .aload_n 0, 1, 0, 0, 0), (24, .iload_n 1, 1, 0, 0, 0), (25, .invokevirtual 43, 3, 60, 2, 116), (28, .bipush 16, 2, 16, 0, 0), (30, .iand, 1, 0, 0, 0), (31, .ifCond .eq 23, 3, 54, 0, 0), (34, .aload_n 3, 1, 0, 0, 0), (35, .ifnull 8, 3, 43, 0, 0), (38, .aload 4, 2, 0, 0, 0), (40, .ifnonnull 14, 3, 54, 0, 0), (43, .aload_n 3, 1, 0, 0, 0), (44, .ifnonnull 8, 3, 52, 0, 0), (47, .aload 4, 2, 0, 0, 0), (49, .goto 4, 3, 53, 0, 0), (52, .aload_n 3, 1, 0, 0, 0), (53, .areturn, 1, 0, 0, 0), (54, .aload_n 0, 1, 0, 0, 0), (55, .iload_n 1, 1, 0, 0, 0), (56, .aload_n 0, 1, 0, 0, 0), (57, .getfield 11, 3, 4, 0, 83), (60, .iconst 0, 1, 0, 0, 0), (61, .aaload, 1, 0, 0, 0), (62, .iload_n 1, 1, 0, 0, 0), (63, .invokevirtual 47, 3, 8, 2, 106), (66, .aload_n 3, 1, 0, 0, 0), (67, .aload 4, 2, 0, 0, 0), (69, .iload_n 2, 1, 0, 0, 0), (70, .invokevirtual 104, 3, 58, 2, 107), (73, .areturn, 1, 0, 0, 0)]
/-- RenameMerge.Merger.codesAt (I)I -/
def xtb_60 : List xI := [(0, .iload_n 1, 1, 0, 0, 0), (1, .invokestatic 39, 3, 67, 5, 7), (4, .ifCond .eq 12, 3, 16, 0, 0), (7, .aload_n 0, 1, 0, 0, 0), (8, .getfield 27, 3, 4, 3, 88), (11, .iload_n 1, 1, 0, 0, 0), (12, .iaload, 1, 0, 0, 0), (13, .goto 4, 3, 17, 0, 0), (16, .iconst 0, 1, 0, 0, 0), (17, .ireturn, 1, 0, 0, 0)]
/-- RenameMerge.Merger.countConflictPaths ()I -/
def xtb_61 : List xI := [(0, .iconst 0, 1, 0, 0, 0), (1, .istore_n 1, 1, 0, 0, 0), (2, .iconst 0, 1, 0, 0, 0), (3, .istore_n 2, 1, 0, 0, 0), (4, .iload_n 2, 1, 0, 0, 0), (5, .bipush 64, 2, 64, 0, 0), (7, .if_icmp .ge 21, 3, 28, 0, 0), (10, .aload_n 0, 1, 0, 0, 0), (11, .getfield 27, 3, 4, 3, 88), (14, .iload_n 2, 1, 0, 0, 0), (15, .iaload, 1, 0, 0, 0), (16, .ifCond .eq 6, 3, 22, 0, 0), (19, .iinc 1 1, 3, 1, 0, 0), (22, .iinc 2 1, 3, 1, 0, 0), (25, .goto (-21), 3, 4, 0, 0), (28, .iload_n 1, 1, 0, 0, 0), (29, .ireturn, 1, 0, 0, 0)]
/-- RenameMerge.Merger.stagedFile (II)LRenameMerge$TreeFile; -/
def xtb_62 : List xI := [(0, .iload_n 1, 1, 0, 0, 0), (1, .ifCond .lt 12, 3, 13, 0, 0), (4, .iload_n 1, 1, 0, 0, 0), (5, .iconst 3, 1, 3, 0, 0), (6, .if_icmp .ge 7, 3, 13, 0, 0), (9, .iconst 1, 1, 1, 0, 0), (10, .goto 4, 3, 14, 0, 0), (13, .iconst 0, 1, 0, 0, 0), (14, .istore_n 3, 1, 0, 0, 0), (15, .iload_n 3, 1, 0, 0, 0), (16, .ifCond .eq 24, 3, 40, 0, 0), (19, .aload_n 0, 1, 0, 0, 0), (20, .iload_n 2, 1, 0, 0, 0), (21, .invokevirtual 43, 3, 60, 2, 116), (24, .ifCond .eq 16, 3, 40, 0, 0), (27, .aload_n 0, 1, 0, 0, 0), (28, .getfield 11, 3, 4, 0, 83), (31, .iload_n 1, 1, 0, 0, 0), (32, .aaload, 1, 0, 0, 0), (33, .iload_n 2, 1, 0, 0, 0), (34, .invokevirtual 47, 3, 8, 2, 106), (37, .goto 4, 3, 41, 0, 0), (40, .aconst_null, 1, 0, 0, 0), (41, .areturn, 1, 0, 0, 0)]
/-- RenameMerge.Merger.sideOf (I)LRenameMerge$Side; -/
def xtb_63 : List xI := [(0, .iload_n 1, 1, 0, 0, 0), (1, .iconst 1, 1, 1, 0, 0), (2, .if_icmp .ne 8, 3, 10, 0, 0), (5, .aload_n 0, 1, 0, 0, 0), (6, .getfield 20, 3, 4, 1, 86), (9, .areturn, 1, 0, 0, 0), (10, .iload_n 1, 1, 0, 0, 0), (11, .iconst 2, 1, 2, 0, 0), (12, .if_icmp .ne 10, 3, 22, 0, 0), (15, .aload_n 0, 1, 0, 0, 0), (16, .getfield 24, 3, 4, 2, 87), (19, .goto 4, 3, 23, 0, 0), (22, .aconst_null, 1, 0, 0, 0), (23, .areturn, 1, 0, 0, 0)]
/-- RenameMerge.init (I)V -/
def xtb_64 : List xI := [(0, .aload_n 0, 1, 0, 0, 0), (1, .invokespecial 1, 3, 0, 6, 117), (4, .aload_n 0, 1, 0, 0, 0), (5, .iconst 4, 1, 4, 0, 0), (6, .anewarray 9, 3, 1, 0, 118), (9, .putfield 11, 3, 0, 0, 119), (12, .aload_n 0, 1, 0, 0, 0), (13, .new 15, 3, 4, 5, 120), (16, .dup, 1, 0, 0, 0), (17, .invokespecial 17, 3, 52, 0, 121), (20, .putfield 18, 3, 0, 1, 122), (23, .aload_n 0, 1, 0, 0, 0), (24, .iconst 0, 1, 0, 0, 0), (25, .putfield 22, 3, 0, 3, 123), (28, .aload_n 0, 1, 0, 0, 0), (29, .iconst 0, 1, 0, 0, 0), (30, .putfield 26, 3, 0, 4, 124), (33, .aload_n 0, 1, 0, 0, 0), (34, .iload_n 1, 1, 0, 0, 0), (35, .iconst 1, 1, 1, 0, 0), (36, .if_icmp .lt 13, 3, 49, 0, 0), (39, .iload_n 1, 1, 0, 0, 0), (40, .bipush 100, 2, 100, 0, 0), (42, .if_icmp .gt 7, 3, 49, 0, 0), (45, .iload_n 1, 1, 0, 0, 0), (46, .goto 5, 3, 51, 0, 0), (49, .bipush 50, 2, 50, 0, 0), (51, .putfield 30, 3, 0, 2, 125), (54, .iconst 0, 1, 0, 0, 0), (55, .istore_n 2, 1, 0, 0, 0), (56, .iload_n 2, 1, 0, 0, 0), (57, .iconst 4, 1, 4, 0, 0), (58, .if_icmp .ge 22, 3, 80, 0, 0), (61, .aload_n 0, 1, 0, 0, 0), (62, .getfield 11, 3, 0, 0, 119), (65, .iload_n 2, 1, 0, 0, 0), (66, .new 9, 3, 2, 1, 126), (69, .dup, 1, 0, 0, 0), (70, .invokespecial 33, 3, 7, 1, 8), (73, .aastore, 1, 1, 0, 0), (74, .iinc 2 1, 3, 1, 0, 0), (77, .goto (-21), 3, 56, 0, 0), (80, .return_, 1, 0, 0, 0)]
/-- RenameMerge.put (IIIZ)Z -/
def xtb_65 : List xI := [(0, .iload_n 1, 1, 0, 0, 0), (1, .invokestatic 34, 3, 66, 4, 127), (4, .ifCond .eq 10, 3, 14, 0, 0), (7, .iload_n 2, 1, 0, 0, 0), (8, .invokestatic 38, 3, 67, 4, 128), (11, .ifCond .ne 5, 3, 16, 0, 0), (14, .iconst 0, 1, 0, 0, 0), (15, .ireturn, 1, 1, 0, 0), (16, .aload_n 0, 1, 0, 0, 0), (17, .getfield 11, 3, 0, 0, 119), (20, .iload_n 1, 1, 0, 0, 0), (21, .aaload, 1, 0, 0, 0), (22, .astore 5, 2, 0, 0, 0), (24, .aload 5, 2, 0, 0, 0), (26, .iload_n 2, 1, 0, 0, 0), (27, .invokevirtual 41, 3, 8, 2, 129), (30, .ifnonnull 15, 3, 45, 0, 0), (33, .aload 5, 2, 0, 0, 0), (35, .invokevirtual 45, 3, 9, 2, 130), (38, .bipush 8, 2, 8, 0, 0), (40, .if_icmp .lt 5, 3, 45, 0, 0), (43, .iconst 0, 1, 0, 0, 0), (44, .ireturn, 1, 1, 0, 0), (45, .aload 5, 2, 0, 0, 0), (47, .iload_n 2, 1, 0, 0, 0), (48, .new 49, 3, 1, 2, 131), (51, .dup, 1, 0, 0, 0), (52, .iload 4, 2, 0, 0, 0), (54, .iload_n 3, 1, 0, 0, 0), (55, .invokestatic 51, 3, 68, 4, 132), (58, .invokespecial 55, 3, 2, 0, 133), (61, .invokevirtual 58, 3, 10, 2, 134), (64, .iconst 1, 1, 1, 0, 0), (65, .ireturn, 1, 1, 0, 0)]
/-- RenameMerge.isInput (I)Z -/
def xtb_66 : List xI := [(0, .iload_n 0, 1, 0, 0, 0), (1, .ifCond .lt 12, 3, 13, 0, 0), (4, .iload_n 0, 1, 0, 0, 0), (5, .iconst 2, 1, 2, 0, 0), (6, .if_icmp .gt 7, 3, 13, 0, 0), (9, .iconst 1, 1, 1, 0, 0), (10, .goto 4, 3, 14, 0, 0), (13, .iconst 0, 1, 0, 0, 0), (14, .ireturn, 1, 1, 0, 0)]
/-- RenameMerge.isPath (I)Z -/
def xtb_67 : List xI := [(0, .iload_n 0, 1, 0, 0, 0), (1, .ifCond .lt 13, 3, 14, 0, 0), (4, .iload_n 0, 1, 0, 0, 0), (5, .bipush 64, 2, 64, 0, 0), (7, .if_icmp .ge 7, 3, 14, 0, 0), (10, .iconst 1, 1, 1, 0, 0), (11, .goto 4, 3, 15, 0, 0), (14, .iconst 0, 1, 0, 0, 0), (15, .ireturn, 1, 1, 0, 0)]
/-- RenameMerge.linesOf (I)[I -/
def xtb_68 : List xI := [(0, .bipush 8, 2, 8, 0, 0), (2, .newarray .int, 2, 0, 0, 0), (4, .astore_n 1, 1, 0, 0, 0), (5, .iconst 0, 1, 0, 0, 0), (6, .istore_n 2, 1, 0, 0, 0), (7, .iconst 0, 1, 0, 0, 0), (8, .istore_n 3, 1, 0, 0, 0), (9, .iload_n 3, 1, 0, 0, 0), (10, .bipush 8, 2, 8, 0, 0), (12, .if_icmp .ge 32, 3, 44, 0, 0), (15, .iload_n 0, 1, 0, 0, 0), (16, .iconst 4, 1, 4, 0, 0), (17, .iload_n 3, 1, 0, 0, 0), (18, .imul, 1, 0, 0, 0), (19, .iushr, 1, 0, 0, 0), (20, .bipush 15, 2, 15, 0, 0), (22, .iand, 1, 0, 0, 0), (23, .istore 4, 2, 0, 0, 0), (25, .iload 4, 2, 0, 0, 0), (27, .ifCond .eq 11, 3, 38, 0, 0), (30, .aload_n 1, 1, 0, 0, 0), (31, .iload_n 2, 1, 0, 0, 0), (32, .iload 4, 2, 0, 0, 0), (34, .iastore, 1, 0, 0, 0), (35, .iinc 2 1, 3, 1, 0, 0), (38, .iinc 3 1, 3, 1, 0, 0), (41, .goto (-32), 3, 9, 0, 0), (44, .aload_n 1, 1, 0, 0, 0), (45, .iload_n 2, 1, 0, 0, 0), (46, .invokestatic 126, 3, 1, 4, 135), (49, .areturn, 1, 0, 0, 0)]
/-- RenameMerge.drop (II)Z -/
def xtb_69 : List xI := [(0, .iload_n 1, 1, 0, 0, 0), (1, .invokestatic 34, 3, 66, 4, 127), (4, .ifCond .eq 16, 3, 20, 0, 0), (7, .aload_n 0, 1, 0, 0, 0), (8, .getfield 11, 3, 0, 0, 119), (11, .iload_n 1, 1, 0, 0, 0), (12, .aaload, 1, 0, 0, 0), (13, .iload_n 2, 1, 0, 0, 0), (14, .invokevirtual 41, 3, 8, 2, 129), (17, .ifnonnull 5, 3, 22, 0, 0), (20, .iconst 0, 1, 0, 0, 0), (21, .ireturn, 1, 1, 0, 0), (22, .aload_n 0, 1, 0, 0, 0), (23, .getfield 11, 3, 0, 0, 119), (26, .iload_n 1, 1, 0, 0, 0), (27, .aaload, 1, 0, 0, 0), (28, .iload_n 2, 1, 0, 0, 0), (29, .aconst_null, 1, 0, 0, 0), (30, .invokevirtual 58, 3, 10, 2, 134), (33, .iconst 1, 1, 1, 0, 0), (34, .ireturn, 1, 1, 0, 0)]
/-- RenameMerge.copy (II)Z -/
def xtb_70 : List xI := [(0, .iload_n 1, 1, 0, 0, 0), (1, .invokestatic 34, 3, 66, 4, 127), (4, .ifCond .eq 10, 3, 14, 0, 0), (7, .iload_n 2, 1, 0, 0, 0), (8, .invokestatic 34, 3, 66, 4, 127), (11, .ifCond .ne 5, 3, 16, 0, 0), (14, .iconst 0, 1, 0, 0, 0), (15, .ireturn, 1, 1, 0, 0), (16, .aload_n 0, 1, 0, 0, 0), (17, .getfield 11, 3, 0, 0, 119), (20, .iload_n 2, 1, 0, 0, 0), (21, .aaload, 1, 0, 0, 0), (22, .aload_n 0, 1, 0, 0, 0), (23, .getfield 11, 3, 0, 0, 119), (26, .iload_n 1, 1, 0, 0, 0), (27, .aaload, 1, 0, 0, 0), (28, .invokevirtual 62, 3, 11, 2, 136), (31, .iconst 1, 1, 1, 0, 0), (32, .ireturn, 1, 1, 0, 0)]
/-- RenameMerge.adopt (I)Z -/
def xtb_71 : List xI := [(0, .aload_n 0, 1, 0, 0, 0), (1, .getfield 11, 3, 0, 0, 119), (4, .iconst 3, 1, 3, 0, 0), (5, .aaload, 1, 0, 0, 0), (6, .astore_n 2, 1, 0, 0, 0), (7, .iload_n 1, 1, 0, 0, 0), (8, .invokestatic 34, 3, 66, 4, 127), (11, .ifCond .eq 28, 3, 39, 0, 0), (14, .aload_n 0, 1, 0, 0, 0), (15, .getfield 26, 3, 0, 4, 124), (18, .ifCond .eq 21, 3, 39, 0, 0), (21, .aload_n 2, 1, 0, 0, 0), (22, .invokevirtual 45, 3, 9, 2, 130), (25, .bipush 8, 2, 8, 0, 0), (27, .if_icmp .gt 12, 3, 39, 0, 0), (30, .aload_n 2, 1, 0, 0, 0), (31, .invokevirtual 66, 3, 12, 2, 137), (34, .bipush 8, 2, 8, 0, 0), (36, .if_icmp .le 5, 3, 41, 0, 0), (39, .iconst 0, 1, 0, 0, 0), (40, .ireturn, 1, 1, 0, 0), (41, .aload_n 0, 1, 0, 0, 0), (42, .getfield 11, 3, 0, 0, 119), (45, .iload_n 1, 1, 0, 0, 0), (46, .aaload, 1, 0, 0, 0), (47, .aload_n 2, 1, 0, 0, 0), (48, .invokevirtual 62, 3, 11, 2, 136), (51, .iconst 1, 1, 1, 0, 0), (52, .ireturn, 1, 1, 0, 0)]
/-- RenameMerge.style (I)Z -/
def xtb_72 : List xI := [(0, .iload_n 1, 1, 0, 0, 0), (1, .ifCond .lt 8, 3, 9, 0, 0), (4, .iload_n 1, 1, 0, 0, 0), (5, .iconst 2, 1, 2, 0, 0), (6, .if_icmp .le 5, 3, 11, 0, 0), (9, .iconst 0, 1, 0, 0, 0), (10, .ireturn, 1, 1, 0, 0), (11, .aload_n 0, 1, 0, 0, 0), (12, .iload_n 1, 1, 0, 0, 0), (13, .putfield 22, 3, 0, 3, 123), (16, .iconst 1, 1, 1, 0, 0), (17, .ireturn, 1, 1, 0, 0)]
/-- RenameMerge.merge ()I -/
def xtb_73 : List xI := [(0, .aload_n 0, 1, 0, 0, 0), (1, .getfield 18, 3, 0, 1, 122), (4, .aload_n 0, 1, 0, 0, 0), (5, .getfield 11, 3, 0, 0, 119), (8, .iconst 0, 1, 0, 0, 0), (9, .aaload, 1, 0, 0, 0), (10, .aload_n 0, 1, 0, 0, 0), (11, .getfield 11, 3, 0, 0, 119), (14, .iconst 1, 1, 1, 0, 0), (15, .aaload, 1, 0, 0, 0), (16, .aload_n 0, 1, 0, 0, 0), (17, .getfield 11, 3, 0, 0, 119), (20, .iconst 2, 1, 2, 0, 0), (21, .aaload, 1, 0, 0, 0), (22, .aload_n 0, 1, 0, 0, 0), (23, .getfield 30, 3, 0, 2, 125), (26, .invokevirtual 69, 3, 53, 2, 138), (29, .iconst 0, 1, 0, 0, 0), (30, .istore_n 1, 1, 0, 0, 0), (31, .iload_n 1, 1, 0, 0, 0), (32, .bipush 64, 2, 64, 0, 0), (34, .if_icmp .ge 21, 3, 55, 0, 0), (37, .aload_n 0, 1, 0, 0, 0), (38, .getfield 18, 3, 0, 1, 122), (41, .iload_n 1, 1, 0, 0, 0), (42, .aload_n 0, 1, 0, 0, 0), (43, .getfield 22, 3, 0, 3, 123), (46, .invokevirtual 73, 3, 54, 2, 139), (49, .iinc 1 1, 3, 1, 0, 0), (52, .goto (-21), 3, 31, 0, 0), (55, .iconst 0, 1, 0, 0, 0), (56, .istore_n 1, 1, 0, 0, 0), (57, .iload_n 1, 1, 0, 0, 0), (58, .bipush 64, 2, 64, 0, 0), (60, .if_icmp .ge 31, 3, 91, 0, 0), (63, .aload_n 0, 1, 0, 0, 0), (64, .getfield 11, 3, 0, 0, 119), (67, .iconst 3, 1, 3, 0, 0), (68, .aaload, 1, 0, 0, 0), (69, .iload_n 1, 1, 0, 0, 0), (70, .aload_n 0, 1, 0, 0, 0), (71, .getfield 18, 3, 0, 1, 122), (74, .iload_n 1, 1, 0, 0, 0), (75, .aload_n 0, 1, 0, 0, 0), (76, .getfield 22, 3, 0, 3, 123), (79, .invokevirtual 77, 3, 59, 2, 140), (82, .invokevirtual 58, 3, 10, 2, 134), (85, .iinc 1 1, 3, 1, 0, 0), (88, .goto (-31), 3, 57, 0, 0), (91, .aload_n 0, 1, 0, 0, 0), (92, .iconst 1, 1, 1, 0, 0), (93, .putfield 26, 3, 0, 4, 124), (96, .aload_n 0, 1, 0, 0, 0), (97, .getfield 18, 3, 0, 1, 122), (100, .invokevirtual 81, 3, 61, 2, 141), (103, .ireturn, 1, 0, 0, 0)]
/-- RenameMerge.nameOf (I)I -/
def xtb_74 : List xI := [(0, .iload_n 0, 1, 0, 0, 0), (1, .bipush 8, 2, 8, 0, 0), (3, .irem, 1, 0, 0, 0), (4, .ireturn, 1, 0, 0, 0)]
/-- RenameMerge.directoryOf (I)I -/
def xtb_75 : List xI := [(0, .iload_n 0, 1, 0, 0, 0), (1, .bipush 8, 2, 8, 0, 0), (3, .idiv, 1, 0, 0, 0), (4, .ireturn, 1, 0, 0, 0)]
/-- RenameMerge.size (I)I -/
def xtb_76 : List xI := [(0, .iload_n 1, 1, 0, 0, 0), (1, .invokestatic 84, 3, 77, 4, 142), (4, .ifCond .eq 15, 3, 19, 0, 0), (7, .aload_n 0, 1, 0, 0, 0), (8, .getfield 11, 3, 0, 0, 119), (11, .iload_n 1, 1, 0, 0, 0), (12, .aaload, 1, 0, 0, 0), (13, .invokevirtual 45, 3, 9, 2, 130), (16, .goto 4, 3, 20, 0, 0), (19, .iconst (-1), 1, 1, 1, 0), (20, .ireturn, 1, 0, 0, 0)]
/-- RenameMerge.isTree (I)Z -/
def xtb_77 : List xI := [(0, .iload_n 0, 1, 0, 0, 0), (1, .ifCond .lt 12, 3, 13, 0, 0), (4, .iload_n 0, 1, 0, 0, 0), (5, .iconst 3, 1, 3, 0, 0), (6, .if_icmp .gt 7, 3, 13, 0, 0), (9, .iconst 1, 1, 1, 0, 0), (10, .goto 4, 3, 14, 0, 0), (13, .iconst 0, 1, 0, 0, 0), (14, .ireturn, 1, 1, 0, 0)]
/-- RenameMerge.kind (II)I -/
def xtb_78 : List xI := [(0, .aload_n 0, 1, 0, 0, 0), (1, .iload_n 1, 1, 0, 0, 0), (2, .iload_n 2, 1, 0, 0, 0), (3, .invokevirtual 87, 3, 79, 2, 143), (6, .astore_n 3, 1, 0, 0, 0), (7, .aload_n 3, 1, 0, 0, 0), (8, .ifnonnull 5, 3, 13, 0, 0), (11, .iconst 0, 1, 0, 0, 0), (12, .ireturn, 1, 0, 0, 0), (13, .aload_n 3, 1, 0, 0, 0), (14, .getfield 90, 3, 1, 0, 144), (17, .ifCond .eq 7, 3, 24, 0, 0), (20, .iconst 2, 1, 2, 0, 0), (21, .goto 4, 3, 25, 0, 0), (24, .iconst 1, 1, 1, 0, 0), (25, .ireturn, 1, 0, 0, 0)]
/-- RenameMerge.findFile (II)LRenameMerge$TreeFile; -/
def xtb_79 : List xI := [(0, .iload_n 1, 1, 0, 0, 0), (1, .invokestatic 84, 3, 77, 4, 142), (4, .ifCond .eq 16, 3, 20, 0, 0), (7, .aload_n 0, 1, 0, 0, 0), (8, .getfield 11, 3, 0, 0, 119), (11, .iload_n 1, 1, 0, 0, 0), (12, .aaload, 1, 0, 0, 0), (13, .iload_n 2, 1, 0, 0, 0), (14, .invokevirtual 41, 3, 8, 2, 129), (17, .goto 4, 3, 21, 0, 0), (20, .aconst_null, 1, 0, 0, 0), (21, .areturn, 1, 0, 0, 0)]
/-- RenameMerge.length (II)I -/
def xtb_80 : List xI := [(0, .aload_n 0, 1, 0, 0, 0), (1, .iload_n 1, 1, 0, 0, 0), (2, .iload_n 2, 1, 0, 0, 0), (3, .invokevirtual 87, 3, 79, 2, 143), (6, .astore_n 3, 1, 0, 0, 0), (7, .aload_n 3, 1, 0, 0, 0), (8, .ifnonnull 7, 3, 15, 0, 0), (11, .iconst (-1), 1, 1, 1, 0), (12, .goto 8, 3, 20, 0, 0), (15, .aload_n 3, 1, 0, 0, 0), (16, .getfield 93, 3, 1, 1, 145), (19, .arraylength, 1, 0, 0, 0), (20, .ireturn, 1, 0, 0, 0)]
/-- RenameMerge.line (III)I -/
def xtb_81 : List xI := [(0, .aload_n 0, 1, 0, 0, 0), (1, .iload_n 1, 1, 0, 0, 0), (2, .iload_n 2, 1, 0, 0, 0), (3, .invokevirtual 87, 3, 79, 2, 143), (6, .astore 4, 2, 0, 0, 0), (8, .aload 4, 2, 0, 0, 0), (10, .ifnonnull 7, 3, 17, 0, 0), (13, .iconst 0, 1, 0, 0, 0), (14, .goto 9, 3, 23, 0, 0), (17, .aload 4, 2, 0, 0, 0), (19, .iload_n 3, 1, 0, 0, 0), (20, .invokevirtual 97, 3, 4, 2, 146), (23, .ireturn, 1, 0, 0, 0)]
/-- RenameMerge.conflict (I)I -/
def xtb_82 : List xI := [(0, .aload_n 0, 1, 0, 0, 0), (1, .getfield 18, 3, 0, 1, 122), (4, .iload_n 1, 1, 0, 0, 0), (5, .invokevirtual 101, 3, 60, 2, 147), (8, .ireturn, 1, 0, 0, 0)]
/-- RenameMerge.staged (II)I -/
def xtb_83 : List xI := [(0, .aload_n 0, 1, 0, 0, 0), (1, .getfield 18, 3, 0, 1, 122), (4, .iload_n 1, 1, 0, 0, 0), (5, .iload_n 2, 1, 0, 0, 0), (6, .invokevirtual 104, 3, 62, 2, 148), (9, .astore_n 3, 1, 0, 0, 0), (10, .aload_n 3, 1, 0, 0, 0), (11, .ifnonnull 7, 3, 18, 0, 0), (14, .iconst (-1), 1, 1, 1, 0), (15, .goto 8, 3, 23, 0, 0), (18, .aload_n 3, 1, 0, 0, 0), (19, .getfield 93, 3, 1, 1, 145), (22, .arraylength, 1, 0, 0, 0), (23, .ireturn, 1, 0, 0, 0)]
/-- RenameMerge.stagedLine (III)I -/
def xtb_84 : List xI := [(0, .aload_n 0, 1, 0, 0, 0), (1, .getfield 18, 3, 0, 1, 122), (4, .iload_n 1, 1, 0, 0, 0), (5, .iload_n 2, 1, 0, 0, 0), (6, .invokevirtual 104, 3, 62, 2, 148), (9, .astore 4, 2, 0, 0, 0), (11, .aload 4, 2, 0, 0, 0), (13, .ifnonnull 7, 3, 20, 0, 0), (16, .iconst 0, 1, 0, 0, 0), (17, .goto 9, 3, 26, 0, 0), (20, .aload 4, 2, 0, 0, 0), (22, .iload_n 3, 1, 0, 0, 0), (23, .invokevirtual 97, 3, 4, 2, 146), (26, .ireturn, 1, 0, 0, 0)]
/-- RenameMerge.renamed (II)I -/
def xtb_85 : List xI := [(0, .aload_n 0, 1, 0, 0, 0), (1, .getfield 18, 3, 0, 1, 122), (4, .iload_n 1, 1, 0, 0, 0), (5, .invokevirtual 107, 3, 63, 2, 149), (8, .astore_n 3, 1, 0, 0, 0), (9, .aload_n 3, 1, 0, 0, 0), (10, .ifnonnull 7, 3, 17, 0, 0), (13, .iconst (-1), 1, 1, 1, 0), (14, .goto 8, 3, 22, 0, 0), (17, .aload_n 3, 1, 0, 0, 0), (18, .iload_n 2, 1, 0, 0, 0), (19, .invokevirtual 111, 3, 34, 2, 150), (22, .ireturn, 1, 0, 0, 0)]
/-- RenameMerge.newPlace (II)I -/
def xtb_86 : List xI := [(0, .aload_n 0, 1, 0, 0, 0), (1, .getfield 18, 3, 0, 1, 122), (4, .iload_n 1, 1, 0, 0, 0), (5, .invokevirtual 107, 3, 63, 2, 149), (8, .astore_n 3, 1, 0, 0, 0), (9, .aload_n 3, 1, 0, 0, 0), (10, .ifnonnull 7, 3, 17, 0, 0), (13, .iconst (-1), 1, 1, 1, 0), (14, .goto 8, 3, 22, 0, 0), (17, .aload_n 3, 1, 0, 0, 0), (18, .iload_n 2, 1, 0, 0, 0), (19, .invokevirtual 116, 3, 31, 2, 151), (22, .ireturn, 1, 0, 0, 0)]
/-- RenameMerge.stands (II)I -/
def xtb_87 : List xI := [(0, .aload_n 0, 1, 0, 0, 0), (1, .getfield 18, 3, 0, 1, 122), (4, .iload_n 1, 1, 0, 0, 0), (5, .invokevirtual 107, 3, 63, 2, 149), (8, .astore_n 3, 1, 0, 0, 0), (9, .aload_n 3, 1, 0, 0, 0), (10, .ifnonnull 7, 3, 17, 0, 0), (13, .iconst (-1), 1, 1, 1, 0), (14, .goto 8, 3, 22, 0, 0), (17, .aload_n 3, 1, 0, 0, 0), (18, .iload_n 2, 1, 0, 0, 0), (19, .invokevirtual 119, 3, 35, 2, 152), (22, .ireturn, 1, 0, 0, 0)]
/-- RenameMerge.score (III)I -/
def xtb_88 : List xI := [(0, .iload_n 1, 1, 0, 0, 0), (1, .iconst 1, 1, 1, 0, 0), (2, .if_icmp .eq 10, 3, 12, 0, 0), (5, .iload_n 1, 1, 0, 0, 0), (6, .iconst 2, 1, 2, 0, 0), (7, .if_icmp .eq 5, 3, 12, 0, 0), (10, .iconst (-1), 1, 1, 1, 0), (11, .ireturn, 1, 0, 0, 0), (12, .aload_n 0, 1, 0, 0, 0), (13, .getfield 11, 3, 0, 0, 119), (16, .iconst 0, 1, 0, 0, 0), (17, .aaload, 1, 0, 0, 0), (18, .iload_n 2, 1, 0, 0, 0), (19, .invokevirtual 41, 3, 8, 2, 129), (22, .aload_n 0, 1, 0, 0, 0), (23, .getfield 11, 3, 0, 0, 119), (26, .iload_n 1, 1, 0, 0, 0), (27, .aaload, 1, 0, 0, 0), (28, .iload_n 3, 1, 0, 0, 0), (29, .invokevirtual 41, 3, 8, 2, 129), (32, .invokestatic 122, 3, 5, 4, 153), (35, .ireturn, 1, 0, 0, 0)]
/-- RenameMergeModel.init (I)V -/
def xtb_89 : List xI := [(0, .aload_n 0, 1, 0, 0, 0), (1, .invokespecial 1, 3, 0, 6, 154), (4, .aload_n 0, 1, 0, 0, 0), (5, .sipush 448, 3, 448, 0, 0), (8, .newarray .int, 2, 0, 0, 0), (10, .putfield 7, 3, 7, 3, 155), (13, .aload_n 0, 1, 0, 0, 0), (14, .sipush 448, 3, 448, 0, 0), (17, .newarray .int, 2, 0, 0, 0), (19, .putfield 13, 3, 7, 4, 156), (22, .aload_n 0, 1, 0, 0, 0), (23, .sipush 11520, 3, 11520, 0, 0), (26, .newarray .byte, 2, 1, 0, 0), (28, .putfield 16, 3, 7, 5, 157), (31, .aload_n 0, 1, 0, 0, 0), (32, .sipush 128, 3, 128, 0, 0), (35, .newarray .int, 2, 0, 0, 0), (37, .putfield 20, 3, 7, 6, 158), (40, .aload_n 0, 1, 0, 0, 0), (41, .sipush 128, 3, 128, 0, 0), (44, .newarray .int, 2, 0, 0, 0), (46, .putfield 23, 3, 7, 7, 159), (49, .aload_n 0, 1, 0, 0, 0), (50, .sipush 128, 3, 128, 0, 0), (53, .newarray .int, 2, 0, 0, 0), (55, .putfield 26, 3, 7, 8, 160), (58, .aload_n 0, 1, 0, 0, 0), (59, .bipush 16, 2, 16, 0, 0), (61, .newarray .int, 2, 0, 0, 0), (63, .putfield 29, 3, 7, 9, 161), (66, .aload_n 0, 1, 0, 0, 0), (67, .bipush 64, 2, 64, 0, 0), (69, .newarray .int, 2, 0, 0, 0), (71, .putfield 32, 3, 7, 10, 162), (74, .aload_n 0, 1, 0, 0, 0), (75, .bipush 76, 2, 76, 0, 0), (77, .newarray .byte, 2, 1, 0, 0), (79, .putfield 35, 3, 7, 11, 163), (82, .aload_n 0, 1, 0, 0, 0), (83, .bipush 16, 2, 16, 0, 0), (85, .newarray .int, 2, 0, 0, 0), (87, .putfield 38, 3, 7, 19, 164), (90, .aload_n 0, 1, 0, 0, 0), (91, .iload_n 1, 1, 0, 0, 0), (92, .iconst 1, 1, 1, 0, 0), (93, .if_icmp .lt 13, 3, 106, 0, 0), (96, .iload_n 1, 1, 0, 0, 0), (97, .bipush 100, 2, 100, 0, 0), (99, .if_icmp .gt 7, 3, 106, 0, 0), (102, .iload_n 1, 1, 0, 0, 0), (103, .goto 5, 3, 108, 0, 0), (106, .bipush 50, 2, 50, 0, 0), (108, .putfield 41, 3, 7, 0, 165), (111, .iconst 0, 1, 0, 0, 0), (112, .istore_n 2, 1, 0, 0, 0), (113, .iload_n 2, 1, 0, 0, 0), (114, .sipush 128, 3, 128, 0, 0), (117, .if_icmp .ge 30, 3, 147, 0, 0), (120, .aload_n 0, 1, 0, 0, 0), (121, .getfield 20, 3, 7, 6, 158), (124, .iload_n 2, 1, 0, 0, 0), (125, .iconst (-1), 1, 1, 1, 0), (126, .iastore, 1, 0, 0, 0), (127, .aload_n 0, 1, 0, 0, 0), (128, .getfield 23, 3, 7, 7, 159), (131, .iload_n 2, 1, 0, 0, 0), (132, .iconst (-1), 1, 1, 1, 0), (133, .iastore, 1, 0, 0, 0), (134, .aload_n 0, 1, 0, 0, 0), (135, .getfield 26, 3, 7, 8, 160), (138, .iload_n 2, 1, 0, 0, 0), (139, .iconst (-1), 1, 1, 1, 0), (140, .iastore, 1, 0, 0, 0), (141, .iinc 2 1, 3, 1, 0, 0), (144, .goto (-31), 3, 113, 0, 0), (147, .iconst 0, 1, 0, 0, 0), (148, .istore_n 2, 1, 0, 0, 0), (149, .iload_n 2, 1, 0, 0, 0), (150, .bipush 16, 2, 16, 0, 0), (152, .if_icmp .ge 16, 3, 168, 0, 0), (155, .aload_n 0, 1, 0, 0, 0), (156, .getfield 29, 3, 7, 9, 161), (159, .iload_n 2, 1, 0, 0, 0), (160, .iconst (-1), 1, 1, 1, 0), (161, .iastore, 1, 0, 0, 0), (162, .iinc 2 1, 3, 1, 0, 0), (165, .goto (-16), 3, 149, 0, 0), (168, .return_, 1, 0, 0, 0)]
/-- RenameMergeModel.size (I)I -/
def xtb_90 : List xI := [(0, .iload_n 1, 1, 0, 0, 0), (1, .ifCond .lt 8, 3, 9, 0, 0), (4, .iload_n 1, 1, 0, 0, 0), (5, .iconst 3, 1, 3, 0, 0), (6, .if_icmp .le 5, 3, 11, 0, 0), (9, .iconst (-1), 1, 1, 1, 0), (10, .ireturn, 1, 0, 0, 0), (11, .iconst 0, 1, 0, 0, 0), (12, .istore_n 2, 1, 0, 0, 0), (13, .iconst 0, 1, 0, 0, 0), (14, .istore_n 3, 1, 0, 0, 0), (15, .iload_n 3, 1, 0, 0, 0), (16, .bipush 64, 2, 64, 0, 0), (18, .if_icmp .ge 26, 3, 44, 0, 0), (21, .aload_n 0, 1, 0, 0, 0), (22, .iload_n 1, 1, 0, 0, 0), (23, .iload_n 3, 1, 0, 0, 0), (24, .invokevirtual 49, 3, 91, 2, 166), (27, .ifCond .eq 9, 3, 36, 0, 0), (30, .iload_n 2, 1, 0, 0, 0), (31, .iconst 1, 1, 1, 0, 0), (32, .iadd, 1, 0, 0, 0), (33, .goto 4, 3, 37, 0, 0), (36, .iload_n 2, 1, 0, 0, 0), (37, .istore_n 2, 1, 0, 0, 0), (38, .iinc 3 1, 3, 1, 0, 0), (41, .goto (-26), 3, 15, 0, 0), (44, .iload_n 2, 1, 0, 0, 0), (45, .ireturn, 1, 0, 0, 0)]
/-- RenameMergeModel.has (II)Z -/
def xtb_91 : List xI := [(0, .iload_n 1, 1, 0, 0, 0), (1, .ifCond .lt 37, 3, 38, 0, 0), (4, .iload_n 1, 1, 0, 0, 0), (5, .bipush 6, 2, 6, 0, 0), (7, .if_icmp .gt 31, 3, 38, 0, 0), (10, .iload_n 2, 1, 0, 0, 0), (11, .ifCond .lt 27, 3, 38, 0, 0), (14, .iload_n 2, 1, 0, 0, 0), (15, .bipush 63, 2, 63, 0, 0), (17, .if_icmp .gt 21, 3, 38, 0, 0), (20, .aload_n 0, 1, 0, 0, 0), (21, .getfield 7, 3, 7, 3, 155), (24, .bipush 64, 2, 64, 0, 0), (26, .iload_n 1, 1, 0, 0, 0), (27, .imul, 1, 0, 0, 0), (28, .iload_n 2, 1, 0, 0, 0), (29, .iadd, 1, 0, 0, 0), (30, .iaload, 1, 0, 0, 0), (31, .ifCond .eq 7, 3, 38, 0, 0), (34, .iconst 1, 1, 1, 0, 0), (35, .goto 4, 3, 39, 0, 0), (38, .iconst 0, 1, 0, 0, 0), (39, .ireturn, 1, 1, 0, 0)]
/-- RenameMergeModel.put (IIIZ)Z -/
def xtb_92 : List xI := [(0, .iload_n 1, 1, 0, 0, 0), (1, .ifCond .lt 18, 3, 19, 0, 0), (4, .iload_n 1, 1, 0, 0, 0), (5, .iconst 2, 1, 2, 0, 0), (6, .if_icmp .gt 13, 3, 19, 0, 0), (9, .iload_n 2, 1, 0, 0, 0), (10, .ifCond .lt 9, 3, 19, 0, 0), (13, .iload_n 2, 1, 0, 0, 0), (14, .bipush 63, 2, 63, 0, 0), (16, .if_icmp .le 5, 3, 21, 0, 0), (19, .iconst 0, 1, 0, 0, 0), (20, .ireturn, 1, 1, 0, 0), (21, .aload_n 0, 1, 0, 0, 0), (22, .iload_n 1, 1, 0, 0, 0), (23, .iload_n 2, 1, 0, 0, 0), (24, .invokevirtual 49, 3, 91, 2, 166), (27, .ifCond .ne 15, 3, 42, 0, 0), (30, .aload_n 0, 1, 0, 0, 0), (31, .iload_n 1, 1, 0, 0, 0), (32, .invokevirtual 53, 3, 90, 2, 167), (35, .bipush 8, 2, 8, 0, 0), (37, .if_icmp .lt 5, 3, 42, 0, 0), (40, .iconst 0, 1, 0, 0, 0), (41, .ireturn, 1, 1, 0, 0), (42, .iconst 0, 1, 0, 0, 0), (43, .istore 5, 2, 0, 0, 0), (45, .iconst 0, 1, 0, 0, 0), (46, .istore 6, 2, 0, 0, 0), (48, .iload 6, 2, 0, 0, 0), (50, .bipush 8, 2, 8, 0, 0), (52, .if_icmp .ge 44, 3, 96, 0, 0), (55, .iload_n 3, 1, 0, 0, 0), (56, .iconst 4, 1, 4, 0, 0), (57, .iload 6, 2, 0, 0, 0), (59, .imul, 1, 0, 0, 0), (60, .iushr, 1, 0, 0, 0), (61, .bipush 15, 2, 15, 0, 0), (63, .iand, 1, 0, 0, 0), (64, .istore 7, 2, 0, 0, 0), (66, .iload 7, 2, 0, 0, 0), (68, .ifCond .eq 22, 3, 90, 0, 0), (71, .aload_n 0, 1, 0, 0, 0), (72, .getfield 16, 3, 7, 5, 157), (75, .iload_n 1, 1, 0, 0, 0), (76, .iload_n 2, 1, 0, 0, 0), (77, .invokestatic 45, 3, 93, 4, 168), (80, .iload 5, 2, 0, 0, 0), (82, .iadd, 1, 0, 0, 0), (83, .iload 7, 2, 0, 0, 0), (85, .i2b, 1, 0, 0, 0), (86, .bastore, 1, 1, 0, 0), (87, .iinc 5 1, 3, 1, 0, 0), (90, .iinc 6 1, 3, 1, 0, 0), (93, .goto (-45), 3, 48, 0, 0), (96, .aload_n 0, 1, 0, 0, 0), (97, .getfield 7, 3, 7, 3, 155), (100, .bipush 64, 2, 64, 0, 0), (102, .iload_n 1, 1, 0, 0, 0), (103, .imul, 1, 0, 0, 0), (104, .iload_n 2, 1, 0, 0, 0), (105, .iadd, 1, 0, 0, 0), (106, .iload 4, 2, 0, 0, 0), (108, .ifCond .eq 7, 3, 115, 0, 0), (111, .iconst 2, 1, 2, 0, 0), (112, .goto 4, 3, 116, 0, 0), (115, .iconst 1, 1, 1, 0, 0), (116, .iastore, 1, 0, 0, 0), (117, .aload_n 0, 1, 0, 0, 0), (118, .getfield 13, 3, 7, 4, 156), (121, .bipush 64, 2, 64, 0, 0), (123, .iload_n 1, 1, 0, 0, 0), (124, .imul, 1, 0, 0, 0), (125, .iload_n 2, 1, 0, 0, 0), (126, .iadd, 1, 0, 0, 0), (127, .iload 5, 2, 0, 0, 0), (129, .iastore, 1, 0, 0, 0), (130, .iconst 1, 1, 1, 0, 0), (131, .ireturn, 1, 1, 0, 0)]
/-- RenameMergeModel.start (II)I -/
def xtb_93 : List xI := [(0, .iload_n 0, 1, 0, 0, 0), (1, .iconst 3, 1, 3, 0, 0), (2, .if_icmp .ge 13, 3, 15, 0, 0), (5, .bipush 64, 2, 64, 0, 0), (7, .iload_n 0, 1, 0, 0, 0), (8, .imul, 1, 0, 0, 0), (9, .iload_n 1, 1, 0, 0, 0), (10, .iadd, 1, 0, 0, 0), (11, .bipush 8, 2, 8, 0, 0), (13, .imul, 1, 0, 0, 0), (14, .ireturn, 1, 0, 0, 0), (15, .iload_n 0, 1, 0, 0, 0), (16, .iconst 3, 1, 3, 0, 0), (17, .if_icmp .ne 12, 3, 29, 0, 0), (20, .sipush 1536, 3, 1536, 0, 0), (23, .iload_n 1, 1, 0, 0, 0), (24, .bipush 76, 2, 76, 0, 0), (26, .imul, 1, 0, 0, 0), (27, .iadd, 1, 0, 0, 0), (28, .ireturn, 1, 0, 0, 0), (29, .iload_n 0, 1, 0, 0, 0), (30, .iconst 4, 1, 4, 0, 0), (31, .if_icmp .ne 14, 3, 45, 0, 0), (34, .sipush 6400, 3, 6400, 0, 0), (37, .iload_n 1, 1, 0, 0, 0), (38, .bipush 8, 2, 8, 0, 0), (40, .imul, 1, 0, 0, 0), (41, .iadd, 1, 0, 0, 0), (42, .goto 18, 3, 60, 0, 0), (45, .sipush 6912, 3, 6912, 0, 0), (48, .bipush 64, 2, 64, 0, 0), (50, .iload_n 0, 1, 0, 0, 0), (51, .iconst 5, 1, 5, 0, 0), (52, .isub, 1, 0, 0, 0), (53, .imul, 1, 0, 0, 0), (54, .iload_n 1, 1, 0, 0, 0), (55, .iadd, 1, 0, 0, 0), (56, .bipush 36, 2, 36, 0, 0), (58, .imul, 1, 0, 0, 0), (59, .iadd, 1, 0, 0, 0), (60, .ireturn, 1, 0, 0, 0)]
/-- RenameMergeModel.drop (II)Z -/
def xtb_94 : List xI := [(0, .iload_n 1, 1, 0, 0, 0), (1, .ifCond .lt 17, 3, 18, 0, 0), (4, .iload_n 1, 1, 0, 0, 0), (5, .iconst 2, 1, 2, 0, 0), (6, .if_icmp .gt 12, 3, 18, 0, 0), (9, .aload_n 0, 1, 0, 0, 0), (10, .iload_n 1, 1, 0, 0, 0), (11, .iload_n 2, 1, 0, 0, 0), (12, .invokevirtual 49, 3, 91, 2, 166), (15, .ifCond .ne 5, 3, 20, 0, 0), (18, .iconst 0, 1, 0, 0, 0), (19, .ireturn, 1, 1, 0, 0), (20, .aload_n 0, 1, 0, 0, 0), (21, .iload_n 1, 1, 0, 0, 0), (22, .iload_n 2, 1, 0, 0, 0), (23, .invokevirtual 57, 3, 95, 2, 169), (26, .iconst 1, 1, 1, 0, 0), (27, .ireturn, 1, 1, 0, 0)]
/-- RenameMergeModel.erase (II)V -/
def xtb_95 : List xI := [(0, .aload_n 0, 1, 0, 0, 0), (1, .getfield 7, 3, 7, 3, 155), (4, .bipush 64, 2, 64, 0, 0), (6, .iload_n 1, 1, 0, 0, 0), (7, .imul, 1, 0, 0, 0), (8, .iload_n 2, 1, 0, 0, 0), (9, .iadd, 1, 0, 0, 0), (10, .iconst 0, 1, 0, 0, 0), (11, .iastore, 1, 0, 0, 0), (12, .aload_n 0, 1, 0, 0, 0), (13, .getfield 13, 3, 7, 4, 156), (16, .bipush 64, 2, 64, 0, 0), (18, .iload_n 1, 1, 0, 0, 0), (19, .imul, 1, 0, 0, 0), (20, .iload_n 2, 1, 0, 0, 0), (21, .iadd, 1, 0, 0, 0), (22, .iconst 0, 1, 0, 0, 0), (23, .iastore, 1, 0, 0, 0), (24, .return_, 1, 0, 0, 0)]
/-- RenameMergeModel.copy (II)Z -/
def xtb_96 : List xI := [(0, .iload_n 1, 1, 0, 0, 0), (1, .ifCond .lt 17, 3, 18, 0, 0), (4, .iload_n 1, 1, 0, 0, 0), (5, .iconst 2, 1, 2, 0, 0), (6, .if_icmp .gt 12, 3, 18, 0, 0), (9, .iload_n 2, 1, 0, 0, 0), (10, .ifCond .lt 8, 3, 18, 0, 0), (13, .iload_n 2, 1, 0, 0, 0), (14, .iconst 2, 1, 2, 0, 0), (15, .if_icmp .le 5, 3, 20, 0, 0), (18, .iconst 0, 1, 0, 0, 0), (19, .ireturn, 1, 1, 0, 0), (20, .iconst 0, 1, 0, 0, 0), (21, .istore_n 3, 1, 0, 0, 0), (22, .iload_n 3, 1, 0, 0, 0), (23, .bipush 64, 2, 64, 0, 0), (25, .if_icmp .ge 17, 3, 42, 0, 0), (28, .aload_n 0, 1, 0, 0, 0), (29, .iload_n 1, 1, 0, 0, 0), (30, .iload_n 3, 1, 0, 0, 0), (31, .iload_n 2, 1, 0, 0, 0), (32, .iload_n 3, 1, 0, 0, 0), (33, .invokevirtual 61, 3, 97, 2, 170), (36, .iinc 3 1, 3, 1, 0, 0), (39, .goto (-17), 3, 22, 0, 0), (42, .iconst 1, 1, 1, 0, 0), (43, .ireturn, 1, 1, 0, 0)]
/-- RenameMergeModel.copyFile (IIII)V -/
def xtb_97 : List xI := [(0, .aload_n 0, 1, 0, 0, 0), (1, .getfield 13, 3, 7, 4, 156), (4, .bipush 64, 2, 64, 0, 0), (6, .iload_n 1, 1, 0, 0, 0), (7, .imul, 1, 0, 0, 0), (8, .iload_n 2, 1, 0, 0, 0), (9, .iadd, 1, 0, 0, 0), (10, .iaload, 1, 0, 0, 0), (11, .istore 5, 2, 0, 0, 0), (13, .aload_n 0, 1, 0, 0, 0), (14, .getfield 7, 3, 7, 3, 155), (17, .bipush 64, 2, 64, 0, 0), (19, .iload_n 3, 1, 0, 0, 0), (20, .imul, 1, 0, 0, 0), (21, .iload 4, 2, 0, 0, 0), (23, .iadd, 1, 0, 0, 0), (24, .aload_n 0, 1, 0, 0, 0), (25, .getfield 7, 3, 7, 3, 155), (28, .bipush 64, 2, 64, 0, 0), (30, .iload_n 1, 1, 0, 0, 0), (31, .imul, 1, 0, 0, 0), (32, .iload_n 2, 1, 0, 0, 0), (33, .iadd, 1, 0, 0, 0), (34, .iaload, 1, 0, 0, 0), (35, .iastore, 1, 0, 0, 0), (36, .aload_n 0, 1, 0, 0, 0), (37, .getfield 13, 3, 7, 4, 156), (40, .bipush 64, 2, 64, 0, 0), (42, .iload_n 3, 1, 0, 0, 0), (43, .imul, 1, 0, 0, 0), (44, .iload 4, 2, 0, 0, 0), (46, .iadd, 1, 0, 0, 0), (47, .iload 5, 2, 0, 0, 0), (49, .iastore, 1, 0, 0, 0), (50, .iconst 0, 1, 0, 0, 0), (51, .istore 6, 2, 0, 0, 0), (53, .iload 6, 2, 0, 0, 0), (55, .iload 5, 2, 0, 0, 0), (57, .if_icmp .ge 36, 3, 93, 0, 0), (60, .aload_n 0, 1, 0, 0, 0), (61, .getfield 16, 3, 7, 5, 157), (64, .iload_n 3, 1, 0, 0, 0), (65, .iload 4, 2, 0, 0, 0), (67, .invokestatic 45, 3, 93, 4, 168), (70, .iload 6, 2, 0, 0, 0), (72, .iadd, 1, 0, 0, 0), (73, .aload_n 0, 1, 0, 0, 0), (74, .getfield 16, 3, 7, 5, 157), (77, .iload_n 1, 1, 0, 0, 0), (78, .iload_n 2, 1, 0, 0, 0), (79, .invokestatic 45, 3, 93, 4, 168), (82, .iload 6, 2, 0, 0, 0), (84, .iadd, 1, 0, 0, 0), (85, .baload, 1, 1, 0, 0), (86, .bastore, 1, 1, 0, 0), (87, .iinc 6 1, 3, 1, 0, 0), (90, .goto (-37), 3, 53, 0, 0), (93, .return_, 1, 0, 0, 0)]
/-- RenameMergeModel.adopt (I)Z -/
def xtb_98 : List xI := [(0, .iload_n 1, 1, 0, 0, 0), (1, .ifCond .lt 25, 3, 26, 0, 0), (4, .iload_n 1, 1, 0, 0, 0), (5, .iconst 2, 1, 2, 0, 0), (6, .if_icmp .gt 20, 3, 26, 0, 0), (9, .aload_n 0, 1, 0, 0, 0), (10, .getfield 65, 3, 7, 2, 171), (13, .ifCond .eq 13, 3, 26, 0, 0), (16, .aload_n 0, 1, 0, 0, 0), (17, .iconst 3, 1, 3, 0, 0), (18, .invokevirtual 53, 3, 90, 2, 167), (21, .bipush 8, 2, 8, 0, 0), (23, .if_icmp .le 5, 3, 28, 0, 0), (26, .iconst 0, 1, 0, 0, 0), (27, .ireturn, 1, 1, 0, 0), (28, .iconst 0, 1, 0, 0, 0), (29, .istore_n 2, 1, 0, 0, 0), (30, .iload_n 2, 1, 0, 0, 0), (31, .bipush 64, 2, 64, 0, 0), (33, .if_icmp .ge 35, 3, 68, 0, 0), (36, .aload_n 0, 1, 0, 0, 0), (37, .iconst 3, 1, 3, 0, 0), (38, .iload_n 2, 1, 0, 0, 0), (39, .invokevirtual 49, 3, 91, 2, 166), (42, .ifCond .eq 20, 3, 62, 0, 0), (45, .aload_n 0, 1, 0, 0, 0), (46, .getfield 13, 3, 7, 4, 156), (49, .sipush 192, 3, 192, 0, 0), (52, .iload_n 2, 1, 0, 0, 0), (53, .iadd, 1, 0, 0, 0), (54, .iaload, 1, 0, 0, 0), (55, .bipush 8, 2, 8, 0, 0), (57, .if_icmp .le 5, 3, 62, 0, 0), (60, .iconst 0, 1, 0, 0, 0), (61, .ireturn, 1, 1, 0, 0), (62, .iinc 2 1, 3, 1, 0, 0), (65, .goto (-35), 3, 30, 0, 0), (68, .iconst 0, 1, 0, 0, 0), (69, .istore_n 2, 1, 0, 0, 0), (70, .iload_n 2, 1, 0, 0, 0), (71, .bipush 64, 2, 64, 0, 0), (73, .if_icmp .ge 17, 3, 90, 0, 0), (76, .aload_n 0, 1, 0, 0, 0), (77, .iconst 3, 1, 3, 0, 0), (78, .iload_n 2, 1, 0, 0, 0), (79, .iload_n 1, 1, 0, 0, 0), (80, .iload_n 2, 1, 0, 0, 0), (81, .invokevirtual 61, 3, 97, 2, 170), (84, .iinc 2 1, 3, 1, 0, 0), (87, .goto (-17), 3, 70, 0, 0), (90, .iconst 1, 1, 1, 0, 0), (91, .ireturn, 1, 1, 0, 0)]
/-- RenameMergeModel.style (I)Z -/
def xtb_99 : List xI := [(0, .iload_n 1, 1, 0, 0, 0), (1, .ifCond .lt 8, 3, 9, 0, 0), (4, .iload_n 1, 1, 0, 0, 0), (5, .iconst 2, 1, 2, 0, 0), (6, .if_icmp .le 5, 3, 11, 0, 0), (9, .iconst 0, 1, 0, 0, 0), (10, .ireturn, 1, 1, 0, 0), (11, .aload_n 0, 1, 0, 0, 0), (12, .iload_n 1, 1, 0, 0, 0), (13, .putfield 69, 3, 7, 1, 172), (16, .iconst 1, 1, 1, 0, 0), (17, .ireturn, 1, 1, 0, 0)]
/-- RenameMergeModel.score (III)I -/
def xtb_100 : List xI := [(0, .iload_n 1, 1, 0, 0, 0), (1, .iconst 1, 1, 1, 0, 0), (2, .if_icmp .lt 26, 3, 28, 0, 0), (5, .iload_n 1, 1, 0, 0, 0), (6, .iconst 2, 1, 2, 0, 0), (7, .if_icmp .gt 21, 3, 28, 0, 0), (10, .aload_n 0, 1, 0, 0, 0), (11, .iconst 0, 1, 0, 0, 0), (12, .iload_n 2, 1, 0, 0, 0), (13, .invokevirtual 49, 3, 91, 2, 166), (16, .ifCond .eq 12, 3, 28, 0, 0), (19, .aload_n 0, 1, 0, 0, 0), (20, .iload_n 1, 1, 0, 0, 0), (21, .iload_n 3, 1, 0, 0, 0), (22, .invokevirtual 49, 3, 91, 2, 166), (25, .ifCond .ne 5, 3, 30, 0, 0), (28, .iconst (-1), 1, 1, 1, 0), (29, .ireturn, 1, 0, 0, 0), (30, .aload_n 0, 1, 0, 0, 0), (31, .getfield 7, 3, 7, 3, 155), (34, .iload_n 2, 1, 0, 0, 0), (35, .iaload, 1, 0, 0, 0), (36, .iconst 1, 1, 1, 0, 0), (37, .if_icmp .ne 28, 3, 65, 0, 0), (40, .aload_n 0, 1, 0, 0, 0), (41, .getfield 7, 3, 7, 3, 155), (44, .bipush 64, 2, 64, 0, 0), (46, .iload_n 1, 1, 0, 0, 0), (47, .imul, 1, 0, 0, 0), (48, .iload_n 3, 1, 0, 0, 0), (49, .iadd, 1, 0, 0, 0), (50, .iaload, 1, 0, 0, 0), (51, .iconst 1, 1, 1, 0, 0), (52, .if_icmp .ne 13, 3, 65, 0, 0), (55, .aload_n 0, 1, 0, 0, 0), (56, .iload_n 1, 1, 0, 0, 0), (57, .iload_n 2, 1, 0, 0, 0), (58, .iload_n 3, 1, 0, 0, 0), (59, .invokevirtual 76, 3, 101, 2, 173), (62, .goto 4, 3, 66, 0, 0), (65, .iconst (-1), 1, 1, 1, 0), (66, .ireturn, 1, 0, 0, 0)]
/-- RenameMergeModel.likeness (III)I -/
def xtb_101 : List xI := [(0, .aload_n 0, 1, 0, 0, 0), (1, .getfield 13, 3, 7, 4, 156), (4, .iload_n 2, 1, 0, 0, 0), (5, .iaload, 1, 0, 0, 0), (6, .istore 4, 2, 0, 0, 0), (8, .aload_n 0, 1, 0, 0, 0), (9, .getfield 13, 3, 7, 4, 156), (12, .bipush 64, 2, 64, 0, 0), (14, .iload_n 1, 1, 0, 0, 0), (15, .imul, 1, 0, 0, 0), (16, .iload_n 3, 1, 0, 0, 0), (17, .iadd, 1, 0, 0, 0), (18, .iaload, 1, 0, 0, 0), (19, .istore 5, 2, 0, 0, 0), (21, .iload 4, 2, 0, 0, 0), (23, .iload 5, 2, 0, 0, 0), (25, .if_icmp .le 8, 3, 33, 0, 0), (28, .iload 4, 2, 0, 0, 0), (30, .goto 5, 3, 35, 0, 0), (33, .iload 5, 2, 0, 0, 0), (35, .istore 6, 2, 0, 0, 0), (37, .iconst 0, 1, 0, 0, 0), (38, .istore 7, 2, 0, 0, 0), (40, .iconst 1, 1, 1, 0, 0), (41, .istore 8, 2, 0, 0, 0), (43, .iload 8, 2, 0, 0, 0), (45, .bipush 19, 2, 19, 0, 0), (47, .if_icmp .gt 48, 3, 95, 0, 0), (50, .aload_n 0, 1, 0, 0, 0), (51, .iconst 0, 1, 0, 0, 0), (52, .iload_n 2, 1, 0, 0, 0), (53, .iload 8, 2, 0, 0, 0), (55, .invokevirtual 72, 3, 102, 2, 174), (58, .istore 9, 2, 0, 0, 0), (60, .aload_n 0, 1, 0, 0, 0), (61, .iload_n 1, 1, 0, 0, 0), (62, .iload_n 3, 1, 0, 0, 0), (63, .iload 8, 2, 0, 0, 0), (65, .invokevirtual 72, 3, 102, 2, 174), (68, .istore 10, 2, 0, 0, 0), (70, .iload 7, 2, 0, 0, 0), (72, .iload 9, 2, 0, 0, 0), (74, .iload 10, 2, 0, 0, 0), (76, .if_icmp .ge 8, 3, 84, 0, 0), (79, .iload 9, 2, 0, 0, 0), (81, .goto 5, 3, 86, 0, 0), (84, .iload 10, 2, 0, 0, 0), (86, .iadd, 1, 0, 0, 0), (87, .istore 7, 2, 0, 0, 0), (89, .iinc 8 1, 3, 1, 0, 0), (92, .goto (-49), 3, 43, 0, 0), (95, .iload 6, 2, 0, 0, 0), (97, .ifCond .ne 7, 3, 104, 0, 0), (100, .iconst 0, 1, 0, 0, 0), (101, .goto 11, 3, 112, 0, 0), (104, .bipush 100, 2, 100, 0, 0), (106, .iload 7, 2, 0, 0, 0), (108, .imul, 1, 0, 0, 0), (109, .iload 6, 2, 0, 0, 0), (111, .idiv, 1, 0, 0, 0), (112, .ireturn, 1, 0, 0, 0)]
/-- RenameMergeModel.often (III)I -/
def xtb_102 : List xI := [(0, .iconst 0, 1, 0, 0, 0), (1, .istore 4, 2, 0, 0, 0), (3, .iconst 0, 1, 0, 0, 0), (4, .istore 5, 2, 0, 0, 0), (6, .iload 5, 2, 0, 0, 0), (8, .aload_n 0, 1, 0, 0, 0), (9, .getfield 13, 3, 7, 4, 156), (12, .bipush 64, 2, 64, 0, 0), (14, .iload_n 1, 1, 0, 0, 0), (15, .imul, 1, 0, 0, 0), (16, .iload_n 2, 1, 0, 0, 0), (17, .iadd, 1, 0, 0, 0), (18, .iaload, 1, 0, 0, 0), (19, .if_icmp .ge 37, 3, 56, 0, 0), (22, .aload_n 0, 1, 0, 0, 0), (23, .getfield 16, 3, 7, 5, 157), (26, .iload_n 1, 1, 0, 0, 0), (27, .iload_n 2, 1, 0, 0, 0), (28, .invokestatic 45, 3, 93, 4, 168), (31, .iload 5, 2, 0, 0, 0), (33, .iadd, 1, 0, 0, 0), (34, .baload, 1, 1, 0, 0), (35, .iload_n 3, 1, 0, 0, 0), (36, .if_icmp .ne 10, 3, 46, 0, 0), (39, .iload 4, 2, 0, 0, 0), (41, .iconst 1, 1, 1, 0, 0), (42, .iadd, 1, 0, 0, 0), (43, .goto 5, 3, 48, 0, 0), (46, .iload 4, 2, 0, 0, 0), (48, .istore 4, 2, 0, 0, 0), (50, .iinc 5 1, 3, 1, 0, 0), (53, .goto (-47), 3, 6, 0, 0), (56, .iload 4, 2, 0, 0, 0), (58, .ireturn, 1, 0, 0, 0)]
/-- RenameMergeModel.merge ()I -/
def xtb_103 : List xI := [(0, .aload_n 0, 1, 0, 0, 0), (1, .iconst 1, 1, 1, 0, 0), (2, .putfield 65, 3, 7, 2, 171), (5, .iconst 0, 1, 0, 0, 0), (6, .istore_n 1, 1, 0, 0, 0), (7, .iload_n 1, 1, 0, 0, 0), (8, .bipush 64, 2, 64, 0, 0), (10, .if_icmp .ge 16, 3, 26, 0, 0), (13, .aload_n 0, 1, 0, 0, 0), (14, .getfield 32, 3, 7, 10, 162), (17, .iload_n 1, 1, 0, 0, 0), (18, .iconst 0, 1, 0, 0, 0), (19, .iastore, 1, 0, 0, 0), (20, .iinc 1 1, 3, 1, 0, 0), (23, .goto (-16), 3, 7, 0, 0), (26, .iconst 1, 1, 1, 0, 0), (27, .istore_n 1, 1, 0, 0, 0), (28, .iload_n 1, 1, 0, 0, 0), (29, .iconst 2, 1, 2, 0, 0), (30, .if_icmp .gt 47, 3, 77, 0, 0), (33, .aload_n 0, 1, 0, 0, 0), (34, .iload_n 1, 1, 0, 0, 0), (35, .invokevirtual 177, 3, 104, 2, 175), (38, .iconst 0, 1, 0, 0, 0), (39, .istore_n 2, 1, 0, 0, 0), (40, .iload_n 2, 1, 0, 0, 0), (41, .bipush 8, 2, 8, 0, 0), (43, .if_icmp .ge 28, 3, 71, 0, 0), (46, .aload_n 0, 1, 0, 0, 0), (47, .getfield 29, 3, 7, 9, 161), (50, .bipush 8, 2, 8, 0, 0), (52, .iload_n 1, 1, 0, 0, 0), (53, .iconst 1, 1, 1, 0, 0), (54, .isub, 1, 0, 0, 0), (55, .imul, 1, 0, 0, 0), (56, .iload_n 2, 1, 0, 0, 0), (57, .iadd, 1, 0, 0, 0), (58, .aload_n 0, 1, 0, 0, 0), (59, .iload_n 1, 1, 0, 0, 0), (60, .iload_n 2, 1, 0, 0, 0), (61, .invokevirtual 180, 3, 113, 2, 176), (64, .iastore, 1, 0, 0, 0), (65, .iinc 2 1, 3, 1, 0, 0), (68, .goto (-28), 3, 40, 0, 0), (71, .iinc 1 1, 3, 1, 0, 0), (74, .goto (-46), 3, 28, 0, 0), (77, .iconst 0, 1, 0, 0, 0), (78, .istore_n 1, 1, 0, 0, 0), (79, .iload_n 1, 1, 0, 0, 0), (80, .bipush 64, 2, 64, 0, 0), (82, .if_icmp .ge 21, 3, 103, 0, 0), (85, .aload_n 0, 1, 0, 0, 0), (86, .iconst 1, 1, 1, 0, 0), (87, .iload_n 1, 1, 0, 0, 0), (88, .invokevirtual 183, 3, 115, 2, 177), (91, .aload_n 0, 1, 0, 0, 0), (92, .iconst 2, 1, 2, 0, 0), (93, .iload_n 1, 1, 0, 0, 0), (94, .invokevirtual 183, 3, 115, 2, 177), (97, .iinc 1 1, 3, 1, 0, 0), (100, .goto (-21), 3, 79, 0, 0), (103, .aload_n 0, 1, 0, 0, 0), (104, .invokevirtual 186, 3, 117, 2, 178), (107, .iconst 0, 1, 0, 0, 0), (108, .istore_n 1, 1, 0, 0, 0), (109, .iload_n 1, 1, 0, 0, 0), (110, .bipush 64, 2, 64, 0, 0), (112, .if_icmp .ge 14, 3, 126, 0, 0), (115, .aload_n 0, 1, 0, 0, 0), (116, .iload_n 1, 1, 0, 0, 0), (117, .invokevirtual 189, 3, 118, 2, 179), (120, .iinc 1 1, 3, 1, 0, 0), (123, .goto (-14), 3, 109, 0, 0), (126, .iconst 0, 1, 0, 0, 0), (127, .istore_n 1, 1, 0, 0, 0), (128, .iconst 0, 1, 0, 0, 0), (129, .istore_n 2, 1, 0, 0, 0), (130, .iload_n 2, 1, 0, 0, 0), (131, .bipush 64, 2, 64, 0, 0), (133, .if_icmp .ge 31, 3, 164, 0, 0), (136, .aload_n 0, 1, 0, 0, 0), (137, .iload_n 2, 1, 0, 0, 0), (138, .invokevirtual 192, 3, 132, 2, 180), (141, .aload_n 0, 1, 0, 0, 0), (142, .getfield 32, 3, 7, 10, 162), (145, .iload_n 2, 1, 0, 0, 0), (146, .iaload, 1, 0, 0, 0), (147, .ifCond .eq 9, 3, 156, 0, 0), (150, .iload_n 1, 1, 0, 0, 0), (151, .iconst 1, 1, 1, 0, 0), (152, .iadd, 1, 0, 0, 0), (153, .goto 4, 3, 157, 0, 0), (156, .iload_n 1, 1, 0, 0, 0), (157, .istore_n 1, 1, 0, 0, 0), (158, .iinc 2 1, 3, 1, 0, 0), (161, .goto (-31), 3, 130, 0, 0), (164, .iload_n 1, 1, 0, 0, 0), (165, .ireturn, 1, 0, 0, 0)]
/-- RenameMergeModel.renames (I)V -/
def xtb_104 : List xI := [(0, .iconst 0, 1, 0, 0, 0), (1, .istore_n 2, 1, 0, 0, 0), (2, .iload_n 2, 1, 0, 0, 0), (3, .bipush 64, 2, 64, 0, 0), (5, .if_icmp .ge 37, 3, 42, 0, 0), (8, .aload_n 0, 1, 0, 0, 0), (9, .getfield 20, 3, 7, 6, 158), (12, .bipush 64, 2, 64, 0, 0), (14, .iload_n 1, 1, 0, 0, 0), (15, .iconst 1, 1, 1, 0, 0), (16, .isub, 1, 0, 0, 0), (17, .imul, 1, 0, 0, 0), (18, .iload_n 2, 1, 0, 0, 0), (19, .iadd, 1, 0, 0, 0), (20, .iconst (-1), 1, 1, 1, 0), (21, .iastore, 1, 0, 0, 0), (22, .aload_n 0, 1, 0, 0, 0), (23, .getfield 23, 3, 7, 7, 159), (26, .bipush 64, 2, 64, 0, 0), (28, .iload_n 1, 1, 0, 0, 0), (29, .iconst 1, 1, 1, 0, 0), (30, .isub, 1, 0, 0, 0), (31, .imul, 1, 0, 0, 0), (32, .iload_n 2, 1, 0, 0, 0), (33, .iadd, 1, 0, 0, 0), (34, .iconst (-1), 1, 1, 1, 0), (35, .iastore, 1, 0, 0, 0), (36, .iinc 2 1, 3, 1, 0, 0), (39, .goto (-37), 3, 2, 0, 0), (42, .aload_n 0, 1, 0, 0, 0), (43, .iload_n 1, 1, 0, 0, 0), (44, .invokevirtual 96, 3, 105, 2, 181), (47, .aload_n 0, 1, 0, 0, 0), (48, .iload_n 1, 1, 0, 0, 0), (49, .invokevirtual 100, 3, 110, 2, 182), (52, .aload_n 0, 1, 0, 0, 0), (53, .iload_n 1, 1, 0, 0, 0), (54, .iconst 1, 1, 1, 0, 0), (55, .invokevirtual 103, 3, 111, 2, 183), (58, .aload_n 0, 1, 0, 0, 0), (59, .iload_n 1, 1, 0, 0, 0), (60, .iconst 0, 1, 0, 0, 0), (61, .invokevirtual 103, 3, 111, 2, 183), (64, .imul, 1, 0, 0, 0), (65, .bipush 20, 2, 20, 0, 0), (67, .if_icmp .le 4, 3, 71, 0, 0), (70, .return_, 1, 0, 0, 0), (71, .iconst 0, 1, 0, 0, 0), (72, .istore_n 2, 1, 0, 0, 0), (73, .iload_n 2, 1, 0, 0, 0), (74, .bipush 8, 2, 8, 0, 0), (76, .if_icmp .ge 32, 3, 108, 0, 0), (79, .aload_n 0, 1, 0, 0, 0), (80, .iload_n 1, 1, 0, 0, 0), (81, .invokevirtual 107, 3, 112, 2, 184), (84, .istore_n 3, 1, 0, 0, 0), (85, .iload_n 3, 1, 0, 0, 0), (86, .ifCond .lt 16, 3, 102, 0, 0), (89, .aload_n 0, 1, 0, 0, 0), (90, .iload_n 1, 1, 0, 0, 0), (91, .iload_n 3, 1, 0, 0, 0), (92, .bipush 64, 2, 64, 0, 0), (94, .idiv, 1, 0, 0, 0), (95, .iload_n 3, 1, 0, 0, 0), (96, .bipush 64, 2, 64, 0, 0), (98, .irem, 1, 0, 0, 0), (99, .invokevirtual 89, 3, 109, 2, 185), (102, .iinc 2 1, 3, 1, 0, 0), (105, .goto (-32), 3, 73, 0, 0), (108, .return_, 1, 0, 0, 0)]
/-- RenameMergeModel.exact (I)V -/
def xtb_105 : List xI := [(0, .iconst 0, 1, 0, 0, 0), (1, .istore_n 2, 1, 0, 0, 0), (2, .iload_n 2, 1, 0, 0, 0), (3, .bipush 64, 2, 64, 0, 0), (5, .if_icmp .ge 104, 3, 109, 0, 0), (8, .iconst (-1), 1, 1, 1, 0), (9, .istore_n 3, 1, 0, 0, 0), (10, .iconst (-1), 1, 1, 1, 0), (11, .istore 4, 2, 0, 0, 0), (13, .bipush 63, 2, 63, 0, 0), (15, .istore 5, 2, 0, 0, 0), (17, .iload 5, 2, 0, 0, 0), (19, .ifCond .lt 63, 3, 82, 0, 0), (22, .aload_n 0, 1, 0, 0, 0), (23, .iload_n 1, 1, 0, 0, 0), (24, .iload_n 2, 1, 0, 0, 0), (25, .invokevirtual 79, 3, 106, 2, 186), (28, .ifCond .eq 54, 3, 82, 0, 0), (31, .aload_n 0, 1, 0, 0, 0), (32, .iload_n 1, 1, 0, 0, 0), (33, .iload 5, 2, 0, 0, 0), (35, .invokevirtual 82, 3, 107, 2, 187), (38, .ifCond .eq 38, 3, 76, 0, 0), (41, .aload_n 0, 1, 0, 0, 0), (42, .iconst 0, 1, 0, 0, 0), (43, .iload 5, 2, 0, 0, 0), (45, .iload_n 1, 1, 0, 0, 0), (46, .iload_n 2, 1, 0, 0, 0), (47, .invokevirtual 85, 3, 108, 2, 188), (50, .ifCond .eq 26, 3, 76, 0, 0), (53, .iload 5, 2, 0, 0, 0), (55, .istore 4, 2, 0, 0, 0), (57, .iload 5, 2, 0, 0, 0), (59, .bipush 8, 2, 8, 0, 0), (61, .irem, 1, 0, 0, 0), (62, .iload_n 2, 1, 0, 0, 0), (63, .bipush 8, 2, 8, 0, 0), (65, .irem, 1, 0, 0, 0), (66, .if_icmp .ne 8, 3, 74, 0, 0), (69, .iload 5, 2, 0, 0, 0), (71, .goto 4, 3, 75, 0, 0), (74, .iload_n 3, 1, 0, 0, 0), (75, .istore_n 3, 1, 0, 0, 0), (76, .iinc 5 (-1), 3, 1, 1, 0), (79, .goto (-62), 3, 17, 0, 0), (82, .iload 4, 2, 0, 0, 0), (84, .ifCond .lt 19, 3, 103, 0, 0), (87, .aload_n 0, 1, 0, 0, 0), (88, .iload_n 1, 1, 0, 0, 0), (89, .iload_n 3, 1, 0, 0, 0), (90, .ifCond .lt 7, 3, 97, 0, 0), (93, .iload_n 3, 1, 0, 0, 0), (94, .goto 5, 3, 99, 0, 0), (97, .iload 4, 2, 0, 0, 0), (99, .iload_n 2, 1, 0, 0, 0), (100, .invokevirtual 89, 3, 109, 2, 185), (103, .iinc 2 1, 3, 1, 0, 0), (106, .goto (-104), 3, 2, 0, 0), (109, .return_, 1, 0, 0, 0)]
/-- RenameMergeModel.targetLeft (II)Z -/
def xtb_106 : List xI := [(0, .aload_n 0, 1, 0, 0, 0), (1, .iload_n 1, 1, 0, 0, 0), (2, .iload_n 2, 1, 0, 0, 0), (3, .invokevirtual 49, 3, 91, 2, 166), (6, .ifCond .eq 32, 3, 38, 0, 0), (9, .aload_n 0, 1, 0, 0, 0), (10, .iconst 0, 1, 0, 0, 0), (11, .iload_n 2, 1, 0, 0, 0), (12, .invokevirtual 49, 3, 91, 2, 166), (15, .ifCond .ne 23, 3, 38, 0, 0), (18, .aload_n 0, 1, 0, 0, 0), (19, .getfield 23, 3, 7, 7, 159), (22, .bipush 64, 2, 64, 0, 0), (24, .iload_n 1, 1, 0, 0, 0), (25, .iconst 1, 1, 1, 0, 0), (26, .isub, 1, 0, 0, 0), (27, .imul, 1, 0, 0, 0), (28, .iload_n 2, 1, 0, 0, 0), (29, .iadd, 1, 0, 0, 0), (30, .iaload, 1, 0, 0, 0), (31, .ifCond .ge 7, 3, 38, 0, 0), (34, .iconst 1, 1, 1, 0, 0), (35, .goto 4, 3, 39, 0, 0), (38, .iconst 0, 1, 0, 0, 0), (39, .ireturn, 1, 1, 0, 0)]
/-- RenameMergeModel.sourceLeft (II)Z -/
def xtb_107 : List xI := [(0, .aload_n 0, 1, 0, 0, 0), (1, .iconst 0, 1, 0, 0, 0), (2, .iload_n 2, 1, 0, 0, 0), (3, .invokevirtual 49, 3, 91, 2, 166), (6, .ifCond .eq 32, 3, 38, 0, 0), (9, .aload_n 0, 1, 0, 0, 0), (10, .iload_n 1, 1, 0, 0, 0), (11, .iload_n 2, 1, 0, 0, 0), (12, .invokevirtual 49, 3, 91, 2, 166), (15, .ifCond .ne 23, 3, 38, 0, 0), (18, .aload_n 0, 1, 0, 0, 0), (19, .getfield 20, 3, 7, 6, 158), (22, .bipush 64, 2, 64, 0, 0), (24, .iload_n 1, 1, 0, 0, 0), (25, .iconst 1, 1, 1, 0, 0), (26, .isub, 1, 0, 0, 0), (27, .imul, 1, 0, 0, 0), (28, .iload_n 2, 1, 0, 0, 0), (29, .iadd, 1, 0, 0, 0), (30, .iaload, 1, 0, 0, 0), (31, .ifCond .ge 7, 3, 38, 0, 0), (34, .iconst 1, 1, 1, 0, 0), (35, .goto 4, 3, 39, 0, 0), (38, .iconst 0, 1, 0, 0, 0), (39, .ireturn, 1, 1, 0, 0)]
/-- RenameMergeModel.alike (IIII)Z -/
def xtb_108 : List xI := [(0, .bipush 64, 2, 64, 0, 0), (2, .iload_n 1, 1, 0, 0, 0), (3, .imul, 1, 0, 0, 0), (4, .iload_n 2, 1, 0, 0, 0), (5, .iadd, 1, 0, 0, 0), (6, .istore 5, 2, 0, 0, 0), (8, .bipush 64, 2, 64, 0, 0), (10, .iload_n 3, 1, 0, 0, 0), (11, .imul, 1, 0, 0, 0), (12, .iload 4, 2, 0, 0, 0), (14, .iadd, 1, 0, 0, 0), (15, .istore 6, 2, 0, 0, 0), (17, .aload_n 0, 1, 0, 0, 0), (18, .getfield 7, 3, 7, 3, 155), (21, .iload 5, 2, 0, 0, 0), (23, .iaload, 1, 0, 0, 0), (24, .aload_n 0, 1, 0, 0, 0), (25, .getfield 7, 3, 7, 3, 155), (28, .iload 6, 2, 0, 0, 0), (30, .iaload, 1, 0, 0, 0), (31, .if_icmp .ne 30, 3, 61, 0, 0), (34, .aload_n 0, 1, 0, 0, 0), (35, .getfield 7, 3, 7, 3, 155), (38, .iload 5, 2, 0, 0, 0), (40, .iaload, 1, 0, 0, 0), (41, .ifCond .eq 22, 3, 63, 0, 0), (44, .aload_n 0, 1, 0, 0, 0), (45, .getfield 13, 3, 7, 4, 156), (48, .iload 5, 2, 0, 0, 0), (50, .iaload, 1, 0, 0, 0), (51, .aload_n 0, 1, 0, 0, 0), (52, .getfield 13, 3, 7, 4, 156), (55, .iload 6, 2, 0, 0, 0), (57, .iaload, 1, 0, 0, 0), (58, .if_icmp .eq 5, 3, 63, 0, 0), (61, .iconst 0, 1, 0, 0, 0), (62, .ireturn, 1, 1, 0, 0), (63, .iconst 0, 1, 0, 0, 0), (64, .istore 7, 2, 0, 0, 0), (66, .aload_n 0, 1, 0, 0, 0), (67, .getfield 7, 3, 7, 3, 155), (70, .iload 5, 2, 0, 0, 0), (72, .iaload, 1, 0, 0, 0), (73, .ifCond .eq 53, 3, 126, 0, 0), (76, .iload 7, 2, 0, 0, 0), (78, .aload_n 0, 1, 0, 0, 0), (79, .getfield 13, 3, 7, 4, 156), (82, .iload 5, 2, 0, 0, 0), (84, .iaload, 1, 0, 0, 0), (85, .if_icmp .ge 41, 3, 126, 0, 0), (88, .aload_n 0, 1, 0, 0, 0), (89, .getfield 16, 3, 7, 5, 157), (92, .iload_n 1, 1, 0, 0, 0), (93, .iload_n 2, 1, 0, 0, 0), (94, .invokestatic 45, 3, 93, 4, 168), (97, .iload 7, 2, 0, 0, 0), (99, .iadd, 1, 0, 0, 0), (100, .baload, 1, 1, 0, 0), (101, .aload_n 0, 1, 0, 0, 0), (102, .getfield 16, 3, 7, 5, 157), (105, .iload_n 3, 1, 0, 0, 0), (106, .iload 4, 2, 0, 0, 0), (108, .invokestatic 45, 3, 93, 4, 168), (111, .iload 7, 2, 0, 0, 0), (113, .iadd, 1, 0, 0, 0), (114, .baload, 1, 1, 0, 0), (115, .if_icmp .eq 5, 3, 120, 0, 0), (118, .iconst 0, 1, 0, 0, 0), (119, .ireturn, 1, 1, 0, 0), (120, .iinc 7 1, 3, 1, 0, 0), (123, .goto (-57), 3, 66, 0, 0), (126, .iconst 1, 1, 1, 0, 0), (127, .ireturn, 1, 1, 0, 0)]
/-- RenameMergeModel.join (III)V -/
def xtb_109 : List xI := [(0, .aload_n 0, 1, 0, 0, 0), (1, .getfield 20, 3, 7, 6, 158), (4, .bipush 64, 2, 64, 0, 0), (6, .iload_n 1, 1, 0, 0, 0), (7, .iconst 1, 1, 1, 0, 0), (8, .isub, 1, 0, 0, 0), (9, .imul, 1, 0, 0, 0), (10, .iload_n 2, 1, 0, 0, 0), (11, .iadd, 1, 0, 0, 0), (12, .iload_n 3, 1, 0, 0, 0), (13, .iastore, 1, 0, 0, 0), (14, .aload_n 0, 1, 0, 0, 0), (15, .getfield 23, 3, 7, 7, 159), (18, .bipush 64, 2, 64, 0, 0), (20, .iload_n 1, 1, 0, 0, 0), (21, .iconst 1, 1, 1, 0, 0), (22, .isub, 1, 0, 0, 0), (23, .imul, 1, 0, 0, 0), (24, .iload_n 3, 1, 0, 0, 0), (25, .iadd, 1, 0, 0, 0), (26, .iload_n 2, 1, 0, 0, 0), (27, .iastore, 1, 0, 0, 0), (28, .return_, 1, 0, 0, 0)]
/-- RenameMergeModel.names (I)V -/
def xtb_110 : List xI := [(0, .iconst 0, 1, 0, 0, 0), (1, .istore_n 2, 1, 0, 0, 0), (2, .iload_n 2, 1, 0, 0, 0), (3, .bipush 8, 2, 8, 0, 0), (5, .if_icmp .ge 109, 3, 114, 0, 0), (8, .iconst (-1), 1, 1, 1, 0), (9, .istore_n 3, 1, 0, 0, 0), (10, .iconst (-1), 1, 1, 1, 0), (11, .istore 4, 2, 0, 0, 0), (13, .iconst 0, 1, 0, 0, 0), (14, .istore 5, 2, 0, 0, 0), (16, .iconst 0, 1, 0, 0, 0), (17, .istore 6, 2, 0, 0, 0), (19, .iload_n 2, 1, 0, 0, 0), (20, .istore 7, 2, 0, 0, 0), (22, .iload 7, 2, 0, 0, 0), (24, .bipush 64, 2, 64, 0, 0), (26, .if_icmp .ge 42, 3, 68, 0, 0), (29, .aload_n 0, 1, 0, 0, 0), (30, .iload_n 1, 1, 0, 0, 0), (31, .iload 7, 2, 0, 0, 0), (33, .invokevirtual 82, 3, 107, 2, 187), (36, .ifCond .eq 9, 3, 45, 0, 0), (39, .iload 7, 2, 0, 0, 0), (41, .istore_n 3, 1, 0, 0, 0), (42, .iinc 5 1, 3, 1, 0, 0), (45, .aload_n 0, 1, 0, 0, 0), (46, .iload_n 1, 1, 0, 0, 0), (47, .iload 7, 2, 0, 0, 0), (49, .invokevirtual 79, 3, 106, 2, 186), (52, .ifCond .eq 10, 3, 62, 0, 0), (55, .iload 7, 2, 0, 0, 0), (57, .istore 4, 2, 0, 0, 0), (59, .iinc 6 1, 3, 1, 0, 0), (62, .iinc 7 8, 3, 8, 0, 0), (65, .goto (-43), 3, 22, 0, 0), (68, .iload 5, 2, 0, 0, 0), (70, .iconst 1, 1, 1, 0, 0), (71, .if_icmp .ne 37, 3, 108, 0, 0), (74, .iload 6, 2, 0, 0, 0), (76, .iconst 1, 1, 1, 0, 0), (77, .if_icmp .ne 31, 3, 108, 0, 0), (80, .aload_n 0, 1, 0, 0, 0), (81, .iload_n 1, 1, 0, 0, 0), (82, .iload_n 3, 1, 0, 0, 0), (83, .iload 4, 2, 0, 0, 0), (85, .invokevirtual 93, 3, 100, 2, 189), (88, .bipush 101, 2, 101, 0, 0), (90, .aload_n 0, 1, 0, 0, 0), (91, .getfield 41, 3, 7, 0, 165), (94, .iadd, 1, 0, 0, 0), (95, .iconst 2, 1, 2, 0, 0), (96, .idiv, 1, 0, 0, 0), (97, .if_icmp .lt 11, 3, 108, 0, 0), (100, .aload_n 0, 1, 0, 0, 0), (101, .iload_n 1, 1, 0, 0, 0), (102, .iload_n 3, 1, 0, 0, 0), (103, .iload 4, 2, 0, 0, 0), (105, .invokevirtual 89, 3, 109, 2, 185), (108, .iinc 2 1, 3, 1, 0, 0), (111, .goto (-109), 3, 2, 0, 0), (114, .return_, 1, 0, 0, 0)]
/-- RenameMergeModel.lefts (IZ)I -/
def xtb_111 : List xI := [(0, .iconst 0, 1, 0, 0, 0), (1, .istore_n 3, 1, 0, 0, 0), (2, .iconst 0, 1, 0, 0, 0), (3, .istore 4, 2, 0, 0, 0), (5, .iload 4, 2, 0, 0, 0), (7, .bipush 64, 2, 64, 0, 0), (9, .if_icmp .ge 44, 3, 53, 0, 0), (12, .iload_n 2, 1, 0, 0, 0), (13, .ifCond .eq 16, 3, 29, 0, 0), (16, .aload_n 0, 1, 0, 0, 0), (17, .iload_n 1, 1, 0, 0, 0), (18, .iload 4, 2, 0, 0, 0), (20, .invokevirtual 82, 3, 107, 2, 187), (23, .ifCond .eq 22, 3, 45, 0, 0), (26, .goto 13, 3, 39, 0, 0), (29, .aload_n 0, 1, 0, 0, 0), (30, .iload_n 1, 1, 0, 0, 0), (31, .iload 4, 2, 0, 0, 0), (33, .invokevirtual 79, 3, 106, 2, 186), (36, .ifCond .eq 9, 3, 45, 0, 0), (39, .iload_n 3, 1, 0, 0, 0), (40, .iconst 1, 1, 1, 0, 0), (41, .iadd, 1, 0, 0, 0), (42, .goto 4, 3, 46, 0, 0), (45, .iload_n 3, 1, 0, 0, 0), (46, .istore_n 3, 1, 0, 0, 0), (47, .iinc 4 1, 3, 1, 0, 0), (50, .goto (-45), 3, 5, 0, 0), (53, .iload_n 3, 1, 0, 0, 0), (54, .ireturn, 1, 0, 0, 0)]
/-- RenameMergeModel.bestLeft (I)I -/
def xtb_112 : List xI := [(0, .iconst (-1), 1, 1, 1, 0), (1, .istore_n 2, 1, 0, 0, 0), (2, .iconst (-1), 1, 1, 1, 0), (3, .istore_n 3, 1, 0, 0, 0), (4, .iconst 0, 1, 0, 0, 0), (5, .istore 4, 2, 0, 0, 0), (7, .iload 4, 2, 0, 0, 0), (9, .bipush 64, 2, 64, 0, 0), (11, .if_icmp .ge 112, 3, 123, 0, 0), (14, .iconst 0, 1, 0, 0, 0), (15, .istore 5, 2, 0, 0, 0), (17, .iload 5, 2, 0, 0, 0), (19, .bipush 64, 2, 64, 0, 0), (21, .if_icmp .ge 96, 3, 117, 0, 0), (24, .aload_n 0, 1, 0, 0, 0), (25, .iload_n 1, 1, 0, 0, 0), (26, .iload 4, 2, 0, 0, 0), (28, .invokevirtual 82, 3, 107, 2, 187), (31, .ifCond .eq 86, 3, 117, 0, 0), (34, .aload_n 0, 1, 0, 0, 0), (35, .iload_n 1, 1, 0, 0, 0), (36, .iload 5, 2, 0, 0, 0), (38, .invokevirtual 79, 3, 106, 2, 186), (41, .ifCond .eq 15, 3, 56, 0, 0), (44, .aload_n 0, 1, 0, 0, 0), (45, .iload_n 1, 1, 0, 0, 0), (46, .iload 4, 2, 0, 0, 0), (48, .iload 5, 2, 0, 0, 0), (50, .invokevirtual 93, 3, 100, 2, 189), (53, .goto 4, 3, 57, 0, 0), (56, .iconst (-1), 1, 1, 1, 0), (57, .istore 6, 2, 0, 0, 0), (59, .iconst 2, 1, 2, 0, 0), (60, .iload 6, 2, 0, 0, 0), (62, .imul, 1, 0, 0, 0), (63, .iload 4, 2, 0, 0, 0), (65, .bipush 8, 2, 8, 0, 0), (67, .irem, 1, 0, 0, 0), (68, .iload 5, 2, 0, 0, 0), (70, .bipush 8, 2, 8, 0, 0), (72, .irem, 1, 0, 0, 0), (73, .if_icmp .ne 7, 3, 80, 0, 0), (76, .iconst 1, 1, 1, 0, 0), (77, .goto 4, 3, 81, 0, 0), (80, .iconst 0, 1, 0, 0, 0), (81, .iadd, 1, 0, 0, 0), (82, .istore 7, 2, 0, 0, 0), (84, .iload 6, 2, 0, 0, 0), (86, .aload_n 0, 1, 0, 0, 0), (87, .getfield 41, 3, 7, 0, 165), (90, .if_icmp .lt 21, 3, 111, 0, 0), (93, .iload 7, 2, 0, 0, 0), (95, .iload_n 3, 1, 0, 0, 0), (96, .if_icmp .le 15, 3, 111, 0, 0), (99, .iload 7, 2, 0, 0, 0), (101, .istore_n 3, 1, 0, 0, 0), (102, .bipush 64, 2, 64, 0, 0), (104, .iload 4, 2, 0, 0, 0), (106, .imul, 1, 0, 0, 0), (107, .iload 5, 2, 0, 0, 0), (109, .iadd, 1, 0, 0, 0), (110, .istore_n 2, 1, 0, 0, 0), (111, .iinc 5 1, 3, 1, 0, 0), (114, .goto (-97), 3, 17, 0, 0), (117, .iinc 4 1, 3, 1, 0, 0), (120, .goto (-113), 3, 7, 0, 0), (123, .iload_n 2, 1, 0, 0, 0), (124, .ireturn, 1, 0, 0, 0)]
/-- RenameMergeModel.newPlaceOf (II)I -/
def xtb_113 : List xI := [(0, .bipush 8, 2, 8, 0, 0), (2, .iload_n 2, 1, 0, 0, 0), (3, .imul, 1, 0, 0, 0), (4, .istore_n 3, 1, 0, 0, 0), (5, .iload_n 3, 1, 0, 0, 0), (6, .bipush 8, 2, 8, 0, 0), (8, .iload_n 2, 1, 0, 0, 0), (9, .imul, 1, 0, 0, 0), (10, .bipush 8, 2, 8, 0, 0), (12, .iadd, 1, 0, 0, 0), (13, .if_icmp .ge 20, 3, 33, 0, 0), (16, .aload_n 0, 1, 0, 0, 0), (17, .iload_n 1, 1, 0, 0, 0), (18, .iload_n 3, 1, 0, 0, 0), (19, .invokevirtual 49, 3, 91, 2, 166), (22, .ifCond .eq 5, 3, 27, 0, 0), (25, .iconst (-1), 1, 1, 1, 0), (26, .ireturn, 1, 0, 0, 0), (27, .iinc 3 1, 3, 1, 0, 0), (30, .goto (-25), 3, 5, 0, 0), (33, .iconst 0, 1, 0, 0, 0), (34, .istore_n 3, 1, 0, 0, 0), (35, .iconst (-1), 1, 1, 1, 0), (36, .istore 4, 2, 0, 0, 0), (38, .iconst 0, 1, 0, 0, 0), (39, .istore 5, 2, 0, 0, 0), (41, .iload 5, 2, 0, 0, 0), (43, .bipush 8, 2, 8, 0, 0), (45, .if_icmp .ge 63, 3, 108, 0, 0), (48, .aload_n 0, 1, 0, 0, 0), (49, .iload_n 1, 1, 0, 0, 0), (50, .iload_n 2, 1, 0, 0, 0), (51, .iload 5, 2, 0, 0, 0), (53, .invokevirtual 110, 3, 114, 2, 190), (56, .istore 6, 2, 0, 0, 0), (58, .iload 6, 2, 0, 0, 0), (60, .iload_n 3, 1, 0, 0, 0), (61, .if_icmp .le 8, 3, 69, 0, 0), (64, .iload 5, 2, 0, 0, 0), (66, .goto 21, 3, 87, 0, 0), (69, .iload 6, 2, 0, 0, 0), (71, .iload_n 3, 1, 0, 0, 0), (72, .if_icmp .ne 13, 3, 85, 0, 0), (75, .iload 6, 2, 0, 0, 0), (77, .ifCond .le 8, 3, 85, 0, 0), (80, .bipush (-2), 2, 2, 1, 0), (82, .goto 5, 3, 87, 0, 0), (85, .iload 4, 2, 0, 0, 0), (87, .istore 4, 2, 0, 0, 0), (89, .iload 6, 2, 0, 0, 0), (91, .iload_n 3, 1, 0, 0, 0), (92, .if_icmp .le 8, 3, 100, 0, 0), (95, .iload 6, 2, 0, 0, 0), (97, .goto 4, 3, 101, 0, 0), (100, .iload_n 3, 1, 0, 0, 0), (101, .istore_n 3, 1, 0, 0, 0), (102, .iinc 5 1, 3, 1, 0, 0), (105, .goto (-64), 3, 41, 0, 0), (108, .iload 4, 2, 0, 0, 0), (110, .ireturn, 1, 0, 0, 0)]
/-- RenameMergeModel.moved (III)I -/
def xtb_114 : List xI := [(0, .iconst 0, 1, 0, 0, 0), (1, .istore 4, 2, 0, 0, 0), (3, .bipush 8, 2, 8, 0, 0), (5, .iload_n 2, 1, 0, 0, 0), (6, .imul, 1, 0, 0, 0), (7, .istore 5, 2, 0, 0, 0), (9, .iload 5, 2, 0, 0, 0), (11, .bipush 8, 2, 8, 0, 0), (13, .iload_n 2, 1, 0, 0, 0), (14, .imul, 1, 0, 0, 0), (15, .bipush 8, 2, 8, 0, 0), (17, .iadd, 1, 0, 0, 0), (18, .if_icmp .ge 50, 3, 68, 0, 0), (21, .aload_n 0, 1, 0, 0, 0), (22, .getfield 20, 3, 7, 6, 158), (25, .bipush 64, 2, 64, 0, 0), (27, .iload_n 1, 1, 0, 0, 0), (28, .iconst 1, 1, 1, 0, 0), (29, .isub, 1, 0, 0, 0), (30, .imul, 1, 0, 0, 0), (31, .iload 5, 2, 0, 0, 0), (33, .iadd, 1, 0, 0, 0), (34, .iaload, 1, 0, 0, 0), (35, .istore 6, 2, 0, 0, 0), (37, .iload 6, 2, 0, 0, 0), (39, .ifCond .lt 19, 3, 58, 0, 0), (42, .iload 6, 2, 0, 0, 0), (44, .bipush 8, 2, 8, 0, 0), (46, .idiv, 1, 0, 0, 0), (47, .iload_n 3, 1, 0, 0, 0), (48, .if_icmp .ne 10, 3, 58, 0, 0), (51, .iload 4, 2, 0, 0, 0), (53, .iconst 1, 1, 1, 0, 0), (54, .iadd, 1, 0, 0, 0), (55, .goto 5, 3, 60, 0, 0), (58, .iload 4, 2, 0, 0, 0), (60, .istore 4, 2, 0, 0, 0), (62, .iinc 5 1, 3, 1, 0, 0), (65, .goto (-56), 3, 9, 0, 0), (68, .iload 4, 2, 0, 0, 0), (70, .ireturn, 1, 0, 0, 0)]
/-- RenameMergeModel.settle (II)V -/
def xtb_115 : List xI := [(0, .iload_n 2, 1, 0, 0, 0), (1, .istore_n 3, 1, 0, 0, 0), (2, .aload_n 0, 1, 0, 0, 0), (3, .iload_n 1, 1, 0, 0, 0), (4, .iload_n 2, 1, 0, 0, 0), (5, .invokevirtual 113, 3, 116, 2, 191), (8, .istore 4, 2, 0, 0, 0), (10, .aload_n 0, 1, 0, 0, 0), (11, .iload_n 1, 1, 0, 0, 0), (12, .iload_n 2, 1, 0, 0, 0), (13, .invokevirtual 49, 3, 91, 2, 166), (16, .ifCond .eq 37, 3, 53, 0, 0), (19, .aload_n 0, 1, 0, 0, 0), (20, .iconst 0, 1, 0, 0, 0), (21, .iload_n 2, 1, 0, 0, 0), (22, .invokevirtual 49, 3, 91, 2, 166), (25, .ifCond .ne 28, 3, 53, 0, 0), (28, .aload_n 0, 1, 0, 0, 0), (29, .getfield 29, 3, 7, 9, 161), (32, .bipush 8, 2, 8, 0, 0), (34, .iconst 2, 1, 2, 0, 0), (35, .iload_n 1, 1, 0, 0, 0), (36, .isub, 1, 0, 0, 0), (37, .imul, 1, 0, 0, 0), (38, .iload_n 2, 1, 0, 0, 0), (39, .bipush 8, 2, 8, 0, 0), (41, .idiv, 1, 0, 0, 0), (42, .iadd, 1, 0, 0, 0), (43, .iaload, 1, 0, 0, 0), (44, .bipush (-2), 2, 2, 1, 0), (46, .if_icmp .ne 7, 3, 53, 0, 0), (49, .iconst 1, 1, 1, 0, 0), (50, .goto 4, 3, 54, 0, 0), (53, .iconst 0, 1, 0, 0, 0), (54, .istore 5, 2, 0, 0, 0), (56, .iload 4, 2, 0, 0, 0), (58, .ifCond .lt 37, 3, 95, 0, 0), (61, .aload_n 0, 1, 0, 0, 0), (62, .iconst 0, 1, 0, 0, 0), (63, .iload 4, 2, 0, 0, 0), (65, .invokevirtual 49, 3, 91, 2, 166), (68, .ifCond .ne 23, 3, 91, 0, 0), (71, .aload_n 0, 1, 0, 0, 0), (72, .iconst 1, 1, 1, 0, 0), (73, .iload 4, 2, 0, 0, 0), (75, .invokevirtual 49, 3, 91, 2, 166), (78, .ifCond .ne 13, 3, 91, 0, 0), (81, .aload_n 0, 1, 0, 0, 0), (82, .iconst 2, 1, 2, 0, 0), (83, .iload 4, 2, 0, 0, 0), (85, .invokevirtual 49, 3, 91, 2, 166), (88, .ifCond .eq 7, 3, 95, 0, 0), (91, .iconst 1, 1, 1, 0, 0), (92, .goto 4, 3, 96, 0, 0), (95, .iconst 0, 1, 0, 0, 0), (96, .istore 6, 2, 0, 0, 0), (98, .iconst 0, 1, 0, 0, 0), (99, .istore 7, 2, 0, 0, 0), (101, .iload 7, 2, 0, 0, 0), (103, .bipush 64, 2, 64, 0, 0), (105, .if_icmp .ge 44, 3, 149, 0, 0), (108, .iload 6, 2, 0, 0, 0), (110, .ifCond .ne 26, 3, 136, 0, 0), (113, .iload 4, 2, 0, 0, 0), (115, .ifCond .lt 25, 3, 140, 0, 0), (118, .iload 7, 2, 0, 0, 0), (120, .iload_n 2, 1, 0, 0, 0), (121, .if_icmp .eq 19, 3, 140, 0, 0), (124, .aload_n 0, 1, 0, 0, 0), (125, .iload_n 1, 1, 0, 0, 0), (126, .iload 7, 2, 0, 0, 0), (128, .invokevirtual 113, 3, 116, 2, 191), (131, .iload 4, 2, 0, 0, 0), (133, .if_icmp .ne 7, 3, 140, 0, 0), (136, .iconst 1, 1, 1, 0, 0), (137, .goto 4, 3, 141, 0, 0), (140, .iconst 0, 1, 0, 0, 0), (141, .istore 6, 2, 0, 0, 0), (143, .iinc 7 1, 3, 1, 0, 0), (146, .goto (-45), 3, 101, 0, 0), (149, .iload 5, 2, 0, 0, 0), (151, .ifCond .ne 8, 3, 159, 0, 0), (154, .iload 6, 2, 0, 0, 0), (156, .ifCond .eq 18, 3, 174, 0, 0), (159, .aload_n 0, 1, 0, 0, 0), (160, .getfield 32, 3, 7, 10, 162), (163, .iload_n 2, 1, 0, 0, 0), (164, .dup2, 1, 0, 0, 0), (165, .iaload, 1, 0, 0, 0), (166, .sipush 128, 3, 128, 0, 0), (169, .ior, 1, 0, 0, 0), (170, .iastore, 1, 0, 0, 0), (171, .goto 11, 3, 182, 0, 0), (174, .iload 4, 2, 0, 0, 0), (176, .ifCond .lt 6, 3, 182, 0, 0), (179, .iload 4, 2, 0, 0, 0), (181, .istore_n 3, 1, 0, 0, 0), (182, .aload_n 0, 1, 0, 0, 0), (183, .getfield 26, 3, 7, 8, 160), (186, .bipush 64, 2, 64, 0, 0), (188, .iload_n 1, 1, 0, 0, 0), (189, .iconst 1, 1, 1, 0, 0), (190, .isub, 1, 0, 0, 0), (191, .imul, 1, 0, 0, 0), (192, .iload_n 2, 1, 0, 0, 0), (193, .iadd, 1, 0, 0, 0), (194, .aload_n 0, 1, 0, 0, 0), (195, .iload_n 1, 1, 0, 0, 0), (196, .iload_n 2, 1, 0, 0, 0), (197, .invokevirtual 49, 3, 91, 2, 166), (200, .ifCond .eq 7, 3, 207, 0, 0), (203, .iload_n 3, 1, 0, 0, 0), (204, .goto 4, 3, 208, 0, 0), (207, .iconst (-1), 1, 1, 1, 0), (208, .iastore, 1, 0, 0, 0), (209, .return_, 1, 0, 0, 0)]
/-- RenameMergeModel.wanted (II)I -/
def xtb_116 : List xI := [(0, .aload_n 0, 1, 0, 0, 0), (1, .iload_n 1, 1, 0, 0, 0), (2, .iload_n 2, 1, 0, 0, 0), (3, .invokevirtual 49, 3, 91, 2, 166), (6, .ifCond .eq 12, 3, 18, 0, 0), (9, .aload_n 0, 1, 0, 0, 0), (10, .iconst 0, 1, 0, 0, 0), (11, .iload_n 2, 1, 0, 0, 0), (12, .invokevirtual 49, 3, 91, 2, 166), (15, .ifCond .eq 5, 3, 20, 0, 0), (18, .iconst (-1), 1, 1, 1, 0), (19, .ireturn, 1, 0, 0, 0), (20, .aload_n 0, 1, 0, 0, 0), (21, .getfield 29, 3, 7, 9, 161), (24, .bipush 8, 2, 8, 0, 0), (26, .iconst 2, 1, 2, 0, 0), (27, .iload_n 1, 1, 0, 0, 0), (28, .isub, 1, 0, 0, 0), (29, .imul, 1, 0, 0, 0), (30, .iload_n 2, 1, 0, 0, 0), (31, .bipush 8, 2, 8, 0, 0), (33, .idiv, 1, 0, 0, 0), (34, .iadd, 1, 0, 0, 0), (35, .iaload, 1, 0, 0, 0), (36, .istore_n 3, 1, 0, 0, 0), (37, .iload_n 3, 1, 0, 0, 0), (38, .ifCond .lt 31, 3, 69, 0, 0), (41, .aload_n 0, 1, 0, 0, 0), (42, .getfield 29, 3, 7, 9, 161), (45, .bipush 8, 2, 8, 0, 0), (47, .iload_n 1, 1, 0, 0, 0), (48, .iconst 1, 1, 1, 0, 0), (49, .isub, 1, 0, 0, 0), (50, .imul, 1, 0, 0, 0), (51, .iload_n 3, 1, 0, 0, 0), (52, .iadd, 1, 0, 0, 0), (53, .iaload, 1, 0, 0, 0), (54, .ifCond .ge 15, 3, 69, 0, 0), (57, .bipush 8, 2, 8, 0, 0), (59, .iload_n 3, 1, 0, 0, 0), (60, .imul, 1, 0, 0, 0), (61, .iload_n 2, 1, 0, 0, 0), (62, .bipush 8, 2, 8, 0, 0), (64, .irem, 1, 0, 0, 0), (65, .iadd, 1, 0, 0, 0), (66, .goto 4, 3, 70, 0, 0), (69, .iconst (-1), 1, 1, 1, 0), (70, .ireturn, 1, 0, 0, 0)]
/-- RenameMergeModel.versions ()V -/
def xtb_117 : List xI := [(0, .iconst 0, 1, 0, 0, 0), (1, .istore_n 1, 1, 0, 0, 0), (2, .iload_n 1, 1, 0, 0, 0), (3, .bipush 64, 2, 64, 0, 0), (5, .if_icmp .ge 30, 3, 35, 0, 0), (8, .aload_n 0, 1, 0, 0, 0), (9, .iconst 5, 1, 5, 0, 0), (10, .iload_n 1, 1, 0, 0, 0), (11, .invokevirtual 57, 3, 95, 2, 169), (14, .aload_n 0, 1, 0, 0, 0), (15, .bipush 6, 2, 6, 0, 0), (17, .iload_n 1, 1, 0, 0, 0), (18, .invokevirtual 57, 3, 95, 2, 169), (21, .aload_n 0, 1, 0, 0, 0), (22, .iconst 0, 1, 0, 0, 0), (23, .iload_n 1, 1, 0, 0, 0), (24, .iconst 4, 1, 4, 0, 0), (25, .iload_n 1, 1, 0, 0, 0), (26, .invokevirtual 61, 3, 97, 2, 170), (29, .iinc 1 1, 3, 1, 0, 0), (32, .goto (-30), 3, 2, 0, 0), (35, .iconst 1, 1, 1, 0, 0), (36, .istore_n 1, 1, 0, 0, 0), (37, .iload_n 1, 1, 0, 0, 0), (38, .iconst 2, 1, 2, 0, 0), (39, .if_icmp .gt 54, 3, 93, 0, 0), (42, .iconst 0, 1, 0, 0, 0), (43, .istore_n 2, 1, 0, 0, 0), (44, .iload_n 2, 1, 0, 0, 0), (45, .bipush 64, 2, 64, 0, 0), (47, .if_icmp .ge 40, 3, 87, 0, 0), (50, .aload_n 0, 1, 0, 0, 0), (51, .iload_n 1, 1, 0, 0, 0), (52, .iload_n 2, 1, 0, 0, 0), (53, .invokevirtual 49, 3, 91, 2, 166), (56, .ifCond .eq 25, 3, 81, 0, 0), (59, .aload_n 0, 1, 0, 0, 0), (60, .iload_n 1, 1, 0, 0, 0), (61, .iload_n 2, 1, 0, 0, 0), (62, .iconst 4, 1, 4, 0, 0), (63, .iload_n 1, 1, 0, 0, 0), (64, .iadd, 1, 0, 0, 0), (65, .aload_n 0, 1, 0, 0, 0), (66, .getfield 26, 3, 7, 8, 160), (69, .bipush 64, 2, 64, 0, 0), (71, .iload_n 1, 1, 0, 0, 0), (72, .iconst 1, 1, 1, 0, 0), (73, .isub, 1, 0, 0, 0), (74, .imul, 1, 0, 0, 0), (75, .iload_n 2, 1, 0, 0, 0), (76, .iadd, 1, 0, 0, 0), (77, .iaload, 1, 0, 0, 0), (78, .invokevirtual 61, 3, 97, 2, 170), (81, .iinc 2 1, 3, 1, 0, 0), (84, .goto (-40), 3, 44, 0, 0), (87, .iinc 1 1, 3, 1, 0, 0), (90, .goto (-53), 3, 37, 0, 0), (93, .return_, 1, 0, 0, 0)]
/-- RenameMergeModel.follow (I)V -/
def xtb_118 : List xI := [(0, .aload_n 0, 1, 0, 0, 0), (1, .getfield 20, 3, 7, 6, 158), (4, .iload_n 1, 1, 0, 0, 0), (5, .iaload, 1, 0, 0, 0), (6, .istore_n 2, 1, 0, 0, 0), (7, .aload_n 0, 1, 0, 0, 0), (8, .getfield 20, 3, 7, 6, 158), (11, .bipush 64, 2, 64, 0, 0), (13, .iload_n 1, 1, 0, 0, 0), (14, .iadd, 1, 0, 0, 0), (15, .iaload, 1, 0, 0, 0), (16, .istore_n 3, 1, 0, 0, 0), (17, .iload_n 2, 1, 0, 0, 0), (18, .ifCond .lt 82, 3, 100, 0, 0), (21, .iload_n 3, 1, 0, 0, 0), (22, .ifCond .lt 78, 3, 100, 0, 0), (25, .aload_n 0, 1, 0, 0, 0), (26, .getfield 26, 3, 7, 8, 160), (29, .iload_n 2, 1, 0, 0, 0), (30, .iaload, 1, 0, 0, 0), (31, .istore 4, 2, 0, 0, 0), (33, .aload_n 0, 1, 0, 0, 0), (34, .getfield 26, 3, 7, 8, 160), (37, .bipush 64, 2, 64, 0, 0), (39, .iload_n 3, 1, 0, 0, 0), (40, .iadd, 1, 0, 0, 0), (41, .iaload, 1, 0, 0, 0), (42, .istore 5, 2, 0, 0, 0), (44, .iload 4, 2, 0, 0, 0), (46, .iload 5, 2, 0, 0, 0), (48, .if_icmp .ne 14, 3, 62, 0, 0), (51, .aload_n 0, 1, 0, 0, 0), (52, .iconst 4, 1, 4, 0, 0), (53, .iload_n 1, 1, 0, 0, 0), (54, .iload 4, 2, 0, 0, 0), (56, .invokevirtual 165, 3, 119, 2, 192), (59, .goto 38, 3, 97, 0, 0), (62, .aload_n 0, 1, 0, 0, 0), (63, .getfield 32, 3, 7, 10, 162), (66, .iload_n 1, 1, 0, 0, 0), (67, .dup2, 1, 0, 0, 0), (68, .iaload, 1, 0, 0, 0), (69, .bipush 32, 2, 32, 0, 0), (71, .ior, 1, 0, 0, 0), (72, .iastore, 1, 0, 0, 0), (73, .aload_n 0, 1, 0, 0, 0), (74, .getfield 32, 3, 7, 10, 162), (77, .iload 4, 2, 0, 0, 0), (79, .dup2, 1, 0, 0, 0), (80, .iaload, 1, 0, 0, 0), (81, .bipush 32, 2, 32, 0, 0), (83, .ior, 1, 0, 0, 0), (84, .iastore, 1, 0, 0, 0), (85, .aload_n 0, 1, 0, 0, 0), (86, .getfield 32, 3, 7, 10, 162), (89, .iload 5, 2, 0, 0, 0), (91, .dup2, 1, 0, 0, 0), (92, .iaload, 1, 0, 0, 0), (93, .bipush 32, 2, 32, 0, 0), (95, .ior, 1, 0, 0, 0), (96, .iastore, 1, 0, 0, 0), (97, .goto 41, 3, 138, 0, 0), (100, .iload_n 2, 1, 0, 0, 0), (101, .ifCond .lt 18, 3, 119, 0, 0), (104, .aload_n 0, 1, 0, 0, 0), (105, .iconst 1, 1, 1, 0, 0), (106, .iload_n 1, 1, 0, 0, 0), (107, .aload_n 0, 1, 0, 0, 0), (108, .getfield 26, 3, 7, 8, 160), (111, .iload_n 2, 1, 0, 0, 0), (112, .iaload, 1, 0, 0, 0), (113, .invokevirtual 174, 3, 120, 2, 193), (116, .goto 22, 3, 138, 0, 0), (119, .iload_n 3, 1, 0, 0, 0), (120, .ifCond .lt 18, 3, 138, 0, 0), (123, .aload_n 0, 1, 0, 0, 0), (124, .iconst 2, 1, 2, 0, 0), (125, .iload_n 1, 1, 0, 0, 0), (126, .aload_n 0, 1, 0, 0, 0), (127, .getfield 26, 3, 7, 8, 160), (130, .bipush 64, 2, 64, 0, 0), (132, .iload_n 3, 1, 0, 0, 0), (133, .iadd, 1, 0, 0, 0), (134, .iaload, 1, 0, 0, 0), (135, .invokevirtual 174, 3, 120, 2, 193), (138, .return_, 1, 0, 0, 0)]
/-- RenameMergeModel.go (III)V -/
def xtb_119 : List xI := [(0, .aload_n 0, 1, 0, 0, 0), (1, .iload_n 1, 1, 0, 0, 0), (2, .iload_n 2, 1, 0, 0, 0), (3, .iload_n 1, 1, 0, 0, 0), (4, .iload_n 3, 1, 0, 0, 0), (5, .invokevirtual 61, 3, 97, 2, 170), (8, .aload_n 0, 1, 0, 0, 0), (9, .iload_n 1, 1, 0, 0, 0), (10, .iload_n 2, 1, 0, 0, 0), (11, .invokevirtual 57, 3, 95, 2, 169), (14, .return_, 1, 0, 0, 0)]
/-- RenameMergeModel.alone (III)V -/
def xtb_120 : List xI := [(0, .bipush 7, 2, 7, 0, 0), (2, .iload_n 1, 1, 0, 0, 0), (3, .isub, 1, 0, 0, 0), (4, .istore 4, 2, 0, 0, 0), (6, .aload_n 0, 1, 0, 0, 0), (7, .iload 4, 2, 0, 0, 0), (9, .iload_n 3, 1, 0, 0, 0), (10, .invokevirtual 49, 3, 91, 2, 166), (13, .istore 5, 2, 0, 0, 0), (15, .aload_n 0, 1, 0, 0, 0), (16, .iload 4, 2, 0, 0, 0), (18, .iload_n 2, 1, 0, 0, 0), (19, .invokevirtual 49, 3, 91, 2, 166), (22, .ifCond .eq 26, 3, 48, 0, 0), (25, .iload 5, 2, 0, 0, 0), (27, .ifCond .ne 21, 3, 48, 0, 0), (30, .aload_n 0, 1, 0, 0, 0), (31, .iconst 4, 1, 4, 0, 0), (32, .iload_n 2, 1, 0, 0, 0), (33, .iload_n 3, 1, 0, 0, 0), (34, .invokevirtual 165, 3, 119, 2, 192), (37, .aload_n 0, 1, 0, 0, 0), (38, .iload 4, 2, 0, 0, 0), (40, .iload_n 2, 1, 0, 0, 0), (41, .iload_n 3, 1, 0, 0, 0), (42, .invokevirtual 165, 3, 119, 2, 192), (45, .goto 110, 3, 155, 0, 0), (48, .aload_n 0, 1, 0, 0, 0), (49, .iload 4, 2, 0, 0, 0), (51, .iload_n 2, 1, 0, 0, 0), (52, .invokevirtual 49, 3, 91, 2, 166), (55, .ifCond .eq 68, 3, 123, 0, 0), (58, .aload_n 0, 1, 0, 0, 0), (59, .iload_n 2, 1, 0, 0, 0), (60, .iload_n 1, 1, 0, 0, 0), (61, .iconst 1, 1, 1, 0, 0), (62, .if_icmp .ne 7, 3, 69, 0, 0), (65, .iload_n 3, 1, 0, 0, 0), (66, .goto 4, 3, 70, 0, 0), (69, .iload_n 2, 1, 0, 0, 0), (70, .iload_n 1, 1, 0, 0, 0), (71, .iconst 1, 1, 1, 0, 0), (72, .if_icmp .ne 7, 3, 79, 0, 0), (75, .iload_n 2, 1, 0, 0, 0), (76, .goto 4, 3, 80, 0, 0), (79, .iload_n 3, 1, 0, 0, 0), (80, .invokevirtual 168, 3, 121, 2, 194), (83, .aload_n 0, 1, 0, 0, 0), (84, .iconst 4, 1, 4, 0, 0), (85, .iload_n 1, 1, 0, 0, 0), (86, .iadd, 1, 0, 0, 0), (87, .iload_n 3, 1, 0, 0, 0), (88, .invokevirtual 171, 3, 131, 2, 195), (91, .aload_n 0, 1, 0, 0, 0), (92, .iconst 4, 1, 4, 0, 0), (93, .iload_n 2, 1, 0, 0, 0), (94, .invokevirtual 57, 3, 95, 2, 169), (97, .aload_n 0, 1, 0, 0, 0), (98, .iload 4, 2, 0, 0, 0), (100, .iload_n 2, 1, 0, 0, 0), (101, .invokevirtual 57, 3, 95, 2, 169), (104, .aload_n 0, 1, 0, 0, 0), (105, .getfield 32, 3, 7, 10, 162), (108, .iload_n 3, 1, 0, 0, 0), (109, .dup2, 1, 0, 0, 0), (110, .iaload, 1, 0, 0, 0), (111, .bipush 64, 2, 64, 0, 0), (113, .aload_n 0, 1, 0, 0, 0), (114, .getfield 156, 3, 7, 14, 196), (117, .ior, 1, 0, 0, 0), (118, .ior, 1, 0, 0, 0), (119, .iastore, 1, 0, 0, 0), (120, .goto 35, 3, 155, 0, 0), (123, .aload_n 0, 1, 0, 0, 0), (124, .getfield 32, 3, 7, 10, 162), (127, .iload_n 3, 1, 0, 0, 0), (128, .dup2, 1, 0, 0, 0), (129, .iaload, 1, 0, 0, 0), (130, .bipush 16, 2, 16, 0, 0), (132, .ior, 1, 0, 0, 0), (133, .iastore, 1, 0, 0, 0), (134, .iload 5, 2, 0, 0, 0), (136, .ifCond .eq 12, 3, 148, 0, 0), (139, .aload_n 0, 1, 0, 0, 0), (140, .iconst 4, 1, 4, 0, 0), (141, .iload_n 2, 1, 0, 0, 0), (142, .invokevirtual 57, 3, 95, 2, 169), (145, .goto 10, 3, 155, 0, 0), (148, .aload_n 0, 1, 0, 0, 0), (149, .iconst 4, 1, 4, 0, 0), (150, .iload_n 2, 1, 0, 0, 0), (151, .iload_n 3, 1, 0, 0, 0), (152, .invokevirtual 165, 3, 119, 2, 192), (155, .return_, 1, 0, 0, 0)]
/-- RenameMergeModel.mergeFiles (III)V -/
def xtb_121 : List xI := [(0, .aload_n 0, 1, 0, 0, 0), (1, .getfield 7, 3, 7, 3, 155), (4, .sipush 256, 3, 256, 0, 0), (7, .iload_n 1, 1, 0, 0, 0), (8, .iadd, 1, 0, 0, 0), (9, .iaload, 1, 0, 0, 0), (10, .istore 4, 2, 0, 0, 0), (12, .aload_n 0, 1, 0, 0, 0), (13, .getfield 7, 3, 7, 3, 155), (16, .sipush 320, 3, 320, 0, 0), (19, .iload_n 2, 1, 0, 0, 0), (20, .iadd, 1, 0, 0, 0), (21, .iaload, 1, 0, 0, 0), (22, .istore 5, 2, 0, 0, 0), (24, .aload_n 0, 1, 0, 0, 0), (25, .getfield 7, 3, 7, 3, 155), (28, .sipush 384, 3, 384, 0, 0), (31, .iload_n 3, 1, 0, 0, 0), (32, .iadd, 1, 0, 0, 0), (33, .iaload, 1, 0, 0, 0), (34, .istore 6, 2, 0, 0, 0), (36, .aload_n 0, 1, 0, 0, 0), (37, .iconst 0, 1, 0, 0, 0), (38, .putfield 156, 3, 7, 14, 196), (41, .aload_n 0, 1, 0, 0, 0), (42, .iconst 5, 1, 5, 0, 0), (43, .iload_n 2, 1, 0, 0, 0), (44, .bipush 6, 2, 6, 0, 0), (46, .iload_n 3, 1, 0, 0, 0), (47, .invokevirtual 85, 3, 108, 2, 188), (50, .ifCond .eq 12, 3, 62, 0, 0), (53, .aload_n 0, 1, 0, 0, 0), (54, .iconst 5, 1, 5, 0, 0), (55, .iload_n 2, 1, 0, 0, 0), (56, .invokevirtual 159, 3, 122, 2, 197), (59, .goto 222, 3, 281, 0, 0), (62, .aload_n 0, 1, 0, 0, 0), (63, .iconst 4, 1, 4, 0, 0), (64, .iload_n 1, 1, 0, 0, 0), (65, .iconst 5, 1, 5, 0, 0), (66, .iload_n 2, 1, 0, 0, 0), (67, .invokevirtual 85, 3, 108, 2, 188), (70, .ifCond .eq 13, 3, 83, 0, 0), (73, .aload_n 0, 1, 0, 0, 0), (74, .bipush 6, 2, 6, 0, 0), (76, .iload_n 3, 1, 0, 0, 0), (77, .invokevirtual 159, 3, 122, 2, 197), (80, .goto 201, 3, 281, 0, 0), (83, .aload_n 0, 1, 0, 0, 0), (84, .iconst 4, 1, 4, 0, 0), (85, .iload_n 1, 1, 0, 0, 0), (86, .bipush 6, 2, 6, 0, 0), (88, .iload_n 3, 1, 0, 0, 0), (89, .invokevirtual 85, 3, 108, 2, 188), (92, .ifCond .eq 12, 3, 104, 0, 0), (95, .aload_n 0, 1, 0, 0, 0), (96, .iconst 5, 1, 5, 0, 0), (97, .iload_n 2, 1, 0, 0, 0), (98, .invokevirtual 159, 3, 122, 2, 197), (101, .goto 180, 3, 281, 0, 0), (104, .iload 5, 2, 0, 0, 0), (106, .ifCond .eq 8, 3, 114, 0, 0), (109, .iload 6, 2, 0, 0, 0), (111, .ifCond .ne 36, 3, 147, 0, 0), (114, .aload_n 0, 1, 0, 0, 0), (115, .iload 5, 2, 0, 0, 0), (117, .ifCond .ne 8, 3, 125, 0, 0), (120, .bipush 6, 2, 6, 0, 0), (122, .goto 4, 3, 126, 0, 0), (125, .iconst 5, 1, 5, 0, 0), (126, .iload 5, 2, 0, 0, 0), (128, .ifCond .ne 7, 3, 135, 0, 0), (131, .iload_n 3, 1, 0, 0, 0), (132, .goto 4, 3, 136, 0, 0), (135, .iload_n 2, 1, 0, 0, 0), (136, .invokevirtual 159, 3, 122, 2, 197), (139, .aload_n 0, 1, 0, 0, 0), (140, .iconst 4, 1, 4, 0, 0), (141, .putfield 156, 3, 7, 14, 196), (144, .goto 137, 3, 281, 0, 0), (147, .iload 4, 2, 0, 0, 0), (149, .iconst 2, 1, 2, 0, 0), (150, .if_icmp .eq 15, 3, 165, 0, 0), (153, .iload 5, 2, 0, 0, 0), (155, .iconst 2, 1, 2, 0, 0), (156, .if_icmp .eq 9, 3, 165, 0, 0), (159, .iload 6, 2, 0, 0, 0), (161, .iconst 2, 1, 2, 0, 0), (162, .if_icmp .ne 18, 3, 180, 0, 0), (165, .aload_n 0, 1, 0, 0, 0), (166, .iconst 5, 1, 5, 0, 0), (167, .iload_n 2, 1, 0, 0, 0), (168, .invokevirtual 159, 3, 122, 2, 197), (171, .aload_n 0, 1, 0, 0, 0), (172, .bipush 8, 2, 8, 0, 0), (174, .putfield 156, 3, 7, 14, 196), (177, .goto 104, 3, 281, 0, 0), (180, .aload_n 0, 1, 0, 0, 0), (181, .iconst 4, 1, 4, 0, 0), (182, .iload_n 1, 1, 0, 0, 0), (183, .invokestatic 45, 3, 93, 4, 168), (186, .putfield 116, 3, 7, 15, 198), (189, .aload_n 0, 1, 0, 0, 0), (190, .iconst 5, 1, 5, 0, 0), (191, .iload_n 2, 1, 0, 0, 0), (192, .invokestatic 45, 3, 93, 4, 168), (195, .putfield 140, 3, 7, 16, 199), (198, .aload_n 0, 1, 0, 0, 0), (199, .bipush 6, 2, 6, 0, 0), (201, .iload_n 3, 1, 0, 0, 0), (202, .invokestatic 45, 3, 93, 4, 168), (205, .putfield 146, 3, 7, 17, 200), (208, .aload_n 0, 1, 0, 0, 0), (209, .iconst 1, 1, 1, 0, 0), (210, .putfield 153, 3, 7, 13, 201), (213, .aload_n 0, 1, 0, 0, 0), (214, .iload 4, 2, 0, 0, 0), (216, .ifCond .ne 7, 3, 223, 0, 0), (219, .iconst 0, 1, 0, 0, 0), (220, .goto 13, 3, 233, 0, 0), (223, .aload_n 0, 1, 0, 0, 0), (224, .getfield 13, 3, 7, 4, 156), (227, .sipush 256, 3, 256, 0, 0), (230, .iload_n 1, 1, 0, 0, 0), (231, .iadd, 1, 0, 0, 0), (232, .iaload, 1, 0, 0, 0), (233, .aload_n 0, 1, 0, 0, 0), (234, .getfield 13, 3, 7, 4, 156), (237, .sipush 320, 3, 320, 0, 0), (240, .iload_n 2, 1, 0, 0, 0), (241, .iadd, 1, 0, 0, 0), (242, .iaload, 1, 0, 0, 0), (243, .aload_n 0, 1, 0, 0, 0), (244, .getfield 13, 3, 7, 4, 156), (247, .sipush 384, 3, 384, 0, 0), (250, .iload_n 3, 1, 0, 0, 0), (251, .iadd, 1, 0, 0, 0), (252, .iaload, 1, 0, 0, 0), (253, .invokevirtual 162, 3, 124, 2, 202), (256, .aload_n 0, 1, 0, 0, 0), (257, .aload_n 0, 1, 0, 0, 0), (258, .getfield 137, 3, 7, 18, 203), (261, .ifCond .eq 16, 3, 277, 0, 0), (264, .iload 4, 2, 0, 0, 0), (266, .ifCond .ne 7, 3, 273, 0, 0), (269, .iconst 2, 1, 2, 0, 0), (270, .goto 8, 3, 278, 0, 0), (273, .iconst 1, 1, 1, 0, 0), (274, .goto 4, 3, 278, 0, 0), (277, .iconst 0, 1, 0, 0, 0), (278, .putfield 156, 3, 7, 14, 196), (281, .return_, 1, 0, 0, 0)]
/-- RenameMergeModel.takeFile (II)V -/
def xtb_122 : List xI := [(0, .aload_n 0, 1, 0, 0, 0), (1, .aload_n 0, 1, 0, 0, 0), (2, .getfield 7, 3, 7, 3, 155), (5, .bipush 64, 2, 64, 0, 0), (7, .iload_n 1, 1, 0, 0, 0), (8, .imul, 1, 0, 0, 0), (9, .iload_n 2, 1, 0, 0, 0), (10, .iadd, 1, 0, 0, 0), (11, .iaload, 1, 0, 0, 0), (12, .putfield 153, 3, 7, 13, 201), (15, .aload_n 0, 1, 0, 0, 0), (16, .iconst 0, 1, 0, 0, 0), (17, .putfield 125, 3, 7, 12, 204), (20, .iconst 0, 1, 0, 0, 0), (21, .istore_n 3, 1, 0, 0, 0), (22, .aload_n 0, 1, 0, 0, 0), (23, .getfield 153, 3, 7, 13, 201), (26, .ifCond .eq 40, 3, 66, 0, 0), (29, .iload_n 3, 1, 0, 0, 0), (30, .aload_n 0, 1, 0, 0, 0), (31, .getfield 13, 3, 7, 4, 156), (34, .bipush 64, 2, 64, 0, 0), (36, .iload_n 1, 1, 0, 0, 0), (37, .imul, 1, 0, 0, 0), (38, .iload_n 2, 1, 0, 0, 0), (39, .iadd, 1, 0, 0, 0), (40, .iaload, 1, 0, 0, 0), (41, .if_icmp .ge 25, 3, 66, 0, 0), (44, .aload_n 0, 1, 0, 0, 0), (45, .aload_n 0, 1, 0, 0, 0), (46, .getfield 16, 3, 7, 5, 157), (49, .iload_n 1, 1, 0, 0, 0), (50, .iload_n 2, 1, 0, 0, 0), (51, .invokestatic 45, 3, 93, 4, 168), (54, .iload_n 3, 1, 0, 0, 0), (55, .iadd, 1, 0, 0, 0), (56, .baload, 1, 1, 0, 0), (57, .invokevirtual 128, 3, 123, 2, 205), (60, .iinc 3 1, 3, 1, 0, 0), (63, .goto (-41), 3, 22, 0, 0), (66, .return_, 1, 0, 0, 0)]
/-- RenameMergeModel.write (I)V -/
def xtb_123 : List xI := [(0, .aload_n 0, 1, 0, 0, 0), (1, .getfield 35, 3, 7, 11, 163), (4, .aload_n 0, 1, 0, 0, 0), (5, .getfield 125, 3, 7, 12, 204), (8, .iload_n 1, 1, 0, 0, 0), (9, .i2b, 1, 0, 0, 0), (10, .bastore, 1, 1, 0, 0), (11, .aload_n 0, 1, 0, 0, 0), (12, .dup, 1, 0, 0, 0), (13, .getfield 125, 3, 7, 12, 204), (16, .iconst 1, 1, 1, 0, 0), (17, .iadd, 1, 0, 0, 0), (18, .putfield 125, 3, 7, 12, 204), (21, .return_, 1, 0, 0, 0)]
/-- RenameMergeModel.mergeLines (III)V -/
def xtb_124 : List xI := [(0, .aload_n 0, 1, 0, 0, 0), (1, .iconst 0, 1, 0, 0, 0), (2, .putfield 125, 3, 7, 12, 204), (5, .aload_n 0, 1, 0, 0, 0), (6, .iconst 0, 1, 0, 0, 0), (7, .putfield 137, 3, 7, 18, 203), (10, .aload_n 0, 1, 0, 0, 0), (11, .iload_n 1, 1, 0, 0, 0), (12, .aload_n 0, 1, 0, 0, 0), (13, .getfield 140, 3, 7, 16, 199), (16, .iload_n 2, 1, 0, 0, 0), (17, .iconst 0, 1, 0, 0, 0), (18, .invokevirtual 143, 3, 125, 2, 206), (21, .aload_n 0, 1, 0, 0, 0), (22, .iload_n 1, 1, 0, 0, 0), (23, .aload_n 0, 1, 0, 0, 0), (24, .getfield 146, 3, 7, 17, 200), (27, .iload_n 3, 1, 0, 0, 0), (28, .bipush 8, 2, 8, 0, 0), (30, .invokevirtual 143, 3, 125, 2, 206), (33, .iconst 0, 1, 0, 0, 0), (34, .istore 4, 2, 0, 0, 0), (36, .iconst 0, 1, 0, 0, 0), (37, .istore 5, 2, 0, 0, 0), (39, .iconst 0, 1, 0, 0, 0), (40, .istore 6, 2, 0, 0, 0), (42, .iconst 0, 1, 0, 0, 0), (43, .istore 7, 2, 0, 0, 0), (45, .iload 7, 2, 0, 0, 0), (47, .iload_n 1, 1, 0, 0, 0), (48, .if_icmp .ge 138, 3, 186, 0, 0), (51, .aload_n 0, 1, 0, 0, 0), (52, .getfield 38, 3, 7, 19, 164), (55, .iload 7, 2, 0, 0, 0), (57, .iaload, 1, 0, 0, 0), (58, .ifCond .lt 122, 3, 180, 0, 0), (61, .aload_n 0, 1, 0, 0, 0), (62, .getfield 38, 3, 7, 19, 164), (65, .bipush 8, 2, 8, 0, 0), (67, .iload 7, 2, 0, 0, 0), (69, .iadd, 1, 0, 0, 0), (70, .iaload, 1, 0, 0, 0), (71, .ifCond .lt 109, 3, 180, 0, 0), (74, .aload_n 0, 1, 0, 0, 0), (75, .aload_n 0, 1, 0, 0, 0), (76, .getfield 116, 3, 7, 15, 198), (79, .iload 4, 2, 0, 0, 0), (81, .iadd, 1, 0, 0, 0), (82, .aload_n 0, 1, 0, 0, 0), (83, .getfield 116, 3, 7, 15, 198), (86, .iload 7, 2, 0, 0, 0), (88, .iadd, 1, 0, 0, 0), (89, .aload_n 0, 1, 0, 0, 0), (90, .getfield 140, 3, 7, 16, 199), (93, .iload 5, 2, 0, 0, 0), (95, .iadd, 1, 0, 0, 0), (96, .aload_n 0, 1, 0, 0, 0), (97, .getfield 140, 3, 7, 16, 199), (100, .aload_n 0, 1, 0, 0, 0), (101, .getfield 38, 3, 7, 19, 164), (104, .iload 7, 2, 0, 0, 0), (106, .iaload, 1, 0, 0, 0), (107, .iadd, 1, 0, 0, 0), (108, .aload_n 0, 1, 0, 0, 0), (109, .getfield 146, 3, 7, 17, 200), (112, .iload 6, 2, 0, 0, 0), (114, .iadd, 1, 0, 0, 0), (115, .aload_n 0, 1, 0, 0, 0), (116, .getfield 146, 3, 7, 17, 200), (119, .aload_n 0, 1, 0, 0, 0), (120, .getfield 38, 3, 7, 19, 164), (123, .bipush 8, 2, 8, 0, 0), (125, .iload 7, 2, 0, 0, 0), (127, .iadd, 1, 0, 0, 0), (128, .iaload, 1, 0, 0, 0), (129, .iadd, 1, 0, 0, 0), (130, .invokevirtual 149, 3, 128, 2, 207), (133, .aload_n 0, 1, 0, 0, 0), (134, .aload_n 0, 1, 0, 0, 0), (135, .getfield 16, 3, 7, 5, 157), (138, .aload_n 0, 1, 0, 0, 0), (139, .getfield 116, 3, 7, 15, 198), (142, .iload 7, 2, 0, 0, 0), (144, .iadd, 1, 0, 0, 0), (145, .baload, 1, 1, 0, 0), (146, .invokevirtual 128, 3, 123, 2, 205), (149, .iload 7, 2, 0, 0, 0), (151, .iconst 1, 1, 1, 0, 0), (152, .iadd, 1, 0, 0, 0), (153, .istore 4, 2, 0, 0, 0), (155, .aload_n 0, 1, 0, 0, 0), (156, .getfield 38, 3, 7, 19, 164), (159, .iload 7, 2, 0, 0, 0), (161, .iaload, 1, 0, 0, 0), (162, .iconst 1, 1, 1, 0, 0), (163, .iadd, 1, 0, 0, 0), (164, .istore 5, 2, 0, 0, 0), (166, .aload_n 0, 1, 0, 0, 0), (167, .getfield 38, 3, 7, 19, 164), (170, .bipush 8, 2, 8, 0, 0), (172, .iload 7, 2, 0, 0, 0), (174, .iadd, 1, 0, 0, 0), (175, .iaload, 1, 0, 0, 0), (176, .iconst 1, 1, 1, 0, 0), (177, .iadd, 1, 0, 0, 0), (178, .istore 6, 2, 0, 0, 0), (180, .iinc 7 1, 3, 1, 0, 0), (183, .goto (-138), 3, 45, 0, 0), (186, .aload_n 0, 1, 0, 0, 0), (187, .aload_n 0, 1, 0, 0, 0), (188, .getfield 116, 3, 7, 15, 198), (191, .iload 4, 2, 0, 0, 0), (193, .iadd, 1, 0, 0, 0), (194, .aload_n 0, 1, 0, 0, 0), (195, .getfield 116, 3, 7, 15, 198), (198, .iload_n 1, 1, 0, 0, 0), (199, .iadd, 1, 0, 0, 0), (200, .aload_n 0, 1, 0, 0, 0), (201, .getfield 140, 3, 7, 16, 199), (204, .iload 5, 2, 0, 0, 0), (206, .iadd, 1, 0, 0, 0), (207, .aload_n 0, 1, 0, 0, 0), (208, .getfield 140, 3, 7, 16, 199), (211, .iload_n 2, 1, 0, 0, 0), (212, .iadd, 1, 0, 0, 0), (213, .aload_n 0, 1, 0, 0, 0), (214, .getfield 146, 3, 7, 17, 200), (217, .iload 6, 2, 0, 0, 0), (219, .iadd, 1, 0, 0, 0), (220, .aload_n 0, 1, 0, 0, 0), (221, .getfield 146, 3, 7, 17, 200), (224, .iload_n 3, 1, 0, 0, 0), (225, .iadd, 1, 0, 0, 0), (226, .invokevirtual 149, 3, 128, 2, 207), (229, .return_, 1, 0, 0, 0)]
/-- RenameMergeModel.match (IIII)V -/
def xtb_125 : List xI := [(0, .iconst 0, 1, 0, 0, 0), (1, .istore 5, 2, 0, 0, 0), (3, .iconst 1, 1, 1, 0, 0), (4, .iload_n 1, 1, 0, 0, 0), (5, .ishl, 1, 0, 0, 0), (6, .iconst 1, 1, 1, 0, 0), (7, .isub, 1, 0, 0, 0), (8, .istore 6, 2, 0, 0, 0), (10, .iload 6, 2, 0, 0, 0), (12, .ifCond .le 38, 3, 50, 0, 0), (15, .iload 6, 2, 0, 0, 0), (17, .invokestatic 119, 3, 126, 4, 208), (20, .iload 5, 2, 0, 0, 0), (22, .invokestatic 119, 3, 126, 4, 208), (25, .if_icmp .le 19, 3, 44, 0, 0), (28, .aload_n 0, 1, 0, 0, 0), (29, .iload 6, 2, 0, 0, 0), (31, .iload_n 1, 1, 0, 0, 0), (32, .iload_n 2, 1, 0, 0, 0), (33, .iload_n 3, 1, 0, 0, 0), (34, .invokevirtual 122, 3, 127, 2, 209), (37, .ifCond .eq 7, 3, 44, 0, 0), (40, .iload 6, 2, 0, 0, 0), (42, .istore 5, 2, 0, 0, 0), (44, .iinc 6 (-1), 3, 1, 1, 0), (47, .goto (-37), 3, 10, 0, 0), (50, .iconst 0, 1, 0, 0, 0), (51, .istore 6, 2, 0, 0, 0), (53, .iconst 0, 1, 0, 0, 0), (54, .istore 7, 2, 0, 0, 0), (56, .iload 7, 2, 0, 0, 0), (58, .iload_n 1, 1, 0, 0, 0), (59, .if_icmp .ge 80, 3, 139, 0, 0), (62, .aload_n 0, 1, 0, 0, 0), (63, .getfield 38, 3, 7, 19, 164), (66, .iload 4, 2, 0, 0, 0), (68, .iload 7, 2, 0, 0, 0), (70, .iadd, 1, 0, 0, 0), (71, .iconst (-1), 1, 1, 1, 0), (72, .iastore, 1, 0, 0, 0), (73, .iload 5, 2, 0, 0, 0), (75, .iload_n 1, 1, 0, 0, 0), (76, .iconst 1, 1, 1, 0, 0), (77, .isub, 1, 0, 0, 0), (78, .iload 7, 2, 0, 0, 0), (80, .isub, 1, 0, 0, 0), (81, .ishr, 1, 0, 0, 0), (82, .iconst 1, 1, 1, 0, 0), (83, .iand, 1, 0, 0, 0), (84, .iconst 1, 1, 1, 0, 0), (85, .if_icmp .ne 48, 3, 133, 0, 0), (88, .aload_n 0, 1, 0, 0, 0), (89, .getfield 16, 3, 7, 5, 157), (92, .iload_n 2, 1, 0, 0, 0), (93, .iload 6, 2, 0, 0, 0), (95, .iadd, 1, 0, 0, 0), (96, .baload, 1, 1, 0, 0), (97, .aload_n 0, 1, 0, 0, 0), (98, .getfield 16, 3, 7, 5, 157), (101, .aload_n 0, 1, 0, 0, 0), (102, .getfield 116, 3, 7, 15, 198), (105, .iload 7, 2, 0, 0, 0), (107, .iadd, 1, 0, 0, 0), (108, .baload, 1, 1, 0, 0), (109, .if_icmp .eq 9, 3, 118, 0, 0), (112, .iinc 6 1, 3, 1, 0, 0), (115, .goto (-27), 3, 88, 0, 0), (118, .aload_n 0, 1, 0, 0, 0), (119, .getfield 38, 3, 7, 19, 164), (122, .iload 4, 2, 0, 0, 0), (124, .iload 7, 2, 0, 0, 0), (126, .iadd, 1, 0, 0, 0), (127, .iload 6, 2, 0, 0, 0), (129, .iastore, 1, 0, 0, 0), (130, .iinc 6 1, 3, 1, 0, 0), (133, .iinc 7 1, 3, 1, 0, 0), (136, .goto (-80), 3, 56, 0, 0), (139, .return_, 1, 0, 0, 0)]
/-- RenameMergeModel.ones (I)I -/
def xtb_126 : List xI := [(0, .iconst 0, 1, 0, 0, 0), (1, .istore_n 1, 1, 0, 0, 0), (2, .iconst 0, 1, 0, 0, 0), (3, .istore_n 2, 1, 0, 0, 0), (4, .iload_n 2, 1, 0, 0, 0), (5, .bipush 8, 2, 8, 0, 0), (7, .if_icmp .ge 17, 3, 24, 0, 0), (10, .iload_n 1, 1, 0, 0, 0), (11, .iload_n 0, 1, 0, 0, 0), (12, .iload_n 2, 1, 0, 0, 0), (13, .ishr, 1, 0, 0, 0), (14, .iconst 1, 1, 1, 0, 0), (15, .iand, 1, 0, 0, 0), (16, .iadd, 1, 0, 0, 0), (17, .istore_n 1, 1, 0, 0, 0), (18, .iinc 2 1, 3, 1, 0, 0), (21, .goto (-17), 3, 4, 0, 0), (24, .iload_n 1, 1, 0, 0, 0), (25, .ireturn, 1, 0, 0, 0)]
/-- RenameMergeModel.fits (IIII)Z -/
def xtb_127 : List xI := [(0, .iconst 0, 1, 0, 0, 0), (1, .istore 5, 2, 0, 0, 0), (3, .iconst 0, 1, 0, 0, 0), (4, .istore 6, 2, 0, 0, 0), (6, .iload 6, 2, 0, 0, 0), (8, .iload_n 2, 1, 0, 0, 0), (9, .if_icmp .ge 72, 3, 81, 0, 0), (12, .iload_n 1, 1, 0, 0, 0), (13, .iload_n 2, 1, 0, 0, 0), (14, .iconst 1, 1, 1, 0, 0), (15, .isub, 1, 0, 0, 0), (16, .iload 6, 2, 0, 0, 0), (18, .isub, 1, 0, 0, 0), (19, .ishr, 1, 0, 0, 0), (20, .iconst 1, 1, 1, 0, 0), (21, .iand, 1, 0, 0, 0), (22, .iconst 1, 1, 1, 0, 0), (23, .if_icmp .ne 52, 3, 75, 0, 0), (26, .iload 5, 2, 0, 0, 0), (28, .iload 4, 2, 0, 0, 0), (30, .if_icmp .ge 33, 3, 63, 0, 0), (33, .aload_n 0, 1, 0, 0, 0), (34, .getfield 16, 3, 7, 5, 157), (37, .iload_n 3, 1, 0, 0, 0), (38, .iload 5, 2, 0, 0, 0), (40, .iadd, 1, 0, 0, 0), (41, .baload, 1, 1, 0, 0), (42, .aload_n 0, 1, 0, 0, 0), (43, .getfield 16, 3, 7, 5, 157), (46, .aload_n 0, 1, 0, 0, 0), (47, .getfield 116, 3, 7, 15, 198), (50, .iload 6, 2, 0, 0, 0), (52, .iadd, 1, 0, 0, 0), (53, .baload, 1, 1, 0, 0), (54, .if_icmp .eq 9, 3, 63, 0, 0), (57, .iinc 5 1, 3, 1, 0, 0), (60, .goto (-34), 3, 26, 0, 0), (63, .iload 5, 2, 0, 0, 0), (65, .iload 4, 2, 0, 0, 0), (67, .if_icmp .lt 5, 3, 72, 0, 0), (70, .iconst 0, 1, 0, 0, 0), (71, .ireturn, 1, 1, 0, 0), (72, .iinc 5 1, 3, 1, 0, 0), (75, .iinc 6 1, 3, 1, 0, 0), (78, .goto (-72), 3, 6, 0, 0), (81, .iconst 1, 1, 1, 0, 0), (82, .ireturn, 1, 1, 0, 0)]
/-- RenameMergeModel.gap (IIIIII)V -/
def xtb_128 : List xI := [(0, .aload_n 0, 1, 0, 0, 0), (1, .iload_n 3, 1, 0, 0, 0), (2, .iload 4, 2, 0, 0, 0), (4, .iload_n 1, 1, 0, 0, 0), (5, .iload_n 2, 1, 0, 0, 0), (6, .invokevirtual 131, 3, 129, 2, 210), (9, .ifCond .eq 12, 3, 21, 0, 0), (12, .aload_n 0, 1, 0, 0, 0), (13, .iload 5, 2, 0, 0, 0), (15, .iload 6, 2, 0, 0, 0), (17, .invokevirtual 134, 3, 130, 2, 211), (20, .return_, 1, 0, 0, 0), (21, .aload_n 0, 1, 0, 0, 0), (22, .iload 5, 2, 0, 0, 0), (24, .iload 6, 2, 0, 0, 0), (26, .iload_n 1, 1, 0, 0, 0), (27, .iload_n 2, 1, 0, 0, 0), (28, .invokevirtual 131, 3, 129, 2, 210), (31, .ifCond .ne 17, 3, 48, 0, 0), (34, .aload_n 0, 1, 0, 0, 0), (35, .iload_n 3, 1, 0, 0, 0), (36, .iload 4, 2, 0, 0, 0), (38, .iload 5, 2, 0, 0, 0), (40, .iload 6, 2, 0, 0, 0), (42, .invokevirtual 131, 3, 129, 2, 210), (45, .ifCond .eq 11, 3, 56, 0, 0), (48, .aload_n 0, 1, 0, 0, 0), (49, .iload_n 3, 1, 0, 0, 0), (50, .iload 4, 2, 0, 0, 0), (52, .invokevirtual 134, 3, 130, 2, 211), (55, .return_, 1, 0, 0, 0), (56, .aload_n 0, 1, 0, 0, 0), (57, .iconst 1, 1, 1, 0, 0), (58, .putfield 137, 3, 7, 18, 203), (61, .iconst 0, 1, 0, 0, 0), (62, .istore 7, 2, 0, 0, 0), (64, .iconst 0, 1, 0, 0, 0), (65, .istore 8, 2, 0, 0, 0), (67, .aload_n 0, 1, 0, 0, 0), (68, .getfield 69, 3, 7, 1, 172), (71, .iconst 2, 1, 2, 0, 0), (72, .if_icmp .ne 108, 3, 180, 0, 0), (75, .iload 7, 2, 0, 0, 0), (77, .iload 4, 2, 0, 0, 0), (79, .iload_n 3, 1, 0, 0, 0), (80, .isub, 1, 0, 0, 0), (81, .if_icmp .ge 41, 3, 122, 0, 0), (84, .iload 7, 2, 0, 0, 0), (86, .iload 6, 2, 0, 0, 0), (88, .iload 5, 2, 0, 0, 0), (90, .isub, 1, 0, 0, 0), (91, .if_icmp .ge 31, 3, 122, 0, 0), (94, .aload_n 0, 1, 0, 0, 0), (95, .getfield 16, 3, 7, 5, 157), (98, .iload_n 3, 1, 0, 0, 0), (99, .iload 7, 2, 0, 0, 0), (101, .iadd, 1, 0, 0, 0), (102, .baload, 1, 1, 0, 0), (103, .aload_n 0, 1, 0, 0, 0), (104, .getfield 16, 3, 7, 5, 157), (107, .iload 5, 2, 0, 0, 0), (109, .iload 7, 2, 0, 0, 0), (111, .iadd, 1, 0, 0, 0), (112, .baload, 1, 1, 0, 0), (113, .if_icmp .ne 9, 3, 122, 0, 0), (116, .iinc 7 1, 3, 1, 0, 0), (119, .goto (-44), 3, 75, 0, 0), (122, .iload 8, 2, 0, 0, 0), (124, .iload 4, 2, 0, 0, 0), (126, .iload_n 3, 1, 0, 0, 0), (127, .isub, 1, 0, 0, 0), (128, .iload 7, 2, 0, 0, 0), (130, .isub, 1, 0, 0, 0), (131, .if_icmp .ge 49, 3, 180, 0, 0), (134, .iload 8, 2, 0, 0, 0), (136, .iload 6, 2, 0, 0, 0), (138, .iload 5, 2, 0, 0, 0), (140, .isub, 1, 0, 0, 0), (141, .iload 7, 2, 0, 0, 0), (143, .isub, 1, 0, 0, 0), (144, .if_icmp .ge 36, 3, 180, 0, 0), (147, .aload_n 0, 1, 0, 0, 0), (148, .getfield 16, 3, 7, 5, 157), (151, .iload 4, 2, 0, 0, 0), (153, .iconst 1, 1, 1, 0, 0), (154, .isub, 1, 0, 0, 0), (155, .iload 8, 2, 0, 0, 0), (157, .isub, 1, 0, 0, 0), (158, .baload, 1, 1, 0, 0), (159, .aload_n 0, 1, 0, 0, 0), (160, .getfield 16, 3, 7, 5, 157), (163, .iload 6, 2, 0, 0, 0), (165, .iconst 1, 1, 1, 0, 0), (166, .isub, 1, 0, 0, 0), (167, .iload 8, 2, 0, 0, 0), (169, .isub, 1, 0, 0, 0), (170, .baload, 1, 1, 0, 0), (171, .if_icmp .ne 9, 3, 180, 0, 0), (174, .iinc 8 1, 3, 1, 0, 0), (177, .goto (-55), 3, 122, 0, 0), (180, .aload_n 0, 1, 0, 0, 0), (181, .iload_n 3, 1, 0, 0, 0), (182, .iload_n 3, 1, 0, 0, 0), (183, .iload 7, 2, 0, 0, 0), (185, .iadd, 1, 0, 0, 0), (186, .invokevirtual 134, 3, 130, 2, 211), (189, .aload_n 0, 1, 0, 0, 0), (190, .bipush 16, 2, 16, 0, 0), (192, .invokevirtual 128, 3, 123, 2, 205), (195, .aload_n 0, 1, 0, 0, 0), (196, .iload_n 3, 1, 0, 0, 0), (197, .iload 7, 2, 0, 0, 0), (199, .iadd, 1, 0, 0, 0), (200, .iload 4, 2, 0, 0, 0), (202, .iload 8, 2, 0, 0, 0), (204, .isub, 1, 0, 0, 0), (205, .invokevirtual 134, 3, 130, 2, 211), (208, .aload_n 0, 1, 0, 0, 0), (209, .getfield 69, 3, 7, 1, 172), (212, .ifCond .le 15, 3, 227, 0, 0), (215, .aload_n 0, 1, 0, 0, 0), (216, .bipush 17, 2, 17, 0, 0), (218, .invokevirtual 128, 3, 123, 2, 205), (221, .aload_n 0, 1, 0, 0, 0), (222, .iload_n 1, 1, 0, 0, 0), (223, .iload_n 2, 1, 0, 0, 0), (224, .invokevirtual 134, 3, 130, 2, 211), (227, .aload_n 0, 1, 0, 0, 0), (228, .bipush 18, 2, 18, 0, 0), (230, .invokevirtual 128, 3, 123, 2, 205), (233, .aload_n 0, 1, 0, 0, 0), (234, .iload 5, 2, 0, 0, 0), (236, .iload 7, 2, 0, 0, 0), (238, .iadd, 1, 0, 0, 0), (239, .iload 6, 2, 0, 0, 0), (241, .iload 8, 2, 0, 0, 0), (243, .isub, 1, 0, 0, 0), (244, .invokevirtual 134, 3, 130, 2, 211), (247, .aload_n 0, 1, 0, 0, 0), (248, .bipush 19, 2, 19, 0, 0), (250, .invokevirtual 128, 3, 123, 2, 205), (253, .aload_n 0, 1, 0, 0, 0), (254, .iload 4, 2, 0, 0, 0), (256, .iload 8, 2, 0, 0, 0), (258, .isub, 1, 0, 0, 0), (259, .iload 4, 2, 0, 0, 0), (261, .invokevirtual 134, 3, 130, 2, 211), (264, .return_, 1, 0, 0, 0)]
/-- RenameMergeModel.same (IIII)Z -/
def xtb_129 : List xI := [(0, .iload_n 2, 1, 0, 0, 0), (1, .iload_n 1, 1, 0, 0, 0), (2, .isub, 1, 0, 0, 0), (3, .iload 4, 2, 0, 0, 0), (5, .iload_n 3, 1, 0, 0, 0), (6, .isub, 1, 0, 0, 0), (7, .if_icmp .ne 7, 3, 14, 0, 0), (10, .iconst 1, 1, 1, 0, 0), (11, .goto 4, 3, 15, 0, 0), (14, .iconst 0, 1, 0, 0, 0), (15, .istore 5, 2, 0, 0, 0), (17, .iconst 0, 1, 0, 0, 0), (18, .istore 6, 2, 0, 0, 0), (20, .iload 5, 2, 0, 0, 0), (22, .ifCond .eq 45, 3, 67, 0, 0), (25, .iload 6, 2, 0, 0, 0), (27, .iload_n 2, 1, 0, 0, 0), (28, .iload_n 1, 1, 0, 0, 0), (29, .isub, 1, 0, 0, 0), (30, .if_icmp .ge 37, 3, 67, 0, 0), (33, .aload_n 0, 1, 0, 0, 0), (34, .getfield 16, 3, 7, 5, 157), (37, .iload_n 1, 1, 0, 0, 0), (38, .iload 6, 2, 0, 0, 0), (40, .iadd, 1, 0, 0, 0), (41, .baload, 1, 1, 0, 0), (42, .aload_n 0, 1, 0, 0, 0), (43, .getfield 16, 3, 7, 5, 157), (46, .iload_n 3, 1, 0, 0, 0), (47, .iload 6, 2, 0, 0, 0), (49, .iadd, 1, 0, 0, 0), (50, .baload, 1, 1, 0, 0), (51, .if_icmp .ne 7, 3, 58, 0, 0), (54, .iconst 1, 1, 1, 0, 0), (55, .goto 4, 3, 59, 0, 0), (58, .iconst 0, 1, 0, 0, 0), (59, .istore 5, 2, 0, 0, 0), (61, .iinc 6 1, 3, 1, 0, 0), (64, .goto (-44), 3, 20, 0, 0), (67, .iload 5, 2, 0, 0, 0), (69, .ireturn, 1, 1, 0, 0)]
/-- RenameMergeModel.writeAll (II)V -/
def xtb_130 : List xI := [(0, .iload_n 1, 1, 0, 0, 0), (1, .istore_n 3, 1, 0, 0, 0), (2, .iload_n 3, 1, 0, 0, 0), (3, .iload_n 2, 1, 0, 0, 0), (4, .if_icmp .ge 19, 3, 23, 0, 0), (7, .aload_n 0, 1, 0, 0, 0), (8, .aload_n 0, 1, 0, 0, 0), (9, .getfield 16, 3, 7, 5, 157), (12, .iload_n 3, 1, 0, 0, 0), (13, .baload, 1, 1, 0, 0), (14, .invokevirtual 128, 3, 123, 2, 205), (17, .iinc 3 1, 3, 1, 0, 0), (20, .goto (-18), 3, 2, 0, 0), (23, .return_, 1, 0, 0, 0)]
/-- RenameMergeModel.putOut (II)V -/
def xtb_131 : List xI := [(0, .aload_n 0, 1, 0, 0, 0), (1, .getfield 7, 3, 7, 3, 155), (4, .bipush 64, 2, 64, 0, 0), (6, .iload_n 1, 1, 0, 0, 0), (7, .imul, 1, 0, 0, 0), (8, .iload_n 2, 1, 0, 0, 0), (9, .iadd, 1, 0, 0, 0), (10, .aload_n 0, 1, 0, 0, 0), (11, .getfield 153, 3, 7, 13, 201), (14, .iastore, 1, 0, 0, 0), (15, .aload_n 0, 1, 0, 0, 0), (16, .getfield 13, 3, 7, 4, 156), (19, .bipush 64, 2, 64, 0, 0), (21, .iload_n 1, 1, 0, 0, 0), (22, .imul, 1, 0, 0, 0), (23, .iload_n 2, 1, 0, 0, 0), (24, .iadd, 1, 0, 0, 0), (25, .aload_n 0, 1, 0, 0, 0), (26, .getfield 125, 3, 7, 12, 204), (29, .iastore, 1, 0, 0, 0), (30, .iconst 0, 1, 0, 0, 0), (31, .istore_n 3, 1, 0, 0, 0), (32, .iload_n 3, 1, 0, 0, 0), (33, .aload_n 0, 1, 0, 0, 0), (34, .getfield 125, 3, 7, 12, 204), (37, .if_icmp .ge 27, 3, 64, 0, 0), (40, .aload_n 0, 1, 0, 0, 0), (41, .getfield 16, 3, 7, 5, 157), (44, .iload_n 1, 1, 0, 0, 0), (45, .iload_n 2, 1, 0, 0, 0), (46, .invokestatic 45, 3, 93, 4, 168), (49, .iload_n 3, 1, 0, 0, 0), (50, .iadd, 1, 0, 0, 0), (51, .aload_n 0, 1, 0, 0, 0), (52, .getfield 35, 3, 7, 11, 163), (55, .iload_n 3, 1, 0, 0, 0), (56, .baload, 1, 1, 0, 0), (57, .bastore, 1, 1, 0, 0), (58, .iinc 3 1, 3, 1, 0, 0), (61, .goto (-29), 3, 32, 0, 0), (64, .return_, 1, 0, 0, 0)]
/-- RenameMergeModel.finish (I)V -/
def xtb_132 : List xI := [(0, .aload_n 0, 1, 0, 0, 0), (1, .getfield 32, 3, 7, 10, 162), (4, .iload_n 1, 1, 0, 0, 0), (5, .iaload, 1, 0, 0, 0), (6, .bipush 16, 2, 16, 0, 0), (8, .iand, 1, 0, 0, 0), (9, .ifCond .eq 45, 3, 54, 0, 0), (12, .aload_n 0, 1, 0, 0, 0), (13, .iconst 5, 1, 5, 0, 0), (14, .iload_n 1, 1, 0, 0, 0), (15, .invokevirtual 49, 3, 91, 2, 166), (18, .ifCond .eq 13, 3, 31, 0, 0), (21, .aload_n 0, 1, 0, 0, 0), (22, .bipush 6, 2, 6, 0, 0), (24, .iload_n 1, 1, 0, 0, 0), (25, .invokevirtual 49, 3, 91, 2, 166), (28, .ifCond .ne 26, 3, 54, 0, 0), (31, .aload_n 0, 1, 0, 0, 0), (32, .aload_n 0, 1, 0, 0, 0), (33, .iconst 5, 1, 5, 0, 0), (34, .iload_n 1, 1, 0, 0, 0), (35, .invokevirtual 49, 3, 91, 2, 166), (38, .ifCond .eq 7, 3, 45, 0, 0), (41, .iconst 5, 1, 5, 0, 0), (42, .goto 5, 3, 47, 0, 0), (45, .bipush 6, 2, 6, 0, 0), (47, .iload_n 1, 1, 0, 0, 0), (48, .invokevirtual 159, 3, 122, 2, 197), (51, .goto 23, 3, 74, 0, 0), (54, .aload_n 0, 1, 0, 0, 0), (55, .iload_n 1, 1, 0, 0, 0), (56, .iload_n 1, 1, 0, 0, 0), (57, .iload_n 1, 1, 0, 0, 0), (58, .invokevirtual 168, 3, 121, 2, 194), (61, .aload_n 0, 1, 0, 0, 0), (62, .getfield 32, 3, 7, 10, 162), (65, .iload_n 1, 1, 0, 0, 0), (66, .dup2, 1, 0, 0, 0), (67, .iaload, 1, 0, 0, 0), (68, .aload_n 0, 1, 0, 0, 0), (69, .getfield 156, 3, 7, 14, 196), (72, .ior, 1, 0, 0, 0), (73, .iastore, 1, 0, 0, 0), (74, .aload_n 0, 1, 0, 0, 0), (75, .iconst 3, 1, 3, 0, 0), (76, .iload_n 1, 1, 0, 0, 0), (77, .invokevirtual 171, 3, 131, 2, 195), (80, .return_, 1, 0, 0, 0)]
/-- RenameMergeModel.kind (II)I -/
def xtb_133 : List xI := [(0, .iload_n 1, 1, 0, 0, 0), (1, .iconst 3, 1, 3, 0, 0), (2, .if_icmp .gt 26, 3, 28, 0, 0), (5, .aload_n 0, 1, 0, 0, 0), (6, .iload_n 1, 1, 0, 0, 0), (7, .iload_n 2, 1, 0, 0, 0), (8, .invokevirtual 49, 3, 91, 2, 166), (11, .ifCond .eq 17, 3, 28, 0, 0), (14, .aload_n 0, 1, 0, 0, 0), (15, .getfield 7, 3, 7, 3, 155), (18, .bipush 64, 2, 64, 0, 0), (20, .iload_n 1, 1, 0, 0, 0), (21, .imul, 1, 0, 0, 0), (22, .iload_n 2, 1, 0, 0, 0), (23, .iadd, 1, 0, 0, 0), (24, .iaload, 1, 0, 0, 0), (25, .goto 4, 3, 29, 0, 0), (28, .iconst 0, 1, 0, 0, 0), (29, .ireturn, 1, 0, 0, 0)]
/-- RenameMergeModel.length (II)I -/
def xtb_134 : List xI := [(0, .iload_n 1, 1, 0, 0, 0), (1, .iconst 3, 1, 3, 0, 0), (2, .if_icmp .gt 26, 3, 28, 0, 0), (5, .aload_n 0, 1, 0, 0, 0), (6, .iload_n 1, 1, 0, 0, 0), (7, .iload_n 2, 1, 0, 0, 0), (8, .invokevirtual 49, 3, 91, 2, 166), (11, .ifCond .eq 17, 3, 28, 0, 0), (14, .aload_n 0, 1, 0, 0, 0), (15, .getfield 13, 3, 7, 4, 156), (18, .bipush 64, 2, 64, 0, 0), (20, .iload_n 1, 1, 0, 0, 0), (21, .imul, 1, 0, 0, 0), (22, .iload_n 2, 1, 0, 0, 0), (23, .iadd, 1, 0, 0, 0), (24, .iaload, 1, 0, 0, 0), (25, .goto 4, 3, 29, 0, 0), (28, .iconst (-1), 1, 1, 1, 0), (29, .ireturn, 1, 0, 0, 0)]
/-- RenameMergeModel.line (III)I -/
def xtb_135 : List xI := [(0, .iload_n 3, 1, 0, 0, 0), (1, .ifCond .lt 28, 3, 29, 0, 0), (4, .iload_n 3, 1, 0, 0, 0), (5, .aload_n 0, 1, 0, 0, 0), (6, .iload_n 1, 1, 0, 0, 0), (7, .iload_n 2, 1, 0, 0, 0), (8, .invokevirtual 195, 3, 134, 2, 212), (11, .if_icmp .ge 18, 3, 29, 0, 0), (14, .aload_n 0, 1, 0, 0, 0), (15, .getfield 16, 3, 7, 5, 157), (18, .iload_n 1, 1, 0, 0, 0), (19, .iload_n 2, 1, 0, 0, 0), (20, .invokestatic 45, 3, 93, 4, 168), (23, .iload_n 3, 1, 0, 0, 0), (24, .iadd, 1, 0, 0, 0), (25, .baload, 1, 1, 0, 0), (26, .goto 4, 3, 30, 0, 0), (29, .iconst 0, 1, 0, 0, 0), (30, .ireturn, 1, 0, 0, 0)]
/-- RenameMergeModel.conflict (I)I -/
def xtb_136 : List xI := [(0, .iload_n 1, 1, 0, 0, 0), (1, .ifCond .lt 9, 3, 10, 0, 0), (4, .iload_n 1, 1, 0, 0, 0), (5, .bipush 63, 2, 63, 0, 0), (7, .if_icmp .le 7, 3, 14, 0, 0), (10, .iconst 0, 1, 0, 0, 0), (11, .goto 9, 3, 20, 0, 0), (14, .aload_n 0, 1, 0, 0, 0), (15, .getfield 32, 3, 7, 10, 162), (18, .iload_n 1, 1, 0, 0, 0), (19, .iaload, 1, 0, 0, 0), (20, .ireturn, 1, 0, 0, 0)]
/-- RenameMergeModel.staged (II)I -/
def xtb_137 : List xI := [(0, .iload_n 1, 1, 0, 0, 0), (1, .ifCond .lt 27, 3, 28, 0, 0), (4, .iload_n 1, 1, 0, 0, 0), (5, .iconst 2, 1, 2, 0, 0), (6, .if_icmp .gt 22, 3, 28, 0, 0), (9, .aload_n 0, 1, 0, 0, 0), (10, .iload_n 2, 1, 0, 0, 0), (11, .invokevirtual 198, 3, 136, 2, 213), (14, .ifCond .eq 14, 3, 28, 0, 0), (17, .aload_n 0, 1, 0, 0, 0), (18, .iconst 4, 1, 4, 0, 0), (19, .iload_n 1, 1, 0, 0, 0), (20, .iadd, 1, 0, 0, 0), (21, .iload_n 2, 1, 0, 0, 0), (22, .invokevirtual 49, 3, 91, 2, 166), (25, .ifCond .ne 5, 3, 30, 0, 0), (28, .iconst (-1), 1, 1, 1, 0), (29, .ireturn, 1, 0, 0, 0), (30, .aload_n 0, 1, 0, 0, 0), (31, .getfield 13, 3, 7, 4, 156), (34, .bipush 64, 2, 64, 0, 0), (36, .iconst 4, 1, 4, 0, 0), (37, .iload_n 1, 1, 0, 0, 0), (38, .iadd, 1, 0, 0, 0), (39, .imul, 1, 0, 0, 0), (40, .iload_n 2, 1, 0, 0, 0), (41, .iadd, 1, 0, 0, 0), (42, .iaload, 1, 0, 0, 0), (43, .ireturn, 1, 0, 0, 0)]
/-- RenameMergeModel.stagedLine (III)I -/
def xtb_138 : List xI := [(0, .iload_n 3, 1, 0, 0, 0), (1, .ifCond .lt 30, 3, 31, 0, 0), (4, .iload_n 3, 1, 0, 0, 0), (5, .aload_n 0, 1, 0, 0, 0), (6, .iload_n 1, 1, 0, 0, 0), (7, .iload_n 2, 1, 0, 0, 0), (8, .invokevirtual 200, 3, 137, 2, 214), (11, .if_icmp .ge 20, 3, 31, 0, 0), (14, .aload_n 0, 1, 0, 0, 0), (15, .getfield 16, 3, 7, 5, 157), (18, .iconst 4, 1, 4, 0, 0), (19, .iload_n 1, 1, 0, 0, 0), (20, .iadd, 1, 0, 0, 0), (21, .iload_n 2, 1, 0, 0, 0), (22, .invokestatic 45, 3, 93, 4, 168), (25, .iload_n 3, 1, 0, 0, 0), (26, .iadd, 1, 0, 0, 0), (27, .baload, 1, 1, 0, 0), (28, .goto 4, 3, 32, 0, 0), (31, .iconst 0, 1, 0, 0, 0), (32, .ireturn, 1, 0, 0, 0)]
/-- RenameMergeModel.renamed (II)I -/
def xtb_139 : List xI := [(0, .iload_n 1, 1, 0, 0, 0), (1, .iconst 1, 1, 1, 0, 0), (2, .if_icmp .lt 18, 3, 20, 0, 0), (5, .iload_n 1, 1, 0, 0, 0), (6, .iconst 2, 1, 2, 0, 0), (7, .if_icmp .gt 13, 3, 20, 0, 0), (10, .iload_n 2, 1, 0, 0, 0), (11, .ifCond .lt 9, 3, 20, 0, 0), (14, .iload_n 2, 1, 0, 0, 0), (15, .bipush 63, 2, 63, 0, 0), (17, .if_icmp .le 7, 3, 24, 0, 0), (20, .iconst (-1), 1, 1, 1, 0), (21, .goto 16, 3, 37, 0, 0), (24, .aload_n 0, 1, 0, 0, 0), (25, .getfield 20, 3, 7, 6, 158), (28, .bipush 64, 2, 64, 0, 0), (30, .iload_n 1, 1, 0, 0, 0), (31, .iconst 1, 1, 1, 0, 0), (32, .isub, 1, 0, 0, 0), (33, .imul, 1, 0, 0, 0), (34, .iload_n 2, 1, 0, 0, 0), (35, .iadd, 1, 0, 0, 0), (36, .iaload, 1, 0, 0, 0), (37, .ireturn, 1, 0, 0, 0)]
/-- RenameMergeModel.newPlace (II)I -/
def xtb_140 : List xI := [(0, .iload_n 1, 1, 0, 0, 0), (1, .iconst 1, 1, 1, 0, 0), (2, .if_icmp .lt 18, 3, 20, 0, 0), (5, .iload_n 1, 1, 0, 0, 0), (6, .iconst 2, 1, 2, 0, 0), (7, .if_icmp .gt 13, 3, 20, 0, 0), (10, .iload_n 2, 1, 0, 0, 0), (11, .ifCond .lt 9, 3, 20, 0, 0), (14, .iload_n 2, 1, 0, 0, 0), (15, .bipush 7, 2, 7, 0, 0), (17, .if_icmp .le 7, 3, 24, 0, 0), (20, .iconst (-1), 1, 1, 1, 0), (21, .goto 16, 3, 37, 0, 0), (24, .aload_n 0, 1, 0, 0, 0), (25, .getfield 29, 3, 7, 9, 161), (28, .bipush 8, 2, 8, 0, 0), (30, .iload_n 1, 1, 0, 0, 0), (31, .iconst 1, 1, 1, 0, 0), (32, .isub, 1, 0, 0, 0), (33, .imul, 1, 0, 0, 0), (34, .iload_n 2, 1, 0, 0, 0), (35, .iadd, 1, 0, 0, 0), (36, .iaload, 1, 0, 0, 0), (37, .ireturn, 1, 0, 0, 0)]
/-- RenameMergeModel.stands (II)I -/
def xtb_141 : List xI := [(0, .iload_n 1, 1, 0, 0, 0), (1, .iconst 1, 1, 1, 0, 0), (2, .if_icmp .lt 18, 3, 20, 0, 0), (5, .iload_n 1, 1, 0, 0, 0), (6, .iconst 2, 1, 2, 0, 0), (7, .if_icmp .gt 13, 3, 20, 0, 0), (10, .iload_n 2, 1, 0, 0, 0), (11, .ifCond .lt 9, 3, 20, 0, 0), (14, .iload_n 2, 1, 0, 0, 0), (15, .bipush 63, 2, 63, 0, 0), (17, .if_icmp .le 7, 3, 24, 0, 0), (20, .iconst (-1), 1, 1, 1, 0), (21, .goto 16, 3, 37, 0, 0), (24, .aload_n 0, 1, 0, 0, 0), (25, .getfield 26, 3, 7, 8, 160), (28, .bipush 64, 2, 64, 0, 0), (30, .iload_n 1, 1, 0, 0, 0), (31, .iconst 1, 1, 1, 0, 0), (32, .isub, 1, 0, 0, 0), (33, .imul, 1, 0, 0, 0), (34, .iload_n 2, 1, 0, 0, 0), (35, .iadd, 1, 0, 0, 0), (36, .iaload, 1, 0, 0, 0), (37, .ireturn, 1, 0, 0, 0)]
/-- RenameMergeLaw.cell ([II)I -/
def xtb_142 : List xI := [(0, .iload_n 1, 1, 0, 0, 0), (1, .aload_n 0, 1, 0, 0, 0), (2, .arraylength, 1, 0, 0, 0), (3, .if_icmp .ge 9, 3, 12, 0, 0), (6, .aload_n 0, 1, 0, 0, 0), (7, .iload_n 1, 1, 0, 0, 0), (8, .iaload, 1, 0, 0, 0), (9, .goto 4, 3, 13, 0, 0), (12, .iconst 0, 1, 0, 0, 0), (13, .ireturn, 1, 0, 0, 0)]
/-- RenameMergeLaw.law ([I)Z -/
def xtb_143 : List xI := [(0, .new 7, 3, 0, 5, 215), (3, .dup, 1, 0, 0, 0), (4, .aload_n 0, 1, 0, 0, 0), (5, .iconst 0, 1, 0, 0, 0), (6, .invokestatic 9, 3, 142, 4, 216), (9, .invokespecial 15, 3, 64, 0, 217), (12, .astore_n 1, 1, 0, 0, 0), (13, .new 18, 3, 7, 20, 218), (16, .dup, 1, 0, 0, 0), (17, .aload_n 0, 1, 0, 0, 0), (18, .iconst 0, 1, 0, 0, 0), (19, .invokestatic 9, 3, 142, 4, 216), (22, .invokespecial 20, 3, 89, 0, 219), (25, .astore_n 2, 1, 0, 0, 0), (26, .iconst 1, 1, 1, 0, 0), (27, .istore_n 3, 1, 0, 0, 0), (28, .iload_n 3, 1, 0, 0, 0), (29, .aload_n 0, 1, 0, 0, 0), (30, .arraylength, 1, 0, 0, 0), (31, .iconst 5, 1, 5, 0, 0), (32, .isub, 1, 0, 0, 0), (33, .if_icmp .gt 664, 3, 697, 0, 0), (36, .aload_n 0, 1, 0, 0, 0), (37, .iload_n 3, 1, 0, 0, 0), (38, .iaload, 1, 0, 0, 0), (39, .bipush 31, 2, 31, 0, 0), (41, .iand, 1, 0, 0, 0), (42, .tableswitch 649 0 16 #[82, 151, 184, 217, 240, 263, 276, 299, 332, 365, 408, 431, 464, 507, 540, 573, 606], 82, 0, 0, 0), (124, .aload_n 1, 1, 0, 0, 0), (125, .aload_n 0, 1, 0, 0, 0), (126, .iload_n 3, 1, 0, 0, 0), (127, .iconst 1, 1, 1, 0, 0), (128, .iadd, 1, 0, 0, 0), (129, .iaload, 1, 0, 0, 0), (130, .aload_n 0, 1, 0, 0, 0), (131, .iload_n 3, 1, 0, 0, 0), (132, .iconst 2, 1, 2, 0, 0), (133, .iadd, 1, 0, 0, 0), (134, .iaload, 1, 0, 0, 0), (135, .aload_n 0, 1, 0, 0, 0), (136, .iload_n 3, 1, 0, 0, 0), (137, .iconst 3, 1, 3, 0, 0), (138, .iadd, 1, 0, 0, 0), (139, .iaload, 1, 0, 0, 0), (140, .aload_n 0, 1, 0, 0, 0), (141, .iload_n 3, 1, 0, 0, 0), (142, .iconst 4, 1, 4, 0, 0), (143, .iadd, 1, 0, 0, 0), (144, .iaload, 1, 0, 0, 0), (145, .ifCond .eq 7, 3, 152, 0, 0), (148, .iconst 1, 1, 1, 0, 0), (149, .goto 4, 3, 153, 0, 0), (152, .iconst 0, 1, 0, 0, 0), (153, .invokevirtual 21, 3, 65, 2, 220), (156, .aload_n 2, 1, 0, 0, 0), (157, .aload_n 0, 1, 0, 0, 0), (158, .iload_n 3, 1, 0, 0, 0), (159, .iconst 1, 1, 1, 0, 0), (160, .iadd, 1, 0, 0, 0), (161, .iaload, 1, 0, 0, 0), (162, .aload_n 0, 1, 0, 0, 0), (163, .iload_n 3, 1, 0, 0, 0), (164, .iconst 2, 1, 2, 0, 0), (165, .iadd, 1, 0, 0, 0), (166, .iaload, 1, 0, 0, 0), (167, .aload_n 0, 1, 0, 0, 0), (168, .iload_n 3, 1, 0, 0, 0), (169, .iconst 3, 1, 3, 0, 0), (170, .iadd, 1, 0, 0, 0), (171, .iaload, 1, 0, 0, 0), (172, .aload_n 0, 1, 0, 0, 0), (173, .iload_n 3, 1, 0, 0, 0), (174, .iconst 4, 1, 4, 0, 0), (175, .iadd, 1, 0, 0, 0), (176, .iaload, 1, 0, 0, 0), (177, .ifCond .eq 7, 3, 184, 0, 0), (180, .iconst 1, 1, 1, 0, 0), (181, .goto 4, 3, 185, 0, 0), (184, .iconst 0, 1, 0, 0, 0), (185, .invokevirtual 25, 3, 92, 2, 221), (188, .if_icmp .eq 503, 3, 691, 0, 0), (191, .iconst 0, 1, 0, 0, 0), (192, .ireturn, 1, 1, 0, 0), (193, .aload_n 1, 1, 0, 0, 0), (194, .aload_n 0, 1, 0, 0, 0), (195, .iload_n 3, 1, 0, 0, 0), (196, .iconst 1, 1, 1, 0, 0), (197, .iadd, 1, 0, 0, 0), (198, .iaload, 1, 0, 0, 0), (199, .aload_n 0, 1, 0, 0, 0), (200, .iload_n 3, 1, 0, 0, 0), (201, .iconst 2, 1, 2, 0, 0), (202, .iadd, 1, 0, 0, 0), (203, .iaload, 1, 0, 0, 0), (204, .invokevirtual 26, 3, 69, 2, 222), (207, .aload_n 2, 1, 0, 0, 0), (208, .aload_n 0, 1, 0, 0, 0), (209, .iload_n 3, 1, 0, 0, 0), (210, .iconst 1, 1, 1, 0, 0), (211, .iadd, 1, 0, 0, 0), (212, .iaload, 1, 0, 0, 0), (213, .aload_n 0, 1, 0, 0, 0), (214, .iload_n 3, 1, 0, 0, 0), (215, .iconst 2, 1, 2, 0, 0), (216, .iadd, 1, 0, 0, 0), (217, .iaload, 1, 0, 0, 0), (218, .invokevirtual 30, 3, 94, 2, 223), (221, .if_icmp .eq 470, 3, 691, 0, 0), (224, .iconst 0, 1, 0, 0, 0), (225, .ireturn, 1, 1, 0, 0), (226, .aload_n 1, 1, 0, 0, 0), (227, .aload_n 0, 1, 0, 0, 0), (228, .iload_n 3, 1, 0, 0, 0), (229, .iconst 1, 1, 1, 0, 0), (230, .iadd, 1, 0, 0, 0), (231, .iaload, 1, 0, 0, 0), (232, .aload_n 0, 1, 0, 0, 0), (233, .iload_n 3, 1, 0, 0, 0), (234, .iconst 2, 1, 2, 0, 0), (235, .iadd, 1, 0, 0, 0), (236, .iaload, 1, 0, 0, 0), (237, .invokevirtual 31, 3, 70, 2, 224), (240, .aload_n 2, 1, 0, 0, 0), (241, .aload_n 0, 1, 0, 0, 0), (242, .iload_n 3, 1, 0, 0, 0), (243, .iconst 1, 1, 1, 0, 0), (244, .iadd, 1, 0, 0, 0), (245, .iaload, 1, 0, 0, 0), (246, .aload_n 0, 1, 0, 0, 0), (247, .iload_n 3, 1, 0, 0, 0), (248, .iconst 2, 1, 2, 0, 0), (249, .iadd, 1, 0, 0, 0), (250, .iaload, 1, 0, 0, 0), (251, .invokevirtual 34, 3, 96, 2, 225), (254, .if_icmp .eq 437, 3, 691, 0, 0), (257, .iconst 0, 1, 0, 0, 0), (258, .ireturn, 1, 1, 0, 0), (259, .aload_n 1, 1, 0, 0, 0), (260, .aload_n 0, 1, 0, 0, 0), (261, .iload_n 3, 1, 0, 0, 0), (262, .iconst 1, 1, 1, 0, 0), (263, .iadd, 1, 0, 0, 0), (264, .iaload, 1, 0, 0, 0), (265, .invokevirtual 35, 3, 71, 2, 226), (268, .aload_n 2, 1, 0, 0, 0), (269, .aload_n 0, 1, 0, 0, 0), (270, .iload_n 3, 1, 0, 0, 0), (271, .iconst 1, 1, 1, 0, 0), (272, .iadd, 1, 0, 0, 0), (273, .iaload, 1, 0, 0, 0), (274, .invokevirtual 39, 3, 98, 2, 227), (277, .if_icmp .eq 414, 3, 691, 0, 0), (280, .iconst 0, 1, 0, 0, 0), (281, .ireturn, 1, 1, 0, 0), (282, .aload_n 1, 1, 0, 0, 0), (283, .aload_n 0, 1, 0, 0, 0), (284, .iload_n 3, 1, 0, 0, 0), (285, .iconst 1, 1, 1, 0, 0), (286, .iadd, 1, 0, 0, 0), (287, .iaload, 1, 0, 0, 0), (288, .invokevirtual 40, 3, 72, 2, 228), (291, .aload_n 2, 1, 0, 0, 0), (292, .aload_n 0, 1, 0, 0, 0), (293, .iload_n 3, 1, 0, 0, 0), (294, .iconst 1, 1, 1, 0, 0), (295, .iadd, 1, 0, 0, 0), (296, .iaload, 1, 0, 0, 0), (297, .invokevirtual 43, 3, 99, 2, 229), (300, .if_icmp .eq 391, 3, 691, 0, 0), (303, .iconst 0, 1, 0, 0, 0), (304, .ireturn, 1, 1, 0, 0), (305, .aload_n 1, 1, 0, 0, 0), (306, .invokevirtual 44, 3, 73, 2, 230), (309, .aload_n 2, 1, 0, 0, 0), (310, .invokevirtual 48, 3, 103, 2, 231), (313, .if_icmp .eq 378, 3, 691, 0, 0), (316, .iconst 0, 1, 0, 0, 0), (317, .ireturn, 1, 1, 0, 0), (318, .aload_n 1, 1, 0, 0, 0), (319, .aload_n 0, 1, 0, 0, 0), (320, .iload_n 3, 1, 0, 0, 0), (321, .iconst 1, 1, 1, 0, 0), (322, .iadd, 1, 0, 0, 0), (323, .iaload, 1, 0, 0, 0), (324, .invokevirtual 49, 3, 76, 2, 232), (327, .aload_n 2, 1, 0, 0, 0), (328, .aload_n 0, 1, 0, 0, 0), (329, .iload_n 3, 1, 0, 0, 0), (330, .iconst 1, 1, 1, 0, 0), (331, .iadd, 1, 0, 0, 0), (332, .iaload, 1, 0, 0, 0), (333, .invokevirtual 53, 3, 90, 2, 233), (336, .if_icmp .eq 355, 3, 691, 0, 0), (339, .iconst 0, 1, 0, 0, 0), (340, .ireturn, 1, 1, 0, 0), (341, .aload_n 1, 1, 0, 0, 0), (342, .aload_n 0, 1, 0, 0, 0), (343, .iload_n 3, 1, 0, 0, 0), (344, .iconst 1, 1, 1, 0, 0), (345, .iadd, 1, 0, 0, 0), (346, .iaload, 1, 0, 0, 0), (347, .aload_n 0, 1, 0, 0, 0), (348, .iload_n 3, 1, 0, 0, 0), (349, .iconst 2, 1, 2, 0, 0), (350, .iadd, 1, 0, 0, 0), (351, .iaload, 1, 0, 0, 0), (352, .invokevirtual 54, 3, 78, 2, 234), (355, .aload_n 2, 1, 0, 0, 0), (356, .aload_n 0, 1, 0, 0, 0), (357, .iload_n 3, 1, 0, 0, 0), (358, .iconst 1, 1, 1, 0, 0), (359, .iadd, 1, 0, 0, 0), (360, .iaload, 1, 0, 0, 0), (361, .aload_n 0, 1, 0, 0, 0), (362, .iload_n 3, 1, 0, 0, 0), (363, .iconst 2, 1, 2, 0, 0), (364, .iadd, 1, 0, 0, 0), (365, .iaload, 1, 0, 0, 0), (366, .invokevirtual 58, 3, 133, 2, 235), (369, .if_icmp .eq 322, 3, 691, 0, 0), (372, .iconst 0, 1, 0, 0, 0), (373, .ireturn, 1, 1, 0, 0), (374, .aload_n 1, 1, 0, 0, 0), (375, .aload_n 0, 1, 0, 0, 0), (376, .iload_n 3, 1, 0, 0, 0), (377, .iconst 1, 1, 1, 0, 0), (378, .iadd, 1, 0, 0, 0), (379, .iaload, 1, 0, 0, 0), (380, .aload_n 0, 1, 0, 0, 0), (381, .iload_n 3, 1, 0, 0, 0), (382, .iconst 2, 1, 2, 0, 0), (383, .iadd, 1, 0, 0, 0), (384, .iaload, 1, 0, 0, 0), (385, .invokevirtual 59, 3, 80, 2, 236), (388, .aload_n 2, 1, 0, 0, 0), (389, .aload_n 0, 1, 0, 0, 0), (390, .iload_n 3, 1, 0, 0, 0), (391, .iconst 1, 1, 1, 0, 0), (392, .iadd, 1, 0, 0, 0), (393, .iaload, 1, 0, 0, 0), (394, .aload_n 0, 1, 0, 0, 0), (395, .iload_n 3, 1, 0, 0, 0), (396, .iconst 2, 1, 2, 0, 0), (397, .iadd, 1, 0, 0, 0), (398, .iaload, 1, 0, 0, 0), (399, .invokevirtual 62, 3, 134, 2, 237), (402, .if_icmp .eq 289, 3, 691, 0, 0), (405, .iconst 0, 1, 0, 0, 0), (406, .ireturn, 1, 1, 0, 0), (407, .aload_n 1, 1, 0, 0, 0), (408, .aload_n 0, 1, 0, 0, 0), (409, .iload_n 3, 1, 0, 0, 0), (410, .iconst 1, 1, 1, 0, 0), (411, .iadd, 1, 0, 0, 0), (412, .iaload, 1, 0, 0, 0), (413, .aload_n 0, 1, 0, 0, 0), (414, .iload_n 3, 1, 0, 0, 0), (415, .iconst 2, 1, 2, 0, 0), (416, .iadd, 1, 0, 0, 0), (417, .iaload, 1, 0, 0, 0), (418, .aload_n 0, 1, 0, 0, 0), (419, .iload_n 3, 1, 0, 0, 0), (420, .iconst 3, 1, 3, 0, 0), (421, .iadd, 1, 0, 0, 0), (422, .iaload, 1, 0, 0, 0), (423, .invokevirtual 63, 3, 81, 2, 238), (426, .aload_n 2, 1, 0, 0, 0), (427, .aload_n 0, 1, 0, 0, 0), (428, .iload_n 3, 1, 0, 0, 0), (429, .iconst 1, 1, 1, 0, 0), (430, .iadd, 1, 0, 0, 0), (431, .iaload, 1, 0, 0, 0), (432, .aload_n 0, 1, 0, 0, 0), (433, .iload_n 3, 1, 0, 0, 0), (434, .iconst 2, 1, 2, 0, 0), (435, .iadd, 1, 0, 0, 0), (436, .iaload, 1, 0, 0, 0), (437, .aload_n 0, 1, 0, 0, 0), (438, .iload_n 3, 1, 0, 0, 0), (439, .iconst 3, 1, 3, 0, 0), (440, .iadd, 1, 0, 0, 0), (441, .iaload, 1, 0, 0, 0), (442, .invokevirtual 67, 3, 135, 2, 239), (445, .if_icmp .eq 246, 3, 691, 0, 0), (448, .iconst 0, 1, 0, 0, 0), (449, .ireturn, 1, 1, 0, 0), (450, .aload_n 1, 1, 0, 0, 0), (451, .aload_n 0, 1, 0, 0, 0), (452, .iload_n 3, 1, 0, 0, 0), (453, .iconst 1, 1, 1, 0, 0), (454, .iadd, 1, 0, 0, 0), (455, .iaload, 1, 0, 0, 0), (456, .invokevirtual 68, 3, 82, 2, 240), (459, .aload_n 2, 1, 0, 0, 0), (460, .aload_n 0, 1, 0, 0, 0), (461, .iload_n 3, 1, 0, 0, 0), (462, .iconst 1, 1, 1, 0, 0), (463, .iadd, 1, 0, 0, 0), (464, .iaload, 1, 0, 0, 0), (465, .invokevirtual 71, 3, 136, 2, 241), (468, .if_icmp .eq 223, 3, 691, 0, 0), (471, .iconst 0, 1, 0, 0, 0), (472, .ireturn, 1, 1, 0, 0), (473, .aload_n 1, 1, 0, 0, 0), (474, .aload_n 0, 1, 0, 0, 0), (475, .iload_n 3, 1, 0, 0, 0), (476, .iconst 1, 1, 1, 0, 0), (477, .iadd, 1, 0, 0, 0), (478, .iaload, 1, 0, 0, 0), (479, .aload_n 0, 1, 0, 0, 0), (480, .iload_n 3, 1, 0, 0, 0), (481, .iconst 2, 1, 2, 0, 0), (482, .iadd, 1, 0, 0, 0), (483, .iaload, 1, 0, 0, 0), (484, .invokevirtual 72, 3, 83, 2, 242), (487, .aload_n 2, 1, 0, 0, 0), (488, .aload_n 0, 1, 0, 0, 0), (489, .iload_n 3, 1, 0, 0, 0), (490, .iconst 1, 1, 1, 0, 0), (491, .iadd, 1, 0, 0, 0), (492, .iaload, 1, 0, 0, 0), (493, .aload_n 0, 1, 0, 0, 0), (494, .iload_n 3, 1, 0, 0, 0), (495, .iconst 2, 1, 2, 0, 0), (496, .iadd, 1, 0, 0, 0), (497, .iaload, 1, 0, 0, 0), (498, .invokevirtual 75, 3, 137, 2, 243), (501, .if_icmp .eq 190, 3, 691, 0, 0), (504, .iconst 0, 1, 0, 0, 0), (505, .ireturn, 1, 1, 0, 0), (506, .aload_n 1, 1, 0, 0, 0), (507, .aload_n 0, 1, 0, 0, 0), (508, .iload_n 3, 1, 0, 0, 0), (509, .iconst 1, 1, 1, 0, 0), (510, .iadd, 1, 0, 0, 0), (511, .iaload, 1, 0, 0, 0), (512, .aload_n 0, 1, 0, 0, 0), (513, .iload_n 3, 1, 0, 0, 0), (514, .iconst 2, 1, 2, 0, 0), (515, .iadd, 1, 0, 0, 0), (516, .iaload, 1, 0, 0, 0), (517, .aload_n 0, 1, 0, 0, 0), (518, .iload_n 3, 1, 0, 0, 0), (519, .iconst 3, 1, 3, 0, 0), (520, .iadd, 1, 0, 0, 0), (521, .iaload, 1, 0, 0, 0), (522, .invokevirtual 76, 3, 84, 2, 244), (525, .aload_n 2, 1, 0, 0, 0), (526, .aload_n 0, 1, 0, 0, 0), (527, .iload_n 3, 1, 0, 0, 0), (528, .iconst 1, 1, 1, 0, 0), (529, .iadd, 1, 0, 0, 0), (530, .iaload, 1, 0, 0, 0), (531, .aload_n 0, 1, 0, 0, 0), (532, .iload_n 3, 1, 0, 0, 0), (533, .iconst 2, 1, 2, 0, 0), (534, .iadd, 1, 0, 0, 0), (535, .iaload, 1, 0, 0, 0), (536, .aload_n 0, 1, 0, 0, 0), (537, .iload_n 3, 1, 0, 0, 0), (538, .iconst 3, 1, 3, 0, 0), (539, .iadd, 1, 0, 0, 0), (540, .iaload, 1, 0, 0, 0), (541, .invokevirtual 79, 3, 138, 2, 245), (544, .if_icmp .eq 147, 3, 691, 0, 0), (547, .iconst 0, 1, 0, 0, 0), (548, .ireturn, 1, 1, 0, 0), (549, .aload_n 1, 1, 0, 0, 0), (550, .aload_n 0, 1, 0, 0, 0), (551, .iload_n 3, 1, 0, 0, 0), (552, .iconst 1, 1, 1, 0, 0), (553, .iadd, 1, 0, 0, 0), (554, .iaload, 1, 0, 0, 0), (555, .aload_n 0, 1, 0, 0, 0), (556, .iload_n 3, 1, 0, 0, 0), (557, .iconst 2, 1, 2, 0, 0), (558, .iadd, 1, 0, 0, 0), (559, .iaload, 1, 0, 0, 0), (560, .invokevirtual 80, 3, 85, 2, 246), (563, .aload_n 2, 1, 0, 0, 0), (564, .aload_n 0, 1, 0, 0, 0), (565, .iload_n 3, 1, 0, 0, 0), (566, .iconst 1, 1, 1, 0, 0), (567, .iadd, 1, 0, 0, 0), (568, .iaload, 1, 0, 0, 0), (569, .aload_n 0, 1, 0, 0, 0), (570, .iload_n 3, 1, 0, 0, 0), (571, .iconst 2, 1, 2, 0, 0), (572, .iadd, 1, 0, 0, 0), (573, .iaload, 1, 0, 0, 0), (574, .invokevirtual 83, 3, 139, 2, 247), (577, .if_icmp .eq 114, 3, 691, 0, 0), (580, .iconst 0, 1, 0, 0, 0), (581, .ireturn, 1, 1, 0, 0), (582, .aload_n 1, 1, 0, 0, 0), (583, .aload_n 0, 1, 0, 0, 0), (584, .iload_n 3, 1, 0, 0, 0), (585, .iconst 1, 1, 1, 0, 0), (586, .iadd, 1, 0, 0, 0), (587, .iaload, 1, 0, 0, 0), (588, .aload_n 0, 1, 0, 0, 0), (589, .iload_n 3, 1, 0, 0, 0), (590, .iconst 2, 1, 2, 0, 0), (591, .iadd, 1, 0, 0, 0), (592, .iaload, 1, 0, 0, 0), (593, .invokevirtual 84, 3, 86, 2, 248), (596, .aload_n 2, 1, 0, 0, 0), (597, .aload_n 0, 1, 0, 0, 0), (598, .iload_n 3, 1, 0, 0, 0), (599, .iconst 1, 1, 1, 0, 0), (600, .iadd, 1, 0, 0, 0), (601, .iaload, 1, 0, 0, 0), (602, .aload_n 0, 1, 0, 0, 0), (603, .iload_n 3, 1, 0, 0, 0), (604, .iconst 2, 1, 2, 0, 0), (605, .iadd, 1, 0, 0, 0), (606, .iaload, 1, 0, 0, 0), (607, .invokevirtual 87, 3, 140, 2, 249), (610, .if_icmp .eq 81, 3, 691, 0, 0), (613, .iconst 0, 1, 0, 0, 0), (614, .ireturn, 1, 1, 0, 0), (615, .aload_n 1, 1, 0, 0, 0), (616, .aload_n 0, 1, 0, 0, 0), (617, .iload_n 3, 1, 0, 0, 0), (618, .iconst 1, 1, 1, 0, 0), (619, .iadd, 1, 0, 0, 0), (620, .iaload, 1, 0, 0, 0), (621, .aload_n 0, 1, 0, 0, 0), (622, .iload_n 3, 1, 0, 0, 0), (623, .iconst 2, 1, 2, 0, 0), (624, .iadd, 1, 0, 0, 0), (625, .iaload, 1, 0, 0, 0), (626, .invokevirtual 88, 3, 87, 2, 250), (629, .aload_n 2, 1, 0, 0, 0), (630, .aload_n 0, 1, 0, 0, 0), (631, .iload_n 3, 1, 0, 0, 0), (632, .iconst 1, 1, 1, 0, 0), (633, .iadd, 1, 0, 0, 0), (634, .iaload, 1, 0, 0, 0), (635, .aload_n 0, 1, 0, 0, 0), (636, .iload_n 3, 1, 0, 0, 0), (637, .iconst 2, 1, 2, 0, 0), (638, .iadd, 1, 0, 0, 0), (639, .iaload, 1, 0, 0, 0), (640, .invokevirtual 91, 3, 141, 2, 251), (643, .if_icmp .eq 48, 3, 691, 0, 0), (646, .iconst 0, 1, 0, 0, 0), (647, .ireturn, 1, 1, 0, 0), (648, .aload_n 1, 1, 0, 0, 0), (649, .aload_n 0, 1, 0, 0, 0), (650, .iload_n 3, 1, 0, 0, 0), (651, .iconst 1, 1, 1, 0, 0), (652, .iadd, 1, 0, 0, 0), (653, .iaload, 1, 0, 0, 0), (654, .aload_n 0, 1, 0, 0, 0), (655, .iload_n 3, 1, 0, 0, 0), (656, .iconst 2, 1, 2, 0, 0), (657, .iadd, 1, 0, 0, 0), (658, .iaload, 1, 0, 0, 0), (659, .aload_n 0, 1, 0, 0, 0), (660, .iload_n 3, 1, 0, 0, 0), (661, .iconst 3, 1, 3, 0, 0), (662, .iadd, 1, 0, 0, 0), (663, .iaload, 1, 0, 0, 0), (664, .invokevirtual 92, 3, 88, 2, 252), (667, .aload_n 2, 1, 0, 0, 0), (668, .aload_n 0, 1, 0, 0, 0), (669, .iload_n 3, 1, 0, 0, 0), (670, .iconst 1, 1, 1, 0, 0), (671, .iadd, 1, 0, 0, 0), (672, .iaload, 1, 0, 0, 0), (673, .aload_n 0, 1, 0, 0, 0), (674, .iload_n 3, 1, 0, 0, 0), (675, .iconst 2, 1, 2, 0, 0), (676, .iadd, 1, 0, 0, 0), (677, .iaload, 1, 0, 0, 0), (678, .aload_n 0, 1, 0, 0, 0), (679, .iload_n 3, 1, 0, 0, 0), (680, .iconst 3, 1, 3, 0, 0), (681, .iadd, 1, 0, 0, 0), (682, .iaload, 1, 0, 0, 0), (683, .invokevirtual 95, 3, 100, 2, 253), (686, .if_icmp .eq 5, 3, 691, 0, 0), (689, .iconst 0, 1, 0, 0, 0), (690, .ireturn, 1, 1, 0, 0), (691, .iinc 3 5, 3, 5, 0, 0), (694, .goto (-666), 3, 28, 0, 0), (697, .iconst 1, 1, 1, 0, 0), (698, .ireturn, 1, 1, 0, 0)]
def xtbs : List (List xI) := [xtb_0, xtb_1, xtb_2, xtb_3, xtb_4, xtb_5, xtb_6, xtb_7, xtb_8, xtb_9, xtb_10, xtb_11, xtb_12, xtb_13, xtb_14, xtb_15, xtb_16, xtb_17, xtb_18, xtb_19, xtb_20, xtb_21, xtb_22, xtb_23, xtb_24, xtb_25, xtb_26, xtb_27, xtb_28, xtb_29, xtb_30, xtb_31, xtb_32, xtb_33, xtb_34, xtb_35, xtb_36, xtb_37, xtb_38, xtb_39, xtb_40, xtb_41, xtb_42, xtb_43, xtb_44, xtb_45, xtb_46, xtb_47, xtb_48, xtb_49, xtb_50, xtb_51, xtb_52, xtb_53, xtb_54, xtb_55, xtb_56, xtb_57, xtb_58, xtb_59, xtb_60, xtb_61, xtb_62, xtb_63, xtb_64, xtb_65, xtb_66, xtb_67, xtb_68, xtb_69, xtb_70, xtb_71, xtb_72, xtb_73, xtb_74, xtb_75, xtb_76, xtb_77, xtb_78, xtb_79, xtb_80, xtb_81, xtb_82, xtb_83, xtb_84, xtb_85, xtb_86, xtb_87, xtb_88, xtb_89, xtb_90, xtb_91, xtb_92, xtb_93, xtb_94, xtb_95, xtb_96, xtb_97, xtb_98, xtb_99, xtb_100, xtb_101, xtb_102, xtb_103, xtb_104, xtb_105, xtb_106, xtb_107, xtb_108, xtb_109, xtb_110, xtb_111, xtb_112, xtb_113, xtb_114, xtb_115, xtb_116, xtb_117, xtb_118, xtb_119, xtb_120, xtb_121, xtb_122, xtb_123, xtb_124, xtb_125, xtb_126, xtb_127, xtb_128, xtb_129, xtb_130, xtb_131, xtb_132, xtb_133, xtb_134, xtb_135, xtb_136, xtb_137, xtb_138, xtb_139, xtb_140, xtb_141, xtb_142, xtb_143]
def xtb (y : Nat) : List xI := xtbs.getD y []
end
section
def xc0 : vw_C := ("", fun _ => ("", "", "", false), 0)
/-- by number: 0 without an object, 1 on one, 2 a constructor -/
def xmks : List Nat := [0, 0, 2, 0, 1, 0, 1, 2, 1, 1, 1, 1, 1, 1, 1, 1, 2, 1, 1, 1, 1, 1, 0, 1, 0, 1, 1, 1, 1, 1, 1, 1, 1, 1, 1, 1, 2, 1, 1, 1, 1, 1, 1, 2, 1, 1, 1, 1, 1, 1, 1, 1, 2, 1, 1, 1, 1, 1, 1, 1, 1, 1, 1, 1, 2, 1, 0, 0, 0, 1, 1, 1, 1, 1, 0, 0, 1, 0, 1, 1, 1, 1, 1, 1, 1, 1, 1, 1, 1, 2, 1, 1, 1, 0, 1, 1, 1, 1, 1, 1, 1, 1, 1, 1, 1, 1, 1, 1, 1, 1, 1, 1, 1, 1, 1, 1, 1, 1, 1, 1, 1, 1, 1, 1, 1, 1, 0, 1, 1, 1, 1, 1, 1, 1, 1, 1, 1, 1, 1, 1, 1, 1, 0]
def xmk (y : Nat) : Nat := xmks.getD y 9
/-! the rows, against the bytes -/
def xvc (own idx a b w k : Nat) : Bool :=
  if b = 2 * k then decide (a < 143) && decide ((xlw[w]?).map (fun q => q.2) = some (1, own, idx, a, 0))
  else decide (b = 2 * k + 1) && decide (a < 143) && decide (xNm[w]? = some (own, idx, a))
def xvf (own idx a b w : Nat) : Bool := decide (a < 8) && decide (b < (xcl.getD a xc0).2.2) && decide ((xlw[w]?).map (fun q => q.2) = some (0, own, idx, a, b))
def xvk (own idx w k a : Nat) : Bool := decide ((xlw[w]?).map (fun q => q.2) = some (k, own, idx, a, 0))
def xvi (own : Nat) (rt : Option FieldType) (nL : Nat) (ini : Bool) (pc : Nat) (i : Instr) (len a b w : Nat) : Bool := match i with
  | .iconst n => decide (len = 1) && decide (Int32.ofInt n = xk a b)
  | .bipush n => decide (len = 2) && decide ((Int8.ofInt n).toInt32 = xk a b)
  | .sipush n => decide (len = 3) && decide ((Int16.ofInt n).toInt32 = xk a b)
  | .istore_n k => decide (len = 1) && decide (k.val < nL)
  | .astore_n k => decide (len = 1) && decide (k.val < nL)
  | .istore k => decide (len = 2) && decide (k < nL)
  | .astore k => decide (len = 2) && decide (k < nL)
  | .iload _ => decide (len = 2)
  | .aload _ => decide (len = 2)
  | .iinc k n => decide (len = 3) && decide (k < nL) && decide (Int32.ofInt n = xk a b)
  | .ifCond _ off => decide (len = 3) && decide ((pc : Int) + off = (a : Int))
  | .if_icmp _ off => decide (len = 3) && decide ((pc : Int) + off = (a : Int))
  | .ifnull off => decide (len = 3) && decide ((pc : Int) + off = (a : Int))
  | .ifnonnull off => decide (len = 3) && decide ((pc : Int) + off = (a : Int))
  | .goto off => decide (len = 3) && decide ((pc : Int) + off = (a : Int))
  | .tableswitch _ _ _ _ => true
  | .baload => decide (len = 1) && decide (a = 1 ∨ a = 2)
  | .bastore => decide (len = 1) && decide (a = 1 ∨ a = 2)
  | .aastore => decide (len = 1) && decide (a < 2)
  | .getfield idx => decide (len = 3) && xvf own idx a b w
  | .putfield idx => decide (len = 3) && xvf own idx a b w && (!((xcl.getD a xc0).2.1 b).2.2.2 || (ini && decide (a = own)))
  | .new idx => decide (len = 3) && decide (a < 8) && decide (b = (xcl.getD a xc0).2.2) && xvk own idx w 2 a
  | .newarray q => decide (len = 2) && decide (newarray.typeOf q = xty a) && decide (a < 3)
  | .anewarray idx => decide (len = 3) && decide (a < 2) && xvk own idx w 3 a
  | .multianewarray idx n => decide (len = 4) && decide (n = 2) && xvk own idx w 4 0
  | .getstatic idx => decide (len = 3) && decide (xNf[w]? = some (own, idx))
  | .checkcast idx => decide (len = 3) && xvk own idx w 5 0
  | .invokespecial idx => decide (len = 3) && (if b = 6 then xvk own idx w 6 0 else xvc own idx a b w 0 && decide (xmk a = 2))
  | .invokevirtual idx => decide (len = 3) && (if b = 7 then xvk own idx w 7 0 else xvc own idx a b w 1 && decide (xmk a = 1))
  | .invokestatic idx => decide (len = 3) && (if b = 8 then xvk own idx w 8 0 else if b = 9 then xvk own idx w 9 0 else if b = 10 then xvk own idx w 10 0 else xvc own idx a b w 2 && decide (xmk a = 0))
  | .ireturn => decide (len = 1) && (if a = 1 then decide (rt = some .boolean) else decide (rt = some .int))
  | .areturn => decide (len = 1) && (match rt with
    | some (.object _) => true
    | some (.array _) => true
    | _ => false)
  | .return_ => decide (len = 1) && decide (rt = none)
  | _ => decide (len = 1)
def xvl (own : Nat) (rt : Option FieldType) (cc : ByteArray) (nL : Nat) (ini : Bool) (r : xI) : Bool := decide (decode cc r.1 = .ok (r.2.1, r.2.2.1)) && xvi own rt nL ini r.1 r.2.1 r.2.2.1 r.2.2.2.1 r.2.2.2.2.1 r.2.2.2.2.2
def xvm (y : Nat) : Bool := (xtb y).all (xvl (xmo y) (xmr y) (xmb y) (xml y) (decide ((xmn y).name = "<init>")))
end
section
/-! checked: methods 0 to 26 -/
set_option maxRecDepth 100000 in
theorem xv_0 : xvm 0 = true := by decide +kernel
set_option maxRecDepth 100000 in
theorem xv_1 : xvm 1 = true := by decide +kernel
set_option maxRecDepth 100000 in
theorem xv_2 : xvm 2 = true := by decide +kernel
set_option maxRecDepth 100000 in
theorem xv_3 : xvm 3 = true := by decide +kernel
set_option maxRecDepth 100000 in
theorem xv_4 : xvm 4 = true := by decide +kernel
set_option maxRecDepth 100000 in
theorem xv_5 : xvm 5 = true := by decide +kernel
set_option maxRecDepth 100000 in
theorem xv_6 : xvm 6 = true := by decide +kernel
set_option maxRecDepth 100000 in
theorem xv_7 : xvm 7 = true := by decide +kernel
set_option maxRecDepth 100000 in
theorem xv_8 : xvm 8 = true := by decide +kernel
set_option maxRecDepth 100000 in
theorem xv_9 : xvm 9 = true := by decide +kernel
set_option maxRecDepth 100000 in
theorem xv_10 : xvm 10 = true := by decide +kernel
set_option maxRecDepth 100000 in
theorem xv_11 : xvm 11 = true := by decide +kernel
set_option maxRecDepth 100000 in
theorem xv_12 : xvm 12 = true := by decide +kernel
set_option maxRecDepth 100000 in
theorem xv_13 : xvm 13 = true := by decide +kernel
set_option maxRecDepth 100000 in
theorem xv_14 : xvm 14 = true := by decide +kernel
set_option maxRecDepth 100000 in
theorem xv_15 : xvm 15 = true := by decide +kernel
set_option maxRecDepth 100000 in
theorem xv_16 : xvm 16 = true := by decide +kernel
set_option maxRecDepth 100000 in
theorem xv_17 : xvm 17 = true := by decide +kernel
set_option maxRecDepth 100000 in
theorem xv_18 : xvm 18 = true := by decide +kernel
set_option maxRecDepth 100000 in
theorem xv_19 : xvm 19 = true := by decide +kernel
set_option maxRecDepth 100000 in
theorem xv_20 : xvm 20 = true := by decide +kernel
set_option maxRecDepth 100000 in
theorem xv_21 : xvm 21 = true := by decide +kernel
set_option maxRecDepth 100000 in
theorem xv_22 : xvm 22 = true := by decide +kernel
set_option maxRecDepth 100000 in
theorem xv_23 : xvm 23 = true := by decide +kernel
set_option maxRecDepth 100000 in
theorem xv_24 : xvm 24 = true := by decide +kernel
set_option maxRecDepth 100000 in
theorem xv_25 : xvm 25 = true := by decide +kernel
set_option maxRecDepth 100000 in
theorem xv_26 : xvm 26 = true := by decide +kernel
end
section
/-! checked: methods 27 to 45 -/
set_option maxRecDepth 100000 in
theorem xv_27 : xvm 27 = true := by decide +kernel
set_option maxRecDepth 100000 in
theorem xv_28 : xvm 28 = true := by decide +kernel
set_option maxRecDepth 100000 in
theorem xv_29 : xvm 29 = true := by decide +kernel
set_option maxRecDepth 100000 in
theorem xv_30 : xvm 30 = true := by decide +kernel
set_option maxRecDepth 100000 in
theorem xv_31 : xvm 31 = true := by decide +kernel
set_option maxRecDepth 100000 in
theorem xv_32 : xvm 32 = true := by decide +kernel
set_option maxRecDepth 100000 in
theorem xv_33 : xvm 33 = true := by decide +kernel
set_option maxRecDepth 100000 in
theorem xv_34 : xvm 34 = true := by decide +kernel
set_option maxRecDepth 100000 in
theorem xv_35 : xvm 35 = true := by decide +kernel
set_option maxRecDepth 100000 in
theorem xv_36 : xvm 36 = true := by decide +kernel
set_option maxRecDepth 100000 in
theorem xv_37 : xvm 37 = true := by decide +kernel
set_option maxRecDepth 100000 in
theorem xv_38 : xvm 38 = true := by decide +kernel
set_option maxRecDepth 100000 in
theorem xv_39 : xvm 39 = true := by decide +kernel
set_option maxRecDepth 100000 in
theorem xv_40 : xvm 40 = true := by decide +kernel
set_option maxRecDepth 100000 in
theorem xv_41 : xvm 41 = true := by decide +kernel
set_option maxRecDepth 100000 in
theorem xv_42 : xvm 42 = true := by decide +kernel
set_option maxRecDepth 100000 in
theorem xv_43 : xvm 43 = true := by decide +kernel
set_option maxRecDepth 100000 in
theorem xv_44 : xvm 44 = true := by decide +kernel
set_option maxRecDepth 100000 in
theorem xv_45 : xvm 45 = true := by decide +kernel
end
section
/-! checked: methods 46 to 60 -/
set_option maxRecDepth 100000 in
theorem xv_46 : xvm 46 = true := by decide +kernel
set_option maxRecDepth 100000 in
theorem xv_47 : xvm 47 = true := by decide +kernel
set_option maxRecDepth 100000 in
theorem xv_48 : xvm 48 = true := by decide +kernel
set_option maxRecDepth 100000 in
theorem xv_49 : xvm 49 = true := by decide +kernel
set_option maxRecDepth 100000 in
theorem xv_50 : xvm 50 = true := by decide +kernel
set_option maxRecDepth 100000 in
theorem xv_51 : xvm 51 = true := by decide +kernel
set_option maxRecDepth 100000 in
theorem xv_52 : xvm 52 = true := by decide +kernel
set_option maxRecDepth 100000 in
theorem xv_53 : xvm 53 = true := by decide +kernel
set_option maxRecDepth 100000 in
theorem xv_54 : xvm 54 = true := by decide +kernel
set_option maxRecDepth 100000 in
theorem xv_55 : xvm 55 = true := by decide +kernel
set_option maxRecDepth 100000 in
theorem xv_56 : xvm 56 = true := by decide +kernel
set_option maxRecDepth 100000 in
theorem xv_57 : xvm 57 = true := by decide +kernel
set_option maxRecDepth 100000 in
theorem xv_58 : xvm 58 = true := by decide +kernel
set_option maxRecDepth 100000 in
theorem xv_59 : xvm 59 = true := by decide +kernel
set_option maxRecDepth 100000 in
theorem xv_60 : xvm 60 = true := by decide +kernel
end
section
/-! checked: methods 61 to 91 -/
set_option maxRecDepth 100000 in
theorem xv_61 : xvm 61 = true := by decide +kernel
set_option maxRecDepth 100000 in
theorem xv_62 : xvm 62 = true := by decide +kernel
set_option maxRecDepth 100000 in
theorem xv_63 : xvm 63 = true := by decide +kernel
set_option maxRecDepth 100000 in
theorem xv_64 : xvm 64 = true := by decide +kernel
set_option maxRecDepth 100000 in
theorem xv_65 : xvm 65 = true := by decide +kernel
set_option maxRecDepth 100000 in
theorem xv_66 : xvm 66 = true := by decide +kernel
set_option maxRecDepth 100000 in
theorem xv_67 : xvm 67 = true := by decide +kernel
set_option maxRecDepth 100000 in
theorem xv_68 : xvm 68 = true := by decide +kernel
set_option maxRecDepth 100000 in
theorem xv_69 : xvm 69 = true := by decide +kernel
set_option maxRecDepth 100000 in
theorem xv_70 : xvm 70 = true := by decide +kernel
set_option maxRecDepth 100000 in
theorem xv_71 : xvm 71 = true := by decide +kernel
set_option maxRecDepth 100000 in
theorem xv_72 : xvm 72 = true := by decide +kernel
set_option maxRecDepth 100000 in
theorem xv_73 : xvm 73 = true := by decide +kernel
set_option maxRecDepth 100000 in
theorem xv_74 : xvm 74 = true := by decide +kernel
set_option maxRecDepth 100000 in
theorem xv_75 : xvm 75 = true := by decide +kernel
set_option maxRecDepth 100000 in
theorem xv_76 : xvm 76 = true := by decide +kernel
set_option maxRecDepth 100000 in
theorem xv_77 : xvm 77 = true := by decide +kernel
set_option maxRecDepth 100000 in
theorem xv_78 : xvm 78 = true := by decide +kernel
set_option maxRecDepth 100000 in
theorem xv_79 : xvm 79 = true := by decide +kernel
set_option maxRecDepth 100000 in
theorem xv_80 : xvm 80 = true := by decide +kernel
set_option maxRecDepth 100000 in
theorem xv_81 : xvm 81 = true := by decide +kernel
set_option maxRecDepth 100000 in
theorem xv_82 : xvm 82 = true := by decide +kernel
set_option maxRecDepth 100000 in
theorem xv_83 : xvm 83 = true := by decide +kernel
set_option maxRecDepth 100000 in
theorem xv_84 : xvm 84 = true := by decide +kernel
set_option maxRecDepth 100000 in
theorem xv_85 : xvm 85 = true := by decide +kernel
set_option maxRecDepth 100000 in
theorem xv_86 : xvm 86 = true := by decide +kernel
set_option maxRecDepth 100000 in
theorem xv_87 : xvm 87 = true := by decide +kernel
set_option maxRecDepth 100000 in
theorem xv_88 : xvm 88 = true := by decide +kernel
set_option maxRecDepth 100000 in
theorem xv_89 : xvm 89 = true := by decide +kernel
set_option maxRecDepth 100000 in
theorem xv_90 : xvm 90 = true := by decide +kernel
set_option maxRecDepth 100000 in
theorem xv_91 : xvm 91 = true := by decide +kernel
end
section
/-! checked: methods 92 to 106 -/
set_option maxRecDepth 100000 in
theorem xv_92 : xvm 92 = true := by decide +kernel
set_option maxRecDepth 100000 in
theorem xv_93 : xvm 93 = true := by decide +kernel
set_option maxRecDepth 100000 in
theorem xv_94 : xvm 94 = true := by decide +kernel
set_option maxRecDepth 100000 in
theorem xv_95 : xvm 95 = true := by decide +kernel
set_option maxRecDepth 100000 in
theorem xv_96 : xvm 96 = true := by decide +kernel
set_option maxRecDepth 100000 in
theorem xv_97 : xvm 97 = true := by decide +kernel
set_option maxRecDepth 100000 in
theorem xv_98 : xvm 98 = true := by decide +kernel
set_option maxRecDepth 100000 in
theorem xv_99 : xvm 99 = true := by decide +kernel
set_option maxRecDepth 100000 in
theorem xv_100 : xvm 100 = true := by decide +kernel
set_option maxRecDepth 100000 in
theorem xv_101 : xvm 101 = true := by decide +kernel
set_option maxRecDepth 100000 in
theorem xv_102 : xvm 102 = true := by decide +kernel
set_option maxRecDepth 100000 in
theorem xv_103 : xvm 103 = true := by decide +kernel
set_option maxRecDepth 100000 in
theorem xv_104 : xvm 104 = true := by decide +kernel
set_option maxRecDepth 100000 in
theorem xv_105 : xvm 105 = true := by decide +kernel
set_option maxRecDepth 100000 in
theorem xv_106 : xvm 106 = true := by decide +kernel
end
section
/-! checked: methods 107 to 118 -/
set_option maxRecDepth 100000 in
theorem xv_107 : xvm 107 = true := by decide +kernel
set_option maxRecDepth 100000 in
theorem xv_108 : xvm 108 = true := by decide +kernel
set_option maxRecDepth 100000 in
theorem xv_109 : xvm 109 = true := by decide +kernel
set_option maxRecDepth 100000 in
theorem xv_110 : xvm 110 = true := by decide +kernel
set_option maxRecDepth 100000 in
theorem xv_111 : xvm 111 = true := by decide +kernel
set_option maxRecDepth 100000 in
theorem xv_112 : xvm 112 = true := by decide +kernel
set_option maxRecDepth 100000 in
theorem xv_113 : xvm 113 = true := by decide +kernel
set_option maxRecDepth 100000 in
theorem xv_114 : xvm 114 = true := by decide +kernel
set_option maxRecDepth 100000 in
theorem xv_115 : xvm 115 = true := by decide +kernel
set_option maxRecDepth 100000 in
theorem xv_116 : xvm 116 = true := by decide +kernel
set_option maxRecDepth 100000 in
theorem xv_117 : xvm 117 = true := by decide +kernel
set_option maxRecDepth 100000 in
theorem xv_118 : xvm 118 = true := by decide +kernel
end
section
/-! checked: methods 119 to 127 -/
set_option maxRecDepth 100000 in
theorem xv_119 : xvm 119 = true := by decide +kernel
set_option maxRecDepth 100000 in
theorem xv_120 : xvm 120 = true := by decide +kernel
set_option maxRecDepth 100000 in
theorem xv_121 : xvm 121 = true := by decide +kernel
set_option maxRecDepth 100000 in
theorem xv_122 : xvm 122 = true := by decide +kernel
set_option maxRecDepth 100000 in
theorem xv_123 : xvm 123 = true := by decide +kernel
set_option maxRecDepth 100000 in
theorem xv_124 : xvm 124 = true := by decide +kernel
set_option maxRecDepth 100000 in
theorem xv_125 : xvm 125 = true := by decide +kernel
set_option maxRecDepth 100000 in
theorem xv_126 : xvm 126 = true := by decide +kernel
set_option maxRecDepth 100000 in
theorem xv_127 : xvm 127 = true := by decide +kernel
end
section
/-! checked: methods 128 to 142 -/
set_option maxRecDepth 100000 in
theorem xv_128 : xvm 128 = true := by decide +kernel
set_option maxRecDepth 100000 in
theorem xv_129 : xvm 129 = true := by decide +kernel
set_option maxRecDepth 100000 in
theorem xv_130 : xvm 130 = true := by decide +kernel
set_option maxRecDepth 100000 in
theorem xv_131 : xvm 131 = true := by decide +kernel
set_option maxRecDepth 100000 in
theorem xv_132 : xvm 132 = true := by decide +kernel
set_option maxRecDepth 100000 in
theorem xv_133 : xvm 133 = true := by decide +kernel
set_option maxRecDepth 100000 in
theorem xv_134 : xvm 134 = true := by decide +kernel
set_option maxRecDepth 100000 in
theorem xv_135 : xvm 135 = true := by decide +kernel
set_option maxRecDepth 100000 in
theorem xv_136 : xvm 136 = true := by decide +kernel
set_option maxRecDepth 100000 in
theorem xv_137 : xvm 137 = true := by decide +kernel
set_option maxRecDepth 100000 in
theorem xv_138 : xvm 138 = true := by decide +kernel
set_option maxRecDepth 100000 in
theorem xv_139 : xvm 139 = true := by decide +kernel
set_option maxRecDepth 100000 in
theorem xv_140 : xvm 140 = true := by decide +kernel
set_option maxRecDepth 100000 in
theorem xv_141 : xvm 141 = true := by decide +kernel
set_option maxRecDepth 100000 in
theorem xv_142 : xvm 142 = true := by decide +kernel
end
section
/-! checked: methods 143 to 143 -/
set_option maxRecDepth 100000 in
theorem xv_143 : xvm 143 = true := by decide +kernel
end
section
/-! MY OWN INTERPRETER of the bytecode over an abstract heap: values are ints or references (numbers of cells), cells are arrays of ints, arrays of references, objects. xGo is the least predicate that is closed under a step backwards. -/
abbrev xE : Type := (Nat × Nat × (Nat → Int32)) ⊕ ((Nat × Nat × (Nat → Option Nat)) ⊕ (Nat × List xV))
/-- the heap, the next cell's number, the slots used so far -/
abbrev xS : Type := (Nat → Option xE) × Nat × Nat
abbrev xL : Type := List (Option xV)
/-- a place in a method: pc, locals, stack, heap -/
abbrev xT : Type := Nat × xL × List xV × xS
/-- what a step gives: a place, or the method's end -/
abbrev xO : Type := xT ⊕ (Option xV × xS)
def xup (σ : xS) (k : Nat) (e : xE) : xS := (fun j => if j = k then some e else σ.1 j, σ.2)
def xnew (σ : xS) (e : xE) (n : Nat) : xS := (fun j => if j = σ.2.1 then some e else σ.1 j, σ.2.1 + 1, σ.2.2 + n)
def x1 (st : List xV) (f : Int32 → List xV → Prop) : Prop := match st with
  | .inl x :: r => f x r
  | _ => False
def x2 (st : List xV) (f : Int32 → Int32 → List xV → Prop) : Prop := match st with
  | .inl y :: .inl x :: r => f x y r
  | _ => False
def xq (st : List xV) (f : Option Nat → List xV → Prop) : Prop := match st with
  | .inr q :: r => f q r
  | _ => False
def xr (st : List xV) (f : Nat → List xV → Prop) : Prop := match st with
  | .inr (some a) :: r => f a r
  | _ => False
def xld (ls : xL) (k : Nat) (f : xV → Prop) : Prop := match ls[k]? with
  | some (some v) => f v
  | _ => False
def xint (v : xV) (f : Int32 → Prop) : Prop := match v with
  | .inl x => f x
  | _ => False
def xref (v : xV) (f : Option Nat → Prop) : Prop := match v with
  | .inr q => f q
  | _ => False
/-- the locals in ls0 stand so in ls -/
def xle (ls0 ls : xL) : Prop := ls0.length = ls.length ∧ ∀ (k : Nat) (v : xV), ls0[k]? = some (some v) → ls[k]? = some (some v)
def xc (c : ClassFile.Cond) (x y : Int32) : Prop := match c with
  | .eq => x = y
  | .ne => ¬ x = y
  | .lt => x < y
  | .ge => y ≤ x
  | .gt => y < x
  | .le => x ≤ y
noncomputable def xif (P : Prop) (a b : Nat) : Nat := @ite Nat P (Classical.propDecidable P) a b
/-- what a byte array, a boolean array keeps of an int -/
def xnar (t : Nat) (x : Int32) : Int32 := if t = 1 then vp_nar .byte x else vp_nar .boolean x
/-- of what class the references in an array of kind t are -/
def xqc (t : Nat) : Nat := if t = 0 then 1 else 2
def xlen (e : Option xE) : Option Nat := match e with
  | some (.inl (_, n, _)) => some n
  | some (.inr (.inl (_, n, _))) => some n
  | _ => none
/-- a grid of n rows of k ints -/
def xgrid (σ : xS) (n k : Nat) : xS := (fun j => if j = σ.2.1 then some (.inr (.inl (2, n, fun i => some (σ.2.1 + 1 + i)))) else if σ.2.1 < j ∧ j ≤ σ.2.1 + n then some (.inl (0, k, fun _ => 0)) else σ.1 j, σ.2.1 + 1 + n, σ.2.2 + n + n * k)
/-- may the value stand in the field: by the field's kind, 0 an int, 1 a boolean, 2 a reference -/
def xfit (c k : Nat) (v : xV) : Prop := match v with
  | .inl x => xft c k = 0 ∨ (xft c k = 1 ∧ (x = 0 ∨ x = 1))
  | .inr _ => xft c k = 2
def xrcv (a b : Nat) (as : List xV) (σ : xS) : Prop := if b < 2 then (∃ (q : Nat) (r : List xV), as = .inr (some q) :: r) else if b < 4 then (∃ (q : Nat) (r : List xV) (fs : List xV), as = .inr (some q) :: r ∧ σ.1 q = some (.inr (.inr (xmc a, fs)))) else True
section XCALL
variable (E : Nat → List xV → xS → Option xV → xS → Prop)
/-- a call: b says how (0, 1 a constructor's; 2, 3 on an object; 4, 5 without one; 6 the empty constructor of all objects; 7 an array's clone; 8 arraycopy; 9, 10 max, min), a is the callee's number -/
def xcall (a b pc : Nat) (ls : xL) (st : List xV) (σ : xS) (o : xO) : Prop :=
  if b = 6 then xr st fun _ r => r.length ≤ 8 ∧ o = .inl (pc, ls, r, σ)
  else if b = 7 then xr st fun q r => ∃ (n : Nat) (f : Nat → Int32), σ.1 q = some (.inl (0, n, f)) ∧ 2 ≤ q ∧ r.length ≤ 8 ∧ o = .inl (pc, ls, .inr (some σ.2.1) :: r, xnew σ (.inl (0, n, f)) n)
  else if b = 8 then match st with
    | .inl n :: .inl dp :: .inr (some q1) :: .inl sp :: .inr (some q0) :: r => ∃ (n0 n1 : Nat) (f g : Nat → Int32) (N S T : Nat), σ.1 q0 = some (.inl (0, n0, f)) ∧ σ.1 q1 = some (.inl (0, n1, g)) ∧ n = nI N ∧ dp = nI T ∧ sp = nI S ∧ S + N ≤ n0 ∧ T + N ≤ n1 ∧ S + N < 2147483648 ∧ T + N < 2147483648 ∧ 2 ≤ q0 ∧ 2 ≤ q1 ∧ ¬ q0 = q1 ∧ r.length ≤ 8 ∧ o = .inl (pc, ls, r, xup σ q1 (.inl (0, n1, va_cpy f g S T N)))
    | _ => False
  else if b = 9 then x2 st fun x y r => r.length ≤ 8 ∧ o = .inl (pc, ls, .inl (if x < y then y else x) :: r, σ)
  else if b = 10 then x2 st fun x y r => r.length ≤ 8 ∧ o = .inl (pc, ls, .inl (if y < x then y else x) :: r, σ)
  else ∃ (r : Option xV) (σ1 : xS), xma a ≤ st.length ∧ (st.drop (xma a)).length ≤ 8 ∧ xrcv a b (st.take (xma a)).reverse σ ∧ E a (st.take (xma a)).reverse σ r σ1 ∧ o = .inl (pc, ls, r.toList ++ st.drop (xma a), σ1)
end XCALL
section XSTEP
variable (E : Nat → List xV → xS → Option xV → xS → Prop)
/-- one instruction -/
def xst (i : Instr) (len a b pc : Nat) (ls : xL) (st : List xV) (σ : xS) (o : xO) : Prop :=
  match i with
  | .iconst _ | .bipush _ | .sipush _ => o = .inl (pc + len, ls, .inl (xk a b) :: st, σ)
  | .aconst_null => o = .inl (pc + len, ls, .inr none :: st, σ)
  | .iload_n k => xld ls k fun v => xint v fun x => o = .inl (pc + len, ls, .inl x :: st, σ)
  | .iload k => xld ls k fun v => xint v fun x => o = .inl (pc + len, ls, .inl x :: st, σ)
  | .aload_n k => xld ls k fun v => xref v fun q => o = .inl (pc + len, ls, .inr q :: st, σ)
  | .aload k => xld ls k fun v => xref v fun q => o = .inl (pc + len, ls, .inr q :: st, σ)
  | .istore_n k => x1 st fun x r => o = .inl (pc + len, ls.set k (some (.inl x)), r, σ)
  | .istore k => x1 st fun x r => o = .inl (pc + len, ls.set k (some (.inl x)), r, σ)
  | .astore_n k => xq st fun q r => o = .inl (pc + len, ls.set k (some (.inr q)), r, σ)
  | .astore k => xq st fun q r => o = .inl (pc + len, ls.set k (some (.inr q)), r, σ)
  | .iinc k _ => xld ls k fun v => xint v fun x => o = .inl (pc + len, ls.set k (some (.inl (x + xk a b))), st, σ)
  | .iadd => x2 st fun x y r => o = .inl (pc + len, ls, .inl (x + y) :: r, σ)
  | .isub => x2 st fun x y r => o = .inl (pc + len, ls, .inl (x - y) :: r, σ)
  | .imul => x2 st fun x y r => o = .inl (pc + len, ls, .inl (x * y) :: r, σ)
  | .iand => x2 st fun x y r => o = .inl (pc + len, ls, .inl (x &&& y) :: r, σ)
  | .ior => x2 st fun x y r => o = .inl (pc + len, ls, .inl (x ||| y) :: r, σ)
  | .idiv => x2 st fun x y r => ¬ y = 0 ∧ o = .inl (pc + len, ls, .inl (x / y) :: r, σ)
  | .irem => x2 st fun x y r => ¬ y = 0 ∧ o = .inl (pc + len, ls, .inl (x - x / y * y) :: r, σ)
  | .ishl => x2 st fun x y r => o = .inl (pc + len, ls, .inl (x <<< (y &&& 31)) :: r, σ)
  | .ishr => x2 st fun x y r => o = .inl (pc + len, ls, .inl (x >>> (y &&& 31)) :: r, σ)
  | .iushr => x2 st fun x y r => o = .inl (pc + len, ls, .inl ((x.toUInt32 >>> (y.toUInt32 &&& Int32.toUInt32 31)).toInt32) :: r, σ)
  | .i2b => x1 st fun x r => o = .inl (pc + len, ls, .inl (x.toInt8.toInt32) :: r, σ)
  | .dup => match st with
    | v :: r => o = .inl (pc + len, ls, v :: v :: r, σ)
    | _ => False
  | .dup2 => match st with
    | v :: w :: r => o = .inl (pc + len, ls, v :: w :: v :: w :: r, σ)
    | _ => False
  | .ifCond c _ => x1 st fun x r => o = .inl (xif (xc c x 0) a (pc + len), ls, r, σ)
  | .if_icmp c _ => x2 st fun x y r => o = .inl (xif (xc c x y) a (pc + len), ls, r, σ)
  | .ifnull _ => xq st fun q r => o = .inl (xif (q = none) a (pc + len), ls, r, σ)
  | .ifnonnull _ => xq st fun q r => o = .inl (xif (¬ q = none) a (pc + len), ls, r, σ)
  | .goto _ => o = .inl (a, ls, st, σ)
  | .tableswitch d lo hi offs => x1 st fun x r => ∃ t : Nat, (((x.toInt < lo ∨ hi < x.toInt) ∧ (pc : Int) + d = (t : Int)) ∨ (¬ x.toInt < lo ∧ ¬ hi < x.toInt ∧ ∃ off : Int, offs[(x.toInt - lo).toNat]? = some off ∧ (pc : Int) + off = (t : Int))) ∧ o = .inl (t, ls, r, σ)
  | .getfield _ => xr st fun q r => ∃ (fs : List xV) (v : xV), σ.1 q = some (.inr (.inr (a, fs))) ∧ fs[b]? = some v ∧ o = .inl (pc + len, ls, v :: r, σ)
  | .putfield _ => match st with
    | v :: .inr (some q) :: r => ∃ fs : List xV, σ.1 q = some (.inr (.inr (a, fs))) ∧ b < fs.length ∧ xfit a b v ∧ o = .inl (pc + len, ls, r, xup σ q (.inr (.inr (a, fs.set b v))))
    | _ => False
  | .getstatic _ => o = .inl (pc + len, ls, .inr (some 1) :: st, σ)
  | .iaload => match st with
    | .inl x :: .inr (some q) :: r => ∃ (n : Nat) (f : Nat → Int32) (j : Nat), σ.1 q = some (.inl (0, n, f)) ∧ x = nI j ∧ j < n ∧ j < 2147483648 ∧ o = .inl (pc + len, ls, .inl (f j) :: r, σ)
    | _ => False
  | .baload => match st with
    | .inl x :: .inr (some q) :: r => ∃ (n : Nat) (f : Nat → Int32) (j : Nat), σ.1 q = some (.inl (a, n, f)) ∧ x = nI j ∧ j < n ∧ j < 2147483648 ∧ o = .inl (pc + len, ls, .inl (f j) :: r, σ)
    | _ => False
  | .iastore => match st with
    | .inl v :: .inl x :: .inr (some q) :: r => ∃ (n : Nat) (f : Nat → Int32) (j : Nat), σ.1 q = some (.inl (0, n, f)) ∧ x = nI j ∧ j < n ∧ j < 2147483648 ∧ 2 ≤ q ∧ o = .inl (pc + len, ls, r, xup σ q (.inl (0, n, upd f j v)))
    | _ => False
  | .bastore => match st with
    | .inl v :: .inl x :: .inr (some q) :: r => ∃ (n : Nat) (f : Nat → Int32) (j : Nat), σ.1 q = some (.inl (a, n, f)) ∧ x = nI j ∧ j < n ∧ j < 2147483648 ∧ o = .inl (pc + len, ls, r, xup σ q (.inl (a, n, upd f j (xnar a v))))
    | _ => False
  | .aaload => match st with
    | .inl x :: .inr (some q) :: r => ∃ (t n : Nat) (g : Nat → Option Nat) (j : Nat), σ.1 q = some (.inr (.inl (t, n, g))) ∧ x = nI j ∧ j < n ∧ j < 2147483648 ∧ o = .inl (pc + len, ls, .inr (g j) :: r, σ)
    | _ => False
  | .aastore => match st with
    | .inr v :: .inl x :: .inr (some q) :: r => ∃ (n : Nat) (g : Nat → Option Nat) (j : Nat), σ.1 q = some (.inr (.inl (a, n, g))) ∧ x = nI j ∧ j < n ∧ j < 2147483648 ∧ (v = none ∨ ∃ (k : Nat) (fs : List xV), v = some k ∧ σ.1 k = some (.inr (.inr (xqc a, fs)))) ∧ o = .inl (pc + len, ls, r, xup σ q (.inr (.inl (a, n, va_up g j v))))
    | _ => False
  | .arraylength => xr st fun q r => ∃ n : Nat, xlen (σ.1 q) = some n ∧ o = .inl (pc + len, ls, .inl (nI n) :: r, σ)
  | .new _ => o = .inl (pc + len, ls, .inr (some σ.2.1) :: st, xnew σ (.inr (.inr (a, xdf a))) b)
  | .newarray _ => x1 st fun x r => ∃ n : Nat, x = nI n ∧ n ≤ 20000 ∧ o = .inl (pc + len, ls, .inr (some σ.2.1) :: r, xnew σ (.inl (a, n, fun _ => 0)) n)
  | .anewarray _ => x1 st fun x r => ∃ n : Nat, x = nI n ∧ n ≤ 20000 ∧ o = .inl (pc + len, ls, .inr (some σ.2.1) :: r, xnew σ (.inr (.inl (a, n, fun _ => none))) n)
  | .multianewarray _ _ => x2 st fun x y r => ∃ n k : Nat, x = nI n ∧ y = nI k ∧ n ≤ 20000 ∧ k ≤ 20000 ∧ o = .inl (pc + len, ls, .inr (some σ.2.1) :: r, xgrid σ n k)
  | .checkcast _ => xr st fun q r => ∃ (n : Nat) (f : Nat → Int32), σ.1 q = some (.inl (0, n, f)) ∧ 2 ≤ q ∧ o = .inl (pc + len, ls, .inr (some q) :: r, σ)
  | .invokestatic _ | .invokevirtual _ | .invokespecial _ => xcall E a b (pc + len) ls st σ o
  | .ireturn => match st with
    | [.inl x] => (a = 1 → x = 0 ∨ x = 1) ∧ o = .inr (some (.inl x), σ)
    | _ => False
  | .areturn => match st with
    | [.inr q] => o = .inr (some (.inr q), σ)
    | _ => False
  | .return_ => match st with
    | [] => o = .inr (none, σ)
    | _ => False
  | _ => False
def xstep (tb : List xI) (s : xT) (o : xO) : Prop := ∃ (ls0 : xL) (x : xI), xle ls0 s.2.1 ∧ x ∈ tb ∧ x.1 = s.1 ∧ xst E x.2.1 x.2.2.1 x.2.2.2.1 x.2.2.2.2.1 s.1 ls0 s.2.2.1 s.2.2.2 o
def xpost (P : xT → Prop) (K : Option xV → xS → Prop) (o : xO) : Prop := match o with
  | .inl s => P s
  | .inr z => K z.1 z.2
def xGo (tb : List xI) (K : Option xV → xS → Prop) (s : xT) : Prop := ∀ P : xT → Prop, (∀ (s : xT) (o : xO), xstep E tb s o → xpost P K o → P s) → P s
end XSTEP
section XGO
variable {E : Nat → List xV → xS → Option xV → xS → Prop} {tb : List xI} {K : Option xV → xS → Prop}
theorem xGo_step {s : xT} {o : xO} (h1 : xstep E tb s o) (h2 : xpost (xGo E tb K) K o) : xGo E tb K s := by
  intro P hP
  refine hP s o h1 ?_
  cases o with
  | inl s' => exact h2 P hP
  | inr z => exact h2
theorem xGo_ex {s : xT} (h : xGo E tb K s) : ∃ (r : Option xV) (σ' : xS), xGo E tb (fun r0 σ0 => r0 = r ∧ σ0 = σ') s ∧ K r σ' := by
  refine h (fun s => ∃ (r : Option xV) (σ' : xS), xGo E tb (fun r0 σ0 => r0 = r ∧ σ0 = σ') s ∧ K r σ') ?_
  intro s o hs hp
  cases o with
  | inl s' =>
    obtain ⟨r, σ', g, k⟩ := hp
    exact ⟨r, σ', xGo_step hs g, k⟩
  | inr z => exact ⟨z.1, z.2, xGo_step hs ⟨rfl, rfl⟩, hp⟩
theorem xGo_conseq {K' : Option xV → xS → Prop} (hK : ∀ r σ, K r σ → K' r σ) {s : xT} (h : xGo E tb K s) : xGo E tb K' s := by
  refine h (fun s => xGo E tb K' s) ?_
  intro s o hs hp
  refine xGo_step hs ?_
  cases o with
  | inl s' => exact hp
  | inr z => exact hK _ _ hp
theorem xle_refl (ls : xL) : xle ls ls := ⟨rfl, fun _ _ h => h⟩
theorem xle_trans {a b c : xL} (h1 : xle a b) (h2 : xle b c) : xle a c := ⟨h1.1.trans h2.1, fun k v h => h2.2 k v (h1.2 k v h)⟩
theorem xGo_weak {pc : Nat} {ls0 ls : xL} {st : List xV} {σ : xS} (h : xGo E tb K (pc, ls0, st, σ)) (hle : xle ls0 ls) : xGo E tb K (pc, ls, st, σ) := by
  refine h (fun s => ∀ ls, xle s.2.1 ls → xGo E tb K (s.1, ls, s.2.2)) ?_ ls hle
  intro s o hs hp ls hle
  obtain ⟨l0, x, h1, h2, h3, h4⟩ := hs
  refine xGo_step (o := o) ⟨l0, x, xle_trans h1 hle, h2, h3, h4⟩ ?_
  cases o with
  | inl s' => exact hp s'.2.1 (xle_refl _)
  | inr z => exact hp
variable {pc len a b w : Nat} {ls : xL} {st : List xV} {σ : xS} {i : Instr}
/-- a step: k is the row's place in the table -/
theorem gs (k : Nat) (hk : tb[k]? = some (pc, i, len, a, b, w)) {s' : xT} (h : xst E i len a b pc ls st σ (.inl s')) (g : xGo E tb K s') : xGo E tb K (pc, ls, st, σ) :=
  xGo_step (o := .inl s') ⟨ls, _, xle_refl ls, List.mem_of_getElem? hk, rfl, h⟩ g
theorem gend (k : Nat) (hk : tb[k]? = some (pc, i, len, a, b, w)) {r : Option xV} {σ' : xS} (h : xst E i len a b pc ls st σ (.inr (r, σ'))) (g : K r σ') : xGo E tb K (pc, ls, st, σ) :=
  xGo_step (o := .inr (r, σ')) ⟨ls, _, xle_refl ls, List.mem_of_getElem? hk, rfl, h⟩ g
theorem xif_t {P : Prop} {a b : Nat} (h : P) : xif P a b = a := if_pos h
theorem xif_f {P : Prop} {a b : Nat} (h : ¬ P) : xif P a b = b := if_neg h
theorem gif (k : Nat) {c : ClassFile.Cond} {off : Int} {x : Int32} (hk : tb[k]? = some (pc, .ifCond c off, len, a, b, w)) (ht : xc c x 0 → xGo E tb K (a, ls, st, σ)) (hf : ¬ xc c x 0 → xGo E tb K (pc + len, ls, st, σ)) : xGo E tb K (pc, ls, .inl x :: st, σ) := by
  refine gs k hk (s' := (xif (xc c x 0) a (pc + len), ls, st, σ)) rfl ?_
  by_cases h : xc c x 0
  · rw [xif_t h]; exact ht h
  · rw [xif_f h]; exact hf h
theorem gcmp (k : Nat) {c : ClassFile.Cond} {off : Int} {x y : Int32} (hk : tb[k]? = some (pc, .if_icmp c off, len, a, b, w)) (ht : xc c x y → xGo E tb K (a, ls, st, σ)) (hf : ¬ xc c x y → xGo E tb K (pc + len, ls, st, σ)) : xGo E tb K (pc, ls, .inl y :: .inl x :: st, σ) := by
  refine gs k hk (s' := (xif (xc c x y) a (pc + len), ls, st, σ)) rfl ?_
  by_cases h : xc c x y
  · rw [xif_t h]; exact ht h
  · rw [xif_f h]; exact hf h
theorem gnull (k : Nat) {off : Int} {q : Option Nat} (hk : tb[k]? = some (pc, .ifnull off, len, a, b, w)) (ht : q = none → xGo E tb K (a, ls, st, σ)) (hf : ∀ z, q = some z → xGo E tb K (pc + len, ls, st, σ)) : xGo E tb K (pc, ls, .inr q :: st, σ) := by
  refine gs k hk (s' := (xif (q = none) a (pc + len), ls, st, σ)) rfl ?_
  cases q with
  | none => rw [xif_t rfl]; exact ht rfl
  | some z => rw [xif_f (by simp)]; exact hf z rfl
theorem gnonn (k : Nat) {off : Int} {q : Option Nat} (hk : tb[k]? = some (pc, .ifnonnull off, len, a, b, w)) (ht : ∀ z, q = some z → xGo E tb K (a, ls, st, σ)) (hf : q = none → xGo E tb K (pc + len, ls, st, σ)) : xGo E tb K (pc, ls, .inr q :: st, σ) := by
  refine gs k hk (s' := (xif (¬ q = none) a (pc + len), ls, st, σ)) rfl ?_
  cases q with
  | none => rw [xif_f (by simp)]; exact hf rfl
  | some z => rw [xif_t (by simp)]; exact ht z rfl
end XGO
end
section
/-- the words that last -/
def xW : List Cond := lw_tbl.filter goodWord
theorem xW_good {w : Cond} (h : w ∈ xW) : (w.onTables && w.keeps) = true ∨ ∃ ty, w = .arrayClass ty := good_of_word (List.mem_filter.mp h).2
theorem xW_at {w : Cond} (i : Nat) (h : lw_tbl[i]? = some w) (hg : goodWord w = true) : w ∈ xW := List.mem_filter.mpr ⟨List.mem_of_getElem? h, hg⟩
/-- the words across a nest, and of casts -/
def xN (U : State) : Prop := (∀ q ∈ xNm, va_Nw (.methodLinkNest (xno.getD q.1 "") q.2.1 (xmn q.2.2) "RenameMerge") U) ∧ (∀ q ∈ xNf, va_Nw (.fieldLinkNest (xno.getD q.1 "") q.2 xNLc xNLn xNLd "RenameMerge") U) ∧ va_Nw (.castable "[I" "java/lang/Cloneable") U ∧ va_AO "RenameMerge$TreeFile" U ∧ va_AO "RenameMerge$Tree" U
theorem xN_warm {s U : State} (hW : s.WarmedH U.vm) (h : xN s) : xN U := ⟨fun q hq => va_Nw.warmM hW (h.1 q hq), fun q hq => va_Nw.warmF hW (h.2.1 q hq), va_Nw.warmC hW h.2.2.1, va_AO.moved hW.alike h.2.2.2.1, va_AO.moved hW.alike h.2.2.2.2⟩
theorem xN_same {u U : State} (e : u.vm = U.vm) (h : xN u) : xN U := ⟨fun q hq => va_Nw.same rfl e (h.1 q hq), fun q hq => va_Nw.same rfl e (h.2.1 q hq), va_Nw.same rfl e h.2.2.1, va_AO.moved (by rw [e]; exact Vm.Alike.refl _) h.2.2.2.1, va_AO.moved (by rw [e]; exact Vm.Alike.refl _) h.2.2.2.2⟩
/-! HOW THE ABSTRACT HEAP LIES IN THE MACHINE'S: G is (the script's cell, the empty array's cell, the first cell of ours, the numbers of the kinds of objects and of their fields, of arrays of ints, of arrays of references). -/
abbrev xG : Type := Nat × Nat × Nat × va_G × (Nat → ClassId) × (Nat → ClassId)
def xad (G : xG) (k : Nat) : Nat := if k = 0 then G.1 else if k = 1 then G.2.1 else G.2.2.1 + (k - 2)
def xv (G : xG) (v : xV) : Value := match v with
  | .inl x => .int x
  | .inr none => .null
  | .inr (some k) => .ref (xad G k)
def xat (G : xG) (k : Nat) (e : xE) (H : Heap) : Prop := match e with
  | .inl (t, n, f) => H[xad G k]? = some (arrV (G.2.2.2.2.1 t) n (fun j => .int (f j)))
  | .inr (.inl (t, n, g)) => H[xad G k]? = some (arrV (G.2.2.2.2.2 t) n (fun j => xv G (.inr (g j))))
  | .inr (.inr (c, fs)) => ∃ r : vw_C, xcl[c]? = some r ∧ t_OB (xad G k) (G.2.2.2.1.1 c) r.2.2 (G.2.2.2.1.2 c) H (vp_V (fs.map (xv G)))
def xro (G : xG) (U : State) (k : Nat) (e : xE) (H : Heap) : Prop := match e with
  | .inl (t, n, f) => t = 0 ∧ va_T .int (xad G k) n (fun j => .int (f j)) (fun q => G.2.2.1 ≤ q) U H
  | _ => False
def xR (G : xG) (U : State) (σ : xS) (H : Heap) : Prop :=
  2 ≤ σ.2.1 ∧ H.size = G.2.2.1 + (σ.2.1 - 2) ∧ G.1 < G.2.2.1 ∧ G.2.1 < G.2.2.1 ∧ (∀ (k : Nat) (e : xE), σ.1 k = some e → k < σ.2.1 ∧ (k < 2 → xro G U k e H) ∧ (2 ≤ k → xat G k e H)) ∧ va_Z xNLc xNLn xNLd (.ref G.2.1) (fun q => G.2.2.1 ≤ q) U H
theorem xad_2 {G : xG} {k : Nat} (h : 2 ≤ k) : xad G k = G.2.2.1 + (k - 2) := by
  unfold xad
  rw [if_neg (by omega), if_neg (by omega)]
theorem xad_lo {G : xG} {k : Nat} (h0 : G.1 < G.2.2.1) (h1 : G.2.1 < G.2.2.1) (h : k < 2) : xad G k < G.2.2.1 := by
  unfold xad
  split
  · exact h0
  · rw [if_pos (by omega)]; exact h1
theorem xat_kept {G : xG} {k : Nat} {e : xE} {H H' : Heap} (h : xat G k e H) (hq : H'[xad G k]? = H[xad G k]?) : xat G k e H' := by
  match e, h with
  | .inl (t, n, f), h => exact hq.trans h
  | .inr (.inl (t, n, g)), h => exact hq.trans h
  | .inr (.inr (c, fs)), h =>
    obtain ⟨r, h1, h2⟩ := h
    exact ⟨r, h1, h2.kept hq⟩
theorem xro_kept {G : xG} {U : State} {k : Nat} {e : xE} {H H' : Heap} (h : xro G U k e H) (hq : H'[xad G k]? = H[xad G k]?) : xro G U k e H' := by
  match e, h with
  | .inl (t, n, f), h =>
    obtain ⟨h0, cell, h1, h2⟩ := h
    exact ⟨h0, cell, by rw [hq]; exact h1, h2⟩
theorem xro_moved {G : xG} {u U : State} (hvm : u.vm.Alike U.vm) {k : Nat} {e : xE} {H : Heap} (h : xro G u k e H) : xro G U k e H := by
  match e, h with
  | .inl (t, n, f), h => exact ⟨h.1, h.2.moved hvm⟩
theorem xR_moved {G : xG} {u U : State} (hvm : u.vm.Alike U.vm) {σ : xS} {H : Heap} (h : xR G u σ H) : xR G U σ H := by
  obtain ⟨h1, h2, h3, h4, h5, h6⟩ := h
  exact ⟨h1, h2, h3, h4, fun k e hk => ⟨(h5 k e hk).1, fun q => xro_moved hvm ((h5 k e hk).2.1 q), (h5 k e hk).2.2⟩, h6.moved hvm⟩
theorem xR_up {G : xG} {U : State} {σ : xS} {H H' : Heap} {q : Nat} {e0 e : xE} (h : xR G U σ H) (hq : 2 ≤ q) (h0 : σ.1 q = some e0) (hz : H'.size = H.size) (ho : ∀ a : Nat, a ≠ xad G q → H'[a]? = H[a]?) (he : xat G q e H') : xR G U (xup σ q e) H' := by
  obtain ⟨h1, h2, h3, h4, h5, h6⟩ := h
  have hqa := xad_2 (G := G) hq
  refine ⟨h1, hz.trans h2, h3, h4, fun k e' hk => ?_, h6.kept (fun a _ ha => ho a (fun z => ha (by rw [z, hqa]; omega)))⟩
  by_cases hkq : k = q
  · subst hkq
    have hk' : (if k = k then some e else σ.1 k) = some e' := hk
    rw [if_pos rfl] at hk'
    cases hk'
    exact ⟨(h5 k e0 h0).1, fun z => absurd hq (by omega), fun _ => he⟩
  · have hk' : (if k = q then some e else σ.1 k) = some e' := hk
    rw [if_neg hkq] at hk'
    obtain ⟨g1, g2, g3⟩ := h5 k e' hk'
    refine ⟨g1, fun z => xro_kept (g2 z) (ho _ ?_), fun z => xat_kept (g3 z) (ho _ ?_)⟩
    · have := xad_lo h3 h4 z
      rw [hqa]; omega
    · rw [hqa, xad_2 z]; omega
theorem xR_nx {G : xG} {U : State} {σ : xS} {H : Heap} (h : xR G U σ H) : xad G σ.2.1 = H.size := by
  rw [xad_2 h.1, h.2.1]
theorem xR_new {G : xG} {U : State} {σ : xS} {H H' : Heap} {e : xE} (n : Nat) (h : xR G U σ H) (hz : H'.size = H.size + 1) (ho : ∀ a : Nat, a < H.size → H'[a]? = H[a]?) (he : xat G σ.2.1 e H') : xR G U (xnew σ e n) H' := by
  have hx := xR_nx h
  obtain ⟨h1, h2, h3, h4, h5, h6⟩ := h
  refine ⟨by show 2 ≤ σ.2.1 + 1; omega, by show H'.size = _ + (σ.2.1 + 1 - 2); omega, h3, h4, fun k e' hk => ?_, h6.kept (fun a ha _ => ho a ha)⟩
  show k < σ.2.1 + 1 ∧ _
  by_cases hkq : k = σ.2.1
  · have hk' : (if k = σ.2.1 then some e else σ.1 k) = some e' := hk
    rw [if_pos hkq] at hk'
    cases hk'
    subst hkq
    exact ⟨by omega, fun z => absurd h1 (by omega), fun _ => he⟩
  · have hk' : (if k = σ.2.1 then some e else σ.1 k) = some e' := hk
    rw [if_neg hkq] at hk'
    obtain ⟨g1, g2, g3⟩ := h5 k e' hk'
    refine ⟨by omega, fun z => xro_kept (g2 z) (ho _ ?_), fun z => xat_kept (g3 z) (ho _ ?_)⟩
    · have := xad_lo h3 h4 z
      omega
    · rw [xad_2 z]; omega
/-- the variables of a frame -/
def xas (G : xG) (ls : xL) : List (Nat × Value) := (List.range ls.length).filterMap (fun k => match ls[k]? with
  | some (some v) => some (k, xv G v)
  | _ => none)
theorem xas_mem {G : xG} {ls : xL} {k : Nat} {w : Value} : (k, w) ∈ xas G ls ↔ ∃ v, ls[k]? = some (some v) ∧ w = xv G v := by
  unfold xas
  rw [List.mem_filterMap]
  constructor
  · rintro ⟨j, -, hj⟩
    split at hj
    · rename_i v hv
      cases hj
      exact ⟨v, hv, rfl⟩
    · cases hj
  · rintro ⟨v, hv, rfl⟩
    refine ⟨k, List.mem_range.mpr (List.getElem?_eq_some_iff.mp hv).1, ?_⟩
    rw [hv]
def xlv (G : xG) (L : Array Slot) (nL : Nat) (ls : xL) : Prop := ls.length = nL ∧ lv_has L nL (xas G ls)
theorem xv_cat (G : xG) (v : xV) : (xv G v).category = 1 := by
  match v with
  | .inl x => rfl
  | .inr none => rfl
  | .inr (some k) => rfl
theorem xlv_get {G : xG} {L : Array Slot} {nL : Nat} {ls : xL} (h : xlv G L nL ls) {k : Nat} {v : xV} (hv : ls[k]? = some (some v)) : L[k]? = some (.val (xv G v)) := h.2.2.2 (k, xv G v) (xas_mem.mpr ⟨v, hv, rfl⟩)
theorem xlv_le {G : xG} {L : Array Slot} {nL : Nat} {ls0 ls : xL} (h : xlv G L nL ls) (hle : xle ls0 ls) : xlv G L nL ls0 := by
  refine ⟨hle.1.trans h.1, h.2.1, h.2.2.1, fun q hq => ?_⟩
  obtain ⟨k, w⟩ := q
  obtain ⟨v, hv, rfl⟩ := xas_mem.mp hq
  exact xlv_get h (hle.2 k v hv)
theorem xlv_set {G : xG} {L : Array Slot} {nL : Nat} {ls : xL} {i : Nat} {v : xV} (hn : ls.length = nL) (h : lv_has L nL ((i, xv G v) :: (xas G ls).filter (fun q => !(q.1 == i) && !(q.1 + 1 == i && q.2.category == 2)))) : xlv G L nL (ls.set i (some v)) := by
  refine ⟨by rw [List.length_set]; exact hn, h.1, h.2.1, fun q hq => ?_⟩
  obtain ⟨k, w⟩ := q
  obtain ⟨u, hu, rfl⟩ := xas_mem.mp hq
  by_cases hk : i = k
  · subst hk
    rw [List.getElem?_set] at hu
    rw [if_pos rfl] at hu
    split at hu
    · cases hu
      exact h.2.2 _ List.mem_cons_self
    · cases hu
  · rw [List.getElem?_set_ne hk] at hu
    refine h.2.2 _ (List.mem_cons_of_mem _ (List.mem_filter.mpr ⟨xas_mem.mpr ⟨u, hu, rfl⟩, ?_⟩))
    simp [xv_cat, Ne.symm hk]
/-! THE INTERPRETER IS SOUND: what xGo says the machine does. First the instructions that need no tables. -/
def xSem (G : xG) (p : Program) (l : Launch) (e : Env) (R : Room) (s : State) (m : MethodId) (args : Array Value) (below : List Frame) (meth : Method) (c : Code) (nL nx0 sl0 nxF slF : Nat) (Q : State → Prop) (t : xT) : Prop :=
  (t.2.2.2.2.1 ≤ nxF ∧ t.2.2.2.2.2 ≤ slF) ∧ ∀ (H : Heap) (locs : List Loc) (L : Array Slot), nx0 ≤ t.2.2.2.2.1 → sl0 ≤ t.2.2.2.2.2 → xR G s t.2.2.2 H → (∀ q ∈ locs, G.2.2.1 ≤ q.base) → xlv G L nL t.2.1 →
    W p l e R s m args below meth c H locs (t.2.2.2.2.1 - nx0) (t.2.2.2.2.2 - sl0) Q (F0 m t.1 L (t.2.2.1.map (xv G)))
theorem x1_inv {st : List xV} {f : Int32 → List xV → Prop} (h : x1 st f) : ∃ x r, st = .inl x :: r ∧ f x r := by
  match st, h with
  | .inl x :: r, h => exact ⟨x, r, rfl, h⟩
theorem x2_inv {st : List xV} {f : Int32 → Int32 → List xV → Prop} (h : x2 st f) : ∃ x y r, st = .inl y :: .inl x :: r ∧ f x y r := by
  match st, h with
  | .inl y :: .inl x :: r, h => exact ⟨x, y, r, rfl, h⟩
theorem xq_inv {st : List xV} {f : Option Nat → List xV → Prop} (h : xq st f) : ∃ q r, st = .inr q :: r ∧ f q r := by
  match st, h with
  | .inr q :: r, h => exact ⟨q, r, rfl, h⟩
theorem xr_inv {st : List xV} {f : Nat → List xV → Prop} (h : xr st f) : ∃ a r, st = .inr (some a) :: r ∧ f a r := by
  match st, h with
  | .inr (some a) :: r, h => exact ⟨a, r, rfl, h⟩
theorem xldi_inv {ls : xL} {k : Nat} {f : Int32 → Prop} (h : xld ls k fun v => xint v f) : ∃ x, ls[k]? = some (some (.inl x)) ∧ f x := by
  unfold xld at h
  split at h
  · rename_i v hv
    match v, h with
    | .inl x, h => exact ⟨x, hv, h⟩
  · exact h.elim
theorem xldr_inv {ls : xL} {k : Nat} {f : Option Nat → Prop} (h : xld ls k fun v => xref v f) : ∃ q, ls[k]? = some (some (.inr q)) ∧ f q := by
  unfold xld at h
  split at h
  · rename_i v hv
    match v, h with
    | .inr q, h => exact ⟨q, hv, h⟩
  · exact h.elim
section XSND
variable {G : xG} {p : Program} {l : Launch} {e : Env} {R : Room} {s : State} {m : MethodId} {args : Array Value} {below : List Frame} {meth : Method} {c : Code} {nL nx0 sl0 nxF slF : Nat} {Q : State → Prop}
variable {E : Nat → List xV → xS → Option xV → xS → Prop} {K : Option xV → xS → Prop} {cc : ByteArray} {pc a b : Nat} {ls : xL} {st : List xV} {σ : xS} {o : xO}
theorem sn_iconst (hx : p.tables.exec = Jvm.exec) (hb : c.code = cc) {n : Int} (hd : decode cc pc = .ok (.iconst n, 1)) (hv : Int32.ofInt n = xk a b) (h : xst E (.iconst n) 1 a b pc ls st σ o) (hp : xpost (xSem G p l e R s m args below meth c nL nx0 sl0 nxF slF Q) K o) : xSem G p l e R s m args below meth c nL nx0 sl0 nxF slF Q (pc, ls, st, σ) := by
  have h : o = .inl (pc + 1, ls, .inl (xk a b) :: st, σ) := h
  subst h
  exact ⟨hp.1, fun H locs L h1 h2 hR hl hL => lv_iconst hx hb hd hv (hp.2 H locs L h1 h2 hR hl hL)⟩
theorem sn_bipush (hx : p.tables.exec = Jvm.exec) (hb : c.code = cc) {n : Int} (hd : decode cc pc = .ok (.bipush n, 2)) (hv : (Int8.ofInt n).toInt32 = xk a b) (h : xst E (.bipush n) 2 a b pc ls st σ o) (hp : xpost (xSem G p l e R s m args below meth c nL nx0 sl0 nxF slF Q) K o) : xSem G p l e R s m args below meth c nL nx0 sl0 nxF slF Q (pc, ls, st, σ) := by
  have h : o = .inl (pc + 2, ls, .inl (xk a b) :: st, σ) := h
  subst h
  exact ⟨hp.1, fun H locs L h1 h2 hR hl hL => lv_bipush hx hb hd hv (hp.2 H locs L h1 h2 hR hl hL)⟩
theorem sn_sipush (hx : p.tables.exec = Jvm.exec) (hb : c.code = cc) {n : Int} (hd : decode cc pc = .ok (.sipush n, 3)) (hv : (Int16.ofInt n).toInt32 = xk a b) (h : xst E (.sipush n) 3 a b pc ls st σ o) (hp : xpost (xSem G p l e R s m args below meth c nL nx0 sl0 nxF slF Q) K o) : xSem G p l e R s m args below meth c nL nx0 sl0 nxF slF Q (pc, ls, st, σ) := by
  have h : o = .inl (pc + 3, ls, .inl (xk a b) :: st, σ) := h
  subst h
  exact ⟨hp.1, fun H locs L h1 h2 hR hl hL => lv_sipush hx hb hd hv (hp.2 H locs L h1 h2 hR hl hL)⟩
theorem sn_null (hx : p.tables.exec = Jvm.exec) (hb : c.code = cc) (hd : decode cc pc = .ok (.aconst_null, 1)) (h : xst E .aconst_null 1 a b pc ls st σ o) (hp : xpost (xSem G p l e R s m args below meth c nL nx0 sl0 nxF slF Q) K o) : xSem G p l e R s m args below meth c nL nx0 sl0 nxF slF Q (pc, ls, st, σ) := by
  have h : o = .inl (pc + 1, ls, .inr none :: st, σ) := h
  subst h
  exact ⟨hp.1, fun H locs L h1 h2 hR hl hL => lv_null hx hb hd (hp.2 H locs L h1 h2 hR hl hL)⟩
theorem sn_iload_n (hx : p.tables.exec = Jvm.exec) (hb : c.code = cc) {k : Fin 4} (hd : decode cc pc = .ok (.iload_n k, 1)) (h : xst E (.iload_n k) 1 a b pc ls st σ o) (hp : xpost (xSem G p l e R s m args below meth c nL nx0 sl0 nxF slF Q) K o) : xSem G p l e R s m args below meth c nL nx0 sl0 nxF slF Q (pc, ls, st, σ) := by
  obtain ⟨x, hl0, h⟩ := xldi_inv (k := k.val) h
  subst h
  exact ⟨hp.1, fun H locs L h1 h2 hR hl hL => lv_iload_n hx hb hd rfl (xlv_get hL hl0) (hp.2 H locs L h1 h2 hR hl hL)⟩
theorem sn_iload (hx : p.tables.exec = Jvm.exec) (hb : c.code = cc) {k : Nat} (hd : decode cc pc = .ok (.iload k, 2)) (h : xst E (.iload k) 2 a b pc ls st σ o) (hp : xpost (xSem G p l e R s m args below meth c nL nx0 sl0 nxF slF Q) K o) : xSem G p l e R s m args below meth c nL nx0 sl0 nxF slF Q (pc, ls, st, σ) := by
  obtain ⟨x, hl0, h⟩ := xldi_inv h
  subst h
  exact ⟨hp.1, fun H locs L h1 h2 hR hl hL => lv_iload hx hb hd (xlv_get hL hl0) (hp.2 H locs L h1 h2 hR hl hL)⟩
theorem sn_aload_n (hx : p.tables.exec = Jvm.exec) (hb : c.code = cc) {k : Fin 4} (hd : decode cc pc = .ok (.aload_n k, 1)) (h : xst E (.aload_n k) 1 a b pc ls st σ o) (hp : xpost (xSem G p l e R s m args below meth c nL nx0 sl0 nxF slF Q) K o) : xSem G p l e R s m args below meth c nL nx0 sl0 nxF slF Q (pc, ls, st, σ) := by
  obtain ⟨q, hl0, h⟩ := xldr_inv (k := k.val) h
  subst h
  cases q with
  | none => exact ⟨hp.1, fun H locs L h1 h2 hR hl hL => lv_aload_nN hx hb hd rfl (xlv_get hL hl0) (hp.2 H locs L h1 h2 hR hl hL)⟩
  | some q => exact ⟨hp.1, fun H locs L h1 h2 hR hl hL => lv_aload_n hx hb hd rfl (xlv_get hL hl0) (hp.2 H locs L h1 h2 hR hl hL)⟩
theorem sn_aload (hx : p.tables.exec = Jvm.exec) (hb : c.code = cc) {k : Nat} (hd : decode cc pc = .ok (.aload k, 2)) (h : xst E (.aload k) 2 a b pc ls st σ o) (hp : xpost (xSem G p l e R s m args below meth c nL nx0 sl0 nxF slF Q) K o) : xSem G p l e R s m args below meth c nL nx0 sl0 nxF slF Q (pc, ls, st, σ) := by
  obtain ⟨q, hl0, h⟩ := xldr_inv h
  subst h
  cases q with
  | none => exact ⟨hp.1, fun H locs L h1 h2 hR hl hL => lv_aloadN hx hb hd (xlv_get hL hl0) (hp.2 H locs L h1 h2 hR hl hL)⟩
  | some q => exact ⟨hp.1, fun H locs L h1 h2 hR hl hL => lv_aload hx hb hd (xlv_get hL hl0) (hp.2 H locs L h1 h2 hR hl hL)⟩
theorem sn_istore_n (hx : p.tables.exec = Jvm.exec) (hb : c.code = cc) {k : Fin 4} (hd : decode cc pc = .ok (.istore_n k, 1)) (hk : k.val < nL) (h : xst E (.istore_n k) 1 a b pc ls st σ o) (hp : xpost (xSem G p l e R s m args below meth c nL nx0 sl0 nxF slF Q) K o) : xSem G p l e R s m args below meth c nL nx0 sl0 nxF slF Q (pc, ls, st, σ) := by
  obtain ⟨x, r, rfl, h⟩ := x1_inv h
  subst h
  exact ⟨hp.1, fun H locs L h1 h2 hR hl hL => lv_istore_n hx hb hd rfl hL.2 hk rfl (fun L' hL' => hp.2 H locs L' h1 h2 hR hl (xlv_set (v := .inl x) hL.1 hL'))⟩
theorem sn_istore (hx : p.tables.exec = Jvm.exec) (hb : c.code = cc) {k : Nat} (hd : decode cc pc = .ok (.istore k, 2)) (hk : k < nL) (h : xst E (.istore k) 2 a b pc ls st σ o) (hp : xpost (xSem G p l e R s m args below meth c nL nx0 sl0 nxF slF Q) K o) : xSem G p l e R s m args below meth c nL nx0 sl0 nxF slF Q (pc, ls, st, σ) := by
  obtain ⟨x, r, rfl, h⟩ := x1_inv h
  subst h
  exact ⟨hp.1, fun H locs L h1 h2 hR hl hL => lv_istore hx hb hd hL.2 hk rfl (fun L' hL' => hp.2 H locs L' h1 h2 hR hl (xlv_set (v := .inl x) hL.1 hL'))⟩
theorem sn_astore_n (hx : p.tables.exec = Jvm.exec) (hb : c.code = cc) {k : Fin 4} (hd : decode cc pc = .ok (.astore_n k, 1)) (hk : k.val < nL) (h : xst E (.astore_n k) 1 a b pc ls st σ o) (hp : xpost (xSem G p l e R s m args below meth c nL nx0 sl0 nxF slF Q) K o) : xSem G p l e R s m args below meth c nL nx0 sl0 nxF slF Q (pc, ls, st, σ) := by
  obtain ⟨q, r, rfl, h⟩ := xq_inv h
  subst h
  cases q with
  | none => exact ⟨hp.1, fun H locs L h1 h2 hR hl hL => lv_astore_nN hx hb hd rfl hL.2 hk rfl (fun L' hL' => hp.2 H locs L' h1 h2 hR hl (xlv_set (v := .inr none) hL.1 hL'))⟩
  | some q => exact ⟨hp.1, fun H locs L h1 h2 hR hl hL => lv_astore_n hx hb hd rfl hL.2 hk rfl (fun L' hL' => hp.2 H locs L' h1 h2 hR hl (xlv_set (v := .inr (some q)) hL.1 hL'))⟩
theorem sn_astore (hx : p.tables.exec = Jvm.exec) (hb : c.code = cc) {k : Nat} (hd : decode cc pc = .ok (.astore k, 2)) (hk : k < nL) (h : xst E (.astore k) 2 a b pc ls st σ o) (hp : xpost (xSem G p l e R s m args below meth c nL nx0 sl0 nxF slF Q) K o) : xSem G p l e R s m args below meth c nL nx0 sl0 nxF slF Q (pc, ls, st, σ) := by
  obtain ⟨q, r, rfl, h⟩ := xq_inv h
  subst h
  cases q with
  | none => exact ⟨hp.1, fun H locs L h1 h2 hR hl hL => lv_astoreN hx hb hd hL.2 hk rfl (fun L' hL' => hp.2 H locs L' h1 h2 hR hl (xlv_set (v := .inr none) hL.1 hL'))⟩
  | some q => exact ⟨hp.1, fun H locs L h1 h2 hR hl hL => lv_astore hx hb hd hL.2 hk rfl (fun L' hL' => hp.2 H locs L' h1 h2 hR hl (xlv_set (v := .inr (some q)) hL.1 hL'))⟩
theorem sn_iinc (hx : p.tables.exec = Jvm.exec) (hb : c.code = cc) {k : Nat} {n : Int} (hd : decode cc pc = .ok (.iinc k n, 3)) (hk : k < nL) (hv : Int32.ofInt n = xk a b) (h : xst E (.iinc k n) 3 a b pc ls st σ o) (hp : xpost (xSem G p l e R s m args below meth c nL nx0 sl0 nxF slF Q) K o) : xSem G p l e R s m args below meth c nL nx0 sl0 nxF slF Q (pc, ls, st, σ) := by
  obtain ⟨x, hl0, h⟩ := xldi_inv h
  subst h
  refine ⟨hp.1, fun H locs L h1 h2 hR hl hL => ?_⟩
  obtain ⟨j, hj⟩ := List.getElem?_of_mem (xas_mem.mpr ⟨.inl x, hl0, rfl⟩ : (k, xv G (.inl x)) ∈ xas G ls)
  exact lv_iinc hx hb hd hL.2 hj (by rw [hv]) hk rfl (fun L' hL' => hp.2 H locs L' h1 h2 hR hl (xlv_set (v := .inl (x + xk a b)) hL.1 hL'))
theorem sn_iadd (hx : p.tables.exec = Jvm.exec) (hb : c.code = cc) (hd : decode cc pc = .ok (.iadd, 1)) (h : xst E .iadd 1 a b pc ls st σ o) (hp : xpost (xSem G p l e R s m args below meth c nL nx0 sl0 nxF slF Q) K o) : xSem G p l e R s m args below meth c nL nx0 sl0 nxF slF Q (pc, ls, st, σ) := by
  obtain ⟨x, y, r, rfl, h⟩ := x2_inv h
  subst h
  exact ⟨hp.1, fun H locs L h1 h2 hR hl hL => lv_iadd hx hb hd (hp.2 H locs L h1 h2 hR hl hL)⟩
theorem sn_isub (hx : p.tables.exec = Jvm.exec) (hb : c.code = cc) (hd : decode cc pc = .ok (.isub, 1)) (h : xst E .isub 1 a b pc ls st σ o) (hp : xpost (xSem G p l e R s m args below meth c nL nx0 sl0 nxF slF Q) K o) : xSem G p l e R s m args below meth c nL nx0 sl0 nxF slF Q (pc, ls, st, σ) := by
  obtain ⟨x, y, r, rfl, h⟩ := x2_inv h
  subst h
  exact ⟨hp.1, fun H locs L h1 h2 hR hl hL => lv_isub hx hb hd (hp.2 H locs L h1 h2 hR hl hL)⟩
theorem sn_imul (hx : p.tables.exec = Jvm.exec) (hb : c.code = cc) (hd : decode cc pc = .ok (.imul, 1)) (h : xst E .imul 1 a b pc ls st σ o) (hp : xpost (xSem G p l e R s m args below meth c nL nx0 sl0 nxF slF Q) K o) : xSem G p l e R s m args below meth c nL nx0 sl0 nxF slF Q (pc, ls, st, σ) := by
  obtain ⟨x, y, r, rfl, h⟩ := x2_inv h
  subst h
  exact ⟨hp.1, fun H locs L h1 h2 hR hl hL => lv_imul hx hb hd (hp.2 H locs L h1 h2 hR hl hL)⟩
theorem sn_iand (hx : p.tables.exec = Jvm.exec) (hb : c.code = cc) (hd : decode cc pc = .ok (.iand, 1)) (h : xst E .iand 1 a b pc ls st σ o) (hp : xpost (xSem G p l e R s m args below meth c nL nx0 sl0 nxF slF Q) K o) : xSem G p l e R s m args below meth c nL nx0 sl0 nxF slF Q (pc, ls, st, σ) := by
  obtain ⟨x, y, r, rfl, h⟩ := x2_inv h
  subst h
  exact ⟨hp.1, fun H locs L h1 h2 hR hl hL => lv_iand hx hb hd (hp.2 H locs L h1 h2 hR hl hL)⟩
theorem sn_ior (hx : p.tables.exec = Jvm.exec) (hb : c.code = cc) (hd : decode cc pc = .ok (.ior, 1)) (h : xst E .ior 1 a b pc ls st σ o) (hp : xpost (xSem G p l e R s m args below meth c nL nx0 sl0 nxF slF Q) K o) : xSem G p l e R s m args below meth c nL nx0 sl0 nxF slF Q (pc, ls, st, σ) := by
  obtain ⟨x, y, r, rfl, h⟩ := x2_inv h
  subst h
  exact ⟨hp.1, fun H locs L h1 h2 hR hl hL => lv_ior hx hb hd (hp.2 H locs L h1 h2 hR hl hL)⟩
theorem sn_ishl (hx : p.tables.exec = Jvm.exec) (hb : c.code = cc) (hd : decode cc pc = .ok (.ishl, 1)) (h : xst E .ishl 1 a b pc ls st σ o) (hp : xpost (xSem G p l e R s m args below meth c nL nx0 sl0 nxF slF Q) K o) : xSem G p l e R s m args below meth c nL nx0 sl0 nxF slF Q (pc, ls, st, σ) := by
  obtain ⟨x, y, r, rfl, h⟩ := x2_inv h
  subst h
  exact ⟨hp.1, fun H locs L h1 h2 hR hl hL => lv_ishl hx hb hd (hp.2 H locs L h1 h2 hR hl hL)⟩
theorem sn_ishr (hx : p.tables.exec = Jvm.exec) (hb : c.code = cc) (hd : decode cc pc = .ok (.ishr, 1)) (h : xst E .ishr 1 a b pc ls st σ o) (hp : xpost (xSem G p l e R s m args below meth c nL nx0 sl0 nxF slF Q) K o) : xSem G p l e R s m args below meth c nL nx0 sl0 nxF slF Q (pc, ls, st, σ) := by
  obtain ⟨x, y, r, rfl, h⟩ := x2_inv h
  subst h
  exact ⟨hp.1, fun H locs L h1 h2 hR hl hL => lv_ishr hx hb hd (hp.2 H locs L h1 h2 hR hl hL)⟩
theorem sn_idiv (hx : p.tables.exec = Jvm.exec) (hb : c.code = cc) (hd : decode cc pc = .ok (.idiv, 1)) (h : xst E .idiv 1 a b pc ls st σ o) (hp : xpost (xSem G p l e R s m args below meth c nL nx0 sl0 nxF slF Q) K o) : xSem G p l e R s m args below meth c nL nx0 sl0 nxF slF Q (pc, ls, st, σ) := by
  obtain ⟨x, y, r, rfl, hne, h⟩ := x2_inv h
  subst h
  exact ⟨hp.1, fun H locs L h1 h2 hR hl hL => lv_idiv hx hb hd hne (hp.2 H locs L h1 h2 hR hl hL)⟩
theorem sn_irem (hx : p.tables.exec = Jvm.exec) (hb : c.code = cc) (hd : decode cc pc = .ok (.irem, 1)) (h : xst E .irem 1 a b pc ls st σ o) (hp : xpost (xSem G p l e R s m args below meth c nL nx0 sl0 nxF slF Q) K o) : xSem G p l e R s m args below meth c nL nx0 sl0 nxF slF Q (pc, ls, st, σ) := by
  obtain ⟨x, y, r, rfl, hne, h⟩ := x2_inv h
  subst h
  exact ⟨hp.1, fun H locs L h1 h2 hR hl hL => lv_irem hx hb hd hne (hp.2 H locs L h1 h2 hR hl hL)⟩
theorem sn_iushr (hx : p.tables.exec = Jvm.exec) (hb : c.code = cc) (hd : decode cc pc = .ok (.iushr, 1)) (h : xst E .iushr 1 a b pc ls st σ o) (hp : xpost (xSem G p l e R s m args below meth c nL nx0 sl0 nxF slF Q) K o) : xSem G p l e R s m args below meth c nL nx0 sl0 nxF slF Q (pc, ls, st, σ) := by
  obtain ⟨x, y, r, rfl, h⟩ := x2_inv h
  subst h
  exact ⟨hp.1, fun H locs L h1 h2 hR hl hL => lv_iushr hx hb hd rfl (hp.2 H locs L h1 h2 hR hl hL)⟩
theorem sn_i2b (hx : p.tables.exec = Jvm.exec) (hb : c.code = cc) (hd : decode cc pc = .ok (.i2b, 1)) (h : xst E .i2b 1 a b pc ls st σ o) (hp : xpost (xSem G p l e R s m args below meth c nL nx0 sl0 nxF slF Q) K o) : xSem G p l e R s m args below meth c nL nx0 sl0 nxF slF Q (pc, ls, st, σ) := by
  obtain ⟨x, r, rfl, h⟩ := x1_inv h
  subst h
  exact ⟨hp.1, fun H locs L h1 h2 hR hl hL => lv_i2b hx hb hd rfl (hp.2 H locs L h1 h2 hR hl hL)⟩
theorem sn_dup (hx : p.tables.exec = Jvm.exec) (hb : c.code = cc) (hd : decode cc pc = .ok (.dup, 1)) (h : xst E .dup 1 a b pc ls st σ o) (hp : xpost (xSem G p l e R s m args below meth c nL nx0 sl0 nxF slF Q) K o) : xSem G p l e R s m args below meth c nL nx0 sl0 nxF slF Q (pc, ls, st, σ) := by
  match st, h with
  | v :: r, h =>
    have h : o = .inl _ := h
    subst h
    exact ⟨hp.1, fun H locs L h1 h2 hR hl hL => lv_dup hx hb hd (xv_cat G _) (hp.2 H locs L h1 h2 hR hl hL)⟩
theorem sn_dup2 (hx : p.tables.exec = Jvm.exec) (hb : c.code = cc) (hd : decode cc pc = .ok (.dup2, 1)) (h : xst E .dup2 1 a b pc ls st σ o) (hp : xpost (xSem G p l e R s m args below meth c nL nx0 sl0 nxF slF Q) K o) : xSem G p l e R s m args below meth c nL nx0 sl0 nxF slF Q (pc, ls, st, σ) := by
  match st, h with
  | v :: w :: r, h =>
    have h : o = .inl _ := h
    subst h
    exact ⟨hp.1, fun H locs L h1 h2 hR hl hL => lv_dup2_11 hx hb hd (xv_cat G _) (xv_cat G _) (hp.2 H locs L h1 h2 hR hl hL)⟩
theorem sn_ifCond (hx : p.tables.exec = Jvm.exec) (hb : c.code = cc) {k : ClassFile.Cond} {off : Int} (hd : decode cc pc = .ok (.ifCond k off, 3)) (ht : (pc : Int) + off = (a : Int)) (h : xst E (.ifCond k off) 3 a b pc ls st σ o) (hp : xpost (xSem G p l e R s m args below meth c nL nx0 sl0 nxF slF Q) K o) : xSem G p l e R s m args below meth c nL nx0 sl0 nxF slF Q (pc, ls, st, σ) := by
  obtain ⟨x, r, rfl, h⟩ := x1_inv h
  subst h
  refine ⟨hp.1, fun H locs L h1 h2 hR hl hL => ?_⟩
  have g := hp.2 H locs L h1 h2 hR hl hL
  have g1 : xc k x 0 → _ := fun q => (show xif (xc k x 0) a (pc + 3) = a from xif_t q) ▸ g
  have g2 : ¬ xc k x 0 → _ := fun q => (show xif (xc k x 0) a (pc + 3) = pc + 3 from xif_f q) ▸ g
  clear g
  cases k with
  | eq => exact lv_if_eq hx hb hd ht g1 g2
  | ne => exact lv_if_ne hx hb hd ht g1 (fun q => g2 (fun z => z q))
  | lt => exact lv_if_lt hx hb hd ht g1 g2
  | ge => exact lv_if_ge hx hb hd ht g1 g2
  | gt => exact lv_if_gt hx hb hd ht g1 g2
  | le => exact lv_if_le hx hb hd ht g1 g2
theorem sn_if_icmp (hx : p.tables.exec = Jvm.exec) (hb : c.code = cc) {k : ClassFile.Cond} {off : Int} (hd : decode cc pc = .ok (.if_icmp k off, 3)) (ht : (pc : Int) + off = (a : Int)) (h : xst E (.if_icmp k off) 3 a b pc ls st σ o) (hp : xpost (xSem G p l e R s m args below meth c nL nx0 sl0 nxF slF Q) K o) : xSem G p l e R s m args below meth c nL nx0 sl0 nxF slF Q (pc, ls, st, σ) := by
  obtain ⟨x, y, r, rfl, h⟩ := x2_inv h
  subst h
  refine ⟨hp.1, fun H locs L h1 h2 hR hl hL => ?_⟩
  have g := hp.2 H locs L h1 h2 hR hl hL
  have g1 : xc k x y → _ := fun q => (show xif (xc k x y) a (pc + 3) = a from xif_t q) ▸ g
  have g2 : ¬ xc k x y → _ := fun q => (show xif (xc k x y) a (pc + 3) = pc + 3 from xif_f q) ▸ g
  clear g
  cases k with
  | eq => exact lv_icmp_eq hx hb hd ht g1 g2
  | ne => exact lv_icmp_ne hx hb hd ht g1 (fun q => g2 (fun z => z q))
  | lt => exact lv_icmp_lt hx hb hd ht g1 g2
  | ge => exact lv_icmp_ge hx hb hd ht g1 g2
  | gt => exact lv_icmp_gt hx hb hd ht g1 g2
  | le => exact lv_icmp_le hx hb hd ht g1 g2
theorem sn_goto (hx : p.tables.exec = Jvm.exec) (hb : c.code = cc) {off : Int} (hd : decode cc pc = .ok (.goto off, 3)) (ht : (pc : Int) + off = (a : Int)) (h : xst E (.goto off) 3 a b pc ls st σ o) (hp : xpost (xSem G p l e R s m args below meth c nL nx0 sl0 nxF slF Q) K o) : xSem G p l e R s m args below meth c nL nx0 sl0 nxF slF Q (pc, ls, st, σ) := by
  have h : o = .inl (a, ls, st, σ) := h
  subst h
  exact ⟨hp.1, fun H locs L h1 h2 hR hl hL => lv_goto hx hb hd ht (hp.2 H locs L h1 h2 hR hl hL)⟩
theorem sn_ifnull (hx : p.tables.exec = Jvm.exec) (hb : c.code = cc) {off : Int} (hd : decode cc pc = .ok (.ifnull off, 3)) (ht : (pc : Int) + off = (a : Int)) (h : xst E (.ifnull off) 3 a b pc ls st σ o) (hp : xpost (xSem G p l e R s m args below meth c nL nx0 sl0 nxF slF Q) K o) : xSem G p l e R s m args below meth c nL nx0 sl0 nxF slF Q (pc, ls, st, σ) := by
  obtain ⟨q, r, rfl, h⟩ := xq_inv h
  subst h
  refine ⟨hp.1, fun H locs L h1 h2 hR hl hL => ?_⟩
  have g := hp.2 H locs L h1 h2 hR hl hL
  cases q with
  | none => exact lv_ifnullN hx hb hd ht ((show xif ((none : Option Nat) = none) a (pc + 3) = a from xif_t rfl) ▸ g)
  | some q => exact lv_ifnull hx hb hd ((show xif ((some q : Option Nat) = none) a (pc + 3) = pc + 3 from xif_f (by simp)) ▸ g)
theorem sn_ifnonnull (hx : p.tables.exec = Jvm.exec) (hb : c.code = cc) {off : Int} (hd : decode cc pc = .ok (.ifnonnull off, 3)) (ht : (pc : Int) + off = (a : Int)) (h : xst E (.ifnonnull off) 3 a b pc ls st σ o) (hp : xpost (xSem G p l e R s m args below meth c nL nx0 sl0 nxF slF Q) K o) : xSem G p l e R s m args below meth c nL nx0 sl0 nxF slF Q (pc, ls, st, σ) := by
  obtain ⟨q, r, rfl, h⟩ := xq_inv h
  subst h
  refine ⟨hp.1, fun H locs L h1 h2 hR hl hL => ?_⟩
  have g := hp.2 H locs L h1 h2 hR hl hL
  cases q with
  | none => exact lv_ifnonnullN hx hb hd ((show xif (¬ (none : Option Nat) = none) a (pc + 3) = pc + 3 from xif_f (by simp)) ▸ g)
  | some q => exact lv_ifnonnull hx hb hd ht ((show xif (¬ (some q : Option Nat) = none) a (pc + 3) = a from xif_t (by simp)) ▸ g)
theorem sn_tableswitch (hx : p.tables.exec = Jvm.exec) (hb : c.code = cc) {d lo hi : Int} {offs : Array Int} {len : Nat} (hd : decode cc pc = .ok (.tableswitch d lo hi offs, len)) (h : xst E (.tableswitch d lo hi offs) len a b pc ls st σ o) (hp : xpost (xSem G p l e R s m args below meth c nL nx0 sl0 nxF slF Q) K o) : xSem G p l e R s m args below meth c nL nx0 sl0 nxF slF Q (pc, ls, st, σ) := by
  obtain ⟨x, r, rfl, t, ht, h⟩ := x1_inv h
  subst h
  refine ⟨hp.1, fun H locs L h1 h2 hR hl hL => ?_⟩
  have g := hp.2 H locs L h1 h2 hR hl hL
  rcases ht with ⟨h3, h4⟩ | ⟨h3, h4, off, h5, h6⟩
  · exact lv_tableOut hx hb hd h3 h4 g
  · exact lv_tableIn hx hb hd h3 h4 h5 h6 g
end XSND
end
section
/-! the instructions on arrays and fields -/
/-- what the tables say: the kinds of objects, of arrays -/
def xK (G : xG) (U : State) : Prop :=
  (∀ (k : Nat) (q : vw_C), xcl[k]? = some q → u_Kn U q.1 q.2.1 q.2.2 (G.2.2.2.1.1 k) (G.2.2.2.1.2 k)) ∧
  (∀ t : Nat, ArrOfT U (G.2.2.2.2.1 t) (xty t) ∧ U.vm.findClass ("[" ++ (xty t).toString) = some (G.2.2.2.2.1 t)) ∧
  (∀ t : Nat, ArrOfT U (G.2.2.2.2.2 t) (xqty t) ∧ (∃ (kA : Class) (comp : ClassId), U.vm.classes[G.2.2.2.2.2 t]? = some kA ∧ kA.kind = .array comp (xqty t) ∧ U.vm.findClass (xqn t) = some comp) ∧ U.vm.findClass ("[" ++ (xqty t).toString) = some (G.2.2.2.2.2 t))
theorem xK_moved {G : xG} {u U : State} (hvm : u.vm.Alike U.vm) (h : xK G u) : xK G U := by
  refine ⟨fun k q hq => u_Kn_moved hvm (h.1 k q hq), fun t => ⟨arrOfT_moved hvm (h.2.1 t).1, by rw [hvm.findClass]; exact (h.2.1 t).2⟩, fun t => ⟨arrOfT_moved hvm (h.2.2 t).1, ?_, by rw [hvm.findClass]; exact (h.2.2 t).2.2⟩⟩
  obtain ⟨kA, comp, h1, h2, h3⟩ := (h.2.2 t).2.1
  obtain ⟨k', hk', he⟩ := hvm.2.2 _ _ h1
  exact ⟨k', comp, hk', by rw [he]; exact h2, by rw [hvm.findClass]; exact h3⟩
theorem xR_arr {G : xG} {U : State} {σ : xS} {H : Heap} (h : xR G U σ H) (hK : xK G U) {q t n : Nat} {f : Nat → Int32} (hq : σ.1 q = some (.inl (t, n, f))) :
    ∃ cell : Cell, H[xad G q]? = some cell ∧ U.isArrayOf cell (xty t) ∧ cell.vm ≠ .unknown ∧ (n ≤ cell.slots.size ∧ cell.slots.size.toInt32 = Int32.ofNat n) ∧ ∀ j : Nat, j < n → cell.slots[j]? = some (.int (f j)) := by
  obtain ⟨-, -, -, -, h5, -⟩ := h
  obtain ⟨-, g2, g3⟩ := h5 q _ hq
  by_cases hlt : q < 2
  · obtain ⟨ht, scr, r1, r2, r3, r4, r5, r6, -⟩ := g2 hlt
    subst ht
    exact ⟨scr, r1, r2, r3, ⟨r4, r5⟩, r6⟩
  · have r1 : H[xad G q]? = some (arrV (G.2.2.2.2.1 t) n (fun j => .int (f j))) := g3 (by omega)
    exact ⟨_, r1, (hK.2.1 t).1 n _, (fun z => by cases z), ⟨Nat.le_of_eq (arrV_size _ _ _).symm, by rw [arrV_size] <;> rfl⟩, fun j hj => arrV_read _ _ hj⟩
theorem xR_arr2 {G : xG} {U : State} {σ : xS} {H : Heap} (h : xR G U σ H) {q t n : Nat} {f : Nat → Int32} (hq : σ.1 q = some (.inl (t, n, f))) (h2 : 2 ≤ q) : H[xad G q]? = some (arrV (G.2.2.2.2.1 t) n (fun j => .int (f j))) := (h.2.2.2.2.1 q _ hq).2.2 h2
theorem xR_nz {G : xG} {U : State} {σ : xS} {H : Heap} (h : xR G U σ H) {q t n : Nat} {f : Nat → Int32} (hq : σ.1 q = some (.inl (t, n, f))) (ht : t ≠ 0) : 2 ≤ q := by
  obtain ⟨-, g2, -⟩ := h.2.2.2.2.1 q _ hq
  by_cases hlt : q < 2
  · exact absurd (g2 hlt).1 ht
  · omega
theorem xR_refs {G : xG} {U : State} {σ : xS} {H : Heap} (h : xR G U σ H) {q t n : Nat} {g : Nat → Option Nat} (hq : σ.1 q = some (.inr (.inl (t, n, g)))) : 2 ≤ q ∧ H[xad G q]? = some (arrV (G.2.2.2.2.2 t) n (fun j => xv G (.inr (g j)))) := by
  obtain ⟨-, g2, g3⟩ := h.2.2.2.2.1 q _ hq
  by_cases hlt : q < 2
  · exact (g2 hlt).elim
  · exact ⟨by omega, g3 (by omega)⟩
theorem xR_obj {G : xG} {U : State} {σ : xS} {H : Heap} (h : xR G U σ H) {q a : Nat} {fs : List xV} (hq : σ.1 q = some (.inr (.inr (a, fs)))) : 2 ≤ q ∧ ∃ r : vw_C, xcl[a]? = some r ∧ t_OB (xad G q) (G.2.2.2.1.1 a) r.2.2 (G.2.2.2.1.2 a) H (vp_V (fs.map (xv G))) := by
  obtain ⟨-, g2, g3⟩ := h.2.2.2.2.1 q _ hq
  by_cases hlt : q < 2
  · exact (g2 hlt).elim
  · exact ⟨by omega, g3 (by omega)⟩
theorem x_in {j n : Nat} (h : j < n) (h2 : j < 2147483648) : ¬ (nI j < 0 ∨ n ≤ (nI j).toNatClampNeg) := by
  rw [nI_clamp h2]
  rintro (q | q)
  · exact nI_pos h2 q
  · omega
section XSND
variable {G : xG} {p : Program} {l : Launch} {e : Env} {R : Room} {s : State} {m : MethodId} {args : Array Value} {below : List Frame} {meth : Method} {c : Code} {nL nx0 sl0 nxF slF : Nat} {Q : State → Prop}
variable {E : Nat → List xV → xS → Option xV → xS → Prop} {K : Option xV → xS → Prop} {cc : ByteArray} {pc a b : Nat} {ls : xL} {st : List xV} {σ : xS} {o : xO}
theorem x_in2 {j n z : Nat} (h : j < n) (h2 : j < 2147483648) (hz : n ≤ z) : ¬ (nI j < 0 ∨ z ≤ (nI j).toNatClampNeg) := x_in (by omega) h2
theorem sn_iaload (hx : p.tables.exec = Jvm.exec) (hb : c.code = cc) (hK : xK G s) (hd : decode cc pc = .ok (.iaload, 1)) (h : xst E .iaload 1 a b pc ls st σ o) (hp : xpost (xSem G p l e R s m args below meth c nL nx0 sl0 nxF slF Q) K o) : xSem G p l e R s m args below meth c nL nx0 sl0 nxF slF Q (pc, ls, st, σ) := by
  match st, h with
  | .inl x :: .inr (some q) :: r, h =>
    obtain ⟨n, f, j, hq, rfl, hj, hj2, rfl⟩ := h
    refine ⟨hp.1, fun H locs L h1 h2 hR hl hL => ?_⟩
    obtain ⟨cell, r1, r2, r3, r4, r5⟩ := xR_arr hR hK hq
    exact W.iald hx hb r1 r2 r3 (x_in2 hj hj2 r4.1) (by rw [nI_clamp hj2]; exact r5 j hj) rfl rfl hd (hp.2 H locs L h1 h2 hR hl hL)
theorem sn_baload (hx : p.tables.exec = Jvm.exec) (hb : c.code = cc) (hK : xK G s) (hd : decode cc pc = .ok (.baload, 1)) (ha : a = 1 ∨ a = 2) (h : xst E .baload 1 a b pc ls st σ o) (hp : xpost (xSem G p l e R s m args below meth c nL nx0 sl0 nxF slF Q) K o) : xSem G p l e R s m args below meth c nL nx0 sl0 nxF slF Q (pc, ls, st, σ) := by
  match st, h with
  | .inl x :: .inr (some q) :: r, h =>
    obtain ⟨n, f, j, hq, rfl, hj, hj2, rfl⟩ := h
    refine ⟨hp.1, fun H locs L h1 h2 hR hl hL => ?_⟩
    obtain ⟨cell, r1, r2, r3, r4, r5⟩ := xR_arr hR hK hq
    rcases ha with rfl | rfl
    · exact W.bald hx hb r1 r2 r3 (x_in2 hj hj2 r4.1) (by rw [nI_clamp hj2]; exact r5 j hj) rfl rfl hd (hp.2 H locs L h1 h2 hR hl hL)
    · exact W.zald hx hb r1 r2 r3 (x_in2 hj hj2 r4.1) (by rw [nI_clamp hj2]; exact r5 j hj) rfl rfl hd (hp.2 H locs L h1 h2 hR hl hL)
theorem x_upd (f : Nat → Int32) (j : Nat) (x : Int32) : (updV (fun k => .int (f k)) j (.int x)) = (fun k => Value.int (upd f j x k)) := by
  funext k
  by_cases h : k = j
  · simp [updV, upd, h]
  · simp [updV, upd, h]
theorem sn_iastore (hx : p.tables.exec = Jvm.exec) (hb : c.code = cc) (hK : xK G s) (hd : decode cc pc = .ok (.iastore, 1)) (h : xst E .iastore 1 a b pc ls st σ o) (hp : xpost (xSem G p l e R s m args below meth c nL nx0 sl0 nxF slF Q) K o) : xSem G p l e R s m args below meth c nL nx0 sl0 nxF slF Q (pc, ls, st, σ) := by
  match st, h with
  | .inl v :: .inl x :: .inr (some q) :: r, h =>
    obtain ⟨n, f, j, hq, rfl, hj, hj2, hq2, rfl⟩ := h
    refine ⟨hp.1, fun H locs L h1 h2 hR hl hL => ?_⟩
    have r1 := xR_arr2 hR hq hq2
    refine W.iast hx hb r1 ((hK.2.1 0).1 n _) (fun z => by cases z) (by rw [arrV_size]; exact x_in hj hj2) rfl rfl hd (fun H' e1 e2 e3 => ?_)
    rw [nI_clamp hj2, arrV_store, x_upd] at e1
    refine hp.2 H' _ L h1 h2 (xR_up hR hq2 hq e2 e3 e1) ?_ hL
    exact t_lc hl (by rw [xad_2 hq2]; omega)
theorem sn_bastore (hx : p.tables.exec = Jvm.exec) (hb : c.code = cc) (hK : xK G s) (hd : decode cc pc = .ok (.bastore, 1)) (ha : a = 1 ∨ a = 2) (h : xst E .bastore 1 a b pc ls st σ o) (hp : xpost (xSem G p l e R s m args below meth c nL nx0 sl0 nxF slF Q) K o) : xSem G p l e R s m args below meth c nL nx0 sl0 nxF slF Q (pc, ls, st, σ) := by
  match st, h with
  | .inl v :: .inl x :: .inr (some q) :: r, h =>
    obtain ⟨n, f, j, hq, rfl, hj, hj2, rfl⟩ := h
    refine ⟨hp.1, fun H locs L h1 h2 hR hl hL => ?_⟩
    have hq2 : 2 ≤ q := xR_nz hR hq (by omega)
    have r1 := xR_arr2 hR hq hq2
    rcases ha with rfl | rfl
    · refine W.bast hx hb r1 ((hK.2.1 1).1 n _) (fun z => by cases z) (by rw [arrV_size]; exact x_in hj hj2) rfl rfl hd (fun H' e1 e2 e3 => ?_)
      rw [nI_clamp hj2, arrV_store] at e1
      refine hp.2 H' _ L h1 h2 (xR_up hR hq2 hq e2 e3 ?_) (t_lc hl (by rw [xad_2 hq2]; omega)) hL
      exact e1.trans (congrArg (fun F => some (arrV (G.2.2.2.2.1 1) n F)) (x_upd f j (xnar 1 v)))
    · refine W.zast hx hb r1 ((hK.2.1 2).1 n _) (fun z => by cases z) (by rw [arrV_size]; exact x_in hj hj2) rfl rfl hd (fun H' e1 e2 e3 => ?_)
      rw [nI_clamp hj2, arrV_store] at e1
      refine hp.2 H' _ L h1 h2 (xR_up hR hq2 hq e2 e3 ?_) (t_lc hl (by rw [xad_2 hq2]; omega)) hL
      exact e1.trans (congrArg (fun F => some (arrV (G.2.2.2.2.1 2) n F)) (x_upd f j (xnar 2 v)))
theorem x_qty (t : Nat) : (xqty t).isReference = true := by
  unfold xqty
  split
  · rfl
  · split <;> rfl
theorem sn_aaload (hx : p.tables.exec = Jvm.exec) (hb : c.code = cc) (hK : xK G s) (hd : decode cc pc = .ok (.aaload, 1)) (h : xst E .aaload 1 a b pc ls st σ o) (hp : xpost (xSem G p l e R s m args below meth c nL nx0 sl0 nxF slF Q) K o) : xSem G p l e R s m args below meth c nL nx0 sl0 nxF slF Q (pc, ls, st, σ) := by
  match st, h with
  | .inl x :: .inr (some q) :: r, h =>
    obtain ⟨t, n, g, j, hq, rfl, hj, hj2, rfl⟩ := h
    refine ⟨hp.1, fun H locs L h1 h2 hR hl hL => ?_⟩
    obtain ⟨hq2, r1⟩ := xR_refs hR hq
    exact W.aald hx hb r1 ((hK.2.2 t).1 n _) (x_qty t) (fun z => by cases z) (by rw [arrV_size]; exact x_in hj hj2) (by rw [nI_clamp hj2]; exact arrV_read _ _ hj) rfl rfl hd (hp.2 H locs L h1 h2 hR hl hL)
theorem x_updq (G : xG) (g : Nat → Option Nat) (j : Nat) (v : Option Nat) : (updV (fun k => xv G (.inr (g k))) j (xv G (.inr v))) = (fun k => xv G (.inr (va_up g j v k))) := by
  funext k
  by_cases h : k = j
  · simp [updV, va_up, h]
  · simp [updV, va_up, h]
theorem sn_aastore (hx : p.tables.exec = Jvm.exec) (hb : c.code = cc) (hK : xK G s) (hd : decode cc pc = .ok (.aastore, 1)) (ha : a < 2) (h : xst E .aastore 1 a b pc ls st σ o) (hp : xpost (xSem G p l e R s m args below meth c nL nx0 sl0 nxF slF Q) K o) : xSem G p l e R s m args below meth c nL nx0 sl0 nxF slF Q (pc, ls, st, σ) := by
  match st, h with
  | .inr v :: .inl x :: .inr (some q) :: r, h =>
    obtain ⟨n, g, j, hq, rfl, hj, hj2, hv, rfl⟩ := h
    refine ⟨hp.1, fun H locs L h1 h2 hR hl hL => ?_⟩
    obtain ⟨hq2, r1⟩ := xR_refs hR hq
    have hend : ∀ H' : Heap, H'[xad G q]? = some ((arrV (G.2.2.2.2.2 a) n (fun j => xv G (.inr (g j)))).setSlot (nI j).toNatClampNeg (xv G (.inr v))) → H'.size = H.size → (∀ q', q' ≠ xad G q → H'[q']? = H[q']?) → W p l e R s m args below meth c H' (locs ++ [⟨xad G q, (nI j).toNatClampNeg⟩]) (σ.2.1 - nx0) (σ.2.2 - sl0) Q (F0 m (pc + 1) L (r.map (xv G))) := by
      intro H' e1 e2 e3
      rw [nI_clamp hj2, arrV_store, x_updq] at e1
      exact hp.2 H' _ L h1 h2 (xR_up hR hq2 hq e2 e3 e1) (t_lc hl (by rw [xad_2 hq2]; omega)) hL
    obtain ⟨kA, comp, k1, k2, k3⟩ := (hK.2.2 a).2.1
    rcases hv with rfl | ⟨k, fs, rfl, hk⟩
    · have hob : ∃ C, xqty a = .object C := by
        rcases (show a = 0 ∨ a = 1 by omega) with rfl | rfl
        · exact ⟨_, rfl⟩
        · exact ⟨_, rfl⟩
      obtain ⟨C, hC⟩ := hob
      have hAr := (hK.2.2 a).1 n (fun j => xv G (.inr (g j)))
      rw [hC] at hAr
      exact va_WaastN hx hb r1 hAr (fun z => by cases z) (by rw [arrV_size]; exact x_in hj hj2) rfl rfl hd hend
    · obtain ⟨hk2, rr, hr, cellV, g1, g2, g3, -⟩ := xR_obj hR hk
      have hcls := (hK.1 _ rr hr).2
      have hnm : rr.1 = xqn a := by
        rcases (show a = 0 ∨ a = 1 by omega) with rfl | rfl
        · cases hr; rfl
        · cases hr; rfl
      rw [hnm] at hcls
      have hcomp : comp = G.2.2.2.1.1 (xqc a) := Option.some.inj (k3.symm.trans hcls.1)
      subst hcomp
      obtain ⟨kC, hkC, -⟩ := hcls.2
      exact W.aast hx hb r1 (fun z hz => by cases hz) (fun z => by cases z) k1 k2 (x_qty a) hkC ⟨fun z => nI_pos hj2 z, by rw [arrV_size, nI_clamp hj2]; exact hj⟩ g1 (fun z hz => by rw [g3] at hz; cases hz) (by rw [g2]; exact hkC) (by rw [g2]; exact va_assign hcls) rfl rfl hd hend
theorem sn_arraylength (hx : p.tables.exec = Jvm.exec) (hb : c.code = cc) (hK : xK G s) (hd : decode cc pc = .ok (.arraylength, 1)) (h : xst E .arraylength 1 a b pc ls st σ o) (hp : xpost (xSem G p l e R s m args below meth c nL nx0 sl0 nxF slF Q) K o) : xSem G p l e R s m args below meth c nL nx0 sl0 nxF slF Q (pc, ls, st, σ) := by
  obtain ⟨q, r, rfl, n, hn, rfl⟩ := xr_inv h
  refine ⟨hp.1, fun H locs L h1 h2 hR hl hL => ?_⟩
  cases hq : σ.1 q with
  | none => rw [hq] at hn; cases hn
  | some en =>
    match en, hq, hn with
    | .inl (t, n', f), hq, hn =>
      rw [hq] at hn
      cases hn
      obtain ⟨cell, r1, r2, r3, r4, r5⟩ := xR_arr hR hK hq
      exact W.alen hx hb r1 r2 r4.2 rfl rfl hd (hp.2 H locs L h1 h2 hR hl hL)
    | .inr (.inl (t, n', g)), hq, hn =>
      rw [hq] at hn
      cases hn
      obtain ⟨hq2, r1⟩ := xR_refs hR hq
      exact W.alen hx hb r1 ((hK.2.2 t).1 n _) (by rw [arrV_size]; rfl) rfl rfl hd (hp.2 H locs L h1 h2 hR hl hL)
    | .inr (.inr (c', fs)), hq, hn =>
      rw [hq] at hn
      cases hn
end XSND
/-! fields, new cells, ends -/
section XSND
variable {G : xG} {p : Program} {l : Launch} {e : Env} {R : Room} {s : State} {m : MethodId} {args : Array Value} {below : List Frame} {meth : Method} {c : Code} {nL nx0 sl0 nxF slF : Nat} {Q : State → Prop}
variable {E : Nat → List xV → xS → Option xV → xS → Prop} {K : Option xV → xS → Prop} {cc : ByteArray} {pc a b : Nat} {ls : xL} {st : List xV} {σ : xS} {o : xO}
theorem x_VV (G : xG) {fs : List xV} {k : Nat} {v : xV} (h : fs[k]? = some v) : vp_V (fs.map (xv G)) k = xv G v := by
  simp [vp_V, List.getD_eq_getElem?_getD, h]
theorem sn_getfield (hx : p.tables.exec = Jvm.exec) (hb : c.code = cc) (hK : xK G s) {own : String} {idx : Nat} {C : String} {T : u_T} {N : Nat} {Ts : List Cond} (hts : ∀ w ∈ Ts, w.before args s = true) (hin : ∀ w ∈ u_ws C T N, w ∈ Ts) (hown : s.vm.findClass own = some m.cls) (hc : xcl[a]? = some (C, T, N)) (hk : b < N)
    (hlink : (Cond.fieldLink own idx (T b).1 (T b).2.1 (T b).2.2.1).before args s = true) (hd : decode cc pc = .ok (.getfield idx, 3)) (h : xst E (.getfield idx) 3 a b pc ls st σ o) (hp : xpost (xSem G p l e R s m args below meth c nL nx0 sl0 nxF slF Q) K o) : xSem G p l e R s m args below meth c nL nx0 sl0 nxF slF Q (pc, ls, st, σ) := by
  obtain ⟨q, r, rfl, fs, v, hq, hv, rfl⟩ := xr_inv h
  refine ⟨hp.1, fun H locs L h1 h2 hR hl hL => ?_⟩
  obtain ⟨hq2, rr, hr, cell, q1, q2, q3, q4⟩ := xR_obj hR hq
  cases hr.symm.trans hc
  obtain ⟨hS, hfc, kC, hkC, hkind⟩ := hK.1 a _ hc
  obtain ⟨cf, kf, fi, f, hi, hsl⟩ := hS b hk
  refine W.getf hx hb hown hlink hi (u_facts hfc hkC (u_lays hts hin hk) hi).1 q1 (by rw [q3]; exact fun z => by cases z) (v := xv G v) ?_ rfl rfl hd (hp.2 H locs L h1 h2 hR hl hL)
  rw [hsl, q4 b hk, x_VV G hv]
theorem x_set (G : xG) (fs : List xV) (b : Nat) (v : xV) : (fs.set b v).map (xv G) = (fs.map (xv G)).set b (xv G v) := List.map_set ..
/-- what a field's kind says of its type -/
def xftok (k : Nat) (ty : FieldType) : Bool := match k, ty with
  | 0, .int => true
  | 1, .boolean => true
  | 2, .object _ => true
  | 2, .array _ => true
  | _, _ => false
theorem x_fits (G : xG) {v : xV} {ty : FieldType} (h : xfit a b v) (hk : xftok (xft a b) ty = true) : narrow ty (xv G v) = xv G v ∧ fits ty (xv G v) = true := by
  match v, h with
  | .inl x, h =>
    rcases h with h | ⟨h, h'⟩
    · rw [h] at hk
      cases ty <;> first | exact ⟨rfl, rfl⟩ | exact absurd hk (by decide) | cases hk
    · rw [h] at hk
      rcases h' with rfl | rfl
      · cases ty <;> first | exact ⟨rfl, rfl⟩ | exact absurd hk (by decide) | cases hk
      · cases ty <;> first | exact ⟨rfl, rfl⟩ | exact absurd hk (by decide) | cases hk
  | .inr none, h =>
    rw [show xft a b = 2 from h] at hk
    cases ty <;> first | exact ⟨rfl, rfl⟩ | exact absurd hk (by decide) | cases hk
  | .inr (some q), h =>
    rw [show xft a b = 2 from h] at hk
    cases ty <;> first | exact ⟨rfl, rfl⟩ | exact absurd hk (by decide) | cases hk
theorem sn_putfield (hx : p.tables.exec = Jvm.exec) (hb : c.code = cc) (hK : xK G s) {own : String} {idx : Nat} {C : String} {T : u_T} {N : Nat} {Ts : List Cond} (hts : ∀ w ∈ Ts, w.before args s = true) (hin : ∀ w ∈ u_ws C T N, w ∈ Ts) (hown : s.vm.findClass own = some m.cls) (hc : xcl[a]? = some (C, T, N)) (hk : b < N)
    (ty0 : Nat → FieldType) (hty : ∀ k, k < N → parseFieldDescriptor (T k).2.2.1 = some (ty0 k)) (hnm : ∀ a, a < N → ∀ b, b < N → a ≠ b → (T a).2.1 ≠ (T b).2.1) (hok : xftok (xft a b) (ty0 b) = true) (hfin : (T b).2.2.2 = false ∨ ((T b).2.2.2 = true ∧ meth.name = "<init>" ∧ (T b).1 = own))
    (hlink : (Cond.fieldLink own idx (T b).1 (T b).2.1 (T b).2.2.1).before args s = true) (hd : decode cc pc = .ok (.putfield idx, 3)) (h : xst E (.putfield idx) 3 a b pc ls st σ o) (hp : xpost (xSem G p l e R s m args below meth c nL nx0 sl0 nxF slF Q) K o) : xSem G p l e R s m args below meth c nL nx0 sl0 nxF slF Q (pc, ls, st, σ) := by
  match st, h with
  | v :: .inr (some q) :: r, h =>
    obtain ⟨fs, hq, hbl, hfit, rfl⟩ := h
    refine ⟨hp.1, fun H locs L h1 h2 hR hl hL => ?_⟩
    obtain ⟨hq2, rr, hr, cell, q1, q2, q3, q4⟩ := xR_obj hR hq
    cases hr.symm.trans hc
    obtain ⟨hn, hft⟩ := x_fits G hfit hok
    have hap : ∀ x y, x < N → y < N → x ≠ y → (G.2.2.2.1.2 a) x ≠ (G.2.2.2.1.2 a) y := va_apart (D := G.2.2.2.1) (cl := xcl) (tys := []) (own := own) hts hin ty0 hty hnm ⟨hK.1, fun k q hq => by cases hq⟩ hc
    obtain ⟨hS, hfc, kC, hkC, hkind⟩ := hK.1 a _ hc
    obtain ⟨cf, kf, fi, f, hi, hsl⟩ := hS b hk
    have hlay := hts _ (hin _ (u_in_lay hk))
    unfold u_lay at hlay
    have hst := (u_facts hfc hkC (u_lays hts hin hk) hi).1
    have hend : ∀ H' : Heap, H'[xad G q]? = some (cell.setSlot f.slot (xv G v)) → H'.size = H.size → (∀ q', q' ≠ xad G q → H'[q']? = H[q']?) → W p l e R s m args below meth c H' (locs ++ [⟨xad G q, f.slot⟩]) (σ.2.1 - nx0) (σ.2.2 - sl0) Q (F0 m (pc + 3) L (r.map (xv G))) := by
      intro H' e1 e2 e3
      rw [hsl] at e1
      refine hp.2 H' _ L h1 h2 (xR_up hR hq2 hq e2 e3 ?_) (t_lc hl (by rw [xad_2 hq2]; omega)) hL
      refine ⟨_, hc, ?_⟩
      rw [x_set]
      exact t_OB.to (V := updV (vp_V (fs.map (xv G))) b (xv G v)) ⟨_, e1, q2, q3, t_set q4 hap hk _⟩ (fun j _ => vp_updV_set (by rw [List.length_map]; exact hbl) _ j)
    rcases hfin with hf | ⟨hf, hin2, hdecl⟩
    · rw [if_neg (by rw [hf]; decide)] at hlay
      have h6 := u_store hfc hkC hkind hlay hi (hty b hk) hn hft
      exact W.putK hx hb (f := f) ⟨hown, hlink, ⟨_, _, _, hi⟩, hst⟩ (by rw [q2]; exact h6) q1 q3 (by rw [hsl]; exact k2_hasslot (q4 b hk)) rfl rfl hd hend
    · rw [if_pos hf] at hlay
      have hcf : m.cls = cf := by
        obtain ⟨_, _, c', _, _, _, -, -, hf', -, -, -, hown2, -⟩ := Cond.laysFinal_spec hlay
        have e1 : c' = cf := by have := hi.symm.trans hf'; simp at this; exact this.1.symm
        rw [hdecl] at hown2
        rw [← e1]; exact Option.some.inj (hown.symm.trans hown2)
      have h6 := u_fits hfc hkC hkind (Or.inr hlay) hi (hty b hk) hn hft
      exact W.putFinK hx hb hown hlink hi hst hcf hin2 (by rw [q2]; exact h6) q1 q3 (by rw [hsl]; exact k2_hasslot (q4 b hk)) rfl rfl hd hend
theorem sn_new (hx : p.tables.exec = Jvm.exec) (hb : c.code = cc) (hK : xK G s) {own : String} {idx : Nat} {C : String} {T : u_T} {N : Nat} {Ts : List Cond} (hts : ∀ w ∈ Ts, w.before args s = true) (hin : ∀ w ∈ u_ws C T N, w ∈ Ts) (hown : s.vm.findClass own = some m.cls) (hc : xcl[a]? = some (C, T, N))
    (ty0 : Nat → FieldType) (hty : ∀ k, k < N → parseFieldDescriptor (T k).2.2.1 = some (ty0 k)) (hdf : ∀ (G : xG) (k : Nat), k < N → defaultValue (ty0 k) = vp_V ((xdf a).map (xv G)) k) (hRc : nxF - nx0 ≤ R.cells) (hRs : slF - sl0 ≤ R.slots)
    (hcl : (Cond.classLink own idx C).before args s = true) (hinst : (Cond.instantiable C b).before args s = true) (hini : (Cond.initialized C).before args s = true)
    (hd : decode cc pc = .ok (.new idx, 3)) (h : xst E (.new idx) 3 a b pc ls st σ o) (hp : xpost (xSem G p l e R s m args below meth c nL nx0 sl0 nxF slF Q) K o) : xSem G p l e R s m args below meth c nL nx0 sl0 nxF slF Q (pc, ls, st, σ) := by
  have h : o = .inl (pc + 3, ls, .inr (some σ.2.1) :: st, xnew σ (.inr (.inr (a, xdf a))) b) := h
  subst h
  have hb1 : σ.2.1 + 1 ≤ nxF := hp.1.1
  have hb2 : σ.2.2 + b ≤ slF := hp.1.2
  refine ⟨⟨by show σ.2.1 ≤ nxF; omega, by show σ.2.2 ≤ slF; omega⟩, fun H locs L h1 h2 hR hl hL => ?_⟩
  have h1 : nx0 ≤ σ.2.1 := h1
  have h2 : sl0 ≤ σ.2.2 := h2
  have hnx := xR_nx hR
  obtain ⟨hS, hfc⟩ := hK.1 a _ hc
  have e1 : σ.2.1 - nx0 + 1 = (xnew σ (.inr (.inr (a, xdf a))) b).2.1 - nx0 := by show _ = σ.2.1 + 1 - nx0; omega
  have e2 : σ.2.2 - sl0 + b = (xnew σ (.inr (.inr (a, xdf a))) b).2.2 - sl0 := by show _ = σ.2.2 + b - sl0; omega
  refine W.newcK hx hb hown hcl hinst hini rfl hd (by show σ.2.1 - nx0 + 1 ≤ R.cells; omega) (by show σ.2.2 - sl0 + b ≤ R.slots; omega) hfc.1 hnx.symm (fun H' kC hkC g1 g2 g3 => ?_)
  show W p l e R s m args below meth c H' locs (σ.2.1 - nx0 + 1) (σ.2.2 - sl0 + b) Q _
  rw [e1, e2]
  refine hp.2 H' locs L (by show nx0 ≤ σ.2.1 + 1; omega) (by show sl0 ≤ σ.2.2 + b; omega) (xR_new b hR (by rw [g2, hnx]) (fun q hq => g3 q (by rw [hnx]; exact hq)) ?_) hl hL
  exact ⟨_, hc, (u_born ty0 hts hin ⟨hS, hfc⟩ hkC g1 hty).to (fun j hj => hdf G j hj)⟩
theorem sn_newarray (hx : p.tables.exec = Jvm.exec) (hb : c.code = cc) (hK : xK G s) {at_ : ArrayType} (harr : (Cond.arrayClass (newarray.typeOf at_)).before args s = true) (hat : newarray.typeOf at_ = xty a) (hRc : nxF - nx0 ≤ R.cells) (hRs : slF - sl0 ≤ R.slots)
    (hd : decode cc pc = .ok (.newarray at_, 2)) (h : xst E (.newarray at_) 2 a b pc ls st σ o) (hp : xpost (xSem G p l e R s m args below meth c nL nx0 sl0 nxF slF Q) K o) : xSem G p l e R s m args below meth c nL nx0 sl0 nxF slF Q (pc, ls, st, σ) := by
  obtain ⟨x, r, rfl, n, rfl, hn, rfl⟩ := x1_inv h
  have hb1 : σ.2.1 + 1 ≤ nxF := hp.1.1
  have hb2 : σ.2.2 + n ≤ slF := hp.1.2
  refine ⟨⟨by show σ.2.1 ≤ nxF; omega, by show σ.2.2 ≤ slF; omega⟩, fun H locs L h1 h2 hR hl hL => ?_⟩
  have h1 : nx0 ≤ σ.2.1 := h1
  have h2 : sl0 ≤ σ.2.2 := h2
  have hnx := xR_nx hR
  have hcl := nI_clamp (n := n) (by omega)
  have e1 : σ.2.1 - nx0 + 1 = (xnew σ (.inl (a, n, fun _ => 0)) n).2.1 - nx0 := by show _ = σ.2.1 + 1 - nx0; omega
  have e2 : σ.2.2 - sl0 + n = (xnew σ (.inl (a, n, fun _ => 0)) n).2.2 - sl0 := by show _ = σ.2.2 + n - sl0; omega
  refine va_newaK hx hb harr rfl hd rfl (nI_pos (by omega)) hcl ?_ (by show σ.2.1 - nx0 + 1 ≤ R.cells; omega) (by show σ.2.2 - sl0 + n ≤ R.slots; omega) hnx.symm (fun H' cA g1 g2 g3 g4 g5 => ?_)
  · have : componentBytes (newarray.typeOf at_) ≤ 8 := by cases at_ <;> decide
    calc n * componentBytes (newarray.typeOf at_) ≤ n * 8 := Nat.mul_le_mul_left _ this
      _ ≤ 536870912 := by omega
  · show W p l e R s m args below meth c H' locs (σ.2.1 - nx0 + 1) (σ.2.2 - sl0 + n) Q _
    rw [e1, e2]
    refine hp.2 H' locs L (by show nx0 ≤ σ.2.1 + 1; omega) (by show sl0 ≤ σ.2.2 + n; omega) (xR_new n hR (by rw [g2, hnx]) (fun q hq => g3 q (by rw [hnx]; exact hq)) ?_) hl hL
    rw [hat, (hK.2.1 a).2] at g5
    cases g5
    show H'[xad G σ.2.1]? = some (arrV (G.2.2.2.2.1 a) n (fun _ => .int 0))
    rw [g1]
    have : defaultValue (newarray.typeOf at_) = .int 0 := by
      rw [hat]
      unfold xty
      split
      · rfl
      · split <;> rfl
    rw [this]
theorem sn_anewarray (hx : p.tables.exec = Jvm.exec) (hb : c.code = cc) (hK : xK G s) {own : String} {idx : Nat} (hown : s.vm.findClass own = some m.cls) (ha : xqty a = .object (xqn a)) (hclink : (Cond.classLink own idx (xqn a)).before args s = true) (hover : (Cond.arrayOver (.object (xqn a))).before args s = true) (hRc : nxF - nx0 ≤ R.cells) (hRs : slF - sl0 ≤ R.slots)
    (hd : decode cc pc = .ok (.anewarray idx, 3)) (h : xst E (.anewarray idx) 3 a b pc ls st σ o) (hp : xpost (xSem G p l e R s m args below meth c nL nx0 sl0 nxF slF Q) K o) : xSem G p l e R s m args below meth c nL nx0 sl0 nxF slF Q (pc, ls, st, σ) := by
  obtain ⟨x, r, rfl, n, rfl, hn, rfl⟩ := x1_inv h
  have hb1 : σ.2.1 + 1 ≤ nxF := hp.1.1
  have hb2 : σ.2.2 + n ≤ slF := hp.1.2
  refine ⟨⟨by show σ.2.1 ≤ nxF; omega, by show σ.2.2 ≤ slF; omega⟩, fun H locs L h1 h2 hR hl hL => ?_⟩
  have h1 : nx0 ≤ σ.2.1 := h1
  have h2 : sl0 ≤ σ.2.2 := h2
  have hnx := xR_nx hR
  have hcl := nI_clamp (n := n) (by omega)
  have e1 : σ.2.1 - nx0 + 1 = (xnew σ (.inr (.inl (a, n, fun _ => none))) n).2.1 - nx0 := by show _ = σ.2.1 + 1 - nx0; omega
  have e2 : σ.2.2 - sl0 + n = (xnew σ (.inr (.inl (a, n, fun _ => none))) n).2.2 - sl0 := by show _ = σ.2.2 + n - sl0; omega
  refine W.anew hx hb hown hclink hover rfl hd rfl (nI_pos (by omega)) (by rw [hcl]; omega) (by show σ.2.1 - nx0 + 1 ≤ R.cells; omega) (by rw [hcl]; show σ.2.2 - sl0 + n ≤ R.slots; omega) (fun cA kA comp f1 f2 f3 f4 => ?_)
  rw [hcl]
  show W p l e R s m args below meth c _ locs (σ.2.1 - nx0 + 1) (σ.2.2 - sl0 + n) Q _
  rw [e1, e2, ← hnx]
  refine hp.2 _ locs L (by show nx0 ≤ σ.2.1 + 1; omega) (by show sl0 ≤ σ.2.2 + n; omega) (xR_new n hR (by rw [Array.size_push]) (fun q hq => by rw [Array.getElem?_push, if_neg (Nat.ne_of_lt hq)]) ?_) hl hL
  have g5 := (hK.2.2 a).2.2
  rw [ha, f1] at g5
  cases g5
  show _[xad G σ.2.1]? = some (arrV (G.2.2.2.2.2 a) n (fun _ => .null))
  rw [hnx, Array.getElem?_push_size, ← arrV_new]
end XSND
end
section
/-! ends and calls -/
/-- the room of a method that calls d deep -/
def xrm (d mc ms : Nat) : Room := { frames := d, cells := mc, slots := ms, locals := 40 * d }
/-- a method's words -/
def xws (y : Nat) : List Cond := Cond.code (xmn y) (xmb y) (xml y) (xmr y) :: xW
def xPc (G : xG) (as : List xV) (σ : xS) : Array Value → State → Prop := fun v U => v = (as.map (xv G)).toArray ∧ xR G U σ U.heap ∧ xK G U ∧ xN U
def xQc (G : xG) (r : Option xV) (σ' : xS) : Array Value → State → Outcome → State → Prop := fun _ _ oc t => oc = .returned (r.map (xv G)) ∧ xR G t σ' t.heap
/-- a contract, at one start and one end -/
def xCt (G : xG) (l : Launch) (d y : Nat) (as : List xV) (σ : xS) (r : Option xV) (σ' : xS) : Prop :=
  (σ.2.1 ≤ σ'.2.1 ∧ σ.2.2 ≤ σ'.2.2) ∧ Met l (xmn y) (xws y) (xrm d (σ'.2.1 - σ.2.1) (σ'.2.2 - σ.2.2)) (xPc G as σ) (xQc G r σ') (σ'.2.1 - σ.2.1) (σ'.2.2 - σ.2.2) (fun q => G.2.2.1 ≤ q)
theorem xPc_blind {G : xG} {as : List xV} {σ : xS} : FrameBlind (xPc G as σ) := by
  intro a U g mk q
  obtain ⟨h1, h2, h3, h4⟩ := q
  exact ⟨h1, xR_moved (u := U) (U := U.calling g mk a) (Vm.Alike.refl U.vm) h2, xK_moved (u := U) (U := U.calling g mk a) (Vm.Alike.refl U.vm) h3, xN_same (u := U) (U := U.calling g mk a) rfl h4⟩
section XSND
variable {G : xG} {p : Program} {l : Launch} {e : Env} {R : Room} {s : State} {m : MethodId} {args : Array Value} {below : List Frame} {meth : Method} {c : Code} {nL nx0 sl0 nxF slF : Nat} {Q : State → Prop}
variable {E : Nat → List xV → xS → Option xV → xS → Prop} {K : Option xV → xS → Prop} {cc : ByteArray} {pc a b : Nat} {ls : xL} {st : List xV} {σ : xS} {o : xO}
theorem x_went {H : Heap} {locs : List Loc} {cells slots mc ms : Nat} {L : Array Slot} {st0 rest : List Value} {r : Option xV} {σ1 : xS} {va : Array Value}
    (hr : va_Run p l e R s m args below meth c H locs cells slots mc ms (F0 m pc L st0) rest (xQc G r σ1 va) (fun q => G.2.2.1 ≤ q)) (hl : ∀ q ∈ locs, G.2.2.1 ≤ q.base)
    (kk : ∀ (H1 : Heap) (locs1 : List Loc), xR G s σ1 H1 → (∀ q ∈ locs1, G.2.2.1 ≤ q.base) → W p l e R s m args below meth c H1 locs1 (cells + mc) (slots + ms) Q (F0 m (pc + 3) L ((r.map (xv G)).toList ++ rest))) : W p l e R s m args below meth c H locs cells slots Q (F0 m pc L st0) := by
  intro T hT X
  obtain ⟨v, st₀, t, T', L', h0, X', hL, e1, e2, ⟨hv, hR⟩, stp⟩ := hr T hT X
  cases hv
  have hal : t.vm.Alike s.vm := by rw [← e2]; exact X'.warmed.alike.symm
  obtain ⟨t2, a1, b1⟩ := kk T'.heap (locs ++ L') (by rw [e1]; exact xR_moved hal hR) (fun q hq => by
    rcases List.mem_append.mp hq with h | h
    · exact hl q h
    · exact hL q h) T' rfl X'
  exact ⟨t2, stp t2 a1, b1⟩
/-- the rows of the tables that a call of y needs -/
def xgood (y : Nat) : Prop := Cond.code (xmn y) (xmb y) (xml y) (xmr y) ∈ xW ∧ Cond.initialized (xmn y).cls ∈ xW ∧ ((xmn y).cls ≠ "java/lang/invoke/MethodHandle" ∧ (xmn y).cls ≠ "java/lang/invoke/VarHandle") ∧ xml y ≤ 21
theorem x_pay (hts : ∀ w ∈ xW, w.before args s = true) {y : Nat} (hg : xgood y) : ∀ w ∈ xws y, ∀ (a' : Array Value) (U : State), s.WarmedH U.vm → w.before a' U = true := by
  have hin : ∀ w ∈ xws y, w ∈ xW := by
    intro w hw
    rcases List.mem_cons.mp hw with rfl | hw
    · exact hg.1
    · exact hw
  intro w hw a' U hW
  exact word_at hW (xW_good (hin w hw)) (hts w (hin w hw))
theorem x_room {d y mc ms : Nat} (hg : xgood y) (hf : R.frames = d + 1) (hlo : R.locals = 40 * (d + 1)) : (xrm d mc ms).frames + 1 ≤ R.frames ∧ 8 + (xml y + 11) + (xrm d mc ms).locals ≤ R.locals := by
  have := hg.2.2.2
  constructor
  · show d + 1 ≤ _; omega
  · show 8 + (xml y + 11) + 40 * d ≤ _; omega
theorem x_cats (G : xG) (st : List xV) : ((st.map (xv G)).map fun v => v.category).sum = st.length := by
  induction st with
  | nil => rfl
  | cons v st ih => simp only [List.map_cons, List.sum_cons, List.length_cons, ih, xv_cat]; omega
theorem x_take {st : List xV} {n : Nat} : st.map (xv G) = (((st.take n).reverse).map (xv G)).reverse ++ (st.drop n).map (xv G) := by
  rw [← List.map_reverse, List.reverse_reverse, ← List.map_append, List.take_append_drop]
end XSND
/-! calls, by their kind -/
section XSND
variable {G : xG} {p : Program} {l : Launch} {e : Env} {R : Room} {s : State} {m : MethodId} {args : Array Value} {below : List Frame} {meth : Method} {c : Code} {nL nx0 sl0 nxF slF : Nat} {Q : State → Prop}
variable {E : Nat → List xV → xS → Option xV → xS → Prop} {K : Option xV → xS → Prop} {cc : ByteArray} {pc a b : Nat} {ls : xL} {st : List xV} {σ : xS} {o : xO}
/-- what a caller stands on -/
def xCx (G : xG) (p : Program) (l : Launch) (R : Room) (s : State) (m : MethodId) (args : Array Value) (c : Code) (cc : ByteArray) (nL d nx0 sl0 nxF slF : Nat) (own : String) (E : Nat → List xV → xS → Option xV → xS → Prop) : Prop :=
  p.tables.exec = Jvm.exec ∧ c.code = cc ∧ c.maxLocals = nL ∧ s.vm.findClass own = some m.cls ∧ (∀ w ∈ xW, w.before args s = true) ∧ xK G s ∧ xN s ∧ R.frames = d + 1 ∧ R.locals = 40 * (d + 1) ∧ nxF - nx0 ≤ R.cells ∧ slF - sl0 ≤ R.slots ∧ (∀ y as σ r σ1, E y as σ r σ1 → xCt G l d y as σ r σ1)
theorem x_stack1 {m : Nat} {q : Nat} {As : List xV} (h : (st.take m).reverse = .inr (some q) :: As) : st.map (xv G) = (As.map (xv G)).reverse ++ .ref (xad G q) :: (st.drop m).map (xv G) := by
  rw [x_take (n := m), h]
  simp [xv]
theorem x_argsl {m : Nat} {q : Nat} {As : List xV} (h : (st.take m).reverse = .inr (some q) :: As) (hm : m ≤ st.length) : As.length + 1 = m := by
  have := congrArg List.length h
  simp at this
  omega
theorem x_toList {r : Option xV} {t : List xV} : (r.toList ++ t).map (xv G) = (r.map (xv G)).toList ++ t.map (xv G) := by
  cases r <;> simp
theorem sn_callV {d : Nat} {own : String} (C : xCx G p l R s m args c cc nL d nx0 sl0 nxF slF own E) {idx : Nat} (hg : xgood a) (hn : ∀ sig, parseMethodDescriptor (xmn a).desc = some sig → xma a = sig.parameters.length + 1) (hcl : ∀ r, xcl[xmc a]? = some r → r.1 = (xmn a).cls) (hin : Cond.instanceMethod (xmn a) ∈ xW) (hse : Cond.selects (xmn a).cls (xmn a) (xmn a) ∈ xW) (hlink : (Cond.methodLink own idx (xmn a)).before args s = true) (hd : decode cc pc = .ok (.invokevirtual idx, 3)) (h : xcall E a 2 (pc + 3) ls st σ o) (hp : xpost (xSem G p l e R s m args below meth c nL nx0 sl0 nxF slF Q) K o) : xSem G p l e R s m args below meth c nL nx0 sl0 nxF slF Q (pc, ls, st, σ) := by
  obtain ⟨hx, hb, hml, hown, hts, hK, hN, hf, hlo, hRc, hRs, hE⟩ := C
  obtain ⟨r, σ1, hlen, hrest, hrcv, he, rfl⟩ := h
  obtain ⟨q, As, fs, harg, hq⟩ := hrcv
  obtain ⟨⟨hm1, hm2⟩, hM⟩ := hE _ _ _ _ _ he
  have hb1 : σ1.2.1 ≤ nxF := hp.1.1
  have hb2 : σ1.2.2 ≤ slF := hp.1.2
  refine ⟨⟨Nat.le_trans hm1 hb1, Nat.le_trans hm2 hb2⟩, fun H locs L h1 h2 hR hl hL => ?_⟩
  have h1 : nx0 ≤ σ.2.1 := h1
  have h2 : sl0 ≤ σ.2.2 := h2
  have hrm := x_room (R := R) (d := d) (y := a) (mc := σ1.2.1 - σ.2.1) (ms := σ1.2.2 - σ.2.2) hg hf hlo
  have hal := x_argsl harg hlen
  obtain ⟨hq2, rr, hr, cell, q1, q2, q3, -⟩ := xR_obj hR hq
  have hnm := hcl rr hr
  have hcc := (hK.1 _ rr hr).2.1
  rw [hnm] at hcc
  have run := va_runV (C := (xmn a).cls) (bytes := xmb a) (maxL := xml a) (ret := xmr a) (n := xma a - 1) (b := xad G q) (As := As.map (xv G)) (rest := (st.drop (xma a)).map (xv G)) (g := F0 m pc L (st.map (xv G))) (e := e) (below := below) (meth := meth) (⟨hx, hb, hml, hown, hts⟩ : CallFix p m c cc nL s args xW own) hM ⟨⟨rfl, rfl, hrm.1, hrm.2, x_pay hts hg, List.mem_cons_self, hts _ hg.1, hts _ hg.2.1, hg.2.2.1, (fun sig h => by have := hn sig h; omega), hlink⟩, hts _ hin, hts _ hse⟩ ⟨xPc_blind, ⟨cell, q1, by rw [q3]; rfl, by rw [q2]; exact hcc⟩, fun U hU hW => ⟨by rw [harg]; rfl, by rw [hU]; exact xR_moved hW.alike hR, xK_moved hW.alike hK, xN_warm hW hN⟩⟩ rfl (by rw [List.length_map]; omega) hL.2.1 (x_stack1 harg) (lv_room (by rw [x_cats]; omega)) hd (H := H) (locs := locs) (cells := σ.2.1 - nx0) (slots := σ.2.2 - sl0) ⟨by omega, by omega⟩
  refine x_went run hl (fun H1 locs1 hR1 hl1 => ?_)
  have g := hp.2 H1 locs1 L (Nat.le_trans h1 hm1) (Nat.le_trans h2 hm2) hR1 hl1 hL
  have e1 : σ1.2.1 - nx0 = σ.2.1 - nx0 + (σ1.2.1 - σ.2.1) := by omega
  have e2 : σ1.2.2 - sl0 = σ.2.2 - sl0 + (σ1.2.2 - σ.2.2) := by omega
  dsimp only at g
  rw [x_toList, e1, e2] at g
  exact g
theorem sn_callVN {d : Nat} {own host : String} (C : xCx G p l R s m args c cc nL d nx0 sl0 nxF slF own E) {idx : Nat} (hg : xgood a) (hn : ∀ sig, parseMethodDescriptor (xmn a).desc = some sig → xma a = sig.parameters.length + 1) (hcl : ∀ r, xcl[xmc a]? = some r → r.1 = (xmn a).cls) (hin : Cond.instanceMethod (xmn a) ∈ xW) (hse : Cond.selects (xmn a).cls (xmn a) (xmn a) ∈ xW) (hlink : (Cond.methodLinkNest own idx (xmn a) host).before args s = true) (hd : decode cc pc = .ok (.invokevirtual idx, 3)) (h : xcall E a 3 (pc + 3) ls st σ o) (hp : xpost (xSem G p l e R s m args below meth c nL nx0 sl0 nxF slF Q) K o) : xSem G p l e R s m args below meth c nL nx0 sl0 nxF slF Q (pc, ls, st, σ) := by
  obtain ⟨hx, hb, hml, hown, hts, hK, hN, hf, hlo, hRc, hRs, hE⟩ := C
  obtain ⟨r, σ1, hlen, hrest, hrcv, he, rfl⟩ := h
  obtain ⟨q, As, fs, harg, hq⟩ := hrcv
  obtain ⟨⟨hm1, hm2⟩, hM⟩ := hE _ _ _ _ _ he
  have hb1 : σ1.2.1 ≤ nxF := hp.1.1
  have hb2 : σ1.2.2 ≤ slF := hp.1.2
  refine ⟨⟨Nat.le_trans hm1 hb1, Nat.le_trans hm2 hb2⟩, fun H locs L h1 h2 hR hl hL => ?_⟩
  have h1 : nx0 ≤ σ.2.1 := h1
  have h2 : sl0 ≤ σ.2.2 := h2
  have hrm := x_room (R := R) (d := d) (y := a) (mc := σ1.2.1 - σ.2.1) (ms := σ1.2.2 - σ.2.2) hg hf hlo
  have hal := x_argsl harg hlen
  obtain ⟨hq2, rr, hr, cell, q1, q2, q3, -⟩ := xR_obj hR hq
  have hnm := hcl rr hr
  have hcc := (hK.1 _ rr hr).2.1
  rw [hnm] at hcc
  have run := va_runVN (C := (xmn a).cls) (bytes := xmb a) (maxL := xml a) (ret := xmr a) (n := xma a - 1) (b := xad G q) (As := As.map (xv G)) (rest := (st.drop (xma a)).map (xv G)) (g := F0 m pc L (st.map (xv G))) (e := e) (below := below) (meth := meth) (⟨hx, hb, hml, hown, hts⟩ : CallFix p m c cc nL s args xW own) hM ⟨⟨⟨rfl, rfl, hrm.1, hrm.2, x_pay hts hg, List.mem_cons_self⟩, hts _ hg.1, hts _ hg.2.1, hg.2.2.1, (fun sig h => by have := hn sig h; omega), hlink⟩, hts _ hin, hts _ hse⟩ ⟨xPc_blind, ⟨cell, q1, by rw [q3]; rfl, by rw [q2]; exact hcc⟩, fun U hU hW => ⟨by rw [harg]; rfl, by rw [hU]; exact xR_moved hW.alike hR, xK_moved hW.alike hK, xN_warm hW hN⟩⟩ rfl (by rw [List.length_map]; omega) hL.2.1 (x_stack1 harg) (lv_room (by rw [x_cats]; omega)) hd (H := H) (locs := locs) (cells := σ.2.1 - nx0) (slots := σ.2.2 - sl0) ⟨by omega, by omega⟩
  refine x_went run hl (fun H1 locs1 hR1 hl1 => ?_)
  have g := hp.2 H1 locs1 L (Nat.le_trans h1 hm1) (Nat.le_trans h2 hm2) hR1 hl1 hL
  have e1 : σ1.2.1 - nx0 = σ.2.1 - nx0 + (σ1.2.1 - σ.2.1) := by omega
  have e2 : σ1.2.2 - sl0 = σ.2.2 - sl0 + (σ1.2.2 - σ.2.2) := by omega
  dsimp only at g
  rw [x_toList, e1, e2] at g
  exact g
theorem sn_callS {d : Nat} {own : String} (C : xCx G p l R s m args c cc nL d nx0 sl0 nxF slF own E) {idx : Nat} (hg : xgood a) (hn : ∀ sig, parseMethodDescriptor (xmn a).desc = some sig → xma a = sig.parameters.length) (hst : Cond.static (xmn a) ∈ xW) (hlink : (Cond.methodLink own idx (xmn a)).before args s = true) (hd : decode cc pc = .ok (.invokestatic idx, 3)) (h : xcall E a 4 (pc + 3) ls st σ o) (hp : xpost (xSem G p l e R s m args below meth c nL nx0 sl0 nxF slF Q) K o) : xSem G p l e R s m args below meth c nL nx0 sl0 nxF slF Q (pc, ls, st, σ) := by
  obtain ⟨hx, hb, hml, hown, hts, hK, hN, hf, hlo, hRc, hRs, hE⟩ := C
  obtain ⟨r, σ1, hlen, hrest, hrcv, he, rfl⟩ := h
  obtain ⟨⟨hm1, hm2⟩, hM⟩ := hE _ _ _ _ _ he
  have hb1 : σ1.2.1 ≤ nxF := hp.1.1
  have hb2 : σ1.2.2 ≤ slF := hp.1.2
  refine ⟨⟨Nat.le_trans hm1 hb1, Nat.le_trans hm2 hb2⟩, fun H locs L h1 h2 hR hl hL => ?_⟩
  have h1 : nx0 ≤ σ.2.1 := h1
  have h2 : sl0 ≤ σ.2.2 := h2
  have hrm := x_room (R := R) (d := d) (y := a) (mc := σ1.2.1 - σ.2.1) (ms := σ1.2.2 - σ.2.2) hg hf hlo
  have run := va_runS (bytes := xmb a) (maxL := xml a) (ret := xmr a) (n := xma a) (As := ((st.take (xma a)).reverse).map (xv G)) (rest := (st.drop (xma a)).map (xv G)) (g := F0 m pc L (st.map (xv G))) (e := e) (below := below) (meth := meth) (⟨hx, hb, hml, hown, hts⟩ : CallFix p m c cc nL s args xW own) hM ⟨⟨rfl, rfl, hrm.1, hrm.2, x_pay hts hg, List.mem_cons_self, hts _ hg.1, hts _ hg.2.1, hg.2.2.1, (fun sig h => hn sig h), hlink⟩, hts _ hst⟩ ⟨xPc_blind, fun U hU hW => ⟨rfl, by rw [hU]; exact xR_moved hW.alike hR, xK_moved hW.alike hK, xN_warm hW hN⟩⟩ rfl (by simp; omega) hL.2.1 (x_take (n := xma a)) (lv_room (by rw [x_cats]; omega)) hd (H := H) (locs := locs) (cells := σ.2.1 - nx0) (slots := σ.2.2 - sl0) ⟨by omega, by omega⟩
  refine x_went run hl (fun H1 locs1 hR1 hl1 => ?_)
  have g := hp.2 H1 locs1 L (Nat.le_trans h1 hm1) (Nat.le_trans h2 hm2) hR1 hl1 hL
  have e1 : σ1.2.1 - nx0 = σ.2.1 - nx0 + (σ1.2.1 - σ.2.1) := by omega
  have e2 : σ1.2.2 - sl0 = σ.2.2 - sl0 + (σ1.2.2 - σ.2.2) := by omega
  dsimp only at g
  rw [x_toList, e1, e2] at g
  exact g
theorem sn_callSN {d : Nat} {own host : String} (C : xCx G p l R s m args c cc nL d nx0 sl0 nxF slF own E) {idx : Nat} (hg : xgood a) (hn : ∀ sig, parseMethodDescriptor (xmn a).desc = some sig → xma a = sig.parameters.length) (hst : Cond.static (xmn a) ∈ xW) (hlink : (Cond.methodLinkNest own idx (xmn a) host).before args s = true) (hd : decode cc pc = .ok (.invokestatic idx, 3)) (h : xcall E a 5 (pc + 3) ls st σ o) (hp : xpost (xSem G p l e R s m args below meth c nL nx0 sl0 nxF slF Q) K o) : xSem G p l e R s m args below meth c nL nx0 sl0 nxF slF Q (pc, ls, st, σ) := by
  obtain ⟨hx, hb, hml, hown, hts, hK, hN, hf, hlo, hRc, hRs, hE⟩ := C
  obtain ⟨r, σ1, hlen, hrest, hrcv, he, rfl⟩ := h
  obtain ⟨⟨hm1, hm2⟩, hM⟩ := hE _ _ _ _ _ he
  have hb1 : σ1.2.1 ≤ nxF := hp.1.1
  have hb2 : σ1.2.2 ≤ slF := hp.1.2
  refine ⟨⟨Nat.le_trans hm1 hb1, Nat.le_trans hm2 hb2⟩, fun H locs L h1 h2 hR hl hL => ?_⟩
  have h1 : nx0 ≤ σ.2.1 := h1
  have h2 : sl0 ≤ σ.2.2 := h2
  have hrm := x_room (R := R) (d := d) (y := a) (mc := σ1.2.1 - σ.2.1) (ms := σ1.2.2 - σ.2.2) hg hf hlo
  have run := va_runSN (bytes := xmb a) (maxL := xml a) (ret := xmr a) (n := xma a) (As := ((st.take (xma a)).reverse).map (xv G)) (rest := (st.drop (xma a)).map (xv G)) (g := F0 m pc L (st.map (xv G))) (e := e) (below := below) (meth := meth) (⟨hx, hb, hml, hown, hts⟩ : CallFix p m c cc nL s args xW own) hM ⟨⟨⟨rfl, rfl, hrm.1, hrm.2, x_pay hts hg, List.mem_cons_self⟩, hts _ hg.1, hts _ hg.2.1, hg.2.2.1, (fun sig h => hn sig h), hlink⟩, hts _ hst, trivial⟩ ⟨xPc_blind, fun U hU hW => ⟨rfl, by rw [hU]; exact xR_moved hW.alike hR, xK_moved hW.alike hK, xN_warm hW hN⟩⟩ rfl (by simp; omega) hL.2.1 (x_take (n := xma a)) (lv_room (by rw [x_cats]; omega)) hd (H := H) (locs := locs) (cells := σ.2.1 - nx0) (slots := σ.2.2 - sl0) ⟨by omega, by omega⟩
  refine x_went run hl (fun H1 locs1 hR1 hl1 => ?_)
  have g := hp.2 H1 locs1 L (Nat.le_trans h1 hm1) (Nat.le_trans h2 hm2) hR1 hl1 hL
  have e1 : σ1.2.1 - nx0 = σ.2.1 - nx0 + (σ1.2.1 - σ.2.1) := by omega
  have e2 : σ1.2.2 - sl0 = σ.2.2 - sl0 + (σ1.2.2 - σ.2.2) := by omega
  dsimp only at g
  rw [x_toList, e1, e2] at g
  exact g
theorem sn_callI {d : Nat} {own : String} (C : xCx G p l R s m args c cc nL d nx0 sl0 nxF slF own E) {idx : Nat} (hg : xgood a) (hn : ∀ sig, parseMethodDescriptor (xmn a).desc = some sig → xma a = sig.parameters.length + 1) (hin : Cond.instanceMethod (xmn a) ∈ xW) (hnm : (xmn a).name = "<init>") (hrt : xmr a = none) (hlink : (Cond.methodLink own idx (xmn a)).before args s = true) (hd : decode cc pc = .ok (.invokespecial idx, 3)) (h : xcall E a 0 (pc + 3) ls st σ o) (hp : xpost (xSem G p l e R s m args below meth c nL nx0 sl0 nxF slF Q) K o) : xSem G p l e R s m args below meth c nL nx0 sl0 nxF slF Q (pc, ls, st, σ) := by
  obtain ⟨hx, hb, hml, hown, hts, hK, hN, hf, hlo, hRc, hRs, hE⟩ := C
  obtain ⟨r, σ1, hlen, hrest, hrcv, he, rfl⟩ := h
  obtain ⟨q, As, harg⟩ := hrcv
  obtain ⟨⟨hm1, hm2⟩, hM⟩ := hE _ _ _ _ _ he
  have hb1 : σ1.2.1 ≤ nxF := hp.1.1
  have hb2 : σ1.2.2 ≤ slF := hp.1.2
  refine ⟨⟨Nat.le_trans hm1 hb1, Nat.le_trans hm2 hb2⟩, fun H locs L h1 h2 hR hl hL => ?_⟩
  have h1 : nx0 ≤ σ.2.1 := h1
  have h2 : sl0 ≤ σ.2.2 := h2
  have hrm := x_room (R := R) (d := d) (y := a) (mc := σ1.2.1 - σ.2.1) (ms := σ1.2.2 - σ.2.2) hg hf hlo
  have hal := x_argsl harg hlen
  have hct : xws a = Cond.code (xmn a) (xmb a) (xml a) none :: xW := by unfold xws; rw [hrt]
  have run := va_runI (bytes := xmb a) (maxL := xml a) (n := xma a - 1) (b := xad G q) (As := As.map (xv G)) (rest := (st.drop (xma a)).map (xv G)) (g := F0 m pc L (st.map (xv G))) (e := e) (below := below) (meth := meth) (⟨hx, hb, hml, hown, hts⟩ : CallFix p m c cc nL s args xW own) hM ⟨⟨rfl, rfl, hrm.1, hrm.2, x_pay hts hg, (by rw [hct]; exact List.mem_cons_self), (by have := hts _ hg.1; rw [hrt] at this; exact this), hts _ hg.2.1, hg.2.2.1, (fun sig h => by have := hn sig h; omega), hlink⟩, hnm, hts _ hin⟩ ⟨xPc_blind, fun U hU hW => ⟨by rw [harg]; rfl, by rw [hU]; exact xR_moved hW.alike hR, xK_moved hW.alike hK, xN_warm hW hN⟩⟩ rfl (by rw [List.length_map]; omega) hL.2.1 (x_stack1 harg) (lv_room (by rw [x_cats]; omega)) hd (H := H) (locs := locs) (cells := σ.2.1 - nx0) (slots := σ.2.2 - sl0) ⟨by omega, by omega⟩
  refine x_went run hl (fun H1 locs1 hR1 hl1 => ?_)
  have g := hp.2 H1 locs1 L (Nat.le_trans h1 hm1) (Nat.le_trans h2 hm2) hR1 hl1 hL
  have e1 : σ1.2.1 - nx0 = σ.2.1 - nx0 + (σ1.2.1 - σ.2.1) := by omega
  have e2 : σ1.2.2 - sl0 = σ.2.2 - sl0 + (σ1.2.2 - σ.2.2) := by omega
  dsimp only at g
  rw [x_toList, e1, e2] at g
  exact g
theorem sn_callIN {d : Nat} {own host : String} (C : xCx G p l R s m args c cc nL d nx0 sl0 nxF slF own E) {idx : Nat} (hg : xgood a) (hn : ∀ sig, parseMethodDescriptor (xmn a).desc = some sig → xma a = sig.parameters.length + 1) (hin : Cond.instanceMethod (xmn a) ∈ xW) (hnm : (xmn a).name = "<init>") (hrt : xmr a = none) (hlink : (Cond.methodLinkNest own idx (xmn a) host).before args s = true) (hd : decode cc pc = .ok (.invokespecial idx, 3)) (h : xcall E a 1 (pc + 3) ls st σ o) (hp : xpost (xSem G p l e R s m args below meth c nL nx0 sl0 nxF slF Q) K o) : xSem G p l e R s m args below meth c nL nx0 sl0 nxF slF Q (pc, ls, st, σ) := by
  obtain ⟨hx, hb, hml, hown, hts, hK, hN, hf, hlo, hRc, hRs, hE⟩ := C
  obtain ⟨r, σ1, hlen, hrest, hrcv, he, rfl⟩ := h
  obtain ⟨q, As, harg⟩ := hrcv
  obtain ⟨⟨hm1, hm2⟩, hM⟩ := hE _ _ _ _ _ he
  have hb1 : σ1.2.1 ≤ nxF := hp.1.1
  have hb2 : σ1.2.2 ≤ slF := hp.1.2
  refine ⟨⟨Nat.le_trans hm1 hb1, Nat.le_trans hm2 hb2⟩, fun H locs L h1 h2 hR hl hL => ?_⟩
  have h1 : nx0 ≤ σ.2.1 := h1
  have h2 : sl0 ≤ σ.2.2 := h2
  have hrm := x_room (R := R) (d := d) (y := a) (mc := σ1.2.1 - σ.2.1) (ms := σ1.2.2 - σ.2.2) hg hf hlo
  have hal := x_argsl harg hlen
  have hct : xws a = Cond.code (xmn a) (xmb a) (xml a) none :: xW := by unfold xws; rw [hrt]
  have run := va_runIN (bytes := xmb a) (maxL := xml a) (n := xma a - 1) (b := xad G q) (As := As.map (xv G)) (rest := (st.drop (xma a)).map (xv G)) (g := F0 m pc L (st.map (xv G))) (e := e) (below := below) (meth := meth) (⟨hx, hb, hml, hown, hts⟩ : CallFix p m c cc nL s args xW own) hM ⟨⟨⟨rfl, rfl, hrm.1, hrm.2, x_pay hts hg, (by rw [hct]; exact List.mem_cons_self)⟩, (by have := hts _ hg.1; rw [hrt] at this; exact this), hts _ hg.2.1, hg.2.2.1, (fun sig h => by have := hn sig h; omega), hlink⟩, hnm, hts _ hin⟩ ⟨xPc_blind, fun U hU hW => ⟨by rw [harg]; rfl, by rw [hU]; exact xR_moved hW.alike hR, xK_moved hW.alike hK, xN_warm hW hN⟩⟩ rfl (by rw [List.length_map]; omega) hL.2.1 (x_stack1 harg) (lv_room (by rw [x_cats]; omega)) hd (H := H) (locs := locs) (cells := σ.2.1 - nx0) (slots := σ.2.2 - sl0) ⟨by omega, by omega⟩
  refine x_went run hl (fun H1 locs1 hR1 hl1 => ?_)
  have g := hp.2 H1 locs1 L (Nat.le_trans h1 hm1) (Nat.le_trans h2 hm2) hR1 hl1 hL
  have e1 : σ1.2.1 - nx0 = σ.2.1 - nx0 + (σ1.2.1 - σ.2.1) := by omega
  have e2 : σ1.2.2 - sl0 = σ.2.2 - sl0 + (σ1.2.2 - σ.2.2) := by omega
  dsimp only at g
  rw [x_toList, e1, e2] at g
  exact g
end XSND
/-! what the machine has of its own -/
section XSND
variable {G : xG} {p : Program} {l : Launch} {e : Env} {R : Room} {s : State} {m : MethodId} {args : Array Value} {below : List Frame} {meth : Method} {c : Code} {nL nx0 sl0 nxF slF : Nat} {Q : State → Prop}
variable {E : Nat → List xV → xS → Option xV → xS → Prop} {K : Option xV → xS → Prop} {cc : ByteArray} {pc a b : Nat} {ls : xL} {st : List xV} {σ : xS} {o : xO}
theorem sn_objInit {d : Nat} {own : String} (C : xCx G p l R s m args c cc nL d nx0 sl0 nxF slF own E) {idx : Nat} (hlink : (Cond.methodLink own idx Lib.objectInit).before args s = true) (hinst : (Cond.instanceMethod Lib.objectInit).before args s = true) (hcode : (Cond.code Lib.objectInit ⟨#[0xb1]⟩ 1 none).before args s = true)
    (hd : decode cc pc = .ok (.invokespecial idx, 3)) (h : xcall E a 6 (pc + 3) ls st σ o) (hp : xpost (xSem G p l e R s m args below meth c nL nx0 sl0 nxF slF Q) K o) : xSem G p l e R s m args below meth c nL nx0 sl0 nxF slF Q (pc, ls, st, σ) := by
  obtain ⟨hx, hb, hml, hown, hts, hK, hN, hf, hlo, hRc, hRs, hE⟩ := C
  obtain ⟨q, r, rfl, hr, rfl⟩ := xr_inv h
  refine ⟨hp.1, fun H locs L h1 h2 hR hl hL => ?_⟩
  refine W.objInit hx hb hown hlink hinst hcode rfl (by rw [hml]; exact hL.2.1) rfl hd (by omega) ?_ (hp.2 H locs L h1 h2 hR hl hL)
  show 2 * 0 + ((r.map (xv G)).map fun v => v.category).sum + 12 ≤ _
  rw [x_cats]; omega
theorem sn_getstatic (hx : p.tables.exec = Jvm.exec) (hb : c.code = cc) {own : String} {idx : Nat} (hown : s.vm.findClass own = some m.cls) (hlink : (Cond.fieldLink own idx xNLc xNLn xNLd).before args s = true ∨ ∃ host, (Cond.fieldLinkNest own idx xNLc xNLn xNLd host).before args s = true)
    (hd : decode cc pc = .ok (.getstatic idx, 3)) (h : xst E (.getstatic idx) 3 a b pc ls st σ o) (hp : xpost (xSem G p l e R s m args below meth c nL nx0 sl0 nxF slF Q) K o) : xSem G p l e R s m args below meth c nL nx0 sl0 nxF slF Q (pc, ls, st, σ) := by
  have h : o = .inl (pc + 3, ls, .inr (some 1) :: st, σ) := h
  subst h
  refine ⟨hp.1, fun H locs L h1 h2 hR hl hL => ?_⟩
  obtain ⟨cf, kf, fi, f, a1, cell, z1, z2, z3, z4, z5, z6, z7, z8⟩ := hR.2.2.2.2.2
  have g := hp.2 H locs L h1 h2 hR hl hL
  rcases hlink with hlink | ⟨host, hlink⟩
  · exact W.gets hx hb hown hlink z1 z2 z3 z4 z5 (fun e => by rw [e] at z6; cases z6) z7 rfl hd g
  · exact va_WgetsN hx hb hown hlink z1 z2 z3 z4 z5 (fun e => by rw [e] at z6; cases z6) z7 rfl hd g
theorem x_K0 (hK : xK G s) : va_K G.2.2.2.1 xcl [(G.2.2.2.2.1 0, .int)] s := by
  refine ⟨hK.1, fun k q hk => ?_⟩
  have hz : k < 1 := (List.getElem?_eq_some_iff.mp hk).1
  rw [show k = 0 by omega] at hk
  cases hk
  exact ⟨(hK.2.1 0).1, (hK.2.1 0).2⟩
theorem sn_clone {d : Nat} {own : String} (C : xCx G p l R s m args c cc nL d nx0 sl0 nxF slF own E) {idx : Nat}
    (hlink : (Cond.methodLink own idx ⟨"[I", "clone", "()Ljava/lang/Object;"⟩).before args s = true) (hsame : (Cond.sameMethod "[I" "java/lang/Object" "clone" "()Ljava/lang/Object;").before args s = true)
    (hnat : (Cond.native ⟨"java/lang/Object", "clone", "()Ljava/lang/Object;"⟩).before args s = true) (hinst : (Cond.instanceMethod ⟨"java/lang/Object", "clone", "()Ljava/lang/Object;"⟩).before args s = true)
    (hsel : (Cond.selects "[I" ⟨"[I", "clone", "()Ljava/lang/Object;"⟩ ⟨"java/lang/Object", "clone", "()Ljava/lang/Object;"⟩).before args s = true) (hcl : va_Nw (.castable "[I" "java/lang/Cloneable") s)
    (hd : decode cc pc = .ok (.invokevirtual idx, 3)) (h : xcall E a 7 (pc + 3) ls st σ o) (hp : xpost (xSem G p l e R s m args below meth c nL nx0 sl0 nxF slF Q) K o) : xSem G p l e R s m args below meth c nL nx0 sl0 nxF slF Q (pc, ls, st, σ) := by
  obtain ⟨hx, hb, hml, hown, hts, hK, hN, hf, hlo, hRc, hRs, hE⟩ := C
  obtain ⟨q, r, rfl, n, f, hq, hq2, hr, rfl⟩ := xr_inv h
  have hb1 : σ.2.1 + 1 ≤ nxF := hp.1.1
  have hb2 : σ.2.2 + n ≤ slF := hp.1.2
  refine ⟨⟨by show σ.2.1 ≤ nxF; omega, by show σ.2.2 ≤ slF; omega⟩, fun H locs L h1 h2 hR hl hL => ?_⟩
  have h1 : nx0 ≤ σ.2.1 := h1
  have h2 : sl0 ≤ σ.2.2 := h2
  have hnx := xR_nx hR
  have r1 := xR_arr2 hR hq hq2
  have e1 : σ.2.1 - nx0 + 1 = (xnew σ (.inl (0, n, f)) n).2.1 - nx0 := by show _ = σ.2.1 + 1 - nx0; omega
  have e2 : σ.2.2 - sl0 + n = (xnew σ (.inl (0, n, f)) n).2.2 - sl0 := by show _ = σ.2.2 + n - sl0; omega
  obtain ⟨c0, t0', f1, f2, f3⟩ := Cond.castable_spec (va_Nw.use (A := args) rfl hcl)
  have hnm : s.vm.findClass "[I" = some (G.2.2.2.2.1 0) := (hK.2.1 0).2
  cases hnm.symm.trans f1
  intro T hT X
  have hcellT : T.heap[xad G q]? = some (arrV (G.2.2.2.2.1 0) n (fun j => .int (f j))) := by rw [hT]; exact r1
  obtain ⟨-, kA, hkA, comp, hkind⟩ := State.isArrayOf_alike X.warmed.alike ((hK.2.1 0).1 0 (fun _ => .null))
  obtain ⟨-, kS, hkS, compS, hkindS⟩ := (hK.2.1 0).1 0 (fun _ => .null)
  obtain ⟨vm', X', stp⟩ := X.cloneArray hx hown hlink hsame hnat hinst hsel (a := xad G q) (cell := arrV (G.2.2.2.2.1 0) n (fun j => .int (f j))) hcellT (fun k h => by cases h) (fun h => by cases h) hnm f2 f3
    (fun i v hv => by
      have hk' : T.vm.classes[G.2.2.2.2.1 0]? = some kA := hkA
      have hfv : fits .int v = true := va_fit (ty := .int) (fun i _ => rfl) i v hv
      have hkind' : kA.kind = .array comp .int := hkind
      show T.fitsSlot (G.2.2.2.2.1 0) .none i v = true
      simpa [State.fitsSlot, State.slotType?, hk', hkind'] using hfv)
    (g := F0 m pc L (.ref (xad G q) :: r.map (xv G))) rfl (by rw [hml]; exact hL.2.1) rfl (by rw [hb]; exact hd) (by omega) (by show 2 * 0 + ((r.map (xv G)).map fun v => v.category).sum + 14 ≤ _; rw [x_cats]; omega) (by show σ.2.1 - nx0 + 1 ≤ _; omega) (by rw [arrV_size]; show σ.2.2 - sl0 + n ≤ _; omega) (hloader := Vm.clonesLoader_of_array hkS hkindS)
  rw [arrV_size] at X'
  have g := hp.2 (H.push (arrV (G.2.2.2.2.1 0) n (fun j => .int (f j)))) locs L (by show nx0 ≤ σ.2.1 + 1; omega) (by show sl0 ≤ σ.2.2 + n; omega) (xR_new n hR (by rw [Array.size_push]) (fun q hq => by rw [Array.getElem?_push, if_neg (Nat.ne_of_lt hq)]) (by show _[xad G σ.2.1]? = _; rw [hnx, Array.getElem?_push_size])) hl hL
  dsimp only at g
  rw [← e1, ← e2] at g
  obtain ⟨t, b1, b2⟩ := g ((T.setVm vm').pushCell (arrV (G.2.2.2.2.1 0) n (fun j => .int (f j)))) (by rw [← hT]; rfl) X'
  refine ⟨t, stp t ?_, b2⟩
  have e9 : xv G (.inr (some σ.2.1)) = .ref T.heap.size := by show Value.ref (xad G σ.2.1) = _; rw [hnx, hT]
  rw [List.map_cons, e9] at b1
  exact b1
theorem sn_arraycopy {d : Nat} {own : String} (C : xCx G p l R s m args c cc nL d nx0 sl0 nxF slF own E) {idx : Nat} (hlink : (Cond.methodLink own idx arraycopyName).before args s = true) (hnat : (Cond.native arraycopyName).before args s = true) (hstat : (Cond.static arraycopyName).before args s = true) (hini : (Cond.initialized "java/lang/System").before args s = true)
    (hd : decode cc pc = .ok (.invokestatic idx, 3)) (h : xcall E a 8 (pc + 3) ls st σ o) (hp : xpost (xSem G p l e R s m args below meth c nL nx0 sl0 nxF slF Q) K o) : xSem G p l e R s m args below meth c nL nx0 sl0 nxF slF Q (pc, ls, st, σ) := by
  obtain ⟨hx, hb, hml, hown, hts, hK, hN, hf, hlo, hRc, hRs, hE⟩ := C
  match st, h with
  | .inl z1 :: .inl z2 :: .inr (some q1) :: .inl z3 :: .inr (some q0) :: r, h =>
    obtain ⟨n0, n1, f, g, N, S, T', hq0, hq1, rfl, rfl, rfl, i1, i2, i3, i4, h20, h21, hne, hr, rfl⟩ := h
    refine ⟨hp.1, fun H locs L h1 h2 hR hl hL => ?_⟩
    have r0 := xR_arr2 hR hq0 h20
    have r1 := xR_arr2 hR hq1 h21
    have cN := nI_clamp (n := N) (by omega)
    have cS := nI_clamp (n := S) (by omega)
    have cT := nI_clamp (n := T') (by omega)
    have nn : ∀ k : Nat, k < 2147483648 → (nI k).toInt = (k : Int) := fun k hk => nI_toInt hk
    intro T hT X
    obtain ⟨-, k0, hk0, cm0, hkk0⟩ := (hK.2.1 0).1 n0 (fun j => .int (f j))
    obtain ⟨-, k1, hk1, cm1, hkk1⟩ := (hK.2.1 0).1 n1 (fun j => .int (g j))
    obtain ⟨vm', X', step⟩ := X.arraycopy hx hown hlink hnat hstat hini (src := xad G q0) (dst := xad G q1) (cs := arrV (G.2.2.2.2.1 0) n0 (fun j => .int (f j))) (cd := arrV (G.2.2.2.2.1 0) n1 (fun j => .int (g j))) (srcPos := nI S) (destPos := nI T') (n := nI N) (by rw [hT]; exact r0) (by rw [hT]; exact r1)
      (fun _ h => by cases h) (fun _ h => by cases h) (fun h => by cases h) (fun h => by cases h) hk0 hk1 hkk0 hkk1 (by simp [xty, refKind]) (nI_pos (by omega)) (nI_pos (by omega)) (nI_pos (by omega))
      (by rw [nn S (by omega), nn N (by omega), arrV_size]; omega)
      (by rw [nn T' (by omega), nn N (by omega), arrV_size]; omega)
      (fun vm₁ _ i hi => by
        rw [cN] at hi
        have e : (arrV (G.2.2.2.2.1 0) n0 (fun j => .int (f j))).slots.getD ((nI S).toNatClampNeg + i) .null = .int (f (S + i)) := by
          rw [cS, Array.getD_eq_getD_getElem?, arrV_read _ _ (by omega)]
          rfl
        refine ⟨?_, ?_⟩
        · rw [e]; rfl
        · rw [e]; exact trivial)
      (g := F0 m pc L (.int (nI N) :: .int (nI T') :: .ref (xad G q1) :: .int (nI S) :: .ref (xad G q0) :: r.map (xv G))) rfl (by rw [hml]; exact hL.2.1) (rest := r.map (xv G)) rfl (by rw [hb]; exact hd) (by omega) (by
        show 2 * 0 + ((r.map (xv G)).map fun v => v.category).sum + (nativeFrameWords "java/lang/System" "arraycopy" 5 + 11) ≤ _
        rw [x_cats]
        have : nativeFrameWords "java/lang/System" "arraycopy" 5 ≤ 21 := by decide +kernel
        omega)
    have e1 : copied (arrV (G.2.2.2.2.1 0) n0 (fun j => .int (f j))) (arrV (G.2.2.2.2.1 0) n1 (fun j => .int (g j))) (nI S) (nI T') (nI N) = arrV (G.2.2.2.2.1 0) n1 (fun j => .int (va_cpy f g S T' N j)) := by
      have := va_copied (fun z => Value.int z) (G.2.2.2.2.1 0) (G.2.2.2.2.1 0) (n1 := n1) (dp := T') f g i1
      rw [← this]
      unfold copied
      rw [cS, cT, cN]
    rw [e1] at X' step
    have hl1 : xad G q1 < H.size := (Array.getElem?_eq_some_iff.mp r1).1
    have hheap : ((T.setVm vm').setCell (xad G q1) (arrV (G.2.2.2.2.1 0) n1 (fun j => .int (va_cpy f g S T' N j)))).heap = H.setIfInBounds (xad G q1) (arrV (G.2.2.2.2.1 0) n1 (fun j => .int (va_cpy f g S T' N j))) := by rw [← hT]; rfl
    have gg := fun (locs' : List Loc) (hl' : ∀ q ∈ locs', G.2.2.1 ≤ q.base) => hp.2 (H.setIfInBounds (xad G q1) (arrV (G.2.2.2.2.1 0) n1 (fun j => .int (va_cpy f g S T' N j)))) locs' L h1 h2 (xR_up hR h21 hq1 (by simp) (fun q hq => by simp [Array.getElem?_setIfInBounds, Ne.symm hq]) (by show _[xad G q1]? = _; simp [Array.getElem?_setIfInBounds, hl1])) hl' hL
    refine Exists.elim (gg _ (fun q hq => ?_) _ hheap X') (fun t ht => ⟨t, step t ht.1, ht.2⟩)
    rcases List.mem_append.mp hq with h | h
    · exact hl q h
    · obtain ⟨z, -, hz⟩ := List.mem_map.mp h
      rw [← hz]
      show G.2.2.1 ≤ xad G q1
      rw [xad_2 h21]; omega
theorem sn_max {d : Nat} {own : String} (C : xCx G p l R s m args c cc nL d nx0 sl0 nxF slF own E) {idx : Nat} (hlink : (Cond.methodLink own idx Lib.Math.max.name).before args s = true) (hstat : (Cond.static Lib.Math.max.name).before args s = true) (hini : (Cond.initialized "java/lang/Math").before args s = true) (hcode : (Cond.code Lib.Math.max.name Lib.Math.max.code 2 (some .int)).before args s = true)
    (hd : decode cc pc = .ok (.invokestatic idx, 3)) (h : xcall E a 9 (pc + 3) ls st σ o) (hp : xpost (xSem G p l e R s m args below meth c nL nx0 sl0 nxF slF Q) K o) : xSem G p l e R s m args below meth c nL nx0 sl0 nxF slF Q (pc, ls, st, σ) := by
  obtain ⟨hx, hb, hml, hown, hts, hK, hN, hf, hlo, hRc, hRs, hE⟩ := C
  obtain ⟨x, y, r, rfl, hr, rfl⟩ := x2_inv h
  have hb1 : σ.2.1 ≤ nxF := hp.1.1
  have hb2 : σ.2.2 ≤ slF := hp.1.2
  refine ⟨hp.1, fun H locs L h1 h2 hR hl hL => ?_⟩
  exact va_mmax hx hb (by rw [hml]; exact hL.2.1.symm) hown hlink hstat hini hcode (by omega) (by rw [x_cats]; omega) (by show σ.2.1 - nx0 ≤ R.cells; omega) (by show σ.2.2 - sl0 ≤ R.slots; omega) hd (hp.2 H locs L h1 h2 hR hl hL)
theorem sn_min {d : Nat} {own : String} (C : xCx G p l R s m args c cc nL d nx0 sl0 nxF slF own E) {idx : Nat} (hlink : (Cond.methodLink own idx Lib.Math.min.name).before args s = true) (hstat : (Cond.static Lib.Math.min.name).before args s = true) (hini : (Cond.initialized "java/lang/Math").before args s = true) (hcode : (Cond.code Lib.Math.min.name Lib.Math.min.code 2 (some .int)).before args s = true)
    (hd : decode cc pc = .ok (.invokestatic idx, 3)) (h : xcall E a 10 (pc + 3) ls st σ o) (hp : xpost (xSem G p l e R s m args below meth c nL nx0 sl0 nxF slF Q) K o) : xSem G p l e R s m args below meth c nL nx0 sl0 nxF slF Q (pc, ls, st, σ) := by
  obtain ⟨hx, hb, hml, hown, hts, hK, hN, hf, hlo, hRc, hRs, hE⟩ := C
  obtain ⟨x, y, r, rfl, hr, rfl⟩ := x2_inv h
  have hb1 : σ.2.1 ≤ nxF := hp.1.1
  have hb2 : σ.2.2 ≤ slF := hp.1.2
  refine ⟨hp.1, fun H locs L h1 h2 hR hl hL => ?_⟩
  exact va_mmin hx hb (by rw [hml]; exact hL.2.1.symm) hown hlink hstat hini hcode (by omega) (by rw [x_cats]; omega) (by show σ.2.1 - nx0 ≤ R.cells; omega) (by show σ.2.2 - sl0 ≤ R.slots; omega) hd (hp.2 H locs L h1 h2 hR hl hL)
theorem sn_checkcast (hx : p.tables.exec = Jvm.exec) (hb : c.code = cc) (hK : xK G s) {own : String} {idx : Nat} (hown : s.vm.findClass own = some m.cls) (hlink : (Cond.classLink own idx "[I").before args s = true)
    (hd : decode cc pc = .ok (.checkcast idx, 3)) (h : xst E (.checkcast idx) 3 a b pc ls st σ o) (hp : xpost (xSem G p l e R s m args below meth c nL nx0 sl0 nxF slF Q) K o) : xSem G p l e R s m args below meth c nL nx0 sl0 nxF slF Q (pc, ls, st, σ) := by
  obtain ⟨q, r, rfl, n, f, hq, hq2, rfl⟩ := xr_inv h
  refine ⟨hp.1, fun H locs L h1 h2 hR hl hL => ?_⟩
  have r1 := xR_arr2 hR hq hq2
  refine va_castA (D := G.2.2.2.1) (cl := xcl) (ws := [(xad G q, .inl (G.2.2.2.2.1 0, n, .inl f))]) hx hb hown hlink (fun k x hk => ?_) 0 rfl (hK.2.1 0).2 hd (hp.2 H locs L h1 h2 hR hl hL)
  have hz : k < 1 := (List.getElem?_eq_some_iff.mp hk).1
  rw [show k = 0 by omega] at hk
  cases hk
  exact r1
end XSND
end
section
/-! THE ROWS ARE RIGHT: each is checked against the bytes, and against the tables' words -/
def xon (k : Nat) : String := xno.getD k ""
/-- the word that a link stands for -/
def xwd (k o idx a b : Nat) : Cond :=
  if k = 0 then .fieldLink (xon o) idx ((xcl.getD a xc0).2.1 b).1 ((xcl.getD a xc0).2.1 b).2.1 ((xcl.getD a xc0).2.1 b).2.2.1
  else if k = 1 then .methodLink (xon o) idx (xmn a)
  else if k = 2 then .classLink (xon o) idx (xcl.getD a xc0).1
  else if k = 3 then .classLink (xon o) idx (xqn a)
  else if k = 4 then .classLink (xon o) idx "[[I"
  else if k = 5 then .classLink (xon o) idx "[I"
  else if k = 6 then .methodLink (xon o) idx objectInit
  else if k = 7 then .methodLink (xon o) idx ⟨"[I", "clone", "()Ljava/lang/Object;"⟩
  else if k = 8 then .methodLink (xon o) idx arraycopyName
  else if k = 9 then .methodLink (xon o) idx Lib.Math.max.name
  else .methodLink (xon o) idx Lib.Math.min.name
theorem xwd_good (k o idx a b : Nat) : goodWord (xwd k o idx a b) = true := by
  unfold xwd
  repeat' split
  all_goals rfl
def xlok (q : Nat × Nat × Nat × Nat × Nat × Nat) : Prop := lw_tbl[q.1]? = some (xwd q.2.1 q.2.2.1 q.2.2.2.1 q.2.2.2.2.1 q.2.2.2.2.2)
def xlall : List (Nat × Nat × Nat × Nat × Nat × Nat) → Prop
  | [] => True
  | q :: r => xlok q ∧ xlall r
theorem xlall_mem : ∀ {l : List (Nat × Nat × Nat × Nat × Nat × Nat)}, xlall l → ∀ q ∈ l, xlok q
  | [], _, q, h => by cases h
  | p :: r, ⟨h1, h2⟩, q, h => by
    rcases List.mem_cons.mp h with rfl | h
    · exact h1
    · exact xlall_mem h2 q h
set_option maxRecDepth 100000 in
set_option maxHeartbeats 4000000 in
theorem xlw_ok : xlall xlw := ⟨rfl, rfl, rfl, rfl, rfl, rfl, rfl, rfl, rfl, rfl, rfl, rfl, rfl, rfl, rfl, rfl, rfl, rfl, rfl, rfl, rfl, rfl, rfl, rfl, rfl, rfl, rfl, rfl, rfl, rfl, rfl, rfl, rfl, rfl, rfl, rfl, rfl, rfl, rfl, rfl, rfl, rfl, rfl, rfl, rfl, rfl, rfl, rfl, rfl, rfl, rfl, rfl, rfl, rfl, rfl, rfl, rfl, rfl, rfl, rfl, rfl, rfl, rfl, rfl, rfl, rfl, rfl, rfl, rfl, rfl, rfl, rfl, rfl, rfl, rfl, rfl, rfl, rfl, rfl, rfl, rfl, rfl, rfl, rfl, rfl, rfl, rfl, rfl, rfl, rfl, rfl, rfl, rfl, rfl, rfl, rfl, rfl, rfl, rfl, rfl, rfl, rfl, rfl, rfl, rfl, rfl, rfl, rfl, rfl, rfl, rfl, rfl, rfl, rfl, rfl, rfl, rfl, rfl, rfl, rfl, rfl, rfl, rfl, rfl, rfl, rfl, rfl, rfl, rfl, rfl, rfl, rfl, rfl, rfl, rfl, rfl, rfl, rfl, rfl, rfl, rfl, rfl, rfl, rfl, rfl, rfl, rfl, rfl, rfl, rfl, rfl, rfl, rfl, rfl, rfl, rfl, rfl, rfl, rfl, rfl, rfl, rfl, rfl, rfl, rfl, rfl, rfl, rfl, rfl, rfl, rfl, rfl, rfl, rfl, rfl, rfl, rfl, rfl, rfl, rfl, rfl, rfl, rfl, rfl, rfl, rfl, rfl, rfl, rfl, rfl, rfl, rfl, rfl, rfl, rfl, rfl, rfl, rfl, rfl, rfl, rfl, rfl, rfl, rfl, rfl, rfl, rfl, rfl, rfl, rfl, rfl, rfl, rfl, rfl, rfl, rfl, rfl, rfl, rfl, rfl, rfl, rfl, rfl, rfl, rfl, rfl, rfl, rfl, rfl, rfl, rfl, rfl, rfl, rfl, rfl, rfl, rfl, rfl, rfl, rfl, rfl, rfl, rfl, rfl, rfl, rfl, rfl, rfl, rfl, rfl, rfl, rfl, rfl, rfl, trivial⟩
theorem xlw_in {w k o idx a b : Nat} (h : (xlw[w]?).map (fun q => q.2) = some (k, o, idx, a, b)) : xwd k o idx a b ∈ xW := by
  cases hq : xlw[w]? with
  | none => rw [hq] at h; cases h
  | some q =>
    rw [hq] at h
    have e : q.2 = (k, o, idx, a, b) := Option.some.inj h
    have := xlall_mem xlw_ok q (List.mem_of_getElem? hq)
    unfold xlok at this
    rw [e] at this
    exact xW_at _ this (xwd_good _ _ _ _ _)
def xMok (y wc wi wm ws : Nat) : Prop := lw_tbl[wc]? = some (.code (xmn y) (xmb y) (xml y) (xmr y)) ∧ lw_tbl[wi]? = some (.initialized (xmn y).cls) ∧ ((xmn y).cls ≠ "java/lang/invoke/MethodHandle" ∧ (xmn y).cls ≠ "java/lang/invoke/VarHandle") ∧ Jvm.plainName (xmn y).cls = true ∧ xon (xmo y) = (xmn y).cls ∧
  (parseMethodDescriptor (xmn y).desc).map (fun q => q.parameters.length + (if xmk y = 0 then 0 else 1)) = some (xma y) ∧
  (if xmk y = 0 then lw_tbl[wm]? = some (.static (xmn y)) else if xmk y = 1 then lw_tbl[wm]? = some (.instanceMethod (xmn y)) ∧ lw_tbl[ws]? = some (.selects (xmn y).cls (xmn y) (xmn y)) ∧ (xcl[xmc y]?).map (fun r => r.1) = some (xmn y).cls
   else lw_tbl[wm]? = some (.instanceMethod (xmn y)) ∧ (xmn y).name = "<init>" ∧ xmr y = none)
def xnums (y : Nat) : Bool := decide (xml y ≤ 21) && decide (xma y ≤ xml y)
theorem xnums_ok : ((List.range 143).all xnums) = true := by decide +kernel
set_option maxRecDepth 50000 in
theorem xg_0 : xMok 0 91 58 90 0 := ⟨rfl, rfl, ⟨by decide, by decide⟩, by decide, rfl, by decide +kernel, rfl⟩
set_option maxRecDepth 50000 in
theorem xg_1 : xMok 1 240 58 239 0 := ⟨rfl, rfl, ⟨by decide, by decide⟩, by decide, rfl, by decide +kernel, rfl⟩
set_option maxRecDepth 50000 in
theorem xg_2 : xMok 2 256 63 255 0 := ⟨rfl, rfl, ⟨by decide, by decide⟩, by decide, rfl, by decide +kernel, ⟨rfl, rfl, rfl⟩⟩
set_option maxRecDepth 50000 in
theorem xg_3 : xMok 3 333 63 332 0 := ⟨rfl, rfl, ⟨by decide, by decide⟩, by decide, rfl, by decide +kernel, rfl⟩
set_option maxRecDepth 50000 in
theorem xg_4 : xMok 4 337 63 335 336 := ⟨rfl, rfl, ⟨by decide, by decide⟩, by decide, rfl, by decide +kernel, ⟨rfl, rfl, rfl⟩⟩
set_option maxRecDepth 50000 in
theorem xg_5 : xMok 5 351 63 350 0 := ⟨rfl, rfl, ⟨by decide, by decide⟩, by decide, rfl, by decide +kernel, rfl⟩
set_option maxRecDepth 50000 in
theorem xg_6 : xMok 6 356 63 355 4 := ⟨rfl, rfl, ⟨by decide, by decide⟩, by decide, rfl, by decide +kernel, ⟨rfl, rfl, rfl⟩⟩
set_option maxRecDepth 50000 in
theorem xg_7 : xMok 7 173 61 172 0 := ⟨rfl, rfl, ⟨by decide, by decide⟩, by decide, rfl, by decide +kernel, ⟨rfl, rfl, rfl⟩⟩
set_option maxRecDepth 50000 in
theorem xg_8 : xMok 8 227 61 225 226 := ⟨rfl, rfl, ⟨by decide, by decide⟩, by decide, rfl, by decide +kernel, ⟨rfl, rfl, rfl⟩⟩
set_option maxRecDepth 50000 in
theorem xg_9 : xMok 9 232 61 230 231 := ⟨rfl, rfl, ⟨by decide, by decide⟩, by decide, rfl, by decide +kernel, ⟨rfl, rfl, rfl⟩⟩
set_option maxRecDepth 50000 in
theorem xg_10 : xMok 10 273 61 271 272 := ⟨rfl, rfl, ⟨by decide, by decide⟩, by decide, rfl, by decide +kernel, ⟨rfl, rfl, rfl⟩⟩
set_option maxRecDepth 50000 in
theorem xg_11 : xMok 11 285 61 283 284 := ⟨rfl, rfl, ⟨by decide, by decide⟩, by decide, rfl, by decide +kernel, ⟨rfl, rfl, rfl⟩⟩
set_option maxRecDepth 50000 in
theorem xg_12 : xMok 12 293 61 291 292 := ⟨rfl, rfl, ⟨by decide, by decide⟩, by decide, rfl, by decide +kernel, ⟨rfl, rfl, rfl⟩⟩
set_option maxRecDepth 50000 in
theorem xg_13 : xMok 13 317 61 315 316 := ⟨rfl, rfl, ⟨by decide, by decide⟩, by decide, rfl, by decide +kernel, ⟨rfl, rfl, rfl⟩⟩
set_option maxRecDepth 50000 in
theorem xg_14 : xMok 14 377 61 375 376 := ⟨rfl, rfl, ⟨by decide, by decide⟩, by decide, rfl, by decide +kernel, ⟨rfl, rfl, rfl⟩⟩
set_option maxRecDepth 50000 in
theorem xg_15 : xMok 15 432 61 430 431 := ⟨rfl, rfl, ⟨by decide, by decide⟩, by decide, rfl, by decide +kernel, ⟨rfl, rfl, rfl⟩⟩
set_option maxRecDepth 50000 in
theorem xg_16 : xMok 16 87 57 86 0 := ⟨rfl, rfl, ⟨by decide, by decide⟩, by decide, rfl, by decide +kernel, ⟨rfl, rfl, rfl⟩⟩
set_option maxRecDepth 50000 in
theorem xg_17 : xMok 17 313 57 311 312 := ⟨rfl, rfl, ⟨by decide, by decide⟩, by decide, rfl, by decide +kernel, ⟨rfl, rfl, rfl⟩⟩
set_option maxRecDepth 50000 in
theorem xg_18 : xMok 18 322 57 321 0 := ⟨rfl, rfl, ⟨by decide, by decide⟩, by decide, rfl, by decide +kernel, ⟨rfl, rfl, rfl⟩⟩
set_option maxRecDepth 50000 in
theorem xg_19 : xMok 19 330 57 329 1 := ⟨rfl, rfl, ⟨by decide, by decide⟩, by decide, rfl, by decide +kernel, ⟨rfl, rfl, rfl⟩⟩
set_option maxRecDepth 50000 in
theorem xg_20 : xMok 20 341 57 340 2 := ⟨rfl, rfl, ⟨by decide, by decide⟩, by decide, rfl, by decide +kernel, ⟨rfl, rfl, rfl⟩⟩
set_option maxRecDepth 50000 in
theorem xg_21 : xMok 21 345 57 344 3 := ⟨rfl, rfl, ⟨by decide, by decide⟩, by decide, rfl, by decide +kernel, ⟨rfl, rfl, rfl⟩⟩
set_option maxRecDepth 50000 in
theorem xg_22 : xMok 22 348 57 347 0 := ⟨rfl, rfl, ⟨by decide, by decide⟩, by decide, rfl, by decide +kernel, rfl⟩
set_option maxRecDepth 50000 in
theorem xg_23 : xMok 23 361 57 360 5 := ⟨rfl, rfl, ⟨by decide, by decide⟩, by decide, rfl, by decide +kernel, ⟨rfl, rfl, rfl⟩⟩
set_option maxRecDepth 50000 in
theorem xg_24 : xMok 24 364 57 363 0 := ⟨rfl, rfl, ⟨by decide, by decide⟩, by decide, rfl, by decide +kernel, rfl⟩
set_option maxRecDepth 50000 in
theorem xg_25 : xMok 25 369 57 368 6 := ⟨rfl, rfl, ⟨by decide, by decide⟩, by decide, rfl, by decide +kernel, ⟨rfl, rfl, rfl⟩⟩
set_option maxRecDepth 50000 in
theorem xg_26 : xMok 26 373 57 371 372 := ⟨rfl, rfl, ⟨by decide, by decide⟩, by decide, rfl, by decide +kernel, ⟨rfl, rfl, rfl⟩⟩
set_option maxRecDepth 50000 in
theorem xg_27 : xMok 27 382 57 381 7 := ⟨rfl, rfl, ⟨by decide, by decide⟩, by decide, rfl, by decide +kernel, ⟨rfl, rfl, rfl⟩⟩
set_option maxRecDepth 50000 in
theorem xg_28 : xMok 28 386 57 385 8 := ⟨rfl, rfl, ⟨by decide, by decide⟩, by decide, rfl, by decide +kernel, ⟨rfl, rfl, rfl⟩⟩
set_option maxRecDepth 50000 in
theorem xg_29 : xMok 29 393 57 391 392 := ⟨rfl, rfl, ⟨by decide, by decide⟩, by decide, rfl, by decide +kernel, ⟨rfl, rfl, rfl⟩⟩
set_option maxRecDepth 50000 in
theorem xg_30 : xMok 30 397 57 396 9 := ⟨rfl, rfl, ⟨by decide, by decide⟩, by decide, rfl, by decide +kernel, ⟨rfl, rfl, rfl⟩⟩
set_option maxRecDepth 50000 in
theorem xg_31 : xMok 31 401 57 399 400 := ⟨rfl, rfl, ⟨by decide, by decide⟩, by decide, rfl, by decide +kernel, ⟨rfl, rfl, rfl⟩⟩
set_option maxRecDepth 50000 in
theorem xg_32 : xMok 32 405 57 404 10 := ⟨rfl, rfl, ⟨by decide, by decide⟩, by decide, rfl, by decide +kernel, ⟨rfl, rfl, rfl⟩⟩
set_option maxRecDepth 50000 in
theorem xg_33 : xMok 33 410 57 408 409 := ⟨rfl, rfl, ⟨by decide, by decide⟩, by decide, rfl, by decide +kernel, ⟨rfl, rfl, rfl⟩⟩
set_option maxRecDepth 50000 in
theorem xg_34 : xMok 34 419 57 417 418 := ⟨rfl, rfl, ⟨by decide, by decide⟩, by decide, rfl, by decide +kernel, ⟨rfl, rfl, rfl⟩⟩
set_option maxRecDepth 50000 in
theorem xg_35 : xMok 35 424 57 422 423 := ⟨rfl, rfl, ⟨by decide, by decide⟩, by decide, rfl, by decide +kernel, ⟨rfl, rfl, rfl⟩⟩
set_option maxRecDepth 50000 in
theorem xg_36 : xMok 36 125 60 124 0 := ⟨rfl, rfl, ⟨by decide, by decide⟩, by decide, rfl, by decide +kernel, ⟨rfl, rfl, rfl⟩⟩
set_option maxRecDepth 50000 in
theorem xg_37 : xMok 37 469 60 467 468 := ⟨rfl, rfl, ⟨by decide, by decide⟩, by decide, rfl, by decide +kernel, ⟨rfl, rfl, rfl⟩⟩
set_option maxRecDepth 50000 in
theorem xg_38 : xMok 38 473 60 471 472 := ⟨rfl, rfl, ⟨by decide, by decide⟩, by decide, rfl, by decide +kernel, ⟨rfl, rfl, rfl⟩⟩
set_option maxRecDepth 50000 in
theorem xg_39 : xMok 39 481 60 479 480 := ⟨rfl, rfl, ⟨by decide, by decide⟩, by decide, rfl, by decide +kernel, ⟨rfl, rfl, rfl⟩⟩
set_option maxRecDepth 50000 in
theorem xg_40 : xMok 40 489 60 487 488 := ⟨rfl, rfl, ⟨by decide, by decide⟩, by decide, rfl, by decide +kernel, ⟨rfl, rfl, rfl⟩⟩
set_option maxRecDepth 50000 in
theorem xg_41 : xMok 41 494 60 492 493 := ⟨rfl, rfl, ⟨by decide, by decide⟩, by decide, rfl, by decide +kernel, ⟨rfl, rfl, rfl⟩⟩
set_option maxRecDepth 50000 in
theorem xg_42 : xMok 42 502 60 500 501 := ⟨rfl, rfl, ⟨by decide, by decide⟩, by decide, rfl, by decide +kernel, ⟨rfl, rfl, rfl⟩⟩
set_option maxRecDepth 50000 in
theorem xg_43 : xMok 43 117 59 116 0 := ⟨rfl, rfl, ⟨by decide, by decide⟩, by decide, rfl, by decide +kernel, ⟨rfl, rfl, rfl⟩⟩
set_option maxRecDepth 50000 in
theorem xg_44 : xMok 44 455 59 453 454 := ⟨rfl, rfl, ⟨by decide, by decide⟩, by decide, rfl, by decide +kernel, ⟨rfl, rfl, rfl⟩⟩
set_option maxRecDepth 50000 in
theorem xg_45 : xMok 45 459 59 458 15 := ⟨rfl, rfl, ⟨by decide, by decide⟩, by decide, rfl, by decide +kernel, ⟨rfl, rfl, rfl⟩⟩
set_option maxRecDepth 50000 in
theorem xg_46 : xMok 46 464 59 463 16 := ⟨rfl, rfl, ⟨by decide, by decide⟩, by decide, rfl, by decide +kernel, ⟨rfl, rfl, rfl⟩⟩
set_option maxRecDepth 50000 in
theorem xg_47 : xMok 47 477 59 476 17 := ⟨rfl, rfl, ⟨by decide, by decide⟩, by decide, rfl, by decide +kernel, ⟨rfl, rfl, rfl⟩⟩
set_option maxRecDepth 50000 in
theorem xg_48 : xMok 48 485 59 484 18 := ⟨rfl, rfl, ⟨by decide, by decide⟩, by decide, rfl, by decide +kernel, ⟨rfl, rfl, rfl⟩⟩
set_option maxRecDepth 50000 in
theorem xg_49 : xMok 49 498 59 497 19 := ⟨rfl, rfl, ⟨by decide, by decide⟩, by decide, rfl, by decide +kernel, ⟨rfl, rfl, rfl⟩⟩
set_option maxRecDepth 50000 in
theorem xg_50 : xMok 50 506 59 504 505 := ⟨rfl, rfl, ⟨by decide, by decide⟩, by decide, rfl, by decide +kernel, ⟨rfl, rfl, rfl⟩⟩
set_option maxRecDepth 50000 in
theorem xg_51 : xMok 51 511 59 509 510 := ⟨rfl, rfl, ⟨by decide, by decide⟩, by decide, rfl, by decide +kernel, ⟨rfl, rfl, rfl⟩⟩
set_option maxRecDepth 50000 in
theorem xg_52 : xMok 52 80 56 79 0 := ⟨rfl, rfl, ⟨by decide, by decide⟩, by decide, rfl, by decide +kernel, ⟨rfl, rfl, rfl⟩⟩
set_option maxRecDepth 50000 in
theorem xg_53 : xMok 53 308 56 306 307 := ⟨rfl, rfl, ⟨by decide, by decide⟩, by decide, rfl, by decide +kernel, ⟨rfl, rfl, rfl⟩⟩
set_option maxRecDepth 50000 in
theorem xg_54 : xMok 54 415 56 413 414 := ⟨rfl, rfl, ⟨by decide, by decide⟩, by decide, rfl, by decide +kernel, ⟨rfl, rfl, rfl⟩⟩
set_option maxRecDepth 50000 in
theorem xg_55 : xMok 55 428 56 427 11 := ⟨rfl, rfl, ⟨by decide, by decide⟩, by decide, rfl, by decide +kernel, ⟨rfl, rfl, rfl⟩⟩
set_option maxRecDepth 50000 in
theorem xg_56 : xMok 56 437 56 436 12 := ⟨rfl, rfl, ⟨by decide, by decide⟩, by decide, rfl, by decide +kernel, ⟨rfl, rfl, rfl⟩⟩
set_option maxRecDepth 50000 in
theorem xg_57 : xMok 57 442 56 441 13 := ⟨rfl, rfl, ⟨by decide, by decide⟩, by decide, rfl, by decide +kernel, ⟨rfl, rfl, rfl⟩⟩
set_option maxRecDepth 50000 in
theorem xg_58 : xMok 58 449 56 448 14 := ⟨rfl, rfl, ⟨by decide, by decide⟩, by decide, rfl, by decide +kernel, ⟨rfl, rfl, rfl⟩⟩
set_option maxRecDepth 50000 in
theorem xg_59 : xMok 59 517 56 515 516 := ⟨rfl, rfl, ⟨by decide, by decide⟩, by decide, rfl, by decide +kernel, ⟨rfl, rfl, rfl⟩⟩
set_option maxRecDepth 50000 in
theorem xg_60 : xMok 60 521 56 519 520 := ⟨rfl, rfl, ⟨by decide, by decide⟩, by decide, rfl, by decide +kernel, ⟨rfl, rfl, rfl⟩⟩
set_option maxRecDepth 50000 in
theorem xg_61 : xMok 61 525 56 523 524 := ⟨rfl, rfl, ⟨by decide, by decide⟩, by decide, rfl, by decide +kernel, ⟨rfl, rfl, rfl⟩⟩
set_option maxRecDepth 50000 in
theorem xg_62 : xMok 62 562 56 560 561 := ⟨rfl, rfl, ⟨by decide, by decide⟩, by decide, rfl, by decide +kernel, ⟨rfl, rfl, rfl⟩⟩
set_option maxRecDepth 50000 in
theorem xg_63 : xMok 63 574 56 572 573 := ⟨rfl, rfl, ⟨by decide, by decide⟩, by decide, rfl, by decide +kernel, ⟨rfl, rfl, rfl⟩⟩
set_option maxRecDepth 50000 in
theorem xg_64 : xMok 64 70 55 69 0 := ⟨rfl, rfl, ⟨by decide, by decide⟩, by decide, rfl, by decide +kernel, ⟨rfl, rfl, rfl⟩⟩
set_option maxRecDepth 50000 in
theorem xg_65 : xMok 65 217 55 215 216 := ⟨rfl, rfl, ⟨by decide, by decide⟩, by decide, rfl, by decide +kernel, ⟨rfl, rfl, rfl⟩⟩
set_option maxRecDepth 50000 in
theorem xg_66 : xMok 66 220 55 219 0 := ⟨rfl, rfl, ⟨by decide, by decide⟩, by decide, rfl, by decide +kernel, rfl⟩
set_option maxRecDepth 50000 in
theorem xg_67 : xMok 67 223 55 222 0 := ⟨rfl, rfl, ⟨by decide, by decide⟩, by decide, rfl, by decide +kernel, rfl⟩
set_option maxRecDepth 50000 in
theorem xg_68 : xMok 68 237 55 236 0 := ⟨rfl, rfl, ⟨by decide, by decide⟩, by decide, rfl, by decide +kernel, rfl⟩
set_option maxRecDepth 50000 in
theorem xg_69 : xMok 69 277 55 275 276 := ⟨rfl, rfl, ⟨by decide, by decide⟩, by decide, rfl, by decide +kernel, ⟨rfl, rfl, rfl⟩⟩
set_option maxRecDepth 50000 in
theorem xg_70 : xMok 70 281 55 279 280 := ⟨rfl, rfl, ⟨by decide, by decide⟩, by decide, rfl, by decide +kernel, ⟨rfl, rfl, rfl⟩⟩
set_option maxRecDepth 50000 in
theorem xg_71 : xMok 71 289 55 287 288 := ⟨rfl, rfl, ⟨by decide, by decide⟩, by decide, rfl, by decide +kernel, ⟨rfl, rfl, rfl⟩⟩
set_option maxRecDepth 50000 in
theorem xg_72 : xMok 72 300 55 298 299 := ⟨rfl, rfl, ⟨by decide, by decide⟩, by decide, rfl, by decide +kernel, ⟨rfl, rfl, rfl⟩⟩
set_option maxRecDepth 50000 in
theorem xg_73 : xMok 73 304 55 302 303 := ⟨rfl, rfl, ⟨by decide, by decide⟩, by decide, rfl, by decide +kernel, ⟨rfl, rfl, rfl⟩⟩
set_option maxRecDepth 50000 in
theorem xg_74 : xMok 74 326 55 325 0 := ⟨rfl, rfl, ⟨by decide, by decide⟩, by decide, rfl, by decide +kernel, rfl⟩
set_option maxRecDepth 50000 in
theorem xg_75 : xMok 75 389 55 388 0 := ⟨rfl, rfl, ⟨by decide, by decide⟩, by decide, rfl, by decide +kernel, rfl⟩
set_option maxRecDepth 50000 in
theorem xg_76 : xMok 76 529 55 527 528 := ⟨rfl, rfl, ⟨by decide, by decide⟩, by decide, rfl, by decide +kernel, ⟨rfl, rfl, rfl⟩⟩
set_option maxRecDepth 50000 in
theorem xg_77 : xMok 77 532 55 531 0 := ⟨rfl, rfl, ⟨by decide, by decide⟩, by decide, rfl, by decide +kernel, rfl⟩
set_option maxRecDepth 50000 in
theorem xg_78 : xMok 78 536 55 534 535 := ⟨rfl, rfl, ⟨by decide, by decide⟩, by decide, rfl, by decide +kernel, ⟨rfl, rfl, rfl⟩⟩
set_option maxRecDepth 50000 in
theorem xg_79 : xMok 79 540 55 539 20 := ⟨rfl, rfl, ⟨by decide, by decide⟩, by decide, rfl, by decide +kernel, ⟨rfl, rfl, rfl⟩⟩
set_option maxRecDepth 50000 in
theorem xg_80 : xMok 80 544 55 542 543 := ⟨rfl, rfl, ⟨by decide, by decide⟩, by decide, rfl, by decide +kernel, ⟨rfl, rfl, rfl⟩⟩
set_option maxRecDepth 50000 in
theorem xg_81 : xMok 81 548 55 546 547 := ⟨rfl, rfl, ⟨by decide, by decide⟩, by decide, rfl, by decide +kernel, ⟨rfl, rfl, rfl⟩⟩
set_option maxRecDepth 50000 in
theorem xg_82 : xMok 82 553 55 551 552 := ⟨rfl, rfl, ⟨by decide, by decide⟩, by decide, rfl, by decide +kernel, ⟨rfl, rfl, rfl⟩⟩
set_option maxRecDepth 50000 in
theorem xg_83 : xMok 83 558 55 556 557 := ⟨rfl, rfl, ⟨by decide, by decide⟩, by decide, rfl, by decide +kernel, ⟨rfl, rfl, rfl⟩⟩
set_option maxRecDepth 50000 in
theorem xg_84 : xMok 84 566 55 564 565 := ⟨rfl, rfl, ⟨by decide, by decide⟩, by decide, rfl, by decide +kernel, ⟨rfl, rfl, rfl⟩⟩
set_option maxRecDepth 50000 in
theorem xg_85 : xMok 85 570 55 568 569 := ⟨rfl, rfl, ⟨by decide, by decide⟩, by decide, rfl, by decide +kernel, ⟨rfl, rfl, rfl⟩⟩
set_option maxRecDepth 50000 in
theorem xg_86 : xMok 86 579 55 577 578 := ⟨rfl, rfl, ⟨by decide, by decide⟩, by decide, rfl, by decide +kernel, ⟨rfl, rfl, rfl⟩⟩
set_option maxRecDepth 50000 in
theorem xg_87 : xMok 87 584 55 582 583 := ⟨rfl, rfl, ⟨by decide, by decide⟩, by decide, rfl, by decide +kernel, ⟨rfl, rfl, rfl⟩⟩
set_option maxRecDepth 50000 in
theorem xg_88 : xMok 88 589 55 587 588 := ⟨rfl, rfl, ⟨by decide, by decide⟩, by decide, rfl, by decide +kernel, ⟨rfl, rfl, rfl⟩⟩
set_option maxRecDepth 50000 in
theorem xg_89 : xMok 89 598 62 597 0 := ⟨rfl, rfl, ⟨by decide, by decide⟩, by decide, rfl, by decide +kernel, ⟨rfl, rfl, rfl⟩⟩
set_option maxRecDepth 50000 in
theorem xg_90 : xMok 90 665 62 663 664 := ⟨rfl, rfl, ⟨by decide, by decide⟩, by decide, rfl, by decide +kernel, ⟨rfl, rfl, rfl⟩⟩
set_option maxRecDepth 50000 in
theorem xg_91 : xMok 91 669 62 668 21 := ⟨rfl, rfl, ⟨by decide, by decide⟩, by decide, rfl, by decide +kernel, ⟨rfl, rfl, rfl⟩⟩
set_option maxRecDepth 50000 in
theorem xg_92 : xMok 92 673 62 671 672 := ⟨rfl, rfl, ⟨by decide, by decide⟩, by decide, rfl, by decide +kernel, ⟨rfl, rfl, rfl⟩⟩
set_option maxRecDepth 50000 in
theorem xg_93 : xMok 93 677 62 676 0 := ⟨rfl, rfl, ⟨by decide, by decide⟩, by decide, rfl, by decide +kernel, rfl⟩
set_option maxRecDepth 50000 in
theorem xg_94 : xMok 94 681 62 679 680 := ⟨rfl, rfl, ⟨by decide, by decide⟩, by decide, rfl, by decide +kernel, ⟨rfl, rfl, rfl⟩⟩
set_option maxRecDepth 50000 in
theorem xg_95 : xMok 95 685 62 684 22 := ⟨rfl, rfl, ⟨by decide, by decide⟩, by decide, rfl, by decide +kernel, ⟨rfl, rfl, rfl⟩⟩
set_option maxRecDepth 50000 in
theorem xg_96 : xMok 96 689 62 687 688 := ⟨rfl, rfl, ⟨by decide, by decide⟩, by decide, rfl, by decide +kernel, ⟨rfl, rfl, rfl⟩⟩
set_option maxRecDepth 50000 in
theorem xg_97 : xMok 97 693 62 692 23 := ⟨rfl, rfl, ⟨by decide, by decide⟩, by decide, rfl, by decide +kernel, ⟨rfl, rfl, rfl⟩⟩
set_option maxRecDepth 50000 in
theorem xg_98 : xMok 98 697 62 695 696 := ⟨rfl, rfl, ⟨by decide, by decide⟩, by decide, rfl, by decide +kernel, ⟨rfl, rfl, rfl⟩⟩
set_option maxRecDepth 50000 in
theorem xg_99 : xMok 99 701 62 699 700 := ⟨rfl, rfl, ⟨by decide, by decide⟩, by decide, rfl, by decide +kernel, ⟨rfl, rfl, rfl⟩⟩
set_option maxRecDepth 50000 in
theorem xg_100 : xMok 100 705 62 703 704 := ⟨rfl, rfl, ⟨by decide, by decide⟩, by decide, rfl, by decide +kernel, ⟨rfl, rfl, rfl⟩⟩
set_option maxRecDepth 50000 in
theorem xg_101 : xMok 101 709 62 708 24 := ⟨rfl, rfl, ⟨by decide, by decide⟩, by decide, rfl, by decide +kernel, ⟨rfl, rfl, rfl⟩⟩
set_option maxRecDepth 50000 in
theorem xg_102 : xMok 102 713 62 712 25 := ⟨rfl, rfl, ⟨by decide, by decide⟩, by decide, rfl, by decide +kernel, ⟨rfl, rfl, rfl⟩⟩
set_option maxRecDepth 50000 in
theorem xg_103 : xMok 103 717 62 715 716 := ⟨rfl, rfl, ⟨by decide, by decide⟩, by decide, rfl, by decide +kernel, ⟨rfl, rfl, rfl⟩⟩
set_option maxRecDepth 50000 in
theorem xg_104 : xMok 104 721 62 720 26 := ⟨rfl, rfl, ⟨by decide, by decide⟩, by decide, rfl, by decide +kernel, ⟨rfl, rfl, rfl⟩⟩
set_option maxRecDepth 50000 in
theorem xg_105 : xMok 105 725 62 724 27 := ⟨rfl, rfl, ⟨by decide, by decide⟩, by decide, rfl, by decide +kernel, ⟨rfl, rfl, rfl⟩⟩
set_option maxRecDepth 50000 in
theorem xg_106 : xMok 106 729 62 728 28 := ⟨rfl, rfl, ⟨by decide, by decide⟩, by decide, rfl, by decide +kernel, ⟨rfl, rfl, rfl⟩⟩
set_option maxRecDepth 50000 in
theorem xg_107 : xMok 107 733 62 732 29 := ⟨rfl, rfl, ⟨by decide, by decide⟩, by decide, rfl, by decide +kernel, ⟨rfl, rfl, rfl⟩⟩
set_option maxRecDepth 50000 in
theorem xg_108 : xMok 108 737 62 736 30 := ⟨rfl, rfl, ⟨by decide, by decide⟩, by decide, rfl, by decide +kernel, ⟨rfl, rfl, rfl⟩⟩
set_option maxRecDepth 50000 in
theorem xg_109 : xMok 109 741 62 740 31 := ⟨rfl, rfl, ⟨by decide, by decide⟩, by decide, rfl, by decide +kernel, ⟨rfl, rfl, rfl⟩⟩
set_option maxRecDepth 50000 in
theorem xg_110 : xMok 110 745 62 744 32 := ⟨rfl, rfl, ⟨by decide, by decide⟩, by decide, rfl, by decide +kernel, ⟨rfl, rfl, rfl⟩⟩
set_option maxRecDepth 50000 in
theorem xg_111 : xMok 111 750 62 749 33 := ⟨rfl, rfl, ⟨by decide, by decide⟩, by decide, rfl, by decide +kernel, ⟨rfl, rfl, rfl⟩⟩
set_option maxRecDepth 50000 in
theorem xg_112 : xMok 112 754 62 753 34 := ⟨rfl, rfl, ⟨by decide, by decide⟩, by decide, rfl, by decide +kernel, ⟨rfl, rfl, rfl⟩⟩
set_option maxRecDepth 50000 in
theorem xg_113 : xMok 113 758 62 757 35 := ⟨rfl, rfl, ⟨by decide, by decide⟩, by decide, rfl, by decide +kernel, ⟨rfl, rfl, rfl⟩⟩
set_option maxRecDepth 50000 in
theorem xg_114 : xMok 114 762 62 761 36 := ⟨rfl, rfl, ⟨by decide, by decide⟩, by decide, rfl, by decide +kernel, ⟨rfl, rfl, rfl⟩⟩
set_option maxRecDepth 50000 in
theorem xg_115 : xMok 115 766 62 765 37 := ⟨rfl, rfl, ⟨by decide, by decide⟩, by decide, rfl, by decide +kernel, ⟨rfl, rfl, rfl⟩⟩
set_option maxRecDepth 50000 in
theorem xg_116 : xMok 116 770 62 769 38 := ⟨rfl, rfl, ⟨by decide, by decide⟩, by decide, rfl, by decide +kernel, ⟨rfl, rfl, rfl⟩⟩
set_option maxRecDepth 50000 in
theorem xg_117 : xMok 117 774 62 773 39 := ⟨rfl, rfl, ⟨by decide, by decide⟩, by decide, rfl, by decide +kernel, ⟨rfl, rfl, rfl⟩⟩
set_option maxRecDepth 50000 in
theorem xg_118 : xMok 118 778 62 777 40 := ⟨rfl, rfl, ⟨by decide, by decide⟩, by decide, rfl, by decide +kernel, ⟨rfl, rfl, rfl⟩⟩
set_option maxRecDepth 50000 in
theorem xg_119 : xMok 119 782 62 781 41 := ⟨rfl, rfl, ⟨by decide, by decide⟩, by decide, rfl, by decide +kernel, ⟨rfl, rfl, rfl⟩⟩
set_option maxRecDepth 50000 in
theorem xg_120 : xMok 120 786 62 785 42 := ⟨rfl, rfl, ⟨by decide, by decide⟩, by decide, rfl, by decide +kernel, ⟨rfl, rfl, rfl⟩⟩
set_option maxRecDepth 50000 in
theorem xg_121 : xMok 121 790 62 789 43 := ⟨rfl, rfl, ⟨by decide, by decide⟩, by decide, rfl, by decide +kernel, ⟨rfl, rfl, rfl⟩⟩
set_option maxRecDepth 50000 in
theorem xg_122 : xMok 122 794 62 793 44 := ⟨rfl, rfl, ⟨by decide, by decide⟩, by decide, rfl, by decide +kernel, ⟨rfl, rfl, rfl⟩⟩
set_option maxRecDepth 50000 in
theorem xg_123 : xMok 123 798 62 797 45 := ⟨rfl, rfl, ⟨by decide, by decide⟩, by decide, rfl, by decide +kernel, ⟨rfl, rfl, rfl⟩⟩
set_option maxRecDepth 50000 in
theorem xg_124 : xMok 124 802 62 801 46 := ⟨rfl, rfl, ⟨by decide, by decide⟩, by decide, rfl, by decide +kernel, ⟨rfl, rfl, rfl⟩⟩
set_option maxRecDepth 50000 in
theorem xg_125 : xMok 125 806 62 805 47 := ⟨rfl, rfl, ⟨by decide, by decide⟩, by decide, rfl, by decide +kernel, ⟨rfl, rfl, rfl⟩⟩
set_option maxRecDepth 50000 in
theorem xg_126 : xMok 126 809 62 808 0 := ⟨rfl, rfl, ⟨by decide, by decide⟩, by decide, rfl, by decide +kernel, rfl⟩
set_option maxRecDepth 50000 in
theorem xg_127 : xMok 127 813 62 812 48 := ⟨rfl, rfl, ⟨by decide, by decide⟩, by decide, rfl, by decide +kernel, ⟨rfl, rfl, rfl⟩⟩
set_option maxRecDepth 50000 in
theorem xg_128 : xMok 128 817 62 816 49 := ⟨rfl, rfl, ⟨by decide, by decide⟩, by decide, rfl, by decide +kernel, ⟨rfl, rfl, rfl⟩⟩
set_option maxRecDepth 50000 in
theorem xg_129 : xMok 129 821 62 820 50 := ⟨rfl, rfl, ⟨by decide, by decide⟩, by decide, rfl, by decide +kernel, ⟨rfl, rfl, rfl⟩⟩
set_option maxRecDepth 50000 in
theorem xg_130 : xMok 130 825 62 824 51 := ⟨rfl, rfl, ⟨by decide, by decide⟩, by decide, rfl, by decide +kernel, ⟨rfl, rfl, rfl⟩⟩
set_option maxRecDepth 50000 in
theorem xg_131 : xMok 131 829 62 828 52 := ⟨rfl, rfl, ⟨by decide, by decide⟩, by decide, rfl, by decide +kernel, ⟨rfl, rfl, rfl⟩⟩
set_option maxRecDepth 50000 in
theorem xg_132 : xMok 132 833 62 832 53 := ⟨rfl, rfl, ⟨by decide, by decide⟩, by decide, rfl, by decide +kernel, ⟨rfl, rfl, rfl⟩⟩
set_option maxRecDepth 50000 in
theorem xg_133 : xMok 133 837 62 835 836 := ⟨rfl, rfl, ⟨by decide, by decide⟩, by decide, rfl, by decide +kernel, ⟨rfl, rfl, rfl⟩⟩
set_option maxRecDepth 50000 in
theorem xg_134 : xMok 134 841 62 839 840 := ⟨rfl, rfl, ⟨by decide, by decide⟩, by decide, rfl, by decide +kernel, ⟨rfl, rfl, rfl⟩⟩
set_option maxRecDepth 50000 in
theorem xg_135 : xMok 135 845 62 843 844 := ⟨rfl, rfl, ⟨by decide, by decide⟩, by decide, rfl, by decide +kernel, ⟨rfl, rfl, rfl⟩⟩
set_option maxRecDepth 50000 in
theorem xg_136 : xMok 136 850 62 848 849 := ⟨rfl, rfl, ⟨by decide, by decide⟩, by decide, rfl, by decide +kernel, ⟨rfl, rfl, rfl⟩⟩
set_option maxRecDepth 50000 in
theorem xg_137 : xMok 137 854 62 852 853 := ⟨rfl, rfl, ⟨by decide, by decide⟩, by decide, rfl, by decide +kernel, ⟨rfl, rfl, rfl⟩⟩
set_option maxRecDepth 50000 in
theorem xg_138 : xMok 138 859 62 857 858 := ⟨rfl, rfl, ⟨by decide, by decide⟩, by decide, rfl, by decide +kernel, ⟨rfl, rfl, rfl⟩⟩
set_option maxRecDepth 50000 in
theorem xg_139 : xMok 139 864 62 862 863 := ⟨rfl, rfl, ⟨by decide, by decide⟩, by decide, rfl, by decide +kernel, ⟨rfl, rfl, rfl⟩⟩
set_option maxRecDepth 50000 in
theorem xg_140 : xMok 140 868 62 866 867 := ⟨rfl, rfl, ⟨by decide, by decide⟩, by decide, rfl, by decide +kernel, ⟨rfl, rfl, rfl⟩⟩
set_option maxRecDepth 50000 in
theorem xg_141 : xMok 141 872 62 870 871 := ⟨rfl, rfl, ⟨by decide, by decide⟩, by decide, rfl, by decide +kernel, ⟨rfl, rfl, rfl⟩⟩
set_option maxRecDepth 50000 in
theorem xg_142 : xMok 142 593 54 592 0 := ⟨rfl, rfl, ⟨by decide, by decide⟩, by decide, rfl, by decide +kernel, rfl⟩
def xMo (y : Nat) : Prop := ∃ wc wi wm ws, xMok y wc wi wm ws
def xMall : Nat → Prop
  | 0 => True
  | n + 1 => xMo n ∧ xMall n
theorem xMall_lt : ∀ {n : Nat}, xMall n → ∀ y, y < n → xMo y
  | 0, _, y, h => by omega
  | n + 1, ⟨h1, h2⟩, y, h => by
    rcases Nat.lt_or_ge y n with h3 | h3
    · exact xMall_lt h2 y h3
    · have e : y = n := by omega
      subst e
      exact h1
theorem xM_all : xMall 143 := ⟨⟨_, _, _, _, xg_142⟩, ⟨_, _, _, _, xg_141⟩, ⟨_, _, _, _, xg_140⟩, ⟨_, _, _, _, xg_139⟩, ⟨_, _, _, _, xg_138⟩, ⟨_, _, _, _, xg_137⟩, ⟨_, _, _, _, xg_136⟩, ⟨_, _, _, _, xg_135⟩, ⟨_, _, _, _, xg_134⟩, ⟨_, _, _, _, xg_133⟩, ⟨_, _, _, _, xg_132⟩, ⟨_, _, _, _, xg_131⟩, ⟨_, _, _, _, xg_130⟩, ⟨_, _, _, _, xg_129⟩, ⟨_, _, _, _, xg_128⟩, ⟨_, _, _, _, xg_127⟩, ⟨_, _, _, _, xg_126⟩, ⟨_, _, _, _, xg_125⟩, ⟨_, _, _, _, xg_124⟩, ⟨_, _, _, _, xg_123⟩, ⟨_, _, _, _, xg_122⟩, ⟨_, _, _, _, xg_121⟩, ⟨_, _, _, _, xg_120⟩, ⟨_, _, _, _, xg_119⟩, ⟨_, _, _, _, xg_118⟩, ⟨_, _, _, _, xg_117⟩, ⟨_, _, _, _, xg_116⟩, ⟨_, _, _, _, xg_115⟩, ⟨_, _, _, _, xg_114⟩, ⟨_, _, _, _, xg_113⟩, ⟨_, _, _, _, xg_112⟩, ⟨_, _, _, _, xg_111⟩, ⟨_, _, _, _, xg_110⟩, ⟨_, _, _, _, xg_109⟩, ⟨_, _, _, _, xg_108⟩, ⟨_, _, _, _, xg_107⟩, ⟨_, _, _, _, xg_106⟩, ⟨_, _, _, _, xg_105⟩, ⟨_, _, _, _, xg_104⟩, ⟨_, _, _, _, xg_103⟩, ⟨_, _, _, _, xg_102⟩, ⟨_, _, _, _, xg_101⟩, ⟨_, _, _, _, xg_100⟩, ⟨_, _, _, _, xg_99⟩, ⟨_, _, _, _, xg_98⟩, ⟨_, _, _, _, xg_97⟩, ⟨_, _, _, _, xg_96⟩, ⟨_, _, _, _, xg_95⟩, ⟨_, _, _, _, xg_94⟩, ⟨_, _, _, _, xg_93⟩, ⟨_, _, _, _, xg_92⟩, ⟨_, _, _, _, xg_91⟩, ⟨_, _, _, _, xg_90⟩, ⟨_, _, _, _, xg_89⟩, ⟨_, _, _, _, xg_88⟩, ⟨_, _, _, _, xg_87⟩, ⟨_, _, _, _, xg_86⟩, ⟨_, _, _, _, xg_85⟩, ⟨_, _, _, _, xg_84⟩, ⟨_, _, _, _, xg_83⟩, ⟨_, _, _, _, xg_82⟩, ⟨_, _, _, _, xg_81⟩, ⟨_, _, _, _, xg_80⟩, ⟨_, _, _, _, xg_79⟩, ⟨_, _, _, _, xg_78⟩, ⟨_, _, _, _, xg_77⟩, ⟨_, _, _, _, xg_76⟩, ⟨_, _, _, _, xg_75⟩, ⟨_, _, _, _, xg_74⟩, ⟨_, _, _, _, xg_73⟩, ⟨_, _, _, _, xg_72⟩, ⟨_, _, _, _, xg_71⟩, ⟨_, _, _, _, xg_70⟩, ⟨_, _, _, _, xg_69⟩, ⟨_, _, _, _, xg_68⟩, ⟨_, _, _, _, xg_67⟩, ⟨_, _, _, _, xg_66⟩, ⟨_, _, _, _, xg_65⟩, ⟨_, _, _, _, xg_64⟩, ⟨_, _, _, _, xg_63⟩, ⟨_, _, _, _, xg_62⟩, ⟨_, _, _, _, xg_61⟩, ⟨_, _, _, _, xg_60⟩, ⟨_, _, _, _, xg_59⟩, ⟨_, _, _, _, xg_58⟩, ⟨_, _, _, _, xg_57⟩, ⟨_, _, _, _, xg_56⟩, ⟨_, _, _, _, xg_55⟩, ⟨_, _, _, _, xg_54⟩, ⟨_, _, _, _, xg_53⟩, ⟨_, _, _, _, xg_52⟩, ⟨_, _, _, _, xg_51⟩, ⟨_, _, _, _, xg_50⟩, ⟨_, _, _, _, xg_49⟩, ⟨_, _, _, _, xg_48⟩, ⟨_, _, _, _, xg_47⟩, ⟨_, _, _, _, xg_46⟩, ⟨_, _, _, _, xg_45⟩, ⟨_, _, _, _, xg_44⟩, ⟨_, _, _, _, xg_43⟩, ⟨_, _, _, _, xg_42⟩, ⟨_, _, _, _, xg_41⟩, ⟨_, _, _, _, xg_40⟩, ⟨_, _, _, _, xg_39⟩, ⟨_, _, _, _, xg_38⟩, ⟨_, _, _, _, xg_37⟩, ⟨_, _, _, _, xg_36⟩, ⟨_, _, _, _, xg_35⟩, ⟨_, _, _, _, xg_34⟩, ⟨_, _, _, _, xg_33⟩, ⟨_, _, _, _, xg_32⟩, ⟨_, _, _, _, xg_31⟩, ⟨_, _, _, _, xg_30⟩, ⟨_, _, _, _, xg_29⟩, ⟨_, _, _, _, xg_28⟩, ⟨_, _, _, _, xg_27⟩, ⟨_, _, _, _, xg_26⟩, ⟨_, _, _, _, xg_25⟩, ⟨_, _, _, _, xg_24⟩, ⟨_, _, _, _, xg_23⟩, ⟨_, _, _, _, xg_22⟩, ⟨_, _, _, _, xg_21⟩, ⟨_, _, _, _, xg_20⟩, ⟨_, _, _, _, xg_19⟩, ⟨_, _, _, _, xg_18⟩, ⟨_, _, _, _, xg_17⟩, ⟨_, _, _, _, xg_16⟩, ⟨_, _, _, _, xg_15⟩, ⟨_, _, _, _, xg_14⟩, ⟨_, _, _, _, xg_13⟩, ⟨_, _, _, _, xg_12⟩, ⟨_, _, _, _, xg_11⟩, ⟨_, _, _, _, xg_10⟩, ⟨_, _, _, _, xg_9⟩, ⟨_, _, _, _, xg_8⟩, ⟨_, _, _, _, xg_7⟩, ⟨_, _, _, _, xg_6⟩, ⟨_, _, _, _, xg_5⟩, ⟨_, _, _, _, xg_4⟩, ⟨_, _, _, _, xg_3⟩, ⟨_, _, _, _, xg_2⟩, ⟨_, _, _, _, xg_1⟩, ⟨_, _, _, _, xg_0⟩, trivial⟩
end
section
/-! A GRID: an array of n arrays of k ints, made by one instruction -/
/-- the outer cell when i rows hang in it -/
def yO (cA : ClassId) (N h i : Nat) : Cell := arrV cA N (fun j => if j < i then .ref (h + 1 + j) else .null)
def yI (cI : ClassId) (M : Nat) : Cell := arrV cI M (fun _ => .int 0)
def yF (s : State) (cA cI : ClassId) (N M : Nat) : Nat → State
  | 0 => s.pushCell (yO cA N s.heap.size 0)
  | i + 1 => ((yF s cA cI N M i).pushCell (yI cI M)).setCell s.heap.size (yO cA N s.heap.size (i + 1))
theorem yO_set (cA : ClassId) (N h i : Nat) : (yO cA N h i).setSlot i (.ref (h + 1 + i)) = yO cA N h (i + 1) := by
  unfold yO
  rw [arrV_store]
  congr 1
  funext j
  unfold updV
  by_cases hj : j = i
  · subst hj
    rw [if_pos rfl, if_pos (by omega)]
  · rw [if_neg hj]
    show (if j < i then Value.ref (h + 1 + j) else Value.null) = _
    by_cases h1 : j < i
    · rw [if_pos h1, if_pos (by omega)]
    · rw [if_neg h1, if_neg (by omega)]
theorem yF_at (s : State) (cA cI : ClassId) (N M : Nat) : ∀ i, (yF s cA cI N M i).heap.size = s.heap.size + 1 + i ∧ (yF s cA cI N M i).heap[s.heap.size]? = some (yO cA N s.heap.size i) ∧ (yF s cA cI N M i).vm = s.vm ∧ (yF s cA cI N M i).slotsUsed = s.slotsUsed + N + i * M
  | 0 => ⟨by simp [yF], by simp [yF], rfl, by simp [yF, yO, arrV_size]⟩
  | i + 1 => by
    obtain ⟨a, b, d, u⟩ := yF_at s cA cI N M i
    have hlt : s.heap.size < (yF s cA cI N M i).heap.size := by omega
    have hb' : ((yF s cA cI N M i).pushCell (yI cI M)).heap[s.heap.size]? = some (yO cA N s.heap.size i) := by rw [State.heap_pushCell_of_lt (h := hlt)]; exact b
    refine ⟨?_, State.heap_setCell_self hb', by simp [yF, d], ?_⟩
    · simp [yF, State.setCell, a]; omega
    · simp [yF, u, yI, arrV_size, Nat.succ_mul]; omega
theorem yF_top (s : State) (f : JFrame) (cA cI : ClassId) (N M : Nat) : ∀ i, yF (s.setTop f) cA cI N M i = (yF s cA cI N M i).setTop f
  | 0 => rfl
  | i + 1 => by simp only [yF, yF_top s f cA cI N M i, State.heap_setTop, State.pushCell_setTop, State.setCell_setTop]
theorem yF_low (s : State) (cA cI : ClassId) (N M : Nat) {a : Addr} (ha : a < s.heap.size) : ∀ i, (yF s cA cI N M i).heap[a]? = s.heap[a]?
  | 0 => State.heap_pushCell_of_lt _ _ ha
  | i + 1 => by
    have f1 := (yF_at s cA cI N M i).1
    have hlt : a < (yF s cA cI N M i).heap.size := Nat.lt_of_lt_of_le ha (by rw [f1]; omega)
    show (((yF s cA cI N M i).pushCell (yI cI M)).setCell s.heap.size _).heap[a]? = _
    rw [State.heap_setCell_other (Nat.ne_of_gt ha), State.heap_pushCell_of_lt (h := hlt)]
    exact yF_low s cA cI N M ha i
theorem yF_row (s : State) (cA cI : ClassId) (N M : Nat) : ∀ i j, j < i → (yF s cA cI N M i).heap[s.heap.size + 1 + j]? = some (yI cI M)
  | 0, _, h => absurd h (Nat.not_lt_zero _)
  | i + 1, j, h => by
    have f1 := (yF_at s cA cI N M i).1
    show (((yF s cA cI N M i).pushCell (yI cI M)).setCell s.heap.size _).heap[s.heap.size + 1 + j]? = _
    rw [State.heap_setCell_other (show s.heap.size ≠ s.heap.size + 1 + j by omega)]
    rcases Nat.lt_or_ge j i with hj | hj
    · have hlt : s.heap.size + 1 + j < (yF s cA cI N M i).heap.size := by rw [f1]; omega
      rw [State.heap_pushCell_of_lt (h := hlt)]
      exact yF_row s cA cI N M i j hj
    · have e : j = i := by omega
      subst e
      rw [← f1]
      exact State.heap_pushCell_size _ _
theorem y_fitR {t : FieldType} (h : t.isReference = true) (v : Value) (hv : v = .null ∨ ∃ a, v = .ref a) : fits t v = true := by
  rcases hv with rfl | ⟨a, rfl⟩ <;> cases t <;> simp [FieldType.isReference] at h <;> rfl
section YWP
variable {E : CtlPost} {e : Env} {d : Bool} {acts : List Action} {s : State}
theorem y_newArray {c comp : ClassId} {k : Class} {type : FieldType} {len : Nat} {init : Value} (hk : s.vm.classes[c]? = some k) (hkind : k.kind = .array comp type)
    (hlimit : ¬ len > e.platform.arrayLengthLimit) (hheap : ¬ len * componentBytes type > e.platform.maxHeapBytes) (hfit : fits type init = true) (hdef : init.isDefault = true) {Q : Addr → Pre}
    (h1 : s.heap.size < e.platform.maxCells) (h2 : s.slotsUsed + len ≤ e.platform.maxSlots) (hq : Q s.heap.size d acts (s.pushCell (arrV c len (fun _ => init)))) : wp (Jvm.newArray c len init) Q E e d acts s := by
  have hfits : ∀ i v, (Array.replicate len init)[i]? = some v → s.fitsSlot c .none i v = true := by
    intro i v hv
    simp only [Array.getElem?_replicate] at hv
    split at hv
    · cases hv; simp [State.fitsSlot, State.slotType?, hk, hkind, hfit]
    · cases hv
  have hda : allocActs (Array.replicate len init) s.heap.size acts = acts := by
    have hall : ((Array.replicate len init).all (·.isDefault)) = true := by
      rw [Array.all_replicate]; split <;> simp [hdef]
    unfold allocActs; rw [if_pos hall]
  simp only [Jvm.newArray, Jvm.arrayFits, wp_bind', W.ask, W.ite, hlimit, if_false, wp_pure', W.theClass, hk, hkind, hheap, W.alloc, W.stop, Option.some.injEq, exists_eq_left', Array.size_replicate, hda]
  rw [if_neg (by omega)]
  refine ⟨h1, h2, hfits, ?_⟩
  rw [arrV_new]
  exact hq
theorem y_row {cI cc : ClassId} {kc : Class} {m : Int32} (hkc : s.vm.classes[cI]? = some kc) (hkindc : kc.kind = .array cc .int) (hm : ¬ m < 0)
    (hl2 : ¬ m.toNatClampNeg > e.platform.arrayLengthLimit) (hh2 : ¬ m.toNatClampNeg * componentBytes .int > e.platform.maxHeapBytes)
    (h1 : s.heap.size < e.platform.maxCells) (h2 : s.slotsUsed + m.toNatClampNeg ≤ e.platform.maxSlots) {Q : Addr → Pre} (hq : Q s.heap.size d acts (s.pushCell (yI cI m.toNatClampNeg))) : wp (multianewarray.make cI [m]) Q E e d acts s := by
  rw [multianewarray.make]
  simp only [wp_bind', W.ite, hm, if_false, wp_pure', W.theClass, hkc, hkindc, Option.some.injEq, exists_eq_left']
  exact y_newArray hkc hkindc hl2 hh2 rfl rfl h1 h2 hq
theorem y_grid {cA cI cc : ClassId} {k kc : Class} {n m : Int32} (hk : s.vm.classes[cA]? = some k) (hkind : k.kind = .array cI (.array .int)) (hkc : s.vm.classes[cI]? = some kc) (hkindc : kc.kind = .array cc .int) (hn : ¬ n < 0) (hm : ¬ m < 0)
    (hl1 : ¬ n.toNatClampNeg > e.platform.arrayLengthLimit) (hh1 : ¬ n.toNatClampNeg * componentBytes (.array .int) > e.platform.maxHeapBytes) (hl2 : ¬ m.toNatClampNeg > e.platform.arrayLengthLimit) (hh2 : ¬ m.toNatClampNeg * componentBytes .int > e.platform.maxHeapBytes)
    (hc : s.heap.size + 1 + n.toNatClampNeg ≤ e.platform.maxCells) (hs : s.slotsUsed + n.toNatClampNeg + n.toNatClampNeg * m.toNatClampNeg ≤ e.platform.maxSlots)
    {Q : Addr → Pre} (hq : ∀ d' acts', Q s.heap.size d' acts' (yF s cA cI n.toNatClampNeg m.toNatClampNeg n.toNatClampNeg)) : wp (multianewarray.make cA [n, m]) Q E e d acts s := by
  have hfind : ([m].find? (· < 0)) = none := by simp [hm]
  have hz : s.pushCell (arrV cA n.toNatClampNeg (fun _ => .null)) = yF s cA cI n.toNatClampNeg m.toNatClampNeg 0 := by
    show _ = s.pushCell (yO cA n.toNatClampNeg s.heap.size 0)
    unfold yO
    simp
  rw [multianewarray.make]
  simp only [wp_bind', W.ite, hn, if_false, wp_pure', W.theClass, hk, hkind, Option.some.injEq, exists_eq_left']
  refine y_newArray hk hkind hl1 hh1 rfl rfl (by omega) (by have := Nat.zero_le (n.toNatClampNeg * m.toNatClampNeg); omega) ?_
  rw [hz]
  simp only [hfind]
  rw [ite_self, wp_bind', Std.Legacy.Range.forIn_eq_forIn_range']
  have hsz : ([:n.toNatClampNeg] : Std.Legacy.Range).size = n.toNatClampNeg := by simp [Std.Legacy.Range.size]
  rw [hsz]
  show wp (forIn (List.range' 0 n.toNatClampNeg 1) PUnit.unit _) _ E e d acts _
  refine wp_forIn_inv (fun rest s' => ∃ i, i ≤ n.toNatClampNeg ∧ rest = List.range' i (n.toNatClampNeg - i) ∧ s' = yF s cA cI n.toNatClampNeg m.toNatClampNeg i) _ _ ⟨0, Nat.zero_le _, rfl, rfl⟩ ?_ ?_
  · rintro x rest s' d' acts' Q' ⟨i, hi, hl, rfl⟩ hnext
    have hlt : i < n.toNatClampNeg := by
      rcases Nat.lt_or_ge i n.toNatClampNeg with h | h
      · exact h
      · rw [show n.toNatClampNeg - i = 0 from by omega] at hl; simp at hl
    obtain ⟨rfl, hrest⟩ : x = i ∧ rest = List.range' (i + 1) (n.toNatClampNeg - (i + 1)) := by
      rw [show n.toNatClampNeg - i = (n.toNatClampNeg - (i + 1)) + 1 from by omega, List.range'_succ] at hl
      exact ⟨(List.cons.inj hl).1, (List.cons.inj hl).2⟩
    obtain ⟨f1, f2, f3, f4⟩ := yF_at s cA cI n.toNatClampNeg m.toNatClampNeg x
    have hmul : x * m.toNatClampNeg + m.toNatClampNeg ≤ n.toNatClampNeg * m.toNatClampNeg := by
      have := Nat.mul_le_mul_right m.toNatClampNeg (show x + 1 ≤ n.toNatClampNeg from hlt)
      rw [Nat.succ_mul] at this; exact this
    simp only [wp_bind']
    refine y_row (by rw [f3]; exact hkc) hkindc hm hl2 hh2 (by rw [f1]; omega) (by rw [f4]; omega) ?_
    have hlt0 : s.heap.size < (yF s cA cI n.toNatClampNeg m.toNatClampNeg x).heap.size := by rw [f1]; omega
    simp only [wp_bind', W.writeLoc, wp_pure']
    refine ⟨yO cA n.toNatClampNeg s.heap.size x, by rw [State.heap_pushCell_of_lt (h := hlt0)]; exact f2, (fun z => by cases z), by unfold yO; rw [arrV_size]; exact hlt, ?_, hnext _ _ _ ⟨x + 1, hlt, hrest, ?_⟩⟩
    · show State.fitsSlot _ cA .none _ _ = true
      simp [State.fitsSlot, State.slotType?, f3, hk, hkind, y_fitR (t := .array .int) rfl _ (Or.inr ⟨_, rfl⟩)]
    · rw [f1, yO_set]; rfl
  · rintro s' d' acts' ⟨i, hi, hl, rfl⟩
    have hiN : i = n.toNatClampNeg := by
      rcases Nat.lt_or_ge i n.toNatClampNeg with h | h
      · rw [show n.toNatClampNeg - i = (n.toNatClampNeg - (i + 1)) + 1 from by omega, List.range'_succ] at hl; cases hl
      · omega
    subst hiN
    simp only [wp_pure']
    exact hq _ _
end YWP
section YST
variable {G : xG} {p : Program} {l : Launch} {e : Env} {R : Room} {s : State} {m : MethodId} {args : Array Value} {below : List Frame} {meth : Method} {c : Code} {nL nx0 sl0 nxF slF : Nat} {Q : State → Prop}
variable {E : Nat → List xV → xS → Option xV → xS → Prop} {K : Option xV → xS → Prop} {cc : ByteArray} {pc a b : Nat} {ls : xL} {st : List xV} {σ : xS} {o : xO}
theorem y_filled {T : State} {locs : List Loc} {cells slots : Nat} (X : Stand p l e R s m args below meth c T locs cells slots) (cA cI : ClassId) (N M : Nat) :
    ∀ i, Stand p l e R s m args below meth c (yF T cA cI N M i) (locs ++ (List.range i).map fun j => ⟨T.heap.size, j⟩) (cells + 1 + i) (slots + N + i * M)
  | 0 => by
    have h := X.pushed (yO cA N T.heap.size 0)
    rw [show (yO cA N T.heap.size 0).slots.size = N from arrV_size _ _ _] at h
    simpa [yF] using h
  | i + 1 => by
    have Xi := y_filled X cA cI N M i
    obtain ⟨f1, f2, f3, f4⟩ := yF_at T cA cI N M i
    have hlt0 : T.heap.size < (yF T cA cI N M i).heap.size := by rw [f1]; omega
    have hcell : ((yF T cA cI N M i).pushCell (yI cI M)).heap[T.heap.size]? = some (yO cA N T.heap.size i) := by rw [State.heap_pushCell_of_lt (h := hlt0)]; exact f2
    have h := (Xi.pushed (yI cI M)).stored hcell i (.ref (T.heap.size + 1 + i))
    rw [show (yI cI M).slots.size = M from arrV_size _ _ _, yO_set] at h
    have e2 : (locs ++ (List.range (i + 1)).map fun j => (⟨T.heap.size, j⟩ : Loc)) = (locs ++ (List.range i).map fun j => (⟨T.heap.size, j⟩ : Loc)) ++ [⟨T.heap.size, i⟩] := by simp [List.range_succ, List.append_assoc]
    have e3 : slots + N + (i + 1) * M = slots + N + i * M + M := by rw [Nat.succ_mul]; omega
    rw [e2, e3]
    exact h
theorem y_step {T : State} {locs : List Loc} {cells slots : Nat} (X : Stand p l e R s m args below meth c T locs cells slots) (hexec : p.tables.exec = Jvm.exec) {own : String} {idx : Nat} (hown : s.vm.findClass own = some m.cls) (hclink : (Cond.classLink own idx "[[I").before args s = true)
    {cA cI ci : ClassId} {kA kC : Class} (hnameA : s.vm.findClass "[[I" = some cA) (hkA : s.vm.classes[cA]? = some kA) (hkindA : kA.kind = .array cI (.array .int)) (hkC : s.vm.classes[cI]? = some kC) (hkindC : kC.kind = .array ci .int)
    {g : JFrame} (hg : g.method = m) (hdg : decode c.code g.pc = .ok (.multianewarray idx 2, 4)) {n k : Nat} {rest : List Value} (hstack : g.stack = .int (nI k) :: .int (nI n) :: rest) (hn : n ≤ 20000) (hk : k ≤ 20000) (hcells : cells + (1 + n) ≤ R.cells) (hslots : slots + (n + n * k) ≤ R.slots) :
    ∃ vm₁ : Vm, s.WarmedH vm₁ ∧ Stand p l e R s m args below meth c (yF (T.setVm vm₁) cA cI n k n) (locs ++ (List.range n).map fun j => ⟨T.heap.size, j⟩) (cells + 1 + n) (slots + n + n * k) ∧
      ∀ target, Steps p.tables e below ((yF (T.setVm vm₁) cA cI n k n).setTop { g with pc := g.pc + 4, stack := .ref T.heap.size :: rest }) target → Steps p.tables e below (T.setTop g) target := by
  subst hg
  have cn := nI_clamp (n := n) (by omega)
  have ck := nI_clamp (n := k) (by omega)
  have hpl : e.platform.magicAccessors = ({} : Platform).magicAccessors := by rw [X.admits.platform]
  obtain ⟨c0, hfc0, hcl⟩ := Cond.classLink_spec hown hclink e.platform hpl
  obtain rfl : c0 = cA := Option.some.inj (hfc0.symm.trans hnameA)
  obtain ⟨hg₁, hwarm₁, hready₁⟩ := State.classEntry (e := e) X.warmed hcl
  generalize T.vm.noted g.method.cls idx (.cls c0) = vm₁ at hg₁ hwarm₁ hready₁
  have hal : s.vm.Alike vm₁ := hwarm₁.alike
  obtain ⟨kA₁, hkA₁, heA⟩ := hal.2.2 _ _ hkA
  obtain ⟨kC₁, hkC₁, heC⟩ := hal.2.2 _ _ hkC
  have hkindA₁ : kA₁.kind = .array cI (.array .int) := by rw [heA]; exact hkindA
  have hkindC₁ : kC₁.kind = .array ci .int := by rw [heC]; exact hkindC
  have X₁ := X.noted hwarm₁
  obtain ⟨hr1, hr2⟩ := X.roomAbove hcells hslots
  have XF := y_filled X₁ c0 cI n k n
  refine ⟨vm₁, hwarm₁, XF, fun target hrest => ?_⟩
  have hl1 : ¬ n > e.platform.arrayLengthLimit := by rw [Launch.admits_arrayLengthLimit X.admits]; omega
  have hh1 : ¬ n * componentBytes (.array .int) > e.platform.maxHeapBytes := by
    rw [Launch.admits_maxHeapBytes X.admits]; show ¬ n * 4 > 536870912; omega
  have hl2 : ¬ k > e.platform.arrayLengthLimit := by rw [Launch.admits_arrayLengthLimit X.admits]; omega
  have hh2 : ¬ k * componentBytes .int > e.platform.maxHeapBytes := by rw [Launch.admits_maxHeapBytes X.admits]; show ¬ k * 4 > 536870912; omega
  jvm_step X.here [hexec, hdg]
  simp only [multianewarray.sem, wp_bind', W.resolveClassAt_links (State.method?_setTop g X.here.top) hg₁]
  rw [W.popN, if_neg (by decide)]
  refine ⟨g, State.topJava?_setTop' (s := T.setVm vm₁) g X.here.top, [.int (nI n), .int (nI k)], rest, rfl, hstack, ?_⟩
  simp only [List.mapM_cons, List.mapM_nil, wp_bind', wp_pure']
  refine y_grid (k := kA₁) (kc := kC₁) (cI := cI) (cc := ci) hkA₁ hkindA₁ hkC₁ hkindC₁ (nI_pos (by omega)) (nI_pos (by omega)) (by rw [cn]; exact hl1) (by rw [cn]; exact hh1) (by rw [ck]; exact hl2) (by rw [ck]; exact hh2) (by rw [cn]; show T.heap.size + 1 + _ ≤ _; omega) (by rw [cn, ck]; show T.slotsUsed + _ + _ ≤ _; omega) (fun d' acts' => ?_)
  rw [cn, ck]
  have eS : ((T.setTop g).setVm vm₁).setTop { g with stack := rest } = (T.setVm vm₁).setTop { g with stack := rest } := by
    show ((T.setVm vm₁).setTop g).setTop _ = _
    rw [State.setTop_setTop]
  rw [eS, yF_top]
  simp only [wp_bind', W.mark, W.pushRef, State.topJava?_setTop' _ XF.here.top, Option.some.injEq, exists_eq_left', State.setTop_setTop, State.heap_setTop]
  intro acts
  simp [jvm, XF.here.top]
  exact hrest
theorem sn_multi {d : Nat} {own : String} (C : xCx G p l R s m args c cc nL d nx0 sl0 nxF slF own E) {idx : Nat} (hclink : (Cond.classLink own idx "[[I").before args s = true)
    (hd : decode cc pc = .ok (.multianewarray idx 2, 4)) (h : xst E (.multianewarray idx 2) 4 a b pc ls st σ o) (hp : xpost (xSem G p l e R s m args below meth c nL nx0 sl0 nxF slF Q) K o) : xSem G p l e R s m args below meth c nL nx0 sl0 nxF slF Q (pc, ls, st, σ) := by
  obtain ⟨hx, hb, hml, hown, hts, hK, hN, hf, hlo, hRc, hRs, hE⟩ := C
  obtain ⟨x, y, r, rfl, n, k, rfl, rfl, hn, hk, rfl⟩ := x2_inv h
  have hb1 : σ.2.1 + 1 + n ≤ nxF := hp.1.1
  have hb2 : σ.2.2 + n + n * k ≤ slF := hp.1.2
  refine ⟨⟨by show σ.2.1 ≤ nxF; omega, by show σ.2.2 ≤ slF; omega⟩, fun H locs L h1 h2 hR hl hL => ?_⟩
  have h1 : nx0 ≤ σ.2.1 := h1
  have h2 : sl0 ≤ σ.2.2 := h2
  have hR : xR G s σ H := hR
  have hnx := xR_nx hR
  have cn := nI_clamp (n := n) (by omega)
  have ck := nI_clamp (n := k) (by omega)
  obtain ⟨-, ⟨kA, comp, hkA, hkindA, hcomp⟩, hnameA⟩ := hK.2.2 2
  have hcI : s.vm.findClass "[I" = some (G.2.2.2.2.1 0) := (hK.2.1 0).2
  obtain rfl : comp = G.2.2.2.2.1 0 := Option.some.inj (hcomp.symm.trans hcI)
  obtain ⟨-, kC, hkC, ci, hkindC⟩ := (hK.2.1 0).1 0 (fun _ => .null)
  have hkC : s.vm.classes[G.2.2.2.2.1 0]? = some kC := hkC
  have hkindC : kC.kind = .array ci .int := hkindC
  have hkindA : kA.kind = .array (G.2.2.2.2.1 0) (.array .int) := hkindA
  intro T hT X
  have hcells : (σ.2.1 - nx0) + (1 + n) ≤ R.cells := by omega
  have hslots : (σ.2.2 - sl0) + (n + n * k) ≤ R.slots := by omega
  obtain ⟨vm₁, hwarm₁, XF, hstep⟩ := y_step X hx hown hclink hnameA hkA hkindA hkC hkindC (g := F0 m pc L (.int (nI k) :: .int (nI n) :: r.map (xv G))) rfl (by rw [hb]; exact hd) rfl hn hk hcells hslots
  obtain ⟨f1, f2, f3, f4⟩ := yF_at (T.setVm vm₁) (G.2.2.2.2.2 2) (G.2.2.2.2.1 0) n k n
  have hTs : (T.setVm vm₁).heap = H := hT
  rw [hTs] at f1 f2
  have g := fun (locs' : List Loc) (hl' : ∀ q ∈ locs', G.2.2.1 ≤ q.base) => hp.2 (yF (T.setVm vm₁) (G.2.2.2.2.2 2) (G.2.2.2.2.1 0) n k n).heap locs' L (by show nx0 ≤ σ.2.1 + 1 + n; omega) (by show sl0 ≤ σ.2.2 + n + n * k; omega) (by
    obtain ⟨z1, z2, z3, z4, z5, z6⟩ := hR
    refine ⟨by show 2 ≤ σ.2.1 + 1 + n; omega, by show _ = _ + (σ.2.1 + 1 + n - 2); omega, z3, z4, fun j en hj => ?_, z6.kept (fun q hq _ => by rw [← hTs] at hq ⊢; exact yF_low _ _ _ _ _ hq n)⟩
    show j < σ.2.1 + 1 + n ∧ _
    by_cases hj1 : j = σ.2.1
    · have hj' : (if j = σ.2.1 then some _ else _) = some en := hj
      rw [if_pos hj1] at hj'
      cases hj'
      subst hj1
      refine ⟨by omega, fun z => absurd z1 (by omega), fun _ => ?_⟩
      show _[xad G σ.2.1]? = some (arrV _ n _)
      rw [hnx, f2]
      unfold yO
      congr 1
      unfold arrV
      congr 1
      apply Array.ext
      · simp
      · intro q hq1 hq2
        have hq3 : q < n := by simpa using hq1
        simp only [Array.getElem_ofFn]
        rw [if_pos hq3]
        show Value.ref (H.size + 1 + q) = .ref (xad G (σ.2.1 + 1 + q))
        have e8 : H.size + 1 + q = xad G (σ.2.1 + 1 + q) := by
          rw [xad_2 (by omega), z2]; omega
        rw [e8]
    · have hj' : (if j = σ.2.1 then some _ else (if σ.2.1 < j ∧ j ≤ σ.2.1 + n then some _ else σ.1 j)) = some en := hj
      rw [if_neg hj1] at hj'
      by_cases hj2 : σ.2.1 < j ∧ j ≤ σ.2.1 + n
      · rw [if_pos hj2] at hj'
        cases hj'
        refine ⟨by omega, fun z => absurd z1 (by omega), fun _ => ?_⟩
        show _[xad G j]? = some (arrV _ k _)
        have e9 : xad G j = (T.setVm vm₁).heap.size + 1 + (j - σ.2.1 - 1) := by rw [hTs, ← hnx, xad_2 (by omega), xad_2 z1]; omega
        rw [e9, yF_row _ _ _ _ _ n (j - σ.2.1 - 1) (by omega)]
        rfl
      · rw [if_neg hj2] at hj'
        obtain ⟨g1, g2, g3⟩ := z5 j en hj'
        have hlo : xad G j < (T.setVm vm₁).heap.size := by
          rw [hTs, ← hnx, xad_2 z1]
          by_cases hj3 : j < 2
          · have := xad_lo z3 z4 hj3
            omega
          · rw [xad_2 (by omega)]; omega
        have hk9 := yF_low (T.setVm vm₁) (G.2.2.2.2.2 2) (G.2.2.2.2.1 0) n k hlo n
        rw [hTs] at hk9
        exact ⟨by omega, fun z => xro_kept (g2 z) hk9, fun z => xat_kept (g3 z) hk9⟩) hl' hL
  have e1 : σ.2.1 - nx0 + 1 + n = σ.2.1 + 1 + n - nx0 := by omega
  have e2 : σ.2.2 - sl0 + n + n * k = σ.2.2 + n + n * k - sl0 := by omega
  rw [e1, e2] at XF
  refine Exists.elim (g _ (fun q hq => ?_) _ rfl XF) (fun t ht => ⟨t, ?_, ht.2⟩)
  · rcases List.mem_append.mp hq with h | h
    · exact hl q h
    · obtain ⟨z, -, hz⟩ := List.mem_map.mp h
      rw [← hz]
      show G.2.2.1 ≤ (T.setVm vm₁).heap.size
      rw [hTs, ← hnx, xad_2 hR.1]; omega
  refine hstep t ?_
  have hrest := ht.1
  have e9 : xv G (.inr (some σ.2.1)) = .ref T.heap.size := by show Value.ref (xad G σ.2.1) = _; rw [hnx, hT]
  rw [show (Sum.inr (some σ.2.1) :: r : List xV).map (xv G) = .ref T.heap.size :: r.map (xv G) by rw [List.map_cons, e9]] at hrest
  exact hrest
end YST
end
section
/-! ALL TOGETHER -/
theorem x_le_sem {G : xG} {p : Program} {l : Launch} {e : Env} {R : Room} {s : State} {m : MethodId} {args : Array Value} {below : List Frame} {meth : Method} {c : Code} {nL nx0 sl0 nxF slF : Nat} {Q : State → Prop} {pc : Nat} {ls0 ls : xL} {st : List xV} {σ : xS} (hle : xle ls0 ls)
    (h : xSem G p l e R s m args below meth c nL nx0 sl0 nxF slF Q (pc, ls0, st, σ)) : xSem G p l e R s m args below meth c nL nx0 sl0 nxF slF Q (pc, ls, st, σ) :=
  ⟨h.1, fun H locs L h1 h2 hR hl hL => h.2 H locs L h1 h2 hR hl (xlv_le hL hle)⟩
theorem x_lt8 {a : Nat} (h : a < 8) : xcl[a]? = some (xcl.getD a xc0) := by
  have : a < xcl.length := h
  rw [List.getD_eq_getElem?_getD, List.getElem?_eq_getElem this]
  rfl
/-- the types of the fields of a kind -/
def xtt (a : Nat) : Nat → FieldType := ([xt0, xt1, xt2, xt3, xt4, xt5, xt6, xt7].getD a xt0)
def xCok (a : Nat) : Prop := (∀ w ∈ u_ws (xcl.getD a xc0).1 (xcl.getD a xc0).2.1 (xcl.getD a xc0).2.2, w ∈ xW) ∧ (∀ k, k < (xcl.getD a xc0).2.2 → parseFieldDescriptor ((xcl.getD a xc0).2.1 k).2.2.1 = some (xtt a k)) ∧ (∀ i, i < (xcl.getD a xc0).2.2 → ∀ j, j < (xcl.getD a xc0).2.2 → i ≠ j → ((xcl.getD a xc0).2.1 i).2.1 ≠ ((xcl.getD a xc0).2.1 j).2.1) ∧
  (∀ k, k < (xcl.getD a xc0).2.2 → xftok (xft a k) (xtt a k) = true) ∧ (∀ (G : xG) (k : Nat), k < (xcl.getD a xc0).2.2 → defaultValue (xtt a k) = vp_V ((xdf a).map (xv G)) k) ∧ Cond.instantiable (xcl.getD a xc0).1 (xcl.getD a xc0).2.2 ∈ xW ∧ Cond.initialized (xcl.getD a xc0).1 ∈ xW ∧ (∀ k, k < (xcl.getD a xc0).2.2 → ((xcl.getD a xc0).2.1 k).1 = xon a)
set_option maxRecDepth 50000 in
theorem xC_0 : xCok 0 := by
  refine ⟨?_, by decide +kernel, by decide +kernel, by decide +kernel, ?_, xW_at 67 rfl rfl, xW_at 55 rfl rfl, by decide +kernel⟩
  · intro w hw
    obtain ⟨k, hk, rfl⟩ := List.mem_map.mp hw
    have hk : k < 5 := List.mem_range.mp hk
    rcases Nat.lt_or_ge k 1 with h0 | h0
    · obtain rfl : k = 0 := by omega
      exact xW_at 203 rfl rfl
    rcases Nat.lt_or_ge k 2 with h1 | h1
    · obtain rfl : k = 1 := by omega
      exact xW_at 205 rfl rfl
    rcases Nat.lt_or_ge k 3 with h2 | h2
    · obtain rfl : k = 2 := by omega
      exact xW_at 207 rfl rfl
    rcases Nat.lt_or_ge k 4 with h3 | h3
    · obtain rfl : k = 3 := by omega
      exact xW_at 209 rfl rfl
    obtain rfl : k = 4 := by omega
    exact xW_at 211 rfl rfl
  · intro G k hk
    have hk : k < 5 := hk
    rcases Nat.lt_or_ge k 1 with h0 | h0
    · obtain rfl : k = 0 := by omega
      rfl
    rcases Nat.lt_or_ge k 2 with h1 | h1
    · obtain rfl : k = 1 := by omega
      rfl
    rcases Nat.lt_or_ge k 3 with h2 | h2
    · obtain rfl : k = 2 := by omega
      rfl
    rcases Nat.lt_or_ge k 4 with h3 | h3
    · obtain rfl : k = 3 := by omega
      rfl
    obtain rfl : k = 4 := by omega
    rfl
set_option maxRecDepth 50000 in
theorem xC_1 : xCok 1 := by
  refine ⟨?_, by decide +kernel, by decide +kernel, by decide +kernel, ?_, xW_at 234 rfl rfl, xW_at 63 rfl rfl, by decide +kernel⟩
  · intro w hw
    obtain ⟨k, hk, rfl⟩ := List.mem_map.mp hw
    have hk : k < 2 := List.mem_range.mp hk
    rcases Nat.lt_or_ge k 1 with h0 | h0
    · obtain rfl : k = 0 := by omega
      exact xW_at 265 rfl rfl
    obtain rfl : k = 1 := by omega
    exact xW_at 267 rfl rfl
  · intro G k hk
    have hk : k < 2 := hk
    rcases Nat.lt_or_ge k 1 with h0 | h0
    · obtain rfl : k = 0 := by omega
      rfl
    obtain rfl : k = 1 := by omega
    rfl
set_option maxRecDepth 50000 in
theorem xC_2 : xCok 2 := by
  refine ⟨?_, by decide +kernel, by decide +kernel, by decide +kernel, ?_, xW_at 170 rfl rfl, xW_at 61 rfl rfl, by decide +kernel⟩
  · intro w hw
    obtain ⟨k, hk, rfl⟩ := List.mem_map.mp hw
    have hk : k < 1 := List.mem_range.mp hk
    obtain rfl : k = 0 := by omega
    exact xW_at 178 rfl rfl
  · intro G k hk
    have hk : k < 1 := hk
    obtain rfl : k = 0 := by omega
    rfl
set_option maxRecDepth 50000 in
theorem xC_3 : xCok 3 := by
  refine ⟨?_, by decide +kernel, by decide +kernel, by decide +kernel, ?_, xW_at 84 rfl rfl, xW_at 57 rfl rfl, by decide +kernel⟩
  · intro w hw
    obtain ⟨k, hk, rfl⟩ := List.mem_map.mp hw
    have hk : k < 6 := List.mem_range.mp hk
    rcases Nat.lt_or_ge k 1 with h0 | h0
    · obtain rfl : k = 0 := by omega
      exact xW_at 98 rfl rfl
    rcases Nat.lt_or_ge k 2 with h1 | h1
    · obtain rfl : k = 1 := by omega
      exact xW_at 100 rfl rfl
    rcases Nat.lt_or_ge k 3 with h2 | h2
    · obtain rfl : k = 2 := by omega
      exact xW_at 102 rfl rfl
    rcases Nat.lt_or_ge k 4 with h3 | h3
    · obtain rfl : k = 3 := by omega
      exact xW_at 104 rfl rfl
    rcases Nat.lt_or_ge k 5 with h4 | h4
    · obtain rfl : k = 4 := by omega
      exact xW_at 106 rfl rfl
    obtain rfl : k = 5 := by omega
    exact xW_at 108 rfl rfl
  · intro G k hk
    have hk : k < 6 := hk
    rcases Nat.lt_or_ge k 1 with h0 | h0
    · obtain rfl : k = 0 := by omega
      rfl
    rcases Nat.lt_or_ge k 2 with h1 | h1
    · obtain rfl : k = 1 := by omega
      rfl
    rcases Nat.lt_or_ge k 3 with h2 | h2
    · obtain rfl : k = 2 := by omega
      rfl
    rcases Nat.lt_or_ge k 4 with h3 | h3
    · obtain rfl : k = 3 := by omega
      rfl
    rcases Nat.lt_or_ge k 5 with h4 | h4
    · obtain rfl : k = 4 := by omega
      rfl
    obtain rfl : k = 5 := by omega
    rfl
set_option maxRecDepth 50000 in
theorem xC_4 : xCok 4 := by
  refine ⟨?_, by decide +kernel, by decide +kernel, by decide +kernel, ?_, xW_at 77 rfl rfl, xW_at 56 rfl rfl, by decide +kernel⟩
  · intro w hw
    obtain ⟨k, hk, rfl⟩ := List.mem_map.mp hw
    have hk : k < 5 := List.mem_range.mp hk
    rcases Nat.lt_or_ge k 1 with h0 | h0
    · obtain rfl : k = 0 := by omega
      exact xW_at 186 rfl rfl
    rcases Nat.lt_or_ge k 2 with h1 | h1
    · obtain rfl : k = 1 := by omega
      exact xW_at 188 rfl rfl
    rcases Nat.lt_or_ge k 3 with h2 | h2
    · obtain rfl : k = 2 := by omega
      exact xW_at 190 rfl rfl
    rcases Nat.lt_or_ge k 4 with h3 | h3
    · obtain rfl : k = 3 := by omega
      exact xW_at 192 rfl rfl
    obtain rfl : k = 4 := by omega
    exact xW_at 194 rfl rfl
  · intro G k hk
    have hk : k < 5 := hk
    rcases Nat.lt_or_ge k 1 with h0 | h0
    · obtain rfl : k = 0 := by omega
      rfl
    rcases Nat.lt_or_ge k 2 with h1 | h1
    · obtain rfl : k = 1 := by omega
      rfl
    rcases Nat.lt_or_ge k 3 with h2 | h2
    · obtain rfl : k = 2 := by omega
      rfl
    rcases Nat.lt_or_ge k 4 with h3 | h3
    · obtain rfl : k = 3 := by omega
      rfl
    obtain rfl : k = 4 := by omega
    rfl
set_option maxRecDepth 50000 in
theorem xC_5 : xCok 5 := by
  refine ⟨?_, by decide +kernel, by decide +kernel, by decide +kernel, ?_, xW_at 122 rfl rfl, xW_at 60 rfl rfl, by decide +kernel⟩
  · intro w hw
    obtain ⟨k, hk, rfl⟩ := List.mem_map.mp hw
    have hk : k < 3 := List.mem_range.mp hk
    rcases Nat.lt_or_ge k 1 with h0 | h0
    · obtain rfl : k = 0 := by omega
      exact xW_at 135 rfl rfl
    rcases Nat.lt_or_ge k 2 with h1 | h1
    · obtain rfl : k = 1 := by omega
      exact xW_at 137 rfl rfl
    obtain rfl : k = 2 := by omega
    exact xW_at 139 rfl rfl
  · intro G k hk
    have hk : k < 3 := hk
    rcases Nat.lt_or_ge k 1 with h0 | h0
    · obtain rfl : k = 0 := by omega
      rfl
    rcases Nat.lt_or_ge k 2 with h1 | h1
    · obtain rfl : k = 1 := by omega
      rfl
    obtain rfl : k = 2 := by omega
    rfl
set_option maxRecDepth 50000 in
theorem xC_6 : xCok 6 := by
  refine ⟨?_, by decide +kernel, by decide +kernel, by decide +kernel, ?_, xW_at 114 rfl rfl, xW_at 59 rfl rfl, by decide +kernel⟩
  · intro w hw
    obtain ⟨k, hk, rfl⟩ := List.mem_map.mp hw
    have hk : k < 9 := List.mem_range.mp hk
    rcases Nat.lt_or_ge k 1 with h0 | h0
    · obtain rfl : k = 0 := by omega
      exact xW_at 151 rfl rfl
    rcases Nat.lt_or_ge k 2 with h1 | h1
    · obtain rfl : k = 1 := by omega
      exact xW_at 153 rfl rfl
    rcases Nat.lt_or_ge k 3 with h2 | h2
    · obtain rfl : k = 2 := by omega
      exact xW_at 155 rfl rfl
    rcases Nat.lt_or_ge k 4 with h3 | h3
    · obtain rfl : k = 3 := by omega
      exact xW_at 157 rfl rfl
    rcases Nat.lt_or_ge k 5 with h4 | h4
    · obtain rfl : k = 4 := by omega
      exact xW_at 159 rfl rfl
    rcases Nat.lt_or_ge k 6 with h5 | h5
    · obtain rfl : k = 5 := by omega
      exact xW_at 161 rfl rfl
    rcases Nat.lt_or_ge k 7 with h6 | h6
    · obtain rfl : k = 6 := by omega
      exact xW_at 163 rfl rfl
    rcases Nat.lt_or_ge k 8 with h7 | h7
    · obtain rfl : k = 7 := by omega
      exact xW_at 165 rfl rfl
    obtain rfl : k = 8 := by omega
    exact xW_at 167 rfl rfl
  · intro G k hk
    have hk : k < 9 := hk
    rcases Nat.lt_or_ge k 1 with h0 | h0
    · obtain rfl : k = 0 := by omega
      rfl
    rcases Nat.lt_or_ge k 2 with h1 | h1
    · obtain rfl : k = 1 := by omega
      rfl
    rcases Nat.lt_or_ge k 3 with h2 | h2
    · obtain rfl : k = 2 := by omega
      rfl
    rcases Nat.lt_or_ge k 4 with h3 | h3
    · obtain rfl : k = 3 := by omega
      rfl
    rcases Nat.lt_or_ge k 5 with h4 | h4
    · obtain rfl : k = 4 := by omega
      rfl
    rcases Nat.lt_or_ge k 6 with h5 | h5
    · obtain rfl : k = 5 := by omega
      rfl
    rcases Nat.lt_or_ge k 7 with h6 | h6
    · obtain rfl : k = 6 := by omega
      rfl
    rcases Nat.lt_or_ge k 8 with h7 | h7
    · obtain rfl : k = 7 := by omega
      rfl
    obtain rfl : k = 8 := by omega
    rfl
set_option maxRecDepth 50000 in
theorem xC_7 : xCok 7 := by
  refine ⟨?_, by decide +kernel, by decide +kernel, by decide +kernel, ?_, xW_at 595 rfl rfl, xW_at 62 rfl rfl, by decide +kernel⟩
  · intro w hw
    obtain ⟨k, hk, rfl⟩ := List.mem_map.mp hw
    have hk : k < 20 := List.mem_range.mp hk
    rcases Nat.lt_or_ge k 1 with h0 | h0
    · obtain rfl : k = 0 := by omega
      exact xW_at 620 rfl rfl
    rcases Nat.lt_or_ge k 2 with h1 | h1
    · obtain rfl : k = 1 := by omega
      exact xW_at 622 rfl rfl
    rcases Nat.lt_or_ge k 3 with h2 | h2
    · obtain rfl : k = 2 := by omega
      exact xW_at 624 rfl rfl
    rcases Nat.lt_or_ge k 4 with h3 | h3
    · obtain rfl : k = 3 := by omega
      exact xW_at 626 rfl rfl
    rcases Nat.lt_or_ge k 5 with h4 | h4
    · obtain rfl : k = 4 := by omega
      exact xW_at 628 rfl rfl
    rcases Nat.lt_or_ge k 6 with h5 | h5
    · obtain rfl : k = 5 := by omega
      exact xW_at 630 rfl rfl
    rcases Nat.lt_or_ge k 7 with h6 | h6
    · obtain rfl : k = 6 := by omega
      exact xW_at 632 rfl rfl
    rcases Nat.lt_or_ge k 8 with h7 | h7
    · obtain rfl : k = 7 := by omega
      exact xW_at 634 rfl rfl
    rcases Nat.lt_or_ge k 9 with h8 | h8
    · obtain rfl : k = 8 := by omega
      exact xW_at 636 rfl rfl
    rcases Nat.lt_or_ge k 10 with h9 | h9
    · obtain rfl : k = 9 := by omega
      exact xW_at 638 rfl rfl
    rcases Nat.lt_or_ge k 11 with h10 | h10
    · obtain rfl : k = 10 := by omega
      exact xW_at 640 rfl rfl
    rcases Nat.lt_or_ge k 12 with h11 | h11
    · obtain rfl : k = 11 := by omega
      exact xW_at 642 rfl rfl
    rcases Nat.lt_or_ge k 13 with h12 | h12
    · obtain rfl : k = 12 := by omega
      exact xW_at 644 rfl rfl
    rcases Nat.lt_or_ge k 14 with h13 | h13
    · obtain rfl : k = 13 := by omega
      exact xW_at 646 rfl rfl
    rcases Nat.lt_or_ge k 15 with h14 | h14
    · obtain rfl : k = 14 := by omega
      exact xW_at 648 rfl rfl
    rcases Nat.lt_or_ge k 16 with h15 | h15
    · obtain rfl : k = 15 := by omega
      exact xW_at 650 rfl rfl
    rcases Nat.lt_or_ge k 17 with h16 | h16
    · obtain rfl : k = 16 := by omega
      exact xW_at 652 rfl rfl
    rcases Nat.lt_or_ge k 18 with h17 | h17
    · obtain rfl : k = 17 := by omega
      exact xW_at 654 rfl rfl
    rcases Nat.lt_or_ge k 19 with h18 | h18
    · obtain rfl : k = 18 := by omega
      exact xW_at 656 rfl rfl
    obtain rfl : k = 19 := by omega
    exact xW_at 658 rfl rfl
  · intro G k hk
    have hk : k < 20 := hk
    rcases Nat.lt_or_ge k 1 with h0 | h0
    · obtain rfl : k = 0 := by omega
      rfl
    rcases Nat.lt_or_ge k 2 with h1 | h1
    · obtain rfl : k = 1 := by omega
      rfl
    rcases Nat.lt_or_ge k 3 with h2 | h2
    · obtain rfl : k = 2 := by omega
      rfl
    rcases Nat.lt_or_ge k 4 with h3 | h3
    · obtain rfl : k = 3 := by omega
      rfl
    rcases Nat.lt_or_ge k 5 with h4 | h4
    · obtain rfl : k = 4 := by omega
      rfl
    rcases Nat.lt_or_ge k 6 with h5 | h5
    · obtain rfl : k = 5 := by omega
      rfl
    rcases Nat.lt_or_ge k 7 with h6 | h6
    · obtain rfl : k = 6 := by omega
      rfl
    rcases Nat.lt_or_ge k 8 with h7 | h7
    · obtain rfl : k = 7 := by omega
      rfl
    rcases Nat.lt_or_ge k 9 with h8 | h8
    · obtain rfl : k = 8 := by omega
      rfl
    rcases Nat.lt_or_ge k 10 with h9 | h9
    · obtain rfl : k = 9 := by omega
      rfl
    rcases Nat.lt_or_ge k 11 with h10 | h10
    · obtain rfl : k = 10 := by omega
      rfl
    rcases Nat.lt_or_ge k 12 with h11 | h11
    · obtain rfl : k = 11 := by omega
      rfl
    rcases Nat.lt_or_ge k 13 with h12 | h12
    · obtain rfl : k = 12 := by omega
      rfl
    rcases Nat.lt_or_ge k 14 with h13 | h13
    · obtain rfl : k = 13 := by omega
      rfl
    rcases Nat.lt_or_ge k 15 with h14 | h14
    · obtain rfl : k = 14 := by omega
      rfl
    rcases Nat.lt_or_ge k 16 with h15 | h15
    · obtain rfl : k = 15 := by omega
      rfl
    rcases Nat.lt_or_ge k 17 with h16 | h16
    · obtain rfl : k = 16 := by omega
      rfl
    rcases Nat.lt_or_ge k 18 with h17 | h17
    · obtain rfl : k = 17 := by omega
      rfl
    rcases Nat.lt_or_ge k 19 with h18 | h18
    · obtain rfl : k = 18 := by omega
      rfl
    obtain rfl : k = 19 := by omega
    rfl
theorem xC_all {a : Nat} (h : a < 8) : xCok a := by
  rcases (show a = 0 ∨ a = 1 ∨ a = 2 ∨ a = 3 ∨ a = 4 ∨ a = 5 ∨ a = 6 ∨ a = 7 by omega) with rfl | rfl | rfl | rfl | rfl | rfl | rfl | rfl
  · exact xC_0
  · exact xC_1
  · exact xC_2
  · exact xC_3
  · exact xC_4
  · exact xC_5
  · exact xC_6
  · exact xC_7
theorem x_getD {y : Nat} (h : y < 143) : xMo y := xMall_lt xM_all y h
theorem xN_m {args : Array Value} {s : State} (hN : xN s) {w own idx a : Nat} (h : xNm[w]? = some (own, idx, a)) : (Cond.methodLinkNest (xon own) idx (xmn a) "RenameMerge").before args s = true := va_Nw.use rfl (hN.1 _ (List.mem_of_getElem? h))
theorem xN_f {args : Array Value} {s : State} (hN : xN s) {w own idx : Nat} (h : xNf[w]? = some (own, idx)) : (Cond.fieldLinkNest (xon own) idx xNLc xNLn xNLd "RenameMerge").before args s = true := va_Nw.use rfl (hN.2.1 _ (List.mem_of_getElem? h))
/-- what is known of a callee -/
theorem x_callee {y : Nat} (h : y < 143) : xgood y ∧ (xmk y = 0 → Cond.static (xmn y) ∈ xW ∧ ∀ sig, parseMethodDescriptor (xmn y).desc = some sig → xma y = sig.parameters.length) ∧
    (xmk y = 1 → Cond.instanceMethod (xmn y) ∈ xW ∧ Cond.selects (xmn y).cls (xmn y) (xmn y) ∈ xW ∧ (∀ r, xcl[xmc y]? = some r → r.1 = (xmn y).cls) ∧ ∀ sig, parseMethodDescriptor (xmn y).desc = some sig → xma y = sig.parameters.length + 1) ∧
    (xmk y = 2 → Cond.instanceMethod (xmn y) ∈ xW ∧ (xmn y).name = "<init>" ∧ xmr y = none ∧ ∀ sig, parseMethodDescriptor (xmn y).desc = some sig → xma y = sig.parameters.length + 1) := by
  obtain ⟨wc, wi, wm, ws, h1, h2, h3, h4, h5, h6, h7⟩ := x_getD h
  have hnum := List.all_eq_true.mp xnums_ok y (List.mem_range.mpr h)
  unfold xnums at hnum
  simp only [Bool.and_eq_true, decide_eq_true_eq] at hnum
  refine ⟨⟨xW_at _ h1 rfl, xW_at _ h2 rfl, h3, hnum.1⟩, fun hk => ?_, fun hk => ?_, fun hk => ?_⟩
  · rw [hk] at h6 h7
    have h6' : (parseMethodDescriptor (xmn y).desc).map (fun q => q.parameters.length + 0) = some (xma y) := h6
    have h7' : lw_tbl[wm]? = some (.static (xmn y)) := h7
    refine ⟨xW_at _ h7' rfl, fun sig hs => ?_⟩
    rw [hs] at h6'
    exact (Option.some.inj h6').symm
  · rw [hk] at h6 h7
    have h6' : (parseMethodDescriptor (xmn y).desc).map (fun q => q.parameters.length + 1) = some (xma y) := h6
    have h7' : lw_tbl[wm]? = some (.instanceMethod (xmn y)) ∧ lw_tbl[ws]? = some (.selects (xmn y).cls (xmn y) (xmn y)) ∧ (xcl[xmc y]?).map (fun r => r.1) = some (xmn y).cls := h7
    obtain ⟨g1, g2, g3⟩ := h7'
    refine ⟨xW_at _ g1 rfl, xW_at _ g2 rfl, fun r hr => ?_, fun sig hs => ?_⟩
    · rw [hr] at g3
      exact Option.some.inj g3
    · rw [hs] at h6'
      exact (Option.some.inj h6').symm
  · rw [hk] at h6 h7
    have h6' : (parseMethodDescriptor (xmn y).desc).map (fun q => q.parameters.length + 1) = some (xma y) := h6
    have h7' : lw_tbl[wm]? = some (.instanceMethod (xmn y)) ∧ (xmn y).name = "<init>" ∧ xmr y = none := h7
    obtain ⟨g1, g2, g3⟩ := h7'
    refine ⟨xW_at _ g1 rfl, g2, g3, fun sig hs => ?_⟩
    rw [hs] at h6'
    exact (Option.some.inj h6').symm
end
section
section XALL
variable {G : xG} {p : Program} {l : Launch} {e : Env} {R : Room} {s : State} {m : MethodId} {args : Array Value} {below : List Frame} {meth : Method} {c : Code} {nL nx0 sl0 nxF slF d : Nat} {Q : State → Prop}
variable {E : Nat → List xV → xS → Option xV → xS → Prop} {K : Option xV → xS → Prop} {cc : ByteArray} {own : Nat} {rt : Option FieldType} {tb : List xI}
/-- what the method's end needs -/
def xRet (G : xG) (p : Program) (l : Launch) (e : Env) (R : Room) (s : State) (m : MethodId) (args : Array Value) (below : List Frame) (meth : Method) (c : Code) (cc : ByteArray) (rt : Option FieldType) (nx0 sl0 nxF slF : Nat) (Q : State → Prop) (K : Option xV → xS → Prop) : Prop :=
  (∀ v σ, K v σ → σ.2.1 ≤ nxF ∧ σ.2.2 ≤ slF) ∧
  (∀ (pc : Nat) (H : Heap) (locs : List Loc) (L : Array Slot) (σ : xS) (x : Int32), K (some (.inl x)) σ → nx0 ≤ σ.2.1 → sl0 ≤ σ.2.2 → xR G s σ H → (∀ q ∈ locs, G.2.2.1 ≤ q.base) → decode cc pc = .ok (.ireturn, 1) → (rt = some .int ∨ (rt = some .boolean ∧ (x = 0 ∨ x = 1))) → W p l e R s m args below meth c H locs (σ.2.1 - nx0) (σ.2.2 - sl0) Q (F0 m pc L [.int x])) ∧
  (∀ (pc : Nat) (H : Heap) (locs : List Loc) (L : Array Slot) (σ : xS) (q : Option Nat), K (some (.inr q)) σ → nx0 ≤ σ.2.1 → sl0 ≤ σ.2.2 → xR G s σ H → (∀ q ∈ locs, G.2.2.1 ≤ q.base) → decode cc pc = .ok (.areturn, 1) → (∃ t, rt = some t ∧ ((∃ n, t = .object n) ∨ ∃ u, t = .array u)) → W p l e R s m args below meth c H locs (σ.2.1 - nx0) (σ.2.2 - sl0) Q (F0 m pc L [xv G (.inr q)])) ∧
  (∀ (pc : Nat) (H : Heap) (locs : List Loc) (L : Array Slot) (σ : xS), K none σ → nx0 ≤ σ.2.1 → sl0 ≤ σ.2.2 → xR G s σ H → (∀ q ∈ locs, G.2.2.1 ≤ q.base) → decode cc pc = .ok (.return_, 1) → rt = none → W p l e R s m args below meth c H locs (σ.2.1 - nx0) (σ.2.2 - sl0) Q (F0 m pc L []))
set_option maxRecDepth 50000 in
theorem x_all (C : xCx G p l R s m args c cc nL d nx0 sl0 nxF slF (xon own) E) {ini : Bool} (hini : ini = true → meth.name = "<init>") (hv : tb.all (xvl own rt cc nL ini) = true) (hret : xRet G p l e R s m args below meth c cc rt nx0 sl0 nxF slF Q K) :
    ∀ (t : xT) (o : xO), xstep E tb t o → xpost (xSem G p l e R s m args below meth c nL nx0 sl0 nxF slF Q) K o → xSem G p l e R s m args below meth c nL nx0 sl0 nxF slF Q t := by
  rintro ⟨pc, ls, st, σ⟩ o ⟨ls0, ⟨pc', i, len, a, b, w⟩, hle, hmem, hpc, hst⟩ hp
  have hpc : pc' = pc := hpc
  subst hpc
  refine x_le_sem hle ?_
  have hrow := List.all_eq_true.mp hv _ hmem
  clear hle
  unfold xvl at hrow
  simp only [Bool.and_eq_true, decide_eq_true_eq] at hrow
  obtain ⟨hd, hrow⟩ := hrow
  have hst : xst E i len a b pc' ls0 st σ o := hst
  have hx := C.1
  have hb := C.2.1
  have hown := C.2.2.2.1
  have hts := C.2.2.2.2.1
  have hK := C.2.2.2.2.2.1
  have hN := C.2.2.2.2.2.2.1
  have hRc := C.2.2.2.2.2.2.2.2.2.1
  have hRs := C.2.2.2.2.2.2.2.2.2.2.1
  cases i
  case iadd =>
    unfold xvi at hrow; simp only [Bool.and_eq_true, decide_eq_true_eq] at hrow
    subst hrow
    exact sn_iadd hx hb hd hst hp
  case isub =>
    unfold xvi at hrow; simp only [Bool.and_eq_true, decide_eq_true_eq] at hrow
    subst hrow
    exact sn_isub hx hb hd hst hp
  case imul =>
    unfold xvi at hrow; simp only [Bool.and_eq_true, decide_eq_true_eq] at hrow
    subst hrow
    exact sn_imul hx hb hd hst hp
  case iand =>
    unfold xvi at hrow; simp only [Bool.and_eq_true, decide_eq_true_eq] at hrow
    subst hrow
    exact sn_iand hx hb hd hst hp
  case ior =>
    unfold xvi at hrow; simp only [Bool.and_eq_true, decide_eq_true_eq] at hrow
    subst hrow
    exact sn_ior hx hb hd hst hp
  case idiv =>
    unfold xvi at hrow; simp only [Bool.and_eq_true, decide_eq_true_eq] at hrow
    subst hrow
    exact sn_idiv hx hb hd hst hp
  case irem =>
    unfold xvi at hrow; simp only [Bool.and_eq_true, decide_eq_true_eq] at hrow
    subst hrow
    exact sn_irem hx hb hd hst hp
  case ishl =>
    unfold xvi at hrow; simp only [Bool.and_eq_true, decide_eq_true_eq] at hrow
    subst hrow
    exact sn_ishl hx hb hd hst hp
  case ishr =>
    unfold xvi at hrow; simp only [Bool.and_eq_true, decide_eq_true_eq] at hrow
    subst hrow
    exact sn_ishr hx hb hd hst hp
  case iushr =>
    unfold xvi at hrow; simp only [Bool.and_eq_true, decide_eq_true_eq] at hrow
    subst hrow
    exact sn_iushr hx hb hd hst hp
  case i2b =>
    unfold xvi at hrow; simp only [Bool.and_eq_true, decide_eq_true_eq] at hrow
    subst hrow
    exact sn_i2b hx hb hd hst hp
  case dup =>
    unfold xvi at hrow; simp only [Bool.and_eq_true, decide_eq_true_eq] at hrow
    subst hrow
    exact sn_dup hx hb hd hst hp
  case dup2 =>
    unfold xvi at hrow; simp only [Bool.and_eq_true, decide_eq_true_eq] at hrow
    subst hrow
    exact sn_dup2 hx hb hd hst hp
  case aconst_null =>
    unfold xvi at hrow; simp only [Bool.and_eq_true, decide_eq_true_eq] at hrow
    subst hrow
    exact sn_null hx hb hd hst hp
  case iconst n =>
    unfold xvi at hrow; simp only [Bool.and_eq_true, decide_eq_true_eq] at hrow
    obtain ⟨rfl, hv⟩ := hrow
    exact sn_iconst hx hb hd hv hst hp
  case bipush n =>
    unfold xvi at hrow; simp only [Bool.and_eq_true, decide_eq_true_eq] at hrow
    obtain ⟨rfl, hv⟩ := hrow
    exact sn_bipush hx hb hd hv hst hp
  case sipush n =>
    unfold xvi at hrow; simp only [Bool.and_eq_true, decide_eq_true_eq] at hrow
    obtain ⟨rfl, hv⟩ := hrow
    exact sn_sipush hx hb hd hv hst hp
  case iload_n n =>
    unfold xvi at hrow; simp only [Bool.and_eq_true, decide_eq_true_eq] at hrow
    subst hrow
    exact sn_iload_n hx hb hd hst hp
  case aload_n n =>
    unfold xvi at hrow; simp only [Bool.and_eq_true, decide_eq_true_eq] at hrow
    subst hrow
    exact sn_aload_n hx hb hd hst hp
  case iload n =>
    unfold xvi at hrow; simp only [Bool.and_eq_true, decide_eq_true_eq] at hrow
    subst hrow
    exact sn_iload hx hb hd hst hp
  case aload n =>
    unfold xvi at hrow; simp only [Bool.and_eq_true, decide_eq_true_eq] at hrow
    subst hrow
    exact sn_aload hx hb hd hst hp
  case istore_n n =>
    unfold xvi at hrow; simp only [Bool.and_eq_true, decide_eq_true_eq] at hrow
    obtain ⟨rfl, hk⟩ := hrow
    exact sn_istore_n hx hb hd hk hst hp
  case astore_n n =>
    unfold xvi at hrow; simp only [Bool.and_eq_true, decide_eq_true_eq] at hrow
    obtain ⟨rfl, hk⟩ := hrow
    exact sn_astore_n hx hb hd hk hst hp
  case istore n =>
    unfold xvi at hrow; simp only [Bool.and_eq_true, decide_eq_true_eq] at hrow
    obtain ⟨rfl, hk⟩ := hrow
    exact sn_istore hx hb hd hk hst hp
  case astore n =>
    unfold xvi at hrow; simp only [Bool.and_eq_true, decide_eq_true_eq] at hrow
    obtain ⟨rfl, hk⟩ := hrow
    exact sn_astore hx hb hd hk hst hp
  case iinc k n =>
    unfold xvi at hrow; simp only [Bool.and_eq_true, decide_eq_true_eq] at hrow
    obtain ⟨⟨rfl, hk⟩, hv⟩ := hrow
    exact sn_iinc hx hb hd hk hv hst hp
  case ifCond k off =>
    unfold xvi at hrow; simp only [Bool.and_eq_true, decide_eq_true_eq] at hrow
    obtain ⟨rfl, ht⟩ := hrow
    exact sn_ifCond hx hb hd ht hst hp
  case if_icmp k off =>
    unfold xvi at hrow; simp only [Bool.and_eq_true, decide_eq_true_eq] at hrow
    obtain ⟨rfl, ht⟩ := hrow
    exact sn_if_icmp hx hb hd ht hst hp
  case ifnull off =>
    unfold xvi at hrow; simp only [Bool.and_eq_true, decide_eq_true_eq] at hrow
    obtain ⟨rfl, ht⟩ := hrow
    exact sn_ifnull hx hb hd ht hst hp
  case ifnonnull off =>
    unfold xvi at hrow; simp only [Bool.and_eq_true, decide_eq_true_eq] at hrow
    obtain ⟨rfl, ht⟩ := hrow
    exact sn_ifnonnull hx hb hd ht hst hp
  case goto off =>
    unfold xvi at hrow; simp only [Bool.and_eq_true, decide_eq_true_eq] at hrow
    obtain ⟨rfl, ht⟩ := hrow
    exact sn_goto hx hb hd ht hst hp
  case tableswitch f lo hi offs =>
    exact sn_tableswitch hx hb hd hst hp
  case iaload =>
    unfold xvi at hrow; simp only [Bool.and_eq_true, decide_eq_true_eq] at hrow
    subst hrow
    exact sn_iaload hx hb hK hd hst hp
  case aaload =>
    unfold xvi at hrow; simp only [Bool.and_eq_true, decide_eq_true_eq] at hrow
    subst hrow
    exact sn_aaload hx hb hK hd hst hp
  case iastore =>
    unfold xvi at hrow; simp only [Bool.and_eq_true, decide_eq_true_eq] at hrow
    subst hrow
    exact sn_iastore hx hb hK hd hst hp
  case arraylength =>
    unfold xvi at hrow; simp only [Bool.and_eq_true, decide_eq_true_eq] at hrow
    subst hrow
    exact sn_arraylength hx hb hK hd hst hp
  case baload =>
    unfold xvi at hrow; simp only [Bool.and_eq_true, decide_eq_true_eq] at hrow
    obtain ⟨rfl, ha⟩ := hrow
    exact sn_baload hx hb hK hd ha hst hp
  case bastore =>
    unfold xvi at hrow; simp only [Bool.and_eq_true, decide_eq_true_eq] at hrow
    obtain ⟨rfl, ha⟩ := hrow
    exact sn_bastore hx hb hK hd ha hst hp
  case aastore =>
    unfold xvi at hrow; simp only [Bool.and_eq_true, decide_eq_true_eq] at hrow
    obtain ⟨rfl, ha⟩ := hrow
    exact sn_aastore hx hb hK hd ha hst hp
  case getfield idx =>
    unfold xvi at hrow; simp only [Bool.and_eq_true, decide_eq_true_eq] at hrow
    obtain ⟨rfl, hf⟩ := hrow
    unfold xvf at hf; simp only [Bool.and_eq_true, decide_eq_true_eq] at hf
    obtain ⟨⟨ha, hbn⟩, hw⟩ := hf
    have CC := xC_all ha
    exact sn_getfield hx hb hK hts CC.1 hown (x_lt8 ha) hbn (hts _ (xlw_in hw)) hd hst hp
  case putfield idx =>
    unfold xvi at hrow; simp only [Bool.and_eq_true, decide_eq_true_eq] at hrow
    obtain ⟨⟨rfl, hf⟩, hfin⟩ := hrow
    unfold xvf at hf; simp only [Bool.and_eq_true, decide_eq_true_eq] at hf
    obtain ⟨⟨ha, hbn⟩, hw⟩ := hf
    have CC := xC_all ha
    refine sn_putfield hx hb hK hts CC.1 hown (x_lt8 ha) hbn (xtt a) CC.2.1 CC.2.2.1 (CC.2.2.2.1 b hbn) ?_ (hts _ (xlw_in hw)) hd hst hp
    simp only [Bool.or_eq_true, Bool.and_eq_true, decide_eq_true_eq, Bool.not_eq_true'] at hfin
    rcases hfin with hfin | ⟨h1, h2⟩
    · exact Or.inl hfin
    · cases hfl : ((xcl.getD a xc0).2.1 b).2.2.2
      · exact Or.inl rfl
      · exact Or.inr ⟨rfl, hini h1, by rw [CC.2.2.2.2.2.2.2 b hbn, h2]⟩
  case new idx =>
    unfold xvi at hrow; simp only [Bool.and_eq_true, decide_eq_true_eq] at hrow
    obtain ⟨⟨⟨rfl, ha⟩, rfl⟩, hw⟩ := hrow
    have CC := xC_all ha
    unfold xvk at hw; simp only [decide_eq_true_eq] at hw
    exact sn_new hx hb hK hts CC.1 hown (x_lt8 ha) (xtt a) CC.2.1 CC.2.2.2.2.1 hRc hRs (hts _ (xlw_in hw)) (hts _ CC.2.2.2.2.2.1) (hts _ CC.2.2.2.2.2.2.1) hd hst hp
  case newarray q =>
    unfold xvi at hrow; simp only [Bool.and_eq_true, decide_eq_true_eq] at hrow
    obtain ⟨⟨rfl, hat⟩, ha⟩ := hrow
    refine sn_newarray hx hb hK (hts _ ?_) hat hRc hRs hd hst hp
    rw [hat]
    rcases (show a = 0 ∨ a = 1 ∨ a = 2 by omega) with rfl | rfl | rfl
    · exact xW_at 111 rfl rfl
    · exact xW_at 661 rfl rfl
    · exact xW_at 112 rfl rfl
  case anewarray idx =>
    unfold xvi at hrow; simp only [Bool.and_eq_true, decide_eq_true_eq] at hrow
    obtain ⟨⟨rfl, ha⟩, hw⟩ := hrow
    unfold xvk at hw; simp only [decide_eq_true_eq] at hw
    have hw := hts _ (xlw_in hw)
    rcases (show a = 0 ∨ a = 1 by omega) with rfl | rfl
    · exact sn_anewarray hx hb hK hown rfl hw (va_AO.use hN.2.2.2.1) hRc hRs hd hst hp
    · exact sn_anewarray hx hb hK hown rfl hw (va_AO.use hN.2.2.2.2) hRc hRs hd hst hp
  case multianewarray idx n =>
    unfold xvi at hrow; simp only [Bool.and_eq_true, decide_eq_true_eq] at hrow
    obtain ⟨⟨rfl, rfl⟩, hw⟩ := hrow
    unfold xvk at hw; simp only [decide_eq_true_eq] at hw
    exact sn_multi C (hts _ (xlw_in hw)) hd hst hp
  case getstatic idx =>
    unfold xvi at hrow; simp only [Bool.and_eq_true, decide_eq_true_eq] at hrow
    obtain ⟨rfl, hw⟩ := hrow
    exact sn_getstatic hx hb hown (Or.inr ⟨_, xN_f hN hw⟩) hd hst hp
  case checkcast idx =>
    unfold xvi at hrow; simp only [Bool.and_eq_true, decide_eq_true_eq] at hrow
    obtain ⟨rfl, hw⟩ := hrow
    unfold xvk at hw; simp only [decide_eq_true_eq] at hw
    exact sn_checkcast hx hb hK hown (hts _ (xlw_in hw)) hd hst hp
  case invokespecial idx =>
    unfold xvi at hrow; simp only [Bool.and_eq_true, decide_eq_true_eq] at hrow
    obtain ⟨rfl, hw⟩ := hrow
    by_cases hb6 : b = 6
    · subst hb6
      rw [if_pos rfl] at hw
      unfold xvk at hw; simp only [decide_eq_true_eq] at hw
      exact sn_objInit C (hts _ (xlw_in hw)) (hts _ (xW_at 72 rfl rfl)) (hts _ (xW_at 73 rfl rfl)) hd hst hp
    rw [if_neg hb6] at hw
    simp only [Bool.and_eq_true, decide_eq_true_eq] at hw
    obtain ⟨hw, hk⟩ := hw
    unfold xvc at hw
    by_cases hb2 : b = 2 * 0
    · rw [if_pos hb2] at hw
      simp only [Bool.and_eq_true, decide_eq_true_eq] at hw
      obtain ⟨ha, hw⟩ := hw
      have CC := x_callee ha
      obtain ⟨g1, g2, g3, g4⟩ := CC.2.2.2 hk
      subst hb2
      exact sn_callI C CC.1 g4 g1 g2 g3 (hts _ (xlw_in hw)) hd hst hp
    · rw [if_neg hb2] at hw
      simp only [Bool.and_eq_true, decide_eq_true_eq] at hw
      obtain ⟨⟨hb3, ha⟩, hw⟩ := hw
      have CC := x_callee ha
      obtain ⟨g1, g2, g3, g4⟩ := CC.2.2.2 hk
      subst hb3
      exact sn_callIN C CC.1 g4 g1 g2 g3 (xN_m hN hw) hd hst hp
  case invokevirtual idx =>
    unfold xvi at hrow; simp only [Bool.and_eq_true, decide_eq_true_eq] at hrow
    obtain ⟨rfl, hw⟩ := hrow
    by_cases hb6 : b = 7
    · subst hb6
      rw [if_pos rfl] at hw
      unfold xvk at hw; simp only [decide_eq_true_eq] at hw
      exact sn_clone C (hts _ (xlw_in hw)) (hts _ (xW_at 242 rfl rfl)) (hts _ (xW_at 243 rfl rfl)) (hts _ (xW_at 244 rfl rfl)) (hts _ (xW_at 245 rfl rfl)) hN.2.2.1 hd hst hp
    rw [if_neg hb6] at hw
    simp only [Bool.and_eq_true, decide_eq_true_eq] at hw
    obtain ⟨hw, hk⟩ := hw
    unfold xvc at hw
    by_cases hb2 : b = 2 * 1
    · rw [if_pos hb2] at hw
      simp only [Bool.and_eq_true, decide_eq_true_eq] at hw
      obtain ⟨ha, hw⟩ := hw
      have CC := x_callee ha
      obtain ⟨g1, g2, g3, g4⟩ := CC.2.2.1 hk
      subst hb2
      exact sn_callV C CC.1 g4 g3 g1 g2 (hts _ (xlw_in hw)) hd hst hp
    · rw [if_neg hb2] at hw
      simp only [Bool.and_eq_true, decide_eq_true_eq] at hw
      obtain ⟨⟨hb3, ha⟩, hw⟩ := hw
      have CC := x_callee ha
      obtain ⟨g1, g2, g3, g4⟩ := CC.2.2.1 hk
      subst hb3
      exact sn_callVN C CC.1 g4 g3 g1 g2 (xN_m hN hw) hd hst hp
  case invokestatic idx =>
    unfold xvi at hrow; simp only [Bool.and_eq_true, decide_eq_true_eq] at hrow
    obtain ⟨rfl, hw⟩ := hrow
    by_cases hb6 : b = 8
    · subst hb6
      rw [if_pos rfl] at hw
      unfold xvk at hw; simp only [decide_eq_true_eq] at hw
      exact sn_arraycopy C (hts _ (xlw_in hw)) (hts _ (xW_at 253 rfl rfl)) (hts _ (xW_at 252 rfl rfl)) (hts _ (xW_at 65 rfl rfl)) hd hst hp
    rw [if_neg hb6] at hw
    by_cases hb7 : b = 9
    · subst hb7
      rw [if_pos rfl] at hw
      unfold xvk at hw; simp only [decide_eq_true_eq] at hw
      exact sn_max C (hts _ (xlw_in hw)) (hts _ (xW_at 295 rfl rfl)) (hts _ (xW_at 64 rfl rfl)) (hts _ (xW_at 296 rfl rfl)) hd hst hp
    rw [if_neg hb7] at hw
    by_cases hb8 : b = 10
    · subst hb8
      rw [if_pos rfl] at hw
      unfold xvk at hw; simp only [decide_eq_true_eq] at hw
      exact sn_min C (hts _ (xlw_in hw)) (hts _ (xW_at 249 rfl rfl)) (hts _ (xW_at 64 rfl rfl)) (hts _ (xW_at 250 rfl rfl)) hd hst hp
    rw [if_neg hb8] at hw
    simp only [Bool.and_eq_true, decide_eq_true_eq] at hw
    obtain ⟨hw, hk⟩ := hw
    unfold xvc at hw
    by_cases hb2 : b = 2 * 2
    · rw [if_pos hb2] at hw
      simp only [Bool.and_eq_true, decide_eq_true_eq] at hw
      obtain ⟨ha, hw⟩ := hw
      have CC := x_callee ha
      obtain ⟨g1, g2⟩ := CC.2.1 hk
      subst hb2
      exact sn_callS C CC.1 g2 g1 (hts _ (xlw_in hw)) hd hst hp
    · rw [if_neg hb2] at hw
      simp only [Bool.and_eq_true, decide_eq_true_eq] at hw
      obtain ⟨⟨hb3, ha⟩, hw⟩ := hw
      have CC := x_callee ha
      obtain ⟨g1, g2⟩ := CC.2.1 hk
      subst hb3
      exact sn_callSN C CC.1 g2 g1 (xN_m hN hw) hd hst hp
  case ireturn =>
    unfold xvi at hrow; simp only [Bool.and_eq_true, decide_eq_true_eq] at hrow
    obtain ⟨rfl, hr⟩ := hrow
    match st, hst with
    | [.inl x], hst =>
      obtain ⟨h1, rfl⟩ := hst
      have hk : K (some (.inl x)) σ := hp
      refine ⟨hret.1 _ _ hk, fun H locs L n1 n2 hR hl hL => hret.2.1 pc' H locs L σ x hk n1 n2 hR hl hd ?_⟩
      by_cases ha : a = 1
      · rw [if_pos ha] at hr
        simp only [decide_eq_true_eq] at hr
        exact Or.inr ⟨hr, h1 ha⟩
      · rw [if_neg ha] at hr
        simp only [decide_eq_true_eq] at hr
        exact Or.inl hr
  case areturn =>
    unfold xvi at hrow; simp only [Bool.and_eq_true, decide_eq_true_eq] at hrow
    obtain ⟨rfl, hr⟩ := hrow
    match st, hst with
    | [.inr q], hst =>
      have hst : o = .inr (some (.inr q), σ) := hst
      subst hst
      have hk : K (some (.inr q)) σ := hp
      refine ⟨hret.1 _ _ hk, fun H locs L n1 n2 hR hl hL => hret.2.2.1 pc' H locs L σ q hk n1 n2 hR hl hd ?_⟩
      match rt, hr with
      | some (.object n), _ => exact ⟨_, rfl, Or.inl ⟨n, rfl⟩⟩
      | some (.array n), _ => exact ⟨_, rfl, Or.inr ⟨n, rfl⟩⟩
  case return_ =>
    unfold xvi at hrow; simp only [Bool.and_eq_true, decide_eq_true_eq] at hrow
    obtain ⟨rfl, hr⟩ := hrow
    match st, hst with
    | [], hst =>
      have hst : o = .inr (none, σ) := hst
      subst hst
      have hk : K none σ := hp
      exact ⟨hret.1 _ _ hk, fun H locs L n1 n2 hR hl hL => hret.2.2.2 pc' H locs L σ hk n1 n2 hR hl hd hr⟩
  all_goals exact hst.elim
end XALL
end
section
/-! FROM STEPS TO CONTRACTS -/
/-- a method runs, d calls deep, from σ with the arguments as to the answer r and the heap σ' -/
def xEx : Nat → Nat → List xV → xS → Option xV → xS → Prop
  | 0 => fun _ _ _ _ _ => False
  | d + 1 => fun y as σ r σ' => y < 143 ∧ as.length = xma y ∧ xGo (xEx d) (xtb y) (fun r0 σ0 => r0 = r ∧ σ0 = σ') (0, as.map some ++ List.replicate (xml y - as.length) none, [], σ)
/-- numbers of cells and slots never fall -/
def xup2 (σ : xS) (o : xO) : Prop := match o with
  | .inl t => σ.2.1 ≤ t.2.2.2.2.1 ∧ σ.2.2 ≤ t.2.2.2.2.2
  | .inr z => σ.2.1 ≤ z.2.2.1 ∧ σ.2.2 ≤ z.2.2.2
theorem x_grow {E : Nat → List xV → xS → Option xV → xS → Prop} (hE : ∀ y as σ r σ1, E y as σ r σ1 → σ.2.1 ≤ σ1.2.1 ∧ σ.2.2 ≤ σ1.2.2) {i : Instr} {len a b pc : Nat} {ls : xL} {st : List xV} {σ : xS} {o : xO} (h : xst E i len a b pc ls st σ o) : xup2 σ o := by
  have r0 : σ.2.1 ≤ σ.2.1 ∧ σ.2.2 ≤ σ.2.2 := ⟨Nat.le_refl _, Nat.le_refl _⟩
  have hcall : ∀ pc', xcall E a b pc' ls st σ o → xup2 σ o := by
    intro pc' h
    unfold xcall at h
    split at h
    · obtain ⟨_, _, _, _, rfl⟩ := xr_inv h
      exact r0
    · split at h
      · obtain ⟨_, _, _, n, f, _, _, _, rfl⟩ := xr_inv h
        exact ⟨Nat.le_succ _, Nat.le_add_right _ _⟩
      · split at h
        · match st, h with
          | .inl _ :: .inl _ :: .inr (some _) :: .inl _ :: .inr (some _) :: _, h =>
            obtain ⟨_, _, _, _, _, _, _, _, _, _, _, _, _, _, _, _, _, _, _, _, rfl⟩ := h
            exact r0
        · split at h
          · obtain ⟨_, _, _, _, _, rfl⟩ := x2_inv h
            exact r0
          · split at h
            · obtain ⟨_, _, _, _, _, rfl⟩ := x2_inv h
              exact r0
            · obtain ⟨r, σ1, _, _, _, he, rfl⟩ := h
              exact hE _ _ _ _ _ he
  cases i
  case invokestatic => exact hcall _ h
  case invokevirtual => exact hcall _ h
  case invokespecial => exact hcall _ h
  case new =>
    have h : o = .inl (pc + len, ls, .inr (some σ.2.1) :: st, xnew σ (.inr (.inr (a, xdf a))) b) := h
    subst h
    exact ⟨Nat.le_succ _, Nat.le_add_right _ _⟩
  case newarray =>
    obtain ⟨_, _, _, n, _, _, rfl⟩ := x1_inv h
    exact ⟨Nat.le_succ _, Nat.le_add_right _ _⟩
  case anewarray =>
    obtain ⟨_, _, _, n, _, _, rfl⟩ := x1_inv h
    exact ⟨Nat.le_succ _, Nat.le_add_right _ _⟩
  case multianewarray =>
    obtain ⟨_, _, _, _, n, k, _, _, _, _, rfl⟩ := x2_inv h
    exact ⟨by show σ.2.1 ≤ σ.2.1 + 1 + n; omega, by show σ.2.2 ≤ σ.2.2 + n + n * k; omega⟩
  case tableswitch =>
    obtain ⟨_, _, _, t, _, rfl⟩ := x1_inv h
    exact r0
  case dup => match st, h with
    | _ :: _, h =>
      have h : o = .inl _ := h
      subst h
      exact r0
  case dup2 => match st, h with
    | _ :: _ :: _, h =>
      have h : o = .inl _ := h
      subst h
      exact r0
  case getfield =>
    obtain ⟨_, _, _, _, _, _, _, rfl⟩ := xr_inv h
    exact r0
  case arraylength =>
    obtain ⟨_, _, _, _, _, rfl⟩ := xr_inv h
    exact r0
  case checkcast =>
    obtain ⟨_, _, _, _, _, _, _, rfl⟩ := xr_inv h
    exact r0
  case putfield => match st, h with
    | _ :: .inr (some _) :: _, h =>
      obtain ⟨_, _, _, _, rfl⟩ := h
      exact r0
  case iaload => match st, h with
    | .inl _ :: .inr (some _) :: _, h =>
      obtain ⟨_, _, _, _, _, _, _, rfl⟩ := h
      exact r0
  case baload => match st, h with
    | .inl _ :: .inr (some _) :: _, h =>
      obtain ⟨_, _, _, _, _, _, _, rfl⟩ := h
      exact r0
  case aaload => match st, h with
    | .inl _ :: .inr (some _) :: _, h =>
      obtain ⟨_, _, _, _, _, _, _, _, rfl⟩ := h
      exact r0
  case iastore => match st, h with
    | .inl _ :: .inl _ :: .inr (some _) :: _, h =>
      obtain ⟨_, _, _, _, _, _, _, _, rfl⟩ := h
      exact r0
  case bastore => match st, h with
    | .inl _ :: .inl _ :: .inr (some _) :: _, h =>
      obtain ⟨_, _, _, _, _, _, _, rfl⟩ := h
      exact r0
  case aastore => match st, h with
    | .inr _ :: .inl _ :: .inr (some _) :: _, h =>
      obtain ⟨_, _, _, _, _, _, _, _, rfl⟩ := h
      exact r0
  case ireturn => match st, h with
    | [.inl _], h =>
      obtain ⟨_, rfl⟩ := h
      exact r0
  case areturn => match st, h with
    | [.inr _], h =>
      have h : o = .inr _ := h
      subst h
      exact r0
  case return_ => match st, h with
    | [], h =>
      have h : o = .inr _ := h
      subst h
      exact r0
  all_goals first
    | exact (show False from h).elim
    | (have h : o = .inl _ := h; subst h; exact r0)
    | (obtain ⟨_, _, h⟩ := xldi_inv h; subst h; exact r0)
    | (obtain ⟨_, _, h⟩ := xldr_inv h; subst h; exact r0)
    | (obtain ⟨_, _, _, h⟩ := x1_inv h; subst h; exact r0)
    | (obtain ⟨_, _, _, _, h⟩ := x2_inv h; subst h; exact r0)
    | (obtain ⟨_, _, _, _, _, h⟩ := x2_inv h; subst h; exact r0)
    | (obtain ⟨_, _, _, h⟩ := xq_inv h; subst h; exact r0)
theorem xGo_grow {E : Nat → List xV → xS → Option xV → xS → Prop} (hE : ∀ y as σ r σ1, E y as σ r σ1 → σ.2.1 ≤ σ1.2.1 ∧ σ.2.2 ≤ σ1.2.2) {tb : List xI} {r : Option xV} {σ' : xS} {t : xT} (h : xGo E tb (fun r0 σ0 => r0 = r ∧ σ0 = σ') t) : t.2.2.2.2.1 ≤ σ'.2.1 ∧ t.2.2.2.2.2 ≤ σ'.2.2 := by
  refine h (fun t => t.2.2.2.2.1 ≤ σ'.2.1 ∧ t.2.2.2.2.2 ≤ σ'.2.2) ?_
  rintro s o ⟨ls0, x, -, -, -, hst⟩ hp
  have hu := x_grow hE hst
  match o, hu, hp with
  | .inl t, hu, hp => exact ⟨Nat.le_trans hu.1 hp.1, Nat.le_trans hu.2 hp.2⟩
  | .inr (v, σ0), hu, hp =>
    obtain ⟨-, rfl⟩ := hp
    exact hu
theorem xEx_grow : ∀ d y as σ r σ1, xEx d y as σ r σ1 → σ.2.1 ≤ σ1.2.1 ∧ σ.2.2 ≤ σ1.2.2
  | 0, _, _, _, _, _, h => h.elim
  | d + 1, y, as, σ, r, σ1, h => xGo_grow (xEx_grow d) h.2.2
end
section
/-! the contract of every method -/
theorem x_entry {G : xG} {as : List xV} {n : Nat} (h : as.length ≤ n) : xlv G ((lg_sl (as.map (xv G)) ++ List.replicate (n - (lg_sl (as.map (xv G))).length) Slot.unset).toArray) n (as.map some ++ List.replicate (n - as.length) none) := by
  have hsl : ∀ l : List xV, lg_sl (l.map (xv G)) = l.map (fun v => Slot.val (xv G v)) := by
    intro l
    induction l with
    | nil => rfl
    | cons v l ih =>
      rw [List.map_cons, List.map_cons, ← ih]
      have hc := xv_cat G v
      match v with
      | .inl x => rfl
      | .inr none => rfl
      | .inr (some k) => rfl
  have hlen : (lg_sl (as.map (xv G))).length = as.length := by rw [hsl, List.length_map]
  have hl := lv_entry (as.map (xv G)) (n := n) (by rw [hlen]; exact h)
  refine ⟨by simp; omega, hl.1, hl.2.1, fun q hq => ?_⟩
  obtain ⟨k, w⟩ := q
  obtain ⟨v, hv, rfl⟩ := xas_mem.mp hq
  have hk : k < as.length := by
    rcases Nat.lt_or_ge k as.length with h1 | h1
    · exact h1
    · rw [List.getElem?_append_right (by simpa using h1)] at hv
      rw [List.getElem?_replicate] at hv
      split at hv <;> cases hv
  rw [List.getElem?_append_left (by simpa using hk), List.getElem?_map, List.getElem?_eq_getElem hk] at hv
  have hv' : as[k] = v := by simpa using hv
  show ((lg_sl (as.map (xv G)) ++ _).toArray)[k]? = some (.val (xv G v))
  rw [List.getElem?_toArray, List.getElem?_append_left (by rw [hlen]; exact hk), hsl, List.getElem?_map, List.getElem?_eq_getElem hk, hv']
  rfl
theorem x_ini {meth : Method} {y : Nat} (h : meth.name = (xmn y).name) : decide ((xmn y).name = "<init>") = true → meth.name = "<init>" := fun q => h.trans (of_decide_eq_true q)
theorem x_met {G : xG} {l : Launch} (hv : ∀ y, y < 143 → xvm y = true) : ∀ (d y : Nat) (as : List xV) (σ : xS) (r : Option xV) (σ' : xS), xEx d y as σ r σ' → xCt G l d y as σ r σ'
  | 0, _, _, _, _, _, h => h.elim
  | d + 1, y, as, σ, r, σ', h => by
    have hgr := xEx_grow _ _ _ _ _ _ h
    obtain ⟨hy, hlen, hgo⟩ := h
    refine ⟨hgr, ?_⟩
    obtain ⟨wc, wi, wm, ws, -, -, -, hplain, hon, -, -⟩ := x_getD hy
    have hnum := List.all_eq_true.mp xnums_ok y (List.mem_range.mpr hy)
    unfold xnums at hnum
    simp only [Bool.and_eq_true, decide_eq_true_eq] at hnum
    refine Met.ofW (cc := xmb y) (maxL := xml y) (ret := xmr y) hplain rfl ?_
    intro p e s m args below meth c s₁ B hml hpc
    obtain ⟨rfl, hR, hK, hN⟩ := hpc
    have hx := B.exec
    have hb := B.bytes
    have hr := B.returns
    have hlocks := B.notSynchronized
    have hts : ∀ w ∈ xW, w.before ((as.map (xv G)).toArray) s = true := fun w hw => atoms_spec (ws := xws y) B.pre w (List.mem_cons_of_mem _ hw)
    have hown : s.vm.findClass (xon (xmo y)) = some m.cls := by rw [hon]; exact findClass_of_methodNamed B.named
    have hnm := (name_of_methodNamed B.named B.method).1
    rw [lg_entry_eq]
    have hL := x_entry (G := G) (as := as) (n := xml y) (by omega)
    generalize ((lg_sl (as.map (xv G)) ++ List.replicate (xml y - (lg_sl (as.map (xv G))).length) Slot.unset).toArray) = L at hL ⊢
    have C : xCx G p l (headSpec (xws y) (xrm (d + 1) (σ'.2.1 - σ.2.1) (σ'.2.2 - σ.2.2))).room s m ((as.map (xv G)).toArray) c (xmb y) (xml y) d σ.2.1 σ.2.2 σ'.2.1 σ'.2.2 (xon (xmo y)) (xEx d) :=
      ⟨hx, hb, hml, hown, hts, hK, hN, rfl, rfl, Nat.le_refl _, Nat.le_refl _, x_met hv d⟩
    have hret : xRet G p l e (headSpec (xws y) (xrm (d + 1) (σ'.2.1 - σ.2.1) (σ'.2.2 - σ.2.2))).room s m ((as.map (xv G)).toArray) below meth c (xmb y) (xmr y) σ.2.1 σ.2.2 σ'.2.1 σ'.2.2 (MQ below (xQc G r σ') ((as.map (xv G)).toArray) s (σ'.2.1 - σ.2.1) (σ'.2.2 - σ.2.2) (fun q => G.2.2.1 ≤ q)) (fun r0 σ0 => r0 = r ∧ σ0 = σ') := by
      refine ⟨fun v σ0 hk => by rw [hk.2]; exact ⟨Nat.le_refl _, Nat.le_refl _⟩, ?_, ?_, ?_⟩
      · intro pc H locs L σ0 x hk n1 n2 hR0 hl0 hd hrt
        obtain ⟨hk1, rfl⟩ := hk
        rcases hrt with hrt | ⟨hrt, hx01⟩
        · exact W.zret hx hb (hr.trans hrt) rfl (fun t ht hW => ⟨by rw [← hk1]; rfl, by rw [ht]; exact xR_moved hW.alike hR0⟩) hl0 hd
        · refine W.zret hx hb (hr.trans hrt) ?_ (fun t ht hW => ⟨by rw [← hk1]; rfl, by rw [ht]; exact xR_moved hW.alike hR0⟩) hl0 hd
          rcases hx01 with rfl | rfl <;> rfl
      · intro pc H locs L σ0 q hk n1 n2 hR0 hl0 hd hrt
        obtain ⟨hk1, rfl⟩ := hk
        obtain ⟨t, hrt, ht2⟩ := hrt
        refine W.aret hx hb (hr.trans hrt) ht2 ?_ (fun t ht hW => ⟨by rw [← hk1]; rfl, by rw [ht]; exact xR_moved hW.alike hR0⟩) hl0 hd
        cases q with
        | none => exact Or.inl rfl
        | some q => exact Or.inr ⟨_, rfl⟩
      · intro pc H locs L σ0 hk n1 n2 hR0 hl0 hd hrt
        obtain ⟨hk1, rfl⟩ := hk
        exact W.vret hx hb (hr.trans hrt) (fun t ht hW => ⟨by rw [← hk1]; rfl, by rw [ht]; exact xR_moved hW.alike hR0⟩) hl0 hd
    have hsem := hgo _ (x_all C (ini := decide ((xmn y).name = "<init>")) (x_ini hnm) (hv y hy) hret)
    have hw := hsem.2 s.heap [] L (Nat.le_refl _) (Nat.le_refl _) hR (fun q hq => by cases hq) (by rw [hlen] at hL ⊢; exact hL)
    dsimp only at hw
    rw [Nat.sub_self, Nat.sub_self] at hw
    exact hw
end
section
/-! THE LAW'S START -/
def xVall : Nat → Prop
  | 0 => True
  | n + 1 => xvm n = true ∧ xVall n
theorem xVall_lt : ∀ {n : Nat}, xVall n → ∀ y, y < n → xvm y = true
  | 0, _, y, h => by omega
  | n + 1, ⟨h1, h2⟩, y, h => by
    rcases Nat.lt_or_ge y n with h3 | h3
    · exact xVall_lt h2 y h3
    · have e : y = n := by omega
      subst e
      exact h1
theorem xV_all : xVall 144 := ⟨xv_143, xv_142, xv_141, xv_140, xv_139, xv_138, xv_137, xv_136, xv_135, xv_134, xv_133, xv_132, xv_131, xv_130, xv_129, xv_128, xv_127, xv_126, xv_125, xv_124, xv_123, xv_122, xv_121, xv_120, xv_119, xv_118, xv_117, xv_116, xv_115, xv_114, xv_113, xv_112, xv_111, xv_110, xv_109, xv_108, xv_107, xv_106, xv_105, xv_104, xv_103, xv_102, xv_101, xv_100, xv_99, xv_98, xv_97, xv_96, xv_95, xv_94, xv_93, xv_92, xv_91, xv_90, xv_89, xv_88, xv_87, xv_86, xv_85, xv_84, xv_83, xv_82, xv_81, xv_80, xv_79, xv_78, xv_77, xv_76, xv_75, xv_74, xv_73, xv_72, xv_71, xv_70, xv_69, xv_68, xv_67, xv_66, xv_65, xv_64, xv_63, xv_62, xv_61, xv_60, xv_59, xv_58, xv_57, xv_56, xv_55, xv_54, xv_53, xv_52, xv_51, xv_50, xv_49, xv_48, xv_47, xv_46, xv_45, xv_44, xv_43, xv_42, xv_41, xv_40, xv_39, xv_38, xv_37, xv_36, xv_35, xv_34, xv_33, xv_32, xv_31, xv_30, xv_29, xv_28, xv_27, xv_26, xv_25, xv_24, xv_23, xv_22, xv_21, xv_20, xv_19, xv_18, xv_17, xv_16, xv_15, xv_14, xv_13, xv_12, xv_11, xv_10, xv_9, xv_8, xv_7, xv_6, xv_5, xv_4, xv_3, xv_2, xv_1, xv_0, trivial⟩
set_option maxRecDepth 50000 in
theorem xN_tbl {A : Array Value} {s : State} (hts : ∀ w ∈ lw_tbl, w.before A s = true) : xN s :=
  ⟨List.forall_mem_cons.mpr ⟨va_Nw.of rfl (hts _ (List.mem_of_getElem? (i := 228) rfl)), List.forall_mem_cons.mpr ⟨va_Nw.of rfl (hts _ (List.mem_of_getElem? (i := 324) rfl)), List.forall_mem_cons.mpr ⟨va_Nw.of rfl (hts _ (List.mem_of_getElem? (i := 387) rfl)), List.forall_mem_cons.mpr ⟨va_Nw.of rfl (hts _ (List.mem_of_getElem? (i := 420) rfl)), List.forall_mem_cons.mpr ⟨va_Nw.of rfl (hts _ (List.mem_of_getElem? (i := 123) rfl)), List.forall_mem_cons.mpr ⟨va_Nw.of rfl (hts _ (List.mem_of_getElem? (i := 115) rfl)), List.forall_mem_cons.mpr ⟨va_Nw.of rfl (hts _ (List.mem_of_getElem? (i := 171) rfl)), List.forall_mem_cons.mpr ⟨va_Nw.of rfl (hts _ (List.mem_of_getElem? (i := 438) rfl)), List.forall_mem_cons.mpr ⟨va_Nw.of rfl (hts _ (List.mem_of_getElem? (i := 197) rfl)), fun _ h => absurd h List.not_mem_nil⟩⟩⟩⟩⟩⟩⟩⟩⟩, List.forall_mem_cons.mpr ⟨va_Nw.of rfl (hts _ (List.mem_of_getElem? (i := 127) rfl)), List.forall_mem_cons.mpr ⟨va_Nw.of rfl (hts _ (List.mem_of_getElem? (i := 451) rfl)), fun _ h => absurd h List.not_mem_nil⟩⟩, va_Nw.of rfl (hts _ (List.mem_of_getElem? (i := 246) rfl)), va_AO.of (hts _ (List.mem_of_getElem? (i := 176) rfl)), va_AO.of (hts _ (List.mem_of_getElem? (i := 75) rfl))⟩
theorem y_overA {A : Array Value} {s : State} {t : FieldType} (h : (Cond.arrayOver (.array t)).before A s = true) : ∃ comp c k, s.vm.findClass (FieldType.array t).toString = some comp ∧ s.vm.classes[c]? = some k ∧ k.kind = .array comp (.array t) ∧ s.vm.findClass ("[" ++ (FieldType.array t).toString) = some c := by
  simp only [Cond.before, Cond.holds, Cond.value, beq_iff_eq] at h
  cases hc : s.vm.findClass (FieldType.array t).toString with
  | none => simp [hc] at h
  | some comp =>
    simp only [hc, Option.bind_some, Option.bind_eq_some_iff, Option.map_eq_some_iff] at h
    obtain ⟨c, hi, k, hk, hb⟩ := h
    obtain ⟨hlt, hp, -⟩ := Array.findIdx?_eq_some_iff_getElem.mp hi
    have hkk : s.vm.classes[c] = k := (Array.getElem?_eq_some_iff.mp hk).2
    rw [hkk] at hp
    cases hkind : k.kind with
    | array component ty =>
      rw [hkind] at hb hp
      simp at hb hp
      exact ⟨comp, c, k, rfl, hk, by rw [hkind, hp, hb.1], hb.2⟩
    | _ => rw [hkind] at hb; simp at hb
set_option maxRecDepth 50000 in
theorem x_cp {A : Array Value} {s : State} (hts : ∀ w ∈ xW, w.before A s = true) (t : Nat) : ∃ cA : ClassId, ArrOfT s cA (xty t) ∧ s.vm.findClass ("[" ++ (xty t).toString) = some cA := by
  have key : ∀ ty : FieldType, Cond.arrayClass ty ∈ xW → ∃ cA : ClassId, ArrOfT s cA ty ∧ s.vm.findClass ("[" ++ ty.toString) = some cA := by
    intro ty h
    obtain ⟨cA, kA, comp, h1, h2, h3⟩ := Cond.arrayClass_spec (hts _ h)
    exact ⟨cA, fun n z => ⟨fun k h => (by cases h), kA, h2, comp, h3⟩, h1⟩
  unfold xty
  split
  · exact key _ (xW_at 111 rfl rfl)
  · split
    · exact key _ (xW_at 661 (by rfl) rfl)
    · exact key _ (xW_at 112 rfl rfl)
set_option maxRecDepth 50000 in
theorem x_cq {A : Array Value} {s : State} (hts : ∀ w ∈ lw_tbl, w.before A s = true) (t : Nat) : ∃ cA : ClassId, ArrOfT s cA (xqty t) ∧ (∃ (kA : Class) (comp : ClassId), s.vm.classes[cA]? = some kA ∧ kA.kind = .array comp (xqty t) ∧ s.vm.findClass (xqn t) = some comp) ∧ s.vm.findClass ("[" ++ (xqty t).toString) = some cA := by
  have key : ∀ C : String, (Cond.arrayOver (.object C)).before A s = true → ∃ cA : ClassId, ArrOfT s cA (.object C) ∧ (∃ (kA : Class) (comp : ClassId), s.vm.classes[cA]? = some kA ∧ kA.kind = .array comp (.object C) ∧ s.vm.findClass C = some comp) ∧ s.vm.findClass ("[" ++ (FieldType.object C).toString) = some cA := by
    intro C h
    obtain ⟨comp, cA, kA, h1, -, h3, h4, h5⟩ := Cond.arrayOver_spec h
    exact ⟨cA, fun n z => ⟨fun k h => (by cases h), kA, h3, comp, h4⟩, ⟨kA, comp, h3, h4, h1⟩, h5⟩
  unfold xqty xqn
  split
  · exact key _ (hts _ (List.mem_of_getElem? (i := 176) rfl))
  · split
    · exact key _ (hts _ (List.mem_of_getElem? (i := 75) rfl))
    · obtain ⟨comp, cA, kA, h1, h3, h4, h5⟩ := y_overA (hts (.arrayOver (.array .int)) (List.mem_of_getElem? (i := 120) rfl))
      exact ⟨cA, fun n z => ⟨fun k h => (by cases h), kA, h3, comp, h4⟩, ⟨kA, comp, h3, h4, h1⟩, h5⟩
theorem x_cl {A : Array Value} {s : State} (hts : ∀ w ∈ xW, w.before A s = true) (a : Nat) : ∃ q : ClassId × (Nat → Nat), a < 8 → u_Kn s (xcl.getD a xc0).1 (xcl.getD a xc0).2.1 (xcl.getD a xc0).2.2 q.1 q.2 := by
  by_cases h : a < 8
  · have CC := xC_all h
    obtain ⟨cC, iS, hk⟩ := u_known hts CC.1 (hts _ CC.2.2.2.2.2.1)
    exact ⟨(cC, iS), fun _ => hk⟩
  · exact ⟨(0, fun _ => 0), fun h2 => absurd h2 h⟩
/-- the heap at the start: the script, and the empty array -/
def xσ0 (L : Nat) (xs : Nat → Int32) : xS := (fun k => if k = 0 then some (.inl (0, L, xs)) else if k = 1 then some (.inl (0, 0, fun _ => 0)) else none, 2, 0)
/-- what the law's run must come to -/
def xEnd (v : Option xV) (σ : xS) : Prop := v = some (.inl 1) ∧ σ.2.1 ≤ 600002 ∧ σ.2.2 ≤ 7302250
end
section
/-! THE CLAIM OUT OF ONE WALK OF THE LAW'S BODY. Your part is whole_start (and what it stands on); all else here is the same for every law, but numbers. -/
def R_law : String := "RenameMergeLaw"
def lw_P (b : Addr) (xs : List Int32) (args : Array Value) (s : State) : Prop := args = #[.ref b] ∧ s.IntsAt b xs ∧ xs.length ≤ 2561 ∧ (Jvm.Cond.and given_1 narrow_1).before args s = true
def lw_Q (_ : Array Value) (s : State) (o : Outcome) (t : State) : Prop := o = .returned (some (.int 1)) ∧ Framed s o t [] 600000 7302250
def lw_Z (below : List Frame) (a : Array Value) (s : State) : State → Prop := fun t => ∃ o, t.status = .running ∧ Ended t below o ∧ lw_Q a s o t
/-- the law's own end, with 1 on the stack, nothing written that was there before, its room as the claim has it -/
theorem lw_ret {p : Program} {l : Launch} {e : Env} {s : State} {m : MethodId} {below : List Frame} {meth : Method} {c : Code} {b : Nat} (hx : p.tables.exec = Jvm.exec) (hb : c.code = code) (hr : meth.sig.returnType = ret) (hlocks : meth.locks = false) {pc : Nat} {H : Heap} {ls : Array Slot} (hdg : decode code pc = .ok (.ireturn, 1)) : W p l e room_1 s m #[Value.ref b] below meth c H [] 600000 7302250 (lw_Z below #[Value.ref b] s) (F0 m pc ls [.int 1]) := by
  intro T hT X
  obtain ⟨fs, hret, hrun, hended, hW, hframe⟩ := X.leave (v := some (.int 1)) (hlocks := hlocks) (fun h => by rw [hr] at h; cases h)
  have hmeth' : T.vm.method? m = some meth := X.method'
  refine ⟨T.setFrames fs, ?_, .returned (some (.int 1)), hrun, hended, rfl, ⟨_, rfl⟩, hW, hframe⟩
  jvm_step X.here [X.here.top, hx, hb, hdg, hmeth', hr, ret, narrow_b1]
  (try refine ⟨rfl, ?_⟩); (try refine ⟨rfl, ?_⟩)
  first | (intro acts; rw [hret _ acts rfl rfl rfl]) | rw [hret _ _ rfl rfl rfl]
  exact Steps.refl _
/-- what holds at the law's entry: the machine, the code, the tables' words (any of lw_tbl by 'hts w (by decide +kernel)'), the script of L ints xs at the cell b, what the Statement gives of the start (any of its parts by flat_of_before) -/
def lw_At (p : Program) (s : State) (m : MethodId) (meth : Method) (c : Code) (b L : Nat) (xs : Nat → Int32) : Prop :=
  p.tables.exec = Jvm.exec ∧ c.code = code ∧ meth.sig.returnType = ret ∧ c.maxLocals = 4 ∧ s.vm.findClass R_law = some m.cls ∧ (∀ w ∈ lw_tbl, w.before #[Value.ref b] s = true) ∧ va_X b L xs s s.heap ∧ b < s.heap.size ∧ meth.locks = false ∧ (Jvm.Cond.and given_1 narrow_1).before #[Value.ref b] s = true
-- ===== YOUR PART BEGINS =====
set_option maxRecDepth 50000 in
theorem x_start {p : Program} {e : Env} {s : State} {m : MethodId} {below : List Frame} {meth : Method} {c : Code} (l : Launch) {b L : Nat} {xs : Nat → Int32} (hL : L ≤ 2561) (C0 : lw_At p s m meth c b L xs) (hrun : xGo (xEx 9) (xtb 143) xEnd (0, [some (.inr (some 0)), none, none, none], [], xσ0 L xs)) :
    W p l e room_1 s m #[Value.ref b] below meth c s.heap [] 0 0 (lw_Z below #[Value.ref b] s) (entryFrame m ([Value.ref b] : List Value).toArray 4) := by
  obtain ⟨hx, hb, hr, hml, hown, hts, hX, hbl, hlocks, hgv⟩ := C0
  have hts' : ∀ w ∈ xW, w.before #[Value.ref b] s = true := fun w hw => hts w (List.mem_filter.mp hw).1
  have hfl := flat_of_before _ hgv
  have hA : ∀ a : Nat, a < s.heap.size → ¬ s.heap.size ≤ a := fun a h1 h2 => by omega
  have harr : (Cond.arrayOf (.static "RenameMerge" "NO_LINES" "[I") .int).before #[Value.ref b] s = true := hfl _ (by decide +kernel)
  have hlen : (Term.length (.static "RenameMerge" "NO_LINES" "[I")).eval #[Value.ref b] s none [] s = some (.int 0) := va_eqt (hfl (Cond.eq (.length (.static "RenameMerge" "NO_LINES" "[I")) (.int 0)) (by decide +kernel))
  obtain ⟨tN, htN, hTN⟩ := va_Tof (A := fun q => s.heap.size ≤ q) (N := 0) (f := fun _ => Value.int 0) (by decide) harr hlen (fun j hj => absurd hj (Nat.not_lt_zero j)) hA
  have hZ : va_Z xNLc xNLn xNLd (.ref tN) (fun q => s.heap.size ≤ q) s s.heap := va_Zref (hts _ (List.mem_of_getElem? (i := 128) rfl)) (hts _ (List.mem_of_getElem? (i := 55) rfl)) htN hA
  have htl : tN < s.heap.size := by
    obtain ⟨cell, h1, -⟩ := hTN
    exact (Array.getElem?_eq_some_iff.mp h1).1
  let D : va_G := (fun a => (Classical.choose (x_cl hts' a)).1, fun a => (Classical.choose (x_cl hts' a)).2)
  let G : xG := (b, tN, s.heap.size, D, fun t => Classical.choose (x_cp hts' t), fun t => Classical.choose (x_cq hts t))
  have hK : xK G s := by
    refine ⟨fun k q hq => ?_, fun t => Classical.choose_spec (x_cp hts' t), fun t => Classical.choose_spec (x_cq hts t)⟩
    have hk : k < 8 := (List.getElem?_eq_some_iff.mp hq).1
    have e9 : xcl.getD k xc0 = q := Option.some.inj ((x_lt8 hk).symm.trans hq)
    have hs := Classical.choose_spec (x_cl hts' k) hk
    subst e9
    exact hs
  have hN : xN s := xN_tbl hts
  have hR : xR G s (xσ0 L xs) s.heap := by
    refine ⟨Nat.le_refl 2, rfl, hbl, htl, fun k en hk => ?_, hZ⟩
    have hk' : (if k = 0 then some (.inl (0, L, xs)) else if k = 1 then some (.inl (0, 0, fun _ => 0)) else none) = some en := hk
    by_cases h0 : k = 0
    · rw [if_pos h0] at hk'
      cases hk'
      subst h0
      refine ⟨(by decide : 0 < 2), fun _ => ⟨rfl, ?_⟩, fun z => absurd z (by decide)⟩
      obtain ⟨scr, g1, g2, g3, g4, g5⟩ := hX
      exact ⟨scr, g1, g2, g3, Nat.le_of_eq g4.symm, by rw [g4] <;> rfl, g5, hA b hbl⟩
    · rw [if_neg h0] at hk'
      by_cases h1 : k = 1
      · rw [if_pos h1] at hk'
        cases hk'
        subst h1
        exact ⟨(by decide : 1 < 2), fun _ => ⟨rfl, hTN⟩, fun z => absurd z (by decide)⟩
      · rw [if_neg h1] at hk'
        cases hk'
  have C : xCx G p l room_1 s m #[Value.ref b] c code 4 9 2 0 600002 7302250 (xon 8) (xEx 9) :=
    ⟨hx, hb, hml, hown, hts', hK, hN, rfl, rfl, Nat.le_refl _, Nat.le_refl _, x_met (fun y hy => xVall_lt xV_all y (by omega)) 9⟩
  have hret : xRet G p l e room_1 s m #[Value.ref b] below meth c code (some .boolean) 2 0 600002 7302250 (lw_Z below #[Value.ref b] s) xEnd := by
    refine ⟨fun v σ hk => hk.2, ?_, ?_, ?_⟩
    · intro pc H locs L' σ x hk n1 n2 hR0 hl0 hd hrt
      obtain ⟨k1, k2, k3⟩ := hk
      have hx1 : x = 1 := Sum.inl.inj (Option.some.inj k1)
      subst hx1
      refine va_forget hl0 (W.widen (k := 600000) (n := 7302250) (by omega) (by omega) ?_)
      exact lw_ret hx hb hr hlocks hd
    · intro pc H locs L' σ q hk n1 n2 hR0 hl0 hd hrt
      have k1 : (some (.inr q) : Option xV) = some (.inl 1) := hk.1
      cases k1
    · intro pc H locs L' σ hk n1 n2 hR0 hl0 hd hrt
      have k1 : (none : Option xV) = some (.inl 1) := hk.1
      cases k1
  have hsem := hrun _ (x_all C (ini := false) (fun h => by cases h) (show (xtb 143).all (xvl 8 (some .boolean) code 4 false) = true from xVall_lt xV_all 143 (by decide)) hret)
  rw [lg_entry_eq]
  have hLv := x_entry (G := G) (as := [.inr (some 0)]) (n := 4) (by decide)
  exact hsem.2 s.heap [] _ (Nat.le_refl _) (Nat.le_refl _) hR (fun q hq => by cases hq) hLv
end
section
/-! RUNNING A METHOD: the row is found by its pc -/
def xfd (tb : List xI) (pc : Nat) : Option xI := tb.find? (fun r => r.1 == pc)
/-- no branch, no call, no end -/
def xsm (i : Instr) : Bool := match i with
  | .ifCond _ _ | .if_icmp _ _ | .ifnull _ | .ifnonnull _ | .tableswitch _ _ _ _ | .invokestatic _ | .invokevirtual _ | .invokespecial _ | .ireturn | .areturn | .return_ => false
  | _ => true
section XRUN
variable {E : Nat → List xV → xS → Option xV → xS → Prop} {tb : List xI} {K : Option xV → xS → Prop} {pc len a b w : Nat} {ls : xL} {st : List xV} {σ : xS} {i : Instr}
theorem xfd_mem {x : xI} (h : xfd tb pc = some x) : x ∈ tb ∧ x.1 = pc := ⟨List.mem_of_find?_eq_some h, by simpa using List.find?_some h⟩
theorem g0 (hk : xfd tb pc = some (pc, i, len, a, b, w)) {o : xO} (h : xst E i len a b pc ls st σ o) (g : xpost (xGo E tb K) K o) : xGo E tb K (pc, ls, st, σ) :=
  xGo_step (o := o) ⟨ls, _, xle_refl ls, (xfd_mem hk).1, rfl, h⟩ g
theorem gp (hk : xfd tb pc = some (pc, i, len, a, b, w)) (_ : xsm i = true) {s' : xT} (h : xst E i len a b pc ls st σ (.inl s')) (g : xGo E tb K s') : xGo E tb K (pc, ls, st, σ) := g0 hk h g
theorem gif' {c : ClassFile.Cond} {off : Int} {x : Int32} (hk : xfd tb pc = some (pc, .ifCond c off, len, a, b, w)) (ht : xc c x 0 → xGo E tb K (a, ls, st, σ)) (hf : ¬ xc c x 0 → xGo E tb K (pc + len, ls, st, σ)) : xGo E tb K (pc, ls, .inl x :: st, σ) := by
  refine g0 hk (o := .inl (xif (xc c x 0) a (pc + len), ls, st, σ)) rfl ?_
  by_cases h : xc c x 0
  · rw [xif_t h]; exact ht h
  · rw [xif_f h]; exact hf h
theorem gcp {c : ClassFile.Cond} {off : Int} {x y : Int32} (hk : xfd tb pc = some (pc, .if_icmp c off, len, a, b, w)) (ht : xc c x y → xGo E tb K (a, ls, st, σ)) (hf : ¬ xc c x y → xGo E tb K (pc + len, ls, st, σ)) : xGo E tb K (pc, ls, .inl y :: .inl x :: st, σ) := by
  refine g0 hk (o := .inl (xif (xc c x y) a (pc + len), ls, st, σ)) rfl ?_
  by_cases h : xc c x y
  · rw [xif_t h]; exact ht h
  · rw [xif_f h]; exact hf h
theorem gnl {off : Int} {q : Option Nat} (hk : xfd tb pc = some (pc, .ifnull off, len, a, b, w)) (ht : q = none → xGo E tb K (a, ls, st, σ)) (hf : ∀ z, q = some z → xGo E tb K (pc + len, ls, st, σ)) : xGo E tb K (pc, ls, .inr q :: st, σ) := by
  refine g0 hk (o := .inl (xif (q = none) a (pc + len), ls, st, σ)) rfl ?_
  cases q with
  | none => rw [xif_t rfl]; exact ht rfl
  | some z => rw [xif_f (by simp)]; exact hf z rfl
theorem gnn {off : Int} {q : Option Nat} (hk : xfd tb pc = some (pc, .ifnonnull off, len, a, b, w)) (ht : ∀ z, q = some z → xGo E tb K (a, ls, st, σ)) (hf : q = none → xGo E tb K (pc + len, ls, st, σ)) : xGo E tb K (pc, ls, .inr q :: st, σ) := by
  refine g0 hk (o := .inl (xif (¬ q = none) a (pc + len), ls, st, σ)) rfl ?_
  cases q with
  | none => rw [xif_f (by simp)]; exact hf rfl
  | some z => rw [xif_t (by simp)]; exact ht z rfl
theorem gri {x : Int32} (hk : xfd tb pc = some (pc, .ireturn, len, a, b, w)) (h : a = 1 → x = 0 ∨ x = 1) (g : K (some (.inl x)) σ) : xGo E tb K (pc, ls, [.inl x], σ) := g0 hk (o := .inr (some (.inl x), σ)) ⟨h, rfl⟩ g
theorem gra {q : Option Nat} (hk : xfd tb pc = some (pc, .areturn, len, a, b, w)) (g : K (some (.inr q)) σ) : xGo E tb K (pc, ls, [.inr q], σ) := g0 hk (o := .inr (some (.inr q), σ)) rfl g
theorem grv (hk : xfd tb pc = some (pc, .return_, len, a, b, w)) (g : K none σ) : xGo E tb K (pc, ls, [], σ) := g0 hk (o := .inr (none, σ)) rfl g
theorem xlen_i {σ : xS} {q t n : Nat} {f : Nat → Int32} (h : σ.1 q = some (.inl (t, n, f))) : xlen (σ.1 q) = some n := by rw [h]; rfl
theorem xlen_q {σ : xS} {q t n : Nat} {g : Nat → Option Nat} (h : σ.1 q = some (.inr (.inl (t, n, g)))) : xlen (σ.1 q) = some n := by rw [h]; rfl
theorem ggf {idx q : Nat} {fs : List xV} {v : xV} (hk : xfd tb pc = some (pc, .getfield idx, len, a, b, w)) (h1 : σ.1 q = some (.inr (.inr (a, fs)))) (h2 : fs[b]? = some v) (g : xGo E tb K (pc + len, ls, v :: st, σ)) : xGo E tb K (pc, ls, .inr (some q) :: st, σ) := g0 hk (o := .inl _) ⟨fs, v, h1, h2, rfl⟩ g
theorem gpf {idx q : Nat} {fs : List xV} {v : xV} (hk : xfd tb pc = some (pc, .putfield idx, len, a, b, w)) (h1 : σ.1 q = some (.inr (.inr (a, fs)))) (h2 : b < fs.length) (h3 : xfit a b v) (g : xGo E tb K (pc + len, ls, st, xup σ q (.inr (.inr (a, fs.set b v))))) : xGo E tb K (pc, ls, v :: .inr (some q) :: st, σ) := g0 hk (o := .inl _) ⟨fs, h1, h2, h3, rfl⟩ g
theorem gil {q n j : Nat} {f : Nat → Int32} {x : Int32} (hk : xfd tb pc = some (pc, .iaload, len, a, b, w)) (h1 : σ.1 q = some (.inl (0, n, f))) (h2 : x = nI j) (h3 : j < n) (h4 : j < 2147483648) (g : xGo E tb K (pc + len, ls, .inl (f j) :: st, σ)) : xGo E tb K (pc, ls, .inl x :: .inr (some q) :: st, σ) := g0 hk (o := .inl _) ⟨n, f, j, h1, h2, h3, h4, rfl⟩ g
theorem gbl {q n j : Nat} {f : Nat → Int32} {x : Int32} (hk : xfd tb pc = some (pc, .baload, len, a, b, w)) (h1 : σ.1 q = some (.inl (a, n, f))) (h2 : x = nI j) (h3 : j < n) (h4 : j < 2147483648) (g : xGo E tb K (pc + len, ls, .inl (f j) :: st, σ)) : xGo E tb K (pc, ls, .inl x :: .inr (some q) :: st, σ) := g0 hk (o := .inl _) ⟨n, f, j, h1, h2, h3, h4, rfl⟩ g
theorem gis {q n j : Nat} {f : Nat → Int32} {x v : Int32} (hk : xfd tb pc = some (pc, .iastore, len, a, b, w)) (h1 : σ.1 q = some (.inl (0, n, f))) (h2 : x = nI j) (h3 : j < n) (h4 : j < 2147483648) (h5 : 2 ≤ q) (g : xGo E tb K (pc + len, ls, st, xup σ q (.inl (0, n, upd f j v)))) : xGo E tb K (pc, ls, .inl v :: .inl x :: .inr (some q) :: st, σ) := g0 hk (o := .inl _) ⟨n, f, j, h1, h2, h3, h4, h5, rfl⟩ g
theorem gbs {q n j : Nat} {f : Nat → Int32} {x v : Int32} (hk : xfd tb pc = some (pc, .bastore, len, a, b, w)) (h1 : σ.1 q = some (.inl (a, n, f))) (h2 : x = nI j) (h3 : j < n) (h4 : j < 2147483648) (g : xGo E tb K (pc + len, ls, st, xup σ q (.inl (a, n, upd f j (xnar a v))))) : xGo E tb K (pc, ls, .inl v :: .inl x :: .inr (some q) :: st, σ) := g0 hk (o := .inl _) ⟨n, f, j, h1, h2, h3, h4, rfl⟩ g
theorem gal {q t n j : Nat} {f : Nat → Option Nat} {x : Int32} (hk : xfd tb pc = some (pc, .aaload, len, a, b, w)) (h1 : σ.1 q = some (.inr (.inl (t, n, f)))) (h2 : x = nI j) (h3 : j < n) (h4 : j < 2147483648) (g : xGo E tb K (pc + len, ls, .inr (f j) :: st, σ)) : xGo E tb K (pc, ls, .inl x :: .inr (some q) :: st, σ) := g0 hk (o := .inl _) ⟨t, n, f, j, h1, h2, h3, h4, rfl⟩ g
theorem gas {q n j : Nat} {f : Nat → Option Nat} {x : Int32} {v : Option Nat} (hk : xfd tb pc = some (pc, .aastore, len, a, b, w)) (h1 : σ.1 q = some (.inr (.inl (a, n, f)))) (h2 : x = nI j) (h3 : j < n) (h4 : j < 2147483648) (h5 : v = none ∨ ∃ (k : Nat) (fs : List xV), v = some k ∧ σ.1 k = some (.inr (.inr (xqc a, fs)))) (g : xGo E tb K (pc + len, ls, st, xup σ q (.inr (.inl (a, n, va_up f j v))))) : xGo E tb K (pc, ls, .inr v :: .inl x :: .inr (some q) :: st, σ) := g0 hk (o := .inl _) ⟨n, f, j, h1, h2, h3, h4, h5, rfl⟩ g
theorem gln {q n : Nat} (hk : xfd tb pc = some (pc, .arraylength, len, a, b, w)) (h1 : xlen (σ.1 q) = some n) (g : xGo E tb K (pc + len, ls, .inl (nI n) :: st, σ)) : xGo E tb K (pc, ls, .inr (some q) :: st, σ) := g0 hk (o := .inl _) ⟨n, h1, rfl⟩ g
/-- calls: on an object; without one; of a constructor -/
theorem gcv {idx q : Nat} {As rest fs : List xV} {r : Option xV} {σ1 : xS} (hk : xfd tb pc = some (pc, .invokevirtual idx, len, a, b, w)) (hb : b = 2 ∨ b = 3) (he : E a (.inr (some q) :: As) σ r σ1) (hq : σ.1 q = some (.inr (.inr (xmc a, fs)))) (hst : st = As.reverse ++ .inr (some q) :: rest) (hn : xma a = As.length + 1) (hr : rest.length ≤ 8) (g : xGo E tb K (pc + len, ls, r.toList ++ rest, σ1)) : xGo E tb K (pc, ls, st, σ) := by
  have e1 : st.take (xma a) = As.reverse ++ [.inr (some q)] := by
    rw [hst, show As.reverse ++ .inr (some q) :: rest = (As.reverse ++ [.inr (some q)]) ++ rest by simp, List.take_left' (by simp [hn])]
  have e2 : st.drop (xma a) = rest := by
    rw [hst, show As.reverse ++ .inr (some q) :: rest = (As.reverse ++ [.inr (some q)]) ++ rest by simp, List.drop_left' (by simp [hn])]
  have e3 : (st.take (xma a)).reverse = .inr (some q) :: As := by rw [e1]; simp
  refine g0 hk (o := .inl (pc + len, ls, r.toList ++ rest, σ1)) ?_ g
  show xcall E a b (pc + len) ls st σ _
  unfold xcall
  rw [if_neg (by omega), if_neg (by omega), if_neg (by omega), if_neg (by omega), if_neg (by omega)]
  refine ⟨r, σ1, by rw [hst, hn]; simp <;> omega, by rw [e2]; exact hr, ?_, by rw [e3]; exact he, by rw [e2]⟩
  unfold xrcv
  rw [if_neg (by omega), if_pos (by omega), e3]
  exact ⟨q, As, fs, rfl, hq⟩
theorem gcs {idx : Nat} {As rest : List xV} {r : Option xV} {σ1 : xS} (hk : xfd tb pc = some (pc, .invokestatic idx, len, a, b, w)) (hb : b = 4 ∨ b = 5) (he : E a As σ r σ1) (hst : st = As.reverse ++ rest) (hn : xma a = As.length) (hr : rest.length ≤ 8) (g : xGo E tb K (pc + len, ls, r.toList ++ rest, σ1)) : xGo E tb K (pc, ls, st, σ) := by
  have e1 : (st.take (xma a)).reverse = As := by rw [hst, List.take_left' (by simp [hn])]; simp
  have e2 : st.drop (xma a) = rest := by rw [hst, List.drop_left' (by simp [hn])]
  refine g0 hk (o := .inl (pc + len, ls, r.toList ++ rest, σ1)) ?_ g
  show xcall E a b (pc + len) ls st σ _
  unfold xcall
  rw [if_neg (by omega), if_neg (by omega), if_neg (by omega), if_neg (by omega), if_neg (by omega)]
  refine ⟨r, σ1, by rw [hst, hn]; simp, by rw [e2]; exact hr, ?_, by rw [e1]; exact he, by rw [e2]⟩
  unfold xrcv
  rw [if_neg (by omega), if_neg (by omega)]
  trivial
theorem gci {idx q : Nat} {As rest : List xV} {r : Option xV} {σ1 : xS} (hk : xfd tb pc = some (pc, .invokespecial idx, len, a, b, w)) (hb : b = 0 ∨ b = 1) (he : E a (.inr (some q) :: As) σ r σ1) (hst : st = As.reverse ++ .inr (some q) :: rest) (hn : xma a = As.length + 1) (hr : rest.length ≤ 8) (g : xGo E tb K (pc + len, ls, r.toList ++ rest, σ1)) : xGo E tb K (pc, ls, st, σ) := by
  have e1 : st.take (xma a) = As.reverse ++ [.inr (some q)] := by
    rw [hst, show As.reverse ++ .inr (some q) :: rest = (As.reverse ++ [.inr (some q)]) ++ rest by simp, List.take_left' (by simp [hn])]
  have e2 : st.drop (xma a) = rest := by
    rw [hst, show As.reverse ++ .inr (some q) :: rest = (As.reverse ++ [.inr (some q)]) ++ rest by simp, List.drop_left' (by simp [hn])]
  have e3 : (st.take (xma a)).reverse = .inr (some q) :: As := by rw [e1]; simp
  refine g0 hk (o := .inl (pc + len, ls, r.toList ++ rest, σ1)) ?_ g
  show xcall E a b (pc + len) ls st σ _
  unfold xcall
  rw [if_neg (by omega), if_neg (by omega), if_neg (by omega), if_neg (by omega), if_neg (by omega)]
  refine ⟨r, σ1, by rw [hst, hn]; simp <;> omega, by rw [e2]; exact hr, ?_, by rw [e3]; exact he, by rw [e2]⟩
  unfold xrcv
  rw [if_pos (by omega), e3]
  exact ⟨q, As, rfl⟩
theorem gct {c : ClassFile.Cond} {off : Int} {x y : Int32} (hk : xfd tb pc = some (pc, .if_icmp c off, len, a, b, w)) (h : xc c x y) (g : xGo E tb K (a, ls, st, σ)) : xGo E tb K (pc, ls, .inl y :: .inl x :: st, σ) := gcp hk (fun _ => g) (fun q => absurd h q)
theorem gcf {c : ClassFile.Cond} {off : Int} {x y : Int32} (hk : xfd tb pc = some (pc, .if_icmp c off, len, a, b, w)) (h : ¬ xc c x y) (g : xGo E tb K (pc + len, ls, st, σ)) : xGo E tb K (pc, ls, .inl y :: .inl x :: st, σ) := gcp hk (fun q => absurd q h) (fun _ => g)
theorem git {c : ClassFile.Cond} {off : Int} {x : Int32} (hk : xfd tb pc = some (pc, .ifCond c off, len, a, b, w)) (h : xc c x 0) (g : xGo E tb K (a, ls, st, σ)) : xGo E tb K (pc, ls, .inl x :: st, σ) := gif' hk (fun _ => g) (fun q => absurd h q)
theorem giff {c : ClassFile.Cond} {off : Int} {x : Int32} (hk : xfd tb pc = some (pc, .ifCond c off, len, a, b, w)) (h : ¬ xc c x 0) (g : xGo E tb K (pc + len, ls, st, σ)) : xGo E tb K (pc, ls, .inl x :: st, σ) := gif' hk (fun q => absurd q h) (fun _ => g)
theorem gmx {idx : Nat} {x y : Int32} (hk : xfd tb pc = some (pc, .invokestatic idx, len, a, 9, w)) (hr : st.length ≤ 8) (g : xGo E tb K (pc + len, ls, .inl (if x < y then y else x) :: st, σ)) : xGo E tb K (pc, ls, .inl y :: .inl x :: st, σ) := g0 hk (o := .inl _) (show xcall E a 9 (pc + len) ls (.inl y :: .inl x :: st) σ _ from ⟨hr, rfl⟩) g
theorem gmn {idx : Nat} {x y : Int32} (hk : xfd tb pc = some (pc, .invokestatic idx, len, a, 10, w)) (hr : st.length ≤ 8) (g : xGo E tb K (pc + len, ls, .inl (if y < x then y else x) :: st, σ)) : xGo E tb K (pc, ls, .inl y :: .inl x :: st, σ) := g0 hk (o := .inl _) (show xcall E a 10 (pc + len) ls (.inl y :: .inl x :: st) σ _ from ⟨hr, rfl⟩) g
theorem gob {idx q : Nat} (hk : xfd tb pc = some (pc, .invokespecial idx, len, a, 6, w)) (hr : st.length ≤ 8) (g : xGo E tb K (pc + len, ls, st, σ)) : xGo E tb K (pc, ls, .inr (some q) :: st, σ) := g0 hk (o := .inl _) (show xcall E a 6 (pc + len) ls (.inr (some q) :: st) σ _ from ⟨hr, rfl⟩) g
theorem gna {at_ : ArrayType} {n : Nat} {x : Int32} (hk : xfd tb pc = some (pc, .newarray at_, len, a, b, w)) (h1 : x = nI n) (h2 : n ≤ 20000) (g : xGo E tb K (pc + len, ls, .inr (some σ.2.1) :: st, xnew σ (.inl (a, n, fun _ => 0)) n)) : xGo E tb K (pc, ls, .inl x :: st, σ) := g0 hk (o := .inl _) ⟨n, h1, h2, rfl⟩ g
theorem gnq {idx n : Nat} {x : Int32} (hk : xfd tb pc = some (pc, .anewarray idx, len, a, b, w)) (h1 : x = nI n) (h2 : n ≤ 20000) (g : xGo E tb K (pc + len, ls, .inr (some σ.2.1) :: st, xnew σ (.inr (.inl (a, n, fun _ => none))) n)) : xGo E tb K (pc, ls, .inl x :: st, σ) := g0 hk (o := .inl _) ⟨n, h1, h2, rfl⟩ g
end XRUN
theorem xup_eq (σ : xS) (k : Nat) (e : xE) : (xup σ k e).1 k = some e := if_pos rfl
theorem xup_ne {σ : xS} {k j : Nat} {e : xE} (h : j ≠ k) : (xup σ k e).1 j = σ.1 j := if_neg h
theorem xup_up (σ : xS) (k : Nat) (e e' : xE) : xup (xup σ k e) k e' = xup σ k e' := by
  unfold xup
  congr 1
  funext j
  by_cases h : j = k
  · simp [h]
  · simp [h]
theorem xup_same {σ : xS} {k : Nat} {e : xE} (h : σ.1 k = some e) : xup σ k e = σ := by
  unfold xup
  refine Prod.ext ?_ rfl
  funext j
  show (if j = k then some e else σ.1 j) = σ.1 j
  by_cases hj : j = k
  · rw [if_pos hj, hj, h]
  · rw [if_neg hj]
theorem xnew_eq (σ : xS) (e : xE) (n : Nat) : (xnew σ e n).1 σ.2.1 = some e := if_pos rfl
theorem xnew_ne {σ : xS} {j : Nat} {e : xE} {n : Nat} (h : j ≠ σ.2.1) : (xnew σ e n).1 j = σ.1 j := if_neg h
theorem ex_of {d y : Nat} {as : List xV} {σ : xS} {K : Option xV → xS → Prop} (hy : y < 143) (hl : as.length = xma y) (h : xGo (xEx d) (xtb y) K (0, as.map some ++ List.replicate (xml y - as.length) none, [], σ)) : ∃ (r : Option xV) (σ' : xS), xEx (d + 1) y as σ r σ' ∧ K r σ' := by
  obtain ⟨r, σ', h1, h2⟩ := xGo_ex h
  exact ⟨r, σ', ⟨hy, hl, h1⟩, h2⟩
theorem xst_mono {E E' : Nat → List xV → xS → Option xV → xS → Prop} (hE : ∀ y as σ r σ', E y as σ r σ' → E' y as σ r σ') {i : Instr} {len a b pc : Nat} {ls : xL} {st : List xV} {σ : xS} {o : xO} (h : xst E i len a b pc ls st σ o) : xst E' i len a b pc ls st σ o := by
  have hc : ∀ pc', xcall E a b pc' ls st σ o → xcall E' a b pc' ls st σ o := by
    intro pc' h
    unfold xcall at h ⊢
    by_cases h6 : b = 6
    · rw [if_pos h6] at h ⊢; exact h
    rw [if_neg h6] at h ⊢
    by_cases h7 : b = 7
    · rw [if_pos h7] at h ⊢; exact h
    rw [if_neg h7] at h ⊢
    by_cases h8 : b = 8
    · rw [if_pos h8] at h ⊢; exact h
    rw [if_neg h8] at h ⊢
    by_cases h9 : b = 9
    · rw [if_pos h9] at h ⊢; exact h
    rw [if_neg h9] at h ⊢
    by_cases h10 : b = 10
    · rw [if_pos h10] at h ⊢; exact h
    rw [if_neg h10] at h ⊢
    obtain ⟨r, σ1, g1, g2, g3, g4, g5⟩ := h
    exact ⟨r, σ1, g1, g2, g3, hE _ _ _ _ _ g4, g5⟩
  cases i
  case invokestatic => exact hc _ h
  case invokevirtual => exact hc _ h
  case invokespecial => exact hc _ h
  all_goals exact h
/-- deeper is as well -/
theorem xEx_deep : ∀ {d d' y : Nat} {as : List xV} {σ : xS} {r : Option xV} {σ' : xS}, d ≤ d' → xEx d y as σ r σ' → xEx d' y as σ r σ'
  | 0, _, _, _, _, _, _, _, h => h.elim
  | d + 1, 0, _, _, _, _, _, hd, _ => by omega
  | d + 1, d' + 1, y, as, σ, r, σ', hd, ⟨h1, h2, h3⟩ => by
    refine ⟨h1, h2, ?_⟩
    refine h3 (fun t => xGo (xEx d') (xtb y) (fun r0 σ0 => r0 = r ∧ σ0 = σ') t) ?_
    rintro s o ⟨ls0, x, g1, g2, g3, g4⟩ hp
    refine xGo_step (o := o) ⟨ls0, x, g1, g2, g3, xst_mono (fun y as σ r σ' h => xEx_deep (by omega) h) g4⟩ ?_
    cases o with
    | inl s' => exact hp
    | inr z => exact hp
end
section
/-! MODULE: files and trees of the class -/
def bI (b : Bool) : Int32 := if b then 1 else 0
/-- a path: its number, or none -/
theorem p_in (p : Int32) : (∃ j : Nat, j < 64 ∧ p = nI j) ∨ ¬ (0 ≤ p ∧ p < nI 64) := by
  by_cases h : 0 ≤ p ∧ p < nI 64
  · obtain ⟨j, hj, rfl⟩ := nI_of (Int32.not_lt.mpr h.1)
    exact Or.inl ⟨j, (nI_ltI hj (by decide)).mp h.2, rfl⟩
  · exact Or.inr h
theorem p_ok {j : Nat} (h : j < 64) : 0 ≤ nI j ∧ nI j < nI 64 := ⟨nI_pos' (by omega), nI_lt h (by decide)⟩
theorem m_isPath (d : Nat) (p : Int32) (σ : xS) : xEx (d + 1) 67 [.inl p] σ (some (.inl (if 0 ≤ p ∧ p < nI 64 then 1 else 0))) σ := by
  refine ⟨by decide, rfl, ?_⟩
  show xGo (xEx d) xtb_67 _ (0, [some (.inl p)], [], σ)
  repeat (first | refine gp rfl rfl rfl ?_ | refine ggf rfl (by assumption) (by rfl) ?_ | refine gal rfl (by assumption) (by rfl) (by omega) (by omega) ?_ | refine gil rfl (by assumption) (by rfl) (by omega) (by omega) ?_ | refine gbl rfl (by assumption) (by rfl) (by omega) (by omega) ?_ | refine gln rfl (xlen_i (by assumption)) ?_ | refine gln rfl (xlen_q (by assumption)) ?_)
  refine gif' rfl (fun h => ?_) (fun h => ?_)
  · repeat (first | refine gp rfl rfl rfl ?_ | refine ggf rfl (by assumption) (by rfl) ?_ | refine gal rfl (by assumption) (by rfl) (by omega) (by omega) ?_ | refine gil rfl (by assumption) (by rfl) (by omega) (by omega) ?_ | refine gbl rfl (by assumption) (by rfl) (by omega) (by omega) ?_ | refine gln rfl (xlen_i (by assumption)) ?_ | refine gln rfl (xlen_q (by assumption)) ?_)
    refine gri rfl (fun _ => Or.inl rfl) ⟨?_, rfl⟩
    rw [if_neg]
    · rfl
    · rintro ⟨h1, -⟩
      exact Int32.not_lt.mpr h1 h
  · repeat (first | refine gp rfl rfl rfl ?_ | refine ggf rfl (by assumption) (by rfl) ?_ | refine gal rfl (by assumption) (by rfl) (by omega) (by omega) ?_ | refine gil rfl (by assumption) (by rfl) (by omega) (by omega) ?_ | refine gbl rfl (by assumption) (by rfl) (by omega) (by omega) ?_ | refine gln rfl (xlen_i (by assumption)) ?_ | refine gln rfl (xlen_q (by assumption)) ?_)
    refine gcp rfl (fun h2 => ?_) (fun h2 => ?_)
    · repeat (first | refine gp rfl rfl rfl ?_ | refine ggf rfl (by assumption) (by rfl) ?_ | refine gal rfl (by assumption) (by rfl) (by omega) (by omega) ?_ | refine gil rfl (by assumption) (by rfl) (by omega) (by omega) ?_ | refine gbl rfl (by assumption) (by rfl) (by omega) (by omega) ?_ | refine gln rfl (xlen_i (by assumption)) ?_ | refine gln rfl (xlen_q (by assumption)) ?_)
      refine gri rfl (fun _ => Or.inl rfl) ⟨?_, rfl⟩
      rw [if_neg]
      · rfl
      · rintro ⟨-, h1⟩
        exact Int32.not_lt.mpr h2 h1
    · repeat (first | refine gp rfl rfl rfl ?_ | refine ggf rfl (by assumption) (by rfl) ?_ | refine gal rfl (by assumption) (by rfl) (by omega) (by omega) ?_ | refine gil rfl (by assumption) (by rfl) (by omega) (by omega) ?_ | refine gbl rfl (by assumption) (by rfl) (by omega) (by omega) ?_ | refine gln rfl (xlen_i (by assumption)) ?_ | refine gln rfl (xlen_q (by assumption)) ?_)
      refine gri rfl (fun _ => Or.inr rfl) ⟨?_, rfl⟩
      rw [if_pos]
      · rfl
      · exact ⟨Int32.not_lt.mp h, Int32.not_le.mp h2⟩
def hTree (σ : xS) (a : Nat) (g : Nat → Option Nat) : Prop := σ.1 a = some (.inr (.inr (2, [.inr (some (a + 1))]))) ∧ σ.1 (a + 1) = some (.inr (.inl (0, 64, g)))
theorem m_fileAt (d : Nat) {σ : xS} {a j : Nat} {g : Nat → Option Nat} (h : hTree σ a g) (hj : j < 64) : xEx (d + 2) 8 [.inr (some a), .inl (nI j)] σ (some (.inr (g j))) σ := by
  obtain ⟨h1, h2⟩ := h
  refine ⟨by decide, rfl, ?_⟩
  show xGo (xEx (d + 1)) xtb_8 _ (0, [some (.inr (some a)), some (.inl (nI j))], [], σ)
  repeat (first | refine gp rfl rfl rfl ?_ | refine ggf rfl (by assumption) (by rfl) ?_ | refine gal rfl (by assumption) (by rfl) (by omega) (by omega) ?_ | refine gil rfl (by assumption) (by rfl) (by omega) (by omega) ?_ | refine gbl rfl (by assumption) (by rfl) (by omega) (by omega) ?_ | refine gln rfl (xlen_i (by assumption)) ?_ | refine gln rfl (xlen_q (by assumption)) ?_)
  refine gcs rfl (by decide) (m_isPath d (nI j) σ) rfl rfl (by decide) ?_
  rw [if_pos (p_ok hj)]
  refine gif' rfl (fun h => absurd (show (1 : Int32) = 0 from h) (by decide)) (fun _ => ?_)
  repeat (first | refine gp rfl rfl rfl ?_ | refine ggf rfl (by assumption) (by rfl) ?_ | refine gal rfl (by assumption) (by rfl) (by omega) (by omega) ?_ | refine gil rfl (by assumption) (by rfl) (by omega) (by omega) ?_ | refine gbl rfl (by assumption) (by rfl) (by omega) (by omega) ?_ | refine gln rfl (xlen_i (by assumption)) ?_ | refine gln rfl (xlen_q (by assumption)) ?_)
  exact gra rfl ⟨rfl, rfl⟩
theorem m_fileAt_no (d : Nat) {σ : xS} {a : Nat} {p : Int32} (hp : ¬ (0 ≤ p ∧ p < nI 64)) : xEx (d + 2) 8 [.inr (some a), .inl p] σ (some (.inr none)) σ := by
  refine ⟨by decide, rfl, ?_⟩
  show xGo (xEx (d + 1)) xtb_8 _ (0, [some (.inr (some a)), some (.inl p)], [], σ)
  repeat (first | refine gp rfl rfl rfl ?_ | refine ggf rfl (by assumption) (by rfl) ?_ | refine gal rfl (by assumption) (by rfl) (by omega) (by omega) ?_ | refine gil rfl (by assumption) (by rfl) (by omega) (by omega) ?_ | refine gbl rfl (by assumption) (by rfl) (by omega) (by omega) ?_ | refine gln rfl (xlen_i (by assumption)) ?_ | refine gln rfl (xlen_q (by assumption)) ?_)
  refine gcs rfl (by decide) (m_isPath d p σ) rfl rfl (by decide) ?_
  rw [if_neg hp]
  refine gif' rfl (fun _ => ?_) (fun h => absurd (show (0 : Int32) = 0 from rfl) h)
  repeat (first | refine gp rfl rfl rfl ?_ | refine ggf rfl (by assumption) (by rfl) ?_ | refine gal rfl (by assumption) (by rfl) (by omega) (by omega) ?_ | refine gil rfl (by assumption) (by rfl) (by omega) (by omega) ?_ | refine gbl rfl (by assumption) (by rfl) (by omega) (by omega) ?_ | refine gln rfl (xlen_i (by assumption)) ?_ | refine gln rfl (xlen_q (by assumption)) ?_)
  exact gra rfl ⟨rfl, rfl⟩
/-- how many of the first n -/
def pCnt (P : Nat → Bool) : Nat → Nat
  | 0 => 0
  | n + 1 => pCnt P n + (if P n then 1 else 0)
theorem pCnt_le (P : Nat → Bool) : ∀ n, pCnt P n ≤ n
  | 0 => Nat.le_refl _
  | n + 1 => by
    have := pCnt_le P n
    unfold pCnt
    split <;> omega
theorem nI_s (i : Nat) : nI i + xk 1 0 = nI (i + 1) := nI_1 i
theorem m_countFiles (d : Nat) {σ : xS} {a : Nat} {g : Nat → Option Nat} (h : hTree σ a g) : xEx (d + 1) 9 [.inr (some a)] σ (some (.inl (nI (pCnt (fun i => (g i).isSome) 64)))) σ := by
  obtain ⟨h1, h2⟩ := h
  refine ⟨by decide, rfl, ?_⟩
  show xGo (xEx d) xtb_9 _ (0, [some (.inr (some a)), none, none], [], σ)
  have loop : ∀ k i, i + k = 64 → xGo (xEx d) xtb_9 (fun r0 σ0 => r0 = some (.inl (nI (pCnt (fun i => (g i).isSome) 64))) ∧ σ0 = σ) (7, [some (.inr (some a)), some (.inl (nI (pCnt (fun i => (g i).isSome) i))), some (.inl (nI i))], [.inl (nI 64), .inl (nI i)], σ) := by
    intro k
    induction k with
    | zero =>
      intro i hi
      obtain rfl : i = 64 := by omega
      refine gcp rfl (fun _ => ?_) (fun h => absurd (show nI 64 ≤ nI 64 from nI_le (Nat.le_refl _) (by decide)) h)
      repeat (first | refine gp rfl rfl rfl ?_ | refine ggf rfl (by assumption) (by rfl) ?_ | refine gal rfl (by assumption) (by rfl) (by omega) (by omega) ?_ | refine gil rfl (by assumption) (by rfl) (by omega) (by omega) ?_ | refine gbl rfl (by assumption) (by rfl) (by omega) (by omega) ?_ | refine gln rfl (xlen_i (by assumption)) ?_ | refine gln rfl (xlen_q (by assumption)) ?_)
      exact gri rfl (fun h => absurd h (by decide)) ⟨rfl, rfl⟩
    | succ k ih =>
      intro i hi
      refine gcp rfl (fun h => absurd (show nI 64 ≤ nI i from h) (nI_ge (by omega) (by decide))) (fun _ => ?_)
      repeat (first | refine gp rfl rfl rfl ?_ | refine ggf rfl (by assumption) (by rfl) ?_ | refine gal rfl (by assumption) (by rfl) (by omega) (by omega) ?_ | refine gil rfl (by assumption) (by rfl) (by omega) (by omega) ?_ | refine gbl rfl (by assumption) (by rfl) (by omega) (by omega) ?_ | refine gln rfl (xlen_i (by assumption)) ?_ | refine gln rfl (xlen_q (by assumption)) ?_)
      have ih' := ih (i + 1) (by omega)
      refine gnl rfl (fun hn => ?_) (fun z hz => ?_)
      · have e : pCnt (fun i => (g i).isSome) (i + 1) = pCnt (fun i => (g i).isSome) i := by simp [pCnt, hn]
        rw [e] at ih'
        repeat (first | refine gp rfl rfl rfl ?_ | refine ggf rfl (by assumption) (by rfl) ?_ | refine gal rfl (by assumption) (by rfl) (by omega) (by omega) ?_ | refine gil rfl (by assumption) (by rfl) (by omega) (by omega) ?_ | refine gbl rfl (by assumption) (by rfl) (by omega) (by omega) ?_ | refine gln rfl (xlen_i (by assumption)) ?_ | refine gln rfl (xlen_q (by assumption)) ?_)
        rw [nI_s]
        exact ih'
      · have e : pCnt (fun i => (g i).isSome) (i + 1) = pCnt (fun i => (g i).isSome) i + 1 := by simp [pCnt, hz]
        rw [e] at ih'
        repeat (first | refine gp rfl rfl rfl ?_ | refine ggf rfl (by assumption) (by rfl) ?_ | refine gal rfl (by assumption) (by rfl) (by omega) (by omega) ?_ | refine gil rfl (by assumption) (by rfl) (by omega) (by omega) ?_ | refine gbl rfl (by assumption) (by rfl) (by omega) (by omega) ?_ | refine gln rfl (xlen_i (by assumption)) ?_ | refine gln rfl (xlen_q (by assumption)) ?_)
        rw [nI_s, nI_s]
        exact ih'
  repeat (first | refine gp rfl rfl rfl ?_ | refine ggf rfl (by assumption) (by rfl) ?_ | refine gal rfl (by assumption) (by rfl) (by omega) (by omega) ?_ | refine gil rfl (by assumption) (by rfl) (by omega) (by omega) ?_ | refine gbl rfl (by assumption) (by rfl) (by omega) (by omega) ?_ | refine gln rfl (xlen_i (by assumption)) ?_ | refine gln rfl (xlen_q (by assumption)) ?_)
  exact loop 64 0 rfl
end
section
/-! MODULE: trees of the class, the rest -/
theorem m_lay (d : Nat) {σ : xS} {a j : Nat} {g : Nat → Option Nat} {v : Option Nat} (h : hTree σ a g) (hj : j < 64) (hv : v = none ∨ ∃ (k : Nat) (fs : List xV), v = some k ∧ σ.1 k = some (.inr (.inr (1, fs)))) : xEx (d + 2) 10 [.inr (some a), .inl (nI j), .inr v] σ none (xup σ (a + 1) (.inr (.inl (0, 64, va_up g j v)))) := by
  obtain ⟨h1, h2⟩ := h
  refine ⟨by decide, rfl, ?_⟩
  show xGo (xEx (d + 1)) xtb_10 _ (0, [some (.inr (some a)), some (.inl (nI j)), some (.inr v)], [], σ)
  repeat (first | refine gp rfl rfl rfl ?_ | refine ggf rfl (by assumption) (by rfl) ?_ | refine gal rfl (by assumption) (by rfl) (by omega) (by omega) ?_ | refine gil rfl (by assumption) (by rfl) (by omega) (by omega) ?_ | refine gbl rfl (by assumption) (by rfl) (by omega) (by omega) ?_ | refine gln rfl (xlen_i (by assumption)) ?_ | refine gln rfl (xlen_q (by assumption)) ?_)
  refine gcs rfl (by decide) (m_isPath d (nI j) σ) rfl rfl (by decide) ?_
  rw [if_pos (p_ok hj)]
  refine giff rfl (fun h => absurd (show (1 : Int32) = 0 from h) (by decide)) ?_
  repeat (first | refine gp rfl rfl rfl ?_ | refine ggf rfl (by assumption) (by rfl) ?_ | refine gal rfl (by assumption) (by rfl) (by omega) (by omega) ?_ | refine gil rfl (by assumption) (by rfl) (by omega) (by omega) ?_ | refine gbl rfl (by assumption) (by rfl) (by omega) (by omega) ?_ | refine gln rfl (xlen_i (by assumption)) ?_ | refine gln rfl (xlen_q (by assumption)) ?_)
  refine gas rfl h2 rfl hj (by omega) hv ?_
  exact grv rfl ⟨rfl, rfl⟩
theorem m_lay_no (d : Nat) {σ : xS} {a : Nat} {p : Int32} {v : Option Nat} (hp : ¬ (0 ≤ p ∧ p < nI 64)) : xEx (d + 2) 10 [.inr (some a), .inl p, .inr v] σ none σ := by
  refine ⟨by decide, rfl, ?_⟩
  show xGo (xEx (d + 1)) xtb_10 _ (0, [some (.inr (some a)), some (.inl p), some (.inr v)], [], σ)
  repeat (first | refine gp rfl rfl rfl ?_ | refine ggf rfl (by assumption) (by rfl) ?_ | refine gal rfl (by assumption) (by rfl) (by omega) (by omega) ?_ | refine gil rfl (by assumption) (by rfl) (by omega) (by omega) ?_ | refine gbl rfl (by assumption) (by rfl) (by omega) (by omega) ?_ | refine gln rfl (xlen_i (by assumption)) ?_ | refine gln rfl (xlen_q (by assumption)) ?_)
  refine gcs rfl (by decide) (m_isPath d p σ) rfl rfl (by decide) ?_
  rw [if_neg hp]
  refine git rfl (show (0 : Int32) = 0 from rfl) ?_
  exact grv rfl ⟨rfl, rfl⟩
theorem m_has (d : Nat) {σ : xS} {a j : Nat} {g : Nat → Option Nat} (h : hTree σ a g) (hj : j < 64) : xEx (d + 3) 13 [.inr (some a), .inl (nI j)] σ (some (.inl (bI (g j).isSome))) σ := by
  refine ⟨by decide, rfl, ?_⟩
  show xGo (xEx (d + 2)) xtb_13 _ (0, [some (.inr (some a)), some (.inl (nI j))], [], σ)
  repeat (first | refine gp rfl rfl rfl ?_ | refine ggf rfl (by assumption) (by rfl) ?_ | refine gal rfl (by assumption) (by rfl) (by omega) (by omega) ?_ | refine gil rfl (by assumption) (by rfl) (by omega) (by omega) ?_ | refine gbl rfl (by assumption) (by rfl) (by omega) (by omega) ?_ | refine gln rfl (xlen_i (by assumption)) ?_ | refine gln rfl (xlen_q (by assumption)) ?_)
  refine gcv (As := [.inl (nI j)]) (rest := []) rfl (by decide) (m_fileAt d h hj) h.1 rfl rfl (by decide) ?_
  refine gnl rfl (fun hn => ?_) (fun z hz => ?_)
  · repeat (first | refine gp rfl rfl rfl ?_ | refine ggf rfl (by assumption) (by rfl) ?_ | refine gal rfl (by assumption) (by rfl) (by omega) (by omega) ?_ | refine gil rfl (by assumption) (by rfl) (by omega) (by omega) ?_ | refine gbl rfl (by assumption) (by rfl) (by omega) (by omega) ?_ | refine gln rfl (xlen_i (by assumption)) ?_ | refine gln rfl (xlen_q (by assumption)) ?_)
    exact gri rfl (fun _ => Or.inl rfl) ⟨by rw [hn]; rfl, rfl⟩
  · repeat (first | refine gp rfl rfl rfl ?_ | refine ggf rfl (by assumption) (by rfl) ?_ | refine gal rfl (by assumption) (by rfl) (by omega) (by omega) ?_ | refine gil rfl (by assumption) (by rfl) (by omega) (by omega) ?_ | refine gbl rfl (by assumption) (by rfl) (by omega) (by omega) ?_ | refine gln rfl (xlen_i (by assumption)) ?_ | refine gln rfl (xlen_q (by assumption)) ?_)
    exact gri rfl (fun _ => Or.inr rfl) ⟨by rw [hz]; rfl, rfl⟩
theorem m_has_no (d : Nat) {σ : xS} {a : Nat} {g : Nat → Option Nat} {p : Int32} (h : hTree σ a g) (hp : ¬ (0 ≤ p ∧ p < nI 64)) : xEx (d + 3) 13 [.inr (some a), .inl p] σ (some (.inl 0)) σ := by
  refine ⟨by decide, rfl, ?_⟩
  show xGo (xEx (d + 2)) xtb_13 _ (0, [some (.inr (some a)), some (.inl p)], [], σ)
  repeat (first | refine gp rfl rfl rfl ?_ | refine ggf rfl (by assumption) (by rfl) ?_ | refine gal rfl (by assumption) (by rfl) (by omega) (by omega) ?_ | refine gil rfl (by assumption) (by rfl) (by omega) (by omega) ?_ | refine gbl rfl (by assumption) (by rfl) (by omega) (by omega) ?_ | refine gln rfl (xlen_i (by assumption)) ?_ | refine gln rfl (xlen_q (by assumption)) ?_)
  refine gcv (As := [.inl p]) (rest := []) rfl (by decide) (m_fileAt_no d hp) h.1 rfl rfl (by decide) ?_
  refine gnl rfl (fun hn => ?_) (fun z hz => by cases hz)
  repeat (first | refine gp rfl rfl rfl ?_ | refine ggf rfl (by assumption) (by rfl) ?_ | refine gal rfl (by assumption) (by rfl) (by omega) (by omega) ?_ | refine gil rfl (by assumption) (by rfl) (by omega) (by omega) ?_ | refine gbl rfl (by assumption) (by rfl) (by omega) (by omega) ?_ | refine gln rfl (xlen_i (by assumption)) ?_ | refine gln rfl (xlen_q (by assumption)) ?_)
  exact gri rfl (fun _ => Or.inl rfl) ⟨rfl, rfl⟩
theorem bI_t {b : Bool} (h : b = true) : bI b = 1 := by rw [h]; rfl
theorem bI_f {b : Bool} (h : b = false) : bI b = 0 := by rw [h]; rfl
/-- some of the first n -/
def pAny (P : Nat → Bool) : Nat → Bool
  | 0 => false
  | n + 1 => pAny P n || P n
theorem m_hasFileIn (d : Nat) {σ : xS} {a t : Nat} {g : Nat → Option Nat} (h : hTree σ a g) (ht : t < 8) : xEx (d + 4) 14 [.inr (some a), .inl (nI t)] σ (some (.inl (bI (pAny (fun i => (g (t * 8 + i)).isSome) 8)))) σ := by
  refine ⟨by decide, rfl, ?_⟩
  show xGo (xEx (d + 3)) xtb_14 _ (0, [some (.inr (some a)), some (.inl (nI t)), none], [], σ)
  have loop : ∀ k i, i + k = 8 → pAny (fun i => (g (t * 8 + i)).isSome) i = false → xGo (xEx (d + 3)) xtb_14 (fun r0 σ0 => r0 = some (.inl (bI (pAny (fun i => (g (t * 8 + i)).isSome) 8))) ∧ σ0 = σ) (5, [some (.inr (some a)), some (.inl (nI t)), some (.inl (nI i))], [.inl (nI 8), .inl (nI i)], σ) := by
    intro k
    induction k with
    | zero =>
      intro i hi hn
      obtain rfl : i = 8 := by omega
      refine gct rfl (show nI 8 ≤ nI 8 from nI_le (Nat.le_refl _) (by decide)) ?_
      repeat (first | refine gp rfl rfl rfl ?_ | refine ggf rfl (by assumption) (by rfl) ?_ | refine gal rfl (by assumption) (by rfl) (by omega) (by omega) ?_ | refine gil rfl (by assumption) (by rfl) (by omega) (by omega) ?_ | refine gbl rfl (by assumption) (by rfl) (by omega) (by omega) ?_ | refine gln rfl (xlen_i (by assumption)) ?_ | refine gln rfl (xlen_q (by assumption)) ?_)
      exact gri rfl (fun _ => Or.inl rfl) ⟨by rw [hn]; rfl, rfl⟩
    | succ k ih =>
      intro i hi hn
      refine gcf rfl (fun h => absurd (show nI 8 ≤ nI i from h) (nI_ge (by omega) (by decide))) ?_
      repeat (first | refine gp rfl rfl rfl ?_ | refine ggf rfl (by assumption) (by rfl) ?_ | refine gal rfl (by assumption) (by rfl) (by omega) (by omega) ?_ | refine gil rfl (by assumption) (by rfl) (by omega) (by omega) ?_ | refine gbl rfl (by assumption) (by rfl) (by omega) (by omega) ?_ | refine gln rfl (xlen_i (by assumption)) ?_ | refine gln rfl (xlen_q (by assumption)) ?_)
      have e : nI t * xk 8 0 + nI i = nI (t * 8 + i) := by
        show nI t * nI 8 + nI i = _
        rw [pk_mul, nI_add]
      rw [e]
      refine gcv (As := [.inl (nI (t * 8 + i))]) (rest := []) rfl (by decide) (m_has d h (by omega)) h.1 rfl rfl (by decide) ?_
      cases hg : (g (t * 8 + i)).isSome with
      | true =>
        refine giff rfl (fun h => absurd (show (1 : Int32) = 0 from h) (by decide)) ?_
        repeat (first | refine gp rfl rfl rfl ?_ | refine ggf rfl (by assumption) (by rfl) ?_ | refine gal rfl (by assumption) (by rfl) (by omega) (by omega) ?_ | refine gil rfl (by assumption) (by rfl) (by omega) (by omega) ?_ | refine gbl rfl (by assumption) (by rfl) (by omega) (by omega) ?_ | refine gln rfl (xlen_i (by assumption)) ?_ | refine gln rfl (xlen_q (by assumption)) ?_)
        refine gri rfl (fun _ => Or.inr rfl) ⟨?_, rfl⟩
        have e2 : ∀ m, i < m → pAny (fun i => (g (t * 8 + i)).isSome) m = true := by
          intro m hm
          induction m with
          | zero => omega
          | succ m ihm =>
            unfold pAny
            by_cases hmi : m = i
            · subst hmi; simp [hg]
            · rw [ihm (by omega)]; rfl
        rw [e2 8 (by omega)]
        rfl
      | false =>
        refine git rfl (show (0 : Int32) = 0 from rfl) ?_
        repeat (first | refine gp rfl rfl rfl ?_ | refine ggf rfl (by assumption) (by rfl) ?_ | refine gal rfl (by assumption) (by rfl) (by omega) (by omega) ?_ | refine gil rfl (by assumption) (by rfl) (by omega) (by omega) ?_ | refine gbl rfl (by assumption) (by rfl) (by omega) (by omega) ?_ | refine gln rfl (xlen_i (by assumption)) ?_ | refine gln rfl (xlen_q (by assumption)) ?_)
        rw [nI_s]
        exact ih (i + 1) (by omega) (by unfold pAny; rw [hn, hg]; rfl)
  repeat (first | refine gp rfl rfl rfl ?_ | refine ggf rfl (by assumption) (by rfl) ?_ | refine gal rfl (by assumption) (by rfl) (by omega) (by omega) ?_ | refine gil rfl (by assumption) (by rfl) (by omega) (by omega) ?_ | refine gbl rfl (by assumption) (by rfl) (by omega) (by omega) ?_ | refine gln rfl (xlen_i (by assumption)) ?_ | refine gln rfl (xlen_q (by assumption)) ?_)
  exact loop 8 0 rfl rfl
theorem m_move (d : Nat) {σ : xS} {a i j : Nat} {g : Nat → Option Nat} (h : hTree σ a g) (hi : i < 64) (hj : j < 64) (hv : g i = none ∨ ∃ (k : Nat) (fs : List xV), g i = some k ∧ σ.1 k = some (.inr (.inr (1, fs)))) : xEx (d + 3) 15 [.inr (some a), .inl (nI i), .inl (nI j)] σ none (xup σ (a + 1) (.inr (.inl (0, 64, va_up (va_up g i none) j (g i))))) := by
  refine ⟨by decide, rfl, ?_⟩
  show xGo (xEx (d + 2)) xtb_15 _ (0, [some (.inr (some a)), some (.inl (nI i)), some (.inl (nI j)), none], [], σ)
  repeat (first | refine gp rfl rfl rfl ?_ | refine ggf rfl (by assumption) (by rfl) ?_ | refine gal rfl (by assumption) (by rfl) (by omega) (by omega) ?_ | refine gil rfl (by assumption) (by rfl) (by omega) (by omega) ?_ | refine gbl rfl (by assumption) (by rfl) (by omega) (by omega) ?_ | refine gln rfl (xlen_i (by assumption)) ?_ | refine gln rfl (xlen_q (by assumption)) ?_)
  refine gcv (As := [.inl (nI i)]) (rest := []) rfl (by decide) (m_fileAt d h hi) h.1 rfl rfl (by decide) ?_
  repeat (first | refine gp rfl rfl rfl ?_ | refine ggf rfl (by assumption) (by rfl) ?_ | refine gal rfl (by assumption) (by rfl) (by omega) (by omega) ?_ | refine gil rfl (by assumption) (by rfl) (by omega) (by omega) ?_ | refine gbl rfl (by assumption) (by rfl) (by omega) (by omega) ?_ | refine gln rfl (xlen_i (by assumption)) ?_ | refine gln rfl (xlen_q (by assumption)) ?_)
  refine gcv (As := [.inl (nI i), .inr none]) (rest := []) rfl (by decide) (m_lay d h hi (Or.inl rfl)) h.1 rfl rfl (by decide) ?_
  have h' : hTree (xup σ (a + 1) (.inr (.inl (0, 64, va_up g i none)))) a (va_up g i none) := ⟨by rw [xup_ne (by omega)]; exact h.1, xup_eq _ _ _⟩
  repeat (first | refine gp rfl rfl rfl ?_ | refine ggf rfl (by assumption) (by rfl) ?_ | refine gal rfl (by assumption) (by rfl) (by omega) (by omega) ?_ | refine gil rfl (by assumption) (by rfl) (by omega) (by omega) ?_ | refine gbl rfl (by assumption) (by rfl) (by omega) (by omega) ?_ | refine gln rfl (xlen_i (by assumption)) ?_ | refine gln rfl (xlen_q (by assumption)) ?_)
  refine gcv (As := [.inl (nI j), .inr (g i)]) (rest := []) rfl (by decide) (m_lay d h' hj ?_) h'.1 rfl rfl (by decide) ?_
  · rcases hv with hv | ⟨k, fs, hv, hk⟩
    · exact Or.inl hv
    · refine Or.inr ⟨k, fs, hv, ?_⟩
      by_cases hka : k = a + 1
      · rw [hka, h.2] at hk; cases hk
      · rw [xup_ne hka]; exact hk
  · rw [xup_up]
    exact grv rfl ⟨rfl, rfl⟩
end
section
/-! MODULE: files of the class -/
abbrev pF : Type := Bool × List Int32
def hInts (σ : xS) (b : Nat) (l : List Int32) : Prop := ∃ f : Nat → Int32, σ.1 b = some (.inl (0, l.length, f)) ∧ ∀ j, j < l.length → f j = l.getD j 0
/-- a file lies at q: its two cells are none of the 63 that stay -/
def hFile (σ : xS) (q : Nat) (F : pF) : Prop := ∃ b : Nat, σ.1 q = some (.inr (.inr (1, [.inl (bI F.1), .inr (some b)]))) ∧ hInts σ b F.2 ∧ F.2.length ≤ 76 ∧ 63 ≤ q ∧ 63 ≤ b
def hOpt (σ : xS) (q : Option Nat) (F : Option pF) : Prop := match q, F with
  | none, none => True
  | some q, some F => hFile σ q F
  | _, _ => False
/-- what was made stays as it is -/
def hKeep (σ σ' : xS) : Prop := ∀ (k : Nat) (e : xE), 63 ≤ k → σ.1 k = some e → σ'.1 k = some e
theorem hFile.keep {σ σ' : xS} {q : Nat} {F : pF} (h : hFile σ q F) (hk : hKeep σ σ') : hFile σ' q F := by
  obtain ⟨b, h1, ⟨f, h2, h3⟩, h4, h5, h6⟩ := h
  exact ⟨b, hk _ _ h5 h1, ⟨f, hk _ _ h6 h2, h3⟩, h4, h5, h6⟩
theorem hOpt.keep {σ σ' : xS} {q : Option Nat} {F : Option pF} (h : hOpt σ q F) (hk : hKeep σ σ') : hOpt σ' q F := by
  match q, F, h with
  | none, none, _ => trivial
  | some q, some F, h => exact hFile.keep h hk
theorem hKeep.refl (σ : xS) : hKeep σ σ := fun _ _ _ h => h
theorem hKeep.trans {a b c : xS} (h1 : hKeep a b) (h2 : hKeep b c) : hKeep a c := fun k e hk h => h2 k e hk (h1 k e hk h)
theorem hKeep.up {σ : xS} {k : Nat} {e : xE} (h : k < 63) : hKeep σ (xup σ k e) := fun j e' hj hs => by rw [xup_ne (by omega)]; exact hs
theorem m_lineAt (d : Nat) {σ : xS} {q j : Nat} {F : pF} (h : hFile σ q F) (hj : j < F.2.length) : xEx (d + 1) 4 [.inr (some q), .inl (nI j)] σ (some (.inl (F.2.getD j 0))) σ := by
  obtain ⟨b, h1, ⟨f, h2, h3⟩, h4, -, -⟩ := h
  refine ⟨by decide, rfl, ?_⟩
  show xGo (xEx d) xtb_4 _ (0, [some (.inr (some q)), some (.inl (nI j))], [], σ)
  repeat (first | refine gp rfl rfl rfl ?_ | refine ggf rfl (by assumption) (by rfl) ?_ | refine gal rfl (by assumption) (by rfl) (by omega) (by omega) ?_ | refine gil rfl (by assumption) (by rfl) (by omega) (by omega) ?_ | refine gbl rfl (by assumption) (by rfl) (by omega) (by omega) ?_ | refine gln rfl (xlen_i (by assumption)) ?_ | refine gln rfl (xlen_q (by assumption)) ?_)
  refine giff rfl (nI_pos (by omega)) ?_
  repeat (first | refine gp rfl rfl rfl ?_ | refine ggf rfl (by assumption) (by rfl) ?_ | refine gal rfl (by assumption) (by rfl) (by omega) (by omega) ?_ | refine gil rfl (by assumption) (by rfl) (by omega) (by omega) ?_ | refine gbl rfl (by assumption) (by rfl) (by omega) (by omega) ?_ | refine gln rfl (xlen_i (by assumption)) ?_ | refine gln rfl (xlen_q (by assumption)) ?_)
  refine gcf rfl (nI_ge hj (by omega)) ?_
  repeat (first | refine gp rfl rfl rfl ?_ | refine ggf rfl (by assumption) (by rfl) ?_ | refine gal rfl (by assumption) (by rfl) (by omega) (by omega) ?_ | refine gil rfl (by assumption) (by rfl) (by omega) (by omega) ?_ | refine gbl rfl (by assumption) (by rfl) (by omega) (by omega) ?_ | refine gln rfl (xlen_i (by assumption)) ?_ | refine gln rfl (xlen_q (by assumption)) ?_)
  refine gri rfl (fun h => absurd h (by decide)) ⟨by rw [h3 j hj], rfl⟩
theorem m_lineAt_no (d : Nat) {σ : xS} {q : Nat} {x : Int32} {F : pF} (h : hFile σ q F) (hx : ¬ (0 ≤ x ∧ x < nI F.2.length)) : xEx (d + 1) 4 [.inr (some q), .inl x] σ (some (.inl 0)) σ := by
  obtain ⟨b, h1, ⟨f, h2, h3⟩, h4, -, -⟩ := h
  refine ⟨by decide, rfl, ?_⟩
  show xGo (xEx d) xtb_4 _ (0, [some (.inr (some q)), some (.inl x)], [], σ)
  repeat (first | refine gp rfl rfl rfl ?_ | refine ggf rfl (by assumption) (by rfl) ?_ | refine gal rfl (by assumption) (by rfl) (by omega) (by omega) ?_ | refine gil rfl (by assumption) (by rfl) (by omega) (by omega) ?_ | refine gbl rfl (by assumption) (by rfl) (by omega) (by omega) ?_ | refine gln rfl (xlen_i (by assumption)) ?_ | refine gln rfl (xlen_q (by assumption)) ?_)
  refine gif' rfl (fun hn => ?_) (fun hn => ?_)
  · repeat (first | refine gp rfl rfl rfl ?_ | refine ggf rfl (by assumption) (by rfl) ?_ | refine gal rfl (by assumption) (by rfl) (by omega) (by omega) ?_ | refine gil rfl (by assumption) (by rfl) (by omega) (by omega) ?_ | refine gbl rfl (by assumption) (by rfl) (by omega) (by omega) ?_ | refine gln rfl (xlen_i (by assumption)) ?_ | refine gln rfl (xlen_q (by assumption)) ?_)
    exact gri rfl (fun h => absurd h (by decide)) ⟨rfl, rfl⟩
  · repeat (first | refine gp rfl rfl rfl ?_ | refine ggf rfl (by assumption) (by rfl) ?_ | refine gal rfl (by assumption) (by rfl) (by omega) (by omega) ?_ | refine gil rfl (by assumption) (by rfl) (by omega) (by omega) ?_ | refine gbl rfl (by assumption) (by rfl) (by omega) (by omega) ?_ | refine gln rfl (xlen_i (by assumption)) ?_ | refine gln rfl (xlen_q (by assumption)) ?_)
    refine gct rfl (show nI F.2.length ≤ x from ?_) ?_
    · exact Int32.not_lt.mp (fun z => hx ⟨Int32.not_lt.mp hn, z⟩)
    · repeat (first | refine gp rfl rfl rfl ?_ | refine ggf rfl (by assumption) (by rfl) ?_ | refine gal rfl (by assumption) (by rfl) (by omega) (by omega) ?_ | refine gil rfl (by assumption) (by rfl) (by omega) (by omega) ?_ | refine gbl rfl (by assumption) (by rfl) (by omega) (by omega) ?_ | refine gln rfl (xlen_i (by assumption)) ?_ | refine gln rfl (xlen_q (by assumption)) ?_)
      exact gri rfl (fun h => absurd h (by decide)) ⟨rfl, rfl⟩
theorem bI_inj {a b : Bool} (h : bI a = bI b) : a = b := by
  cases a <;> cases b <;> first | rfl | (exfalso; revert h; decide)
theorem pF_ext {l l' : List Int32} (h : l.length = l'.length) (h2 : ∀ j, j < l.length → l.getD j 0 = l'.getD j 0) : l = l' := by
  apply List.ext_getElem h
  intro j h3 h4
  have := h2 j h3
  simpa [List.getD_eq_getElem?_getD, h3, h4] using this
theorem m_same (d : Nat) {σ : xS} {q1 q2 : Option Nat} {F1 F2 : Option pF} (h1 : hOpt σ q1 F1) (h2 : hOpt σ q2 F2) : xEx (d + 2) 3 [.inr q1, .inr q2] σ (some (.inl (bI (decide (F1 = F2))))) σ := by
  refine ⟨by decide, rfl, ?_⟩
  show xGo (xEx (d + 1)) xtb_3 _ (0, [some (.inr q1), some (.inr q2), none], [], σ)
  match q1, F1, h1, q2, F2, h2 with
  | none, none, _, none, none, _ =>
    repeat (first | refine gp rfl rfl rfl ?_ | refine ggf rfl (by assumption) (by rfl) ?_ | refine gal rfl (by assumption) (by rfl) (by omega) (by omega) ?_ | refine gil rfl (by assumption) (by rfl) (by omega) (by omega) ?_ | refine gbl rfl (by assumption) (by rfl) (by omega) (by omega) ?_ | refine gln rfl (xlen_i (by assumption)) ?_ | refine gln rfl (xlen_q (by assumption)) ?_)
    refine gnl rfl (fun _ => ?_) (fun z hz => by cases hz)
    repeat (first | refine gp rfl rfl rfl ?_ | refine ggf rfl (by assumption) (by rfl) ?_ | refine gal rfl (by assumption) (by rfl) (by omega) (by omega) ?_ | refine gil rfl (by assumption) (by rfl) (by omega) (by omega) ?_ | refine gbl rfl (by assumption) (by rfl) (by omega) (by omega) ?_ | refine gln rfl (xlen_i (by assumption)) ?_ | refine gln rfl (xlen_q (by assumption)) ?_)
    refine gnn rfl (fun z hz => by cases hz) (fun _ => ?_)
    repeat (first | refine gp rfl rfl rfl ?_ | refine ggf rfl (by assumption) (by rfl) ?_ | refine gal rfl (by assumption) (by rfl) (by omega) (by omega) ?_ | refine gil rfl (by assumption) (by rfl) (by omega) (by omega) ?_ | refine gbl rfl (by assumption) (by rfl) (by omega) (by omega) ?_ | refine gln rfl (xlen_i (by assumption)) ?_ | refine gln rfl (xlen_q (by assumption)) ?_)
    refine gnn rfl (fun z hz => by cases hz) (fun _ => ?_)
    repeat (first | refine gp rfl rfl rfl ?_ | refine ggf rfl (by assumption) (by rfl) ?_ | refine gal rfl (by assumption) (by rfl) (by omega) (by omega) ?_ | refine gil rfl (by assumption) (by rfl) (by omega) (by omega) ?_ | refine gbl rfl (by assumption) (by rfl) (by omega) (by omega) ?_ | refine gln rfl (xlen_i (by assumption)) ?_ | refine gln rfl (xlen_q (by assumption)) ?_)
    exact gri rfl (fun _ => Or.inr rfl) ⟨rfl, rfl⟩
  | none, none, _, some q2, some F2, _ =>
    repeat (first | refine gp rfl rfl rfl ?_ | refine ggf rfl (by assumption) (by rfl) ?_ | refine gal rfl (by assumption) (by rfl) (by omega) (by omega) ?_ | refine gil rfl (by assumption) (by rfl) (by omega) (by omega) ?_ | refine gbl rfl (by assumption) (by rfl) (by omega) (by omega) ?_ | refine gln rfl (xlen_i (by assumption)) ?_ | refine gln rfl (xlen_q (by assumption)) ?_)
    refine gnl rfl (fun _ => ?_) (fun z hz => by cases hz)
    repeat (first | refine gp rfl rfl rfl ?_ | refine ggf rfl (by assumption) (by rfl) ?_ | refine gal rfl (by assumption) (by rfl) (by omega) (by omega) ?_ | refine gil rfl (by assumption) (by rfl) (by omega) (by omega) ?_ | refine gbl rfl (by assumption) (by rfl) (by omega) (by omega) ?_ | refine gln rfl (xlen_i (by assumption)) ?_ | refine gln rfl (xlen_q (by assumption)) ?_)
    refine gnn rfl (fun z hz => by cases hz) (fun _ => ?_)
    repeat (first | refine gp rfl rfl rfl ?_ | refine ggf rfl (by assumption) (by rfl) ?_ | refine gal rfl (by assumption) (by rfl) (by omega) (by omega) ?_ | refine gil rfl (by assumption) (by rfl) (by omega) (by omega) ?_ | refine gbl rfl (by assumption) (by rfl) (by omega) (by omega) ?_ | refine gln rfl (xlen_i (by assumption)) ?_ | refine gln rfl (xlen_q (by assumption)) ?_)
    refine gnn rfl (fun z hz => ?_) (fun hz => by cases hz)
    repeat (first | refine gp rfl rfl rfl ?_ | refine ggf rfl (by assumption) (by rfl) ?_ | refine gal rfl (by assumption) (by rfl) (by omega) (by omega) ?_ | refine gil rfl (by assumption) (by rfl) (by omega) (by omega) ?_ | refine gbl rfl (by assumption) (by rfl) (by omega) (by omega) ?_ | refine gln rfl (xlen_i (by assumption)) ?_ | refine gln rfl (xlen_q (by assumption)) ?_)
    exact gri rfl (fun _ => Or.inl rfl) ⟨rfl, rfl⟩
  | some q1, some F1, _, none, none, _ =>
    repeat (first | refine gp rfl rfl rfl ?_ | refine ggf rfl (by assumption) (by rfl) ?_ | refine gal rfl (by assumption) (by rfl) (by omega) (by omega) ?_ | refine gil rfl (by assumption) (by rfl) (by omega) (by omega) ?_ | refine gbl rfl (by assumption) (by rfl) (by omega) (by omega) ?_ | refine gln rfl (xlen_i (by assumption)) ?_ | refine gln rfl (xlen_q (by assumption)) ?_)
    refine gnl rfl (fun hz => by cases hz) (fun z hz => ?_)
    repeat (first | refine gp rfl rfl rfl ?_ | refine ggf rfl (by assumption) (by rfl) ?_ | refine gal rfl (by assumption) (by rfl) (by omega) (by omega) ?_ | refine gil rfl (by assumption) (by rfl) (by omega) (by omega) ?_ | refine gbl rfl (by assumption) (by rfl) (by omega) (by omega) ?_ | refine gln rfl (xlen_i (by assumption)) ?_ | refine gln rfl (xlen_q (by assumption)) ?_)
    refine gnn rfl (fun z hz => by cases hz) (fun _ => ?_)
    repeat (first | refine gp rfl rfl rfl ?_ | refine ggf rfl (by assumption) (by rfl) ?_ | refine gal rfl (by assumption) (by rfl) (by omega) (by omega) ?_ | refine gil rfl (by assumption) (by rfl) (by omega) (by omega) ?_ | refine gbl rfl (by assumption) (by rfl) (by omega) (by omega) ?_ | refine gln rfl (xlen_i (by assumption)) ?_ | refine gln rfl (xlen_q (by assumption)) ?_)
    refine gnn rfl (fun z hz => ?_) (fun hz => by cases hz)
    repeat (first | refine gp rfl rfl rfl ?_ | refine ggf rfl (by assumption) (by rfl) ?_ | refine gal rfl (by assumption) (by rfl) (by omega) (by omega) ?_ | refine gil rfl (by assumption) (by rfl) (by omega) (by omega) ?_ | refine gbl rfl (by assumption) (by rfl) (by omega) (by omega) ?_ | refine gln rfl (xlen_i (by assumption)) ?_ | refine gln rfl (xlen_q (by assumption)) ?_)
    exact gri rfl (fun _ => Or.inl rfl) ⟨rfl, rfl⟩
  | some q1, some F1, h1, some q2, some F2, h2 =>
    have hh1 : hFile σ q1 F1 := h1
    have hh2 : hFile σ q2 F2 := h2
    obtain ⟨b1, c1, ⟨f1, c2, c3⟩, c4, -, -⟩ := h1
    obtain ⟨b2, e1, ⟨f2, e2, e3⟩, e4, -, -⟩ := h2
    repeat (first | refine gp rfl rfl rfl ?_ | refine ggf rfl (by assumption) (by rfl) ?_ | refine gal rfl (by assumption) (by rfl) (by omega) (by omega) ?_ | refine gil rfl (by assumption) (by rfl) (by omega) (by omega) ?_ | refine gbl rfl (by assumption) (by rfl) (by omega) (by omega) ?_ | refine gln rfl (xlen_i (by assumption)) ?_ | refine gln rfl (xlen_q (by assumption)) ?_)
    refine gnl rfl (fun hz => by cases hz) (fun z hz => ?_)
    repeat (first | refine gp rfl rfl rfl ?_ | refine ggf rfl (by assumption) (by rfl) ?_ | refine gal rfl (by assumption) (by rfl) (by omega) (by omega) ?_ | refine gil rfl (by assumption) (by rfl) (by omega) (by omega) ?_ | refine gbl rfl (by assumption) (by rfl) (by omega) (by omega) ?_ | refine gln rfl (xlen_i (by assumption)) ?_ | refine gln rfl (xlen_q (by assumption)) ?_)
    refine gnn rfl (fun z hz => ?_) (fun hz => by cases hz)
    repeat (first | refine gp rfl rfl rfl ?_ | refine ggf rfl (by assumption) (by rfl) ?_ | refine gal rfl (by assumption) (by rfl) (by omega) (by omega) ?_ | refine gil rfl (by assumption) (by rfl) (by omega) (by omega) ?_ | refine gbl rfl (by assumption) (by rfl) (by omega) (by omega) ?_ | refine gln rfl (xlen_i (by assumption)) ?_ | refine gln rfl (xlen_q (by assumption)) ?_)
    refine gcp rfl (fun hne => ?_) (fun heq => ?_)
    · repeat (first | refine gp rfl rfl rfl ?_ | refine ggf rfl (by assumption) (by rfl) ?_ | refine gal rfl (by assumption) (by rfl) (by omega) (by omega) ?_ | refine gil rfl (by assumption) (by rfl) (by omega) (by omega) ?_ | refine gbl rfl (by assumption) (by rfl) (by omega) (by omega) ?_ | refine gln rfl (xlen_i (by assumption)) ?_ | refine gln rfl (xlen_q (by assumption)) ?_)
      refine gri rfl (fun _ => Or.inl rfl) ⟨?_, rfl⟩
      rw [decide_eq_false (fun z => hne (show bI F1.1 = bI F2.1 by cases z; rfl))]
      rfl
    · have heq : bI F1.1 = bI F2.1 := by
        by_cases hz : bI F1.1 = bI F2.1
        · exact hz
        · exact absurd hz heq
      repeat (first | refine gp rfl rfl rfl ?_ | refine ggf rfl (by assumption) (by rfl) ?_ | refine gal rfl (by assumption) (by rfl) (by omega) (by omega) ?_ | refine gil rfl (by assumption) (by rfl) (by omega) (by omega) ?_ | refine gbl rfl (by assumption) (by rfl) (by omega) (by omega) ?_ | refine gln rfl (xlen_i (by assumption)) ?_ | refine gln rfl (xlen_q (by assumption)) ?_)
      refine gcp rfl (fun hlen => ?_) (fun hlen => ?_)
      · have hlen : F1.2.length = F2.2.length := (nI_eq (by omega) (by omega)).mp hlen
        have loop : ∀ k i, i + k = F1.2.length → (∀ j, j < i → F1.2.getD j 0 = F2.2.getD j 0) → xGo (xEx (d + 1)) xtb_3 (fun r0 σ0 => r0 = some (.inl (bI (decide (some F1 = some F2)))) ∧ σ0 = σ) (56, [some (.inr (some q1)), some (.inr (some q2)), some (.inl (nI i))], [.inl (nI F1.2.length), .inl (nI i)], σ) := by
          intro k
          induction k with
          | zero =>
            intro i hi hall
            obtain rfl : i = F1.2.length := by omega
            refine gct rfl (show nI _ ≤ nI _ from nI_le (Nat.le_refl _) (by omega)) ?_
            repeat (first | refine gp rfl rfl rfl ?_ | refine ggf rfl (by assumption) (by rfl) ?_ | refine gal rfl (by assumption) (by rfl) (by omega) (by omega) ?_ | refine gil rfl (by assumption) (by rfl) (by omega) (by omega) ?_ | refine gbl rfl (by assumption) (by rfl) (by omega) (by omega) ?_ | refine gln rfl (xlen_i (by assumption)) ?_ | refine gln rfl (xlen_q (by assumption)) ?_)
            refine gri rfl (fun _ => Or.inr rfl) ⟨?_, rfl⟩
            rw [decide_eq_true]
            · rfl
            · exact congrArg some (Prod.ext (bI_inj heq) (pF_ext hlen hall))
          | succ k ih =>
            intro i hi hall
            refine gcf rfl (nI_ge (by omega) (by omega)) ?_
            repeat (first | refine gp rfl rfl rfl ?_ | refine ggf rfl (by assumption) (by rfl) ?_ | refine gal rfl (by assumption) (by rfl) (by omega) (by omega) ?_ | refine gil rfl (by assumption) (by rfl) (by omega) (by omega) ?_ | refine gbl rfl (by assumption) (by rfl) (by omega) (by omega) ?_ | refine gln rfl (xlen_i (by assumption)) ?_ | refine gln rfl (xlen_q (by assumption)) ?_)
            refine gcv (As := [.inl (nI i)]) (rest := []) rfl (by decide) (m_lineAt d hh1 (by omega)) c1 rfl rfl (by decide) ?_
            repeat (first | refine gp rfl rfl rfl ?_ | refine ggf rfl (by assumption) (by rfl) ?_ | refine gal rfl (by assumption) (by rfl) (by omega) (by omega) ?_ | refine gil rfl (by assumption) (by rfl) (by omega) (by omega) ?_ | refine gbl rfl (by assumption) (by rfl) (by omega) (by omega) ?_ | refine gln rfl (xlen_i (by assumption)) ?_ | refine gln rfl (xlen_q (by assumption)) ?_)
            refine gcv (As := [.inl (nI i)]) (rest := [.inl (F1.2.getD i 0)]) rfl (by decide) (m_lineAt d hh2 (by omega)) e1 rfl rfl (Nat.le_of_ble_eq_true rfl) ?_
            refine gcp rfl (fun h => ?_) (fun h => ?_)
            · repeat (first | refine gp rfl rfl rfl ?_ | refine ggf rfl (by assumption) (by rfl) ?_ | refine gal rfl (by assumption) (by rfl) (by omega) (by omega) ?_ | refine gil rfl (by assumption) (by rfl) (by omega) (by omega) ?_ | refine gbl rfl (by assumption) (by rfl) (by omega) (by omega) ?_ | refine gln rfl (xlen_i (by assumption)) ?_ | refine gln rfl (xlen_q (by assumption)) ?_)
              rw [nI_s]
              refine ih (i + 1) (by omega) (fun j hj => ?_)
              by_cases hji : j = i
              · subst hji; exact h
              · exact hall j (by omega)
            · repeat (first | refine gp rfl rfl rfl ?_ | refine ggf rfl (by assumption) (by rfl) ?_ | refine gal rfl (by assumption) (by rfl) (by omega) (by omega) ?_ | refine gil rfl (by assumption) (by rfl) (by omega) (by omega) ?_ | refine gbl rfl (by assumption) (by rfl) (by omega) (by omega) ?_ | refine gln rfl (xlen_i (by assumption)) ?_ | refine gln rfl (xlen_q (by assumption)) ?_)
              refine gri rfl (fun _ => Or.inl rfl) ⟨?_, rfl⟩
              rw [decide_eq_false (fun z => h (by cases z; rfl))]
              rfl
        repeat (first | refine gp rfl rfl rfl ?_ | refine ggf rfl (by assumption) (by rfl) ?_ | refine gal rfl (by assumption) (by rfl) (by omega) (by omega) ?_ | refine gil rfl (by assumption) (by rfl) (by omega) (by omega) ?_ | refine gbl rfl (by assumption) (by rfl) (by omega) (by omega) ?_ | refine gln rfl (xlen_i (by assumption)) ?_ | refine gln rfl (xlen_q (by assumption)) ?_)
        exact loop F1.2.length 0 (by omega) (fun j hj => absurd hj (by omega))
      · repeat (first | refine gp rfl rfl rfl ?_ | refine ggf rfl (by assumption) (by rfl) ?_ | refine gal rfl (by assumption) (by rfl) (by omega) (by omega) ?_ | refine gil rfl (by assumption) (by rfl) (by omega) (by omega) ?_ | refine gbl rfl (by assumption) (by rfl) (by omega) (by omega) ?_ | refine gln rfl (xlen_i (by assumption)) ?_ | refine gln rfl (xlen_q (by assumption)) ?_)
        refine gri rfl (fun _ => Or.inl rfl) ⟨?_, rfl⟩
        rw [decide_eq_false (fun z => hlen (show nI F1.2.length = nI F2.2.length by cases z; rfl))]
        rfl
theorem m_become (d : Nat) {σ : xS} {a c : Nat} {g g' : Nat → Option Nat} (h : hTree σ a g) (h' : hTree σ c g') (hac : a ≠ c) (hv : ∀ j, j < 64 → g' j = none ∨ ∃ (k : Nat) (fs : List xV), g' j = some k ∧ σ.1 k = some (.inr (.inr (1, fs)))) :
    ∃ g'' : Nat → Option Nat, (∀ j, j < 64 → g'' j = g' j) ∧ xEx (d + 1) 11 [.inr (some a), .inr (some c)] σ none (xup σ (a + 1) (.inr (.inl (0, 64, g'')))) := by
  obtain ⟨h1, h2⟩ := h
  obtain ⟨h3, h4⟩ := h'
  have hca : c ≠ a + 1 := fun z => by rw [z, h2] at h3; cases h3
  have hac2 : a ≠ c + 1 := fun z => by rw [z, h4] at h1; cases h1
  have loop : ∀ k i (gi : Nat → Option Nat), i + k = 64 → (∀ j, j < i → gi j = g' j) → xGo (xEx d) xtb_11 (fun r0 σ0 => r0 = none ∧ ∃ g'' : Nat → Option Nat, (∀ j, j < 64 → g'' j = g' j) ∧ σ0 = xup σ (a + 1) (.inr (.inl (0, 64, g'')))) (5, [some (.inr (some a)), some (.inr (some c)), some (.inl (nI i))], [.inl (nI 64), .inl (nI i)], xup σ (a + 1) (.inr (.inl (0, 64, gi)))) := by
    intro k
    induction k with
    | zero =>
      intro i gi hi hall
      obtain rfl : i = 64 := by omega
      refine gct rfl (show nI _ ≤ nI _ from nI_le (Nat.le_refl _) (by omega)) ?_
      exact grv rfl ⟨rfl, gi, hall, rfl⟩
    | succ k ih =>
      intro i gi hi hall
      have c1 : (xup σ (a + 1) (.inr (.inl (0, 64, gi)))).1 a = some (.inr (.inr (2, [.inr (some (a + 1))]))) := by rw [xup_ne (by omega)]; exact h1
      have c2 : (xup σ (a + 1) (.inr (.inl (0, 64, gi)))).1 (a + 1) = some (.inr (.inl (0, 64, gi))) := xup_eq _ _ _
      have c3 : (xup σ (a + 1) (.inr (.inl (0, 64, gi)))).1 c = some (.inr (.inr (2, [.inr (some (c + 1))]))) := by rw [xup_ne hca]; exact h3
      have c4 : (xup σ (a + 1) (.inr (.inl (0, 64, gi)))).1 (c + 1) = some (.inr (.inl (0, 64, g'))) := by rw [xup_ne (by omega)]; exact h4
      refine gcf rfl (nI_ge (by omega) (by omega)) ?_
      repeat (first | refine gp rfl rfl rfl ?_ | refine ggf rfl (by assumption) (by rfl) ?_ | refine gal rfl (by assumption) (by rfl) (by omega) (by omega) ?_ | refine gil rfl (by assumption) (by rfl) (by omega) (by omega) ?_ | refine gbl rfl (by assumption) (by rfl) (by omega) (by omega) ?_ | refine gln rfl (xlen_i (by assumption)) ?_ | refine gln rfl (xlen_q (by assumption)) ?_)
      refine gas rfl c2 rfl (by omega) (by omega) ?_ ?_
      · rcases hv i (by omega) with h | ⟨k, fs, h, h5⟩
        · exact Or.inl h
        · refine Or.inr ⟨k, fs, h, ?_⟩
          have hka : k ≠ a + 1 := fun z => by rw [z, h2] at h5; cases h5
          rw [xup_ne hka]
          exact h5
      · rw [xup_up]
        repeat (first | refine gp rfl rfl rfl ?_ | refine ggf rfl (by assumption) (by rfl) ?_ | refine gal rfl (by assumption) (by rfl) (by omega) (by omega) ?_ | refine gil rfl (by assumption) (by rfl) (by omega) (by omega) ?_ | refine gbl rfl (by assumption) (by rfl) (by omega) (by omega) ?_ | refine gln rfl (xlen_i (by assumption)) ?_ | refine gln rfl (xlen_q (by assumption)) ?_)
        rw [nI_s]
        refine ih (i + 1) _ (by omega) (fun j hj => ?_)
        by_cases hji : j = i
        · subst hji; simp [va_up]
        · simp [va_up, hji]; exact hall j (by omega)
  obtain ⟨r, σ', hex, rfl, g'', hg, rfl⟩ := ex_of (d := d) (y := 11) (as := [.inr (some a), .inr (some c)]) (σ := σ) (K := fun r0 σ0 => r0 = none ∧ ∃ g'' : Nat → Option Nat, (∀ j, j < 64 → g'' j = g' j) ∧ σ0 = xup σ (a + 1) (.inr (.inl (0, 64, g'')))) (by decide) rfl (by
    show xGo (xEx d) xtb_11 _ (0, [some (.inr (some a)), some (.inr (some c)), none], [], σ)
    repeat (first | refine gp rfl rfl rfl ?_ | refine ggf rfl (by assumption) (by rfl) ?_ | refine gal rfl (by assumption) (by rfl) (by omega) (by omega) ?_ | refine gil rfl (by assumption) (by rfl) (by omega) (by omega) ?_ | refine gbl rfl (by assumption) (by rfl) (by omega) (by omega) ?_ | refine gln rfl (xlen_i (by assumption)) ?_ | refine gln rfl (xlen_q (by assumption)) ?_)
    have := loop 64 0 g rfl (fun j hj => absurd hj (by omega))
    rw [xup_same h2] at this
    exact this)
  exact ⟨g'', hg, hex⟩
end
section
/-! MODULE: small ones -/
theorem m_nameOf (d : Nat) {σ : xS} {j : Nat} (hj : j < 1000) : xEx (d + 1) 74 [.inl (nI j)] σ (some (.inl (nI (j % 8)))) σ := by
  refine ⟨by decide, rfl, ?_⟩
  show xGo (xEx d) xtb_74 _ (0, [some (.inl (nI j))], [], σ)
  refine gp rfl rfl rfl ?_
  refine gp rfl rfl rfl ?_
  refine gp rfl rfl ⟨by decide, rfl⟩ ?_
  refine gri rfl (fun h => absurd h (by decide)) ⟨?_, rfl⟩
  show some (Sum.inl (nI j - nI j / nI 8 * nI 8)) = _
  rw [pk_rem (by omega) (by decide) (by decide)]
theorem m_dirOf (d : Nat) {σ : xS} {j : Nat} (hj : j < 1000) : xEx (d + 1) 75 [.inl (nI j)] σ (some (.inl (nI (j / 8)))) σ := by
  refine ⟨by decide, rfl, ?_⟩
  show xGo (xEx d) xtb_75 _ (0, [some (.inl (nI j))], [], σ)
  refine gp rfl rfl rfl ?_
  refine gp rfl rfl rfl ?_
  refine gp rfl rfl ⟨by decide, rfl⟩ ?_
  refine gri rfl (fun h => absurd h (by decide)) ⟨?_, rfl⟩
  show some (Sum.inl (nI j / nI 8)) = _
  rw [pk_div (by omega) (by decide) (by decide)]
theorem m_fill (d : Nat) {σ : xS} {q n : Nat} {f : Nat → Int32} {x : Int32} (h : σ.1 q = some (.inl (0, n, f))) (hn : n < 2147483648) (hq : 2 ≤ q) : ∃ f' : Nat → Int32, (∀ j, j < n → f' j = x) ∧ xEx (d + 1) 0 [.inr (some q), .inl x] σ none (xup σ q (.inl (0, n, f'))) := by
  have loop : ∀ k i (fi : Nat → Int32), i + k = n → (∀ j, j < i → fi j = x) → xGo (xEx d) xtb_0 (fun r0 σ0 => r0 = none ∧ ∃ f' : Nat → Int32, (∀ j, j < n → f' j = x) ∧ σ0 = xup σ q (.inl (0, n, f'))) (7, [some (.inr (some q)), some (.inl x), some (.inl (nI i)), some (.inl (nI n))], [.inl (nI n), .inl (nI i)], xup σ q (.inl (0, n, fi))) := by
    intro k
    induction k with
    | zero =>
      intro i fi hi hall
      obtain rfl : i = n := by omega
      refine gct rfl (show nI _ ≤ nI _ from nI_le (Nat.le_refl _) hn) ?_
      exact grv rfl ⟨rfl, fi, hall, rfl⟩
    | succ k ih =>
      intro i fi hi hall
      refine gcf rfl (nI_ge (by omega) hn) ?_
      repeat (first | refine gp rfl rfl rfl ?_ | refine ggf rfl (by assumption) (by rfl) ?_ | refine gal rfl (by assumption) (by rfl) (by omega) (by omega) ?_ | refine gil rfl (by assumption) (by rfl) (by omega) (by omega) ?_ | refine gbl rfl (by assumption) (by rfl) (by omega) (by omega) ?_ | refine gln rfl (xlen_i (by assumption)) ?_ | refine gln rfl (xlen_q (by assumption)) ?_)
      refine gis rfl (xup_eq _ _ _) rfl (by omega) (by omega) hq ?_
      rw [xup_up]
      repeat (first | refine gp rfl rfl rfl ?_ | refine ggf rfl (by assumption) (by rfl) ?_ | refine gal rfl (by assumption) (by rfl) (by omega) (by omega) ?_ | refine gil rfl (by assumption) (by rfl) (by omega) (by omega) ?_ | refine gbl rfl (by assumption) (by rfl) (by omega) (by omega) ?_ | refine gln rfl (xlen_i (by assumption)) ?_ | refine gln rfl (xlen_q (by assumption)) ?_)
      rw [nI_s]
      refine ih (i + 1) _ (by omega) (fun j hj => ?_)
      by_cases hji : j = i
      · subst hji; simp [upd]
      · simp [upd, hji]; exact hall j (by omega)
  obtain ⟨r, σ', hex, rfl, f', hf, rfl⟩ := ex_of (d := d) (y := 0) (as := [.inr (some q), .inl x]) (σ := σ) (K := fun r0 σ0 => r0 = none ∧ ∃ f' : Nat → Int32, (∀ j, j < n → f' j = x) ∧ σ0 = xup σ q (.inl (0, n, f'))) (by decide) rfl (by
    show xGo (xEx d) xtb_0 _ (0, [some (.inr (some q)), some (.inl x), none, none], [], σ)
    repeat (first | refine gp rfl rfl rfl ?_ | refine ggf rfl (by assumption) (by rfl) ?_ | refine gal rfl (by assumption) (by rfl) (by omega) (by omega) ?_ | refine gil rfl (by assumption) (by rfl) (by omega) (by omega) ?_ | refine gbl rfl (by assumption) (by rfl) (by omega) (by omega) ?_ | refine gln rfl (xlen_i (by assumption)) ?_ | refine gln rfl (xlen_q (by assumption)) ?_)
    have := loop n 0 f (by omega) (fun j hj => absurd hj (by omega))
    rw [xup_same h] at this
    exact this)
  exact ⟨f', hf, hex⟩
theorem m_TreeFile (d : Nat) {σ : xS} {q b : Nat} {l : Bool} {v w : xV} (h : σ.1 q = some (.inr (.inr (1, [v, w])))) : xEx (d + 1) 2 [.inr (some q), .inl (bI l), .inr (some b)] σ none (xup σ q (.inr (.inr (1, [.inl (bI l), .inr (some b)])))) := by
  refine ⟨by decide, rfl, ?_⟩
  show xGo (xEx d) xtb_2 _ (0, [some (.inr (some q)), some (.inl (bI l)), some (.inr (some b))], [], σ)
  repeat (first | refine gp rfl rfl rfl ?_ | refine ggf rfl (by assumption) (by rfl) ?_ | refine gal rfl (by assumption) (by rfl) (by omega) (by omega) ?_ | refine gil rfl (by assumption) (by rfl) (by omega) (by omega) ?_ | refine gbl rfl (by assumption) (by rfl) (by omega) (by omega) ?_ | refine gln rfl (xlen_i (by assumption)) ?_ | refine gln rfl (xlen_q (by assumption)) ?_)
  refine gob rfl (by decide) ?_
  repeat (first | refine gp rfl rfl rfl ?_ | refine ggf rfl (by assumption) (by rfl) ?_ | refine gal rfl (by assumption) (by rfl) (by omega) (by omega) ?_ | refine gil rfl (by assumption) (by rfl) (by omega) (by omega) ?_ | refine gbl rfl (by assumption) (by rfl) (by omega) (by omega) ?_ | refine gln rfl (xlen_i (by assumption)) ?_ | refine gln rfl (xlen_q (by assumption)) ?_)
  refine gpf rfl h (Nat.le_of_ble_eq_true rfl) (Or.inr ⟨rfl, ?_⟩) ?_
  · cases l
    · exact Or.inl rfl
    · exact Or.inr rfl
  repeat (first | refine gp rfl rfl rfl ?_ | refine ggf rfl (by assumption) (by rfl) ?_ | refine gal rfl (by assumption) (by rfl) (by omega) (by omega) ?_ | refine gil rfl (by assumption) (by rfl) (by omega) (by omega) ?_ | refine gbl rfl (by assumption) (by rfl) (by omega) (by omega) ?_ | refine gln rfl (xlen_i (by assumption)) ?_ | refine gln rfl (xlen_q (by assumption)) ?_)
  refine gpf rfl (xup_eq _ _ _) (Nat.le_of_ble_eq_true rfl) rfl ?_
  rw [xup_up]
  exact grv rfl ⟨rfl, rfl⟩
theorem m_Tree (d : Nat) {σ : xS} {q : Nat} {v : xV} (h : σ.1 q = some (.inr (.inr (2, [v])))) (hq : q ≠ σ.2.1) : xEx (d + 1) 7 [.inr (some q)] σ none (xup (xnew σ (.inr (.inl (0, 64, fun _ => none))) 64) q (.inr (.inr (2, [.inr (some σ.2.1)])))) := by
  refine ⟨by decide, rfl, ?_⟩
  show xGo (xEx d) xtb_7 _ (0, [some (.inr (some q))], [], σ)
  repeat (first | refine gp rfl rfl rfl ?_ | refine ggf rfl (by assumption) (by rfl) ?_ | refine gal rfl (by assumption) (by rfl) (by omega) (by omega) ?_ | refine gil rfl (by assumption) (by rfl) (by omega) (by omega) ?_ | refine gbl rfl (by assumption) (by rfl) (by omega) (by omega) ?_ | refine gln rfl (xlen_i (by assumption)) ?_ | refine gln rfl (xlen_q (by assumption)) ?_)
  refine gob rfl (by decide) ?_
  repeat (first | refine gp rfl rfl rfl ?_ | refine ggf rfl (by assumption) (by rfl) ?_ | refine gal rfl (by assumption) (by rfl) (by omega) (by omega) ?_ | refine gil rfl (by assumption) (by rfl) (by omega) (by omega) ?_ | refine gbl rfl (by assumption) (by rfl) (by omega) (by omega) ?_ | refine gln rfl (xlen_i (by assumption)) ?_ | refine gln rfl (xlen_q (by assumption)) ?_)
  refine gnq rfl rfl (by decide) ?_
  refine gpf rfl (show (xnew σ _ 64).1 q = _ by rw [xnew_ne hq]; exact h) (Nat.le_of_ble_eq_true rfl) rfl ?_
  exact grv rfl ⟨rfl, rfl⟩
end
section
/-! MODULE: renames of one side, the class -/
abbrev pT : Type := Nat → Option pF
abbrev pR : Type := (Nat → Option Nat) × (Nat → Option Nat)
def rSL (B T : pT) (R : pR) (p : Nat) : Bool := (B p).isSome && (T p).isNone && (R.1 p).isNone
def rTL (B T : pT) (R : pR) (q : Nat) : Bool := (T q).isSome && (B q).isNone && (R.2 q).isNone
def rJ (R : pR) (p q : Nat) : pR := (va_up R.1 p (some q), va_up R.2 q (some p))
def oI (o : Option Nat) : Int32 := match o with
  | none => -1
  | some q => nI q
theorem oI_ne {q : Nat} (h : q < 2147483648) : ¬ nI q = -1 := by
  intro z
  have := congrArg Int32.toInt z
  rw [nI_toInt h] at this
  have e : (-1 : Int32).toInt = -1 := by decide
  omega
theorem xk_m1 : xk 1 1 = -1 := by decide
def hT (σ : xS) (t : Nat) (T : pT) : Prop := ∃ g : Nat → Option Nat, hTree σ t g ∧ ∀ p, p < 64 → hOpt σ (g p) (T p)
theorem hOpt_some {σ : xS} {q : Option Nat} {F : Option pF} (h : hOpt σ q F) : q.isSome = F.isSome := by
  match q, F, h with
  | none, none, _ => rfl
  | some _, some _, _ => rfl
theorem hOpt_cell {σ : xS} {q : Option Nat} {F : Option pF} (h : hOpt σ q F) : q = none ∨ ∃ (k : Nat) (fs : List xV), q = some k ∧ σ.1 k = some (.inr (.inr (1, fs))) := by
  match q, F, h with
  | none, none, _ => exact Or.inl rfl
  | some k, some _, h =>
    obtain ⟨b, h1, -⟩ := h
    exact Or.inr ⟨k, _, rfl, h1⟩
/-- between lo and hi alone something changed; nothing was made -/
def hFr (lo hi : Nat) (σ σ' : xS) : Prop := σ'.2 = σ.2 ∧ ∀ k, (k < lo ∨ hi < k) → σ'.1 k = σ.1 k
theorem hFr.refl (lo hi : Nat) (σ : xS) : hFr lo hi σ σ := ⟨rfl, fun _ _ => rfl⟩
theorem hFr.trans {lo hi : Nat} {a b c : xS} (h1 : hFr lo hi a b) (h2 : hFr lo hi b c) : hFr lo hi a c := ⟨h2.1.trans h1.1, fun k hk => (h2.2 k hk).trans (h1.2 k hk)⟩
theorem hFr.up {lo hi k : Nat} {σ : xS} {e : xE} (h1 : lo ≤ k) (h2 : k ≤ hi) : hFr lo hi σ (xup σ k e) := ⟨rfl, fun j hj => xup_ne (by omega)⟩
theorem hFr.keep {lo hi : Nat} {σ σ' : xS} (h : hFr lo hi σ σ') (hh : hi < 63) : hKeep σ σ' := fun k e hk hs => by rw [h.2 k (Or.inr (by omega))]; exact hs
theorem hFr.wide {lo hi lo' hi' : Nat} {σ σ' : xS} (h : hFr lo hi σ σ') (h1 : lo' ≤ lo) (h2 : hi ≤ hi') : hFr lo' hi' σ σ' := ⟨h.1, fun k hk => h.2 k (by omega)⟩
theorem hT.fr {lo hi t : Nat} {σ σ' : xS} {T : pT} (h : hT σ t T) (hf : hFr lo hi σ σ') (hh : hi < 63) (ht : hi < t ∨ t + 1 < lo) : hT σ' t T := by
  obtain ⟨g, ⟨h1, h2⟩, h3⟩ := h
  exact ⟨g, ⟨by rw [hf.2 t (by omega)]; exact h1, by rw [hf.2 (t + 1) (by omega)]; exact h2⟩, fun p hp => (h3 p hp).keep (hf.keep hh)⟩
theorem m_fileAtT (d : Nat) {σ : xS} {t p : Nat} {T : pT} (h : hT σ t T) (hp : p < 64) : ∃ q, xEx (d + 2) 8 [.inr (some t), .inl (nI p)] σ (some (.inr q)) σ ∧ hOpt σ q (T p) := by
  obtain ⟨g, h1, h2⟩ := h
  exact ⟨g p, m_fileAt d h1 hp, h2 p hp⟩
theorem m_hasT (d : Nat) {σ : xS} {t p : Nat} {T : pT} (h : hT σ t T) (hp : p < 64) : xEx (d + 3) 13 [.inr (some t), .inl (nI p)] σ (some (.inl (bI (T p).isSome))) σ := by
  obtain ⟨g, h1, h2⟩ := h
  rw [← hOpt_some (h2 p hp)]
  exact m_has d h1 hp
theorem hT.obj {σ : xS} {t : Nat} {T : pT} (h : hT σ t T) : σ.1 t = some (.inr (.inr (2, [.inr (some (t + 1))]))) := by
  obtain ⟨g, h1, h2⟩ := h
  exact h1.1
def hSd (σ : xS) (a : Nat) : Prop := σ.1 a = some (.inr (.inr (3, [.inr (some (a + 1)), .inr (some (a + 2)), .inr (some (a + 3)), .inr (some (a + 4)), .inr (some (a + 5)), .inr (some (a + 6))])))
def hRen (σ : xS) (a : Nat) (B T : pT) (R : pR) : Prop := hSd σ a ∧ ∃ ft fs fl : Nat → Int32, σ.1 (a + 1) = some (.inl (0, 64, ft)) ∧ σ.1 (a + 2) = some (.inl (2, 64, fs)) ∧ σ.1 (a + 3) = some (.inl (2, 64, fl)) ∧ ∀ p, p < 64 → ft p = oI (R.1 p) ∧ fs p = bI (rSL B T R p) ∧ fl p = bI (rTL B T R p)
theorem m_pair (d : Nat) {σ : xS} {a p q : Nat} {B T : pT} {R : pR} (h : hRen σ a B T R) (hp : p < 64) (hq : q < 64) (ha : 2 ≤ a) : ∃ σ', xEx (d + 1) 20 [.inr (some a), .inl (nI p), .inl (nI q)] σ none σ' ∧ hRen σ' a B T (rJ R p q) ∧ hFr (a + 1) (a + 3) σ σ' := by
  obtain ⟨h0, ft, fs, fl, h1, h2, h3, h4⟩ := h
  have h0 : σ.1 a = some (.inr (.inr (3, [.inr (some (a + 1)), .inr (some (a + 2)), .inr (some (a + 3)), .inr (some (a + 4)), .inr (some (a + 5)), .inr (some (a + 6))]))) := h0
  refine ⟨xup (xup (xup σ (a + 1) (.inl (0, 64, upd ft p (nI q)))) (a + 2) (.inl (2, 64, upd fs p (xnar 2 (xk 0 0))))) (a + 3) (.inl (2, 64, upd fl q (xnar 2 (xk 0 0)))), ⟨by decide, rfl, ?_⟩, ⟨?_, upd ft p (nI q), upd fs p (xnar 2 (xk 0 0)), upd fl q (xnar 2 (xk 0 0)), ?_, ?_, ?_, ?_⟩, ?_⟩
  · show xGo (xEx d) xtb_20 _ (0, [some (.inr (some a)), some (.inl (nI p)), some (.inl (nI q))], [], σ)
    repeat (first | refine gp rfl rfl rfl ?_ | refine ggf rfl (by assumption) (by rfl) ?_ | refine gal rfl (by assumption) (by rfl) (by omega) (by omega) ?_ | refine gil rfl (by assumption) (by rfl) (by omega) (by omega) ?_ | refine gbl rfl (by assumption) (by rfl) (by omega) (by omega) ?_ | refine gln rfl (xlen_i (by assumption)) ?_ | refine gln rfl (xlen_q (by assumption)) ?_)
    refine gis rfl h1 rfl hp (by omega) (by omega) ?_
    have c0 : (xup σ (a + 1) (.inl (0, 64, upd ft p (nI q)))).1 a = some (.inr (.inr (3, [.inr (some (a + 1)), .inr (some (a + 2)), .inr (some (a + 3)), .inr (some (a + 4)), .inr (some (a + 5)), .inr (some (a + 6))]))) := by rw [xup_ne (by omega)]; exact h0
    repeat (first | refine gp rfl rfl rfl ?_ | refine ggf rfl (by assumption) (by rfl) ?_ | refine gal rfl (by assumption) (by rfl) (by omega) (by omega) ?_ | refine gil rfl (by assumption) (by rfl) (by omega) (by omega) ?_ | refine gbl rfl (by assumption) (by rfl) (by omega) (by omega) ?_ | refine gln rfl (xlen_i (by assumption)) ?_ | refine gln rfl (xlen_q (by assumption)) ?_)
    refine gbs rfl (show _ = some (Sum.inl (2, 64, fs)) by rw [xup_ne (by omega)]; exact h2) rfl hp (by omega) ?_
    have c1 : (xup (xup σ (a + 1) (.inl (0, 64, upd ft p (nI q)))) (a + 2) (.inl (2, 64, upd fs p (xnar 2 (xk 0 0))))).1 a = some (.inr (.inr (3, [.inr (some (a + 1)), .inr (some (a + 2)), .inr (some (a + 3)), .inr (some (a + 4)), .inr (some (a + 5)), .inr (some (a + 6))]))) := by rw [xup_ne (by omega)]; exact c0
    repeat (first | refine gp rfl rfl rfl ?_ | refine ggf rfl (by assumption) (by rfl) ?_ | refine gal rfl (by assumption) (by rfl) (by omega) (by omega) ?_ | refine gil rfl (by assumption) (by rfl) (by omega) (by omega) ?_ | refine gbl rfl (by assumption) (by rfl) (by omega) (by omega) ?_ | refine gln rfl (xlen_i (by assumption)) ?_ | refine gln rfl (xlen_q (by assumption)) ?_)
    refine gbs rfl (show _ = some (Sum.inl (2, 64, fl)) by rw [xup_ne (by omega), xup_ne (by omega)]; exact h3) rfl hq (by omega) ?_
    exact grv rfl ⟨rfl, rfl⟩
  · unfold hSd
    rw [xup_ne (by omega), xup_ne (by omega), xup_ne (by omega)]
    exact h0
  · rw [xup_ne (by omega), xup_ne (by omega)]; exact xup_eq _ _ _
  · rw [xup_ne (by omega)]; exact xup_eq _ _ _
  · exact xup_eq _ _ _
  · intro z hz
    obtain ⟨g1, g2, g3⟩ := h4 z hz
    have e0 : xnar 2 (xk 0 0) = 0 := by decide
    refine ⟨?_, ?_, ?_⟩
    · by_cases hzp : z = p
      · subst hzp; simp [upd, rJ, va_up, oI]
      · simp [upd, rJ, va_up, hzp, g1]
    · by_cases hzp : z = p
      · subst hzp; simp [upd, rSL, rJ, va_up, e0, bI]
      · simp [upd, rSL, rJ, va_up, hzp, g2]
    · by_cases hzq : z = q
      · subst hzq; simp [upd, rTL, rJ, va_up, e0, bI]
      · simp [upd, rTL, rJ, va_up, hzq, g3]
  · exact ⟨rfl, fun k hk => by rw [xup_ne (by omega), xup_ne (by omega), xup_ne (by omega)]⟩
/-- the last and how many of m, m + 8, .. -/
def pOn (P : Nat → Bool) (m : Nat) : Nat → Option Nat × Nat
  | 0 => (none, 0)
  | i + 1 => if P (m + 8 * i) then (some (m + 8 * i), (pOn P m i).2 + 1) else pOn P m i
def pOnly (P : Nat → Bool) (m : Nat) : Option Nat := if (pOn P m 8).2 = 1 then (pOn P m 8).1 else none
theorem pOn_mono (P : Nat → Bool) (m : Nat) : ∀ k i, (pOn P m i).2 ≤ (pOn P m (i + k)).2
  | 0, i => Nat.le_refl _
  | k + 1, i => by
    refine Nat.le_trans (pOn_mono P m k i) ?_
    show _ ≤ (pOn P m (i + k + 1)).2
    rw [pOn]
    split
    · exact Nat.le_succ _
    · exact Nat.le_refl _
theorem pOn_some (P : Nat → Bool) (m : Nat) : ∀ i, ((pOn P m i).2 = 0 → (pOn P m i).1 = none) ∧ (0 < (pOn P m i).2 → ∃ k, k < i ∧ (pOn P m i).1 = some (m + 8 * k))
  | 0 => ⟨fun _ => rfl, fun h => (Nat.lt_irrefl 0 h).elim⟩
  | i + 1 => by
    obtain ⟨h1, h2⟩ := pOn_some P m i
    rw [pOn]
    split
    · exact ⟨fun h => absurd h (by simp), fun _ => ⟨i, by omega, rfl⟩⟩
    · exact ⟨h1, fun h => by obtain ⟨k, hk, e⟩ := h2 h; exact ⟨k, by omega, e⟩⟩
theorem nI_s8 (i : Nat) : nI i + xk 8 0 = nI (i + 8) := by show nI i + nI 8 = _; rw [nI_add]
theorem m_findOnly (d : Nat) {σ : xS} {b m : Nat} {f : Nat → Int32} {P : Nat → Bool} (h : σ.1 b = some (.inl (2, 64, f))) (hf : ∀ p, p < 64 → f p = bI (P p)) (hm : m < 8) : xEx (d + 1) 22 [.inr (some b), .inl (nI m)] σ (some (.inl (oI (pOnly P m)))) σ := by
  refine ⟨by decide, rfl, ?_⟩
  show xGo (xEx d) xtb_22 _ (0, [some (.inr (some b)), some (.inl (nI m)), none, none], [], σ)
  have loop : ∀ k i, i + k = 8 → (pOn P m i).2 ≤ 1 → xGo (xEx d) xtb_22 (fun r0 σ0 => r0 = some (.inl (oI (pOnly P m))) ∧ σ0 = σ) (7, [some (.inr (some b)), some (.inl (nI m)), some (.inl (oI (pOn P m i).1)), some (.inl (nI (m + 8 * i)))], [.inl (nI 64), .inl (nI (m + 8 * i))], σ) := by
    intro k
    induction k with
    | zero =>
      intro i hi hc
      obtain rfl : i = 8 := by omega
      refine gct rfl (show nI 64 ≤ nI _ from nI_le (by omega) (by omega)) ?_
      repeat (first | refine gp rfl rfl rfl ?_ | refine ggf rfl (by assumption) (by rfl) ?_ | refine gal rfl (by assumption) (by rfl) (by omega) (by omega) ?_ | refine gil rfl (by assumption) (by rfl) (by omega) (by omega) ?_ | refine gbl rfl (by assumption) (by rfl) (by omega) (by omega) ?_ | refine gln rfl (xlen_i (by assumption)) ?_ | refine gln rfl (xlen_q (by assumption)) ?_)
      refine gri rfl (fun h => absurd h (by decide)) ⟨?_, rfl⟩
      unfold pOnly
      by_cases h1 : (pOn P m 8).2 = 1
      · rw [if_pos h1]
      · rw [if_neg h1, (pOn_some P m 8).1 (by omega)]
    | succ k ih =>
      intro i hi hc
      refine gcf rfl (nI_ge (by omega) (by omega)) ?_
      repeat (first | refine gp rfl rfl rfl ?_ | refine ggf rfl (by assumption) (by rfl) ?_ | refine gal rfl (by assumption) (by rfl) (by omega) (by omega) ?_ | refine gil rfl (by assumption) (by rfl) (by omega) (by omega) ?_ | refine gbl rfl (by assumption) (by rfl) (by omega) (by omega) ?_ | refine gln rfl (xlen_i (by assumption)) ?_ | refine gln rfl (xlen_q (by assumption)) ?_)
      rw [hf _ (by omega)]
      have ih' := ih (i + 1) (by omega)
      rw [pOn] at ih'
      cases hP : P (m + 8 * i) with
      | false =>
        rw [hP] at ih'
        refine git rfl (show (0 : Int32) = 0 from rfl) ?_
        repeat (first | refine gp rfl rfl rfl ?_ | refine ggf rfl (by assumption) (by rfl) ?_ | refine gal rfl (by assumption) (by rfl) (by omega) (by omega) ?_ | refine gil rfl (by assumption) (by rfl) (by omega) (by omega) ?_ | refine gbl rfl (by assumption) (by rfl) (by omega) (by omega) ?_ | refine gln rfl (xlen_i (by assumption)) ?_ | refine gln rfl (xlen_q (by assumption)) ?_)
        rw [nI_s8]
        exact ih' hc
      | true =>
        rw [hP] at ih'
        refine giff rfl (fun h => absurd (show (1 : Int32) = 0 from h) (by decide)) ?_
        repeat (first | refine gp rfl rfl rfl ?_ | refine ggf rfl (by assumption) (by rfl) ?_ | refine gal rfl (by assumption) (by rfl) (by omega) (by omega) ?_ | refine gil rfl (by assumption) (by rfl) (by omega) (by omega) ?_ | refine gbl rfl (by assumption) (by rfl) (by omega) (by omega) ?_ | refine gln rfl (xlen_i (by assumption)) ?_ | refine gln rfl (xlen_q (by assumption)) ?_)
        rw [xk_m1]
        rcases Nat.eq_zero_or_pos (pOn P m i).2 with hz | hz
        · rw [(pOn_some P m i).1 hz]
          refine gct rfl (show (-1 : Int32) = -1 from rfl) ?_
          repeat (first | refine gp rfl rfl rfl ?_ | refine ggf rfl (by assumption) (by rfl) ?_ | refine gal rfl (by assumption) (by rfl) (by omega) (by omega) ?_ | refine gil rfl (by assumption) (by rfl) (by omega) (by omega) ?_ | refine gbl rfl (by assumption) (by rfl) (by omega) (by omega) ?_ | refine gln rfl (xlen_i (by assumption)) ?_ | refine gln rfl (xlen_q (by assumption)) ?_)
          rw [nI_s8]
          refine ih' ?_
          show (pOn P m i).2 + 1 ≤ 1
          omega
        · obtain ⟨k', hk', e⟩ := (pOn_some P m i).2 hz
          rw [e]
          refine gcf rfl (oI_ne (by omega)) ?_
          repeat (first | refine gp rfl rfl rfl ?_ | refine ggf rfl (by assumption) (by rfl) ?_ | refine gal rfl (by assumption) (by rfl) (by omega) (by omega) ?_ | refine gil rfl (by assumption) (by rfl) (by omega) (by omega) ?_ | refine gbl rfl (by assumption) (by rfl) (by omega) (by omega) ?_ | refine gln rfl (xlen_i (by assumption)) ?_ | refine gln rfl (xlen_q (by assumption)) ?_)
          refine gri rfl (fun h => absurd h (by decide)) ⟨?_, rfl⟩
          have h2 : 2 ≤ (pOn P m 8).2 := by
            have := pOn_mono P m (8 - (i + 1)) (i + 1)
            rw [show i + 1 + (8 - (i + 1)) = 8 by omega] at this
            refine Nat.le_trans ?_ this
            rw [pOn, hP]
            show 2 ≤ (pOn P m i).2 + 1
            omega
          unfold pOnly
          rw [if_neg (by omega), xk_m1]
          rfl
  repeat (first | refine gp rfl rfl rfl ?_ | refine ggf rfl (by assumption) (by rfl) ?_ | refine gal rfl (by assumption) (by rfl) (by omega) (by omega) ?_ | refine gil rfl (by assumption) (by rfl) (by omega) (by omega) ?_ | refine gbl rfl (by assumption) (by rfl) (by omega) (by omega) ?_ | refine gln rfl (xlen_i (by assumption)) ?_ | refine gln rfl (xlen_q (by assumption)) ?_)
  exact loop 8 0 rfl (show 0 ≤ 1 from Nat.zero_le _)
theorem pCnt_s (P : Nat → Bool) (i : Nat) : pCnt P (i + 1) = pCnt P i + (if P i then 1 else 0) := rfl
theorem m_countLeft (d : Nat) {σ : xS} {b : Nat} {f : Nat → Int32} {P : Nat → Bool} (h : σ.1 b = some (.inl (2, 64, f))) (hf : ∀ p, p < 64 → f p = bI (P p)) : xEx (d + 1) 24 [.inr (some b)] σ (some (.inl (nI (pCnt P 64)))) σ := by
  refine ⟨by decide, rfl, ?_⟩
  show xGo (xEx d) xtb_24 _ (0, [some (.inr (some b)), none, none], [], σ)
  have loop : ∀ k i, i + k = 64 → xGo (xEx d) xtb_24 (fun r0 σ0 => r0 = some (.inl (nI (pCnt P 64))) ∧ σ0 = σ) (7, [some (.inr (some b)), some (.inl (nI (pCnt P i))), some (.inl (nI i))], [.inl (nI 64), .inl (nI i)], σ) := by
    intro k
    induction k with
    | zero =>
      intro i hi
      obtain rfl : i = 64 := by omega
      refine gct rfl (show nI 64 ≤ nI _ from nI_le (by omega) (by omega)) ?_
      repeat (first | refine gp rfl rfl rfl ?_ | refine ggf rfl (by assumption) (by rfl) ?_ | refine gal rfl (by assumption) (by rfl) (by omega) (by omega) ?_ | refine gil rfl (by assumption) (by rfl) (by omega) (by omega) ?_ | refine gbl rfl (by assumption) (by rfl) (by omega) (by omega) ?_ | refine gln rfl (xlen_i (by assumption)) ?_ | refine gln rfl (xlen_q (by assumption)) ?_)
      exact gri rfl (fun h => absurd h (by decide)) ⟨rfl, rfl⟩
    | succ k ih =>
      intro i hi
      refine gcf rfl (nI_ge (by omega) (by omega)) ?_
      repeat (first | refine gp rfl rfl rfl ?_ | refine ggf rfl (by assumption) (by rfl) ?_ | refine gal rfl (by assumption) (by rfl) (by omega) (by omega) ?_ | refine gil rfl (by assumption) (by rfl) (by omega) (by omega) ?_ | refine gbl rfl (by assumption) (by rfl) (by omega) (by omega) ?_ | refine gln rfl (xlen_i (by assumption)) ?_ | refine gln rfl (xlen_q (by assumption)) ?_)
      rw [hf _ (by omega)]
      have ih' := ih (i + 1) (by omega)
      rw [pCnt_s P i] at ih'
      cases hP : P i with
      | false =>
        rw [hP] at ih'
        refine git rfl (show (0 : Int32) = 0 from rfl) ?_
        repeat (first | refine gp rfl rfl rfl ?_ | refine ggf rfl (by assumption) (by rfl) ?_ | refine gal rfl (by assumption) (by rfl) (by omega) (by omega) ?_ | refine gil rfl (by assumption) (by rfl) (by omega) (by omega) ?_ | refine gbl rfl (by assumption) (by rfl) (by omega) (by omega) ?_ | refine gln rfl (xlen_i (by assumption)) ?_ | refine gln rfl (xlen_q (by assumption)) ?_)
        rw [nI_s]
        exact ih'
      | true =>
        rw [hP] at ih'
        refine giff rfl (fun h => absurd (show (1 : Int32) = 0 from h) (by decide)) ?_
        repeat (first | refine gp rfl rfl rfl ?_ | refine ggf rfl (by assumption) (by rfl) ?_ | refine gal rfl (by assumption) (by rfl) (by omega) (by omega) ?_ | refine gil rfl (by assumption) (by rfl) (by omega) (by omega) ?_ | refine gbl rfl (by assumption) (by rfl) (by omega) (by omega) ?_ | refine gln rfl (xlen_i (by assumption)) ?_ | refine gln rfl (xlen_q (by assumption)) ?_)
        rw [nI_s, nI_s]
        exact ih'
  repeat (first | refine gp rfl rfl rfl ?_ | refine ggf rfl (by assumption) (by rfl) ?_ | refine gal rfl (by assumption) (by rfl) (by omega) (by omega) ?_ | refine gil rfl (by assumption) (by rfl) (by omega) (by omega) ?_ | refine gbl rfl (by assumption) (by rfl) (by omega) (by omega) ?_ | refine gln rfl (xlen_i (by assumption)) ?_ | refine gln rfl (xlen_q (by assumption)) ?_)
  exact loop 64 0 rfl
end
section
/-! MODULE: shared lines, the class -/
theorem xle_nil : xle [] [] := ⟨rfl, fun k v h => by simp at h⟩
theorem xle_cons {a b : xL} {x : Option xV} (h : xle a b) : xle (x :: a) (x :: b) := by
  refine ⟨by simp [h.1], fun k v hk => ?_⟩
  cases k with
  | zero => exact hk
  | succ k => exact h.2 k v hk
theorem xle_none {a b : xL} {x : Option xV} (h : xle a b) : xle (none :: a) (x :: b) := by
  refine ⟨by simp [h.1], fun k v hk => ?_⟩
  cases k with
  | zero => cases hk
  | succ k => exact h.2 k v hk
theorem pCnt_zero {P : Nat → Bool} : ∀ {n : Nat}, (∀ j, j < n → P j = false) → pCnt P n = 0
  | 0, _ => rfl
  | n + 1, h => by rw [pCnt_s, pCnt_zero (fun j hj => h j (by omega)), h n (by omega)]; rfl
theorem pCnt_congr {P P' : Nat → Bool} : ∀ {n : Nat}, (∀ j, j < n → P j = P' j) → pCnt P n = pCnt P' n
  | 0, _ => rfl
  | n + 1, h => by rw [pCnt_s, pCnt_s, pCnt_congr (fun j hj => h j (by omega)), h n (by omega)]
theorem pCnt_dec {P P' : Nat → Bool} {j0 : Nat} (h0 : P j0 = true) (h1 : P' j0 = false) : ∀ {n : Nat}, j0 < n → (∀ j, j < n → j ≠ j0 → P j = P' j) → pCnt P n = pCnt P' n + 1
  | 0, h, _ => by omega
  | n + 1, h, hc => by
    rw [pCnt_s, pCnt_s]
    by_cases hn : n = j0
    · subst hn
      rw [pCnt_congr (P := P) (P' := P') (fun j hj => hc j (by omega) (by omega)), h0, h1]
      simp
    · rw [pCnt_dec h0 h1 (n := n) (by omega) (fun j hj hne => hc j (by omega) hne), hc n (by omega) hn]
      omega
/-- the sum over 1 .. n -/
def pSum (f : Nat → Nat) : Nat → Nat
  | 0 => 0
  | n + 1 => pSum f n + f (n + 1)
theorem pSum_congr {f g : Nat → Nat} : ∀ {n : Nat}, (∀ v, 1 ≤ v → v ≤ n → f v = g v) → pSum f n = pSum g n
  | 0, _ => rfl
  | n + 1, h => by
    show pSum f n + f (n + 1) = pSum g n + g (n + 1)
    rw [pSum_congr (fun v h1 h2 => h v h1 (by omega)), h (n + 1) (by omega) (Nat.le_refl _)]
theorem pSum_inc {f g : Nat → Nat} {v0 : Nat} (h0 : g v0 = f v0 + 1) (h1 : 1 ≤ v0) : ∀ {n : Nat}, v0 ≤ n → (∀ v, 1 ≤ v → v ≤ n → v ≠ v0 → f v = g v) → pSum g n = pSum f n + 1
  | 0, h, _ => by omega
  | n + 1, h, hc => by
    show pSum g n + g (n + 1) = pSum f n + f (n + 1) + 1
    by_cases hn : n + 1 = v0
    · subst hn
      rw [pSum_congr (f := g) (g := f) (n := n) (fun v h1 h2 => (hc v h1 (by omega) (by omega)).symm), h0]
      omega
    · rw [pSum_inc h0 h1 (n := n) (by omega) (fun v h1 h2 h3 => hc v h1 (by omega) h3), hc (n + 1) (by omega) (Nat.le_refl _) hn]
      omega
theorem pSum_le {f : Nat → Nat} {c : Nat} : ∀ {n : Nat}, (∀ v, 1 ≤ v → v ≤ n → f v ≤ c) → pSum f n ≤ n * c
  | 0, _ => Nat.zero_le _
  | n + 1, h => by
    have := pSum_le (f := f) (c := c) (n := n) (fun v h1 h2 => h v h1 (by omega))
    have h2 := h (n + 1) (by omega) (Nat.le_refl _)
    show pSum f n + f (n + 1) ≤ (n + 1) * c
    rw [Nat.succ_mul]
    omega
/-- how often v stands among the first n -/
def pVc (l : List Int32) (v n : Nat) : Nat := pCnt (fun j => decide (l.getD j 0 = nI v)) n
def pShare (l1 l2 : List Int32) : Nat := pSum (fun v => min (pVc l1 v l1.length) (pVc l2 v l2.length)) 19
def pOK (l : List Int32) : Prop := ∀ j, j < l.length → ∃ v, 1 ≤ v ∧ v ≤ 19 ∧ l.getD j 0 = nI v
set_option maxRecDepth 100000 in
theorem mk_all : ∀ M : Fin 256, ∀ j : Fin 8, (decide ((nI M.val &&& (nI 1 <<< (nI j.val &&& 31))) = 0) = !M.val.testBit j.val) ∧ (nI M.val ||| (nI 1 <<< (nI j.val &&& 31))) = nI (M.val ||| 2 ^ j.val) ∧ M.val ||| 2 ^ j.val < 256 := by decide +kernel
theorem mk_test {M j : Nat} (hM : M < 256) (hj : j < 8) : (nI M &&& (nI 1 <<< (nI j &&& 31))) = 0 ↔ M.testBit j = false := by
  have := (mk_all ⟨M, hM⟩ ⟨j, hj⟩).1
  simp only at this
  constructor
  · intro h
    rw [decide_eq_true h] at this
    cases hb : M.testBit j with
    | false => rfl
    | true => rw [hb] at this; cases this
  · intro h
    rw [h] at this
    exact of_decide_eq_true this
theorem mk_set {M j : Nat} (hM : M < 256) (hj : j < 8) : (nI M ||| (nI 1 <<< (nI j &&& 31))) = nI (M ||| 2 ^ j) ∧ M ||| 2 ^ j < 256 := (mk_all ⟨M, hM⟩ ⟨j, hj⟩).2
theorem mk_bit (M j k : Nat) : (M ||| 2 ^ j).testBit k = (M.testBit k || decide (j = k)) := by rw [Nat.testBit_or, Nat.testBit_two_pow]
theorem mn_nI {a b : Nat} (ha : a < 2147483648) (hb : b < 2147483648) : (if nI b < nI a then nI b else nI a) = nI (min a b) := by
  by_cases h : b < a
  · rw [if_pos ((nI_ltI hb ha).mpr h), Nat.min_eq_right (by omega)]
  · rw [if_neg (fun z => h ((nI_ltI hb ha).mp z)), Nat.min_eq_left (by omega)]
theorem mx_nI {a b : Nat} (ha : a < 2147483648) (hb : b < 2147483648) : (if nI a < nI b then nI b else nI a) = nI (max a b) := by
  by_cases h : a < b
  · rw [if_pos ((nI_ltI ha hb).mpr h), Nat.max_eq_right (by omega)]
  · rw [if_neg (fun z => h ((nI_ltI ha hb).mp z)), Nat.max_eq_left (by omega)]
/-- those of v that are not taken -/
def pU (l : List Int32) (M v n : Nat) : Nat := pCnt (fun j => decide (l.getD j 0 = nI v) && !M.testBit j) n
theorem m_countShared (d : Nat) {σ : xS} {q1 q2 : Nat} {F1 F2 : pF} (h1 : hFile σ q1 F1) (h2 : hFile σ q2 F2) (hl : F2.2.length ≤ 8) (ok : pOK F1.2) : xEx (d + 1) 6 [.inr (some q1), .inr (some q2)] σ (some (.inl (nI (pShare F1.2 F2.2)))) σ := by
  obtain ⟨b1, c1, ⟨f1, c2, c3⟩, c4, -, -⟩ := h1
  obtain ⟨b2, e1, ⟨f2, e2, e3⟩, e4, -, -⟩ := h2
  generalize F1.2 = l1 at c2 c3 c4 ok ⊢
  generalize hn2 : F2.2 = l2 at e2 e3 e4 hl ⊢
  refine ⟨by decide, rfl, ?_⟩
  show xGo (xEx d) xtb_6 _ (0, [some (.inr (some q1)), some (.inr (some q2)), none, none, none, none, none], [], σ)
  have outer : ∀ k i M S, i + k = l1.length → M < 256 → (∀ v, 1 ≤ v → v ≤ 19 → pU l2 M v l2.length = pVc l2 v l2.length - pVc l1 v i) → S = pSum (fun v => min (pVc l1 v i) (pVc l2 v l2.length)) 19 → xGo (xEx d) xtb_6 (fun r0 σ0 => r0 = some (.inl (nI (pShare l1 l2))) ∧ σ0 = σ) (26, [some (.inr (some q1)), some (.inr (some q2)), some (.inl (nI l2.length)), some (.inl (nI M)), some (.inl (nI S)), some (.inl (nI i)), none], [.inl (nI l1.length), .inl (nI i)], σ) := by
    intro k
    induction k with
    | zero =>
      intro i M S hi hM hU hS
      obtain rfl : i = l1.length := by omega
      refine gct rfl (show nI _ ≤ nI _ from nI_le (by omega) (by omega)) ?_
      repeat (first | refine gp rfl rfl rfl ?_ | refine ggf rfl (by assumption) (by rfl) ?_ | refine gal rfl (by assumption) (by rfl) (by omega) (by omega) ?_ | refine gil rfl (by assumption) (by rfl) (by omega) (by omega) ?_ | refine gbl rfl (by assumption) (by rfl) (by omega) (by omega) ?_ | refine gln rfl (xlen_i (by assumption)) ?_ | refine gln rfl (xlen_q (by assumption)) ?_)
      exact gri rfl (fun h => absurd h (by decide)) ⟨by rw [hS]; rfl, rfl⟩
    | succ k ih =>
      intro i M S hi hM hU hS
      refine gcf rfl (nI_ge (by omega) (by omega)) ?_
      obtain ⟨v0, hv1, hv2, hv3⟩ := ok i (by omega)
      have hc1 : ∀ v, pVc l1 v (i + 1) = pVc l1 v i + (if l1.getD i 0 = nI v then 1 else 0) := fun v => by
        unfold pVc; rw [pCnt_s]; simp
      have hne : ∀ v, 1 ≤ v → v ≤ 19 → v ≠ v0 → ¬ l1.getD i 0 = nI v := fun v g1 g2 g3 z => g3 ((nI_eq (by omega) (by omega)).mp (z.symm.trans hv3))
      have inner : ∀ k2 j, j + k2 = l2.length → (∀ j', j' < j → ¬ (l2.getD j' 0 = nI v0 ∧ M.testBit j' = false)) → xGo (xEx d) xtb_6 (fun r0 σ0 => r0 = some (.inl (nI (pShare l1 l2))) ∧ σ0 = σ) (35, [some (.inr (some q1)), some (.inr (some q2)), some (.inl (nI l2.length)), some (.inl (nI M)), some (.inl (nI S)), some (.inl (nI i)), some (.inl (nI j))], [.inl (nI l2.length), .inl (nI j)], σ) := by
        intro k2
        induction k2 with
        | zero =>
          intro j hj hno
          obtain rfl : j = l2.length := by omega
          refine gct rfl (show nI _ ≤ nI _ from nI_le (by omega) (by omega)) ?_
          repeat (first | refine gp rfl rfl rfl ?_ | refine ggf rfl (by assumption) (by rfl) ?_ | refine gal rfl (by assumption) (by rfl) (by omega) (by omega) ?_ | refine gil rfl (by assumption) (by rfl) (by omega) (by omega) ?_ | refine gbl rfl (by assumption) (by rfl) (by omega) (by omega) ?_ | refine gln rfl (xlen_i (by assumption)) ?_ | refine gln rfl (xlen_q (by assumption)) ?_)
          rw [nI_s]
          have hz : pU l2 M v0 l2.length = 0 := pCnt_zero (fun j' hj' => by
            have := hno j' hj'
            cases hb : M.testBit j' with
            | true => simp
            | false =>
              have h9 : ¬ l2.getD j' 0 = nI v0 := fun z => this ⟨z, hb⟩
              simp only [decide_eq_false h9, Bool.false_and])
          have hle := hU v0 hv1 hv2
          rw [hz] at hle
          refine xGo_weak (ih (i + 1) M S (by omega) hM (fun v g1 g2 => ?_) ?_) (xle_cons (xle_cons (xle_cons (xle_cons (xle_cons (xle_cons (xle_none xle_nil)))))))
          · rw [hc1 v]
            by_cases hv : v = v0
            · subst hv; rw [if_pos hv3, hz]; omega
            · rw [if_neg (hne v g1 g2 hv), hU v g1 g2]; rfl
          · rw [hS]
            refine pSum_congr (fun v g1 g2 => ?_)
            rw [hc1 v]
            by_cases hv : v = v0
            · subst hv; rw [if_pos hv3]; omega
            · rw [if_neg (hne v g1 g2 hv)]; rfl
        | succ k2 ih2 =>
          intro j hj hno
          refine gcf rfl (nI_ge (by omega) (by omega)) ?_
          repeat (first | refine gp rfl rfl rfl ?_ | refine ggf rfl (by assumption) (by rfl) ?_ | refine gal rfl (by assumption) (by rfl) (by omega) (by omega) ?_ | refine gil rfl (by assumption) (by rfl) (by omega) (by omega) ?_ | refine gbl rfl (by assumption) (by rfl) (by omega) (by omega) ?_ | refine gln rfl (xlen_i (by assumption)) ?_ | refine gln rfl (xlen_q (by assumption)) ?_)
          refine gif' rfl (fun ht => ?_) (fun ht => ?_)
          · have ht : M.testBit j = true := by
              cases hb : M.testBit j with
              | true => rfl
              | false => exact absurd ((mk_test hM (by omega)).mpr hb) ht
            repeat (first | refine gp rfl rfl rfl ?_ | refine ggf rfl (by assumption) (by rfl) ?_ | refine gal rfl (by assumption) (by rfl) (by omega) (by omega) ?_ | refine gil rfl (by assumption) (by rfl) (by omega) (by omega) ?_ | refine gbl rfl (by assumption) (by rfl) (by omega) (by omega) ?_ | refine gln rfl (xlen_i (by assumption)) ?_ | refine gln rfl (xlen_q (by assumption)) ?_)
            rw [nI_s]
            refine ih2 (j + 1) (by omega) (fun j' hj' => ?_)
            by_cases hjj : j' = j
            · subst hjj; rintro ⟨-, z⟩; rw [ht] at z; cases z
            · exact hno j' (by omega)
          · have ht : M.testBit j = false := (mk_test hM (by omega)).mp (by
              by_cases hz : (nI M &&& (nI 1 <<< (nI j &&& 31))) = 0
              · exact hz
              · exact absurd hz ht)
            repeat (first | refine gp rfl rfl rfl ?_ | refine ggf rfl (by assumption) (by rfl) ?_ | refine gal rfl (by assumption) (by rfl) (by omega) (by omega) ?_ | refine gil rfl (by assumption) (by rfl) (by omega) (by omega) ?_ | refine gbl rfl (by assumption) (by rfl) (by omega) (by omega) ?_ | refine gln rfl (xlen_i (by assumption)) ?_ | refine gln rfl (xlen_q (by assumption)) ?_)
            rw [c3 i (by omega), e3 j (by omega), hv3]
            refine gcp rfl (fun hq => ?_) (fun hq => ?_)
            · have hq : ¬ nI v0 = l2.getD j 0 := hq
              repeat (first | refine gp rfl rfl rfl ?_ | refine ggf rfl (by assumption) (by rfl) ?_ | refine gal rfl (by assumption) (by rfl) (by omega) (by omega) ?_ | refine gil rfl (by assumption) (by rfl) (by omega) (by omega) ?_ | refine gbl rfl (by assumption) (by rfl) (by omega) (by omega) ?_ | refine gln rfl (xlen_i (by assumption)) ?_ | refine gln rfl (xlen_q (by assumption)) ?_)
              rw [nI_s]
              refine ih2 (j + 1) (by omega) (fun j' hj' => ?_)
              by_cases hjj : j' = j
              · subst hjj; rintro ⟨z, -⟩; exact hq z.symm
              · exact hno j' (by omega)
            · have hq : nI v0 = l2.getD j 0 := by
                by_cases hz : nI v0 = l2.getD j 0
                · exact hz
                · exact absurd hz hq
              obtain ⟨hs1, hs2⟩ := mk_set hM (show j < 8 by omega)
              repeat (first | refine gp rfl rfl rfl ?_ | refine ggf rfl (by assumption) (by rfl) ?_ | refine gal rfl (by assumption) (by rfl) (by omega) (by omega) ?_ | refine gil rfl (by assumption) (by rfl) (by omega) (by omega) ?_ | refine gbl rfl (by assumption) (by rfl) (by omega) (by omega) ?_ | refine gln rfl (xlen_i (by assumption)) ?_ | refine gln rfl (xlen_q (by assumption)) ?_)
              rw [nI_s, nI_s, show nI M ||| xk 1 0 <<< (nI j &&& 31) = nI (M ||| 2 ^ j) from hs1]
              have hd1 : pU l2 M v0 l2.length = pU l2 (M ||| 2 ^ j) v0 l2.length + 1 := by
                refine pCnt_dec (j0 := j) ?_ ?_ (by omega) (fun j' hj' hne' => ?_)
                · show (decide (l2.getD j 0 = nI v0) && !M.testBit j) = true
                  rw [ht, decide_eq_true hq.symm]; rfl
                · simp [mk_bit]
                · rw [mk_bit, decide_eq_false (Ne.symm hne')]; simp
              have hd2 : ∀ v, 1 ≤ v → v ≤ 19 → v ≠ v0 → pU l2 (M ||| 2 ^ j) v l2.length = pU l2 M v l2.length := fun v g1 g2 g3 => by
                refine pCnt_congr (fun j' hj' => ?_)
                by_cases hjj : j' = j
                · subst hjj
                  have h9 : ¬ l2.getD j' 0 = nI v := fun z => g3 ((nI_eq (by omega) (by omega)).mp (z.symm.trans hq.symm))
                  simp only [decide_eq_false h9, Bool.false_and]
                · rw [mk_bit, decide_eq_false (Ne.symm hjj)]; simp
              have hle := hU v0 hv1 hv2
              refine xGo_weak (ih (i + 1) (M ||| 2 ^ j) (S + 1) (by omega) hs2 (fun v g1 g2 => ?_) ?_) (xle_cons (xle_cons (xle_cons (xle_cons (xle_cons (xle_cons (xle_none xle_nil)))))))
              · rw [hc1 v]
                by_cases hv : v = v0
                · subst hv; rw [if_pos hv3]; omega
                · rw [if_neg (hne v g1 g2 hv), hd2 v g1 g2 hv, hU v g1 g2]; rfl
              · rw [hS]
                refine (pSum_inc (v0 := v0) ?_ hv1 hv2 (fun v g1 g2 g3 => ?_)).symm
                · rw [hc1 v0, if_pos hv3]; omega
                · rw [hc1 v, if_neg (hne v g1 g2 g3)]; rfl
      repeat (first | refine gp rfl rfl rfl ?_ | refine ggf rfl (by assumption) (by rfl) ?_ | refine gal rfl (by assumption) (by rfl) (by omega) (by omega) ?_ | refine gil rfl (by assumption) (by rfl) (by omega) (by omega) ?_ | refine gbl rfl (by assumption) (by rfl) (by omega) (by omega) ?_ | refine gln rfl (xlen_i (by assumption)) ?_ | refine gln rfl (xlen_q (by assumption)) ?_)
      exact inner l2.length 0 (by omega) (fun j' hj' => absurd hj' (by omega))
  repeat (first | refine gp rfl rfl rfl ?_ | refine ggf rfl (by assumption) (by rfl) ?_ | refine gal rfl (by assumption) (by rfl) (by omega) (by omega) ?_ | refine gil rfl (by assumption) (by rfl) (by omega) (by omega) ?_ | refine gbl rfl (by assumption) (by rfl) (by omega) (by omega) ?_ | refine gln rfl (xlen_i (by assumption)) ?_ | refine gln rfl (xlen_q (by assumption)) ?_)
  refine gmn rfl (by decide) ?_
  rw [show (if xk 8 0 < nI l2.length then xk 8 0 else nI l2.length) = nI (min l2.length 8) from mn_nI (by omega) (by decide), Nat.min_eq_left hl]
  repeat (first | refine gp rfl rfl rfl ?_ | refine ggf rfl (by assumption) (by rfl) ?_ | refine gal rfl (by assumption) (by rfl) (by omega) (by omega) ?_ | refine gil rfl (by assumption) (by rfl) (by omega) (by omega) ?_ | refine gbl rfl (by assumption) (by rfl) (by omega) (by omega) ?_ | refine gln rfl (xlen_i (by assumption)) ?_ | refine gln rfl (xlen_q (by assumption)) ?_)
  refine outer l1.length 0 0 0 (by omega) (by decide) (fun v g1 g2 => ?_) ?_
  · show pU l2 0 v l2.length = _ - 0
    refine pCnt_congr (fun j hj => ?_)
    simp
  · refine (Nat.le_zero.mp ?_).symm
    have := pSum_le (f := fun v => min (pVc l1 v 0) (pVc l2 v l2.length)) (c := 0) (n := 19) (fun v _ _ => Nat.min_le_left _ _)
    omega
end
section
/-! MODULE: renames of one side, the class: equal files, names -/
def pScore (F1 F2 : Option pF) : Int32 := match F1, F2 with
  | some (false, l1), some (false, l2) => if max l1.length l2.length = 0 then 0 else nI (100 * pShare l1 l2 / max l1.length l2.length)
  | _, _ => -1
/-- at most 8 lines, each of 1 .. 19 -/
def pFok (F : Option pF) : Prop := ∀ G, F = some G → G.2.length ≤ 8 ∧ pOK G.2
def pTok (T : pT) : Prop := ∀ p, p < 64 → pFok (T p)
theorem pShare_le (l1 l2 : List Int32) (h : l1.length ≤ 8) : pShare l1 l2 ≤ 152 := by
  refine Nat.le_trans (pSum_le (c := 8) (fun v _ _ => ?_)) (by decide)
  refine Nat.le_trans (Nat.min_le_left _ _) (Nat.le_trans (pCnt_le _ _) h)
theorem m_likeness (d : Nat) {σ : xS} {q1 q2 : Option Nat} {F1 F2 : Option pF} (h1 : hOpt σ q1 F1) (h2 : hOpt σ q2 F2) (k1 : pFok F1) (k2 : pFok F2) : xEx (d + 2) 5 [.inr q1, .inr q2] σ (some (.inl (pScore F1 F2))) σ := by
  refine ⟨by decide, rfl, ?_⟩
  show xGo (xEx (d + 1)) xtb_5 _ (0, [some (.inr q1), some (.inr q2), none], [], σ)
  match q1, F1, h1, q2, F2, h2 with
  | none, none, _, q2, F2, _ =>
    repeat (first | refine gp rfl rfl rfl ?_ | refine ggf rfl (by assumption) (by rfl) ?_ | refine gal rfl (by assumption) (by rfl) (by omega) (by omega) ?_ | refine gil rfl (by assumption) (by rfl) (by omega) (by omega) ?_ | refine gbl rfl (by assumption) (by rfl) (by omega) (by omega) ?_ | refine gln rfl (xlen_i (by assumption)) ?_ | refine gln rfl (xlen_q (by assumption)) ?_)
    refine gnl rfl (fun _ => ?_) (fun z hz => by cases hz)
    repeat (first | refine gp rfl rfl rfl ?_ | refine ggf rfl (by assumption) (by rfl) ?_ | refine gal rfl (by assumption) (by rfl) (by omega) (by omega) ?_ | refine gil rfl (by assumption) (by rfl) (by omega) (by omega) ?_ | refine gbl rfl (by assumption) (by rfl) (by omega) (by omega) ?_ | refine gln rfl (xlen_i (by assumption)) ?_ | refine gln rfl (xlen_q (by assumption)) ?_)
    exact gri rfl (fun h => absurd h (by decide)) ⟨by rw [xk_m1]; rfl, rfl⟩
  | some q1, some F1, _, none, none, _ =>
    repeat (first | refine gp rfl rfl rfl ?_ | refine ggf rfl (by assumption) (by rfl) ?_ | refine gal rfl (by assumption) (by rfl) (by omega) (by omega) ?_ | refine gil rfl (by assumption) (by rfl) (by omega) (by omega) ?_ | refine gbl rfl (by assumption) (by rfl) (by omega) (by omega) ?_ | refine gln rfl (xlen_i (by assumption)) ?_ | refine gln rfl (xlen_q (by assumption)) ?_)
    refine gnl rfl (fun hz => by cases hz) (fun z hz => ?_)
    repeat (first | refine gp rfl rfl rfl ?_ | refine ggf rfl (by assumption) (by rfl) ?_ | refine gal rfl (by assumption) (by rfl) (by omega) (by omega) ?_ | refine gil rfl (by assumption) (by rfl) (by omega) (by omega) ?_ | refine gbl rfl (by assumption) (by rfl) (by omega) (by omega) ?_ | refine gln rfl (xlen_i (by assumption)) ?_ | refine gln rfl (xlen_q (by assumption)) ?_)
    refine gnl rfl (fun _ => ?_) (fun z hz => by cases hz)
    repeat (first | refine gp rfl rfl rfl ?_ | refine ggf rfl (by assumption) (by rfl) ?_ | refine gal rfl (by assumption) (by rfl) (by omega) (by omega) ?_ | refine gil rfl (by assumption) (by rfl) (by omega) (by omega) ?_ | refine gbl rfl (by assumption) (by rfl) (by omega) (by omega) ?_ | refine gln rfl (xlen_i (by assumption)) ?_ | refine gln rfl (xlen_q (by assumption)) ?_)
    refine gri rfl (fun h => absurd h (by decide)) ⟨?_, rfl⟩
    rw [xk_m1]
    obtain ⟨b, l⟩ := F1
    cases b <;> rfl
  | some q1, some F1, h1, some q2, some F2, h2 =>
    have hh1 : hFile σ q1 F1 := h1
    have hh2 : hFile σ q2 F2 := h2
    obtain ⟨b1, c1, ⟨f1, c2, c3⟩, c4, -, -⟩ := h1
    obtain ⟨b2, e1, ⟨f2, e2, e3⟩, e4, -, -⟩ := h2
    obtain ⟨g1, o1⟩ := k1 F1 rfl
    obtain ⟨g2, o2⟩ := k2 F2 rfl
    repeat (first | refine gp rfl rfl rfl ?_ | refine ggf rfl (by assumption) (by rfl) ?_ | refine gal rfl (by assumption) (by rfl) (by omega) (by omega) ?_ | refine gil rfl (by assumption) (by rfl) (by omega) (by omega) ?_ | refine gbl rfl (by assumption) (by rfl) (by omega) (by omega) ?_ | refine gln rfl (xlen_i (by assumption)) ?_ | refine gln rfl (xlen_q (by assumption)) ?_)
    refine gnl rfl (fun hz => by cases hz) (fun z hz => ?_)
    repeat (first | refine gp rfl rfl rfl ?_ | refine ggf rfl (by assumption) (by rfl) ?_ | refine gal rfl (by assumption) (by rfl) (by omega) (by omega) ?_ | refine gil rfl (by assumption) (by rfl) (by omega) (by omega) ?_ | refine gbl rfl (by assumption) (by rfl) (by omega) (by omega) ?_ | refine gln rfl (xlen_i (by assumption)) ?_ | refine gln rfl (xlen_q (by assumption)) ?_)
    refine gnl rfl (fun hz => by cases hz) (fun z hz => ?_)
    repeat (first | refine gp rfl rfl rfl ?_ | refine ggf rfl (by assumption) (by rfl) ?_ | refine gal rfl (by assumption) (by rfl) (by omega) (by omega) ?_ | refine gil rfl (by assumption) (by rfl) (by omega) (by omega) ?_ | refine gbl rfl (by assumption) (by rfl) (by omega) (by omega) ?_ | refine gln rfl (xlen_i (by assumption)) ?_ | refine gln rfl (xlen_q (by assumption)) ?_)
    obtain ⟨k1', l1⟩ := F1
    obtain ⟨k2', l2⟩ := F2
    cases k1' with
    | true =>
      refine git rfl (show ¬ (1 : Int32) = 0 by decide) ?_
      repeat (first | refine gp rfl rfl rfl ?_ | refine ggf rfl (by assumption) (by rfl) ?_ | refine gal rfl (by assumption) (by rfl) (by omega) (by omega) ?_ | refine gil rfl (by assumption) (by rfl) (by omega) (by omega) ?_ | refine gbl rfl (by assumption) (by rfl) (by omega) (by omega) ?_ | refine gln rfl (xlen_i (by assumption)) ?_ | refine gln rfl (xlen_q (by assumption)) ?_)
      exact gri rfl (fun h => absurd h (by decide)) ⟨by rw [xk_m1]; rfl, rfl⟩
    | false =>
      refine giff rfl (fun h => h (show (0 : Int32) = 0 from rfl)) ?_
      repeat (first | refine gp rfl rfl rfl ?_ | refine ggf rfl (by assumption) (by rfl) ?_ | refine gal rfl (by assumption) (by rfl) (by omega) (by omega) ?_ | refine gil rfl (by assumption) (by rfl) (by omega) (by omega) ?_ | refine gbl rfl (by assumption) (by rfl) (by omega) (by omega) ?_ | refine gln rfl (xlen_i (by assumption)) ?_ | refine gln rfl (xlen_q (by assumption)) ?_)
      cases k2' with
      | true =>
        refine giff rfl (fun h => absurd (show (1 : Int32) = 0 from h) (by decide)) ?_
        repeat (first | refine gp rfl rfl rfl ?_ | refine ggf rfl (by assumption) (by rfl) ?_ | refine gal rfl (by assumption) (by rfl) (by omega) (by omega) ?_ | refine gil rfl (by assumption) (by rfl) (by omega) (by omega) ?_ | refine gbl rfl (by assumption) (by rfl) (by omega) (by omega) ?_ | refine gln rfl (xlen_i (by assumption)) ?_ | refine gln rfl (xlen_q (by assumption)) ?_)
        exact gri rfl (fun h => absurd h (by decide)) ⟨by rw [xk_m1]; rfl, rfl⟩
      | false =>
        refine git rfl (show (0 : Int32) = 0 from rfl) ?_
        have c2 : σ.1 b1 = some (.inl (0, l1.length, f1)) := c2
        have e2 : σ.1 b2 = some (.inl (0, l2.length, f2)) := e2
        have g1 : l1.length ≤ 8 := g1
        have g2 : l2.length ≤ 8 := g2
        repeat (first | refine gp rfl rfl rfl ?_ | refine ggf rfl (by assumption) (by rfl) ?_ | refine gal rfl (by assumption) (by rfl) (by omega) (by omega) ?_ | refine gil rfl (by assumption) (by rfl) (by omega) (by omega) ?_ | refine gbl rfl (by assumption) (by rfl) (by omega) (by omega) ?_ | refine gln rfl (xlen_i (by assumption)) ?_ | refine gln rfl (xlen_q (by assumption)) ?_)
        refine gmx rfl (by decide) ?_
        rw [mx_nI (by omega) (by omega)]
        repeat (first | refine gp rfl rfl rfl ?_ | refine ggf rfl (by assumption) (by rfl) ?_ | refine gal rfl (by assumption) (by rfl) (by omega) (by omega) ?_ | refine gil rfl (by assumption) (by rfl) (by omega) (by omega) ?_ | refine gbl rfl (by assumption) (by rfl) (by omega) (by omega) ?_ | refine gln rfl (xlen_i (by assumption)) ?_ | refine gln rfl (xlen_q (by assumption)) ?_)
        refine gif' rfl (fun hz => ?_) (fun hz => ?_)
        · repeat (first | refine gp rfl rfl rfl ?_ | refine ggf rfl (by assumption) (by rfl) ?_ | refine gal rfl (by assumption) (by rfl) (by omega) (by omega) ?_ | refine gil rfl (by assumption) (by rfl) (by omega) (by omega) ?_ | refine gbl rfl (by assumption) (by rfl) (by omega) (by omega) ?_ | refine gln rfl (xlen_i (by assumption)) ?_ | refine gln rfl (xlen_q (by assumption)) ?_)
          refine gcv (As := [.inr (some q2)]) (rest := [.inl (xk 100 0)]) rfl (by decide) (m_countShared d hh1 hh2 g2 o1) c1 rfl rfl (Nat.le_of_ble_eq_true rfl) ?_
          have hs := pShare_le l1 l2 g1
          have hm : max l1.length l2.length ≠ 0 := fun z => hz (show nI (max l1.length l2.length) = 0 by rw [z]; rfl)
          have hm9 : max l1.length l2.length ≤ 8 := Nat.max_le.mpr ⟨g1, g2⟩
          repeat (first | refine gp rfl rfl rfl ?_ | refine ggf rfl (by assumption) (by rfl) ?_ | refine gal rfl (by assumption) (by rfl) (by omega) (by omega) ?_ | refine gil rfl (by assumption) (by rfl) (by omega) (by omega) ?_ | refine gbl rfl (by assumption) (by rfl) (by omega) (by omega) ?_ | refine gln rfl (xlen_i (by assumption)) ?_ | refine gln rfl (xlen_q (by assumption)) ?_)
          refine gp rfl rfl ⟨fun z => hz z, rfl⟩ ?_
          refine gri rfl (fun h => absurd h (by decide)) ⟨?_, rfl⟩
          show some (Sum.inl (nI 100 * nI (pShare l1 l2) / nI (max l1.length l2.length))) = _
          rw [pk_mul, pk_div (by omega) (by omega) (by omega)]
          show _ = some (Sum.inl (if max l1.length l2.length = 0 then 0 else _))
          rw [if_neg hm]
        · have hm : max l1.length l2.length = 0 := by
            by_cases hz2 : nI (max l1.length l2.length) = 0
            · exact (nI_eq (by omega) (by decide)).mp hz2
            · exact absurd hz2 hz
          repeat (first | refine gp rfl rfl rfl ?_ | refine ggf rfl (by assumption) (by rfl) ?_ | refine gal rfl (by assumption) (by rfl) (by omega) (by omega) ?_ | refine gil rfl (by assumption) (by rfl) (by omega) (by omega) ?_ | refine gbl rfl (by assumption) (by rfl) (by omega) (by omega) ?_ | refine gln rfl (xlen_i (by assumption)) ?_ | refine gln rfl (xlen_q (by assumption)) ?_)
          refine gri rfl (fun h => absurd h (by decide)) ⟨?_, rfl⟩
          show _ = some (Sum.inl (if max l1.length l2.length = 0 then 0 else _))
          rw [if_pos hm]
          rfl
/-- the first of 0 .. n - 1 -/
def pFst (P : Nat → Bool) : Nat → Option Nat
  | 0 => none
  | n + 1 => match pFst P n with
    | some i => some i
    | none => if P n then some n else none
theorem pFst_hit {P : Nat → Bool} {i : Nat} (h : pFst P i = none) (hi : P i = true) : ∀ {n : Nat}, i < n → pFst P n = some i
  | 0, hn => by omega
  | n + 1, hn => by
    by_cases hin : i = n
    · subst hin
      rw [pFst, h]
      simp [hi]
    · rw [pFst, pFst_hit h hi (n := n) (by omega)]
theorem pFst_keep {P : Nat → Bool} {i j : Nat} (h : pFst P i = some j) : ∀ {n : Nat}, i ≤ n → pFst P n = some j
  | 0, hn => by obtain rfl : i = 0 := by omega
                exact h
  | n + 1, hn => by
    by_cases hin : i = n + 1
    · subst hin; exact h
    · rw [pFst, pFst_keep h (n := n) (by omega)]
theorem pFst_in {P : Nat → Bool} : ∀ {n i : Nat}, pFst P n = some i → i < n ∧ P i = true
  | 0, _, h => by cases h
  | n + 1, i, h => by
    rw [pFst] at h
    cases hp : pFst P n with
    | some k =>
      rw [hp] at h
      cases h
      obtain ⟨h1, h2⟩ := pFst_in hp
      exact ⟨by omega, h2⟩
    | none =>
      rw [hp] at h
      simp only at h
      split at h
      · cases h
        exact ⟨by omega, by assumption⟩
      · cases h
theorem pFst_s (P : Nat → Bool) (n : Nat) : pFst P (n + 1) = match pFst P n with
    | some i => some i
    | none => if P n then some n else none := rfl
/-- the first with the name, else the first -/
def pPick (P : Nat → Bool) (m : Nat) : Option Nat := match pFst (fun p => P p && decide (p % 8 = m)) 64 with
  | some p => some p
  | none => pFst P 64
theorem pPick_in {P : Nat → Bool} {m p : Nat} (h : pPick P m = some p) : p < 64 ∧ P p = true := by
  unfold pPick at h
  cases h1 : pFst (fun p => P p && decide (p % 8 = m)) 64 with
  | some z =>
    rw [h1] at h
    cases h
    obtain ⟨g1, g2⟩ := pFst_in h1
    exact ⟨g1, by simp at g2; exact g2.1⟩
  | none =>
    rw [h1] at h
    exact pFst_in h
theorem m_findEqualSource (d : Nat) {σ : xS} {a t m : Nat} {B T : pT} {R : pR} {q : Option Nat} {F : Option pF} (h : hRen σ a B T R) (hB : hT σ t B) (hq : hOpt σ q F) (hm : m < 8) : xEx (d + 3) 19 [.inr (some a), .inr (some t), .inr q, .inl (nI m)] σ (some (.inl (oI (pPick (fun p => rSL B T R p && decide (B p = F)) m)))) σ := by
  obtain ⟨h0, ft, fs, fl, h1, h2, h3, h4⟩ := h
  have h0 : σ.1 a = some (.inr (.inr (3, [.inr (some (a + 1)), .inr (some (a + 2)), .inr (some (a + 3)), .inr (some (a + 4)), .inr (some (a + 5)), .inr (some (a + 6))]))) := h0
  have hobj := hB.obj
  refine ⟨by decide, rfl, ?_⟩
  show xGo (xEx (d + 2)) xtb_19 _ (0, [some (.inr (some a)), some (.inr (some t)), some (.inr q), some (.inl (nI m)), none, none], [], σ)
  generalize hPe : (fun p => rSL B T R p && decide (B p = F)) = P
  have hP : ∀ p, P p = (rSL B T R p && decide (B p = F)) := fun p => by rw [← hPe]
  have loop : ∀ k i, i + k = 64 → pFst (fun p => P p && decide (p % 8 = m)) i = none → xGo (xEx (d + 2)) xtb_19 (fun r0 σ0 => r0 = some (.inl (oI (pPick P m))) ∧ σ0 = σ) (10, [some (.inr (some a)), some (.inr (some t)), some (.inr q), some (.inl (nI m)), some (.inl (oI (pFst P i))), some (.inl (nI i))], [.inl (nI 64), .inl (nI i)], σ) := by
    intro k
    induction k with
    | zero =>
      intro i hi hn
      obtain rfl : i = 64 := by omega
      refine gct rfl (show nI 64 ≤ nI _ from nI_le (by omega) (by omega)) ?_
      repeat (first | refine gp rfl rfl rfl ?_ | refine ggf rfl (by assumption) (by rfl) ?_ | refine gal rfl (by assumption) (by rfl) (by omega) (by omega) ?_ | refine gil rfl (by assumption) (by rfl) (by omega) (by omega) ?_ | refine gbl rfl (by assumption) (by rfl) (by omega) (by omega) ?_ | refine gln rfl (xlen_i (by assumption)) ?_ | refine gln rfl (xlen_q (by assumption)) ?_)
      refine gri rfl (fun h => absurd h (by decide)) ⟨?_, rfl⟩
      unfold pPick
      rw [hn]
    | succ k ih =>
      intro i hi hn
      have hi64 : i < 64 := by omega
      refine gcf rfl (nI_ge (by omega) (by omega)) ?_
      repeat (first | refine gp rfl rfl rfl ?_ | refine ggf rfl (by assumption) (by rfl) ?_ | refine gal rfl (by assumption) (by rfl) (by omega) (by omega) ?_ | refine gil rfl (by assumption) (by rfl) (by omega) (by omega) ?_ | refine gbl rfl (by assumption) (by rfl) (by omega) (by omega) ?_ | refine gln rfl (xlen_i (by assumption)) ?_ | refine gln rfl (xlen_q (by assumption)) ?_)
      rw [(h4 i (by omega)).2.1]
      have ih' := ih (i + 1) (by omega)
      rw [pFst_s, pFst_s, hn] at ih'
      simp only at ih'
      have hskip : P i = false → xGo (xEx (d + 2)) xtb_19 (fun r0 σ0 => r0 = some (.inl (oI (pPick P m))) ∧ σ0 = σ) (58, [some (.inr (some a)), some (.inr (some t)), some (.inr q), some (.inl (nI m)), some (.inl (oI (pFst P i))), some (.inl (nI i))], [], σ) := by
        intro hp
        rw [hp] at ih'
        have e : (match pFst P i with
          | some i => some i
          | none => if false = true then some i else none) = pFst P i := by cases pFst P i <;> rfl
        rw [e] at ih'
        repeat (first | refine gp rfl rfl rfl ?_ | refine ggf rfl (by assumption) (by rfl) ?_ | refine gal rfl (by assumption) (by rfl) (by omega) (by omega) ?_ | refine gil rfl (by assumption) (by rfl) (by omega) (by omega) ?_ | refine gbl rfl (by assumption) (by rfl) (by omega) (by omega) ?_ | refine gln rfl (xlen_i (by assumption)) ?_ | refine gln rfl (xlen_q (by assumption)) ?_)
        rw [nI_s]
        exact ih' (by simp)
      cases hs : rSL B T R i with
      | false =>
        refine git rfl (show (0 : Int32) = 0 from rfl) ?_
        exact hskip (by rw [hP, hs]; rfl)
      | true =>
        refine giff rfl (fun h => absurd (show (1 : Int32) = 0 from h) (by decide)) ?_
        repeat (first | refine gp rfl rfl rfl ?_ | refine ggf rfl (by assumption) (by rfl) ?_ | refine gal rfl (by assumption) (by rfl) (by omega) (by omega) ?_ | refine gil rfl (by assumption) (by rfl) (by omega) (by omega) ?_ | refine gbl rfl (by assumption) (by rfl) (by omega) (by omega) ?_ | refine gln rfl (xlen_i (by assumption)) ?_ | refine gln rfl (xlen_q (by assumption)) ?_)
        obtain ⟨qi, hqi, hoi⟩ := m_fileAtT d hB hi64
        refine gcv (As := [.inl (nI i)]) (rest := []) rfl (by decide) hqi hobj rfl rfl (by decide) ?_
        repeat (first | refine gp rfl rfl rfl ?_ | refine ggf rfl (by assumption) (by rfl) ?_ | refine gal rfl (by assumption) (by rfl) (by omega) (by omega) ?_ | refine gil rfl (by assumption) (by rfl) (by omega) (by omega) ?_ | refine gbl rfl (by assumption) (by rfl) (by omega) (by omega) ?_ | refine gln rfl (xlen_i (by assumption)) ?_ | refine gln rfl (xlen_q (by assumption)) ?_)
        refine gcs (As := [.inr qi, .inr q]) (rest := []) rfl (by decide) (m_same d hoi hq) rfl rfl (by decide) ?_
        by_cases hBF : B i = F
        · rw [decide_eq_true hBF]
          refine giff rfl (fun h => absurd (show (1 : Int32) = 0 from h) (by decide)) ?_
          have hPi : P i = true := by rw [hP, hs, decide_eq_true hBF]; rfl
          repeat (first | refine gp rfl rfl rfl ?_ | refine ggf rfl (by assumption) (by rfl) ?_ | refine gal rfl (by assumption) (by rfl) (by omega) (by omega) ?_ | refine gil rfl (by assumption) (by rfl) (by omega) (by omega) ?_ | refine gbl rfl (by assumption) (by rfl) (by omega) (by omega) ?_ | refine gln rfl (xlen_i (by assumption)) ?_ | refine gln rfl (xlen_q (by assumption)) ?_)
          refine gcs (As := [.inl (nI i)]) (rest := []) rfl (by decide) (m_nameOf (d + 1) (by omega)) rfl rfl (by decide) ?_
          repeat (first | refine gp rfl rfl rfl ?_ | refine ggf rfl (by assumption) (by rfl) ?_ | refine gal rfl (by assumption) (by rfl) (by omega) (by omega) ?_ | refine gil rfl (by assumption) (by rfl) (by omega) (by omega) ?_ | refine gbl rfl (by assumption) (by rfl) (by omega) (by omega) ?_ | refine gln rfl (xlen_i (by assumption)) ?_ | refine gln rfl (xlen_q (by assumption)) ?_)
          refine gcp rfl (fun hne => ?_) (fun heq => ?_)
          · have hne : ¬ i % 8 = m := fun z => hne (show nI (i % 8) = nI m by rw [z])
            rw [hPi, decide_eq_false hne] at ih'
            repeat (first | refine gp rfl rfl rfl ?_ | refine ggf rfl (by assumption) (by rfl) ?_ | refine gal rfl (by assumption) (by rfl) (by omega) (by omega) ?_ | refine gil rfl (by assumption) (by rfl) (by omega) (by omega) ?_ | refine gbl rfl (by assumption) (by rfl) (by omega) (by omega) ?_ | refine gln rfl (xlen_i (by assumption)) ?_ | refine gln rfl (xlen_q (by assumption)) ?_)
            rw [xk_m1]
            cases hf : pFst P i with
            | some z =>
              have hz := (pFst_in hf).1
              refine gct rfl (show ¬ nI z = -1 from oI_ne (by omega)) ?_
              rw [hf] at ih'
              repeat (first | refine gp rfl rfl rfl ?_ | refine ggf rfl (by assumption) (by rfl) ?_ | refine gal rfl (by assumption) (by rfl) (by omega) (by omega) ?_ | refine gil rfl (by assumption) (by rfl) (by omega) (by omega) ?_ | refine gbl rfl (by assumption) (by rfl) (by omega) (by omega) ?_ | refine gln rfl (xlen_i (by assumption)) ?_ | refine gln rfl (xlen_q (by assumption)) ?_)
              rw [nI_s]
              exact ih' (by simp)
            | none =>
              refine gcf rfl (fun h => h (show (-1 : Int32) = -1 from rfl)) ?_
              rw [hf] at ih'
              repeat (first | refine gp rfl rfl rfl ?_ | refine ggf rfl (by assumption) (by rfl) ?_ | refine gal rfl (by assumption) (by rfl) (by omega) (by omega) ?_ | refine gil rfl (by assumption) (by rfl) (by omega) (by omega) ?_ | refine gbl rfl (by assumption) (by rfl) (by omega) (by omega) ?_ | refine gln rfl (xlen_i (by assumption)) ?_ | refine gln rfl (xlen_q (by assumption)) ?_)
              rw [nI_s]
              exact ih' (by simp)
          · have heq : i % 8 = m := by
              by_cases hz : nI (i % 8) = nI m
              · exact (nI_eq (by omega) (by omega)).mp hz
              · exact absurd hz heq
            repeat (first | refine gp rfl rfl rfl ?_ | refine ggf rfl (by assumption) (by rfl) ?_ | refine gal rfl (by assumption) (by rfl) (by omega) (by omega) ?_ | refine gil rfl (by assumption) (by rfl) (by omega) (by omega) ?_ | refine gbl rfl (by assumption) (by rfl) (by omega) (by omega) ?_ | refine gln rfl (xlen_i (by assumption)) ?_ | refine gln rfl (xlen_q (by assumption)) ?_)
            refine gri rfl (fun h => absurd h (by decide)) ⟨?_, rfl⟩
            unfold pPick
            rw [pFst_hit hn (by simp [hPi, heq]) hi64]
            rfl
        · rw [decide_eq_false hBF]
          refine git rfl (show (0 : Int32) = 0 from rfl) ?_
          exact hskip (by rw [hP, decide_eq_false hBF]; simp)
  repeat (first | refine gp rfl rfl rfl ?_ | refine ggf rfl (by assumption) (by rfl) ?_ | refine gal rfl (by assumption) (by rfl) (by omega) (by omega) ?_ | refine gil rfl (by assumption) (by rfl) (by omega) (by omega) ?_ | refine gbl rfl (by assumption) (by rfl) (by omega) (by omega) ?_ | refine gln rfl (xlen_i (by assumption)) ?_ | refine gln rfl (xlen_q (by assumption)) ?_)
  rw [xk_m1]
  exact loop 64 0 rfl rfl
end
section
/-! MODULE: renames of one side, the class: the steps -/
def rExS (B T : pT) (R : pR) (q : Nat) : pR := if rTL B T R q then (match pPick (fun p => rSL B T R p && decide (B p = T q)) (q % 8) with
  | some p => rJ R p q
  | none => R) else R
def rExA (B T : pT) (R : pR) : Nat → pR
  | 0 => R
  | n + 1 => rExS B T (rExA B T R n) n
theorem hSd.fr {lo hi a : Nat} {σ σ' : xS} (h : hSd σ a) (hf : hFr lo hi σ σ') (ha : a < lo ∨ hi < a) : hSd σ' a := by
  unfold hSd
  rw [hf.2 a ha]
  exact h
theorem m_pairEqualFiles (d : Nat) {σ : xS} {a t u : Nat} {B T : pT} {R : pR} (h : hRen σ a B T R) (hB : hT σ t B) (hTt : hT σ u T) (ha : 2 ≤ a ∧ a + 6 < 38) (ht : 38 ≤ t) (hu : 38 ≤ u) : ∃ σ', xEx (d + 4) 18 [.inr (some a), .inr (some t), .inr (some u)] σ none σ' ∧ hRen σ' a B T (rExA B T R 64) ∧ hFr (a + 1) (a + 3) σ σ' := by
  have loop : ∀ k i (σi : xS), i + k = 64 → hRen σi a B T (rExA B T R i) → hFr (a + 1) (a + 3) σ σi → ∀ l4, xGo (xEx (d + 3)) xtb_18 (fun r0 σ0 => r0 = none ∧ hRen σ0 a B T (rExA B T R 64) ∧ hFr (a + 1) (a + 3) σ σ0) (5, [some (.inr (some a)), some (.inr (some t)), some (.inr (some u)), some (.inl (nI i)), l4], [.inl (nI 64), .inl (nI i)], σi) := by
    intro k
    induction k with
    | zero =>
      intro i σi hi hR hF l4
      obtain rfl : i = 64 := by omega
      refine gct rfl (show nI 64 ≤ nI _ from nI_le (by omega) (by omega)) ?_
      exact grv rfl ⟨rfl, hR, hF⟩
    | succ k ih =>
      intro i σi hi hR hF l4
      have hi64 : i < 64 := by omega
      have hB' := hB.fr hF (by omega) (Or.inl (by omega))
      have hT' := hTt.fr hF (by omega) (Or.inl (by omega))
      have hR0 := hR
      obtain ⟨h0, ft, fs, fl, h1, h2, h3, h4⟩ := hR
      have h0 : σi.1 a = some (.inr (.inr (3, [.inr (some (a + 1)), .inr (some (a + 2)), .inr (some (a + 3)), .inr (some (a + 4)), .inr (some (a + 5)), .inr (some (a + 6))]))) := h0
      have ho1 := hB'.obj
      have ho2 := hT'.obj
      refine gcf rfl (nI_ge (by omega) (by omega)) ?_
      repeat (first | refine gp rfl rfl rfl ?_ | refine ggf rfl (by assumption) (by rfl) ?_ | refine gal rfl (by assumption) (by rfl) (by omega) (by omega) ?_ | refine gil rfl (by assumption) (by rfl) (by omega) (by omega) ?_ | refine gbl rfl (by assumption) (by rfl) (by omega) (by omega) ?_ | refine gln rfl (xlen_i (by assumption)) ?_ | refine gln rfl (xlen_q (by assumption)) ?_)
      rw [(h4 i hi64).2.2]
      have hstep : rExA B T R (i + 1) = rExS B T (rExA B T R i) i := rfl
      cases hl : rTL B T (rExA B T R i) i with
      | false =>
        refine git rfl (show (0 : Int32) = 0 from rfl) ?_
        repeat (first | refine gp rfl rfl rfl ?_ | refine ggf rfl (by assumption) (by rfl) ?_ | refine gal rfl (by assumption) (by rfl) (by omega) (by omega) ?_ | refine gil rfl (by assumption) (by rfl) (by omega) (by omega) ?_ | refine gbl rfl (by assumption) (by rfl) (by omega) (by omega) ?_ | refine gln rfl (xlen_i (by assumption)) ?_ | refine gln rfl (xlen_q (by assumption)) ?_)
        rw [nI_s]
        refine ih (i + 1) σi (by omega) ?_ hF _
        rw [hstep, rExS, hl]
        exact hR0
      | true =>
        refine giff rfl (fun h => absurd (show (1 : Int32) = 0 from h) (by decide)) ?_
        repeat (first | refine gp rfl rfl rfl ?_ | refine ggf rfl (by assumption) (by rfl) ?_ | refine gal rfl (by assumption) (by rfl) (by omega) (by omega) ?_ | refine gil rfl (by assumption) (by rfl) (by omega) (by omega) ?_ | refine gbl rfl (by assumption) (by rfl) (by omega) (by omega) ?_ | refine gln rfl (xlen_i (by assumption)) ?_ | refine gln rfl (xlen_q (by assumption)) ?_)
        obtain ⟨qi, hqi, hoi⟩ := m_fileAtT (d + 1) hT' hi64
        refine gcv (As := [.inl (nI i)]) (rest := [.inr (some t), .inr (some a)]) rfl (by decide) hqi ho2 rfl rfl (Nat.le_of_ble_eq_true rfl) ?_
        repeat (first | refine gp rfl rfl rfl ?_ | refine ggf rfl (by assumption) (by rfl) ?_ | refine gal rfl (by assumption) (by rfl) (by omega) (by omega) ?_ | refine gil rfl (by assumption) (by rfl) (by omega) (by omega) ?_ | refine gbl rfl (by assumption) (by rfl) (by omega) (by omega) ?_ | refine gln rfl (xlen_i (by assumption)) ?_ | refine gln rfl (xlen_q (by assumption)) ?_)
        refine gcs (As := [.inl (nI i)]) (rest := [.inr qi, .inr (some t), .inr (some a)]) rfl (by decide) (m_nameOf (d + 2) (by omega)) rfl rfl (Nat.le_of_ble_eq_true rfl) ?_
        refine gcv (As := [.inr (some t), .inr qi, .inl (nI (i % 8))]) (rest := []) rfl (by decide) (m_findEqualSource d hR0 hB' hoi (by omega)) h0 rfl rfl (by decide) ?_
        repeat (first | refine gp rfl rfl rfl ?_ | refine ggf rfl (by assumption) (by rfl) ?_ | refine gal rfl (by assumption) (by rfl) (by omega) (by omega) ?_ | refine gil rfl (by assumption) (by rfl) (by omega) (by omega) ?_ | refine gbl rfl (by assumption) (by rfl) (by omega) (by omega) ?_ | refine gln rfl (xlen_i (by assumption)) ?_ | refine gln rfl (xlen_q (by assumption)) ?_)
        rw [xk_m1]
        cases hp : pPick (fun p => rSL B T (rExA B T R i) p && decide (B p = T i)) (i % 8) with
        | none =>
          refine gct rfl (show (-1 : Int32) = -1 from rfl) ?_
          repeat (first | refine gp rfl rfl rfl ?_ | refine ggf rfl (by assumption) (by rfl) ?_ | refine gal rfl (by assumption) (by rfl) (by omega) (by omega) ?_ | refine gil rfl (by assumption) (by rfl) (by omega) (by omega) ?_ | refine gbl rfl (by assumption) (by rfl) (by omega) (by omega) ?_ | refine gln rfl (xlen_i (by assumption)) ?_ | refine gln rfl (xlen_q (by assumption)) ?_)
          rw [nI_s]
          refine ih (i + 1) σi (by omega) ?_ hF _
          rw [hstep, rExS, hl, if_pos rfl, hp]
          exact hR0
        | some p =>
          have hpi := (pPick_in hp).1
          refine gcf rfl (oI_ne (by omega)) ?_
          repeat (first | refine gp rfl rfl rfl ?_ | refine ggf rfl (by assumption) (by rfl) ?_ | refine gal rfl (by assumption) (by rfl) (by omega) (by omega) ?_ | refine gil rfl (by assumption) (by rfl) (by omega) (by omega) ?_ | refine gbl rfl (by assumption) (by rfl) (by omega) (by omega) ?_ | refine gln rfl (xlen_i (by assumption)) ?_ | refine gln rfl (xlen_q (by assumption)) ?_)
          obtain ⟨σ2, hex, hR2, hF2⟩ := m_pair (d + 2) hR0 hpi hi64 ha.1
          refine gcv (As := [.inl (nI p), .inl (nI i)]) (rest := []) rfl (by decide) hex h0 rfl rfl (by decide) ?_
          repeat (first | refine gp rfl rfl rfl ?_ | refine ggf rfl (by assumption) (by rfl) ?_ | refine gal rfl (by assumption) (by rfl) (by omega) (by omega) ?_ | refine gil rfl (by assumption) (by rfl) (by omega) (by omega) ?_ | refine gbl rfl (by assumption) (by rfl) (by omega) (by omega) ?_ | refine gln rfl (xlen_i (by assumption)) ?_ | refine gln rfl (xlen_q (by assumption)) ?_)
          rw [nI_s]
          refine ih (i + 1) σ2 (by omega) ?_ (hF.trans hF2) _
          rw [hstep, rExS, hl, if_pos rfl, hp]
          exact hR2
  obtain ⟨r, σ', hex, rfl, h1, h2⟩ := ex_of (d := d + 3) (y := 18) (as := [.inr (some a), .inr (some t), .inr (some u)]) (σ := σ) (K := fun r0 σ0 => r0 = none ∧ hRen σ0 a B T (rExA B T R 64) ∧ hFr (a + 1) (a + 3) σ σ0) (by decide) rfl (by
    show xGo (xEx (d + 3)) xtb_18 _ (0, [some (.inr (some a)), some (.inr (some t)), some (.inr (some u)), none, none], [], σ)
    repeat (first | refine gp rfl rfl rfl ?_ | refine ggf rfl (by assumption) (by rfl) ?_ | refine gal rfl (by assumption) (by rfl) (by omega) (by omega) ?_ | refine gil rfl (by assumption) (by rfl) (by omega) (by omega) ?_ | refine gbl rfl (by assumption) (by rfl) (by omega) (by omega) ?_ | refine gln rfl (xlen_i (by assumption)) ?_ | refine gln rfl (xlen_q (by assumption)) ?_)
    exact loop 64 0 σ rfl h (hFr.refl _ _ _) none)
  exact ⟨σ', hex, h1, h2⟩
def rNaS (B T : pT) (ls : Int32) (R : pR) (m : Nat) : pR := match pOnly (rSL B T R) m, pOnly (rTL B T R) m with
  | some p, some q => if ls ≤ pScore (B p) (T q) then rJ R p q else R
  | _, _ => R
def rNaA (B T : pT) (ls : Int32) (R : pR) : Nat → pR
  | 0 => R
  | n + 1 => rNaS B T ls (rNaA B T ls R n) n
theorem pOnly_lt {P : Nat → Bool} {m p : Nat} (h : pOnly P m = some p) (hm : m < 8) : p < 64 := by
  unfold pOnly at h
  split at h
  · rename_i h1
    obtain ⟨k, hk, e⟩ := (pOn_some P m 8).2 (by omega)
    rw [e] at h
    cases h
    omega
  · cases h
theorem m_pairOnlyNames (d : Nat) {σ : xS} {a t u : Nat} {B T : pT} {R : pR} {ls : Int32} (h : hRen σ a B T R) (hB : hT σ t B) (hTt : hT σ u T) (kB : pTok B) (kT : pTok T) (ha : 2 ≤ a ∧ a + 6 < 38) (ht : 38 ≤ t) (hu : 38 ≤ u) : ∃ σ', xEx (d + 3) 21 [.inr (some a), .inr (some t), .inr (some u), .inl ls] σ none σ' ∧ hRen σ' a B T (rNaA B T ls R 8) ∧ hFr (a + 1) (a + 3) σ σ' := by
  have loop : ∀ k i (σi : xS), i + k = 8 → hRen σi a B T (rNaA B T ls R i) → hFr (a + 1) (a + 3) σ σi → ∀ l5 l6, xGo (xEx (d + 2)) xtb_21 (fun r0 σ0 => r0 = none ∧ hRen σ0 a B T (rNaA B T ls R 8) ∧ hFr (a + 1) (a + 3) σ σ0) (7, [some (.inr (some a)), some (.inr (some t)), some (.inr (some u)), some (.inl ls), some (.inl (nI i)), l5, l6], [.inl (nI 8), .inl (nI i)], σi) := by
    intro k
    induction k with
    | zero =>
      intro i σi hi hR hF l5 l6
      obtain rfl : i = 8 := by omega
      refine gct rfl (show nI 8 ≤ nI _ from nI_le (by omega) (by omega)) ?_
      exact grv rfl ⟨rfl, hR, hF⟩
    | succ k ih =>
      intro i σi hi hR hF l5 l6
      have hi8 : i < 8 := by omega
      have hB' := hB.fr hF (by omega) (Or.inl (by omega))
      have hT' := hTt.fr hF (by omega) (Or.inl (by omega))
      have hR0 := hR
      obtain ⟨h0, ft, fs, fl, h1, h2, h3, h4⟩ := hR
      have h0 : σi.1 a = some (.inr (.inr (3, [.inr (some (a + 1)), .inr (some (a + 2)), .inr (some (a + 3)), .inr (some (a + 4)), .inr (some (a + 5)), .inr (some (a + 6))]))) := h0
      have ho1 := hB'.obj
      have ho2 := hT'.obj
      have hstep : rNaA B T ls R (i + 1) = rNaS B T ls (rNaA B T ls R i) i := rfl
      refine gcf rfl (nI_ge (by omega) (by omega)) ?_
      repeat (first | refine gp rfl rfl rfl ?_ | refine ggf rfl (by assumption) (by rfl) ?_ | refine gal rfl (by assumption) (by rfl) (by omega) (by omega) ?_ | refine gil rfl (by assumption) (by rfl) (by omega) (by omega) ?_ | refine gbl rfl (by assumption) (by rfl) (by omega) (by omega) ?_ | refine gln rfl (xlen_i (by assumption)) ?_ | refine gln rfl (xlen_q (by assumption)) ?_)
      refine gcs (As := [.inr (some (a + 2)), .inl (nI i)]) (rest := []) rfl (by decide) (m_findOnly (d + 1) h2 (fun p hp => (h4 p hp).2.1) hi8) rfl rfl (by decide) ?_
      repeat (first | refine gp rfl rfl rfl ?_ | refine ggf rfl (by assumption) (by rfl) ?_ | refine gal rfl (by assumption) (by rfl) (by omega) (by omega) ?_ | refine gil rfl (by assumption) (by rfl) (by omega) (by omega) ?_ | refine gbl rfl (by assumption) (by rfl) (by omega) (by omega) ?_ | refine gln rfl (xlen_i (by assumption)) ?_ | refine gln rfl (xlen_q (by assumption)) ?_)
      refine gcs (As := [.inr (some (a + 3)), .inl (nI i)]) (rest := []) rfl (by decide) (m_findOnly (d + 1) h3 (fun p hp => (h4 p hp).2.2) hi8) rfl rfl (by decide) ?_
      repeat (first | refine gp rfl rfl rfl ?_ | refine ggf rfl (by assumption) (by rfl) ?_ | refine gal rfl (by assumption) (by rfl) (by omega) (by omega) ?_ | refine gil rfl (by assumption) (by rfl) (by omega) (by omega) ?_ | refine gbl rfl (by assumption) (by rfl) (by omega) (by omega) ?_ | refine gln rfl (xlen_i (by assumption)) ?_ | refine gln rfl (xlen_q (by assumption)) ?_)
      rw [xk_m1]
      cases hp : pOnly (rSL B T (rNaA B T ls R i)) i with
      | none =>
        refine gct rfl (show (-1 : Int32) = -1 from rfl) ?_
        repeat (first | refine gp rfl rfl rfl ?_ | refine ggf rfl (by assumption) (by rfl) ?_ | refine gal rfl (by assumption) (by rfl) (by omega) (by omega) ?_ | refine gil rfl (by assumption) (by rfl) (by omega) (by omega) ?_ | refine gbl rfl (by assumption) (by rfl) (by omega) (by omega) ?_ | refine gln rfl (xlen_i (by assumption)) ?_ | refine gln rfl (xlen_q (by assumption)) ?_)
        rw [nI_s]
        refine ih (i + 1) σi (by omega) ?_ hF _ _
        rw [hstep, rNaS, hp]
        exact hR0
      | some p =>
        have hpl := pOnly_lt hp hi8
        refine gcf rfl (oI_ne (by omega)) ?_
        repeat (first | refine gp rfl rfl rfl ?_ | refine ggf rfl (by assumption) (by rfl) ?_ | refine gal rfl (by assumption) (by rfl) (by omega) (by omega) ?_ | refine gil rfl (by assumption) (by rfl) (by omega) (by omega) ?_ | refine gbl rfl (by assumption) (by rfl) (by omega) (by omega) ?_ | refine gln rfl (xlen_i (by assumption)) ?_ | refine gln rfl (xlen_q (by assumption)) ?_)
        rw [xk_m1]
        cases hq : pOnly (rTL B T (rNaA B T ls R i)) i with
        | none =>
          refine gct rfl (show (-1 : Int32) = -1 from rfl) ?_
          repeat (first | refine gp rfl rfl rfl ?_ | refine ggf rfl (by assumption) (by rfl) ?_ | refine gal rfl (by assumption) (by rfl) (by omega) (by omega) ?_ | refine gil rfl (by assumption) (by rfl) (by omega) (by omega) ?_ | refine gbl rfl (by assumption) (by rfl) (by omega) (by omega) ?_ | refine gln rfl (xlen_i (by assumption)) ?_ | refine gln rfl (xlen_q (by assumption)) ?_)
          rw [nI_s]
          refine ih (i + 1) σi (by omega) ?_ hF _ _
          rw [hstep, rNaS, hp, hq]
          exact hR0
        | some q =>
          have hql := pOnly_lt hq hi8
          refine gcf rfl (oI_ne (by omega)) ?_
          repeat (first | refine gp rfl rfl rfl ?_ | refine ggf rfl (by assumption) (by rfl) ?_ | refine gal rfl (by assumption) (by rfl) (by omega) (by omega) ?_ | refine gil rfl (by assumption) (by rfl) (by omega) (by omega) ?_ | refine gbl rfl (by assumption) (by rfl) (by omega) (by omega) ?_ | refine gln rfl (xlen_i (by assumption)) ?_ | refine gln rfl (xlen_q (by assumption)) ?_)
          obtain ⟨q1, hq1, ho3⟩ := m_fileAtT d hB' hpl
          refine gcv (As := [.inl (nI p)]) (rest := []) rfl (by decide) hq1 ho1 rfl rfl (by decide) ?_
          repeat (first | refine gp rfl rfl rfl ?_ | refine ggf rfl (by assumption) (by rfl) ?_ | refine gal rfl (by assumption) (by rfl) (by omega) (by omega) ?_ | refine gil rfl (by assumption) (by rfl) (by omega) (by omega) ?_ | refine gbl rfl (by assumption) (by rfl) (by omega) (by omega) ?_ | refine gln rfl (xlen_i (by assumption)) ?_ | refine gln rfl (xlen_q (by assumption)) ?_)
          obtain ⟨q2, hq2, ho4⟩ := m_fileAtT d hT' hql
          refine gcv (As := [.inl (nI q)]) (rest := [.inr q1]) rfl (by decide) hq2 ho2 rfl rfl (Nat.le_of_ble_eq_true rfl) ?_
          refine gcs (As := [.inr q1, .inr q2]) (rest := []) rfl (by decide) (m_likeness d ho3 ho4 (kB p hpl) (kT q hql)) rfl rfl (by decide) ?_
          repeat (first | refine gp rfl rfl rfl ?_ | refine ggf rfl (by assumption) (by rfl) ?_ | refine gal rfl (by assumption) (by rfl) (by omega) (by omega) ?_ | refine gil rfl (by assumption) (by rfl) (by omega) (by omega) ?_ | refine gbl rfl (by assumption) (by rfl) (by omega) (by omega) ?_ | refine gln rfl (xlen_i (by assumption)) ?_ | refine gln rfl (xlen_q (by assumption)) ?_)
          refine gcp rfl (fun hlt => ?_) (fun hge => ?_)
          · repeat (first | refine gp rfl rfl rfl ?_ | refine ggf rfl (by assumption) (by rfl) ?_ | refine gal rfl (by assumption) (by rfl) (by omega) (by omega) ?_ | refine gil rfl (by assumption) (by rfl) (by omega) (by omega) ?_ | refine gbl rfl (by assumption) (by rfl) (by omega) (by omega) ?_ | refine gln rfl (xlen_i (by assumption)) ?_ | refine gln rfl (xlen_q (by assumption)) ?_)
            rw [nI_s]
            refine ih (i + 1) σi (by omega) ?_ hF _ _
            rw [hstep, rNaS, hp, hq]
            show hRen σi a B T (if ls ≤ pScore (B p) (T q) then _ else _)
            rw [if_neg (Int32.not_le.mpr hlt)]
            exact hR0
          · repeat (first | refine gp rfl rfl rfl ?_ | refine ggf rfl (by assumption) (by rfl) ?_ | refine gal rfl (by assumption) (by rfl) (by omega) (by omega) ?_ | refine gil rfl (by assumption) (by rfl) (by omega) (by omega) ?_ | refine gbl rfl (by assumption) (by rfl) (by omega) (by omega) ?_ | refine gln rfl (xlen_i (by assumption)) ?_ | refine gln rfl (xlen_q (by assumption)) ?_)
            obtain ⟨σ2, hex, hR2, hF2⟩ := m_pair (d + 1) hR0 hpl hql ha.1
            refine gcv (As := [.inl (nI p), .inl (nI q)]) (rest := []) rfl (by decide) hex h0 rfl rfl (by decide) ?_
            repeat (first | refine gp rfl rfl rfl ?_ | refine ggf rfl (by assumption) (by rfl) ?_ | refine gal rfl (by assumption) (by rfl) (by omega) (by omega) ?_ | refine gil rfl (by assumption) (by rfl) (by omega) (by omega) ?_ | refine gbl rfl (by assumption) (by rfl) (by omega) (by omega) ?_ | refine gln rfl (xlen_i (by assumption)) ?_ | refine gln rfl (xlen_q (by assumption)) ?_)
            rw [nI_s]
            refine ih (i + 1) σ2 (by omega) ?_ (hF.trans hF2) _ _
            rw [hstep, rNaS, hp, hq]
            show hRen σ2 a B T (if ls ≤ pScore (B p) (T q) then _ else _)
            rw [if_pos (Int32.not_lt.mp hge)]
            exact hR2
  obtain ⟨r, σ', hex, rfl, h1, h2⟩ := ex_of (d := d + 2) (y := 21) (as := [.inr (some a), .inr (some t), .inr (some u), .inl ls]) (σ := σ) (K := fun r0 σ0 => r0 = none ∧ hRen σ0 a B T (rNaA B T ls R 8) ∧ hFr (a + 1) (a + 3) σ σ0) (by decide) rfl (by
    show xGo (xEx (d + 2)) xtb_21 _ (0, [some (.inr (some a)), some (.inr (some t)), some (.inr (some u)), some (.inl ls), none, none, none], [], σ)
    repeat (first | refine gp rfl rfl rfl ?_ | refine ggf rfl (by assumption) (by rfl) ?_ | refine gal rfl (by assumption) (by rfl) (by omega) (by omega) ?_ | refine gil rfl (by assumption) (by rfl) (by omega) (by omega) ?_ | refine gbl rfl (by assumption) (by rfl) (by omega) (by omega) ?_ | refine gln rfl (xlen_i (by assumption)) ?_ | refine gln rfl (xlen_q (by assumption)) ?_)
    exact loop 8 0 σ rfl h (hFr.refl _ _ _) none none)
  exact ⟨σ', hex, h1, h2⟩
end
section
/-! MODULE: renames of one side, the class: by score -/
abbrev pB : Type := Int32 × Option (Nat × Nat)
def rBq (B T : pT) (th : Int32) (R : pR) (p : Nat) (b : pB) (q : Nat) : pB := if rTL B T R q && decide (th ≤ pScore (B p) (T q)) && decide (b.1 < nI 2 * pScore (B p) (T q) + (if p % 8 = q % 8 then 1 else 0)) then (nI 2 * pScore (B p) (T q) + (if p % 8 = q % 8 then 1 else 0), some (p, q)) else b
def rBr (B T : pT) (th : Int32) (R : pR) (p : Nat) (b : pB) : Nat → pB
  | 0 => b
  | n + 1 => rBq B T th R p (rBr B T th R p b n) n
def rBp (B T : pT) (th : Int32) (R : pR) : Nat → pB
  | 0 => (-1, none)
  | n + 1 => if rSL B T R n then rBr B T th R n (rBp B T th R n) 64 else rBp B T th R n
def rBS (B T : pT) (th : Int32) (R : pR) : pR := match (rBp B T th R 64).2 with
  | some (p, q) => rJ R p q
  | none => R
def bok (b : pB) : Prop := ∀ p q, b.2 = some (p, q) → p < 64 ∧ q < 64
theorem rBq_ok {B T : pT} {th : Int32} {R : pR} {p q : Nat} {b : pB} (h : bok b) (hp : p < 64) (hq : q < 64) : bok (rBq B T th R p b q) := by
  unfold rBq
  generalize nI 2 * pScore (B p) (T q) + (if p % 8 = q % 8 then 1 else 0) = u
  split
  · intro p' q' he
    cases he
    exact ⟨hp, hq⟩
  · exact h
theorem rBr_ok {B T : pT} {th : Int32} {R : pR} {p : Nat} {b : pB} (h : bok b) (hp : p < 64) : ∀ n, n ≤ 64 → bok (rBr B T th R p b n)
  | 0, _ => h
  | n + 1, hn => rBq_ok (rBr_ok h hp n (by omega)) hp (by omega)
theorem rBp_ok {B T : pT} {th : Int32} {R : pR} : ∀ n, n ≤ 64 → bok (rBp B T th R n)
  | 0, _ => fun _ _ h => by cases h
  | n + 1, hn => by
    unfold rBp
    split
    · exact rBr_ok (rBp_ok n (by omega)) (by omega) 64 (by omega)
    · exact rBp_ok n (by omega)
theorem m_pairBest (d : Nat) {σ : xS} {a t u : Nat} {B T : pT} {R : pR} {th : Int32} (h : hRen σ a B T R) (hB : hT σ t B) (hTt : hT σ u T) (kB : pTok B) (kT : pTok T) (ha : 2 ≤ a ∧ a + 6 < 38) (ht : 38 ≤ t) (hu : 38 ≤ u) : ∃ σ', xEx (d + 3) 25 [.inr (some a), .inr (some t), .inr (some u), .inl th] σ none σ' ∧ hRen σ' a B T (rBS B T th R) ∧ hFr (a + 1) (a + 3) σ σ' := by
  have hR0 := h
  obtain ⟨h0, ft, fs, fl, h1, h2, h3, h4⟩ := h
  have h0 : σ.1 a = some (.inr (.inr (3, [.inr (some (a + 1)), .inr (some (a + 2)), .inr (some (a + 3)), .inr (some (a + 4)), .inr (some (a + 5)), .inr (some (a + 6))]))) := h0
  have ho1 := hB.obj
  have ho2 := hTt.obj
  have outer : ∀ k i, i + k = 64 → ∀ l8 l9 l10, xGo (xEx (d + 2)) xtb_25 (fun r0 σ0 => r0 = none ∧ hRen σ0 a B T (rBS B T th R) ∧ hFr (a + 1) (a + 3) σ σ0) (16, [some (.inr (some a)), some (.inr (some t)), some (.inr (some u)), some (.inl th), some (.inl (rBp B T th R i).1), some (.inl (oI ((rBp B T th R i).2.map Prod.fst))), some (.inl (oI ((rBp B T th R i).2.map Prod.snd))), some (.inl (nI i)), l8, l9, l10], [.inl (nI 64), .inl (nI i)], σ) := by
    intro k
    induction k with
    | zero =>
      intro i hi l8 l9 l10
      obtain rfl : i = 64 := by omega
      refine gct rfl (show nI 64 ≤ nI _ from nI_le (by omega) (by omega)) ?_
      repeat (first | refine gp rfl rfl rfl ?_ | refine ggf rfl (by assumption) (by rfl) ?_ | refine gal rfl (by assumption) (by rfl) (by omega) (by omega) ?_ | refine gil rfl (by assumption) (by rfl) (by omega) (by omega) ?_ | refine gbl rfl (by assumption) (by rfl) (by omega) (by omega) ?_ | refine gln rfl (xlen_i (by assumption)) ?_ | refine gln rfl (xlen_q (by assumption)) ?_)
      rw [xk_m1]
      have hok := rBp_ok (B := B) (T := T) (th := th) (R := R) 64 (by omega)
      cases hb : (rBp B T th R 64).2 with
      | none =>
        refine gct rfl (show (-1 : Int32) = -1 from rfl) ?_
        refine grv rfl ⟨rfl, ?_, hFr.refl _ _ _⟩
        unfold rBS
        rw [hb]
        exact hR0
      | some pq =>
        obtain ⟨p, q⟩ := pq
        obtain ⟨hp, hq⟩ := hok p q hb
        refine gcf rfl (show ¬ nI p = -1 from oI_ne (by omega)) ?_
        repeat (first | refine gp rfl rfl rfl ?_ | refine ggf rfl (by assumption) (by rfl) ?_ | refine gal rfl (by assumption) (by rfl) (by omega) (by omega) ?_ | refine gil rfl (by assumption) (by rfl) (by omega) (by omega) ?_ | refine gbl rfl (by assumption) (by rfl) (by omega) (by omega) ?_ | refine gln rfl (xlen_i (by assumption)) ?_ | refine gln rfl (xlen_q (by assumption)) ?_)
        rw [xk_m1]
        refine gcf rfl (show ¬ nI q = -1 from oI_ne (by omega)) ?_
        repeat (first | refine gp rfl rfl rfl ?_ | refine ggf rfl (by assumption) (by rfl) ?_ | refine gal rfl (by assumption) (by rfl) (by omega) (by omega) ?_ | refine gil rfl (by assumption) (by rfl) (by omega) (by omega) ?_ | refine gbl rfl (by assumption) (by rfl) (by omega) (by omega) ?_ | refine gln rfl (xlen_i (by assumption)) ?_ | refine gln rfl (xlen_q (by assumption)) ?_)
        obtain ⟨σ2, hex, hR2, hF2⟩ := m_pair (d + 1) hR0 hp hq ha.1
        refine gcv (As := [.inl (nI p), .inl (nI q)]) (rest := []) rfl (by decide) hex h0 rfl rfl (by decide) ?_
        refine grv rfl ⟨rfl, ?_, hF2⟩
        unfold rBS
        rw [hb]
        exact hR2
    | succ k ih =>
      intro i hi l8 l9 l10
      have hi64 : i < 64 := by omega
      refine gcf rfl (nI_ge (by omega) (by omega)) ?_
      have inner : ∀ k2 j, j + k2 = 64 → (rSL B T R i = false → j = 0) → ∀ l9 l10, xGo (xEx (d + 2)) xtb_25 (fun r0 σ0 => r0 = none ∧ hRen σ0 a B T (rBS B T th R) ∧ hFr (a + 1) (a + 3) σ σ0) (26, [some (.inr (some a)), some (.inr (some t)), some (.inr (some u)), some (.inl th), some (.inl (rBr B T th R i (rBp B T th R i) j).1), some (.inl (oI ((rBr B T th R i (rBp B T th R i) j).2.map Prod.fst))), some (.inl (oI ((rBr B T th R i (rBp B T th R i) j).2.map Prod.snd))), some (.inl (nI i)), some (.inl (nI j)), l9, l10], [.inl (nI 64), .inl (nI j)], σ) := by
        intro k2
        induction k2 with
        | zero =>
          intro j hj hs l9 l10
          obtain rfl : j = 64 := by omega
          refine gct rfl (show nI 64 ≤ nI _ from nI_le (by omega) (by omega)) ?_
          repeat (first | refine gp rfl rfl rfl ?_ | refine ggf rfl (by assumption) (by rfl) ?_ | refine gal rfl (by assumption) (by rfl) (by omega) (by omega) ?_ | refine gil rfl (by assumption) (by rfl) (by omega) (by omega) ?_ | refine gbl rfl (by assumption) (by rfl) (by omega) (by omega) ?_ | refine gln rfl (xlen_i (by assumption)) ?_ | refine gln rfl (xlen_q (by assumption)) ?_)
          rw [nI_s]
          have ih' := ih (i + 1) (by omega) (some (.inl (nI 64))) l9 l10
          have e : rBp B T th R (i + 1) = rBr B T th R i (rBp B T th R i) 64 := by
            rw [rBp]
            cases hsl : rSL B T R i with
            | true => rw [if_pos rfl]
            | false => exact absurd (hs hsl) (by omega)
          rw [e] at ih'
          exact ih'
        | succ k2 ih2 =>
          intro j hj hs l9 l10
          have hj64 : j < 64 := by omega
          refine gcf rfl (nI_ge (by omega) (by omega)) ?_
          repeat (first | refine gp rfl rfl rfl ?_ | refine ggf rfl (by assumption) (by rfl) ?_ | refine gal rfl (by assumption) (by rfl) (by omega) (by omega) ?_ | refine gil rfl (by assumption) (by rfl) (by omega) (by omega) ?_ | refine gbl rfl (by assumption) (by rfl) (by omega) (by omega) ?_ | refine gln rfl (xlen_i (by assumption)) ?_ | refine gln rfl (xlen_q (by assumption)) ?_)
          rw [(h4 i hi64).2.1]
          cases hsl : rSL B T R i with
          | false =>
            obtain rfl := hs hsl
            refine git rfl (show (0 : Int32) = 0 from rfl) ?_
            repeat (first | refine gp rfl rfl rfl ?_ | refine ggf rfl (by assumption) (by rfl) ?_ | refine gal rfl (by assumption) (by rfl) (by omega) (by omega) ?_ | refine gil rfl (by assumption) (by rfl) (by omega) (by omega) ?_ | refine gbl rfl (by assumption) (by rfl) (by omega) (by omega) ?_ | refine gln rfl (xlen_i (by assumption)) ?_ | refine gln rfl (xlen_q (by assumption)) ?_)
            rw [nI_s]
            have ih' := ih (i + 1) (by omega) (some (.inl (nI 0))) l9 l10
            have e : rBp B T th R (i + 1) = rBr B T th R i (rBp B T th R i) 0 := by
              rw [rBp, hsl, if_neg (by decide)]
              rfl
            rw [e] at ih'
            exact ih'
          | true =>
            refine giff rfl (fun h => absurd (show (1 : Int32) = 0 from h) (by decide)) ?_
            repeat (first | refine gp rfl rfl rfl ?_ | refine ggf rfl (by assumption) (by rfl) ?_ | refine gal rfl (by assumption) (by rfl) (by omega) (by omega) ?_ | refine gil rfl (by assumption) (by rfl) (by omega) (by omega) ?_ | refine gbl rfl (by assumption) (by rfl) (by omega) (by omega) ?_ | refine gln rfl (xlen_i (by assumption)) ?_ | refine gln rfl (xlen_q (by assumption)) ?_)
            rw [(h4 j hj64).2.2]
            have hstep : rBr B T th R i (rBp B T th R i) (j + 1) = rBq B T th R i (rBr B T th R i (rBp B T th R i) j) j := rfl
            have hsk : ∀ l9 l10, rBq B T th R i (rBr B T th R i (rBp B T th R i) j) j = rBr B T th R i (rBp B T th R i) j → xGo (xEx (d + 2)) xtb_25 (fun r0 σ0 => r0 = none ∧ hRen σ0 a B T (rBS B T th R) ∧ hFr (a + 1) (a + 3) σ σ0) (116, [some (.inr (some a)), some (.inr (some t)), some (.inr (some u)), some (.inl th), some (.inl (rBr B T th R i (rBp B T th R i) j).1), some (.inl (oI ((rBr B T th R i (rBp B T th R i) j).2.map Prod.fst))), some (.inl (oI ((rBr B T th R i (rBp B T th R i) j).2.map Prod.snd))), some (.inl (nI i)), some (.inl (nI j)), l9, l10], [], σ) := by
              intro l9 l10 he
              have ih' := ih2 (j + 1) (by omega) (fun z => by rw [hsl] at z; cases z) l9 l10
              rw [hstep, he] at ih'
              repeat (first | refine gp rfl rfl rfl ?_ | refine ggf rfl (by assumption) (by rfl) ?_ | refine gal rfl (by assumption) (by rfl) (by omega) (by omega) ?_ | refine gil rfl (by assumption) (by rfl) (by omega) (by omega) ?_ | refine gbl rfl (by assumption) (by rfl) (by omega) (by omega) ?_ | refine gln rfl (xlen_i (by assumption)) ?_ | refine gln rfl (xlen_q (by assumption)) ?_)
              rw [nI_s]
              exact ih'
            cases htl : rTL B T R j with
            | false =>
              refine git rfl (show (0 : Int32) = 0 from rfl) ?_
              exact hsk l9 l10 (by unfold rBq; rw [htl]; rfl)
            | true =>
              refine giff rfl (fun h => absurd (show (1 : Int32) = 0 from h) (by decide)) ?_
              repeat (first | refine gp rfl rfl rfl ?_ | refine ggf rfl (by assumption) (by rfl) ?_ | refine gal rfl (by assumption) (by rfl) (by omega) (by omega) ?_ | refine gil rfl (by assumption) (by rfl) (by omega) (by omega) ?_ | refine gbl rfl (by assumption) (by rfl) (by omega) (by omega) ?_ | refine gln rfl (xlen_i (by assumption)) ?_ | refine gln rfl (xlen_q (by assumption)) ?_)
              obtain ⟨q1, hq1, ho3⟩ := m_fileAtT d hB hi64
              refine gcv (As := [.inl (nI i)]) (rest := []) rfl (by decide) hq1 ho1 rfl rfl (by decide) ?_
              repeat (first | refine gp rfl rfl rfl ?_ | refine ggf rfl (by assumption) (by rfl) ?_ | refine gal rfl (by assumption) (by rfl) (by omega) (by omega) ?_ | refine gil rfl (by assumption) (by rfl) (by omega) (by omega) ?_ | refine gbl rfl (by assumption) (by rfl) (by omega) (by omega) ?_ | refine gln rfl (xlen_i (by assumption)) ?_ | refine gln rfl (xlen_q (by assumption)) ?_)
              obtain ⟨q2, hq2, ho4⟩ := m_fileAtT d hTt hj64
              refine gcv (As := [.inl (nI j)]) (rest := [.inr q1]) rfl (by decide) hq2 ho2 rfl rfl (Nat.le_of_ble_eq_true rfl) ?_
              refine gcs (As := [.inr q1, .inr q2]) (rest := []) rfl (by decide) (m_likeness d ho3 ho4 (kB i hi64) (kT j hj64)) rfl rfl (by decide) ?_
              repeat (first | refine gp rfl rfl rfl ?_ | refine ggf rfl (by assumption) (by rfl) ?_ | refine gal rfl (by assumption) (by rfl) (by omega) (by omega) ?_ | refine gil rfl (by assumption) (by rfl) (by omega) (by omega) ?_ | refine gbl rfl (by assumption) (by rfl) (by omega) (by omega) ?_ | refine gln rfl (xlen_i (by assumption)) ?_ | refine gln rfl (xlen_q (by assumption)) ?_)
              refine gcs (As := [.inl (nI i)]) (rest := [.inl (nI 2 * pScore (B i) (T j))]) rfl (by decide) (m_nameOf (d + 1) (by omega)) rfl rfl (Nat.le_of_ble_eq_true rfl) ?_
              repeat (first | refine gp rfl rfl rfl ?_ | refine ggf rfl (by assumption) (by rfl) ?_ | refine gal rfl (by assumption) (by rfl) (by omega) (by omega) ?_ | refine gil rfl (by assumption) (by rfl) (by omega) (by omega) ?_ | refine gbl rfl (by assumption) (by rfl) (by omega) (by omega) ?_ | refine gln rfl (xlen_i (by assumption)) ?_ | refine gln rfl (xlen_q (by assumption)) ?_)
              refine gcs (As := [.inl (nI j)]) (rest := [.inl (nI (i % 8)), .inl (nI 2 * pScore (B i) (T j))]) rfl (by decide) (m_nameOf (d + 1) (by omega)) rfl rfl (Nat.le_of_ble_eq_true rfl) ?_
              have hfin : ∀ bn : Int32, (if i % 8 = j % 8 then (1 : Int32) else 0) = bn → xGo (xEx (d + 2)) xtb_25 (fun r0 σ0 => r0 = none ∧ hRen σ0 a B T (rBS B T th R) ∧ hFr (a + 1) (a + 3) σ σ0) (88, [some (.inr (some a)), some (.inr (some t)), some (.inr (some u)), some (.inl th), some (.inl (rBr B T th R i (rBp B T th R i) j).1), some (.inl (oI ((rBr B T th R i (rBp B T th R i) j).2.map Prod.fst))), some (.inl (oI ((rBr B T th R i (rBp B T th R i) j).2.map Prod.snd))), some (.inl (nI i)), some (.inl (nI j)), some (.inl (pScore (B i) (T j))), l10], [.inl bn, .inl (nI 2 * pScore (B i) (T j))], σ) := by
                intro bn hbn
                repeat (first | refine gp rfl rfl rfl ?_ | refine ggf rfl (by assumption) (by rfl) ?_ | refine gal rfl (by assumption) (by rfl) (by omega) (by omega) ?_ | refine gil rfl (by assumption) (by rfl) (by omega) (by omega) ?_ | refine gbl rfl (by assumption) (by rfl) (by omega) (by omega) ?_ | refine gln rfl (xlen_i (by assumption)) ?_ | refine gln rfl (xlen_q (by assumption)) ?_)
                refine gcp rfl (fun hlt => ?_) (fun hge => ?_)
                · exact hsk _ _ (by unfold rBq; rw [decide_eq_false (Int32.not_le.mpr hlt)]; simp)
                · have hge : th ≤ pScore (B i) (T j) := Int32.not_lt.mp hge
                  repeat (first | refine gp rfl rfl rfl ?_ | refine ggf rfl (by assumption) (by rfl) ?_ | refine gal rfl (by assumption) (by rfl) (by omega) (by omega) ?_ | refine gil rfl (by assumption) (by rfl) (by omega) (by omega) ?_ | refine gbl rfl (by assumption) (by rfl) (by omega) (by omega) ?_ | refine gln rfl (xlen_i (by assumption)) ?_ | refine gln rfl (xlen_q (by assumption)) ?_)
                  refine gcp rfl (fun hle => ?_) (fun hgt => ?_)
                  · exact hsk _ _ (by unfold rBq; rw [hbn, decide_eq_false (Int32.not_lt.mpr hle)]; simp)
                  · have hgt : (rBr B T th R i (rBp B T th R i) j).1 < nI 2 * pScore (B i) (T j) + bn := Int32.not_le.mp hgt
                    have ih' := ih2 (j + 1) (by omega) (fun z => by rw [hsl] at z; cases z) (some (.inl (pScore (B i) (T j)))) (some (.inl (nI 2 * pScore (B i) (T j) + bn)))
                    have e : rBq B T th R i (rBr B T th R i (rBp B T th R i) j) j = (nI 2 * pScore (B i) (T j) + bn, some (i, j)) := by
                      unfold rBq
                      rw [hbn, htl, decide_eq_true hge, decide_eq_true hgt]
                      rfl
                    rw [hstep, e] at ih'
                    repeat (first | refine gp rfl rfl rfl ?_ | refine ggf rfl (by assumption) (by rfl) ?_ | refine gal rfl (by assumption) (by rfl) (by omega) (by omega) ?_ | refine gil rfl (by assumption) (by rfl) (by omega) (by omega) ?_ | refine gbl rfl (by assumption) (by rfl) (by omega) (by omega) ?_ | refine gln rfl (xlen_i (by assumption)) ?_ | refine gln rfl (xlen_q (by assumption)) ?_)
                    rw [nI_s]
                    exact ih'
              refine gcp rfl (fun hne => ?_) (fun heq => ?_)
              · have hne : ¬ i % 8 = j % 8 := fun z => hne (show nI (i % 8) = nI (j % 8) by rw [z])
                refine gp rfl rfl rfl ?_
                exact hfin 0 (by rw [if_neg hne])
              · have heq : i % 8 = j % 8 := by
                  by_cases hz : nI (i % 8) = nI (j % 8)
                  · exact (nI_eq (by omega) (by omega)).mp hz
                  · exact absurd hz heq
                refine gp rfl rfl rfl ?_
                refine gp rfl rfl rfl ?_
                exact hfin 1 (by rw [if_pos heq])
      repeat (first | refine gp rfl rfl rfl ?_ | refine ggf rfl (by assumption) (by rfl) ?_ | refine gal rfl (by assumption) (by rfl) (by omega) (by omega) ?_ | refine gil rfl (by assumption) (by rfl) (by omega) (by omega) ?_ | refine gbl rfl (by assumption) (by rfl) (by omega) (by omega) ?_ | refine gln rfl (xlen_i (by assumption)) ?_ | refine gln rfl (xlen_q (by assumption)) ?_)
      exact inner 64 0 (by omega) (fun _ => rfl) l9 l10
  obtain ⟨r, σ', hex, rfl, h1, h2⟩ := ex_of (d := d + 2) (y := 25) (as := [.inr (some a), .inr (some t), .inr (some u), .inl th]) (σ := σ) (K := fun r0 σ0 => r0 = none ∧ hRen σ0 a B T (rBS B T th R) ∧ hFr (a + 1) (a + 3) σ σ0) (by decide) rfl (by
    show xGo (xEx (d + 2)) xtb_25 _ (0, [some (.inr (some a)), some (.inr (some t)), some (.inr (some u)), some (.inl th), none, none, none, none, none, none, none], [], σ)
    repeat (first | refine gp rfl rfl rfl ?_ | refine ggf rfl (by assumption) (by rfl) ?_ | refine gal rfl (by assumption) (by rfl) (by omega) (by omega) ?_ | refine gil rfl (by assumption) (by rfl) (by omega) (by omega) ?_ | refine gbl rfl (by assumption) (by rfl) (by omega) (by omega) ?_ | refine gln rfl (xlen_i (by assumption)) ?_ | refine gln rfl (xlen_q (by assumption)) ?_)
    have := outer 64 0 rfl none none none
    exact this)
  exact ⟨σ', hex, h1, h2⟩
end
section
/-! MODULE: renames of one side, the class: all -/
def rIt (f : pR → pR) (R : pR) : Nat → pR
  | 0 => R
  | n + 1 => f (rIt f R n)
def rScA (B T : pT) (th : Int32) (R : pR) : pR := if 20 < pCnt (rSL B T R) 64 * pCnt (rTL B T R) 64 then R else rIt (rBS B T th) R (min (pCnt (rSL B T R) 64) (pCnt (rTL B T R) 64))
theorem m_pairByScore (d : Nat) {σ : xS} {a t u : Nat} {B T : pT} {R : pR} {th : Int32} (h : hRen σ a B T R) (hB : hT σ t B) (hTt : hT σ u T) (kB : pTok B) (kT : pTok T) (ha : 2 ≤ a ∧ a + 6 < 38) (ht : 38 ≤ t) (hu : 38 ≤ u) : ∃ σ', xEx (d + 4) 23 [.inr (some a), .inr (some t), .inr (some u), .inl th] σ none σ' ∧ hRen σ' a B T (rScA B T th R) ∧ hFr (a + 1) (a + 3) σ σ' := by
  have hR0 := h
  obtain ⟨h0, ft, fs, fl, h1, h2, h3, h4⟩ := h
  have h0 : σ.1 a = some (.inr (.inr (3, [.inr (some (a + 1)), .inr (some (a + 2)), .inr (some (a + 3)), .inr (some (a + 4)), .inr (some (a + 5)), .inr (some (a + 6))]))) := h0
  have hs := pCnt_le (rSL B T R) 64
  have hl := pCnt_le (rTL B T R) 64
  have hmul : pCnt (rSL B T R) 64 * pCnt (rTL B T R) 64 ≤ 64 * 64 := Nat.mul_le_mul hs hl
  have hmin : min (pCnt (rSL B T R) 64) (pCnt (rTL B T R) 64) ≤ 64 := Nat.le_trans (Nat.min_le_left _ _) hs
  have loop : ¬ 20 < pCnt (rSL B T R) 64 * pCnt (rTL B T R) 64 → ∀ k i (σi : xS), i + k = min (pCnt (rSL B T R) 64) (pCnt (rTL B T R) 64) → hRen σi a B T (rIt (rBS B T th) R i) → hFr (a + 1) (a + 3) σ σi → xGo (xEx (d + 3)) xtb_23 (fun r0 σ0 => r0 = none ∧ hRen σ0 a B T (rScA B T th R) ∧ hFr (a + 1) (a + 3) σ σ0) (45, [some (.inr (some a)), some (.inr (some t)), some (.inr (some u)), some (.inl th), some (.inl (nI (pCnt (rSL B T R) 64))), some (.inl (nI (pCnt (rTL B T R) 64))), some (.inl (nI (min (pCnt (rSL B T R) 64) (pCnt (rTL B T R) 64)))), some (.inl (nI i))], [.inl (nI (min (pCnt (rSL B T R) 64) (pCnt (rTL B T R) 64))), .inl (nI i)], σi) := by
    intro hno k
    induction k with
    | zero =>
      intro i σi hi hR hF
      refine gct rfl (show nI _ ≤ nI _ from nI_le (by omega) (by omega)) ?_
      refine grv rfl ⟨rfl, ?_, hF⟩
      unfold rScA
      rw [if_neg hno, ← hi]
      exact hR
    | succ k ih =>
      intro i σi hi hR hF
      have hB' := hB.fr hF (by omega) (Or.inl (by omega))
      have hT' := hTt.fr hF (by omega) (Or.inl (by omega))
      have hobj : σi.1 a = some (.inr (.inr (3, [.inr (some (a + 1)), .inr (some (a + 2)), .inr (some (a + 3)), .inr (some (a + 4)), .inr (some (a + 5)), .inr (some (a + 6))]))) := hR.1
      refine gcf rfl (nI_ge (by omega) (by omega)) ?_
      repeat (first | refine gp rfl rfl rfl ?_ | refine ggf rfl (by assumption) (by rfl) ?_ | refine gal rfl (by assumption) (by rfl) (by omega) (by omega) ?_ | refine gil rfl (by assumption) (by rfl) (by omega) (by omega) ?_ | refine gbl rfl (by assumption) (by rfl) (by omega) (by omega) ?_ | refine gln rfl (xlen_i (by assumption)) ?_ | refine gln rfl (xlen_q (by assumption)) ?_)
      obtain ⟨σ2, hex, hR2, hF2⟩ := m_pairBest d (th := th) hR hB' hT' kB kT ha ht hu
      refine gcv (As := [.inr (some t), .inr (some u), .inl th]) (rest := []) rfl (by decide) hex hobj rfl rfl (by decide) ?_
      repeat (first | refine gp rfl rfl rfl ?_ | refine ggf rfl (by assumption) (by rfl) ?_ | refine gal rfl (by assumption) (by rfl) (by omega) (by omega) ?_ | refine gil rfl (by assumption) (by rfl) (by omega) (by omega) ?_ | refine gbl rfl (by assumption) (by rfl) (by omega) (by omega) ?_ | refine gln rfl (xlen_i (by assumption)) ?_ | refine gln rfl (xlen_q (by assumption)) ?_)
      rw [nI_s]
      exact ih (i + 1) σ2 (by omega) hR2 (hF.trans hF2)
  obtain ⟨r, σ', hex, rfl, h1, h2⟩ := ex_of (d := d + 3) (y := 23) (as := [.inr (some a), .inr (some t), .inr (some u), .inl th]) (σ := σ) (K := fun r0 σ0 => r0 = none ∧ hRen σ0 a B T (rScA B T th R) ∧ hFr (a + 1) (a + 3) σ σ0) (by decide) rfl (by
    show xGo (xEx (d + 3)) xtb_23 _ (0, [some (.inr (some a)), some (.inr (some t)), some (.inr (some u)), some (.inl th), none, none, none, none], [], σ)
    repeat (first | refine gp rfl rfl rfl ?_ | refine ggf rfl (by assumption) (by rfl) ?_ | refine gal rfl (by assumption) (by rfl) (by omega) (by omega) ?_ | refine gil rfl (by assumption) (by rfl) (by omega) (by omega) ?_ | refine gbl rfl (by assumption) (by rfl) (by omega) (by omega) ?_ | refine gln rfl (xlen_i (by assumption)) ?_ | refine gln rfl (xlen_q (by assumption)) ?_)
    refine gcs (As := [.inr (some (a + 2))]) (rest := []) rfl (by decide) (m_countLeft (d + 2) h2 (fun p hp => (h4 p hp).2.1)) rfl rfl (by decide) ?_
    repeat (first | refine gp rfl rfl rfl ?_ | refine ggf rfl (by assumption) (by rfl) ?_ | refine gal rfl (by assumption) (by rfl) (by omega) (by omega) ?_ | refine gil rfl (by assumption) (by rfl) (by omega) (by omega) ?_ | refine gbl rfl (by assumption) (by rfl) (by omega) (by omega) ?_ | refine gln rfl (xlen_i (by assumption)) ?_ | refine gln rfl (xlen_q (by assumption)) ?_)
    refine gcs (As := [.inr (some (a + 3))]) (rest := []) rfl (by decide) (m_countLeft (d + 2) h3 (fun p hp => (h4 p hp).2.2)) rfl rfl (by decide) ?_
    repeat (first | refine gp rfl rfl rfl ?_ | refine ggf rfl (by assumption) (by rfl) ?_ | refine gal rfl (by assumption) (by rfl) (by omega) (by omega) ?_ | refine gil rfl (by assumption) (by rfl) (by omega) (by omega) ?_ | refine gbl rfl (by assumption) (by rfl) (by omega) (by omega) ?_ | refine gln rfl (xlen_i (by assumption)) ?_ | refine gln rfl (xlen_q (by assumption)) ?_)
    rw [pk_mul]
    refine gcp rfl (fun hle => ?_) (fun hgt => ?_)
    · have hle : ¬ 20 < pCnt (rSL B T R) 64 * pCnt (rTL B T R) 64 := by
        have := (nI_leI (by omega) (by decide)).mp (show nI _ ≤ nI 20 from hle)
        omega
      repeat (first | refine gp rfl rfl rfl ?_ | refine ggf rfl (by assumption) (by rfl) ?_ | refine gal rfl (by assumption) (by rfl) (by omega) (by omega) ?_ | refine gil rfl (by assumption) (by rfl) (by omega) (by omega) ?_ | refine gbl rfl (by assumption) (by rfl) (by omega) (by omega) ?_ | refine gln rfl (xlen_i (by assumption)) ?_ | refine gln rfl (xlen_q (by assumption)) ?_)
      refine gmn rfl (by decide) ?_
      rw [mn_nI (by omega) (by omega)]
      repeat (first | refine gp rfl rfl rfl ?_ | refine ggf rfl (by assumption) (by rfl) ?_ | refine gal rfl (by assumption) (by rfl) (by omega) (by omega) ?_ | refine gil rfl (by assumption) (by rfl) (by omega) (by omega) ?_ | refine gbl rfl (by assumption) (by rfl) (by omega) (by omega) ?_ | refine gln rfl (xlen_i (by assumption)) ?_ | refine gln rfl (xlen_q (by assumption)) ?_)
      exact loop hle (min (pCnt (rSL B T R) 64) (pCnt (rTL B T R) 64)) 0 σ (Nat.zero_add _) hR0 (hFr.refl _ _ _)
    · have hgt : 20 < pCnt (rSL B T R) 64 * pCnt (rTL B T R) 64 := by
        rcases Nat.lt_or_ge 20 (pCnt (rSL B T R) 64 * pCnt (rTL B T R) 64) with z | z
        · exact z
        · exact absurd (show nI (pCnt (rSL B T R) 64 * pCnt (rTL B T R) 64) ≤ nI 20 from (nI_leI (by omega) (by decide)).mpr z) hgt
      refine grv rfl ⟨rfl, ?_, hFr.refl _ _ _⟩
      unfold rScA
      rw [if_pos hgt]
      exact hR0)
  exact ⟨σ', hex, h1, h2⟩
/-- all renames of a side -/
def rAll (B T : pT) (th : Nat) : pR := rScA B T (nI th) (rNaA B T (nI ((101 + th) / 2)) (rExA B T (fun _ => none, fun _ => none) 64) 8)
theorem xnar_b (b : Bool) : xnar 2 (bI b) = bI b := by cases b <;> decide
theorem m_findRenames (d : Nat) {σ : xS} {a t u th : Nat} {B T : pT} {ft fs fl : Nat → Int32} (h0 : hSd σ a) (h1 : σ.1 (a + 1) = some (.inl (0, 64, ft))) (h2 : σ.1 (a + 2) = some (.inl (2, 64, fs))) (h3 : σ.1 (a + 3) = some (.inl (2, 64, fl))) (hB : hT σ t B) (hTt : hT σ u T) (kB : pTok B) (kT : pTok T) (ha : 2 ≤ a ∧ a + 6 < 38) (ht : 38 ≤ t) (hu : 38 ≤ u) (hth : th ≤ 100) : ∃ σ', xEx (d + 5) 17 [.inr (some a), .inr (some t), .inr (some u), .inl (nI th)] σ none σ' ∧ hRen σ' a B T (rAll B T th) ∧ hFr (a + 1) (a + 3) σ σ' := by
  have h0 : σ.1 a = some (.inr (.inr (3, [.inr (some (a + 1)), .inr (some (a + 2)), .inr (some (a + 3)), .inr (some (a + 4)), .inr (some (a + 5)), .inr (some (a + 6))]))) := h0
  obtain ⟨ft', hft, hfill⟩ := m_fill (d + 3) (x := -1) h1 (by decide) (by omega)
  have hF1 : hFr (a + 1) (a + 3) σ (xup σ (a + 1) (.inl (0, 64, ft'))) := hFr.up (Nat.le_refl _) (by omega)
  have loop : ∀ k i (σi : xS) (gs gl : Nat → Int32), i + k = 64 → hFr (a + 1) (a + 3) σ σi → σi.1 (a + 1) = some (.inl (0, 64, ft')) → σi.1 (a + 2) = some (.inl (2, 64, gs)) → σi.1 (a + 3) = some (.inl (2, 64, gl)) → (∀ p, p < i → gs p = bI (rSL B T (fun _ => none, fun _ => none) p) ∧ gl p = bI (rTL B T (fun _ => none, fun _ => none) p)) →
      xGo (xEx (d + 4)) xtb_17 (fun r0 σ0 => r0 = none ∧ hRen σ0 a B T (rAll B T th) ∧ hFr (a + 1) (a + 3) σ σ0) (15, [some (.inr (some a)), some (.inr (some t)), some (.inr (some u)), some (.inl (nI th)), some (.inl (nI i))], [.inl (nI 64), .inl (nI i)], σi) := by
    intro k
    induction k with
    | zero =>
      intro i σi gs gl hi hF c1 c2 c3 c4
      obtain rfl : i = 64 := by omega
      have hobj : σi.1 a = some (.inr (.inr (3, [.inr (some (a + 1)), .inr (some (a + 2)), .inr (some (a + 3)), .inr (some (a + 4)), .inr (some (a + 5)), .inr (some (a + 6))]))) := by rw [hF.2 a (by omega)]; exact h0
      have hR : hRen σi a B T (fun _ => none, fun _ => none) := ⟨hobj, ft', gs, gl, c1, c2, c3, fun p hp => ⟨hft p hp, (c4 p hp).1, (c4 p hp).2⟩⟩
      refine gct rfl (show nI 64 ≤ nI _ from nI_le (by omega) (by omega)) ?_
      repeat (first | refine gp rfl rfl rfl ?_ | refine ggf rfl (by assumption) (by rfl) ?_ | refine gal rfl (by assumption) (by rfl) (by omega) (by omega) ?_ | refine gil rfl (by assumption) (by rfl) (by omega) (by omega) ?_ | refine gbl rfl (by assumption) (by rfl) (by omega) (by omega) ?_ | refine gln rfl (xlen_i (by assumption)) ?_ | refine gln rfl (xlen_q (by assumption)) ?_)
      obtain ⟨σ2, hex2, hR2, hF2⟩ := m_pairEqualFiles d hR (hB.fr hF (by omega) (Or.inl (by omega))) (hTt.fr hF (by omega) (Or.inl (by omega))) ha ht hu
      refine gcv (As := [.inr (some t), .inr (some u)]) (rest := []) rfl (by decide) hex2 hobj rfl rfl (by decide) ?_
      have hF2 := hF.trans hF2
      repeat (first | refine gp rfl rfl rfl ?_ | refine ggf rfl (by assumption) (by rfl) ?_ | refine gal rfl (by assumption) (by rfl) (by omega) (by omega) ?_ | refine gil rfl (by assumption) (by rfl) (by omega) (by omega) ?_ | refine gbl rfl (by assumption) (by rfl) (by omega) (by omega) ?_ | refine gln rfl (xlen_i (by assumption)) ?_ | refine gln rfl (xlen_q (by assumption)) ?_)
      refine gp rfl rfl ⟨by decide, rfl⟩ ?_
      rw [show (xk 101 0 + nI th) / xk 2 0 = nI ((101 + th) / 2) by
        show (nI 101 + nI th) / nI 2 = _
        rw [nI_add, pk_div (by omega) (by decide) (by decide)]]
      obtain ⟨σ3, hex3, hR3, hF3⟩ := m_pairOnlyNames (d + 1) (ls := nI ((101 + th) / 2)) hR2 (hB.fr hF2 (by omega) (Or.inl (by omega))) (hTt.fr hF2 (by omega) (Or.inl (by omega))) kB kT ha ht hu
      refine gcv (As := [.inr (some t), .inr (some u), .inl (nI ((101 + th) / 2))]) (rest := []) rfl (by decide) hex3 hR2.1 rfl rfl (by decide) ?_
      have hF3 := hF2.trans hF3
      repeat (first | refine gp rfl rfl rfl ?_ | refine ggf rfl (by assumption) (by rfl) ?_ | refine gal rfl (by assumption) (by rfl) (by omega) (by omega) ?_ | refine gil rfl (by assumption) (by rfl) (by omega) (by omega) ?_ | refine gbl rfl (by assumption) (by rfl) (by omega) (by omega) ?_ | refine gln rfl (xlen_i (by assumption)) ?_ | refine gln rfl (xlen_q (by assumption)) ?_)
      obtain ⟨σ4, hex4, hR4, hF4⟩ := m_pairByScore d (th := nI th) hR3 (hB.fr hF3 (by omega) (Or.inl (by omega))) (hTt.fr hF3 (by omega) (Or.inl (by omega))) kB kT ha ht hu
      refine gcv (As := [.inr (some t), .inr (some u), .inl (nI th)]) (rest := []) rfl (by decide) hex4 hR3.1 rfl rfl (by decide) ?_
      exact grv rfl ⟨rfl, hR4, hF3.trans hF4⟩
    | succ k ih =>
      intro i σi gs gl hi hF c1 c2 c3 c4
      have hi64 : i < 64 := by omega
      have hobj : σi.1 a = some (.inr (.inr (3, [.inr (some (a + 1)), .inr (some (a + 2)), .inr (some (a + 3)), .inr (some (a + 4)), .inr (some (a + 5)), .inr (some (a + 6))]))) := by rw [hF.2 a (by omega)]; exact h0
      have hB' := hB.fr hF (by omega) (Or.inl (by omega))
      have hT' := hTt.fr hF (by omega) (Or.inl (by omega))
      refine gcf rfl (nI_ge (by omega) (by omega)) ?_
      have half2 : ∀ σj : xS, hFr (a + 1) (a + 3) σ σj → σj.1 (a + 1) = some (.inl (0, 64, ft')) → σj.1 (a + 2) = some (.inl (2, 64, upd gs i (bI (rSL B T (fun _ => none, fun _ => none) i)))) → σj.1 (a + 3) = some (.inl (2, 64, gl)) → xGo (xEx (d + 4)) xtb_17 (fun r0 σ0 => r0 = none ∧ hRen σ0 a B T (rAll B T th) ∧ hFr (a + 1) (a + 3) σ σ0) (48, [some (.inr (some a)), some (.inr (some t)), some (.inr (some u)), some (.inl (nI th)), some (.inl (nI i))], [], σj) := by
        intro σj hFj e1 e2 e3
        have hobj : σj.1 a = some (.inr (.inr (3, [.inr (some (a + 1)), .inr (some (a + 2)), .inr (some (a + 3)), .inr (some (a + 4)), .inr (some (a + 5)), .inr (some (a + 6))]))) := by rw [hFj.2 a (by omega)]; exact h0
        have hB2 := hB.fr hFj (by omega) (Or.inl (by omega))
        have hT2 := hTt.fr hFj (by omega) (Or.inl (by omega))
        have fin : ∀ b : Bool, rTL B T (fun _ => none, fun _ => none) i = b → xGo (xEx (d + 4)) xtb_17 (fun r0 σ0 => r0 = none ∧ hRen σ0 a B T (rAll B T th) ∧ hFr (a + 1) (a + 3) σ σ0) (77, [some (.inr (some a)), some (.inr (some t)), some (.inr (some u)), some (.inl (nI th)), some (.inl (nI i))], [.inl (bI b), .inl (nI i), .inr (some (a + 3))], σj) := by
          intro b hb
          refine gbs rfl e3 rfl hi64 (by omega) ?_
          rw [xnar_b]
          repeat (first | refine gp rfl rfl rfl ?_ | refine ggf rfl (by assumption) (by rfl) ?_ | refine gal rfl (by assumption) (by rfl) (by omega) (by omega) ?_ | refine gil rfl (by assumption) (by rfl) (by omega) (by omega) ?_ | refine gbl rfl (by assumption) (by rfl) (by omega) (by omega) ?_ | refine gln rfl (xlen_i (by assumption)) ?_ | refine gln rfl (xlen_q (by assumption)) ?_)
          rw [nI_s]
          refine ih (i + 1) _ (upd gs i (bI (rSL B T (fun _ => none, fun _ => none) i))) (upd gl i (bI b)) (by omega) (hFj.trans (hFr.up (by omega) (by omega))) ?_ ?_ (xup_eq _ _ _) (fun p hp => ?_)
          · rw [xup_ne (by omega)]; exact e1
          · rw [xup_ne (by omega)]; exact e2
          · by_cases hpi : p = i
            · subst hpi; simp [upd, hb]
            · simp only [upd, if_neg hpi]; exact c4 p (by omega)
        repeat (first | refine gp rfl rfl rfl ?_ | refine ggf rfl (by assumption) (by rfl) ?_ | refine gal rfl (by assumption) (by rfl) (by omega) (by omega) ?_ | refine gil rfl (by assumption) (by rfl) (by omega) (by omega) ?_ | refine gbl rfl (by assumption) (by rfl) (by omega) (by omega) ?_ | refine gln rfl (xlen_i (by assumption)) ?_ | refine gln rfl (xlen_q (by assumption)) ?_)
        refine gcv (As := [.inl (nI i)]) (rest := [.inl (nI i), .inr (some (a + 3))]) rfl (by decide) (m_hasT (d + 1) hT2 hi64) hT2.obj rfl rfl (Nat.le_of_ble_eq_true rfl) ?_
        cases hti : (T i).isSome with
        | false =>
          refine git rfl (show (0 : Int32) = 0 from rfl) ?_
          refine gp rfl rfl rfl ?_
          exact fin false (by unfold rTL; rw [hti]; rfl)
        | true =>
          refine giff rfl (fun h => absurd (show (1 : Int32) = 0 from h) (by decide)) ?_
          repeat (first | refine gp rfl rfl rfl ?_ | refine ggf rfl (by assumption) (by rfl) ?_ | refine gal rfl (by assumption) (by rfl) (by omega) (by omega) ?_ | refine gil rfl (by assumption) (by rfl) (by omega) (by omega) ?_ | refine gbl rfl (by assumption) (by rfl) (by omega) (by omega) ?_ | refine gln rfl (xlen_i (by assumption)) ?_ | refine gln rfl (xlen_q (by assumption)) ?_)
          refine gcv (As := [.inl (nI i)]) (rest := [.inl (nI i), .inr (some (a + 3))]) rfl (by decide) (m_hasT (d + 1) hB2 hi64) hB2.obj rfl rfl (Nat.le_of_ble_eq_true rfl) ?_
          cases hbi : B i with
          | none =>
            refine giff rfl (fun h => h (show (0 : Int32) = 0 from rfl)) ?_
            refine gp rfl rfl rfl ?_
            refine gp rfl rfl rfl ?_
            exact fin true (by unfold rTL; rw [hti, hbi]; rfl)
          | some F =>
            refine git rfl (show ¬ (1 : Int32) = 0 by decide) ?_
            refine gp rfl rfl rfl ?_
            exact fin false (by unfold rTL; rw [hti, hbi]; rfl)
      have fin1 : ∀ b : Bool, rSL B T (fun _ => none, fun _ => none) i = b → xGo (xEx (d + 4)) xtb_17 (fun r0 σ0 => r0 = none ∧ hRen σ0 a B T (rAll B T th) ∧ hFr (a + 1) (a + 3) σ σ0) (47, [some (.inr (some a)), some (.inr (some t)), some (.inr (some u)), some (.inl (nI th)), some (.inl (nI i))], [.inl (bI b), .inl (nI i), .inr (some (a + 2))], σi) := by
        intro b hb
        refine gbs rfl c2 rfl hi64 (by omega) ?_
        rw [xnar_b, ← hb]
        exact half2 _ (hF.trans (hFr.up (by omega) (by omega))) (by rw [xup_ne (by omega)]; exact c1) (xup_eq _ _ _) (by rw [xup_ne (by omega)]; exact c3)
      repeat (first | refine gp rfl rfl rfl ?_ | refine ggf rfl (by assumption) (by rfl) ?_ | refine gal rfl (by assumption) (by rfl) (by omega) (by omega) ?_ | refine gil rfl (by assumption) (by rfl) (by omega) (by omega) ?_ | refine gbl rfl (by assumption) (by rfl) (by omega) (by omega) ?_ | refine gln rfl (xlen_i (by assumption)) ?_ | refine gln rfl (xlen_q (by assumption)) ?_)
      refine gcv (As := [.inl (nI i)]) (rest := [.inl (nI i), .inr (some (a + 2))]) rfl (by decide) (m_hasT (d + 1) hB' hi64) hB'.obj rfl rfl (Nat.le_of_ble_eq_true rfl) ?_
      cases hbi : (B i).isSome with
      | false =>
        refine git rfl (show (0 : Int32) = 0 from rfl) ?_
        refine gp rfl rfl rfl ?_
        exact fin1 false (by unfold rSL; rw [hbi]; rfl)
      | true =>
        refine giff rfl (fun h => absurd (show (1 : Int32) = 0 from h) (by decide)) ?_
        repeat (first | refine gp rfl rfl rfl ?_ | refine ggf rfl (by assumption) (by rfl) ?_ | refine gal rfl (by assumption) (by rfl) (by omega) (by omega) ?_ | refine gil rfl (by assumption) (by rfl) (by omega) (by omega) ?_ | refine gbl rfl (by assumption) (by rfl) (by omega) (by omega) ?_ | refine gln rfl (xlen_i (by assumption)) ?_ | refine gln rfl (xlen_q (by assumption)) ?_)
        refine gcv (As := [.inl (nI i)]) (rest := [.inl (nI i), .inr (some (a + 2))]) rfl (by decide) (m_hasT (d + 1) hT' hi64) hT'.obj rfl rfl (Nat.le_of_ble_eq_true rfl) ?_
        cases hti : T i with
        | none =>
          refine giff rfl (fun h => h (show (0 : Int32) = 0 from rfl)) ?_
          refine gp rfl rfl rfl ?_
          refine gp rfl rfl rfl ?_
          exact fin1 true (by unfold rSL; rw [hbi, hti]; rfl)
        | some F =>
          refine git rfl (show ¬ (1 : Int32) = 0 by decide) ?_
          refine gp rfl rfl rfl ?_
          exact fin1 false (by unfold rSL; rw [hbi, hti]; rfl)
  obtain ⟨r, σ', hex, rfl, g1, g2⟩ := ex_of (d := d + 4) (y := 17) (as := [.inr (some a), .inr (some t), .inr (some u), .inl (nI th)]) (σ := σ) (K := fun r0 σ0 => r0 = none ∧ hRen σ0 a B T (rAll B T th) ∧ hFr (a + 1) (a + 3) σ σ0) (by decide) rfl (by
    show xGo (xEx (d + 4)) xtb_17 _ (0, [some (.inr (some a)), some (.inr (some t)), some (.inr (some u)), some (.inl (nI th)), none], [], σ)
    repeat (first | refine gp rfl rfl rfl ?_ | refine ggf rfl (by assumption) (by rfl) ?_ | refine gal rfl (by assumption) (by rfl) (by omega) (by omega) ?_ | refine gil rfl (by assumption) (by rfl) (by omega) (by omega) ?_ | refine gbl rfl (by assumption) (by rfl) (by omega) (by omega) ?_ | refine gln rfl (xlen_i (by assumption)) ?_ | refine gln rfl (xlen_q (by assumption)) ?_)
    rw [xk_m1]
    refine gcs (As := [.inr (some (a + 1)), .inl (-1)]) (rest := []) rfl (by decide) hfill rfl rfl (by decide) ?_
    repeat (first | refine gp rfl rfl rfl ?_ | refine ggf rfl (by assumption) (by rfl) ?_ | refine gal rfl (by assumption) (by rfl) (by omega) (by omega) ?_ | refine gil rfl (by assumption) (by rfl) (by omega) (by omega) ?_ | refine gbl rfl (by assumption) (by rfl) (by omega) (by omega) ?_ | refine gln rfl (xlen_i (by assumption)) ?_ | refine gln rfl (xlen_q (by assumption)) ?_)
    exact loop 64 0 _ fs fl rfl hF1 (xup_eq _ _ _) (by rw [xup_ne (by omega)]; exact h2) (by rw [xup_ne (by omega)]; exact h3) (fun p hp => absurd hp (by omega)))
  exact ⟨σ', hex, g1, g2⟩
end
section
/-! MODULE: new places, the class -/
abbrev pP : Type := Option (Option Nat)
def plI (o : pP) : Int32 := match o with
  | none => -1
  | some none => -2
  | some (some y) => nI y
theorem xk_m2 : xk 2 1 = -2 := by decide
theorem nI_ne2 {q : Nat} (h : q < 2147483648) : ¬ nI q = -2 := by
  intro z
  have := congrArg Int32.toInt z
  rw [nI_toInt h] at this
  have e : (-2 : Int32).toInt = -2 := by decide
  omega
def rOk (R : pR) : Prop := ∀ p q, p < 64 → R.1 p = some q → q < 64
def sHit (R : pR) (f e : Nat) (n : Nat) : Bool := match R.1 (f * 8 + n) with
  | some q => decide (q / 8 = e)
  | none => false
theorem nI_m8 (t i : Nat) : nI t * xk 8 0 + nI i = nI (t * 8 + i) := by
  show nI t * nI 8 + nI i = _
  rw [pk_mul, nI_add]
theorem m_countRenames (d : Nat) {σ : xS} {a f e : Nat} {R : pR} {ft : Nat → Int32} (h0 : hSd σ a) (h1 : σ.1 (a + 1) = some (.inl (0, 64, ft))) (h2 : ∀ p, p < 64 → ft p = oI (R.1 p)) (hok : rOk R) (hf : f < 8) (he : e < 8) : xEx (d + 2) 28 [.inr (some a), .inl (nI f), .inl (nI e)] σ (some (.inl (nI (pCnt (sHit R f e) 8)))) σ := by
  have h0 : σ.1 a = some (.inr (.inr (3, [.inr (some (a + 1)), .inr (some (a + 2)), .inr (some (a + 3)), .inr (some (a + 4)), .inr (some (a + 5)), .inr (some (a + 6))]))) := h0
  refine ⟨by decide, rfl, ?_⟩
  show xGo (xEx (d + 1)) xtb_28 _ (0, [some (.inr (some a)), some (.inl (nI f)), some (.inl (nI e)), none, none, none], [], σ)
  have loop : ∀ k i, i + k = 8 → ∀ l5, xGo (xEx (d + 1)) xtb_28 (fun r0 σ0 => r0 = some (.inl (nI (pCnt (sHit R f e) 8))) ∧ σ0 = σ) (9, [some (.inr (some a)), some (.inl (nI f)), some (.inl (nI e)), some (.inl (nI (pCnt (sHit R f e) i))), some (.inl (nI i)), l5], [.inl (nI 8), .inl (nI i)], σ) := by
    intro k
    induction k with
    | zero =>
      intro i hi l5
      obtain rfl : i = 8 := by omega
      refine gct rfl (show nI 8 ≤ nI _ from nI_le (by omega) (by omega)) ?_
      repeat (first | refine gp rfl rfl rfl ?_ | refine ggf rfl (by assumption) (by rfl) ?_ | refine gal rfl (by assumption) (by rfl) (by omega) (by omega) ?_ | refine gil rfl (by assumption) (by rfl) (by omega) (by omega) ?_ | refine gbl rfl (by assumption) (by rfl) (by omega) (by omega) ?_ | refine gln rfl (xlen_i (by assumption)) ?_ | refine gln rfl (xlen_q (by assumption)) ?_)
      exact gri rfl (fun h => absurd h (by decide)) ⟨rfl, rfl⟩
    | succ k ih =>
      intro i hi l5
      refine gcf rfl (nI_ge (by omega) (by omega)) ?_
      repeat (first | refine gp rfl rfl rfl ?_ | refine ggf rfl (by assumption) (by rfl) ?_ | refine gal rfl (by assumption) (by rfl) (by omega) (by omega) ?_ | refine gil rfl (by assumption) (by rfl) (by omega) (by omega) ?_ | refine gbl rfl (by assumption) (by rfl) (by omega) (by omega) ?_ | refine gln rfl (xlen_i (by assumption)) ?_ | refine gln rfl (xlen_q (by assumption)) ?_)
      rw [nI_m8]
      repeat (first | refine gp rfl rfl rfl ?_ | refine ggf rfl (by assumption) (by rfl) ?_ | refine gal rfl (by assumption) (by rfl) (by omega) (by omega) ?_ | refine gil rfl (by assumption) (by rfl) (by omega) (by omega) ?_ | refine gbl rfl (by assumption) (by rfl) (by omega) (by omega) ?_ | refine gln rfl (xlen_i (by assumption)) ?_ | refine gln rfl (xlen_q (by assumption)) ?_)
      rw [h2 _ (by omega), xk_m1]
      have hs : pCnt (sHit R f e) (i + 1) = pCnt (sHit R f e) i + (if sHit R f e i then 1 else 0) := rfl
      cases hq : R.1 (f * 8 + i) with
      | none =>
        refine gct rfl (show (-1 : Int32) = -1 from rfl) ?_
        have e0 : sHit R f e i = false := by unfold sHit; rw [hq]
        rw [e0] at hs
        have ih' := ih (i + 1) (by omega) (some (.inl (oI none)))
        rw [hs] at ih'
        repeat (first | refine gp rfl rfl rfl ?_ | refine ggf rfl (by assumption) (by rfl) ?_ | refine gal rfl (by assumption) (by rfl) (by omega) (by omega) ?_ | refine gil rfl (by assumption) (by rfl) (by omega) (by omega) ?_ | refine gbl rfl (by assumption) (by rfl) (by omega) (by omega) ?_ | refine gln rfl (xlen_i (by assumption)) ?_ | refine gln rfl (xlen_q (by assumption)) ?_)
        rw [nI_s]
        exact ih'
      | some q =>
        have hq64 := hok _ q (by omega) hq
        refine gcf rfl (show ¬ nI q = -1 from oI_ne (by omega)) ?_
        repeat (first | refine gp rfl rfl rfl ?_ | refine ggf rfl (by assumption) (by rfl) ?_ | refine gal rfl (by assumption) (by rfl) (by omega) (by omega) ?_ | refine gil rfl (by assumption) (by rfl) (by omega) (by omega) ?_ | refine gbl rfl (by assumption) (by rfl) (by omega) (by omega) ?_ | refine gln rfl (xlen_i (by assumption)) ?_ | refine gln rfl (xlen_q (by assumption)) ?_)
        refine gcs (As := [.inl (nI q)]) (rest := []) rfl (by decide) (m_dirOf d (by omega)) rfl rfl (by decide) ?_
        repeat (first | refine gp rfl rfl rfl ?_ | refine ggf rfl (by assumption) (by rfl) ?_ | refine gal rfl (by assumption) (by rfl) (by omega) (by omega) ?_ | refine gil rfl (by assumption) (by rfl) (by omega) (by omega) ?_ | refine gbl rfl (by assumption) (by rfl) (by omega) (by omega) ?_ | refine gln rfl (xlen_i (by assumption)) ?_ | refine gln rfl (xlen_q (by assumption)) ?_)
        have ih' := ih (i + 1) (by omega) (some (.inl (oI (some q))))
        refine gcp rfl (fun hne => ?_) (fun heq => ?_)
        · have e0 : sHit R f e i = false := by
            unfold sHit; rw [hq]
            exact decide_eq_false (fun z => hne (show nI (q / 8) = nI e by rw [z]))
          rw [hs, e0] at ih'
          repeat (first | refine gp rfl rfl rfl ?_ | refine ggf rfl (by assumption) (by rfl) ?_ | refine gal rfl (by assumption) (by rfl) (by omega) (by omega) ?_ | refine gil rfl (by assumption) (by rfl) (by omega) (by omega) ?_ | refine gbl rfl (by assumption) (by rfl) (by omega) (by omega) ?_ | refine gln rfl (xlen_i (by assumption)) ?_ | refine gln rfl (xlen_q (by assumption)) ?_)
          rw [nI_s]
          exact ih'
        · have e0 : sHit R f e i = true := by
            unfold sHit; rw [hq]
            refine decide_eq_true ?_
            by_cases hz : nI (q / 8) = nI e
            · exact (nI_eq (by omega) (by omega)).mp hz
            · exact absurd hz heq
          rw [hs, e0] at ih'
          repeat (first | refine gp rfl rfl rfl ?_ | refine ggf rfl (by assumption) (by rfl) ?_ | refine gal rfl (by assumption) (by rfl) (by omega) (by omega) ?_ | refine gil rfl (by assumption) (by rfl) (by omega) (by omega) ?_ | refine gbl rfl (by assumption) (by rfl) (by omega) (by omega) ?_ | refine gln rfl (xlen_i (by assumption)) ?_ | refine gln rfl (xlen_q (by assumption)) ?_)
          rw [nI_s, nI_s]
          exact ih'
  repeat (first | refine gp rfl rfl rfl ?_ | refine ggf rfl (by assumption) (by rfl) ?_ | refine gal rfl (by assumption) (by rfl) (by omega) (by omega) ?_ | refine gil rfl (by assumption) (by rfl) (by omega) (by omega) ?_ | refine gbl rfl (by assumption) (by rfl) (by omega) (by omega) ?_ | refine gln rfl (xlen_i (by assumption)) ?_ | refine gln rfl (xlen_q (by assumption)) ?_)
  exact loop 8 0 rfl none
def sPl (R : pR) (f : Nat) : Nat → Nat × pP
  | 0 => (0, none)
  | n + 1 => if (sPl R f n).1 < pCnt (sHit R f n) 8 then (pCnt (sHit R f n) 8, some (some n)) else if pCnt (sHit R f n) 8 = (sPl R f n).1 ∧ 0 < pCnt (sHit R f n) 8 then ((sPl R f n).1, some none) else sPl R f n
theorem sPl_le (R : pR) (f : Nat) : ∀ n, (sPl R f n).1 ≤ 8
  | 0 => Nat.zero_le _
  | n + 1 => by
    have h1 := sPl_le R f n
    have h2 := pCnt_le (sHit R f n) 8
    unfold sPl
    split
    · exact h2
    · split
      · exact h1
      · exact h1
theorem sPl_lt (R : pR) (f : Nat) : ∀ n e, (sPl R f n).2 = some (some e) → e < n
  | 0, e, h => by cases h
  | n + 1, e, h => by
    unfold sPl at h
    split at h
    · cases h; omega
    · split at h
      · cases h
      · exact Nat.lt_succ_of_lt (sPl_lt R f n e h)
theorem m_findPlace (d : Nat) {σ : xS} {a f : Nat} {R : pR} {ft : Nat → Int32} (h0 : hSd σ a) (h1 : σ.1 (a + 1) = some (.inl (0, 64, ft))) (h2 : ∀ p, p < 64 → ft p = oI (R.1 p)) (hok : rOk R) (hf : f < 8) : xEx (d + 3) 27 [.inr (some a), .inl (nI f)] σ (some (.inl (plI (sPl R f 8).2))) σ := by
  refine ⟨by decide, rfl, ?_⟩
  show xGo (xEx (d + 2)) xtb_27 _ (0, [some (.inr (some a)), some (.inl (nI f)), none, none, none, none], [], σ)
  have loop : ∀ k i, i + k = 8 → ∀ l5, xGo (xEx (d + 2)) xtb_27 (fun r0 σ0 => r0 = some (.inl (plI (sPl R f 8).2)) ∧ σ0 = σ) (11, [some (.inr (some a)), some (.inl (nI f)), some (.inl (nI (sPl R f i).1)), some (.inl (plI (sPl R f i).2)), some (.inl (nI i)), l5], [.inl (nI 8), .inl (nI i)], σ) := by
    intro k
    induction k with
    | zero =>
      intro i hi l5
      obtain rfl : i = 8 := by omega
      refine gct rfl (show nI 8 ≤ nI _ from nI_le (by omega) (by omega)) ?_
      repeat (first | refine gp rfl rfl rfl ?_ | refine ggf rfl (by assumption) (by rfl) ?_ | refine gal rfl (by assumption) (by rfl) (by omega) (by omega) ?_ | refine gil rfl (by assumption) (by rfl) (by omega) (by omega) ?_ | refine gbl rfl (by assumption) (by rfl) (by omega) (by omega) ?_ | refine gln rfl (xlen_i (by assumption)) ?_ | refine gln rfl (xlen_q (by assumption)) ?_)
      exact gri rfl (fun h => absurd h (by decide)) ⟨rfl, rfl⟩
    | succ k ih =>
      intro i hi l5
      have hc := pCnt_le (sHit R f i) 8
      have hm := sPl_le R f i
      refine gcf rfl (nI_ge (by omega) (by omega)) ?_
      repeat (first | refine gp rfl rfl rfl ?_ | refine ggf rfl (by assumption) (by rfl) ?_ | refine gal rfl (by assumption) (by rfl) (by omega) (by omega) ?_ | refine gil rfl (by assumption) (by rfl) (by omega) (by omega) ?_ | refine gbl rfl (by assumption) (by rfl) (by omega) (by omega) ?_ | refine gln rfl (xlen_i (by assumption)) ?_ | refine gln rfl (xlen_q (by assumption)) ?_)
      refine gcv (As := [.inl (nI f), .inl (nI i)]) (rest := []) rfl (by decide) (m_countRenames d h0 h1 h2 hok hf (by omega)) h0 rfl rfl (by decide) ?_
      repeat (first | refine gp rfl rfl rfl ?_ | refine ggf rfl (by assumption) (by rfl) ?_ | refine gal rfl (by assumption) (by rfl) (by omega) (by omega) ?_ | refine gil rfl (by assumption) (by rfl) (by omega) (by omega) ?_ | refine gbl rfl (by assumption) (by rfl) (by omega) (by omega) ?_ | refine gln rfl (xlen_i (by assumption)) ?_ | refine gln rfl (xlen_q (by assumption)) ?_)
      have ih' := ih (i + 1) (by omega) (some (.inl (nI (pCnt (sHit R f i) 8))))
      have hs : sPl R f (i + 1) = if (sPl R f i).1 < pCnt (sHit R f i) 8 then (pCnt (sHit R f i) 8, some (some i)) else if pCnt (sHit R f i) 8 = (sPl R f i).1 ∧ 0 < pCnt (sHit R f i) 8 then ((sPl R f i).1, some none) else sPl R f i := rfl
      rw [hs] at ih'
      refine gcp rfl (fun hle => ?_) (fun hgt => ?_)
      · have hle : ¬ (sPl R f i).1 < pCnt (sHit R f i) 8 := Nat.not_lt.mpr ((nI_leI (by omega) (by omega)).mp (show nI _ ≤ nI _ from hle))
        rw [if_neg hle] at ih'
        repeat (first | refine gp rfl rfl rfl ?_ | refine ggf rfl (by assumption) (by rfl) ?_ | refine gal rfl (by assumption) (by rfl) (by omega) (by omega) ?_ | refine gil rfl (by assumption) (by rfl) (by omega) (by omega) ?_ | refine gbl rfl (by assumption) (by rfl) (by omega) (by omega) ?_ | refine gln rfl (xlen_i (by assumption)) ?_ | refine gln rfl (xlen_q (by assumption)) ?_)
        refine gcp rfl (fun hne => ?_) (fun heq => ?_)
        · rw [if_neg (fun z => hne (show nI _ = nI _ by rw [z.1]))] at ih'
          repeat (first | refine gp rfl rfl rfl ?_ | refine ggf rfl (by assumption) (by rfl) ?_ | refine gal rfl (by assumption) (by rfl) (by omega) (by omega) ?_ | refine gil rfl (by assumption) (by rfl) (by omega) (by omega) ?_ | refine gbl rfl (by assumption) (by rfl) (by omega) (by omega) ?_ | refine gln rfl (xlen_i (by assumption)) ?_ | refine gln rfl (xlen_q (by assumption)) ?_)
          rw [nI_s]
          exact ih'
        · have heq : pCnt (sHit R f i) 8 = (sPl R f i).1 := by
            by_cases hz : nI (pCnt (sHit R f i) 8) = nI (sPl R f i).1
            · exact (nI_eq (by omega) (by omega)).mp hz
            · exact absurd hz heq
          repeat (first | refine gp rfl rfl rfl ?_ | refine ggf rfl (by assumption) (by rfl) ?_ | refine gal rfl (by assumption) (by rfl) (by omega) (by omega) ?_ | refine gil rfl (by assumption) (by rfl) (by omega) (by omega) ?_ | refine gbl rfl (by assumption) (by rfl) (by omega) (by omega) ?_ | refine gln rfl (xlen_i (by assumption)) ?_ | refine gln rfl (xlen_q (by assumption)) ?_)
          refine gif' rfl (fun hz => ?_) (fun hz => ?_)
          · have hz : ¬ 0 < pCnt (sHit R f i) 8 := by
              have := (nI_leI (a := pCnt (sHit R f i) 8) (b := 0) (by omega) (by decide)).mp hz
              omega
            rw [if_neg (fun z => hz z.2)] at ih'
            repeat (first | refine gp rfl rfl rfl ?_ | refine ggf rfl (by assumption) (by rfl) ?_ | refine gal rfl (by assumption) (by rfl) (by omega) (by omega) ?_ | refine gil rfl (by assumption) (by rfl) (by omega) (by omega) ?_ | refine gbl rfl (by assumption) (by rfl) (by omega) (by omega) ?_ | refine gln rfl (xlen_i (by assumption)) ?_ | refine gln rfl (xlen_q (by assumption)) ?_)
            rw [nI_s]
            exact ih'
          · have hz : 0 < pCnt (sHit R f i) 8 := by
              rcases Nat.eq_zero_or_pos (pCnt (sHit R f i) 8) with z | z
              · exact absurd (show nI (pCnt (sHit R f i) 8) ≤ 0 by rw [z]; decide) hz
              · exact z
            rw [if_pos ⟨heq, hz⟩] at ih'
            repeat (first | refine gp rfl rfl rfl ?_ | refine ggf rfl (by assumption) (by rfl) ?_ | refine gal rfl (by assumption) (by rfl) (by omega) (by omega) ?_ | refine gil rfl (by assumption) (by rfl) (by omega) (by omega) ?_ | refine gbl rfl (by assumption) (by rfl) (by omega) (by omega) ?_ | refine gln rfl (xlen_i (by assumption)) ?_ | refine gln rfl (xlen_q (by assumption)) ?_)
            rw [nI_s, xk_m2]
            exact ih'
      · have hgt : (sPl R f i).1 < pCnt (sHit R f i) 8 := by
          rcases Nat.lt_or_ge (sPl R f i).1 (pCnt (sHit R f i) 8) with z | z
          · exact z
          · exact absurd (show nI _ ≤ nI _ from (nI_leI (by omega) (by omega)).mpr z) hgt
        rw [if_pos hgt] at ih'
        repeat (first | refine gp rfl rfl rfl ?_ | refine ggf rfl (by assumption) (by rfl) ?_ | refine gal rfl (by assumption) (by rfl) (by omega) (by omega) ?_ | refine gil rfl (by assumption) (by rfl) (by omega) (by omega) ?_ | refine gbl rfl (by assumption) (by rfl) (by omega) (by omega) ?_ | refine gln rfl (xlen_i (by assumption)) ?_ | refine gln rfl (xlen_q (by assumption)) ?_)
        rw [nI_s]
        exact ih'
  repeat (first | refine gp rfl rfl rfl ?_ | refine ggf rfl (by assumption) (by rfl) ?_ | refine gal rfl (by assumption) (by rfl) (by omega) (by omega) ?_ | refine gil rfl (by assumption) (by rfl) (by omega) (by omega) ?_ | refine gbl rfl (by assumption) (by rfl) (by omega) (by omega) ?_ | refine gln rfl (xlen_i (by assumption)) ?_ | refine gln rfl (xlen_q (by assumption)) ?_)
  rw [xk_m1]
  exact loop 8 0 rfl none
def pPlace (T : pT) (R : pR) (f : Nat) : pP := if pAny (fun i => (T (f * 8 + i)).isSome) 8 then none else (sPl R f 8).2
theorem pPlace_lt {T : pT} {R : pR} {f e : Nat} (h : pPlace T R f = some (some e)) : e < 8 := by
  unfold pPlace at h
  split at h
  · cases h
  · exact sPl_lt R f 8 e h
theorem pAny_congr {P Q : Nat → Bool} : ∀ {n : Nat}, (∀ i, i < n → P i = Q i) → pAny P n = pAny Q n
  | 0, _ => rfl
  | n + 1, h => by
    show (pAny P n || P n) = (pAny Q n || Q n)
    rw [pAny_congr (fun i hi => h i (by omega)), h n (by omega)]
theorem m_hasFileInT (d : Nat) {σ : xS} {t f : Nat} {T : pT} (h : hT σ t T) (hf : f < 8) : xEx (d + 4) 14 [.inr (some t), .inl (nI f)] σ (some (.inl (bI (pAny (fun i => (T (f * 8 + i)).isSome) 8)))) σ := by
  obtain ⟨g, h1, h2⟩ := h
  rw [pAny_congr (P := fun i => (T (f * 8 + i)).isSome) (Q := fun i => (g (f * 8 + i)).isSome) (fun i hi => (hOpt_some (h2 _ (by omega))).symm)]
  exact m_hasFileIn d h1 hf
theorem m_findPlaces (d : Nat) {σ : xS} {a t : Nat} {T : pT} {R : pR} {ft fp : Nat → Int32} (h0 : hSd σ a) (h1 : σ.1 (a + 1) = some (.inl (0, 64, ft))) (h2 : ∀ p, p < 64 → ft p = oI (R.1 p)) (h4 : σ.1 (a + 4) = some (.inl (0, 8, fp))) (hok : rOk R) (hTt : hT σ t T) (ha : 2 ≤ a ∧ a + 6 < 38) (ht : 38 ≤ t) : ∃ fp' : Nat → Int32, (∀ f, f < 8 → fp' f = plI (pPlace T R f)) ∧ xEx (d + 5) 26 [.inr (some a), .inr (some t)] σ none (xup σ (a + 4) (.inl (0, 8, fp'))) := by
  have h0' : σ.1 a = some (.inr (.inr (3, [.inr (some (a + 1)), .inr (some (a + 2)), .inr (some (a + 3)), .inr (some (a + 4)), .inr (some (a + 5)), .inr (some (a + 6))]))) := h0
  have loop : ∀ k i (fi : Nat → Int32), i + k = 8 → (∀ f, f < i → fi f = plI (pPlace T R f)) → xGo (xEx (d + 4)) xtb_26 (fun r0 σ0 => r0 = none ∧ ∃ fp' : Nat → Int32, (∀ f, f < 8 → fp' f = plI (pPlace T R f)) ∧ σ0 = xup σ (a + 4) (.inl (0, 8, fp'))) (5, [some (.inr (some a)), some (.inr (some t)), some (.inl (nI i))], [.inl (nI 8), .inl (nI i)], xup σ (a + 4) (.inl (0, 8, fi))) := by
    intro k
    induction k with
    | zero =>
      intro i fi hi hall
      obtain rfl : i = 8 := by omega
      refine gct rfl (show nI 8 ≤ nI _ from nI_le (by omega) (by omega)) ?_
      exact grv rfl ⟨rfl, fi, hall, rfl⟩
    | succ k ih =>
      intro i fi hi hall
      have hF : hFr (a + 4) (a + 4) σ (xup σ (a + 4) (.inl (0, 8, fi))) := hFr.up (Nat.le_refl _) (Nat.le_refl _)
      have hT' := hTt.fr hF (by omega) (Or.inl (by omega))
      have c0 : (xup σ (a + 4) (.inl (0, 8, fi))).1 a = some (.inr (.inr (3, [.inr (some (a + 1)), .inr (some (a + 2)), .inr (some (a + 3)), .inr (some (a + 4)), .inr (some (a + 5)), .inr (some (a + 6))]))) := by rw [xup_ne (by omega)]; exact h0'
      have c1 : (xup σ (a + 4) (.inl (0, 8, fi))).1 (a + 1) = some (.inl (0, 64, ft)) := by rw [xup_ne (by omega)]; exact h1
      have c4 : (xup σ (a + 4) (.inl (0, 8, fi))).1 (a + 4) = some (.inl (0, 8, fi)) := xup_eq _ _ _
      refine gcf rfl (nI_ge (by omega) (by omega)) ?_
      repeat (first | refine gp rfl rfl rfl ?_ | refine ggf rfl (by assumption) (by rfl) ?_ | refine gal rfl (by assumption) (by rfl) (by omega) (by omega) ?_ | refine gil rfl (by assumption) (by rfl) (by omega) (by omega) ?_ | refine gbl rfl (by assumption) (by rfl) (by omega) (by omega) ?_ | refine gln rfl (xlen_i (by assumption)) ?_ | refine gln rfl (xlen_q (by assumption)) ?_)
      refine gcv (As := [.inl (nI i)]) (rest := [.inl (nI i), .inr (some (a + 4))]) rfl (by decide) (m_hasFileInT d hT' (by omega)) hT'.obj rfl rfl (Nat.le_of_ble_eq_true rfl) ?_
      have fin : ∀ v : Int32, v = plI (pPlace T R i) → xGo (xEx (d + 4)) xtb_26 (fun r0 σ0 => r0 = none ∧ ∃ fp' : Nat → Int32, (∀ f, f < 8 → fp' f = plI (pPlace T R f)) ∧ σ0 = xup σ (a + 4) (.inl (0, 8, fp'))) (30, [some (.inr (some a)), some (.inr (some t)), some (.inl (nI i))], [.inl v, .inl (nI i), .inr (some (a + 4))], xup σ (a + 4) (.inl (0, 8, fi))) := by
        intro v hv
        refine gis rfl c4 rfl (by omega) (by omega) (by omega) ?_
        rw [xup_up]
        repeat (first | refine gp rfl rfl rfl ?_ | refine ggf rfl (by assumption) (by rfl) ?_ | refine gal rfl (by assumption) (by rfl) (by omega) (by omega) ?_ | refine gil rfl (by assumption) (by rfl) (by omega) (by omega) ?_ | refine gbl rfl (by assumption) (by rfl) (by omega) (by omega) ?_ | refine gln rfl (xlen_i (by assumption)) ?_ | refine gln rfl (xlen_q (by assumption)) ?_)
        rw [nI_s]
        refine ih (i + 1) _ (by omega) (fun f hf => ?_)
        by_cases hfi : f = i
        · subst hfi; simp [upd, hv]
        · simp only [upd, if_neg hfi]; exact hall f (by omega)
      cases hp : pAny (fun j => (T (i * 8 + j)).isSome) 8 with
      | true =>
        refine giff rfl (fun h => absurd (show (1 : Int32) = 0 from h) (by decide)) ?_
        refine gp rfl rfl rfl ?_
        refine gp rfl rfl rfl ?_
        exact fin (xk 1 1) (by rw [xk_m1]; unfold pPlace; rw [hp]; rfl)
      | false =>
        refine git rfl (show (0 : Int32) = 0 from rfl) ?_
        repeat (first | refine gp rfl rfl rfl ?_ | refine ggf rfl (by assumption) (by rfl) ?_ | refine gal rfl (by assumption) (by rfl) (by omega) (by omega) ?_ | refine gil rfl (by assumption) (by rfl) (by omega) (by omega) ?_ | refine gbl rfl (by assumption) (by rfl) (by omega) (by omega) ?_ | refine gln rfl (xlen_i (by assumption)) ?_ | refine gln rfl (xlen_q (by assumption)) ?_)
        refine gcv (As := [.inl (nI i)]) (rest := [.inl (nI i), .inr (some (a + 4))]) rfl (by decide) (m_findPlace (d + 1) (show hSd _ a from c0) c1 h2 hok (by omega)) c0 rfl rfl (Nat.le_of_ble_eq_true rfl) ?_
        exact fin _ (by unfold pPlace; rw [hp]; rfl)
  obtain ⟨r, σ', hex, rfl, fp', hf, rfl⟩ := ex_of (d := d + 4) (y := 26) (as := [.inr (some a), .inr (some t)]) (σ := σ) (K := fun r0 σ0 => r0 = none ∧ ∃ fp' : Nat → Int32, (∀ f, f < 8 → fp' f = plI (pPlace T R f)) ∧ σ0 = xup σ (a + 4) (.inl (0, 8, fp'))) (by decide) rfl (by
    show xGo (xEx (d + 4)) xtb_26 _ (0, [some (.inr (some a)), some (.inr (some t)), none], [], σ)
    repeat (first | refine gp rfl rfl rfl ?_ | refine ggf rfl (by assumption) (by rfl) ?_ | refine gal rfl (by assumption) (by rfl) (by omega) (by omega) ?_ | refine gil rfl (by assumption) (by rfl) (by omega) (by omega) ?_ | refine gbl rfl (by assumption) (by rfl) (by omega) (by omega) ?_ | refine gln rfl (xlen_i (by assumption)) ?_ | refine gln rfl (xlen_q (by assumption)) ?_)
    have := loop 8 0 fp rfl (fun f hf => absurd hf (by omega))
    rw [xup_same h4] at this
    exact this)
  exact ⟨fp', hf, hex⟩
end
section
/-! MODULE: where files stand, the class -/
theorem m_placeOf (d : Nat) {σ : xS} {a f : Nat} {fp : Nat → Int32} (h0 : hSd σ a) (h4 : σ.1 (a + 4) = some (.inl (0, 8, fp))) (hf : f < 8) : xEx (d + 1) 31 [.inr (some a), .inl (nI f)] σ (some (.inl (fp f))) σ := by
  have h0 : σ.1 a = some (.inr (.inr (3, [.inr (some (a + 1)), .inr (some (a + 2)), .inr (some (a + 3)), .inr (some (a + 4)), .inr (some (a + 5)), .inr (some (a + 6))]))) := h0
  refine ⟨by decide, rfl, ?_⟩
  show xGo (xEx d) xtb_31 _ (0, [some (.inr (some a)), some (.inl (nI f))], [], σ)
  repeat (first | refine gp rfl rfl rfl ?_ | refine ggf rfl (by assumption) (by rfl) ?_ | refine gal rfl (by assumption) (by rfl) (by omega) (by omega) ?_ | refine gil rfl (by assumption) (by rfl) (by omega) (by omega) ?_ | refine gbl rfl (by assumption) (by rfl) (by omega) (by omega) ?_ | refine gln rfl (xlen_i (by assumption)) ?_ | refine gln rfl (xlen_q (by assumption)) ?_)
  refine giff rfl (nI_pos (by omega)) ?_
  repeat (first | refine gp rfl rfl rfl ?_ | refine ggf rfl (by assumption) (by rfl) ?_ | refine gal rfl (by assumption) (by rfl) (by omega) (by omega) ?_ | refine gil rfl (by assumption) (by rfl) (by omega) (by omega) ?_ | refine gbl rfl (by assumption) (by rfl) (by omega) (by omega) ?_ | refine gln rfl (xlen_i (by assumption)) ?_ | refine gln rfl (xlen_q (by assumption)) ?_)
  refine gcf rfl (nI_ge (by omega) (by omega)) ?_
  repeat (first | refine gp rfl rfl rfl ?_ | refine ggf rfl (by assumption) (by rfl) ?_ | refine gal rfl (by assumption) (by rfl) (by omega) (by omega) ?_ | refine gil rfl (by assumption) (by rfl) (by omega) (by omega) ?_ | refine gbl rfl (by assumption) (by rfl) (by omega) (by omega) ?_ | refine gln rfl (xlen_i (by assumption)) ?_ | refine gln rfl (xlen_q (by assumption)) ?_)
  exact gri rfl (fun h => absurd h (by decide)) ⟨rfl, rfl⟩
theorem m_placeOf_no (d : Nat) {σ : xS} {a : Nat} {x : Int32} (hx : ¬ (0 ≤ x ∧ x < nI 8)) : xEx (d + 1) 31 [.inr (some a), .inl x] σ (some (.inl (-1))) σ := by
  refine ⟨by decide, rfl, ?_⟩
  show xGo (xEx d) xtb_31 _ (0, [some (.inr (some a)), some (.inl x)], [], σ)
  repeat (first | refine gp rfl rfl rfl ?_ | refine ggf rfl (by assumption) (by rfl) ?_ | refine gal rfl (by assumption) (by rfl) (by omega) (by omega) ?_ | refine gil rfl (by assumption) (by rfl) (by omega) (by omega) ?_ | refine gbl rfl (by assumption) (by rfl) (by omega) (by omega) ?_ | refine gln rfl (xlen_i (by assumption)) ?_ | refine gln rfl (xlen_q (by assumption)) ?_)
  refine gif' rfl (fun hn => ?_) (fun hn => ?_)
  · repeat (first | refine gp rfl rfl rfl ?_ | refine ggf rfl (by assumption) (by rfl) ?_ | refine gal rfl (by assumption) (by rfl) (by omega) (by omega) ?_ | refine gil rfl (by assumption) (by rfl) (by omega) (by omega) ?_ | refine gbl rfl (by assumption) (by rfl) (by omega) (by omega) ?_ | refine gln rfl (xlen_i (by assumption)) ?_ | refine gln rfl (xlen_q (by assumption)) ?_)
    exact gri rfl (fun h => absurd h (by decide)) ⟨by rw [xk_m1], rfl⟩
  · repeat (first | refine gp rfl rfl rfl ?_ | refine ggf rfl (by assumption) (by rfl) ?_ | refine gal rfl (by assumption) (by rfl) (by omega) (by omega) ?_ | refine gil rfl (by assumption) (by rfl) (by omega) (by omega) ?_ | refine gbl rfl (by assumption) (by rfl) (by omega) (by omega) ?_ | refine gln rfl (xlen_i (by assumption)) ?_ | refine gln rfl (xlen_q (by assumption)) ?_)
    refine gct rfl (show nI 8 ≤ x from Int32.not_lt.mp (fun z => hx ⟨Int32.not_lt.mp hn, z⟩)) ?_
    repeat (first | refine gp rfl rfl rfl ?_ | refine ggf rfl (by assumption) (by rfl) ?_ | refine gal rfl (by assumption) (by rfl) (by omega) (by omega) ?_ | refine gil rfl (by assumption) (by rfl) (by omega) (by omega) ?_ | refine gbl rfl (by assumption) (by rfl) (by omega) (by omega) ?_ | refine gln rfl (xlen_i (by assumption)) ?_ | refine gln rfl (xlen_q (by assumption)) ?_)
    exact gri rfl (fun h => absurd h (by decide)) ⟨by rw [xk_m1], rfl⟩
theorem m_targetOf (d : Nat) {σ : xS} {a p : Nat} {ft : Nat → Int32} (h0 : hSd σ a) (h1 : σ.1 (a + 1) = some (.inl (0, 64, ft))) (hp : p < 64) : xEx (d + 2) 34 [.inr (some a), .inl (nI p)] σ (some (.inl (ft p))) σ := by
  have h0 : σ.1 a = some (.inr (.inr (3, [.inr (some (a + 1)), .inr (some (a + 2)), .inr (some (a + 3)), .inr (some (a + 4)), .inr (some (a + 5)), .inr (some (a + 6))]))) := h0
  refine ⟨by decide, rfl, ?_⟩
  show xGo (xEx (d + 1)) xtb_34 _ (0, [some (.inr (some a)), some (.inl (nI p))], [], σ)
  repeat (first | refine gp rfl rfl rfl ?_ | refine ggf rfl (by assumption) (by rfl) ?_ | refine gal rfl (by assumption) (by rfl) (by omega) (by omega) ?_ | refine gil rfl (by assumption) (by rfl) (by omega) (by omega) ?_ | refine gbl rfl (by assumption) (by rfl) (by omega) (by omega) ?_ | refine gln rfl (xlen_i (by assumption)) ?_ | refine gln rfl (xlen_q (by assumption)) ?_)
  refine gcs rfl (by decide) (m_isPath d (nI p) σ) rfl rfl (by decide) ?_
  rw [if_pos (p_ok hp)]
  refine giff rfl (fun h => absurd (show (1 : Int32) = 0 from h) (by decide)) ?_
  repeat (first | refine gp rfl rfl rfl ?_ | refine ggf rfl (by assumption) (by rfl) ?_ | refine gal rfl (by assumption) (by rfl) (by omega) (by omega) ?_ | refine gil rfl (by assumption) (by rfl) (by omega) (by omega) ?_ | refine gbl rfl (by assumption) (by rfl) (by omega) (by omega) ?_ | refine gln rfl (xlen_i (by assumption)) ?_ | refine gln rfl (xlen_q (by assumption)) ?_)
  exact gri rfl (fun h => absurd h (by decide)) ⟨rfl, rfl⟩
theorem m_targetOf_no (d : Nat) {σ : xS} {a : Nat} {x : Int32} (hx : ¬ (0 ≤ x ∧ x < nI 64)) : xEx (d + 2) 34 [.inr (some a), .inl x] σ (some (.inl (-1))) σ := by
  refine ⟨by decide, rfl, ?_⟩
  show xGo (xEx (d + 1)) xtb_34 _ (0, [some (.inr (some a)), some (.inl x)], [], σ)
  repeat (first | refine gp rfl rfl rfl ?_ | refine ggf rfl (by assumption) (by rfl) ?_ | refine gal rfl (by assumption) (by rfl) (by omega) (by omega) ?_ | refine gil rfl (by assumption) (by rfl) (by omega) (by omega) ?_ | refine gbl rfl (by assumption) (by rfl) (by omega) (by omega) ?_ | refine gln rfl (xlen_i (by assumption)) ?_ | refine gln rfl (xlen_q (by assumption)) ?_)
  refine gcs rfl (by decide) (m_isPath d x σ) rfl rfl (by decide) ?_
  rw [if_neg hx]
  refine git rfl (show (0 : Int32) = 0 from rfl) ?_
  repeat (first | refine gp rfl rfl rfl ?_ | refine ggf rfl (by assumption) (by rfl) ?_ | refine gal rfl (by assumption) (by rfl) (by omega) (by omega) ?_ | refine gil rfl (by assumption) (by rfl) (by omega) (by omega) ?_ | refine gbl rfl (by assumption) (by rfl) (by omega) (by omega) ?_ | refine gln rfl (xlen_i (by assumption)) ?_ | refine gln rfl (xlen_q (by assumption)) ?_)
  exact gri rfl (fun h => absurd h (by decide)) ⟨by rw [xk_m1], rfl⟩
theorem m_standOf (d : Nat) {σ : xS} {a p : Nat} {fz : Nat → Int32} (h0 : hSd σ a) (h6 : σ.1 (a + 6) = some (.inl (0, 64, fz))) (hp : p < 64) : xEx (d + 2) 35 [.inr (some a), .inl (nI p)] σ (some (.inl (fz p))) σ := by
  have h0 : σ.1 a = some (.inr (.inr (3, [.inr (some (a + 1)), .inr (some (a + 2)), .inr (some (a + 3)), .inr (some (a + 4)), .inr (some (a + 5)), .inr (some (a + 6))]))) := h0
  refine ⟨by decide, rfl, ?_⟩
  show xGo (xEx (d + 1)) xtb_35 _ (0, [some (.inr (some a)), some (.inl (nI p))], [], σ)
  repeat (first | refine gp rfl rfl rfl ?_ | refine ggf rfl (by assumption) (by rfl) ?_ | refine gal rfl (by assumption) (by rfl) (by omega) (by omega) ?_ | refine gil rfl (by assumption) (by rfl) (by omega) (by omega) ?_ | refine gbl rfl (by assumption) (by rfl) (by omega) (by omega) ?_ | refine gln rfl (xlen_i (by assumption)) ?_ | refine gln rfl (xlen_q (by assumption)) ?_)
  refine gcs rfl (by decide) (m_isPath d (nI p) σ) rfl rfl (by decide) ?_
  rw [if_pos (p_ok hp)]
  refine giff rfl (fun h => absurd (show (1 : Int32) = 0 from h) (by decide)) ?_
  repeat (first | refine gp rfl rfl rfl ?_ | refine ggf rfl (by assumption) (by rfl) ?_ | refine gal rfl (by assumption) (by rfl) (by omega) (by omega) ?_ | refine gil rfl (by assumption) (by rfl) (by omega) (by omega) ?_ | refine gbl rfl (by assumption) (by rfl) (by omega) (by omega) ?_ | refine gln rfl (xlen_i (by assumption)) ?_ | refine gln rfl (xlen_q (by assumption)) ?_)
  exact gri rfl (fun h => absurd h (by decide)) ⟨rfl, rfl⟩
theorem m_standOf_no (d : Nat) {σ : xS} {a : Nat} {x : Int32} (hx : ¬ (0 ≤ x ∧ x < nI 64)) : xEx (d + 2) 35 [.inr (some a), .inl x] σ (some (.inl (-1))) σ := by
  refine ⟨by decide, rfl, ?_⟩
  show xGo (xEx (d + 1)) xtb_35 _ (0, [some (.inr (some a)), some (.inl x)], [], σ)
  repeat (first | refine gp rfl rfl rfl ?_ | refine ggf rfl (by assumption) (by rfl) ?_ | refine gal rfl (by assumption) (by rfl) (by omega) (by omega) ?_ | refine gil rfl (by assumption) (by rfl) (by omega) (by omega) ?_ | refine gbl rfl (by assumption) (by rfl) (by omega) (by omega) ?_ | refine gln rfl (xlen_i (by assumption)) ?_ | refine gln rfl (xlen_q (by assumption)) ?_)
  refine gcs rfl (by decide) (m_isPath d x σ) rfl rfl (by decide) ?_
  rw [if_neg hx]
  refine git rfl (show (0 : Int32) = 0 from rfl) ?_
  repeat (first | refine gp rfl rfl rfl ?_ | refine ggf rfl (by assumption) (by rfl) ?_ | refine gal rfl (by assumption) (by rfl) (by omega) (by omega) ?_ | refine gil rfl (by assumption) (by rfl) (by omega) (by omega) ?_ | refine gbl rfl (by assumption) (by rfl) (by omega) (by omega) ?_ | refine gln rfl (xlen_i (by assumption)) ?_ | refine gln rfl (xlen_q (by assumption)) ?_)
  exact gri rfl (fun h => absurd h (by decide)) ⟨by rw [xk_m1], rfl⟩
/-- where a file is wanted -/
def sW (B T : pT) (PO PL : Nat → pP) (p : Nat) : pP := if (T p).isSome && (B p).isNone then (match PO (p / 8) with
  | some none => some none
  | some (some e) => (match PL e with
    | some (some _) => none
    | _ => some (some (e * 8 + p % 8)))
  | none => none) else none
def plOk (PL : Nat → pP) : Prop := ∀ f e, f < 8 → PL f = some (some e) → e < 8
theorem sW_lt {B T : pT} {PO PL : Nat → pP} {p y : Nat} (ho : plOk PO) (hp : p < 64) (h : sW B T PO PL p = some (some y)) : y < 64 := by
  unfold sW at h
  split at h
  · cases hpo : PO (p / 8) with
    | none => rw [hpo] at h; cases h
    | some o =>
      cases o with
      | none => rw [hpo] at h; cases h
      | some e =>
        have he := ho _ e (by omega) hpo
        rw [hpo] at h
        simp only at h
        cases hpl : PL e with
        | none => rw [hpl] at h; cases h; omega
        | some o2 =>
          cases o2 with
          | none => rw [hpl] at h; cases h; omega
          | some _ => rw [hpl] at h; cases h
  · cases h
theorem plI_neg (o : pP) (h : ∀ y, o = some (some y) → y < 64) : ¬ (0 : Int32) ≤ plI o ↔ ∀ y, o ≠ some (some y) := by
  cases o with
  | none => exact ⟨fun _ y => by simp, fun _ => by decide⟩
  | some o =>
    cases o with
    | none => exact ⟨fun _ y => by simp, fun _ => by decide⟩
    | some y =>
      have := h y rfl
      constructor
      · intro z
        exact absurd (show (0 : Int32) ≤ nI y from nI_pos' (by omega)) z
      · intro z
        exact absurd rfl (z y)
theorem m_findWanted (d : Nat) {σ : xS} {a c t u : Nat} {B T : pT} {PO PL : Nat → pP} {fp fo fw : Nat → Int32} (h0 : hSd σ a) (h4 : σ.1 (a + 4) = some (.inl (0, 8, fp))) (h4' : ∀ f, f < 8 → fp f = plI (PL f)) (h5 : σ.1 (a + 5) = some (.inl (0, 64, fw))) (g0 : hSd σ c) (g4 : σ.1 (c + 4) = some (.inl (0, 8, fo))) (g4' : ∀ f, f < 8 → fo f = plI (PO f)) (okL : plOk PL) (okO : plOk PO) (hB : hT σ t B) (hTt : hT σ u T) (ha : 2 ≤ a ∧ a + 6 < 38) (hc : 2 ≤ c ∧ c + 6 < 38) (hac : a + 6 < c ∨ c + 6 < a) (ht : 38 ≤ t) (hu : 38 ≤ u) :
    ∃ fw' : Nat → Int32, (∀ p, p < 64 → fw' p = plI (sW B T PO PL p)) ∧ xEx (d + 4) 30 [.inr (some a), .inr (some t), .inr (some u), .inr (some c)] σ none (xup σ (a + 5) (.inl (0, 64, fw'))) := by
  have h0' : σ.1 a = some (.inr (.inr (3, [.inr (some (a + 1)), .inr (some (a + 2)), .inr (some (a + 3)), .inr (some (a + 4)), .inr (some (a + 5)), .inr (some (a + 6))]))) := h0
  have loop : ∀ k i (fi : Nat → Int32), i + k = 64 → (∀ p, p < i → fi p = plI (sW B T PO PL p)) → ∀ l5, xGo (xEx (d + 3)) xtb_30 (fun r0 σ0 => r0 = none ∧ ∃ fw' : Nat → Int32, (∀ p, p < 64 → fw' p = plI (sW B T PO PL p)) ∧ σ0 = xup σ (a + 5) (.inl (0, 64, fw'))) (7, [some (.inr (some a)), some (.inr (some t)), some (.inr (some u)), some (.inr (some c)), some (.inl (nI i)), l5], [.inl (nI 64), .inl (nI i)], xup σ (a + 5) (.inl (0, 64, fi))) := by
    intro k
    induction k with
    | zero =>
      intro i fi hi hall l5
      obtain rfl : i = 64 := by omega
      refine gct rfl (show nI 64 ≤ nI _ from nI_le (by omega) (by omega)) ?_
      exact grv rfl ⟨rfl, fi, hall, rfl⟩
    | succ k ih =>
      intro i fi hi hall l5
      have hi64 : i < 64 := by omega
      have key : ∀ fj : Nat → Int32, hT (xup σ (a + 5) (.inl (0, 64, fj))) t B ∧ hT (xup σ (a + 5) (.inl (0, 64, fj))) u T ∧ (xup σ (a + 5) (.inl (0, 64, fj))).1 a = some (.inr (.inr (3, [.inr (some (a + 1)), .inr (some (a + 2)), .inr (some (a + 3)), .inr (some (a + 4)), .inr (some (a + 5)), .inr (some (a + 6))]))) ∧ (xup σ (a + 5) (.inl (0, 64, fj))).1 (a + 4) = some (.inl (0, 8, fp)) ∧ hSd (xup σ (a + 5) (.inl (0, 64, fj))) c ∧ (xup σ (a + 5) (.inl (0, 64, fj))).1 (c + 4) = some (.inl (0, 8, fo)) ∧ (xup σ (a + 5) (.inl (0, 64, fj))).1 (a + 5) = some (.inl (0, 64, fj)) := by
        intro fj
        have hF : hFr (a + 5) (a + 5) σ (xup σ (a + 5) (.inl (0, 64, fj))) := hFr.up (Nat.le_refl _) (Nat.le_refl _)
        exact ⟨hB.fr hF (by omega) (Or.inl (by omega)), hTt.fr hF (by omega) (Or.inl (by omega)), by rw [xup_ne (by omega)]; exact h0', by rw [xup_ne (by omega)]; exact h4, g0.fr hF (by omega), by rw [xup_ne (by omega)]; exact g4, xup_eq _ _ _⟩
      have fin : ∀ (v : Int32) (l5 : Option xV), v = plI (sW B T PO PL i) → xGo (xEx (d + 3)) xtb_30 (fun r0 σ0 => r0 = none ∧ ∃ fw' : Nat → Int32, (∀ p, p < 64 → fw' p = plI (sW B T PO PL p)) ∧ σ0 = xup σ (a + 5) (.inl (0, 64, fw'))) (99, [some (.inr (some a)), some (.inr (some t)), some (.inr (some u)), some (.inr (some c)), some (.inl (nI i)), l5], [], xup σ (a + 5) (.inl (0, 64, upd fi i v))) := by
        intro v l5 hv
        repeat (first | refine gp rfl rfl rfl ?_ | refine ggf rfl (by assumption) (by rfl) ?_ | refine gal rfl (by assumption) (by rfl) (by omega) (by omega) ?_ | refine gil rfl (by assumption) (by rfl) (by omega) (by omega) ?_ | refine gbl rfl (by assumption) (by rfl) (by omega) (by omega) ?_ | refine gln rfl (xlen_i (by assumption)) ?_ | refine gln rfl (xlen_q (by assumption)) ?_)
        rw [nI_s]
        refine ih (i + 1) _ (by omega) (fun p hp => ?_) l5
        by_cases hpi : p = i
        · subst hpi; simp [upd, hv]
        · simp only [upd, if_neg hpi]; exact hall p (by omega)
      obtain ⟨a1, a2, a3, a4, a5, a6, a7⟩ := key fi
      refine gcf rfl (nI_ge (by omega) (by omega)) ?_
      repeat (first | refine gp rfl rfl rfl ?_ | refine ggf rfl (by assumption) (by rfl) ?_ | refine gal rfl (by assumption) (by rfl) (by omega) (by omega) ?_ | refine gil rfl (by assumption) (by rfl) (by omega) (by omega) ?_ | refine gbl rfl (by assumption) (by rfl) (by omega) (by omega) ?_ | refine gln rfl (xlen_i (by assumption)) ?_ | refine gln rfl (xlen_q (by assumption)) ?_)
      refine gis rfl a7 rfl hi64 (by omega) (by omega) ?_
      rw [xup_up, xk_m1]
      obtain ⟨b1, b2, b3, b4, b5, b6, b7⟩ := key (upd fi i (-1))
      repeat (first | refine gp rfl rfl rfl ?_ | refine ggf rfl (by assumption) (by rfl) ?_ | refine gal rfl (by assumption) (by rfl) (by omega) (by omega) ?_ | refine gil rfl (by assumption) (by rfl) (by omega) (by omega) ?_ | refine gbl rfl (by assumption) (by rfl) (by omega) (by omega) ?_ | refine gln rfl (xlen_i (by assumption)) ?_ | refine gln rfl (xlen_q (by assumption)) ?_)
      refine gcv (As := [.inl (nI i)]) (rest := []) rfl (by decide) (m_hasT d b2 hi64) b2.obj rfl rfl (by decide) ?_
      cases hti : (T i).isSome with
      | false =>
        refine git rfl (show (0 : Int32) = 0 from rfl) ?_
        exact fin (-1) _ (by unfold sW; rw [hti]; rfl)
      | true =>
        refine giff rfl (fun h => absurd (show (1 : Int32) = 0 from h) (by decide)) ?_
        repeat (first | refine gp rfl rfl rfl ?_ | refine ggf rfl (by assumption) (by rfl) ?_ | refine gal rfl (by assumption) (by rfl) (by omega) (by omega) ?_ | refine gil rfl (by assumption) (by rfl) (by omega) (by omega) ?_ | refine gbl rfl (by assumption) (by rfl) (by omega) (by omega) ?_ | refine gln rfl (xlen_i (by assumption)) ?_ | refine gln rfl (xlen_q (by assumption)) ?_)
        refine gcv (As := [.inl (nI i)]) (rest := []) rfl (by decide) (m_hasT d b1 hi64) b1.obj rfl rfl (by decide) ?_
        cases hbi : B i with
        | some F =>
          refine git rfl (show ¬ (1 : Int32) = 0 by decide) ?_
          exact fin (-1) _ (by unfold sW; rw [hti, hbi]; rfl)
        | none =>
          refine giff rfl (fun h => h (show (0 : Int32) = 0 from rfl)) ?_
          repeat (first | refine gp rfl rfl rfl ?_ | refine ggf rfl (by assumption) (by rfl) ?_ | refine gal rfl (by assumption) (by rfl) (by omega) (by omega) ?_ | refine gil rfl (by assumption) (by rfl) (by omega) (by omega) ?_ | refine gbl rfl (by assumption) (by rfl) (by omega) (by omega) ?_ | refine gln rfl (xlen_i (by assumption)) ?_ | refine gln rfl (xlen_q (by assumption)) ?_)
          refine gcs (As := [.inl (nI i)]) (rest := [.inr (some c)]) rfl (by decide) (m_dirOf (d + 2) (by omega)) rfl rfl (Nat.le_of_ble_eq_true rfl) ?_
          refine gcv (As := [.inl (nI (i / 8))]) (rest := []) rfl (by decide) (m_placeOf (d + 2) b5 b6 (by omega)) b5 rfl rfl (by decide) ?_
          rw [g4' _ (by omega)]
          have hw : sW B T PO PL i = (match PO (i / 8) with
            | some none => some none
            | some (some e) => (match PL e with
              | some (some _) => none
              | _ => some (some (e * 8 + i % 8)))
            | none => none) := by unfold sW; rw [hti, hbi]; rfl
          repeat (first | refine gp rfl rfl rfl ?_ | refine ggf rfl (by assumption) (by rfl) ?_ | refine gal rfl (by assumption) (by rfl) (by omega) (by omega) ?_ | refine gil rfl (by assumption) (by rfl) (by omega) (by omega) ?_ | refine gbl rfl (by assumption) (by rfl) (by omega) (by omega) ?_ | refine gln rfl (xlen_i (by assumption)) ?_ | refine gln rfl (xlen_q (by assumption)) ?_)
          rw [xk_m2]
          cases hpo : PO (i / 8) with
          | none =>
            rw [hpo] at hw
            refine gct rfl (show ¬ (-1 : Int32) = -2 by decide) ?_
            repeat (first | refine gp rfl rfl rfl ?_ | refine ggf rfl (by assumption) (by rfl) ?_ | refine gal rfl (by assumption) (by rfl) (by omega) (by omega) ?_ | refine gil rfl (by assumption) (by rfl) (by omega) (by omega) ?_ | refine gbl rfl (by assumption) (by rfl) (by omega) (by omega) ?_ | refine gln rfl (xlen_i (by assumption)) ?_ | refine gln rfl (xlen_q (by assumption)) ?_)
            rw [xk_m1]
            refine gct rfl (show (-1 : Int32) = -1 from rfl) ?_
            exact fin (-1) _ (by rw [hw]; rfl)
          | some o =>
            cases o with
            | none =>
              rw [hpo] at hw
              refine gcf rfl (fun h => h (show (-2 : Int32) = -2 from rfl)) ?_
              repeat (first | refine gp rfl rfl rfl ?_ | refine ggf rfl (by assumption) (by rfl) ?_ | refine gal rfl (by assumption) (by rfl) (by omega) (by omega) ?_ | refine gil rfl (by assumption) (by rfl) (by omega) (by omega) ?_ | refine gbl rfl (by assumption) (by rfl) (by omega) (by omega) ?_ | refine gln rfl (xlen_i (by assumption)) ?_ | refine gln rfl (xlen_q (by assumption)) ?_)
              refine gis rfl b7 rfl hi64 (by omega) (by omega) ?_
              rw [xup_up, xk_m2]
              repeat (first | refine gp rfl rfl rfl ?_ | refine ggf rfl (by assumption) (by rfl) ?_ | refine gal rfl (by assumption) (by rfl) (by omega) (by omega) ?_ | refine gil rfl (by assumption) (by rfl) (by omega) (by omega) ?_ | refine gbl rfl (by assumption) (by rfl) (by omega) (by omega) ?_ | refine gln rfl (xlen_i (by assumption)) ?_ | refine gln rfl (xlen_q (by assumption)) ?_)
              rw [nI_s]
              refine ih (i + 1) _ (by omega) (fun p hp => ?_) _
              by_cases hpi : p = i
              · subst hpi; simp [upd, hw, plI]
              · simp only [upd, if_neg hpi]; exact hall p (by omega)
            | some e =>
              have he := okO _ e (by omega) hpo
              rw [hpo] at hw
              simp only at hw
              refine gct rfl (show ¬ nI e = -2 from nI_ne2 (by omega)) ?_
              repeat (first | refine gp rfl rfl rfl ?_ | refine ggf rfl (by assumption) (by rfl) ?_ | refine gal rfl (by assumption) (by rfl) (by omega) (by omega) ?_ | refine gil rfl (by assumption) (by rfl) (by omega) (by omega) ?_ | refine gbl rfl (by assumption) (by rfl) (by omega) (by omega) ?_ | refine gln rfl (xlen_i (by assumption)) ?_ | refine gln rfl (xlen_q (by assumption)) ?_)
              rw [xk_m1]
              refine gcf rfl (show ¬ nI e = -1 from oI_ne (by omega)) ?_
              repeat (first | refine gp rfl rfl rfl ?_ | refine ggf rfl (by assumption) (by rfl) ?_ | refine gal rfl (by assumption) (by rfl) (by omega) (by omega) ?_ | refine gil rfl (by assumption) (by rfl) (by omega) (by omega) ?_ | refine gbl rfl (by assumption) (by rfl) (by omega) (by omega) ?_ | refine gln rfl (xlen_i (by assumption)) ?_ | refine gln rfl (xlen_q (by assumption)) ?_)
              refine gcv (As := [.inl (nI e)]) (rest := []) rfl (by decide) (m_placeOf (d + 2) (show hSd _ a from b3) b4 he) b3 rfl rfl (by decide) ?_
              rw [h4' e he]
              have hneg := plI_neg (PL e) (fun y hy => Nat.lt_of_lt_of_le (okL e y he hy) (by decide))
              refine gif' rfl (fun hge => ?_) (fun hlt => ?_)
              · have hge : (0 : Int32) ≤ plI (PL e) := hge
                have : ∃ y, PL e = some (some y) := by
                  cases hpl : PL e with
                  | none => rw [hpl] at hge; exact absurd hge (by decide)
                  | some o2 =>
                    cases o2 with
                    | none => rw [hpl] at hge; exact absurd hge (by decide)
                    | some y => exact ⟨y, rfl⟩
                obtain ⟨y, hy⟩ := this
                exact fin (-1) _ (by rw [hw, hy]; rfl)
              · have hne := hneg.mp hlt
                have hw2 : sW B T PO PL i = some (some (e * 8 + i % 8)) := by
                  rw [hw]
                  cases hpl : PL e with
                  | none => rfl
                  | some o2 =>
                    cases o2 with
                    | none => rfl
                    | some y => exact absurd hpl (hne y)
                repeat (first | refine gp rfl rfl rfl ?_ | refine ggf rfl (by assumption) (by rfl) ?_ | refine gal rfl (by assumption) (by rfl) (by omega) (by omega) ?_ | refine gil rfl (by assumption) (by rfl) (by omega) (by omega) ?_ | refine gbl rfl (by assumption) (by rfl) (by omega) (by omega) ?_ | refine gln rfl (xlen_i (by assumption)) ?_ | refine gln rfl (xlen_q (by assumption)) ?_)
                refine gcs (As := [.inl (nI i)]) (rest := [.inl (nI e * xk 8 0), .inl (nI i), .inr (some (a + 5))]) rfl (by decide) (m_nameOf (d + 2) (by omega)) rfl rfl (Nat.le_of_ble_eq_true rfl) ?_
                refine gp rfl rfl rfl ?_
                rw [nI_m8]
                refine gis rfl b7 rfl hi64 (by omega) (by omega) ?_
                rw [xup_up]
                repeat (first | refine gp rfl rfl rfl ?_ | refine ggf rfl (by assumption) (by rfl) ?_ | refine gal rfl (by assumption) (by rfl) (by omega) (by omega) ?_ | refine gil rfl (by assumption) (by rfl) (by omega) (by omega) ?_ | refine gbl rfl (by assumption) (by rfl) (by omega) (by omega) ?_ | refine gln rfl (xlen_i (by assumption)) ?_ | refine gln rfl (xlen_q (by assumption)) ?_)
                rw [nI_s]
                refine ih (i + 1) _ (by omega) (fun p hp => ?_) _
                by_cases hpi : p = i
                · subst hpi; simp [upd, hw2, plI]
                · simp only [upd, if_neg hpi]; exact hall p (by omega)
  obtain ⟨r, σ', hex, rfl, fw', hf, rfl⟩ := ex_of (d := d + 3) (y := 30) (as := [.inr (some a), .inr (some t), .inr (some u), .inr (some c)]) (σ := σ) (K := fun r0 σ0 => r0 = none ∧ ∃ fw' : Nat → Int32, (∀ p, p < 64 → fw' p = plI (sW B T PO PL p)) ∧ σ0 = xup σ (a + 5) (.inl (0, 64, fw'))) (by decide) rfl (by
    show xGo (xEx (d + 3)) xtb_30 _ (0, [some (.inr (some a)), some (.inr (some t)), some (.inr (some u)), some (.inr (some c)), none, none], [], σ)
    repeat (first | refine gp rfl rfl rfl ?_ | refine ggf rfl (by assumption) (by rfl) ?_ | refine gal rfl (by assumption) (by rfl) (by omega) (by omega) ?_ | refine gil rfl (by assumption) (by rfl) (by omega) (by omega) ?_ | refine gbl rfl (by assumption) (by rfl) (by omega) (by omega) ?_ | refine gln rfl (xlen_i (by assumption)) ?_ | refine gln rfl (xlen_q (by assumption)) ?_)
    have := loop 64 0 fw rfl (fun f hf => absurd hf (by omega)) none
    rw [xup_same h5] at this
    exact this)
  exact ⟨fw', hf, hex⟩
theorem m_countWanted (d : Nat) {σ : xS} {a y : Nat} {fw : Nat → Int32} {Wt : Nat → pP} (h0 : hSd σ a) (h5 : σ.1 (a + 5) = some (.inl (0, 64, fw))) (h5' : ∀ p, p < 64 → fw p = plI (Wt p)) (hok : ∀ p z, p < 64 → Wt p = some (some z) → z < 64) (hy : y < 64) : xEx (d + 1) 32 [.inr (some a), .inl (nI y)] σ (some (.inl (nI (pCnt (fun z => decide (Wt z = some (some y))) 64)))) σ := by
  have h0 : σ.1 a = some (.inr (.inr (3, [.inr (some (a + 1)), .inr (some (a + 2)), .inr (some (a + 3)), .inr (some (a + 4)), .inr (some (a + 5)), .inr (some (a + 6))]))) := h0
  refine ⟨by decide, rfl, ?_⟩
  show xGo (xEx d) xtb_32 _ (0, [some (.inr (some a)), some (.inl (nI y)), none, none], [], σ)
  have loop : ∀ k i, i + k = 64 → xGo (xEx d) xtb_32 (fun r0 σ0 => r0 = some (.inl (nI (pCnt (fun z => decide (Wt z = some (some y))) 64))) ∧ σ0 = σ) (7, [some (.inr (some a)), some (.inl (nI y)), some (.inl (nI (pCnt (fun z => decide (Wt z = some (some y))) i))), some (.inl (nI i))], [.inl (nI 64), .inl (nI i)], σ) := by
    intro k
    induction k with
    | zero =>
      intro i hi
      obtain rfl : i = 64 := by omega
      refine gct rfl (show nI 64 ≤ nI _ from nI_le (by omega) (by omega)) ?_
      repeat (first | refine gp rfl rfl rfl ?_ | refine ggf rfl (by assumption) (by rfl) ?_ | refine gal rfl (by assumption) (by rfl) (by omega) (by omega) ?_ | refine gil rfl (by assumption) (by rfl) (by omega) (by omega) ?_ | refine gbl rfl (by assumption) (by rfl) (by omega) (by omega) ?_ | refine gln rfl (xlen_i (by assumption)) ?_ | refine gln rfl (xlen_q (by assumption)) ?_)
      exact gri rfl (fun h => absurd h (by decide)) ⟨rfl, rfl⟩
    | succ k ih =>
      intro i hi
      refine gcf rfl (nI_ge (by omega) (by omega)) ?_
      repeat (first | refine gp rfl rfl rfl ?_ | refine ggf rfl (by assumption) (by rfl) ?_ | refine gal rfl (by assumption) (by rfl) (by omega) (by omega) ?_ | refine gil rfl (by assumption) (by rfl) (by omega) (by omega) ?_ | refine gbl rfl (by assumption) (by rfl) (by omega) (by omega) ?_ | refine gln rfl (xlen_i (by assumption)) ?_ | refine gln rfl (xlen_q (by assumption)) ?_)
      rw [h5' i (by omega)]
      have ih' := ih (i + 1) (by omega)
      rw [pCnt_s _ i] at ih'
      have hiff : plI (Wt i) = nI y ↔ Wt i = some (some y) := by
        cases hw : Wt i with
        | none => exact ⟨fun z => absurd z.symm (oI_ne (by omega)), fun z => by cases z⟩
        | some o =>
          cases o with
          | none => exact ⟨fun z => absurd z.symm (nI_ne2 (by omega)), fun z => by cases z⟩
          | some z =>
            have := hok i z (by omega) hw
            exact ⟨fun q => by rw [(nI_eq (by omega) (by omega)).mp q], fun q => by cases q; rfl⟩
      refine gcp rfl (fun hne => ?_) (fun heq => ?_)
      · have hne : ¬ Wt i = some (some y) := fun z => hne (hiff.mpr z)
        simp only [decide_eq_false hne] at ih'
        repeat (first | refine gp rfl rfl rfl ?_ | refine ggf rfl (by assumption) (by rfl) ?_ | refine gal rfl (by assumption) (by rfl) (by omega) (by omega) ?_ | refine gil rfl (by assumption) (by rfl) (by omega) (by omega) ?_ | refine gbl rfl (by assumption) (by rfl) (by omega) (by omega) ?_ | refine gln rfl (xlen_i (by assumption)) ?_ | refine gln rfl (xlen_q (by assumption)) ?_)
        rw [nI_s]
        exact ih'
      · have heq : Wt i = some (some y) := by
          by_cases hz : plI (Wt i) = nI y
          · exact hiff.mp hz
          · exact absurd hz heq
        simp only [decide_eq_true heq] at ih'
        repeat (first | refine gp rfl rfl rfl ?_ | refine ggf rfl (by assumption) (by rfl) ?_ | refine gal rfl (by assumption) (by rfl) (by omega) (by omega) ?_ | refine gil rfl (by assumption) (by rfl) (by omega) (by omega) ?_ | refine gbl rfl (by assumption) (by rfl) (by omega) (by omega) ?_ | refine gln rfl (xlen_i (by assumption)) ?_ | refine gln rfl (xlen_q (by assumption)) ?_)
        rw [nI_s, nI_s]
        exact ih'
  repeat (first | refine gp rfl rfl rfl ?_ | refine ggf rfl (by assumption) (by rfl) ?_ | refine gal rfl (by assumption) (by rfl) (by omega) (by omega) ?_ | refine gil rfl (by assumption) (by rfl) (by omega) (by omega) ?_ | refine gbl rfl (by assumption) (by rfl) (by omega) (by omega) ?_ | refine gln rfl (xlen_i (by assumption)) ?_ | refine gln rfl (xlen_q (by assumption)) ?_)
  exact loop 64 0 rfl
end
section
/-! MODULE: where files stand, the class, the end -/
def sHi (B T O : pT) (Wt : Nat → pP) (y : Nat) : Bool := (B y).isSome || (T y).isSome || (O y).isSome || decide (1 < pCnt (fun z => decide (Wt z = some (some y))) 64)
def sSt (B T O : pT) (Wt : Nat → pP) (p : Nat) : Option Nat := match Wt p with
  | some (some y) => if sHi B T O Wt y then (if (T p).isSome then some p else none) else some y
  | _ => if (T p).isSome then some p else none
def sCf (B T O : pT) (Wt : Nat → pP) (p : Nat) : Bool := match Wt p with
  | some (some y) => sHi B T O Wt y
  | some none => true
  | none => false
theorem hT.hi {σ σ' : xS} {t : Nat} {T : pT} (h : hT σ t T) (hf : ∀ k, 38 ≤ k → σ'.1 k = σ.1 k) (ht : 38 ≤ t) : hT σ' t T := by
  obtain ⟨g, ⟨h1, h2⟩, h3⟩ := h
  exact ⟨g, ⟨by rw [hf t ht]; exact h1, by rw [hf (t + 1) (by omega)]; exact h2⟩, fun p hp => (h3 p hp).keep (fun k e hk hs => by rw [hf k (by omega)]; exact hs)⟩
theorem bI_z {b : Bool} : bI b = 0 ↔ b = false := by cases b <;> decide
theorem m_findStands (d : Nat) {σ : xS} {a c t u w b : Nat} {B T O : pT} {PO PL : Nat → pP} {fp fo fw fz cf : Nat → Int32} (h0 : hSd σ a) (h4 : σ.1 (a + 4) = some (.inl (0, 8, fp))) (h4' : ∀ f, f < 8 → fp f = plI (PL f)) (h5 : σ.1 (a + 5) = some (.inl (0, 64, fw))) (h6 : σ.1 (a + 6) = some (.inl (0, 64, fz))) (g0 : hSd σ c) (g4 : σ.1 (c + 4) = some (.inl (0, 8, fo))) (g4' : ∀ f, f < 8 → fo f = plI (PO f)) (okL : plOk PL) (okO : plOk PO) (hb : σ.1 b = some (.inl (0, 64, cf))) (hB : hT σ t B) (hTt : hT σ u T) (hO : hT σ w O)
    (ha : 2 ≤ a ∧ a + 6 < b) (hc : 2 ≤ c ∧ c + 6 < b) (hb2 : b < 38) (hac : a + 6 < c ∨ c + 6 < a) (ht : 38 ≤ t) (hu : 38 ≤ u) (hw : 38 ≤ w) :
    ∃ (σ' : xS) (fw' fz' cf' : Nat → Int32), xEx (d + 5) 29 [.inr (some a), .inr (some t), .inr (some u), .inr (some w), .inr (some c), .inr (some b)] σ none σ' ∧ σ'.1 (a + 5) = some (.inl (0, 64, fw')) ∧ σ'.1 (a + 6) = some (.inl (0, 64, fz')) ∧ σ'.1 b = some (.inl (0, 64, cf')) ∧ (∀ p, p < 64 → fz' p = oI (sSt B T O (sW B T PO PL) p) ∧ cf' p = if sCf B T O (sW B T PO PL) p then cf p ||| nI 128 else cf p) ∧ σ'.2 = σ.2 ∧ ∀ k, k ≠ a + 5 → k ≠ a + 6 → k ≠ b → σ'.1 k = σ.1 k := by
  obtain ⟨fw', hfw, hexw⟩ := m_findWanted d h0 h4 h4' h5 g0 g4 g4' okL okO hB hTt ⟨ha.1, by omega⟩ ⟨hc.1, by omega⟩ hac ht hu
  have hwok : ∀ p z, p < 64 → sW B T PO PL p = some (some z) → z < 64 := fun p z hp h => sW_lt okO hp h
  generalize hWe : sW B T PO PL = Wt at hfw hwok ⊢
  have h0' : σ.1 a = some (.inr (.inr (3, [.inr (some (a + 1)), .inr (some (a + 2)), .inr (some (a + 3)), .inr (some (a + 4)), .inr (some (a + 5)), .inr (some (a + 6))]))) := h0
  have loop : ∀ k i (σi : xS) (zi ci : Nat → Int32), i + k = 64 → σi.1 (a + 5) = some (.inl (0, 64, fw')) → σi.1 (a + 6) = some (.inl (0, 64, zi)) → σi.1 b = some (.inl (0, 64, ci)) → (∀ p, p < i → zi p = oI (sSt B T O Wt p) ∧ ci p = if sCf B T O Wt p then cf p ||| nI 128 else cf p) → (∀ p, i ≤ p → ci p = cf p) → σi.2 = σ.2 → (∀ k, k ≠ a + 5 → k ≠ a + 6 → k ≠ b → σi.1 k = σ.1 k) → ∀ l7,
      xGo (xEx (d + 4)) xtb_29 (fun r0 σ' => r0 = none ∧ ∃ fz' cf' : Nat → Int32, σ'.1 (a + 5) = some (.inl (0, 64, fw')) ∧ σ'.1 (a + 6) = some (.inl (0, 64, fz')) ∧ σ'.1 b = some (.inl (0, 64, cf')) ∧ (∀ p, p < 64 → fz' p = oI (sSt B T O Wt p) ∧ cf' p = if sCf B T O Wt p then cf p ||| nI 128 else cf p) ∧ σ'.2 = σ.2 ∧ ∀ k, k ≠ a + 5 → k ≠ a + 6 → k ≠ b → σ'.1 k = σ.1 k)
        (15, [some (.inr (some a)), some (.inr (some t)), some (.inr (some u)), some (.inr (some w)), some (.inr (some c)), some (.inr (some b)), some (.inl (nI i)), l7], [.inl (nI 64), .inl (nI i)], σi) := by
    intro k
    induction k with
    | zero =>
      intro i σi zi ci hi c5 c6 cb hall hrest hσ2 hfr l7
      obtain rfl : i = 64 := by omega
      refine gct rfl (show nI 64 ≤ nI _ from nI_le (by omega) (by omega)) ?_
      exact grv rfl ⟨rfl, zi, ci, c5, c6, cb, hall, hσ2, hfr⟩
    | succ k ih =>
      intro i σi zi ci hi c5 c6 cb hall hrest hσ2 hfr l7
      have hi64 : i < 64 := by omega
      have hB' := hB.hi (σ' := σi) (fun k hk => hfr k (by omega) (by omega) (by omega)) ht
      have hT' := hTt.hi (σ' := σi) (fun k hk => hfr k (by omega) (by omega) (by omega)) hu
      have c0 : σi.1 a = some (.inr (.inr (3, [.inr (some (a + 1)), .inr (some (a + 2)), .inr (some (a + 3)), .inr (some (a + 4)), .inr (some (a + 5)), .inr (some (a + 6))]))) := by rw [hfr a (by omega) (by omega) (by omega)]; exact h0'
      refine gcf rfl (nI_ge (by omega) (by omega)) ?_
      repeat (first | refine gp rfl rfl rfl ?_ | refine ggf rfl (by assumption) (by rfl) ?_ | refine gal rfl (by assumption) (by rfl) (by omega) (by omega) ?_ | refine gil rfl (by assumption) (by rfl) (by omega) (by omega) ?_ | refine gbl rfl (by assumption) (by rfl) (by omega) (by omega) ?_ | refine gln rfl (xlen_i (by assumption)) ?_ | refine gln rfl (xlen_q (by assumption)) ?_)
      refine gcv (As := [.inl (nI i)]) (rest := [.inl (nI i), .inr (some (a + 6))]) rfl (by decide) (m_hasT (d + 1) hT' hi64) hT'.obj rfl rfl (Nat.le_of_ble_eq_true rfl) ?_
      have stg : ∀ v : Int32, v = oI (if (T i).isSome then some i else none) → xGo (xEx (d + 4)) xtb_29 (fun r0 σ' => r0 = none ∧ ∃ fz' cf' : Nat → Int32, σ'.1 (a + 5) = some (.inl (0, 64, fw')) ∧ σ'.1 (a + 6) = some (.inl (0, 64, fz')) ∧ σ'.1 b = some (.inl (0, 64, cf')) ∧ (∀ p, p < 64 → fz' p = oI (sSt B T O Wt p) ∧ cf' p = if sCf B T O Wt p then cf p ||| nI 128 else cf p) ∧ σ'.2 = σ.2 ∧ ∀ k, k ≠ a + 5 → k ≠ a + 6 → k ≠ b → σ'.1 k = σ.1 k)
        (39, [some (.inr (some a)), some (.inr (some t)), some (.inr (some u)), some (.inr (some w)), some (.inr (some c)), some (.inr (some b)), some (.inl (nI i)), l7], [.inl v, .inl (nI i), .inr (some (a + 6))], σi) := by
        intro v hv
        refine gis rfl c6 rfl hi64 (by omega) (by omega) ?_
        generalize hσj : xup σi (a + 6) (.inl (0, 64, upd zi i v)) = σj
        have d0 : σj.1 a = some (.inr (.inr (3, [.inr (some (a + 1)), .inr (some (a + 2)), .inr (some (a + 3)), .inr (some (a + 4)), .inr (some (a + 5)), .inr (some (a + 6))]))) := by rw [← hσj, xup_ne (by omega)]; exact c0
        have d5 : σj.1 (a + 5) = some (.inl (0, 64, fw')) := by rw [← hσj, xup_ne (by omega)]; exact c5
        have d6 : σj.1 (a + 6) = some (.inl (0, 64, upd zi i v)) := by rw [← hσj]; exact xup_eq _ _ _
        have db : σj.1 b = some (.inl (0, 64, ci)) := by rw [← hσj, xup_ne (by omega)]; exact cb
        have d2 : σj.2 = σ.2 := by rw [← hσj]; exact hσ2
        have dfr : ∀ k, k ≠ a + 5 → k ≠ a + 6 → k ≠ b → σj.1 k = σ.1 k := fun k k1 k2 k3 => by rw [← hσj, xup_ne k2]; exact hfr k k1 k2 k3
        have eB := hB.hi (σ' := σj) (fun k hk => dfr k (by omega) (by omega) (by omega)) ht
        have eT := hTt.hi (σ' := σj) (fun k hk => dfr k (by omega) (by omega) (by omega)) hu
        have eO := hO.hi (σ' := σj) (fun k hk => dfr k (by omega) (by omega) (by omega)) hw
        have conf : ∀ l7, sCf B T O Wt i = true → sSt B T O Wt i = (if (T i).isSome then some i else none) → xGo (xEx (d + 4)) xtb_29 (fun r0 σ' => r0 = none ∧ ∃ fz' cf' : Nat → Int32, σ'.1 (a + 5) = some (.inl (0, 64, fw')) ∧ σ'.1 (a + 6) = some (.inl (0, 64, fz')) ∧ σ'.1 b = some (.inl (0, 64, cf')) ∧ (∀ p, p < 64 → fz' p = oI (sSt B T O Wt p) ∧ cf' p = if sCf B T O Wt p then cf p ||| nI 128 else cf p) ∧ σ'.2 = σ.2 ∧ ∀ k, k ≠ a + 5 → k ≠ a + 6 → k ≠ b → σ'.1 k = σ.1 k)
          (102, [some (.inr (some a)), some (.inr (some t)), some (.inr (some u)), some (.inr (some w)), some (.inr (some c)), some (.inr (some b)), some (.inl (nI i)), l7], [], σj) := by
          intro l7 hcf hst
          repeat (first | refine gp rfl rfl rfl ?_ | refine ggf rfl (by assumption) (by rfl) ?_ | refine gal rfl (by assumption) (by rfl) (by omega) (by omega) ?_ | refine gil rfl (by assumption) (by rfl) (by omega) (by omega) ?_ | refine gbl rfl (by assumption) (by rfl) (by omega) (by omega) ?_ | refine gln rfl (xlen_i (by assumption)) ?_ | refine gln rfl (xlen_q (by assumption)) ?_)
          refine gis rfl db rfl hi64 (by omega) (by omega) ?_
          repeat (first | refine gp rfl rfl rfl ?_ | refine ggf rfl (by assumption) (by rfl) ?_ | refine gal rfl (by assumption) (by rfl) (by omega) (by omega) ?_ | refine gil rfl (by assumption) (by rfl) (by omega) (by omega) ?_ | refine gbl rfl (by assumption) (by rfl) (by omega) (by omega) ?_ | refine gln rfl (xlen_i (by assumption)) ?_ | refine gln rfl (xlen_q (by assumption)) ?_)
          rw [nI_s]
          refine ih (i + 1) _ (upd zi i v) (upd ci i (ci i ||| xk 128 0)) (by omega) (by rw [xup_ne (by omega)]; exact d5) (by rw [xup_ne (by omega)]; exact d6) (xup_eq _ _ _) (fun p hp => ?_) (fun p hp => ?_) d2 (fun k k1 k2 k3 => by rw [xup_ne k3]; exact dfr k k1 k2 k3) l7
          · by_cases hpi : p = i
            · subst hpi
              rw [hcf, hst, if_pos rfl]
              refine ⟨by simp [upd, hv], ?_⟩
              simp only [upd, if_pos]
              rw [hrest p (Nat.le_refl _)]
              rfl
            · simp only [upd, if_neg hpi]; exact hall p (by omega)
          · simp only [upd, if_neg (show p ≠ i by omega)]; exact hrest p (by omega)
        repeat (first | refine gp rfl rfl rfl ?_ | refine ggf rfl (by assumption) (by rfl) ?_ | refine gal rfl (by assumption) (by rfl) (by omega) (by omega) ?_ | refine gil rfl (by assumption) (by rfl) (by omega) (by omega) ?_ | refine gbl rfl (by assumption) (by rfl) (by omega) (by omega) ?_ | refine gln rfl (xlen_i (by assumption)) ?_ | refine gln rfl (xlen_q (by assumption)) ?_)
        rw [hfw i hi64, xk_m1]
        cases hwi : Wt i with
        | none =>
          refine gcf rfl (fun h => h (show (-1 : Int32) = -1 from rfl)) ?_
          repeat (first | refine gp rfl rfl rfl ?_ | refine ggf rfl (by assumption) (by rfl) ?_ | refine gal rfl (by assumption) (by rfl) (by omega) (by omega) ?_ | refine gil rfl (by assumption) (by rfl) (by omega) (by omega) ?_ | refine gbl rfl (by assumption) (by rfl) (by omega) (by omega) ?_ | refine gln rfl (xlen_i (by assumption)) ?_ | refine gln rfl (xlen_q (by assumption)) ?_)
          rw [nI_s]
          refine ih (i + 1) σj (upd zi i v) ci (by omega) d5 d6 db (fun p hp => ?_) (fun p hp => hrest p (by omega)) d2 dfr _
          by_cases hpi : p = i
          · subst hpi
            have e1 : sSt B T O Wt p = (if (T p).isSome then some p else none) := by unfold sSt; rw [hwi]
            have e2 : sCf B T O Wt p = false := by unfold sCf; rw [hwi]
            rw [e1, e2]
            exact ⟨by simp [upd, hv], hrest p (Nat.le_refl _)⟩
          · simp only [upd, if_neg hpi]; exact hall p (by omega)
        | some o =>
          cases o with
          | none =>
            refine gct rfl (show ¬ (-2 : Int32) = -1 by decide) ?_
            repeat (first | refine gp rfl rfl rfl ?_ | refine ggf rfl (by assumption) (by rfl) ?_ | refine gal rfl (by assumption) (by rfl) (by omega) (by omega) ?_ | refine gil rfl (by assumption) (by rfl) (by omega) (by omega) ?_ | refine gbl rfl (by assumption) (by rfl) (by omega) (by omega) ?_ | refine gln rfl (xlen_i (by assumption)) ?_ | refine gln rfl (xlen_q (by assumption)) ?_)
            rw [xk_m2]
            refine gct rfl (show (-2 : Int32) = -2 from rfl) ?_
            exact conf _ (by unfold sCf; rw [hwi]) (by unfold sSt; rw [hwi])
          | some y =>
            have hy := hwok i y hi64 hwi
            refine gct rfl (show ¬ nI y = -1 from oI_ne (by omega)) ?_
            repeat (first | refine gp rfl rfl rfl ?_ | refine ggf rfl (by assumption) (by rfl) ?_ | refine gal rfl (by assumption) (by rfl) (by omega) (by omega) ?_ | refine gil rfl (by assumption) (by rfl) (by omega) (by omega) ?_ | refine gbl rfl (by assumption) (by rfl) (by omega) (by omega) ?_ | refine gln rfl (xlen_i (by assumption)) ?_ | refine gln rfl (xlen_q (by assumption)) ?_)
            rw [xk_m2]
            refine gcf rfl (show ¬ nI y = -2 from nI_ne2 (by omega)) ?_
            have hbad : sHi B T O Wt y = true → sCf B T O Wt i = true ∧ sSt B T O Wt i = (if (T i).isSome then some i else none) := fun z => ⟨by unfold sCf; rw [hwi]; exact z, by unfold sSt; rw [hwi]; simp [z]⟩
            repeat (first | refine gp rfl rfl rfl ?_ | refine ggf rfl (by assumption) (by rfl) ?_ | refine gal rfl (by assumption) (by rfl) (by omega) (by omega) ?_ | refine gil rfl (by assumption) (by rfl) (by omega) (by omega) ?_ | refine gbl rfl (by assumption) (by rfl) (by omega) (by omega) ?_ | refine gln rfl (xlen_i (by assumption)) ?_ | refine gln rfl (xlen_q (by assumption)) ?_)
            refine gcv (As := [.inl (nI y)]) (rest := []) rfl (by decide) (m_hasT (d + 1) eB hy) eB.obj rfl rfl (by decide) ?_
            cases q1 : (B y).isSome with
            | true =>
              have hz := hbad (by unfold sHi; rw [q1]; rfl)
              refine git rfl (show ¬ (1 : Int32) = 0 by decide) ?_
              exact conf _ hz.1 hz.2
            | false =>
              refine giff rfl (fun h => h (show (0 : Int32) = 0 from rfl)) ?_
              repeat (first | refine gp rfl rfl rfl ?_ | refine ggf rfl (by assumption) (by rfl) ?_ | refine gal rfl (by assumption) (by rfl) (by omega) (by omega) ?_ | refine gil rfl (by assumption) (by rfl) (by omega) (by omega) ?_ | refine gbl rfl (by assumption) (by rfl) (by omega) (by omega) ?_ | refine gln rfl (xlen_i (by assumption)) ?_ | refine gln rfl (xlen_q (by assumption)) ?_)
              refine gcv (As := [.inl (nI y)]) (rest := []) rfl (by decide) (m_hasT (d + 1) eT hy) eT.obj rfl rfl (by decide) ?_
              cases q2 : (T y).isSome with
              | true =>
                have hz := hbad (by unfold sHi; rw [q1, q2]; rfl)
                refine git rfl (show ¬ (1 : Int32) = 0 by decide) ?_
                exact conf _ hz.1 hz.2
              | false =>
                refine giff rfl (fun h => h (show (0 : Int32) = 0 from rfl)) ?_
                repeat (first | refine gp rfl rfl rfl ?_ | refine ggf rfl (by assumption) (by rfl) ?_ | refine gal rfl (by assumption) (by rfl) (by omega) (by omega) ?_ | refine gil rfl (by assumption) (by rfl) (by omega) (by omega) ?_ | refine gbl rfl (by assumption) (by rfl) (by omega) (by omega) ?_ | refine gln rfl (xlen_i (by assumption)) ?_ | refine gln rfl (xlen_q (by assumption)) ?_)
                refine gcv (As := [.inl (nI y)]) (rest := []) rfl (by decide) (m_hasT (d + 1) eO hy) eO.obj rfl rfl (by decide) ?_
                cases q3 : (O y).isSome with
                | true =>
                  have hz := hbad (by unfold sHi; rw [q1, q2, q3]; rfl)
                  refine git rfl (show ¬ (1 : Int32) = 0 by decide) ?_
                  exact conf _ hz.1 hz.2
                | false =>
                  refine giff rfl (fun h => h (show (0 : Int32) = 0 from rfl)) ?_
                  repeat (first | refine gp rfl rfl rfl ?_ | refine ggf rfl (by assumption) (by rfl) ?_ | refine gal rfl (by assumption) (by rfl) (by omega) (by omega) ?_ | refine gil rfl (by assumption) (by rfl) (by omega) (by omega) ?_ | refine gbl rfl (by assumption) (by rfl) (by omega) (by omega) ?_ | refine gln rfl (xlen_i (by assumption)) ?_ | refine gln rfl (xlen_q (by assumption)) ?_)
                  have hcl := pCnt_le (fun z => decide (Wt z = some (some y))) 64
                  refine gcv (As := [.inl (nI y)]) (rest := []) rfl (by decide) (m_countWanted (d + 3) (show hSd σj a from d0) d5 hfw hwok hy) d0 rfl rfl (by decide) ?_
                  repeat (first | refine gp rfl rfl rfl ?_ | refine ggf rfl (by assumption) (by rfl) ?_ | refine gal rfl (by assumption) (by rfl) (by omega) (by omega) ?_ | refine gil rfl (by assumption) (by rfl) (by omega) (by omega) ?_ | refine gbl rfl (by assumption) (by rfl) (by omega) (by omega) ?_ | refine gln rfl (xlen_i (by assumption)) ?_ | refine gln rfl (xlen_q (by assumption)) ?_)
                  refine gcp rfl (fun hle => ?_) (fun hgt => ?_)
                  · have hle := (nI_leI (by omega) (by decide)).mp (show nI (pCnt (fun z => decide (Wt z = some (some y))) 64) ≤ nI 1 from hle)
                    have hhi : sHi B T O Wt y = false := by
                      unfold sHi
                      rw [q1, q2, q3, decide_eq_false (by omega)]
                      rfl
                    repeat (first | refine gp rfl rfl rfl ?_ | refine ggf rfl (by assumption) (by rfl) ?_ | refine gal rfl (by assumption) (by rfl) (by omega) (by omega) ?_ | refine gil rfl (by assumption) (by rfl) (by omega) (by omega) ?_ | refine gbl rfl (by assumption) (by rfl) (by omega) (by omega) ?_ | refine gln rfl (xlen_i (by assumption)) ?_ | refine gln rfl (xlen_q (by assumption)) ?_)
                    refine gis rfl d6 rfl hi64 (by omega) (by omega) ?_
                    repeat (first | refine gp rfl rfl rfl ?_ | refine ggf rfl (by assumption) (by rfl) ?_ | refine gal rfl (by assumption) (by rfl) (by omega) (by omega) ?_ | refine gil rfl (by assumption) (by rfl) (by omega) (by omega) ?_ | refine gbl rfl (by assumption) (by rfl) (by omega) (by omega) ?_ | refine gln rfl (xlen_i (by assumption)) ?_ | refine gln rfl (xlen_q (by assumption)) ?_)
                    rw [nI_s]
                    refine ih (i + 1) _ (upd (upd zi i v) i (nI y)) ci (by omega) (by rw [xup_ne (by omega)]; exact d5) (xup_eq _ _ _) (by rw [xup_ne (by omega)]; exact db) (fun p hp => ?_) (fun p hp => hrest p (by omega)) d2 (fun k k1 k2 k3 => by rw [xup_ne k2]; exact dfr k k1 k2 k3) _
                    by_cases hpi : p = i
                    · subst hpi
                      have e1 : sSt B T O Wt p = some y := by unfold sSt; rw [hwi]; simp [hhi]
                      have e2 : sCf B T O Wt p = false := by unfold sCf; rw [hwi]; exact hhi
                      rw [e1, e2]
                      exact ⟨by simp [upd, oI], hrest p (Nat.le_refl _)⟩
                    · simp only [upd, if_neg hpi]; exact hall p (by omega)
                  · have hgt : 1 < pCnt (fun z => decide (Wt z = some (some y))) 64 := by
                      rcases Nat.lt_or_ge 1 (pCnt (fun z => decide (Wt z = some (some y))) 64) with z | z
                      · exact z
                      · exact absurd (show nI (pCnt (fun z => decide (Wt z = some (some y))) 64) ≤ nI 1 from (nI_leI (by omega) (by decide)).mpr z) hgt
                    have hz := hbad (by unfold sHi; rw [decide_eq_true hgt]; simp)
                    exact conf _ hz.1 hz.2
      cases hti : (T i).isSome with
      | true =>
        refine giff rfl (fun h => absurd (show (1 : Int32) = 0 from h) (by decide)) ?_
        refine gp rfl rfl rfl ?_
        refine gp rfl rfl rfl ?_
        exact stg (nI i) (by rw [hti]; rfl)
      | false =>
        refine git rfl (show (0 : Int32) = 0 from rfl) ?_
        refine gp rfl rfl rfl ?_
        exact stg (xk 1 1) (by rw [hti, xk_m1]; rfl)
  obtain ⟨r, σ', hex, rfl, fz', cf', r1, r2, r3, r4, r5, r6⟩ := ex_of (d := d + 4) (y := 29) (as := [.inr (some a), .inr (some t), .inr (some u), .inr (some w), .inr (some c), .inr (some b)]) (σ := σ) (K := fun r0 σ' => r0 = none ∧ ∃ fz' cf' : Nat → Int32, σ'.1 (a + 5) = some (.inl (0, 64, fw')) ∧ σ'.1 (a + 6) = some (.inl (0, 64, fz')) ∧ σ'.1 b = some (.inl (0, 64, cf')) ∧ (∀ p, p < 64 → fz' p = oI (sSt B T O Wt p) ∧ cf' p = if sCf B T O Wt p then cf p ||| nI 128 else cf p) ∧ σ'.2 = σ.2 ∧ ∀ k, k ≠ a + 5 → k ≠ a + 6 → k ≠ b → σ'.1 k = σ.1 k) (by decide) rfl (by
    show xGo (xEx (d + 4)) xtb_29 _ (0, [some (.inr (some a)), some (.inr (some t)), some (.inr (some u)), some (.inr (some w)), some (.inr (some c)), some (.inr (some b)), none, none], [], σ)
    repeat (first | refine gp rfl rfl rfl ?_ | refine ggf rfl (by assumption) (by rfl) ?_ | refine gal rfl (by assumption) (by rfl) (by omega) (by omega) ?_ | refine gil rfl (by assumption) (by rfl) (by omega) (by omega) ?_ | refine gbl rfl (by assumption) (by rfl) (by omega) (by omega) ?_ | refine gln rfl (xlen_i (by assumption)) ?_ | refine gln rfl (xlen_q (by assumption)) ?_)
    refine gcv (As := [.inr (some t), .inr (some u), .inr (some c)]) (rest := []) rfl (by decide) hexw h0' rfl rfl (by decide) ?_
    repeat (first | refine gp rfl rfl rfl ?_ | refine ggf rfl (by assumption) (by rfl) ?_ | refine gal rfl (by assumption) (by rfl) (by omega) (by omega) ?_ | refine gil rfl (by assumption) (by rfl) (by omega) (by omega) ?_ | refine gbl rfl (by assumption) (by rfl) (by omega) (by omega) ?_ | refine gln rfl (xlen_i (by assumption)) ?_ | refine gln rfl (xlen_q (by assumption)) ?_)
    exact loop 64 0 _ fz cf rfl (xup_eq _ _ _) (by rw [xup_ne (by omega)]; exact h6) (by rw [xup_ne (by omega)]; exact hb) (fun p hp => absurd hp (by omega)) (fun p hp => rfl) rfl (fun k k1 k2 k3 => xup_ne k1) none)
  exact ⟨σ', fw', fz', cf', hex, r1, r2, r3, r4, r5, r6⟩
end
section
/-! MODULE: a side's version is laid, the class -/
def sVer (T : pT) (S : Nat → Option Nat) : Nat → pT
  | 0 => fun _ => none
  | n + 1 => if (T n).isSome then (match S n with
    | some y => fun p => if p = y then T n else sVer T S n p
    | none => sVer T S n) else sVer T S n
theorem hOpt_up {σ : xS} {q : Option Nat} {F : Option pF} {k : Nat} {e : xE} (h : hOpt σ q F) (hk : k < 63) : hOpt (xup σ k e) q F := h.keep (hKeep.up hk)
theorem m_layStanding (d : Nat) {σ : xS} {a u v : Nat} {T V : pT} {S : Nat → Option Nat} {fz : Nat → Int32} (h0 : hSd σ a) (h6 : σ.1 (a + 6) = some (.inl (0, 64, fz))) (h6' : ∀ p, p < 64 → fz p = oI (S p)) (hS : ∀ p y, p < 64 → S p = some y → y < 64) (hS2 : ∀ p, p < 64 → (T p).isSome = true → (S p).isSome = true) (hTt : hT σ u T) (hV : hT σ v V) (ha : a + 6 < 38) (hu : 38 ≤ u ∧ u + 1 < 63) (hv : 38 ≤ v ∧ v + 1 < 63) (huv : u + 1 < v ∨ v + 1 < u) :
    ∃ g : Nat → Option Nat, xEx (d + 4) 33 [.inr (some a), .inr (some u), .inr (some v)] σ none (xup σ (v + 1) (.inr (.inl (0, 64, g)))) ∧ hT (xup σ (v + 1) (.inr (.inl (0, 64, g)))) v (sVer T S 64) := by
  have h0' : σ.1 a = some (.inr (.inr (3, [.inr (some (a + 1)), .inr (some (a + 2)), .inr (some (a + 3)), .inr (some (a + 4)), .inr (some (a + 5)), .inr (some (a + 6))]))) := h0
  obtain ⟨gv, ⟨v1, v2⟩, v3⟩ := hV
  have tree : ∀ g : Nat → Option Nat, hTree (xup σ (v + 1) (.inr (.inl (0, 64, g)))) v g := fun g => ⟨by rw [xup_ne (by omega)]; exact v1, xup_eq _ _ _⟩
  have hTk : ∀ g : Nat → Option Nat, hT (xup σ (v + 1) (.inr (.inl (0, 64, g)))) u T := fun g => hTt.fr (hFr.up (lo := v + 1) (hi := v + 1) (Nat.le_refl _) (Nat.le_refl _)) (by omega) (by omega)
  have c0 : ∀ g : Nat → Option Nat, (xup σ (v + 1) (.inr (.inl (0, 64, g)))).1 a = some (.inr (.inr (3, [.inr (some (a + 1)), .inr (some (a + 2)), .inr (some (a + 3)), .inr (some (a + 4)), .inr (some (a + 5)), .inr (some (a + 6))]))) := fun g => by rw [xup_ne (by omega)]; exact h0'
  have c6 : ∀ g : Nat → Option Nat, (xup σ (v + 1) (.inr (.inl (0, 64, g)))).1 (a + 6) = some (.inl (0, 64, fz)) := fun g => by rw [xup_ne (by omega)]; exact h6
  have loop2 : ∀ k i (g : Nat → Option Nat), i + k = 64 → (∀ p, p < 64 → hOpt (xup σ (v + 1) (.inr (.inl (0, 64, g)))) (g p) (sVer T S i p)) → xGo (xEx (d + 3)) xtb_33 (fun r0 σ0 => r0 = none ∧ ∃ g : Nat → Option Nat, σ0 = xup σ (v + 1) (.inr (.inl (0, 64, g))) ∧ ∀ p, p < 64 → hOpt σ0 (g p) (sVer T S 64 p)) (25, [some (.inr (some a)), some (.inr (some u)), some (.inr (some v)), some (.inl (nI i))], [.inl (nI 64), .inl (nI i)], xup σ (v + 1) (.inr (.inl (0, 64, g)))) := by
    intro k
    induction k with
    | zero =>
      intro i g hi hall
      obtain rfl : i = 64 := by omega
      refine gct rfl (show nI 64 ≤ nI _ from nI_le (by omega) (by omega)) ?_
      exact grv rfl ⟨rfl, g, rfl, hall⟩
    | succ k ih =>
      intro i g hi hall
      have hi64 : i < 64 := by omega
      have e0 := c0 g
      have e6 := c6 g
      refine gcf rfl (nI_ge (by omega) (by omega)) ?_
      repeat (first | refine gp rfl rfl rfl ?_ | refine ggf rfl (by assumption) (by rfl) ?_ | refine gal rfl (by assumption) (by rfl) (by omega) (by omega) ?_ | refine gil rfl (by assumption) (by rfl) (by omega) (by omega) ?_ | refine gbl rfl (by assumption) (by rfl) (by omega) (by omega) ?_ | refine gln rfl (xlen_i (by assumption)) ?_ | refine gln rfl (xlen_q (by assumption)) ?_)
      refine gcv (As := [.inl (nI i)]) (rest := []) rfl (by decide) (m_hasT d (hTk g) hi64) (hTk g).obj rfl rfl (by decide) ?_
      cases hti : (T i).isSome with
      | false =>
        refine git rfl (show (0 : Int32) = 0 from rfl) ?_
        repeat (first | refine gp rfl rfl rfl ?_ | refine ggf rfl (by assumption) (by rfl) ?_ | refine gal rfl (by assumption) (by rfl) (by omega) (by omega) ?_ | refine gil rfl (by assumption) (by rfl) (by omega) (by omega) ?_ | refine gbl rfl (by assumption) (by rfl) (by omega) (by omega) ?_ | refine gln rfl (xlen_i (by assumption)) ?_ | refine gln rfl (xlen_q (by assumption)) ?_)
        rw [nI_s]
        refine ih (i + 1) g (by omega) (fun p hp => ?_)
        have e : sVer T S (i + 1) = sVer T S i := by rw [sVer, hti]; rfl
        rw [e]
        exact hall p hp
      | true =>
        refine giff rfl (fun h => absurd (show (1 : Int32) = 0 from h) (by decide)) ?_
        repeat (first | refine gp rfl rfl rfl ?_ | refine ggf rfl (by assumption) (by rfl) ?_ | refine gal rfl (by assumption) (by rfl) (by omega) (by omega) ?_ | refine gil rfl (by assumption) (by rfl) (by omega) (by omega) ?_ | refine gbl rfl (by assumption) (by rfl) (by omega) (by omega) ?_ | refine gln rfl (xlen_i (by assumption)) ?_ | refine gln rfl (xlen_q (by assumption)) ?_)
        obtain ⟨q, hq, ho⟩ := m_fileAtT (d + 1) (hTk g) hi64
        rw [h6' i hi64]
        obtain ⟨y, hy⟩ := Option.isSome_iff_exists.mp (hS2 i hi64 hti)
        have hy64 := hS i y hi64 hy
        rw [hy]
        refine gcv (As := [.inl (nI i)]) (rest := [.inl (oI (some y)), .inr (some v)]) rfl (by decide) hq (hTk g).obj rfl rfl (Nat.le_of_ble_eq_true rfl) ?_
        refine gcv (As := [.inl (nI y), .inr q]) (rest := []) rfl (by decide) (m_lay (d + 1) (tree g) hy64 (hOpt_cell ho)) (tree g).1 rfl rfl (by decide) ?_
        rw [xup_up]
        repeat (first | refine gp rfl rfl rfl ?_ | refine ggf rfl (by assumption) (by rfl) ?_ | refine gal rfl (by assumption) (by rfl) (by omega) (by omega) ?_ | refine gil rfl (by assumption) (by rfl) (by omega) (by omega) ?_ | refine gbl rfl (by assumption) (by rfl) (by omega) (by omega) ?_ | refine gln rfl (xlen_i (by assumption)) ?_ | refine gln rfl (xlen_q (by assumption)) ?_)
        rw [nI_s]
        refine ih (i + 1) _ (by omega) (fun p hp => ?_)
        have e : sVer T S (i + 1) = fun p => if p = y then T i else sVer T S i p := by rw [sVer, hti, if_pos rfl, hy]
        rw [e]
        have hk : hKeep (xup σ (v + 1) (.inr (.inl (0, 64, g)))) (xup σ (v + 1) (.inr (.inl (0, 64, va_up g y q)))) := fun k en hk hs => by rw [xup_ne (by omega)] at hs ⊢; exact hs
        by_cases hpy : p = y
        · subst hpy
          simp only [va_up, if_pos]
          exact ho.keep hk
        · simp only [va_up, if_neg hpy]
          exact (hall p hp).keep hk
  have loop1 : ∀ k i (g : Nat → Option Nat), i + k = 64 → (∀ p, p < i → g p = none) → xGo (xEx (d + 3)) xtb_33 (fun r0 σ0 => r0 = none ∧ ∃ g : Nat → Option Nat, σ0 = xup σ (v + 1) (.inr (.inl (0, 64, g))) ∧ ∀ p, p < 64 → hOpt σ0 (g p) (sVer T S 64 p)) (5, [some (.inr (some a)), some (.inr (some u)), some (.inr (some v)), some (.inl (nI i))], [.inl (nI 64), .inl (nI i)], xup σ (v + 1) (.inr (.inl (0, 64, g)))) := by
    intro k
    induction k with
    | zero =>
      intro i g hi hall
      obtain rfl : i = 64 := by omega
      refine gct rfl (show nI 64 ≤ nI _ from nI_le (by omega) (by omega)) ?_
      repeat (first | refine gp rfl rfl rfl ?_ | refine ggf rfl (by assumption) (by rfl) ?_ | refine gal rfl (by assumption) (by rfl) (by omega) (by omega) ?_ | refine gil rfl (by assumption) (by rfl) (by omega) (by omega) ?_ | refine gbl rfl (by assumption) (by rfl) (by omega) (by omega) ?_ | refine gln rfl (xlen_i (by assumption)) ?_ | refine gln rfl (xlen_q (by assumption)) ?_)
      exact loop2 64 0 g rfl (fun p hp => by rw [hall p hp]; trivial)
    | succ k ih =>
      intro i g hi hall
      refine gcf rfl (nI_ge (by omega) (by omega)) ?_
      repeat (first | refine gp rfl rfl rfl ?_ | refine ggf rfl (by assumption) (by rfl) ?_ | refine gal rfl (by assumption) (by rfl) (by omega) (by omega) ?_ | refine gil rfl (by assumption) (by rfl) (by omega) (by omega) ?_ | refine gbl rfl (by assumption) (by rfl) (by omega) (by omega) ?_ | refine gln rfl (xlen_i (by assumption)) ?_ | refine gln rfl (xlen_q (by assumption)) ?_)
      refine gcv (As := [.inl (nI i), .inr none]) (rest := []) rfl (by decide) (m_lay (d + 1) (tree g) (by omega) (Or.inl rfl)) (tree g).1 rfl rfl (by decide) ?_
      rw [xup_up]
      repeat (first | refine gp rfl rfl rfl ?_ | refine ggf rfl (by assumption) (by rfl) ?_ | refine gal rfl (by assumption) (by rfl) (by omega) (by omega) ?_ | refine gil rfl (by assumption) (by rfl) (by omega) (by omega) ?_ | refine gbl rfl (by assumption) (by rfl) (by omega) (by omega) ?_ | refine gln rfl (xlen_i (by assumption)) ?_ | refine gln rfl (xlen_q (by assumption)) ?_)
      rw [nI_s]
      refine ih (i + 1) _ (by omega) (fun p hp => ?_)
      by_cases hpi : p = i
      · subst hpi; simp [va_up]
      · simp only [va_up, if_neg hpi]; exact hall p (by omega)
  obtain ⟨r, σ', hex, rfl, g, rfl, hg⟩ := ex_of (d := d + 3) (y := 33) (as := [.inr (some a), .inr (some u), .inr (some v)]) (σ := σ) (K := fun r0 σ0 => r0 = none ∧ ∃ g : Nat → Option Nat, σ0 = xup σ (v + 1) (.inr (.inl (0, 64, g))) ∧ ∀ p, p < 64 → hOpt σ0 (g p) (sVer T S 64 p)) (by decide) rfl (by
    show xGo (xEx (d + 3)) xtb_33 _ (0, [some (.inr (some a)), some (.inr (some u)), some (.inr (some v)), none], [], σ)
    repeat (first | refine gp rfl rfl rfl ?_ | refine ggf rfl (by assumption) (by rfl) ?_ | refine gal rfl (by assumption) (by rfl) (by omega) (by omega) ?_ | refine gil rfl (by assumption) (by rfl) (by omega) (by omega) ?_ | refine gbl rfl (by assumption) (by rfl) (by omega) (by omega) ?_ | refine gln rfl (xlen_i (by assumption)) ?_ | refine gln rfl (xlen_q (by assumption)) ?_)
    have := loop1 64 0 gv rfl (fun p hp => absurd hp (by omega))
    rw [xup_same v2] at this
    exact this)
  exact ⟨g, hex, g, tree g, hg⟩
end
section
/-! MODULE: parts of texts, the class -/
/-- a part: fr lines in, wd lines wide, of the text l at b -/
def hPart (σ : xS) (a b fr wd : Nat) : Prop := σ.1 a = some (.inr (.inr (5, [.inr (some b), .inl (nI fr), .inl (nI wd)])))
/-- the lines of a part -/
def pSub (l : List Int32) (fr wd : Nat) : List Int32 := (l.drop fr).take wd
theorem pSub_len {l : List Int32} {fr wd : Nat} (h : fr + wd ≤ l.length) : (pSub l fr wd).length = wd := by
  unfold pSub
  rw [List.length_take, List.length_drop]
  omega
theorem pSub_get {l : List Int32} {fr wd j : Nat} (h : j < wd) : (pSub l fr wd).getD j 0 = l.getD (fr + j) 0 := by
  unfold pSub
  rw [List.getD_eq_getElem?_getD, List.getD_eq_getElem?_getD, List.getElem?_take_of_lt h, List.getElem?_drop]
theorem m_startAt (d : Nat) {σ : xS} {a b : Nat} {x y z : xV} (h : σ.1 a = some (.inr (.inr (5, [x, y, z])))) : xEx (d + 1) 37 [.inr (some a), .inr (some b)] σ none (xup σ a (.inr (.inr (5, [.inr (some b), .inl (nI 0), .inl (nI 0)])))) := by
  refine ⟨by decide, rfl, ?_⟩
  show xGo (xEx d) xtb_37 _ (0, [some (.inr (some a)), some (.inr (some b))], [], σ)
  repeat (first | refine gp rfl rfl rfl ?_ | refine ggf rfl (by assumption) (by rfl) ?_ | refine gal rfl (by assumption) (by rfl) (by omega) (by omega) ?_ | refine gil rfl (by assumption) (by rfl) (by omega) (by omega) ?_ | refine gbl rfl (by assumption) (by rfl) (by omega) (by omega) ?_ | refine gln rfl (xlen_i (by assumption)) ?_ | refine gln rfl (xlen_q (by assumption)) ?_)
  refine gpf rfl h (Nat.le_of_ble_eq_true rfl) rfl ?_
  repeat (first | refine gp rfl rfl rfl ?_ | refine ggf rfl (by assumption) (by rfl) ?_ | refine gal rfl (by assumption) (by rfl) (by omega) (by omega) ?_ | refine gil rfl (by assumption) (by rfl) (by omega) (by omega) ?_ | refine gbl rfl (by assumption) (by rfl) (by omega) (by omega) ?_ | refine gln rfl (xlen_i (by assumption)) ?_ | refine gln rfl (xlen_q (by assumption)) ?_)
  refine gpf rfl (xup_eq _ _ _) (Nat.le_of_ble_eq_true rfl) (Or.inl rfl) ?_
  rw [xup_up]
  repeat (first | refine gp rfl rfl rfl ?_ | refine ggf rfl (by assumption) (by rfl) ?_ | refine gal rfl (by assumption) (by rfl) (by omega) (by omega) ?_ | refine gil rfl (by assumption) (by rfl) (by omega) (by omega) ?_ | refine gbl rfl (by assumption) (by rfl) (by omega) (by omega) ?_ | refine gln rfl (xlen_i (by assumption)) ?_ | refine gln rfl (xlen_q (by assumption)) ?_)
  refine gpf rfl (xup_eq _ _ _) (Nat.le_of_ble_eq_true rfl) (Or.inl rfl) ?_
  rw [xup_up]
  exact grv rfl ⟨rfl, rfl⟩
theorem m_reachTo (d : Nat) {σ : xS} {a b fr wd e : Nat} (h : hPart σ a b fr wd) (he : fr ≤ e) : xEx (d + 1) 38 [.inr (some a), .inl (nI e)] σ none (xup σ a (.inr (.inr (5, [.inr (some b), .inl (nI fr), .inl (nI (e - fr))])))) := by
  have h : σ.1 a = some (.inr (.inr (5, [.inr (some b), .inl (nI fr), .inl (nI wd)]))) := h
  refine ⟨by decide, rfl, ?_⟩
  show xGo (xEx d) xtb_38 _ (0, [some (.inr (some a)), some (.inl (nI e))], [], σ)
  repeat (first | refine gp rfl rfl rfl ?_ | refine ggf rfl (by assumption) (by rfl) ?_ | refine gal rfl (by assumption) (by rfl) (by omega) (by omega) ?_ | refine gil rfl (by assumption) (by rfl) (by omega) (by omega) ?_ | refine gbl rfl (by assumption) (by rfl) (by omega) (by omega) ?_ | refine gln rfl (xlen_i (by assumption)) ?_ | refine gln rfl (xlen_q (by assumption)) ?_)
  rw [pk_sub he]
  refine gpf rfl h (Nat.le_of_ble_eq_true rfl) (Or.inl rfl) ?_
  exact grv rfl ⟨rfl, rfl⟩
theorem m_startBehind (d : Nat) {σ : xS} {a b fr wd e : Nat} (h : hPart σ a b fr wd) : xEx (d + 1) 42 [.inr (some a), .inl (nI e)] σ none (xup σ a (.inr (.inr (5, [.inr (some b), .inl (nI (e + 1)), .inl (nI 0)])))) := by
  have h : σ.1 a = some (.inr (.inr (5, [.inr (some b), .inl (nI fr), .inl (nI wd)]))) := h
  refine ⟨by decide, rfl, ?_⟩
  show xGo (xEx d) xtb_42 _ (0, [some (.inr (some a)), some (.inl (nI e))], [], σ)
  repeat (first | refine gp rfl rfl rfl ?_ | refine ggf rfl (by assumption) (by rfl) ?_ | refine gal rfl (by assumption) (by rfl) (by omega) (by omega) ?_ | refine gil rfl (by assumption) (by rfl) (by omega) (by omega) ?_ | refine gbl rfl (by assumption) (by rfl) (by omega) (by omega) ?_ | refine gln rfl (xlen_i (by assumption)) ?_ | refine gln rfl (xlen_q (by assumption)) ?_)
  rw [nI_s]
  refine gpf rfl h (Nat.le_of_ble_eq_true rfl) (Or.inl rfl) ?_
  repeat (first | refine gp rfl rfl rfl ?_ | refine ggf rfl (by assumption) (by rfl) ?_ | refine gal rfl (by assumption) (by rfl) (by omega) (by omega) ?_ | refine gil rfl (by assumption) (by rfl) (by omega) (by omega) ?_ | refine gbl rfl (by assumption) (by rfl) (by omega) (by omega) ?_ | refine gln rfl (xlen_i (by assumption)) ?_ | refine gln rfl (xlen_q (by assumption)) ?_)
  refine gpf rfl (xup_eq _ _ _) (Nat.le_of_ble_eq_true rfl) (Or.inl rfl) ?_
  rw [xup_up]
  exact grv rfl ⟨rfl, rfl⟩
theorem m_sameAs (d : Nat) {σ : xS} {a b fr wd a' b' fr' wd' : Nat} {l l' : List Int32} (h : hPart σ a b fr wd) (h' : hPart σ a' b' fr' wd') (hl : hInts σ b l) (hl' : hInts σ b' l') (k : fr + wd ≤ l.length) (k' : fr' + wd' ≤ l'.length) (s1 : l.length ≤ 76) (s2 : l'.length ≤ 76) : xEx (d + 1) 39 [.inr (some a), .inr (some a')] σ (some (.inl (bI (decide (pSub l fr wd = pSub l' fr' wd'))))) σ := by
  have h : σ.1 a = some (.inr (.inr (5, [.inr (some b), .inl (nI fr), .inl (nI wd)]))) := h
  have h' : σ.1 a' = some (.inr (.inr (5, [.inr (some b'), .inl (nI fr'), .inl (nI wd')]))) := h'
  obtain ⟨f, c1, c2⟩ := hl
  obtain ⟨f', c1', c2'⟩ := hl'
  refine ⟨by decide, rfl, ?_⟩
  show xGo (xEx d) xtb_39 _ (0, [some (.inr (some a)), some (.inr (some a')), none], [], σ)
  repeat (first | refine gp rfl rfl rfl ?_ | refine ggf rfl (by assumption) (by rfl) ?_ | refine gal rfl (by assumption) (by rfl) (by omega) (by omega) ?_ | refine gil rfl (by assumption) (by rfl) (by omega) (by omega) ?_ | refine gbl rfl (by assumption) (by rfl) (by omega) (by omega) ?_ | refine gln rfl (xlen_i (by assumption)) ?_ | refine gln rfl (xlen_q (by assumption)) ?_)
  refine gcp rfl (fun heq => ?_) (fun hne => ?_)
  · obtain rfl : wd = wd' := (nI_eq (by omega) (by omega)).mp heq
    have loop : ∀ k2 i, i + k2 = wd → (∀ j, j < i → l.getD (fr + j) 0 = l'.getD (fr' + j) 0) → xGo (xEx d) xtb_39 (fun r0 σ0 => r0 = some (.inl (bI (decide (pSub l fr wd = pSub l' fr' wd)))) ∧ σ0 = σ) (20, [some (.inr (some a)), some (.inr (some a')), some (.inl (nI i))], [.inl (nI wd), .inl (nI i)], σ) := by
      intro k2
      induction k2 with
      | zero =>
        intro i hi hall
        obtain rfl : i = wd := by omega
        refine gct rfl (show nI _ ≤ nI _ from nI_le (by omega) (by omega)) ?_
        repeat (first | refine gp rfl rfl rfl ?_ | refine ggf rfl (by assumption) (by rfl) ?_ | refine gal rfl (by assumption) (by rfl) (by omega) (by omega) ?_ | refine gil rfl (by assumption) (by rfl) (by omega) (by omega) ?_ | refine gbl rfl (by assumption) (by rfl) (by omega) (by omega) ?_ | refine gln rfl (xlen_i (by assumption)) ?_ | refine gln rfl (xlen_q (by assumption)) ?_)
        refine gri rfl (fun _ => Or.inr rfl) ⟨?_, rfl⟩
        rw [decide_eq_true]
        · rfl
        · refine pF_ext (by rw [pSub_len k, pSub_len k']) (fun j hj => ?_)
          rw [pSub_len k] at hj
          rw [pSub_get hj, pSub_get hj]
          exact hall j hj
      | succ k2 ih =>
        intro i hi hall
        refine gcf rfl (nI_ge (by omega) (by omega)) ?_
        repeat (first | refine gp rfl rfl rfl ?_ | refine ggf rfl (by assumption) (by rfl) ?_ | refine gal rfl (by assumption) (by rfl) (by omega) (by omega) ?_ | refine gil rfl (by assumption) (by rfl) (by omega) (by omega) ?_ | refine gbl rfl (by assumption) (by rfl) (by omega) (by omega) ?_ | refine gln rfl (xlen_i (by assumption)) ?_ | refine gln rfl (xlen_q (by assumption)) ?_)
        rw [nI_add]
        repeat (first | refine gp rfl rfl rfl ?_ | refine ggf rfl (by assumption) (by rfl) ?_ | refine gal rfl (by assumption) (by rfl) (by omega) (by omega) ?_ | refine gil rfl (by assumption) (by rfl) (by omega) (by omega) ?_ | refine gbl rfl (by assumption) (by rfl) (by omega) (by omega) ?_ | refine gln rfl (xlen_i (by assumption)) ?_ | refine gln rfl (xlen_q (by assumption)) ?_)
        rw [nI_add]
        repeat (first | refine gp rfl rfl rfl ?_ | refine ggf rfl (by assumption) (by rfl) ?_ | refine gal rfl (by assumption) (by rfl) (by omega) (by omega) ?_ | refine gil rfl (by assumption) (by rfl) (by omega) (by omega) ?_ | refine gbl rfl (by assumption) (by rfl) (by omega) (by omega) ?_ | refine gln rfl (xlen_i (by assumption)) ?_ | refine gln rfl (xlen_q (by assumption)) ?_)
        rw [c2 _ (by omega), c2' _ (by omega)]
        refine gcp rfl (fun h => ?_) (fun h => ?_)
        · repeat (first | refine gp rfl rfl rfl ?_ | refine ggf rfl (by assumption) (by rfl) ?_ | refine gal rfl (by assumption) (by rfl) (by omega) (by omega) ?_ | refine gil rfl (by assumption) (by rfl) (by omega) (by omega) ?_ | refine gbl rfl (by assumption) (by rfl) (by omega) (by omega) ?_ | refine gln rfl (xlen_i (by assumption)) ?_ | refine gln rfl (xlen_q (by assumption)) ?_)
          rw [nI_s]
          refine ih (i + 1) (by omega) (fun j hj => ?_)
          by_cases hji : j = i
          · subst hji; exact h
          · exact hall j (by omega)
        · repeat (first | refine gp rfl rfl rfl ?_ | refine ggf rfl (by assumption) (by rfl) ?_ | refine gal rfl (by assumption) (by rfl) (by omega) (by omega) ?_ | refine gil rfl (by assumption) (by rfl) (by omega) (by omega) ?_ | refine gbl rfl (by assumption) (by rfl) (by omega) (by omega) ?_ | refine gln rfl (xlen_i (by assumption)) ?_ | refine gln rfl (xlen_q (by assumption)) ?_)
          refine gri rfl (fun _ => Or.inl rfl) ⟨?_, rfl⟩
          rw [decide_eq_false]
          · rfl
          · intro z
            refine h ?_
            have this : (pSub l fr wd).getD i 0 = (pSub l' fr' wd).getD i 0 := by rw [z]
            rw [pSub_get (by omega), pSub_get (by omega)] at this
            exact this
    repeat (first | refine gp rfl rfl rfl ?_ | refine ggf rfl (by assumption) (by rfl) ?_ | refine gal rfl (by assumption) (by rfl) (by omega) (by omega) ?_ | refine gil rfl (by assumption) (by rfl) (by omega) (by omega) ?_ | refine gbl rfl (by assumption) (by rfl) (by omega) (by omega) ?_ | refine gln rfl (xlen_i (by assumption)) ?_ | refine gln rfl (xlen_q (by assumption)) ?_)
    exact loop wd 0 (by omega) (fun j hj => absurd hj (by omega))
  · repeat (first | refine gp rfl rfl rfl ?_ | refine ggf rfl (by assumption) (by rfl) ?_ | refine gal rfl (by assumption) (by rfl) (by omega) (by omega) ?_ | refine gil rfl (by assumption) (by rfl) (by omega) (by omega) ?_ | refine gbl rfl (by assumption) (by rfl) (by omega) (by omega) ?_ | refine gln rfl (xlen_i (by assumption)) ?_ | refine gln rfl (xlen_q (by assumption)) ?_)
    refine gri rfl (fun _ => Or.inl rfl) ⟨?_, rfl⟩
    rw [decide_eq_false]
    · rfl
    · intro z
      refine hne (show nI wd = nI wd' from ?_)
      have := congrArg List.length z
      rw [pSub_len k, pSub_len k'] at this
      rw [this]
/-- how many of 0 .. n - 1 from the first on -/
def pRun (P : Nat → Bool) (n : Nat) : Nat := (pFst (fun j => !P j) n).getD n
theorem pRun_le (P : Nat → Bool) (n : Nat) : pRun P n ≤ n := by
  unfold pRun
  cases h : pFst (fun j => !P j) n with
  | none => exact Nat.le_refl _
  | some i => exact Nat.le_of_lt (pFst_in h).1
theorem pFst_none {P : Nat → Bool} : ∀ {n : Nat}, (∀ j, j < n → P j = false) → pFst P n = none
  | 0, _ => rfl
  | n + 1, h => by rw [pFst_s, pFst_none (fun j hj => h j (by omega)), h n (by omega)]; rfl
theorem pRun_stop {P : Nat → Bool} {n i : Nat} (h : ∀ j, j < i → P j = true) (hi : i < n) (hp : P i = false) : pRun P n = i := by
  unfold pRun
  rw [pFst_hit (P := fun j => !P j) (i := i) (pFst_none (fun j hj => by simp [h j hj])) (by simp [hp]) hi]
  rfl
theorem pRun_all {P : Nat → Bool} {n : Nat} (h : ∀ j, j < n → P j = true) : pRun P n = n := by
  unfold pRun
  rw [pFst_none (fun j hj => by simp [h j hj])]
  rfl
theorem m_commonBeginning (d : Nat) {σ : xS} {a b fr wd a' b' fr' wd' : Nat} {l l' : List Int32} (h : hPart σ a b fr wd) (h' : hPart σ a' b' fr' wd') (hl : hInts σ b l) (hl' : hInts σ b' l') (k : fr + wd ≤ l.length) (k' : fr' + wd' ≤ l'.length) (s1 : l.length ≤ 76) (s2 : l'.length ≤ 76) : xEx (d + 1) 40 [.inr (some a), .inr (some a')] σ (some (.inl (nI (pRun (fun j => decide (l.getD (fr + j) 0 = l'.getD (fr' + j) 0)) (min wd wd'))))) σ := by
  have h : σ.1 a = some (.inr (.inr (5, [.inr (some b), .inl (nI fr), .inl (nI wd)]))) := h
  have h' : σ.1 a' = some (.inr (.inr (5, [.inr (some b'), .inl (nI fr'), .inl (nI wd')]))) := h'
  obtain ⟨f, c1, c2⟩ := hl
  obtain ⟨f', c1', c2'⟩ := hl'
  refine ⟨by decide, rfl, ?_⟩
  show xGo (xEx d) xtb_40 _ (0, [some (.inr (some a)), some (.inr (some a')), none, none], [], σ)
  repeat (first | refine gp rfl rfl rfl ?_ | refine ggf rfl (by assumption) (by rfl) ?_ | refine gal rfl (by assumption) (by rfl) (by omega) (by omega) ?_ | refine gil rfl (by assumption) (by rfl) (by omega) (by omega) ?_ | refine gbl rfl (by assumption) (by rfl) (by omega) (by omega) ?_ | refine gln rfl (xlen_i (by assumption)) ?_ | refine gln rfl (xlen_q (by assumption)) ?_)
  refine gmn rfl (by decide) ?_
  rw [mn_nI (by omega) (by omega)]
  have hm1 := Nat.min_le_left wd wd'
  have hm2 := Nat.min_le_right wd wd'
  generalize min wd wd' = n at hm1 hm2 ⊢
  have loop : ∀ k2 i, i + k2 = n → (∀ j, j < i → decide (l.getD (fr + j) 0 = l'.getD (fr' + j) 0) = true) → xGo (xEx d) xtb_40 (fun r0 σ0 => r0 = some (.inl (nI (pRun (fun j => decide (l.getD (fr + j) 0 = l'.getD (fr' + j) 0)) n))) ∧ σ0 = σ) (16, [some (.inr (some a)), some (.inr (some a')), some (.inl (nI n)), some (.inl (nI i))], [.inl (nI n), .inl (nI i)], σ) := by
    intro k2
    induction k2 with
    | zero =>
      intro i hi hall
      obtain rfl : i = n := by omega
      refine gct rfl (show nI _ ≤ nI _ from nI_le (by omega) (by omega)) ?_
      repeat (first | refine gp rfl rfl rfl ?_ | refine ggf rfl (by assumption) (by rfl) ?_ | refine gal rfl (by assumption) (by rfl) (by omega) (by omega) ?_ | refine gil rfl (by assumption) (by rfl) (by omega) (by omega) ?_ | refine gbl rfl (by assumption) (by rfl) (by omega) (by omega) ?_ | refine gln rfl (xlen_i (by assumption)) ?_ | refine gln rfl (xlen_q (by assumption)) ?_)
      exact gri rfl (fun h => absurd h (by decide)) ⟨by rw [pRun_all hall], rfl⟩
    | succ k2 ih =>
      intro i hi hall
      refine gcf rfl (nI_ge (by omega) (by omega)) ?_
      repeat (first | refine gp rfl rfl rfl ?_ | refine ggf rfl (by assumption) (by rfl) ?_ | refine gal rfl (by assumption) (by rfl) (by omega) (by omega) ?_ | refine gil rfl (by assumption) (by rfl) (by omega) (by omega) ?_ | refine gbl rfl (by assumption) (by rfl) (by omega) (by omega) ?_ | refine gln rfl (xlen_i (by assumption)) ?_ | refine gln rfl (xlen_q (by assumption)) ?_)
      rw [nI_add]
      repeat (first | refine gp rfl rfl rfl ?_ | refine ggf rfl (by assumption) (by rfl) ?_ | refine gal rfl (by assumption) (by rfl) (by omega) (by omega) ?_ | refine gil rfl (by assumption) (by rfl) (by omega) (by omega) ?_ | refine gbl rfl (by assumption) (by rfl) (by omega) (by omega) ?_ | refine gln rfl (xlen_i (by assumption)) ?_ | refine gln rfl (xlen_q (by assumption)) ?_)
      rw [nI_add]
      repeat (first | refine gp rfl rfl rfl ?_ | refine ggf rfl (by assumption) (by rfl) ?_ | refine gal rfl (by assumption) (by rfl) (by omega) (by omega) ?_ | refine gil rfl (by assumption) (by rfl) (by omega) (by omega) ?_ | refine gbl rfl (by assumption) (by rfl) (by omega) (by omega) ?_ | refine gln rfl (xlen_i (by assumption)) ?_ | refine gln rfl (xlen_q (by assumption)) ?_)
      rw [c2 _ (by omega), c2' _ (by omega)]
      refine gcp rfl (fun hne => ?_) (fun heq => ?_)
      · repeat (first | refine gp rfl rfl rfl ?_ | refine ggf rfl (by assumption) (by rfl) ?_ | refine gal rfl (by assumption) (by rfl) (by omega) (by omega) ?_ | refine gil rfl (by assumption) (by rfl) (by omega) (by omega) ?_ | refine gbl rfl (by assumption) (by rfl) (by omega) (by omega) ?_ | refine gln rfl (xlen_i (by assumption)) ?_ | refine gln rfl (xlen_q (by assumption)) ?_)
        refine gri rfl (fun h => absurd h (by decide)) ⟨?_, rfl⟩
        rw [pRun_stop (i := i) hall (by omega) (decide_eq_false hne)]
      · repeat (first | refine gp rfl rfl rfl ?_ | refine ggf rfl (by assumption) (by rfl) ?_ | refine gal rfl (by assumption) (by rfl) (by omega) (by omega) ?_ | refine gil rfl (by assumption) (by rfl) (by omega) (by omega) ?_ | refine gbl rfl (by assumption) (by rfl) (by omega) (by omega) ?_ | refine gln rfl (xlen_i (by assumption)) ?_ | refine gln rfl (xlen_q (by assumption)) ?_)
        rw [nI_s]
        refine ih (i + 1) (by omega) (fun j hj => ?_)
        by_cases hji : j = i
        · subst hji
          refine decide_eq_true ?_
          by_cases hz : l.getD (fr + j) 0 = l'.getD (fr' + j) 0
          · exact hz
          · exact absurd hz heq
        · exact hall j (by omega)
  repeat (first | refine gp rfl rfl rfl ?_ | refine ggf rfl (by assumption) (by rfl) ?_ | refine gal rfl (by assumption) (by rfl) (by omega) (by omega) ?_ | refine gil rfl (by assumption) (by rfl) (by omega) (by omega) ?_ | refine gbl rfl (by assumption) (by rfl) (by omega) (by omega) ?_ | refine gln rfl (xlen_i (by assumption)) ?_ | refine gln rfl (xlen_q (by assumption)) ?_)
  exact loop n 0 (by omega) (fun j hj => absurd hj (by omega))
theorem m_commonEnd (d : Nat) {σ : xS} {a b fr wd a' b' fr' wd' g : Nat} {l l' : List Int32} (h : hPart σ a b fr wd) (h' : hPart σ a' b' fr' wd') (hl : hInts σ b l) (hl' : hInts σ b' l') (k : fr + wd ≤ l.length) (k' : fr' + wd' ≤ l'.length) (s1 : l.length ≤ 76) (s2 : l'.length ≤ 76) (hg : g ≤ min wd wd') (hw : 0 < wd + fr) (hw' : 0 < wd' + fr') : xEx (d + 1) 41 [.inr (some a), .inr (some a'), .inl (nI g)] σ (some (.inl (nI (pRun (fun j => decide (l.getD (fr + wd - 1 - j) 0 = l'.getD (fr' + wd' - 1 - j) 0)) (min wd wd' - g))))) σ := by
  have h : σ.1 a = some (.inr (.inr (5, [.inr (some b), .inl (nI fr), .inl (nI wd)]))) := h
  have h' : σ.1 a' = some (.inr (.inr (5, [.inr (some b'), .inl (nI fr'), .inl (nI wd')]))) := h'
  obtain ⟨f, c1, c2⟩ := hl
  obtain ⟨f', c1', c2'⟩ := hl'
  refine ⟨by decide, rfl, ?_⟩
  show xGo (xEx d) xtb_41 _ (0, [some (.inr (some a)), some (.inr (some a')), some (.inl (nI g)), none, none, none, none], [], σ)
  repeat (first | refine gp rfl rfl rfl ?_ | refine ggf rfl (by assumption) (by rfl) ?_ | refine gal rfl (by assumption) (by rfl) (by omega) (by omega) ?_ | refine gil rfl (by assumption) (by rfl) (by omega) (by omega) ?_ | refine gbl rfl (by assumption) (by rfl) (by omega) (by omega) ?_ | refine gln rfl (xlen_i (by assumption)) ?_ | refine gln rfl (xlen_q (by assumption)) ?_)
  refine gmn rfl (by decide) ?_
  rw [mn_nI (by omega) (by omega)]
  have hm1 := Nat.min_le_left wd wd'
  have hm2 := Nat.min_le_right wd wd'
  repeat (first | refine gp rfl rfl rfl ?_ | refine ggf rfl (by assumption) (by rfl) ?_ | refine gal rfl (by assumption) (by rfl) (by omega) (by omega) ?_ | refine gil rfl (by assumption) (by rfl) (by omega) (by omega) ?_ | refine gbl rfl (by assumption) (by rfl) (by omega) (by omega) ?_ | refine gln rfl (xlen_i (by assumption)) ?_ | refine gln rfl (xlen_q (by assumption)) ?_)
  rw [pk_sub hg, nI_add, nI_add, show nI (fr + wd) - xk 1 0 = nI (fr + wd - 1) from pk_sub (by omega), show nI (fr' + wd') - xk 1 0 = nI (fr' + wd' - 1) from pk_sub (by omega)]
  generalize hn : min wd wd' - g = n
  have loop : ∀ k2 i, i + k2 = n → (∀ j, j < i → decide (l.getD (fr + wd - 1 - j) 0 = l'.getD (fr' + wd' - 1 - j) 0) = true) → xGo (xEx d) xtb_41 (fun r0 σ0 => r0 = some (.inl (nI (pRun (fun j => decide (l.getD (fr + wd - 1 - j) 0 = l'.getD (fr' + wd' - 1 - j) 0)) n))) ∧ σ0 = σ) (46, [some (.inr (some a)), some (.inr (some a')), some (.inl (nI g)), some (.inl (nI n)), some (.inl (nI (fr + wd - 1))), some (.inl (nI (fr' + wd' - 1))), some (.inl (nI i))], [.inl (nI n), .inl (nI i)], σ) := by
    intro k2
    induction k2 with
    | zero =>
      intro i hi hall
      obtain rfl : i = n := by omega
      refine gct rfl (show nI _ ≤ nI _ from nI_le (by omega) (by omega)) ?_
      repeat (first | refine gp rfl rfl rfl ?_ | refine ggf rfl (by assumption) (by rfl) ?_ | refine gal rfl (by assumption) (by rfl) (by omega) (by omega) ?_ | refine gil rfl (by assumption) (by rfl) (by omega) (by omega) ?_ | refine gbl rfl (by assumption) (by rfl) (by omega) (by omega) ?_ | refine gln rfl (xlen_i (by assumption)) ?_ | refine gln rfl (xlen_q (by assumption)) ?_)
      exact gri rfl (fun h => absurd h (by decide)) ⟨by rw [pRun_all hall], rfl⟩
    | succ k2 ih =>
      intro i hi hall
      refine gcf rfl (nI_ge (by omega) (by omega)) ?_
      repeat (first | refine gp rfl rfl rfl ?_ | refine ggf rfl (by assumption) (by rfl) ?_ | refine gal rfl (by assumption) (by rfl) (by omega) (by omega) ?_ | refine gil rfl (by assumption) (by rfl) (by omega) (by omega) ?_ | refine gbl rfl (by assumption) (by rfl) (by omega) (by omega) ?_ | refine gln rfl (xlen_i (by assumption)) ?_ | refine gln rfl (xlen_q (by assumption)) ?_)
      rw [pk_sub (by omega)]
      repeat (first | refine gp rfl rfl rfl ?_ | refine ggf rfl (by assumption) (by rfl) ?_ | refine gal rfl (by assumption) (by rfl) (by omega) (by omega) ?_ | refine gil rfl (by assumption) (by rfl) (by omega) (by omega) ?_ | refine gbl rfl (by assumption) (by rfl) (by omega) (by omega) ?_ | refine gln rfl (xlen_i (by assumption)) ?_ | refine gln rfl (xlen_q (by assumption)) ?_)
      rw [pk_sub (by omega)]
      repeat (first | refine gp rfl rfl rfl ?_ | refine ggf rfl (by assumption) (by rfl) ?_ | refine gal rfl (by assumption) (by rfl) (by omega) (by omega) ?_ | refine gil rfl (by assumption) (by rfl) (by omega) (by omega) ?_ | refine gbl rfl (by assumption) (by rfl) (by omega) (by omega) ?_ | refine gln rfl (xlen_i (by assumption)) ?_ | refine gln rfl (xlen_q (by assumption)) ?_)
      rw [c2 _ (by omega), c2' _ (by omega)]
      refine gcp rfl (fun hne => ?_) (fun heq => ?_)
      · repeat (first | refine gp rfl rfl rfl ?_ | refine ggf rfl (by assumption) (by rfl) ?_ | refine gal rfl (by assumption) (by rfl) (by omega) (by omega) ?_ | refine gil rfl (by assumption) (by rfl) (by omega) (by omega) ?_ | refine gbl rfl (by assumption) (by rfl) (by omega) (by omega) ?_ | refine gln rfl (xlen_i (by assumption)) ?_ | refine gln rfl (xlen_q (by assumption)) ?_)
        refine gri rfl (fun h => absurd h (by decide)) ⟨?_, rfl⟩
        rw [pRun_stop (i := i) hall (by omega) (decide_eq_false hne)]
      · repeat (first | refine gp rfl rfl rfl ?_ | refine ggf rfl (by assumption) (by rfl) ?_ | refine gal rfl (by assumption) (by rfl) (by omega) (by omega) ?_ | refine gil rfl (by assumption) (by rfl) (by omega) (by omega) ?_ | refine gbl rfl (by assumption) (by rfl) (by omega) (by omega) ?_ | refine gln rfl (xlen_i (by assumption)) ?_ | refine gln rfl (xlen_q (by assumption)) ?_)
        rw [nI_s]
        refine ih (i + 1) (by omega) (fun j hj => ?_)
        by_cases hji : j = i
        · subst hji
          refine decide_eq_true ?_
          by_cases hz : l.getD (fr + wd - 1 - j) 0 = l'.getD (fr' + wd' - 1 - j) 0
          · exact hz
          · exact absurd hz heq
        · exact hall j (by omega)
  exact loop n 0 (by omega) (fun j hj => absurd hj (by omega))
end
section
/-! MODULE: what is written, the class -/
/-- what changes is the merger's counter and what it wrote -/
def hW (σ σ' : xS) : Prop := σ'.2 = σ.2 ∧ ∀ k, k ≠ 21 → k ≠ 37 → σ'.1 k = σ.1 k
theorem hW.refl (σ : xS) : hW σ σ := ⟨rfl, fun _ _ _ => rfl⟩
theorem hW.trans {a b c : xS} (h1 : hW a b) (h2 : hW b c) : hW a c := ⟨h2.1.trans h1.1, fun k hk hk' => (h2.2 k hk hk').trans (h1.2 k hk hk')⟩
theorem hW.up {σ : xS} {k : Nat} {e : xE} (h : k = 21 ∨ k = 37) : hW σ (xup σ k e) := ⟨rfl, fun j h1 h2 => xup_ne (by omega)⟩
theorem hW.keep {σ σ' : xS} (h : hW σ σ') : hKeep σ σ' := fun k e hk hs => by rw [h.2 k (by omega) (by omega)]; exact hs
def xLMf (n : Int32) (c : Bool) : List xV := [.inr (some 22), .inr (some 32), .inr (some 33), .inr (some 34), .inr (some 35), .inr (some 36), .inr (some 37), .inl n, .inl (bI c)]
def hLM (σ : xS) (w : List Int32) (c : Bool) : Prop := σ.1 21 = some (.inr (.inr (6, [.inr (some 22), .inr (some 32), .inr (some 33), .inr (some 34), .inr (some 35), .inr (some 36), .inr (some 37), .inl (nI w.length), .inl (bI c)]))) ∧ w.length ≤ 76 ∧ ∃ f : Nat → Int32, σ.1 37 = some (.inl (0, 76, f)) ∧ ∀ j, j < w.length → f j = w.getD j 0
/-- what is written holds 76 lines -/
def pW (w l : List Int32) : List Int32 := (w ++ l).take 76
theorem pW_len (w l : List Int32) : (pW w l).length ≤ 76 := by unfold pW; rw [List.length_take]; omega
theorem pW_nil {w : List Int32} (h : w.length ≤ 76) : pW w [] = w := by unfold pW; rw [List.append_nil, List.take_of_length_le h]
theorem pW_full {w : List Int32} (l : List Int32) (h : w.length = 76) : pW w l = w := by unfold pW; rw [List.take_append_of_le_length (by omega), List.take_of_length_le (by omega)]
theorem pW_pW (w l m : List Int32) : pW (pW w l) m = pW w (l ++ m) := by
  unfold pW
  rw [← List.append_assoc, List.take_append, List.take_append (l₁ := w ++ l), List.take_take, List.length_take]
  congr 1
  by_cases h : (w ++ l).length ≤ 76
  · rw [Nat.min_eq_right h]
  · rw [show 76 - min 76 (w ++ l).length = 0 by omega, show 76 - (w ++ l).length = 0 by omega]
theorem pW_one {w : List Int32} {x : Int32} (h : w.length < 76) : pW w [x] = w ++ [x] := by unfold pW; rw [List.take_of_length_le (by rw [List.length_append]; exact h)]
theorem getD_app {w : List Int32} {x : Int32} {j : Nat} (h : j < w.length) : (w ++ [x]).getD j 0 = w.getD j 0 := by
  rw [List.getD_eq_getElem?_getD, List.getD_eq_getElem?_getD, List.getElem?_append_left h]
theorem getD_app' {w : List Int32} {x : Int32} : (w ++ [x]).getD w.length 0 = x := by
  rw [List.getD_eq_getElem?_getD, List.getElem?_append_right (Nat.le_refl _)]
  simp
/-- one line is put at the end -/
theorem hLM_put {σ : xS} {w : List Int32} {c : Bool} {x : Int32} {f : Nat → Int32} (h : σ.1 21 = some (.inr (.inr (6, [.inr (some 22), .inr (some 32), .inr (some 33), .inr (some 34), .inr (some 35), .inr (some 36), .inr (some 37), .inl (nI w.length), .inl (bI c)])))) (hw : w.length < 76) (h3 : ∀ j, j < w.length → f j = w.getD j 0) : hLM (xup (xup σ 37 (.inl (0, 76, upd f w.length x))) 21 (.inr (.inr (6, [.inr (some 22), .inr (some 32), .inr (some 33), .inr (some 34), .inr (some 35), .inr (some 36), .inr (some 37), .inl (nI (w.length + 1)), .inl (bI c)])))) (w ++ [x]) c := by
  refine ⟨?_, by rw [List.length_append]; exact hw, upd f w.length x, ?_, ?_⟩
  · rw [xup_eq, List.length_append]; rfl
  · rw [xup_ne (by decide)]; exact xup_eq _ _ _
  · intro j hj
    rw [List.length_append] at hj
    have hj : j < w.length + 1 := hj
    by_cases hjw : j = w.length
    · subst hjw
      rw [getD_app']
      simp [upd]
    · rw [getD_app (by omega)]
      simp only [upd, if_neg hjw]
      exact h3 j (by omega)
theorem m_write (d : Nat) {σ : xS} {w : List Int32} {c : Bool} {x : Int32} (h : hLM σ w c) : ∃ σ', xEx (d + 1) 49 [.inr (some 21), .inl x] σ none σ' ∧ hLM σ' (pW w [x]) c ∧ hW σ σ' := by
  have h0 := h
  obtain ⟨h1, h2, f, h3, h4⟩ := h
  by_cases hw : w.length < 76
  · refine ⟨_, ⟨by decide, rfl, ?_⟩, by rw [pW_one hw]; exact hLM_put (x := x) h1 hw h4, (hW.up (Or.inr rfl)).trans (hW.up (Or.inl rfl))⟩
    show xGo (xEx d) xtb_49 _ (0, [some (.inr (some 21)), some (.inl x)], [], σ)
    repeat (first | refine gp rfl rfl rfl ?_ | refine ggf rfl (by assumption) (by rfl) ?_ | refine gal rfl (by assumption) (by rfl) (by omega) (by omega) ?_ | refine gil rfl (by assumption) (by rfl) (by omega) (by omega) ?_ | refine gbl rfl (by assumption) (by rfl) (by omega) (by omega) ?_ | refine gln rfl (xlen_i (by assumption)) ?_ | refine gln rfl (xlen_q (by assumption)) ?_)
    refine gcf rfl (nI_ge hw (by omega)) ?_
    repeat (first | refine gp rfl rfl rfl ?_ | refine ggf rfl (by assumption) (by rfl) ?_ | refine gal rfl (by assumption) (by rfl) (by omega) (by omega) ?_ | refine gil rfl (by assumption) (by rfl) (by omega) (by omega) ?_ | refine gbl rfl (by assumption) (by rfl) (by omega) (by omega) ?_ | refine gln rfl (xlen_i (by assumption)) ?_ | refine gln rfl (xlen_q (by assumption)) ?_)
    refine gis rfl h3 rfl hw (by omega) (by decide) ?_
    have c1 : (xup σ 37 (.inl (0, 76, upd f w.length x))).1 21 = some (.inr (.inr (6, [.inr (some 22), .inr (some 32), .inr (some 33), .inr (some 34), .inr (some 35), .inr (some 36), .inr (some 37), .inl (nI w.length), .inl (bI c)]))) := by rw [xup_ne (by decide)]; exact h1
    repeat (first | refine gp rfl rfl rfl ?_ | refine ggf rfl (by assumption) (by rfl) ?_ | refine gal rfl (by assumption) (by rfl) (by omega) (by omega) ?_ | refine gil rfl (by assumption) (by rfl) (by omega) (by omega) ?_ | refine gbl rfl (by assumption) (by rfl) (by omega) (by omega) ?_ | refine gln rfl (xlen_i (by assumption)) ?_ | refine gln rfl (xlen_q (by assumption)) ?_)
    rw [nI_s]
    refine gpf rfl c1 (Nat.le_of_ble_eq_true rfl) (Or.inl rfl) ?_
    exact grv rfl ⟨rfl, rfl⟩
  · refine ⟨σ, ⟨by decide, rfl, ?_⟩, by rw [pW_full _ (by omega)]; exact h0, hW.refl σ⟩
    show xGo (xEx d) xtb_49 _ (0, [some (.inr (some 21)), some (.inl x)], [], σ)
    repeat (first | refine gp rfl rfl rfl ?_ | refine ggf rfl (by assumption) (by rfl) ?_ | refine gal rfl (by assumption) (by rfl) (by omega) (by omega) ?_ | refine gil rfl (by assumption) (by rfl) (by omega) (by omega) ?_ | refine gbl rfl (by assumption) (by rfl) (by omega) (by omega) ?_ | refine gln rfl (xlen_i (by assumption)) ?_ | refine gln rfl (xlen_q (by assumption)) ?_)
    refine gct rfl (show nI 76 ≤ nI _ from nI_le (by omega) (by omega)) ?_
    exact grv rfl ⟨rfl, rfl⟩
theorem pSub_step {l : List Int32} {i n : Nat} (h : i < l.length) : pSub l i (n + 1) = l.getD i 0 :: pSub l (i + 1) n := by
  unfold pSub
  rw [List.drop_eq_getElem_cons h, List.take_succ_cons]
  congr 1
  rw [List.getD_eq_getElem?_getD, List.getElem?_eq_getElem h]
  rfl
theorem pSub_zero (l : List Int32) (i : Nat) : pSub l i 0 = [] := by unfold pSub; rw [List.take_zero]
theorem m_writeLines (d : Nat) {σ : xS} {w : List Int32} {c : Bool} {a b fr wd s e : Nat} {l : List Int32} (h : hLM σ w c) (hp : hPart σ a b fr wd) (hl : hInts σ b l) (ha : a ≠ 21 ∧ a ≠ 37) (hb : b ≠ 21 ∧ b ≠ 37) (he : fr + e ≤ l.length) (hs : l.length ≤ 76) (hse : s ≤ e) : ∃ σ', xEx (d + 1) 48 [.inr (some 21), .inr (some a), .inl (nI s), .inl (nI e)] σ none σ' ∧ hLM σ' (pW w (pSub l (fr + s) (e - s))) c ∧ hW σ σ' := by
  have hp : σ.1 a = some (.inr (.inr (5, [.inr (some b), .inl (nI fr), .inl (nI wd)]))) := hp
  obtain ⟨g, c1, c2⟩ := hl
  have loop : ∀ k i (σ1 : xS) (v : List Int32), i + k = e → hLM σ1 v c → hW σ σ1 → xGo (xEx d) xtb_48 (fun r0 σ0 => r0 = none ∧ hLM σ0 (pW v (pSub l (fr + i) k)) c ∧ hW σ σ0) (6, [some (.inr (some 21)), some (.inr (some a)), some (.inl (nI s)), some (.inl (nI e)), some (.inl (nI i))], [.inl (nI e), .inl (nI i)], σ1) := by
    intro k
    induction k with
    | zero =>
      intro i σ1 v hi hv hw
      obtain rfl : i = e := by omega
      refine gct rfl (show nI _ ≤ nI _ from nI_le (by omega) (by omega)) ?_
      refine grv rfl ⟨rfl, ?_, hw⟩
      rw [pSub_zero, pW_nil hv.2.1]
      exact hv
    | succ k ih =>
      intro i σ1 v hi hv hw
      have hv0 := hv
      obtain ⟨h1, h2, f, h3, h4⟩ := hv
      have p1 : σ1.1 a = some (.inr (.inr (5, [.inr (some b), .inl (nI fr), .inl (nI wd)]))) := by rw [hw.2 a ha.1 ha.2]; exact hp
      have p2 : σ1.1 b = some (.inl (0, l.length, g)) := by rw [hw.2 b hb.1 hb.2]; exact c1
      refine gcf rfl (nI_ge (by omega) (by omega)) ?_
      repeat (first | refine gp rfl rfl rfl ?_ | refine ggf rfl (by assumption) (by rfl) ?_ | refine gal rfl (by assumption) (by rfl) (by omega) (by omega) ?_ | refine gil rfl (by assumption) (by rfl) (by omega) (by omega) ?_ | refine gbl rfl (by assumption) (by rfl) (by omega) (by omega) ?_ | refine gln rfl (xlen_i (by assumption)) ?_ | refine gln rfl (xlen_q (by assumption)) ?_)
      by_cases hvl : v.length < 76
      · refine gcf rfl (nI_ge hvl (by omega)) ?_
        repeat (first | refine gp rfl rfl rfl ?_ | refine ggf rfl (by assumption) (by rfl) ?_ | refine gal rfl (by assumption) (by rfl) (by omega) (by omega) ?_ | refine gil rfl (by assumption) (by rfl) (by omega) (by omega) ?_ | refine gbl rfl (by assumption) (by rfl) (by omega) (by omega) ?_ | refine gln rfl (xlen_i (by assumption)) ?_ | refine gln rfl (xlen_q (by assumption)) ?_)
        rw [nI_add]
        repeat (first | refine gp rfl rfl rfl ?_ | refine ggf rfl (by assumption) (by rfl) ?_ | refine gal rfl (by assumption) (by rfl) (by omega) (by omega) ?_ | refine gil rfl (by assumption) (by rfl) (by omega) (by omega) ?_ | refine gbl rfl (by assumption) (by rfl) (by omega) (by omega) ?_ | refine gln rfl (xlen_i (by assumption)) ?_ | refine gln rfl (xlen_q (by assumption)) ?_)
        rw [c2 _ (by omega)]
        refine gis rfl h3 rfl hvl (by omega) (by decide) ?_
        have c1 : (xup σ1 37 (.inl (0, 76, upd f v.length (l.getD (fr + i) 0)))).1 21 = some (.inr (.inr (6, [.inr (some 22), .inr (some 32), .inr (some 33), .inr (some 34), .inr (some 35), .inr (some 36), .inr (some 37), .inl (nI v.length), .inl (bI c)]))) := by rw [xup_ne (by decide)]; exact h1
        repeat (first | refine gp rfl rfl rfl ?_ | refine ggf rfl (by assumption) (by rfl) ?_ | refine gal rfl (by assumption) (by rfl) (by omega) (by omega) ?_ | refine gil rfl (by assumption) (by rfl) (by omega) (by omega) ?_ | refine gbl rfl (by assumption) (by rfl) (by omega) (by omega) ?_ | refine gln rfl (xlen_i (by assumption)) ?_ | refine gln rfl (xlen_q (by assumption)) ?_)
        rw [nI_s]
        refine gpf rfl c1 (Nat.le_of_ble_eq_true rfl) (Or.inl rfl) ?_
        repeat (first | refine gp rfl rfl rfl ?_ | refine ggf rfl (by assumption) (by rfl) ?_ | refine gal rfl (by assumption) (by rfl) (by omega) (by omega) ?_ | refine gil rfl (by assumption) (by rfl) (by omega) (by omega) ?_ | refine gbl rfl (by assumption) (by rfl) (by omega) (by omega) ?_ | refine gln rfl (xlen_i (by assumption)) ?_ | refine gln rfl (xlen_q (by assumption)) ?_)
        rw [nI_s]
        have := ih (i + 1) _ (v ++ [l.getD (fr + i) 0]) (by omega) (hLM_put (x := l.getD (fr + i) 0) h1 hvl h4) (hw.trans ((hW.up (Or.inr rfl)).trans (hW.up (Or.inl rfl))))
        rw [← pW_one hvl, pW_pW] at this
        rw [pSub_step (by omega)]
        exact this
      · refine gct rfl (show nI 76 ≤ nI _ from nI_le (by omega) (by omega)) ?_
        refine grv rfl ⟨rfl, ?_, hw⟩
        rw [pW_full _ (by omega)]
        exact hv0
  obtain ⟨r, σ', hex, rfl, h1, h2⟩ := ex_of (d := d) (y := 48) (as := [.inr (some 21), .inr (some a), .inl (nI s), .inl (nI e)]) (σ := σ) (K := fun r0 σ0 => r0 = none ∧ hLM σ0 (pW w (pSub l (fr + s) (e - s))) c ∧ hW σ σ0) (by decide) rfl (by
    show xGo (xEx d) xtb_48 _ (0, [some (.inr (some 21)), some (.inr (some a)), some (.inl (nI s)), some (.inl (nI e)), none], [], σ)
    repeat (first | refine gp rfl rfl rfl ?_ | refine ggf rfl (by assumption) (by rfl) ?_ | refine gal rfl (by assumption) (by rfl) (by omega) (by omega) ?_ | refine gil rfl (by assumption) (by rfl) (by omega) (by omega) ?_ | refine gbl rfl (by assumption) (by rfl) (by omega) (by omega) ?_ | refine gln rfl (xlen_i (by assumption)) ?_ | refine gln rfl (xlen_q (by assumption)) ?_)
    exact loop (e - s) s σ w (by omega) h (hW.refl σ))
  exact ⟨σ', hex, h1, h2⟩
end
section
/-! MODULE: what stands between two lines that all have, the class -/
theorem m_commonEnd0 (d : Nat) {σ : xS} {a b fr wd a' b' fr' wd' g : Nat} (h : hPart σ a b fr wd) (h' : hPart σ a' b' fr' wd') (hg : g = min wd wd') (s1 : wd ≤ 76) (s2 : wd' ≤ 76) : xEx (d + 1) 41 [.inr (some a), .inr (some a'), .inl (nI g)] σ (some (.inl (nI 0))) σ := by
  have h : σ.1 a = some (.inr (.inr (5, [.inr (some b), .inl (nI fr), .inl (nI wd)]))) := h
  have h' : σ.1 a' = some (.inr (.inr (5, [.inr (some b'), .inl (nI fr'), .inl (nI wd')]))) := h'
  refine ⟨by decide, rfl, ?_⟩
  show xGo (xEx d) xtb_41 _ (0, [some (.inr (some a)), some (.inr (some a')), some (.inl (nI g)), none, none, none, none], [], σ)
  repeat (first | refine gp rfl rfl rfl ?_ | refine ggf rfl (by assumption) (by rfl) ?_ | refine gal rfl (by assumption) (by rfl) (by omega) (by omega) ?_ | refine gil rfl (by assumption) (by rfl) (by omega) (by omega) ?_ | refine gbl rfl (by assumption) (by rfl) (by omega) (by omega) ?_ | refine gln rfl (xlen_i (by assumption)) ?_ | refine gln rfl (xlen_q (by assumption)) ?_)
  refine gmn rfl (by decide) ?_
  rw [mn_nI (by omega) (by omega)]
  repeat (first | refine gp rfl rfl rfl ?_ | refine ggf rfl (by assumption) (by rfl) ?_ | refine gal rfl (by assumption) (by rfl) (by omega) (by omega) ?_ | refine gil rfl (by assumption) (by rfl) (by omega) (by omega) ?_ | refine gbl rfl (by assumption) (by rfl) (by omega) (by omega) ?_ | refine gln rfl (xlen_i (by assumption)) ?_ | refine gln rfl (xlen_q (by assumption)) ?_)
  rw [pk_sub (by omega), show min wd wd' - g = 0 by omega]
  refine gct rfl (show nI 0 ≤ nI 0 from nI_le (by omega) (by omega)) ?_
  repeat (first | refine gp rfl rfl rfl ?_ | refine ggf rfl (by assumption) (by rfl) ?_ | refine gal rfl (by assumption) (by rfl) (by omega) (by omega) ?_ | refine gil rfl (by assumption) (by rfl) (by omega) (by omega) ?_ | refine gbl rfl (by assumption) (by rfl) (by omega) (by omega) ?_ | refine gln rfl (xlen_i (by assumption)) ?_ | refine gln rfl (xlen_q (by assumption)) ?_)
  exact gri rfl (fun h => absurd h (by decide)) ⟨rfl, rfl⟩
def pCut (A : List Int32) (s t : Nat) : List Int32 := pSub A s (t - s)
theorem pSub_cut {l : List Int32} {fr wd s t : Nat} (h : t ≤ wd) : pSub l (fr + s) (t - s) = pCut (pSub l fr wd) s t := by
  unfold pCut pSub
  rw [List.drop_take, List.take_take, List.drop_drop]
  congr 1
  omega
theorem pFst_congr {P P' : Nat → Bool} : ∀ {n : Nat}, (∀ j, j < n → P j = P' j) → pFst P n = pFst P' n
  | 0, _ => rfl
  | n + 1, h => by rw [pFst_s, pFst_s, pFst_congr (fun j hj => h j (by omega)), h n (by omega)]
theorem pRun_congr {P P' : Nat → Bool} {n : Nat} (h : ∀ j, j < n → P j = P' j) : pRun P n = pRun P' n := by
  unfold pRun
  rw [pFst_congr (P' := fun j => !P' j) (fun j hj => by rw [h j hj])]
def pHead (A B : List Int32) : Nat := pRun (fun j => decide (A.getD j 0 = B.getD j 0)) (min A.length B.length)
def pTail (A B : List Int32) (g : Nat) : Nat := pRun (fun j => decide (A.getD (A.length - 1 - j) 0 = B.getD (B.length - 1 - j) 0)) (min A.length B.length - g)
def pBn (st : Nat) (A B : List Int32) : Nat := if st = 2 then pHead A B else 0
def pEn (st : Nat) (A B : List Int32) : Nat := if st = 2 then pTail A B (pHead A B) else 0
def pClash (st : Nat) (O A B : List Int32) (b e : Nat) : List Int32 := pCut A 0 b ++ ([nI 16] ++ (pCut A b (A.length - e) ++ ((if st = 0 then [] else [nI 17] ++ O) ++ ([nI 18] ++ (pCut B b (B.length - e) ++ ([nI 19] ++ pCut A (A.length - e) A.length))))))
def pBad (O A B : List Int32) : Bool := !(decide (A = O) || decide (B = O) || decide (A = B))
def pGap (st : Nat) (O A B : List Int32) : List Int32 := if A = O then B else if B = O ∨ A = B then A else pClash st O A B (pBn st A B) (pEn st A B)
theorem pBE_le (st : Nat) (A B : List Int32) : pBn st A B + pEn st A B ≤ min A.length B.length := by
  unfold pBn pEn
  have h1 : pHead A B ≤ min A.length B.length := pRun_le _ _
  have h2 : pTail A B (pHead A B) ≤ min A.length B.length - pHead A B := pRun_le _ _
  split <;> omega
/-- the three parts, and the texts that they are parts of -/
def hPs (σ : xS) (o a b : Nat) (lo la lb : List Int32) (fo wo fa wa fb wb : Nat) : Prop := hPart σ 34 o fo wo ∧ hPart σ 35 a fa wa ∧ hPart σ 36 b fb wb ∧ hInts σ o lo ∧ hInts σ a la ∧ hInts σ b lb
def far (o : Nat) : Prop := o < 2 ∨ 63 ≤ o
theorem hInts.w {σ σ' : xS} {o : Nat} {l : List Int32} (h : hInts σ o l) (hw : hW σ σ') (ho : far o) : hInts σ' o l := by
  obtain ⟨f, h1, h2⟩ := h
  unfold far at ho
  exact ⟨f, by rw [hw.2 o (by omega) (by omega)]; exact h1, h2⟩
theorem hPart.w {σ σ' : xS} {a b fr wd : Nat} (h : hPart σ a b fr wd) (hw : hW σ σ') (ha : 34 ≤ a ∧ a ≤ 36) : hPart σ' a b fr wd := by
  unfold hPart at h ⊢
  rw [hw.2 a (by omega) (by omega)]
  exact h
theorem hPs.w {σ σ' : xS} {o a b : Nat} {lo la lb : List Int32} {fo wo fa wa fb wb : Nat} (h : hPs σ o a b lo la lb fo wo fa wa fb wb) (hw : hW σ σ') (ho : far o) (ha : far a) (hb : far b) : hPs σ' o a b lo la lb fo wo fa wa fb wb := by
  obtain ⟨h1, h2, h3, h4, h5, h6⟩ := h
  exact ⟨h1.w hw (by decide), h2.w hw (by decide), h3.w hw (by decide), h4.w hw ho, h5.w hw ha, h6.w hw hb⟩
theorem m_wl (d : Nat) {σ : xS} {w : List Int32} {c : Bool} {a b fr wd s e : Nat} {l : List Int32} (h : hLM σ w c) (hp : hPart σ a b fr wd) (hl : hInts σ b l) (ha : 34 ≤ a ∧ a ≤ 36) (hb : far b) (he : fr + wd ≤ l.length) (he2 : e ≤ wd) (hs : l.length ≤ 76) (hse : s ≤ e) : ∃ σ', xEx (d + 1) 48 [.inr (some 21), .inr (some a), .inl (nI s), .inl (nI e)] σ none σ' ∧ hLM σ' (pW w (pCut (pSub l fr wd) s e)) c ∧ hW σ σ' := by
  unfold far at hb
  obtain ⟨σ', h1, h2, h3⟩ := m_writeLines d h hp hl (by omega) (by omega) (by omega) hs hse
  rw [pSub_cut he2] at h2
  exact ⟨σ', h1, h2, h3⟩
theorem pCut_all (A : List Int32) : pCut A 0 A.length = A := by
  unfold pCut pSub
  rw [List.drop_zero, List.take_of_length_le (by omega)]
theorem m_writeGap (d : Nat) {σ : xS} {w : List Int32} {c : Bool} {o a b : Nat} {lo la lb : List Int32} {fo wo fa wa fb wb st : Nat} (h : hLM σ w c) (hp : hPs σ o a b lo la lb fo wo fa wa fb wb) (ho : far o) (ha : far a) (hb : far b) (so : lo.length ≤ 76) (sa : la.length ≤ 76) (sb : lb.length ≤ 76) (ko : fo + wo ≤ lo.length) (ka : fa + wa ≤ la.length) (kb : fb + wb ≤ lb.length) (hst : st < 1000) :
    ∃ σ', xEx (d + 2) 47 [.inr (some 21), .inl (nI st)] σ none σ' ∧ hLM σ' (pW w (pGap st (pSub lo fo wo) (pSub la fa wa) (pSub lb fb wb))) (c || pBad (pSub lo fo wo) (pSub la fa wa) (pSub lb fb wb)) ∧ hW σ σ' := by
  have lO := pSub_len ko
  have lA := pSub_len ka
  have lB := pSub_len kb
  generalize hO : pSub lo fo wo = O at *
  generalize hA : pSub la fa wa = A at *
  generalize hB : pSub lb fb wb = B at *
  let K : Option xV → xS → Prop := fun r0 σ0 => r0 = none ∧ hLM σ0 (pW w (pGap st O A B)) (c || pBad O A B) ∧ hW σ σ0
  have main : xGo (xEx (d + 1)) xtb_47 K (0, [some (.inr (some 21)), some (.inl (nI st)), none, none, none], [], σ) := by
    obtain ⟨h1, h2, f, h3, h4⟩ := id h
    obtain ⟨pO, pA, pB', iO, iA, iB⟩ := id hp
    have qO : σ.1 34 = some (.inr (.inr (5, [.inr (some o), .inl (nI fo), .inl (nI wo)]))) := pO
    have qA : σ.1 35 = some (.inr (.inr (5, [.inr (some a), .inl (nI fa), .inl (nI wa)]))) := pA
    have qB : σ.1 36 = some (.inr (.inr (5, [.inr (some b), .inl (nI fb), .inl (nI wb)]))) := pB'
    repeat (first | refine gp rfl rfl rfl ?_ | refine ggf rfl (by assumption) (by rfl) ?_ | refine gal rfl (by assumption) (by rfl) (by omega) (by omega) ?_ | refine gil rfl (by assumption) (by rfl) (by omega) (by omega) ?_ | refine gbl rfl (by assumption) (by rfl) (by omega) (by omega) ?_ | refine gln rfl (xlen_i (by assumption)) ?_ | refine gln rfl (xlen_q (by assumption)) ?_)
    refine gcv (As := [.inr (some 34)]) (rest := []) rfl (by decide) (m_sameAs d pA pO iA iO ka ko sa so) qA rfl rfl (by decide) ?_
    rw [hA, hO]
    by_cases hAO : A = O
    · rw [decide_eq_true hAO]
      refine giff rfl (fun h => absurd (show (1 : Int32) = 0 from h) (by decide)) ?_
      repeat (first | refine gp rfl rfl rfl ?_ | refine ggf rfl (by assumption) (by rfl) ?_ | refine gal rfl (by assumption) (by rfl) (by omega) (by omega) ?_ | refine gil rfl (by assumption) (by rfl) (by omega) (by omega) ?_ | refine gbl rfl (by assumption) (by rfl) (by omega) (by omega) ?_ | refine gln rfl (xlen_i (by assumption)) ?_ | refine gln rfl (xlen_q (by assumption)) ?_)
      obtain ⟨σ1, x1, x2, x3⟩ := m_wl d (s := 0) (e := wb) h pB' iB (by decide) hb kb (Nat.le_refl _) sb (by omega)
      refine gcv (As := [.inr (some 36), .inl (nI 0), .inl (nI wb)]) (rest := []) rfl (by decide) x1 h1 rfl rfl (by decide) ?_
      repeat (first | refine gp rfl rfl rfl ?_ | refine ggf rfl (by assumption) (by rfl) ?_ | refine gal rfl (by assumption) (by rfl) (by omega) (by omega) ?_ | refine gil rfl (by assumption) (by rfl) (by omega) (by omega) ?_ | refine gbl rfl (by assumption) (by rfl) (by omega) (by omega) ?_ | refine gln rfl (xlen_i (by assumption)) ?_ | refine gln rfl (xlen_q (by assumption)) ?_)
      refine grv rfl ⟨rfl, ?_, x3⟩
      rw [hB, ← lB, pCut_all] at x2
      have e1 : pGap st O A B = B := by unfold pGap; rw [if_pos hAO]
      have e2 : pBad O A B = false := by unfold pBad; rw [decide_eq_true hAO]; rfl
      rw [e1, e2, Bool.or_false]
      exact x2
    · rw [decide_eq_false hAO]
      refine git rfl (show (0 : Int32) = 0 from rfl) ?_
      have wrA : (B = O ∨ A = B) → xGo (xEx (d + 1)) xtb_47 K (74, [some (.inr (some 21)), some (.inl (nI st)), none, none, none], [.inl (nI wa), .inl (nI 0), .inr (some 35), .inr (some 21)], σ) := by
        intro hor
        obtain ⟨σ1, x1, x2, x3⟩ := m_wl d (s := 0) (e := wa) h pA iA (by decide) ha ka (Nat.le_refl _) sa (by omega)
        refine gcv (As := [.inr (some 35), .inl (nI 0), .inl (nI wa)]) (rest := []) rfl (by decide) x1 h1 rfl rfl (by decide) ?_
        repeat (first | refine gp rfl rfl rfl ?_ | refine ggf rfl (by assumption) (by rfl) ?_ | refine gal rfl (by assumption) (by rfl) (by omega) (by omega) ?_ | refine gil rfl (by assumption) (by rfl) (by omega) (by omega) ?_ | refine gbl rfl (by assumption) (by rfl) (by omega) (by omega) ?_ | refine gln rfl (xlen_i (by assumption)) ?_ | refine gln rfl (xlen_q (by assumption)) ?_)
        refine grv rfl ⟨rfl, ?_, x3⟩
        rw [hA, ← lA, pCut_all] at x2
        have e1 : pGap st O A B = A := by unfold pGap; rw [if_neg hAO, if_pos hor]
        have e2 : pBad O A B = false := by
          unfold pBad
          rcases hor with z | z
          · rw [decide_eq_true z, Bool.or_true, Bool.true_or]; rfl
          · rw [decide_eq_true z, Bool.or_true]; rfl
        rw [e1, e2, Bool.or_false]
        exact x2
      repeat (first | refine gp rfl rfl rfl ?_ | refine ggf rfl (by assumption) (by rfl) ?_ | refine gal rfl (by assumption) (by rfl) (by omega) (by omega) ?_ | refine gil rfl (by assumption) (by rfl) (by omega) (by omega) ?_ | refine gbl rfl (by assumption) (by rfl) (by omega) (by omega) ?_ | refine gln rfl (xlen_i (by assumption)) ?_ | refine gln rfl (xlen_q (by assumption)) ?_)
      refine gcv (As := [.inr (some 34)]) (rest := []) rfl (by decide) (m_sameAs d pB' pO iB iO kb ko sb so) qB rfl rfl (by decide) ?_
      rw [hB, hO]
      by_cases hBO : B = O
      · rw [decide_eq_true hBO]
        refine git rfl (fun h => absurd (show (1 : Int32) = 0 from h) (by decide)) ?_
        repeat (first | refine gp rfl rfl rfl ?_ | refine ggf rfl (by assumption) (by rfl) ?_ | refine gal rfl (by assumption) (by rfl) (by omega) (by omega) ?_ | refine gil rfl (by assumption) (by rfl) (by omega) (by omega) ?_ | refine gbl rfl (by assumption) (by rfl) (by omega) (by omega) ?_ | refine gln rfl (xlen_i (by assumption)) ?_ | refine gln rfl (xlen_q (by assumption)) ?_)
        exact wrA (Or.inl hBO)
      · rw [decide_eq_false hBO]
        refine giff rfl (fun h => h (show (0 : Int32) = 0 from rfl)) ?_
        repeat (first | refine gp rfl rfl rfl ?_ | refine ggf rfl (by assumption) (by rfl) ?_ | refine gal rfl (by assumption) (by rfl) (by omega) (by omega) ?_ | refine gil rfl (by assumption) (by rfl) (by omega) (by omega) ?_ | refine gbl rfl (by assumption) (by rfl) (by omega) (by omega) ?_ | refine gln rfl (xlen_i (by assumption)) ?_ | refine gln rfl (xlen_q (by assumption)) ?_)
        refine gcv (As := [.inr (some 36)]) (rest := []) rfl (by decide) (m_sameAs d pA pB' iA iB ka kb sa sb) qA rfl rfl (by decide) ?_
        rw [hB, hA]
        by_cases hAB : A = B
        · rw [decide_eq_true hAB]
          refine giff rfl (fun h => absurd (show (1 : Int32) = 0 from h) (by decide)) ?_
          repeat (first | refine gp rfl rfl rfl ?_ | refine ggf rfl (by assumption) (by rfl) ?_ | refine gal rfl (by assumption) (by rfl) (by omega) (by omega) ?_ | refine gil rfl (by assumption) (by rfl) (by omega) (by omega) ?_ | refine gbl rfl (by assumption) (by rfl) (by omega) (by omega) ?_ | refine gln rfl (xlen_i (by assumption)) ?_ | refine gln rfl (xlen_q (by assumption)) ?_)
          exact wrA (Or.inr hAB)
        · rw [decide_eq_false hAB]
          refine git rfl (show (0 : Int32) = 0 from rfl) ?_
          repeat (first | refine gp rfl rfl rfl ?_ | refine ggf rfl (by assumption) (by rfl) ?_ | refine gal rfl (by assumption) (by rfl) (by omega) (by omega) ?_ | refine gil rfl (by assumption) (by rfl) (by omega) (by omega) ?_ | refine gbl rfl (by assumption) (by rfl) (by omega) (by omega) ?_ | refine gln rfl (xlen_i (by assumption)) ?_ | refine gln rfl (xlen_q (by assumption)) ?_)
          refine gpf rfl h1 (Nat.le_of_ble_eq_true rfl) (Or.inr ⟨rfl, Or.inr rfl⟩) ?_
          have L1 : hLM (xup σ 21 (.inr (.inr (6, [.inr (some 22), .inr (some 32), .inr (some 33), .inr (some 34), .inr (some 35), .inr (some 36), .inr (some 37), .inl (nI w.length), .inl (xk 1 0)])))) w true := ⟨xup_eq _ _ _, h2, f, by rw [xup_ne (by decide)]; exact h3, h4⟩
          have W1 : hW σ (xup σ 21 (.inr (.inr (6, [.inr (some 22), .inr (some 32), .inr (some 33), .inr (some 34), .inr (some 35), .inr (some 36), .inr (some 37), .inl (nI w.length), .inl (xk 1 0)])))) := hW.up (Or.inl rfl)
          show xGo (xEx (d + 1)) xtb_47 K (85, [some (.inr (some 21)), some (.inl (nI st)), none, none, none], [], (xup σ 21 (.inr (.inr (6, [.inr (some 22), .inr (some 32), .inr (some 33), .inr (some 34), .inr (some 35), .inr (some 36), .inr (some 37), .inl (nI w.length), .inl (xk 1 0)])))))
          generalize (xup σ 21 (.inr (.inr (6, [.inr (some 22), .inr (some 32), .inr (some 33), .inr (some 34), .inr (some 35), .inr (some 36), .inr (some 37), .inl (nI w.length), .inl (xk 1 0)])))) = σ1 at L1 W1 ⊢
          have eBad : pBad O A B = true := by unfold pBad; rw [decide_eq_false hAO, decide_eq_false hBO, decide_eq_false hAB]; rfl
          have eGap : pGap st O A B = pClash st O A B (pBn st A B) (pEn st A B) := by unfold pGap; rw [if_neg hAO, if_neg (by intro z; rcases z with z | z; exact hBO z; exact hAB z)]
          have hle := pBE_le st A B
          have hm1 := Nat.min_le_left A.length B.length
          have hm2 := Nat.min_le_right A.length B.length
          have tail2 : ∀ (σ2 : xS) (t en bn : Nat) (v : List Int32), bn = pBn st A B → en = pEn st A B → hLM σ2 v true → hW σ σ2 → pW v ([nI 18] ++ (pCut B bn (B.length - en) ++ ([nI 19] ++ pCut A (A.length - en) A.length))) = pW w (pGap st O A B) → xGo (xEx (d + 1)) xtb_47 K (202, [some (.inr (some 21)), some (.inl (nI st)), some (.inl (nI t)), some (.inl (nI bn)), some (.inl (nI en))], [.inl (nI 18), .inr (some 21)], σ2) := by
            intro σ2 t en bn v hbn hen hv hw he
            have e1 := hv.1
            obtain ⟨σ3, y1, y2, y3⟩ := m_write d (x := nI 18) hv
            refine gcv (As := [.inl (nI 18)]) (rest := []) rfl (by decide) y1 e1 rfl rfl (by decide) ?_
            have hw3 := hw.trans y3
            obtain ⟨zO, zA, zB, jO, jA, jB⟩ := hp.w hw3 ho ha hb
            have e3 := y2.1
            have qA3 : σ3.1 35 = some (.inr (.inr (5, [.inr (some a), .inl (nI fa), .inl (nI wa)]))) := zA
            have qB3 : σ3.1 36 = some (.inr (.inr (5, [.inr (some b), .inl (nI fb), .inl (nI wb)]))) := zB
            repeat (first | refine gp rfl rfl rfl ?_ | refine ggf rfl (by assumption) (by rfl) ?_ | refine gal rfl (by assumption) (by rfl) (by omega) (by omega) ?_ | refine gil rfl (by assumption) (by rfl) (by omega) (by omega) ?_ | refine gbl rfl (by assumption) (by rfl) (by omega) (by omega) ?_ | refine gln rfl (xlen_i (by assumption)) ?_ | refine gln rfl (xlen_q (by assumption)) ?_)
            rw [pk_sub (by omega)]
            obtain ⟨σ4, u1, u2, u3⟩ := m_wl d (s := bn) (e := wb - en) y2 zB jB (by decide) hb kb (by omega) sb (by omega)
            refine gcv (As := [.inr (some 36), .inl (nI bn), .inl (nI (wb - en))]) (rest := []) rfl (by decide) u1 e3 rfl rfl (by decide) ?_
            have hw4 := hw3.trans u3
            have e4 := u2.1
            repeat (first | refine gp rfl rfl rfl ?_ | refine ggf rfl (by assumption) (by rfl) ?_ | refine gal rfl (by assumption) (by rfl) (by omega) (by omega) ?_ | refine gil rfl (by assumption) (by rfl) (by omega) (by omega) ?_ | refine gbl rfl (by assumption) (by rfl) (by omega) (by omega) ?_ | refine gln rfl (xlen_i (by assumption)) ?_ | refine gln rfl (xlen_q (by assumption)) ?_)
            obtain ⟨σ5, v1, v2, v3⟩ := m_write d (x := nI 19) u2
            refine gcv (As := [.inl (nI 19)]) (rest := []) rfl (by decide) v1 e4 rfl rfl (by decide) ?_
            have hw5 := hw4.trans v3
            obtain ⟨-, zA5, -, -, jA5, -⟩ := hp.w hw5 ho ha hb
            have e5 := v2.1
            have qA5 : σ5.1 35 = some (.inr (.inr (5, [.inr (some a), .inl (nI fa), .inl (nI wa)]))) := zA5
            repeat (first | refine gp rfl rfl rfl ?_ | refine ggf rfl (by assumption) (by rfl) ?_ | refine gal rfl (by assumption) (by rfl) (by omega) (by omega) ?_ | refine gil rfl (by assumption) (by rfl) (by omega) (by omega) ?_ | refine gbl rfl (by assumption) (by rfl) (by omega) (by omega) ?_ | refine gln rfl (xlen_i (by assumption)) ?_ | refine gln rfl (xlen_q (by assumption)) ?_)
            rw [pk_sub (by omega)]
            obtain ⟨σ6, s1, s2, s3⟩ := m_wl d (s := wa - en) (e := wa) v2 zA5 jA5 (by decide) ha ka (by omega) sa (by omega)
            refine gcv (As := [.inr (some 35), .inl (nI (wa - en)), .inl (nI wa)]) (rest := []) rfl (by decide) s1 e5 rfl rfl (by decide) ?_
            refine grv rfl ⟨rfl, ?_, hw5.trans s3⟩
            rw [hA, hB, ← lA, ← lB, pW_pW, pW_pW, pW_pW, he] at s2
            rw [eBad, Bool.or_true]
            exact s2
          have tail : ∀ (t en bn : Nat), bn = pBn st A B → en = pEn st A B → xGo (xEx (d + 1)) xtb_47 K (145, [some (.inr (some 21)), some (.inl (nI st)), some (.inl (nI t)), some (.inl (nI bn)), some (.inl (nI en))], [.inl (nI bn), .inl (nI 0), .inr (some 35), .inr (some 21)], σ1) := by
            intro t en bn hbn hen
            have e1 := L1.1
            obtain ⟨-, zA, -, -, jA, -⟩ := hp.w W1 ho ha hb
            obtain ⟨σ3, y1, y2, y3⟩ := m_wl d (s := 0) (e := bn) L1 zA jA (by decide) ha ka (by omega) sa (by omega)
            refine gcv (As := [.inr (some 35), .inl (nI 0), .inl (nI bn)]) (rest := []) rfl (by decide) y1 e1 rfl rfl (by decide) ?_
            have hw3 := W1.trans y3
            have e3 := y2.1
            repeat (first | refine gp rfl rfl rfl ?_ | refine ggf rfl (by assumption) (by rfl) ?_ | refine gal rfl (by assumption) (by rfl) (by omega) (by omega) ?_ | refine gil rfl (by assumption) (by rfl) (by omega) (by omega) ?_ | refine gbl rfl (by assumption) (by rfl) (by omega) (by omega) ?_ | refine gln rfl (xlen_i (by assumption)) ?_ | refine gln rfl (xlen_q (by assumption)) ?_)
            obtain ⟨σ4, u1, u2, u3⟩ := m_write d (x := nI 16) y2
            refine gcv (As := [.inl (nI 16)]) (rest := []) rfl (by decide) u1 e3 rfl rfl (by decide) ?_
            have hw4 := hw3.trans u3
            obtain ⟨-, zA4, -, -, jA4, -⟩ := hp.w hw4 ho ha hb
            have e4 := u2.1
            have qA4 : σ4.1 35 = some (.inr (.inr (5, [.inr (some a), .inl (nI fa), .inl (nI wa)]))) := zA4
            repeat (first | refine gp rfl rfl rfl ?_ | refine ggf rfl (by assumption) (by rfl) ?_ | refine gal rfl (by assumption) (by rfl) (by omega) (by omega) ?_ | refine gil rfl (by assumption) (by rfl) (by omega) (by omega) ?_ | refine gbl rfl (by assumption) (by rfl) (by omega) (by omega) ?_ | refine gln rfl (xlen_i (by assumption)) ?_ | refine gln rfl (xlen_q (by assumption)) ?_)
            rw [pk_sub (by omega)]
            obtain ⟨σ5, v1, v2, v3⟩ := m_wl d (s := bn) (e := wa - en) u2 zA4 jA4 (by decide) ha ka (by omega) sa (by omega)
            refine gcv (As := [.inr (some 35), .inl (nI bn), .inl (nI (wa - en))]) (rest := []) rfl (by decide) v1 e4 rfl rfl (by decide) ?_
            have hw5 := hw4.trans v3
            have e5 := v2.1
            repeat (first | refine gp rfl rfl rfl ?_ | refine ggf rfl (by assumption) (by rfl) ?_ | refine gal rfl (by assumption) (by rfl) (by omega) (by omega) ?_ | refine gil rfl (by assumption) (by rfl) (by omega) (by omega) ?_ | refine gbl rfl (by assumption) (by rfl) (by omega) (by omega) ?_ | refine gln rfl (xlen_i (by assumption)) ?_ | refine gln rfl (xlen_q (by assumption)) ?_)
            by_cases hs0 : st = 0
            · refine git rfl (show nI st = 0 by rw [hs0]; rfl) ?_
              repeat (first | refine gp rfl rfl rfl ?_ | refine ggf rfl (by assumption) (by rfl) ?_ | refine gal rfl (by assumption) (by rfl) (by omega) (by omega) ?_ | refine gil rfl (by assumption) (by rfl) (by omega) (by omega) ?_ | refine gbl rfl (by assumption) (by rfl) (by omega) (by omega) ?_ | refine gln rfl (xlen_i (by assumption)) ?_ | refine gln rfl (xlen_q (by assumption)) ?_)
              refine tail2 σ5 t en bn _ hbn hen v2 hw5 ?_
              rw [hA, ← lA, pW_pW, pW_pW, pW_pW, eGap, ← hbn, ← hen]
              unfold pClash
              rw [if_pos hs0]
              simp only [List.append_assoc, List.nil_append]
            · refine giff rfl (fun z => hs0 ((nI_eq (by omega) (by omega)).mp (show nI st = nI 0 from z))) ?_
              repeat (first | refine gp rfl rfl rfl ?_ | refine ggf rfl (by assumption) (by rfl) ?_ | refine gal rfl (by assumption) (by rfl) (by omega) (by omega) ?_ | refine gil rfl (by assumption) (by rfl) (by omega) (by omega) ?_ | refine gbl rfl (by assumption) (by rfl) (by omega) (by omega) ?_ | refine gln rfl (xlen_i (by assumption)) ?_ | refine gln rfl (xlen_q (by assumption)) ?_)
              obtain ⟨σ6, s1, s2, s3⟩ := m_write d (x := nI 17) v2
              refine gcv (As := [.inl (nI 17)]) (rest := []) rfl (by decide) s1 e5 rfl rfl (by decide) ?_
              have hw6 := hw5.trans s3
              obtain ⟨zO6, -, -, jO6, -, -⟩ := hp.w hw6 ho ha hb
              have e6 := s2.1
              have qO6 : σ6.1 34 = some (.inr (.inr (5, [.inr (some o), .inl (nI fo), .inl (nI wo)]))) := zO6
              repeat (first | refine gp rfl rfl rfl ?_ | refine ggf rfl (by assumption) (by rfl) ?_ | refine gal rfl (by assumption) (by rfl) (by omega) (by omega) ?_ | refine gil rfl (by assumption) (by rfl) (by omega) (by omega) ?_ | refine gbl rfl (by assumption) (by rfl) (by omega) (by omega) ?_ | refine gln rfl (xlen_i (by assumption)) ?_ | refine gln rfl (xlen_q (by assumption)) ?_)
              obtain ⟨σ7, r1, r2, r3⟩ := m_wl d (s := 0) (e := wo) s2 zO6 jO6 (by decide) ho ko (Nat.le_refl _) so (by omega)
              refine gcv (As := [.inr (some 34), .inl (nI 0), .inl (nI wo)]) (rest := []) rfl (by decide) r1 e6 rfl rfl (by decide) ?_
              repeat (first | refine gp rfl rfl rfl ?_ | refine ggf rfl (by assumption) (by rfl) ?_ | refine gal rfl (by assumption) (by rfl) (by omega) (by omega) ?_ | refine gil rfl (by assumption) (by rfl) (by omega) (by omega) ?_ | refine gbl rfl (by assumption) (by rfl) (by omega) (by omega) ?_ | refine gln rfl (xlen_i (by assumption)) ?_ | refine gln rfl (xlen_q (by assumption)) ?_)
              refine tail2 σ7 t en bn _ hbn hen r2 (hw6.trans r3) ?_
              rw [hA, hO, ← lA, ← lO, pCut_all, pW_pW, pW_pW, pW_pW, pW_pW, pW_pW, eGap, ← hbn, ← hen]
              unfold pClash
              rw [if_neg hs0]
              simp only [List.append_assoc]
          have e1 := L1.1
          obtain ⟨zO, zA, zB, jO, jA, jB⟩ := hp.w W1 ho ha hb
          have qA1 : σ1.1 35 = some (.inr (.inr (5, [.inr (some a), .inl (nI fa), .inl (nI wa)]))) := zA
          have qB1 : σ1.1 36 = some (.inr (.inr (5, [.inr (some b), .inl (nI fb), .inl (nI wb)]))) := zB
          repeat (first | refine gp rfl rfl rfl ?_ | refine ggf rfl (by assumption) (by rfl) ?_ | refine gal rfl (by assumption) (by rfl) (by omega) (by omega) ?_ | refine gil rfl (by assumption) (by rfl) (by omega) (by omega) ?_ | refine gbl rfl (by assumption) (by rfl) (by omega) (by omega) ?_ | refine gln rfl (xlen_i (by assumption)) ?_ | refine gln rfl (xlen_q (by assumption)) ?_)
          by_cases hs2 : st = 2
          · refine gcf rfl (fun z => z (show nI st = nI 2 by rw [hs2])) ?_
            repeat (first | refine gp rfl rfl rfl ?_ | refine ggf rfl (by assumption) (by rfl) ?_ | refine gal rfl (by assumption) (by rfl) (by omega) (by omega) ?_ | refine gil rfl (by assumption) (by rfl) (by omega) (by omega) ?_ | refine gbl rfl (by assumption) (by rfl) (by omega) (by omega) ?_ | refine gln rfl (xlen_i (by assumption)) ?_ | refine gln rfl (xlen_q (by assumption)) ?_)
            refine giff rfl (fun h => absurd (show (1 : Int32) = 0 from h) (by decide)) ?_
            repeat (first | refine gp rfl rfl rfl ?_ | refine ggf rfl (by assumption) (by rfl) ?_ | refine gal rfl (by assumption) (by rfl) (by omega) (by omega) ?_ | refine gil rfl (by assumption) (by rfl) (by omega) (by omega) ?_ | refine gbl rfl (by assumption) (by rfl) (by omega) (by omega) ?_ | refine gln rfl (xlen_i (by assumption)) ?_ | refine gln rfl (xlen_q (by assumption)) ?_)
            refine gcv (As := [.inr (some 36)]) (rest := []) rfl (by decide) (m_commonBeginning d zA zB jA jB ka kb sa sb) qA1 rfl rfl (by decide) ?_
            have eH : pRun (fun j => decide (la.getD (fa + j) 0 = lb.getD (fb + j) 0)) (min wa wb) = pHead A B := by
              unfold pHead
              rw [lA, lB]
              refine pRun_congr (fun j hj => ?_)
              rw [← hA, ← hB, pSub_get (by omega), pSub_get (by omega)]
            rw [eH]
            have hH : pHead A B ≤ min wa wb := by rw [← lA, ← lB]; exact pRun_le _ _
            repeat (first | refine gp rfl rfl rfl ?_ | refine ggf rfl (by assumption) (by rfl) ?_ | refine gal rfl (by assumption) (by rfl) (by omega) (by omega) ?_ | refine gil rfl (by assumption) (by rfl) (by omega) (by omega) ?_ | refine gbl rfl (by assumption) (by rfl) (by omega) (by omega) ?_ | refine gln rfl (xlen_i (by assumption)) ?_ | refine gln rfl (xlen_q (by assumption)) ?_)
            refine giff rfl (fun h => absurd (show (1 : Int32) = 0 from h) (by decide)) ?_
            repeat (first | refine gp rfl rfl rfl ?_ | refine ggf rfl (by assumption) (by rfl) ?_ | refine gal rfl (by assumption) (by rfl) (by omega) (by omega) ?_ | refine gil rfl (by assumption) (by rfl) (by omega) (by omega) ?_ | refine gbl rfl (by assumption) (by rfl) (by omega) (by omega) ?_ | refine gln rfl (xlen_i (by assumption)) ?_ | refine gln rfl (xlen_q (by assumption)) ?_)
            have eB : pBn st A B = pHead A B := by unfold pBn; rw [if_pos hs2]
            have eE : pEn st A B = pTail A B (pHead A B) := by unfold pEn; rw [if_pos hs2]
            by_cases hz : 0 < wa ∧ 0 < wb
            · refine gcv (As := [.inr (some 36), .inl (nI (pHead A B))]) (rest := []) rfl (by decide) (m_commonEnd d zA zB jA jB ka kb sa sb hH (by omega) (by omega)) qA1 rfl rfl (by decide) ?_
              have eT : pRun (fun j => decide (la.getD (fa + wa - 1 - j) 0 = lb.getD (fb + wb - 1 - j) 0)) (min wa wb - pHead A B) = pTail A B (pHead A B) := by
                unfold pTail
                rw [lA, lB]
                refine pRun_congr (fun j hj => ?_)
                rw [← hA, ← hB, pSub_get (by omega), pSub_get (by omega), show fa + (wa - 1 - j) = fa + wa - 1 - j by omega, show fb + (wb - 1 - j) = fb + wb - 1 - j by omega]
              rw [eT]
              repeat (first | refine gp rfl rfl rfl ?_ | refine ggf rfl (by assumption) (by rfl) ?_ | refine gal rfl (by assumption) (by rfl) (by omega) (by omega) ?_ | refine gil rfl (by assumption) (by rfl) (by omega) (by omega) ?_ | refine gbl rfl (by assumption) (by rfl) (by omega) (by omega) ?_ | refine gln rfl (xlen_i (by assumption)) ?_ | refine gln rfl (xlen_q (by assumption)) ?_)
              exact tail 1 _ _ eB.symm eE.symm
            · have hm0 : min wa wb = 0 := by omega
              refine gcv (As := [.inr (some 36), .inl (nI (pHead A B))]) (rest := []) rfl (by decide) (m_commonEnd0 d zA zB (by omega) (by omega) (by omega)) qA1 rfl rfl (by decide) ?_
              have eT : pTail A B (pHead A B) = 0 := by
                have := pRun_le (fun j => decide (A.getD (A.length - 1 - j) 0 = B.getD (B.length - 1 - j) 0)) (min A.length B.length - pHead A B)
                unfold pTail
                omega
              repeat (first | refine gp rfl rfl rfl ?_ | refine ggf rfl (by assumption) (by rfl) ?_ | refine gal rfl (by assumption) (by rfl) (by omega) (by omega) ?_ | refine gil rfl (by assumption) (by rfl) (by omega) (by omega) ?_ | refine gbl rfl (by assumption) (by rfl) (by omega) (by omega) ?_ | refine gln rfl (xlen_i (by assumption)) ?_ | refine gln rfl (xlen_q (by assumption)) ?_)
              exact tail 1 0 _ eB.symm (by rw [eE, eT])
          · refine gct rfl (fun z => hs2 ((nI_eq (by omega) (by omega)).mp (show nI st = nI 2 from z))) ?_
            repeat (first | refine gp rfl rfl rfl ?_ | refine ggf rfl (by assumption) (by rfl) ?_ | refine gal rfl (by assumption) (by rfl) (by omega) (by omega) ?_ | refine gil rfl (by assumption) (by rfl) (by omega) (by omega) ?_ | refine gbl rfl (by assumption) (by rfl) (by omega) (by omega) ?_ | refine gln rfl (xlen_i (by assumption)) ?_ | refine gln rfl (xlen_q (by assumption)) ?_)
            refine git rfl (show (0 : Int32) = 0 from rfl) ?_
            repeat (first | refine gp rfl rfl rfl ?_ | refine ggf rfl (by assumption) (by rfl) ?_ | refine gal rfl (by assumption) (by rfl) (by omega) (by omega) ?_ | refine gil rfl (by assumption) (by rfl) (by omega) (by omega) ?_ | refine gbl rfl (by assumption) (by rfl) (by omega) (by omega) ?_ | refine gln rfl (xlen_i (by assumption)) ?_ | refine gln rfl (xlen_q (by assumption)) ?_)
            refine git rfl (show (0 : Int32) = 0 from rfl) ?_
            repeat (first | refine gp rfl rfl rfl ?_ | refine ggf rfl (by assumption) (by rfl) ?_ | refine gal rfl (by assumption) (by rfl) (by omega) (by omega) ?_ | refine gil rfl (by assumption) (by rfl) (by omega) (by omega) ?_ | refine gbl rfl (by assumption) (by rfl) (by omega) (by omega) ?_ | refine gln rfl (xlen_i (by assumption)) ?_ | refine gln rfl (xlen_q (by assumption)) ?_)
            exact tail 0 0 0 (by unfold pBn; rw [if_neg hs2]) (by unfold pEn; rw [if_neg hs2])
  obtain ⟨r, σ', hex, rfl, g1, g2⟩ := ex_of (d := d + 1) (y := 47) (as := [.inr (some 21), .inl (nI st)]) (σ := σ) (K := K) (by decide) rfl main
  exact ⟨σ', hex, g1, g2⟩
end
section
/-! PURE: the longest common subsequence, the first of the longest matchings, and the search over masks -/
/-- what is behind the first c -/
def pAft (c : Int32) : List Int32 → Option (List Int32)
  | [] => none
  | y :: x => if y = c then some x else pAft c x
/-- how many of o, in order, can be had in x -/
def pL : List Int32 → List Int32 → Nat
  | [], _ => 0
  | c :: o, x => max (pL o x) (match pAft c x with
    | some r => pL o r + 1
    | none => 0)
theorem pL_aft_le {o : List Int32} (hM : ∀ x y, pL o x ≤ pL o (y :: x)) {c : Int32} : ∀ {x r : List Int32}, pAft c x = some r → pL o r ≤ pL o x
  | [], r, h => by cases h
  | y :: x, r, h => by
    unfold pAft at h
    split at h
    · cases h
      exact hM _ _
    · exact Nat.le_trans (pL_aft_le hM h) (hM _ _)
theorem pL_mono : ∀ (o x : List Int32) (y : Int32), pL o x ≤ pL o (y :: x)
  | [], x, y => Nat.le_refl _
  | c :: o, x, y => by
    have ih := pL_mono o
    have h1 := ih x y
    unfold pL
    by_cases hy : y = c
    · have e : pAft c (y :: x) = some x := by unfold pAft; rw [if_pos hy]
      rw [e]
      cases hr : pAft c x with
      | none => simp only; omega
      | some r =>
        have := pL_aft_le (o := o) (fun x y => ih x y) hr
        simp only; omega
    · have e : pAft c (y :: x) = pAft c x := by rw [pAft, if_neg hy]
      rw [e]
      cases hr : pAft c x with
      | none => simp only; omega
      | some r => simp only; omega
theorem pL_lip : ∀ (o x : List Int32) (y : Int32), pL o (y :: x) ≤ pL o x + 1
  | [], x, y => by simp [pL]
  | c :: o, x, y => by
    have h1 := pL_lip o x y
    unfold pL
    by_cases hy : y = c
    · have e : pAft c (y :: x) = some x := by unfold pAft; rw [if_pos hy]
      rw [e]
      cases hr : pAft c x with
      | none => simp only; omega
      | some r => simp only; omega
    · have e : pAft c (y :: x) = pAft c x := by rw [pAft, if_neg hy]
      rw [e]
      cases hr : pAft c x with
      | none => simp only; omega
      | some r => simp only; omega
theorem pL_nil2 : ∀ o : List Int32, pL o [] = 0
  | [] => rfl
  | c :: o => by simp [pL, pAft, pL_nil2 o]
/-- the table's rule -/
theorem pL_rule (c y : Int32) (o x : List Int32) : pL (c :: o) (y :: x) = if c = y then pL o x + 1 else max (pL o (y :: x)) (pL (c :: o) x) := by
  by_cases h : c = y
  · subst h
    rw [if_pos rfl]
    have e : pAft c (c :: x) = some x := by unfold pAft; rw [if_pos rfl]
    rw [pL, e]
    have := pL_lip o x c
    simp only
    omega
  · rw [if_neg h]
    have e : pAft c (y :: x) = pAft c x := by rw [pAft, if_neg (fun z => h z.symm)]
    rw [pL, e, pL]
    have := pL_mono o x y
    cases hr : pAft c x with
    | none => simp only; omega
    | some r => simp only; omega
/-- which of o are taken: the first that still leaves the most -/
def pG : List Int32 → List Int32 → List Bool
  | [], _ => []
  | c :: o, x => match pAft c x with
    | some r => if pL o r + 1 = pL (c :: o) x then true :: pG o r else false :: pG o x
    | none => false :: pG o x
def pFit : List Int32 → List Bool → List Int32 → Bool
  | [], _, _ => true
  | _ :: _, [], _ => true
  | c :: o, true :: bs, x => match pAft c x with
    | some r => pFit o bs r
    | none => false
  | _ :: o, false :: bs, x => pFit o bs x
def pOnes (bs : List Bool) : Nat := bs.count true
theorem pL_skip {c : Int32} {o x : List Int32} (h : ∀ r, pAft c x = some r → ¬ pL o r + 1 = pL (c :: o) x) : pL (c :: o) x = pL o x := by
  have e : pL (c :: o) x = max (pL o x) (match pAft c x with
    | some r => pL o r + 1
    | none => 0) := rfl
  cases hr : pAft c x with
  | none => rw [e, hr]; simp
  | some r =>
    have h2 := h r hr
    rw [hr] at e
    simp only at e
    omega
theorem pG_len : ∀ o x, (pG o x).length = o.length
  | [], x => rfl
  | c :: o, x => by
    unfold pG
    split
    · split <;> simp [pG_len o]
    · simp [pG_len o]
theorem pG_fit : ∀ o x, pFit o (pG o x) x = true
  | [], x => rfl
  | c :: o, x => by
    unfold pG
    split
    · rename_i r hr
      split
      · simp [pFit, hr, pG_fit o r]
      · simp [pFit, pG_fit o x]
    · simp [pFit, pG_fit o x]
theorem pG_ones : ∀ o x, pOnes (pG o x) = pL o x
  | [], x => rfl
  | c :: o, x => by
    have h0 : ∀ bs, pOnes (false :: bs) = pOnes bs := fun bs => by simp [pOnes]
    have h1 : ∀ bs, pOnes (true :: bs) = pOnes bs + 1 := fun bs => by simp [pOnes]
    unfold pG
    cases hr : pAft c x with
    | none =>
      simp only
      rw [h0, pG_ones o x]
      exact (pL_skip (fun r h => by rw [hr] at h; cases h)).symm
    | some r =>
      simp only
      split
      · rename_i h
        rw [h1, pG_ones o r, h]
      · rename_i h
        rw [h0, pG_ones o x]
        exact (pL_skip (fun r' h' => by rw [hr] at h'; cases h'; exact h)).symm
theorem pFit_ones : ∀ (o : List Int32) (bs : List Bool) (x : List Int32), bs.length = o.length → pFit o bs x = true → pOnes bs ≤ pL o x
  | [], [], x, _, _ => Nat.le_refl _
  | c :: o, b :: bs, x, hl, hf => by
    have hl' : bs.length = o.length := by simpa using hl
    have e : pL (c :: o) x = max (pL o x) (match pAft c x with
      | some r => pL o r + 1
      | none => 0) := rfl
    cases b with
    | false =>
      have := pFit_ones o bs x hl' hf
      rw [e, show pOnes (false :: bs) = pOnes bs by simp [pOnes]]
      omega
    | true =>
      rw [e, show pOnes (true :: bs) = pOnes bs + 1 by simp [pOnes]]
      cases hr : pAft c x with
      | none => simp [pFit, hr] at hf
      | some r =>
        have := pFit_ones o bs r hl' (by simpa [pFit, hr] using hf)
        simp only
        omega
/-- the number that a row of bits spells, the first bit the highest -/
def pVal : List Bool → Nat
  | [] => 0
  | b :: bs => (if b then 2 ^ bs.length else 0) + pVal bs
theorem pVal_lt : ∀ bs, pVal bs < 2 ^ bs.length
  | [] => by simp [pVal]
  | b :: bs => by
    have := pVal_lt bs
    cases b <;> simp [pVal, Nat.pow_succ] <;> omega
/-- none that takes as many spells a higher number -/
theorem pG_max : ∀ (o : List Int32) (bs : List Bool) (x : List Int32), bs.length = o.length → pFit o bs x = true → pOnes bs = pL o x → pVal bs ≤ pVal (pG o x)
  | [], [], x, _, _, _ => Nat.le_refl _
  | c :: o, b :: bs, x, hl, hf, ho => by
    have hl' : bs.length = o.length := by simpa using hl
    unfold pG
    cases b with
    | false =>
      have hob : pOnes bs = pL (c :: o) x := by rw [← ho]; simp [pOnes]
      have hle := pFit_ones o bs x hl' hf
      have hlt := pVal_lt bs
      cases hr : pAft c x with
      | none =>
        simp only
        have e : pL (c :: o) x = pL o x := pL_skip (fun r h => by rw [hr] at h; cases h)
        have := pG_max o bs x hl' hf (by omega)
        simp [pVal]
        exact this
      | some r =>
        simp only
        split
        · simp only [pVal, pG_len, if_true, Bool.false_eq_true, if_false]
          rw [hl'] at hlt
          omega
        · rename_i h
          have e : pL (c :: o) x = pL o x := pL_skip (fun r' h' => by rw [hr] at h'; cases h'; exact h)
          have := pG_max o bs x hl' hf (by omega)
          simp [pVal]
          exact this
    | true =>
      have hob : pOnes bs + 1 = pL (c :: o) x := by rw [← ho]; simp [pOnes]
      cases hr : pAft c x with
      | none => simp [pFit, hr] at hf
      | some r =>
        have hf' : pFit o bs r = true := by simpa [pFit, hr] using hf
        have hle := pFit_ones o bs r hl' hf'
        have e : pL (c :: o) x = max (pL o x) (pL o r + 1) := by
          show max (pL o x) _ = _
          rw [hr]
        have h1 : pL o r + 1 = pL (c :: o) x := by omega
        simp only
        rw [if_pos h1]
        have := pG_max o bs r hl' hf' (by omega)
        simp only [pVal, pG_len, hl', if_true]
        omega
end
section
/-! MODULE: the table of the longest matchings, and the first of them, the class -/
def dI : Nat → Int32
  | 0 => -1
  | k + 1 => nI k
theorem dI_dec (k : Nat) : nI k + xk 1 1 = dI k := by
  cases k with
  | zero => decide
  | succ k =>
    show nI (k + 1) + xk 1 1 = nI k
    rw [← nI_add, Int32.add_assoc, show nI 1 + xk 1 1 = 0 by decide, Int32.add_zero]
theorem dI_sub (k : Nat) : nI k - xk 1 0 = dI k := by
  cases k with
  | zero => decide
  | succ k => exact pk_sub (a := k + 1) (b := 1) (by omega)
/-- the nine rows -/
def hTb (σ : xS) (F : Nat → Nat → Int32) : Prop := σ.1 22 = some (.inr (.inl (2, 9, fun i => some (23 + i)))) ∧ ∀ i, i < 9 → σ.1 (23 + i) = some (.inl (0, 77, F i))
theorem hTb_up {σ : xS} {F : Nat → Nat → Int32} {i0 j0 : Nat} {v : Int32} (h : hTb σ F) : hTb (xup σ (23 + i0) (.inl (0, 77, upd (F i0) j0 v))) (fun i => if i = i0 then upd (F i0) j0 v else F i) := by
  refine ⟨by rw [xup_ne (by omega)]; exact h.1, fun i hi => ?_⟩
  by_cases hii : i = i0
  · subst hii
    rw [xup_eq]
    simp only [if_pos]
  · rw [xup_ne (by omega), h.2 i hi]
    simp only [if_neg hii]
theorem hInts.fr {lo hi : Nat} {σ σ' : xS} {b : Nat} {l : List Int32} (h : hInts σ b l) (hf : hFr lo hi σ σ') (hb : b < lo ∨ hi < b) : hInts σ' b l := by
  obtain ⟨f, h1, h2⟩ := h
  exact ⟨f, by rw [hf.2 b hb]; exact h1, h2⟩
def pCm (lo lx : List Int32) (i j : Nat) : Nat := pL (lo.drop i) (lx.drop j)
theorem drop_step {l : List Int32} {i : Nat} (h : i < l.length) : l.drop i = l.getD i 0 :: l.drop (i + 1) := by
  rw [List.drop_eq_getElem_cons h, List.getD_eq_getElem?_getD, List.getElem?_eq_getElem h]
  rfl
theorem pCm_top {lo lx : List Int32} {j : Nat} : pCm lo lx lo.length j = 0 := by unfold pCm; rw [List.drop_length]; rfl
theorem pCm_end {lo lx : List Int32} {i : Nat} : pCm lo lx i lx.length = 0 := by unfold pCm; rw [List.drop_length, pL_nil2]
theorem pCm_rule {lo lx : List Int32} {i j : Nat} (hi : i < lo.length) (hj : j < lx.length) : pCm lo lx i j = if lo.getD i 0 = lx.getD j 0 then pCm lo lx (i + 1) (j + 1) + 1 else max (pCm lo lx (i + 1) j) (pCm lo lx i (j + 1)) := by
  unfold pCm
  rw [drop_step hi, drop_step hj, pL_rule]
theorem pL_le : ∀ o x : List Int32, pL o x ≤ o.length
  | [], _ => Nat.le_refl _
  | c :: o, x => by
    have h1 := pL_le o
    show max (pL o x) _ ≤ o.length + 1
    have h2 := h1 x
    split
    · rename_i r _
      have := h1 r
      omega
    · omega
theorem pCm_le (lo lx : List Int32) (i j : Nat) : pCm lo lx i j ≤ lo.length := Nat.le_trans (pL_le _ _) (by rw [List.length_drop]; omega)
theorem m_countCommon (d : Nat) {σ : xS} {w : List Int32} {c : Bool} {o x : Nat} {lo lx : List Int32} {F : Nat → Nat → Int32} (h : hLM σ w c) (ht : hTb σ F) (hlo : hInts σ o lo) (hlx : hInts σ x lx) (ho : far o) (hx : far x) (so : lo.length ≤ 8) (sx : lx.length ≤ 76) :
    ∃ (σ' : xS) (F' : Nat → Nat → Int32), xEx (d + 1) 46 [.inr (some 21), .inr (some o), .inl (nI lo.length), .inr (some x), .inl (nI lx.length)] σ none σ' ∧ hTb σ' F' ∧ (∀ i j, i ≤ lo.length → j ≤ lx.length → F' i j = nI (pCm lo lx i j)) ∧ hFr 23 31 σ σ' := by
  obtain ⟨h1, -⟩ := h
  obtain ⟨fo, o1, o2⟩ := hlo
  obtain ⟨fx, x1, x2⟩ := hlx
  unfold far at ho hx
  let K : Option xV → xS → Prop := fun r0 σ0 => r0 = none ∧ ∃ F', hTb σ0 F' ∧ (∀ i j, i ≤ lo.length → j ≤ lx.length → F' i j = nI (pCm lo lx i j)) ∧ hFr 23 31 σ σ0
  have outer : ∀ k (σ1 : xS) (F1 : Nat → Nat → Int32) (y : Option xV), k ≤ lo.length → hTb σ1 F1 → hFr 23 31 σ σ1 → (∀ i j, k ≤ i → i ≤ lo.length → j ≤ lx.length → F1 i j = nI (pCm lo lx i j)) → xGo (xEx d) xtb_46 K (33, [some (.inr (some 21)), some (.inr (some o)), some (.inl (nI lo.length)), some (.inr (some x)), some (.inl (nI lx.length)), some (.inl (dI k)), y], [.inl (dI k)], σ1) := by
    intro k
    induction k with
    | zero =>
      intro σ1 F1 y hk ht1 hf hall
      refine git rfl (show dI 0 < 0 by decide) ?_
      exact grv rfl ⟨rfl, F1, ht1, fun i j hi hj => hall i j (by omega) hi hj, hf⟩
    | succ k ih =>
      intro σ1 F1 y hk ht1 hf hall
      have inner : ∀ q (σ2 : xS) (F2 : Nat → Nat → Int32), q ≤ lx.length → hTb σ2 F2 → hFr 23 31 σ σ2 → (∀ i j, k + 1 ≤ i → i ≤ lo.length → j ≤ lx.length → F2 i j = nI (pCm lo lx i j)) → (∀ j, q ≤ j → j ≤ lx.length → F2 k j = nI (pCm lo lx k j)) → xGo (xEx d) xtb_46 K (55, [some (.inr (some 21)), some (.inr (some o)), some (.inl (nI lo.length)), some (.inr (some x)), some (.inl (nI lx.length)), some (.inl (nI k)), some (.inl (dI q))], [.inl (dI q)], σ2) := by
        intro q
        induction q with
        | zero =>
          intro σ2 F2 hq ht2 hf2 hall2 hrow
          refine git rfl (show dI 0 < 0 by decide) ?_
          repeat (first | refine gp rfl rfl rfl ?_ | refine ggf rfl (by assumption) (by rfl) ?_ | refine gal rfl (by assumption) (by rfl) (by omega) (by omega) ?_ | refine gil rfl (by assumption) (by rfl) (by omega) (by omega) ?_ | refine gbl rfl (by assumption) (by rfl) (by omega) (by omega) ?_ | refine gln rfl (xlen_i (by assumption)) ?_ | refine gln rfl (xlen_q (by assumption)) ?_)
          rw [dI_dec]
          refine ih σ2 F2 _ (by omega) ht2 hf2 (fun i j h1 h2 h3 => ?_)
          by_cases hik : i = k
          · subst hik; exact hrow j (by omega) h3
          · exact hall2 i j (by omega) h2 h3
        | succ q ihq =>
          intro σ2 F2 hq ht2 hf2 hall2 hrow
          have e21 : σ2.1 21 = some (.inr (.inr (6, [.inr (some 22), .inr (some 32), .inr (some 33), .inr (some 34), .inr (some 35), .inr (some 36), .inr (some 37), .inl (nI w.length), .inl (bI c)]))) := by rw [hf2.2 21 (by omega)]; exact h1
          have e22 := ht2.1
          have eo : σ2.1 o = some (.inl (0, lo.length, fo)) := by rw [hf2.2 o (by omega)]; exact o1
          have ex : σ2.1 x = some (.inl (0, lx.length, fx)) := by rw [hf2.2 x (by omega)]; exact x1
          have rk := ht2.2 k (by omega)
          have rk1 := ht2.2 (k + 1) (by omega)
          refine giff rfl (show ¬ nI q < 0 from nI_pos (by omega)) ?_
          have next : ∀ v : Int32, v = nI (pCm lo lx k q) → xGo (xEx d) xtb_46 K (124, [some (.inr (some 21)), some (.inr (some o)), some (.inl (nI lo.length)), some (.inr (some x)), some (.inl (nI lx.length)), some (.inl (nI k)), some (.inl (nI q))], [.inl v, .inl (nI q), .inr (some (23 + k))], σ2) := by
            intro v hv
            refine gis rfl rk rfl (by omega) (by omega) (by omega) ?_
            repeat (first | refine gp rfl rfl rfl ?_ | refine ggf rfl (by assumption) (by rfl) ?_ | refine gal rfl (by assumption) (by rfl) (by omega) (by omega) ?_ | refine gil rfl (by assumption) (by rfl) (by omega) (by omega) ?_ | refine gbl rfl (by assumption) (by rfl) (by omega) (by omega) ?_ | refine gln rfl (xlen_i (by assumption)) ?_ | refine gln rfl (xlen_q (by assumption)) ?_)
            rw [dI_dec]
            refine ihq _ _ (by omega) (hTb_up (i0 := k) (j0 := q) (v := v) ht2) (hf2.trans (hFr.up (by omega) (by omega))) (fun i j h1 h2 h3 => ?_) (fun j h1 h2 => ?_)
            · rw [if_neg (by omega)]; exact hall2 i j h1 h2 h3
            · rw [if_pos rfl]
              by_cases hjq : j = q
              · subst hjq; simp only [upd, if_pos]; exact hv
              · simp only [upd, if_neg hjq]; exact hrow j (by omega) h2
          show xGo (xEx d) xtb_46 K (58, [some (.inr (some 21)), some (.inr (some o)), some (.inl (nI lo.length)), some (.inr (some x)), some (.inl (nI lx.length)), some (.inl (nI k)), some (.inl (nI q))], [], σ2)
          repeat (first | refine gp rfl rfl rfl ?_ | refine ggf rfl (by assumption) (by rfl) ?_ | refine gal rfl (by assumption) (by rfl) (by omega) (by omega) ?_ | refine gil rfl (by assumption) (by rfl) (by omega) (by omega) ?_ | refine gbl rfl (by assumption) (by rfl) (by omega) (by omega) ?_ | refine gln rfl (xlen_i (by assumption)) ?_ | refine gln rfl (xlen_q (by assumption)) ?_)
          rw [o2 k (by omega), x2 q (by omega)]
          refine gcp rfl (fun hne => ?_) (fun heq => ?_)
          · repeat (first | refine gp rfl rfl rfl ?_ | refine ggf rfl (by assumption) (by rfl) ?_ | refine gal rfl (by assumption) (by rfl) (by omega) (by omega) ?_ | refine gil rfl (by assumption) (by rfl) (by omega) (by omega) ?_ | refine gbl rfl (by assumption) (by rfl) (by omega) (by omega) ?_ | refine gln rfl (xlen_i (by assumption)) ?_ | refine gln rfl (xlen_q (by assumption)) ?_)
            rw [nI_s k]
            repeat (first | refine gp rfl rfl rfl ?_ | refine ggf rfl (by assumption) (by rfl) ?_ | refine gal rfl (by assumption) (by rfl) (by omega) (by omega) ?_ | refine gil rfl (by assumption) (by rfl) (by omega) (by omega) ?_ | refine gbl rfl (by assumption) (by rfl) (by omega) (by omega) ?_ | refine gln rfl (xlen_i (by assumption)) ?_ | refine gln rfl (xlen_q (by assumption)) ?_)
            rw [nI_s q]
            repeat (first | refine gp rfl rfl rfl ?_ | refine ggf rfl (by assumption) (by rfl) ?_ | refine gal rfl (by assumption) (by rfl) (by omega) (by omega) ?_ | refine gil rfl (by assumption) (by rfl) (by omega) (by omega) ?_ | refine gbl rfl (by assumption) (by rfl) (by omega) (by omega) ?_ | refine gln rfl (xlen_i (by assumption)) ?_ | refine gln rfl (xlen_q (by assumption)) ?_)
            refine gmx rfl (Nat.le_of_ble_eq_true rfl) ?_
            refine next _ ?_
            rw [hall2 (k + 1) q (by omega) (by omega) (by omega), hrow (q + 1) (by omega) (by omega), pCm_rule (i := k) (j := q) (by omega) (by omega), if_neg hne]
            have l1 := pCm_le lo lx (k + 1) q
            have l2 := pCm_le lo lx k (q + 1)
            exact mx_nI (by omega) (by omega)
          · have heq' : lo.getD k 0 = lx.getD q 0 := by
              by_cases hz : lo.getD k 0 = lx.getD q 0
              · exact hz
              · exact absurd hz heq
            repeat (first | refine gp rfl rfl rfl ?_ | refine ggf rfl (by assumption) (by rfl) ?_ | refine gal rfl (by assumption) (by rfl) (by omega) (by omega) ?_ | refine gil rfl (by assumption) (by rfl) (by omega) (by omega) ?_ | refine gbl rfl (by assumption) (by rfl) (by omega) (by omega) ?_ | refine gln rfl (xlen_i (by assumption)) ?_ | refine gln rfl (xlen_q (by assumption)) ?_)
            rw [nI_s k]
            repeat (first | refine gp rfl rfl rfl ?_ | refine ggf rfl (by assumption) (by rfl) ?_ | refine gal rfl (by assumption) (by rfl) (by omega) (by omega) ?_ | refine gil rfl (by assumption) (by rfl) (by omega) (by omega) ?_ | refine gbl rfl (by assumption) (by rfl) (by omega) (by omega) ?_ | refine gln rfl (xlen_i (by assumption)) ?_ | refine gln rfl (xlen_q (by assumption)) ?_)
            rw [nI_s q]
            repeat (first | refine gp rfl rfl rfl ?_ | refine ggf rfl (by assumption) (by rfl) ?_ | refine gal rfl (by assumption) (by rfl) (by omega) (by omega) ?_ | refine gil rfl (by assumption) (by rfl) (by omega) (by omega) ?_ | refine gbl rfl (by assumption) (by rfl) (by omega) (by omega) ?_ | refine gln rfl (xlen_i (by assumption)) ?_ | refine gln rfl (xlen_q (by assumption)) ?_)
            refine next _ ?_
            rw [hall2 (k + 1) (q + 1) (by omega) (by omega) (by omega), pCm_rule (i := k) (j := q) (by omega) (by omega), if_pos heq']
            exact nI_s _
      have e21 : σ1.1 21 = some (.inr (.inr (6, [.inr (some 22), .inr (some 32), .inr (some 33), .inr (some 34), .inr (some 35), .inr (some 36), .inr (some 37), .inl (nI w.length), .inl (bI c)]))) := by rw [hf.2 21 (by omega)]; exact h1
      have e22 := ht1.1
      have rk := ht1.2 k (by omega)
      refine giff rfl (show ¬ nI k < 0 from nI_pos (by omega)) ?_
      show xGo (xEx d) xtb_46 K (36, [some (.inr (some 21)), some (.inr (some o)), some (.inl (nI lo.length)), some (.inr (some x)), some (.inl (nI lx.length)), some (.inl (nI k)), y], [], σ1)
      repeat (first | refine gp rfl rfl rfl ?_ | refine ggf rfl (by assumption) (by rfl) ?_ | refine gal rfl (by assumption) (by rfl) (by omega) (by omega) ?_ | refine gil rfl (by assumption) (by rfl) (by omega) (by omega) ?_ | refine gbl rfl (by assumption) (by rfl) (by omega) (by omega) ?_ | refine gln rfl (xlen_i (by assumption)) ?_ | refine gln rfl (xlen_q (by assumption)) ?_)
      refine gis rfl rk rfl (by omega) (by omega) (by omega) ?_
      repeat (first | refine gp rfl rfl rfl ?_ | refine ggf rfl (by assumption) (by rfl) ?_ | refine gal rfl (by assumption) (by rfl) (by omega) (by omega) ?_ | refine gil rfl (by assumption) (by rfl) (by omega) (by omega) ?_ | refine gbl rfl (by assumption) (by rfl) (by omega) (by omega) ?_ | refine gln rfl (xlen_i (by assumption)) ?_ | refine gln rfl (xlen_q (by assumption)) ?_)
      rw [dI_sub]
      refine inner lx.length _ _ (Nat.le_refl _) (hTb_up (i0 := k) (j0 := lx.length) (v := nI 0) ht1) (hf.trans (hFr.up (by omega) (by omega))) (fun i j h1 h2 h3 => ?_) (fun j h1 h2 => ?_)
      · rw [if_neg (by omega)]; exact hall i j h1 h2 h3
      · obtain rfl : j = lx.length := by omega
        rw [if_pos rfl, pCm_end]
        simp only [upd, if_pos]
  have first : ∀ k i (σ1 : xS) (F1 : Nat → Nat → Int32), i + k = lx.length + 1 → hTb σ1 F1 → hFr 23 31 σ σ1 → (∀ j, j < i → F1 lo.length j = nI 0) → xGo (xEx d) xtb_46 K (7, [some (.inr (some 21)), some (.inr (some o)), some (.inl (nI lo.length)), some (.inr (some x)), some (.inl (nI lx.length)), some (.inl (nI i)), none], [.inl (nI lx.length), .inl (nI i)], σ1) := by
    intro k
    induction k with
    | zero =>
      intro i σ1 F1 hi ht1 hf hall
      refine gct rfl (show nI lx.length < nI i from nI_lt (by omega) (by omega)) ?_
      repeat (first | refine gp rfl rfl rfl ?_ | refine ggf rfl (by assumption) (by rfl) ?_ | refine gal rfl (by assumption) (by rfl) (by omega) (by omega) ?_ | refine gil rfl (by assumption) (by rfl) (by omega) (by omega) ?_ | refine gbl rfl (by assumption) (by rfl) (by omega) (by omega) ?_ | refine gln rfl (xlen_i (by assumption)) ?_ | refine gln rfl (xlen_q (by assumption)) ?_)
      rw [dI_sub]
      refine outer lo.length σ1 F1 _ (Nat.le_refl _) ht1 hf (fun i' j h1 h2 h3 => ?_)
      obtain rfl : i' = lo.length := by omega
      rw [pCm_top]
      exact hall j (by omega)
    | succ k ih =>
      intro i σ1 F1 hi ht1 hf hall
      have e21 : σ1.1 21 = some (.inr (.inr (6, [.inr (some 22), .inr (some 32), .inr (some 33), .inr (some 34), .inr (some 35), .inr (some 36), .inr (some 37), .inl (nI w.length), .inl (bI c)]))) := by rw [hf.2 21 (by omega)]; exact h1
      have e22 := ht1.1
      have rk := ht1.2 lo.length (by omega)
      refine gcf rfl (show ¬ nI lx.length < nI i from fun z => absurd ((nI_ltI (by omega) (by omega)).mp z) (by omega)) ?_
      repeat (first | refine gp rfl rfl rfl ?_ | refine ggf rfl (by assumption) (by rfl) ?_ | refine gal rfl (by assumption) (by rfl) (by omega) (by omega) ?_ | refine gil rfl (by assumption) (by rfl) (by omega) (by omega) ?_ | refine gbl rfl (by assumption) (by rfl) (by omega) (by omega) ?_ | refine gln rfl (xlen_i (by assumption)) ?_ | refine gln rfl (xlen_q (by assumption)) ?_)
      refine gis rfl rk rfl (by omega) (by omega) (by omega) ?_
      repeat (first | refine gp rfl rfl rfl ?_ | refine ggf rfl (by assumption) (by rfl) ?_ | refine gal rfl (by assumption) (by rfl) (by omega) (by omega) ?_ | refine gil rfl (by assumption) (by rfl) (by omega) (by omega) ?_ | refine gbl rfl (by assumption) (by rfl) (by omega) (by omega) ?_ | refine gln rfl (xlen_i (by assumption)) ?_ | refine gln rfl (xlen_q (by assumption)) ?_)
      rw [nI_s]
      refine ih (i + 1) _ _ (by omega) (hTb_up (i0 := lo.length) (j0 := i) (v := nI 0) ht1) (hf.trans (hFr.up (by omega) (by omega))) (fun j hj => ?_)
      rw [if_pos rfl]
      by_cases hji : j = i
      · subst hji; simp only [upd, if_pos]
      · simp only [upd, if_neg hji]; exact hall j (by omega)
  obtain ⟨r, σ', hex, rfl, F', g1, g2, g3⟩ := ex_of (d := d) (y := 46) (as := [.inr (some 21), .inr (some o), .inl (nI lo.length), .inr (some x), .inl (nI lx.length)]) (σ := σ) (K := K) (by decide) rfl (by
    show xGo (xEx d) xtb_46 K (0, [some (.inr (some 21)), some (.inr (some o)), some (.inl (nI lo.length)), some (.inr (some x)), some (.inl (nI lx.length)), none, none], [], σ)
    repeat (first | refine gp rfl rfl rfl ?_ | refine ggf rfl (by assumption) (by rfl) ?_ | refine gal rfl (by assumption) (by rfl) (by omega) (by omega) ?_ | refine gil rfl (by assumption) (by rfl) (by omega) (by omega) ?_ | refine gbl rfl (by assumption) (by rfl) (by omega) (by omega) ?_ | refine gln rfl (xlen_i (by assumption)) ?_ | refine gln rfl (xlen_q (by assumption)) ?_)
    exact first (lx.length + 1) 0 σ F (by omega) ht (hFr.refl _ _ _) (fun j hj => absurd hj (by omega)))
  exact ⟨σ', F', hex, g1, g2, g3⟩
end
section
/-! MODULE: the first of the longest matchings, the class -/
/-- for each line of o where in x it stands, s lines before; none if it is paired with none -/
def pMt : List Int32 → List Int32 → Nat → List (Option Nat)
  | [], _, _ => []
  | c :: o, x, s => match pAft c x with
    | some r => if pL o r + 1 = pL (c :: o) x then some (s + (x.length - r.length - 1)) :: pMt o r (s + (x.length - r.length)) else none :: pMt o x s
    | none => none :: pMt o x s
theorem pMt_len : ∀ (o x : List Int32) (s : Nat), (pMt o x s).length = o.length
  | [], _, _ => rfl
  | c :: o, x, s => by
    unfold pMt
    split
    · split <;> simp [pMt_len o]
    · simp [pMt_len o]
theorem pAft_hit {c : Int32} {l : List Int32} {j : Nat} (h : j < l.length) (e : l.getD j 0 = c) : pAft c (l.drop j) = some (l.drop (j + 1)) := by
  rw [drop_step h, pAft, if_pos e]
theorem pAft_pass {c : Int32} {l : List Int32} {j : Nat} (h : j < l.length) (e : ¬ l.getD j 0 = c) : pAft c (l.drop j) = pAft c (l.drop (j + 1)) := by
  rw [drop_step h, pAft, if_neg e]
theorem m_match (d : Nat) {σ : xS} {w : List Int32} {cl : Bool} {o x p : Nat} {lo lx : List Int32} {F : Nat → Nat → Int32} {fp : Nat → Int32} (h : hLM σ w cl) (ht : hTb σ F) (hlo : hInts σ o lo) (hlx : hInts σ x lx) (ho : far o) (hx : far x) (so : lo.length ≤ 8) (sx : lx.length ≤ 76) (hp : σ.1 p = some (.inl (0, 8, fp))) (hp2 : p = 32 ∨ p = 33) :
    ∃ (σ' : xS) (F' : Nat → Nat → Int32) (f' : Nat → Int32), xEx (d + 2) 45 [.inr (some 21), .inr (some o), .inr (some x), .inr (some p)] σ none σ' ∧ hTb σ' F' ∧ σ'.1 p = some (.inl (0, 8, f')) ∧ (∀ i, i < lo.length → f' i = oI ((pMt lo lx 0).getD i none)) ∧ σ'.2 = σ.2 ∧ (∀ k, k ≠ p → (k < 23 ∨ 31 < k) → σ'.1 k = σ.1 k) := by
  obtain ⟨σ1, F1, ex1, t1, tb, fr⟩ := m_countCommon d h ht hlo hlx ho hx so sx
  obtain ⟨h1, -⟩ := h
  obtain ⟨fo, o1, o2⟩ := hlo
  obtain ⟨fx, x1, x2⟩ := hlx
  unfold far at ho hx
  let K : Option xV → xS → Prop := fun r0 σ0 => r0 = none ∧ ∃ f', σ0 = xup σ1 p (.inl (0, 8, f')) ∧ (∀ i, i < lo.length → f' i = oI ((pMt lo lx 0).getD i none))
  have tbu : ∀ f : Nat → Int32, hTb (xup σ1 p (.inl (0, 8, f))) F1 := fun f => ⟨by rw [xup_ne (by omega)]; exact t1.1, fun i hi => by rw [xup_ne (by omega)]; exact t1.2 i hi⟩
  have c21 : σ1.1 21 = some (.inr (.inr (6, [.inr (some 22), .inr (some 32), .inr (some 33), .inr (some 34), .inr (some 35), .inr (some 36), .inr (some 37), .inl (nI w.length), .inl (bI cl)]))) := by rw [fr.2 21 (by omega)]; exact h1
  have co : σ1.1 o = some (.inl (0, lo.length, fo)) := by rw [fr.2 o (by omega)]; exact o1
  have cx : σ1.1 x = some (.inl (0, lx.length, fx)) := by rw [fr.2 x (by omega)]; exact x1
  have cp : σ1.1 p = some (.inl (0, 8, fp)) := by rw [fr.2 p (by omega)]; exact hp
  have loop : ∀ k i nx (f : Nat → Int32) (y : Option xV), i + k = lo.length → nx ≤ lx.length → (∀ i', i' < i → f i' = oI ((pMt lo lx 0).getD i' none)) → (∀ i', (pMt lo lx 0).getD (i + i') none = (pMt (lo.drop i) (lx.drop nx) nx).getD i' none) → xGo (xEx (d + 1)) xtb_45 K (48, [some (.inr (some 21)), some (.inr (some o)), some (.inr (some x)), some (.inr (some p)), some (.inl (nI lo.length)), some (.inl (nI lx.length)), some (.inl (nI nx)), some (.inl (nI (pCm lo lx i nx))), some (.inl (nI i)), y], [.inl (nI lo.length), .inl (nI i)], xup σ1 p (.inl (0, 8, f))) := by
    intro k
    induction k with
    | zero =>
      intro i nx f y hi hn hall hrest
      obtain rfl : i = lo.length := by omega
      refine gct rfl (show nI _ ≤ nI _ from nI_le (by omega) (by omega)) ?_
      exact grv rfl ⟨rfl, f, rfl, hall⟩
    | succ k ih =>
      intro i nx f y hi hn hall hrest
      have e21 : (xup σ1 p (.inl (0, 8, f))).1 21 = some (.inr (.inr (6, [.inr (some 22), .inr (some 32), .inr (some 33), .inr (some 34), .inr (some 35), .inr (some 36), .inr (some 37), .inl (nI w.length), .inl (bI cl)]))) := by rw [xup_ne (by omega)]; exact c21
      have e22 := (tbu f).1
      have eo : (xup σ1 p (.inl (0, 8, f))).1 o = some (.inl (0, lo.length, fo)) := by rw [xup_ne (by omega)]; exact co
      have ex : (xup σ1 p (.inl (0, 8, f))).1 x = some (.inl (0, lx.length, fx)) := by rw [xup_ne (by omega)]; exact cx
      have ri := (tbu f).2 (i + 1) (by omega)
      have hdo := drop_step (l := lo) (i := i) (by omega)
      refine gcf rfl (nI_ge (by omega) (by omega)) ?_
      have skip : ∀ j : Nat, (∀ r, pAft (lo.getD i 0) (lx.drop nx) = some r → ¬ pL (lo.drop (i + 1)) r + 1 = pL (lo.getD i 0 :: lo.drop (i + 1)) (lx.drop nx)) → xGo (xEx (d + 1)) xtb_45 K (125, [some (.inr (some 21)), some (.inr (some o)), some (.inr (some x)), some (.inr (some p)), some (.inl (nI lo.length)), some (.inl (nI lx.length)), some (.inl (nI nx)), some (.inl (nI (pCm lo lx i nx))), some (.inl (nI i)), some (.inl (nI j))], [], xup σ1 p (.inl (0, 8, f))) := by
        intro j hno
        repeat (first | refine gp rfl rfl rfl ?_ | refine ggf rfl (by assumption) (by rfl) ?_ | refine gal rfl (by assumption) (by rfl) (by omega) (by omega) ?_ | refine gil rfl (by assumption) (by rfl) (by omega) (by omega) ?_ | refine gbl rfl (by assumption) (by rfl) (by omega) (by omega) ?_ | refine gln rfl (xlen_i (by assumption)) ?_ | refine gln rfl (xlen_q (by assumption)) ?_)
        refine gis rfl (xup_eq _ _ _) rfl (by omega) (by omega) (by omega) ?_
        rw [xup_up, xk_m1]
        have em : pMt (lo.getD i 0 :: lo.drop (i + 1)) (lx.drop nx) nx = none :: pMt (lo.drop (i + 1)) (lx.drop nx) nx := by
          rw [pMt]
          split
          · rename_i r hr
            rw [if_neg (hno r hr)]
          · rfl
        have ec : pCm lo lx i nx = pCm lo lx (i + 1) nx := by
          unfold pCm
          rw [hdo]
          exact pL_skip hno
        rw [hdo, em] at hrest
        rw [ec]
        repeat (first | refine gp rfl rfl rfl ?_ | refine ggf rfl (by assumption) (by rfl) ?_ | refine gal rfl (by assumption) (by rfl) (by omega) (by omega) ?_ | refine gil rfl (by assumption) (by rfl) (by omega) (by omega) ?_ | refine gbl rfl (by assumption) (by rfl) (by omega) (by omega) ?_ | refine gln rfl (xlen_i (by assumption)) ?_ | refine gln rfl (xlen_q (by assumption)) ?_)
        rw [nI_s]
        refine ih (i + 1) nx _ _ (by omega) hn (fun i' hi' => ?_) (fun i' => ?_)
        · by_cases hii : i' = i
          · subst hii
            have := hrest 0
            rw [Nat.add_zero] at this
            rw [this]
            simp [upd, oI]
          · simp only [upd, if_neg hii]; exact hall i' (by omega)
        · have := hrest (i' + 1)
          rw [show i + 1 + i' = i + (i' + 1) by omega, this]
          simp
      have inner : ∀ k2 j, j + k2 = lx.length → nx ≤ j → pAft (lo.getD i 0) (lx.drop nx) = pAft (lo.getD i 0) (lx.drop j) → xGo (xEx (d + 1)) xtb_45 K (59, [some (.inr (some 21)), some (.inr (some o)), some (.inr (some x)), some (.inr (some p)), some (.inl (nI lo.length)), some (.inl (nI lx.length)), some (.inl (nI nx)), some (.inl (nI (pCm lo lx i nx))), some (.inl (nI i)), some (.inl (nI j))], [.inl (nI lx.length), .inl (nI j)], xup σ1 p (.inl (0, 8, f))) := by
        intro k2
        induction k2 with
        | zero =>
          intro j hj hnj haft
          obtain rfl : j = lx.length := by omega
          refine gct rfl (show nI _ ≤ nI _ from nI_le (by omega) (by omega)) ?_
          repeat (first | refine gp rfl rfl rfl ?_ | refine ggf rfl (by assumption) (by rfl) ?_ | refine gal rfl (by assumption) (by rfl) (by omega) (by omega) ?_ | refine gil rfl (by assumption) (by rfl) (by omega) (by omega) ?_ | refine gbl rfl (by assumption) (by rfl) (by omega) (by omega) ?_ | refine gln rfl (xlen_i (by assumption)) ?_ | refine gln rfl (xlen_q (by assumption)) ?_)
          refine gct rfl (show nI _ ≤ nI _ from nI_le (by omega) (by omega)) ?_
          refine skip _ (fun r hr => ?_)
          rw [haft, List.drop_length] at hr
          cases hr
        | succ k2 ih2 =>
          intro j hj hnj haft
          refine gcf rfl (nI_ge (by omega) (by omega)) ?_
          repeat (first | refine gp rfl rfl rfl ?_ | refine ggf rfl (by assumption) (by rfl) ?_ | refine gal rfl (by assumption) (by rfl) (by omega) (by omega) ?_ | refine gil rfl (by assumption) (by rfl) (by omega) (by omega) ?_ | refine gbl rfl (by assumption) (by rfl) (by omega) (by omega) ?_ | refine gln rfl (xlen_i (by assumption)) ?_ | refine gln rfl (xlen_q (by assumption)) ?_)
          rw [o2 i (by omega), x2 j (by omega)]
          refine gcp rfl (fun heq => ?_) (fun hne => ?_)
          · have heq : lx.getD j 0 = lo.getD i 0 := heq
            rw [pAft_hit (by omega) heq] at haft
            repeat (first | refine gp rfl rfl rfl ?_ | refine ggf rfl (by assumption) (by rfl) ?_ | refine gal rfl (by assumption) (by rfl) (by omega) (by omega) ?_ | refine gil rfl (by assumption) (by rfl) (by omega) (by omega) ?_ | refine gbl rfl (by assumption) (by rfl) (by omega) (by omega) ?_ | refine gln rfl (xlen_i (by assumption)) ?_ | refine gln rfl (xlen_q (by assumption)) ?_)
            refine gcf rfl (nI_ge (by omega) (by omega)) ?_
            repeat (first | refine gp rfl rfl rfl ?_ | refine ggf rfl (by assumption) (by rfl) ?_ | refine gal rfl (by assumption) (by rfl) (by omega) (by omega) ?_ | refine gil rfl (by assumption) (by rfl) (by omega) (by omega) ?_ | refine gbl rfl (by assumption) (by rfl) (by omega) (by omega) ?_ | refine gln rfl (xlen_i (by assumption)) ?_ | refine gln rfl (xlen_q (by assumption)) ?_)
            rw [nI_s i]
            repeat (first | refine gp rfl rfl rfl ?_ | refine ggf rfl (by assumption) (by rfl) ?_ | refine gal rfl (by assumption) (by rfl) (by omega) (by omega) ?_ | refine gil rfl (by assumption) (by rfl) (by omega) (by omega) ?_ | refine gbl rfl (by assumption) (by rfl) (by omega) (by omega) ?_ | refine gln rfl (xlen_i (by assumption)) ?_ | refine gln rfl (xlen_q (by assumption)) ?_)
            rw [nI_s j]
            repeat (first | refine gp rfl rfl rfl ?_ | refine ggf rfl (by assumption) (by rfl) ?_ | refine gal rfl (by assumption) (by rfl) (by omega) (by omega) ?_ | refine gil rfl (by assumption) (by rfl) (by omega) (by omega) ?_ | refine gbl rfl (by assumption) (by rfl) (by omega) (by omega) ?_ | refine gln rfl (xlen_i (by assumption)) ?_ | refine gln rfl (xlen_q (by assumption)) ?_)
            rw [tb (i + 1) (j + 1) (by omega) (by omega), nI_s]
            have lc := pCm_le lo lx (i + 1) (j + 1)
            have lc2 := pCm_le lo lx i nx
            by_cases hq : pCm lo lx (i + 1) (j + 1) + 1 = pCm lo lx i nx
            · refine gcf rfl (fun z => z (show nI _ = nI _ by rw [hq])) ?_
              repeat (first | refine gp rfl rfl rfl ?_ | refine ggf rfl (by assumption) (by rfl) ?_ | refine gal rfl (by assumption) (by rfl) (by omega) (by omega) ?_ | refine gil rfl (by assumption) (by rfl) (by omega) (by omega) ?_ | refine gbl rfl (by assumption) (by rfl) (by omega) (by omega) ?_ | refine gln rfl (xlen_i (by assumption)) ?_ | refine gln rfl (xlen_q (by assumption)) ?_)
              refine gis rfl (xup_eq _ _ _) rfl (by omega) (by omega) (by omega) ?_
              rw [xup_up]
              repeat (first | refine gp rfl rfl rfl ?_ | refine ggf rfl (by assumption) (by rfl) ?_ | refine gal rfl (by assumption) (by rfl) (by omega) (by omega) ?_ | refine gil rfl (by assumption) (by rfl) (by omega) (by omega) ?_ | refine gbl rfl (by assumption) (by rfl) (by omega) (by omega) ?_ | refine gln rfl (xlen_i (by assumption)) ?_ | refine gln rfl (xlen_q (by assumption)) ?_)
              rw [nI_s j, nI_s i, ← hq, dI_dec]
              have em : pMt (lo.getD i 0 :: lo.drop (i + 1)) (lx.drop nx) nx = some j :: pMt (lo.drop (i + 1)) (lx.drop (j + 1)) (j + 1) := by
                rw [pMt, haft]
                have hq' : pL (lo.drop (i + 1)) (lx.drop (j + 1)) + 1 = pL (lo.getD i 0 :: lo.drop (i + 1)) (lx.drop nx) := by rw [← hdo]; exact hq
                simp only
                rw [if_pos hq', List.length_drop, List.length_drop, show nx + (lx.length - nx - (lx.length - (j + 1)) - 1) = j by omega, show nx + (lx.length - nx - (lx.length - (j + 1))) = j + 1 by omega]
              rw [hdo, em] at hrest
              refine ih (i + 1) (j + 1) _ _ (by omega) (by omega) (fun i' hi' => ?_) (fun i' => ?_)
              · by_cases hii : i' = i
                · subst hii
                  have := hrest 0
                  rw [Nat.add_zero] at this
                  rw [this]
                  simp [upd, oI]
                · simp only [upd, if_neg hii]; exact hall i' (by omega)
              · have := hrest (i' + 1)
                rw [show i + 1 + i' = i + (i' + 1) by omega, this]
                simp
            · refine gct rfl (fun z => hq ((nI_eq (by omega) (by omega)).mp z)) ?_
              refine skip _ (fun r hr => ?_)
              rw [haft] at hr
              cases hr
              rw [← hdo]
              exact hq
          · have hne' : ¬ lx.getD j 0 = lo.getD i 0 := hne
            repeat (first | refine gp rfl rfl rfl ?_ | refine ggf rfl (by assumption) (by rfl) ?_ | refine gal rfl (by assumption) (by rfl) (by omega) (by omega) ?_ | refine gil rfl (by assumption) (by rfl) (by omega) (by omega) ?_ | refine gbl rfl (by assumption) (by rfl) (by omega) (by omega) ?_ | refine gln rfl (xlen_i (by assumption)) ?_ | refine gln rfl (xlen_q (by assumption)) ?_)
            rw [nI_s]
            exact ih2 (j + 1) (by omega) (by omega) (by rw [haft, pAft_pass (by omega) hne'])
      repeat (first | refine gp rfl rfl rfl ?_ | refine ggf rfl (by assumption) (by rfl) ?_ | refine gal rfl (by assumption) (by rfl) (by omega) (by omega) ?_ | refine gil rfl (by assumption) (by rfl) (by omega) (by omega) ?_ | refine gbl rfl (by assumption) (by rfl) (by omega) (by omega) ?_ | refine gln rfl (xlen_i (by assumption)) ?_ | refine gln rfl (xlen_q (by assumption)) ?_)
      exact inner (lx.length - nx) nx (by omega) (Nat.le_refl _) rfl
  obtain ⟨r, σ', hex, rfl, f', rfl, g2⟩ := ex_of (d := d + 1) (y := 45) (as := [.inr (some 21), .inr (some o), .inr (some x), .inr (some p)]) (σ := σ) (K := K) (by decide) rfl (by
    show xGo (xEx (d + 1)) xtb_45 K (0, [some (.inr (some 21)), some (.inr (some o)), some (.inr (some x)), some (.inr (some p)), none, none, none, none, none, none], [], σ)
    repeat (first | refine gp rfl rfl rfl ?_ | refine ggf rfl (by assumption) (by rfl) ?_ | refine gal rfl (by assumption) (by rfl) (by omega) (by omega) ?_ | refine gil rfl (by assumption) (by rfl) (by omega) (by omega) ?_ | refine gbl rfl (by assumption) (by rfl) (by omega) (by omega) ?_ | refine gln rfl (xlen_i (by assumption)) ?_ | refine gln rfl (xlen_q (by assumption)) ?_)
    refine gmn rfl (by decide) ?_
    rw [show (if xk 8 0 < nI lo.length then xk 8 0 else nI lo.length) = nI lo.length from (mn_nI (a := lo.length) (b := 8) (by omega) (by decide)).trans (by rw [Nat.min_eq_left so])]
    repeat (first | refine gp rfl rfl rfl ?_ | refine ggf rfl (by assumption) (by rfl) ?_ | refine gal rfl (by assumption) (by rfl) (by omega) (by omega) ?_ | refine gil rfl (by assumption) (by rfl) (by omega) (by omega) ?_ | refine gbl rfl (by assumption) (by rfl) (by omega) (by omega) ?_ | refine gln rfl (xlen_i (by assumption)) ?_ | refine gln rfl (xlen_q (by assumption)) ?_)
    refine gmn rfl (by decide) ?_
    rw [show (if xk 76 0 < nI lx.length then xk 76 0 else nI lx.length) = nI lx.length from (mn_nI (a := lx.length) (b := 76) (by omega) (by decide)).trans (by rw [Nat.min_eq_left sx])]
    repeat (first | refine gp rfl rfl rfl ?_ | refine ggf rfl (by assumption) (by rfl) ?_ | refine gal rfl (by assumption) (by rfl) (by omega) (by omega) ?_ | refine gil rfl (by assumption) (by rfl) (by omega) (by omega) ?_ | refine gbl rfl (by assumption) (by rfl) (by omega) (by omega) ?_ | refine gln rfl (xlen_i (by assumption)) ?_ | refine gln rfl (xlen_q (by assumption)) ?_)
    refine gcv (As := [.inr (some o), .inl (nI lo.length), .inr (some x), .inl (nI lx.length)]) (rest := []) rfl (by decide) ex1 h1 rfl rfl (by decide) ?_
    have e22 := t1.1
    have r0 := t1.2 0 (by omega)
    repeat (first | refine gp rfl rfl rfl ?_ | refine ggf rfl (by assumption) (by rfl) ?_ | refine gal rfl (by assumption) (by rfl) (by omega) (by omega) ?_ | refine gil rfl (by assumption) (by rfl) (by omega) (by omega) ?_ | refine gbl rfl (by assumption) (by rfl) (by omega) (by omega) ?_ | refine gln rfl (xlen_i (by assumption)) ?_ | refine gln rfl (xlen_q (by assumption)) ?_)
    rw [show F1 0 (0 : Nat) = nI (pCm lo lx 0 0) from tb 0 0 (by omega) (by omega)]
    have := loop lo.length 0 0 fp none (by omega) (by omega) (fun i' hi' => absurd hi' (by omega)) (fun i' => by rw [Nat.zero_add]; rfl)
    rw [xup_same cp] at this
    exact this)
  exact ⟨_, F1, f', hex, tbu f', xup_eq _ _ _, g2, fr.1, fun k hk hk' => by rw [xup_ne hk]; exact fr.2 k hk'⟩
end
section
/-! MODULE: three texts become one, the class -/
theorem pAft_len {c : Int32} : ∀ {x r : List Int32}, pAft c x = some r → r.length < x.length
  | [], r, h => by cases h
  | y :: x, r, h => by
    unfold pAft at h
    split at h
    · cases h; exact Nat.lt_succ_self _
    · exact Nat.lt_succ_of_lt (pAft_len h)
theorem pMt_in : ∀ {o x : List Int32} {s i p : Nat}, (pMt o x s).getD i none = some p → s ≤ p ∧ p < s + x.length
  | [], x, s, i, p, h => by simp [pMt] at h
  | c :: o, x, s, i, p, h => by
    unfold pMt at h
    split at h
    · rename_i r hr
      have hl := pAft_len hr
      split at h
      · cases i with
        | zero =>
          have h : some (s + (x.length - r.length - 1)) = some p := h
          cases h
          omega
        | succ i =>
          have h : (pMt o r (s + (x.length - r.length))).getD i none = some p := h
          have := pMt_in h
          omega
      · cases i with
        | zero => cases (show (none : Option Nat) = some p from h)
        | succ i => exact pMt_in (show (pMt o x s).getD i none = some p from h)
    · cases i with
      | zero => cases (show (none : Option Nat) = some p from h)
      | succ i => exact pMt_in (show (pMt o x s).getD i none = some p from h)
theorem pMt_up : ∀ {o x : List Int32} {s i i' p p' : Nat}, i < i' → (pMt o x s).getD i none = some p → (pMt o x s).getD i' none = some p' → p < p'
  | [], x, s, i, i', p, p', _, h, _ => by simp [pMt] at h
  | c :: o, x, s, i, 0, p, p', hi, _, _ => absurd hi (by omega)
  | c :: o, x, s, i, i' + 1, p, p', hi, h, h' => by
    unfold pMt at h h'
    cases hr : pAft c x with
    | none =>
      rw [hr] at h h'
      have h' : (pMt o x s).getD i' none = some p' := h'
      cases i with
      | zero => cases (show (none : Option Nat) = some p from h)
      | succ i => exact pMt_up (by omega) (show (pMt o x s).getD i none = some p from h) h'
    | some r =>
      have hl := pAft_len hr
      rw [hr] at h h'
      simp only at h h'
      split at h
      · rename_i hq
        rw [if_pos hq] at h'
        have h' : (pMt o r (s + (x.length - r.length))).getD i' none = some p' := h'
        cases i with
        | zero =>
          have h : some (s + (x.length - r.length - 1)) = some p := h
          cases h
          have := pMt_in h'
          omega
        | succ i => exact pMt_up (by omega) (show (pMt o r (s + (x.length - r.length))).getD i none = some p from h) h'
      · rename_i hq
        rw [if_neg hq] at h'
        have h' : (pMt o x s).getD i' none = some p' := h'
        cases i with
        | zero => cases (show (none : Option Nat) = some p from h)
        | succ i => exact pMt_up (by omega) (show (pMt o x s).getD i none = some p from h) h'
/-- up to line i of o: where the next gaps begin, what is written, was there a clash -/
def pJs (st : Nat) (lo la lb : List Int32) : Nat → Nat × Nat × Nat × List Int32 × Bool
  | 0 => (0, 0, 0, [], false)
  | i + 1 => match (pMt lo la 0).getD i none, (pMt lo lb 0).getD i none with
    | some p, some q => (i + 1, p + 1, q + 1, (pJs st lo la lb i).2.2.2.1 ++ pGap st (pCut lo (pJs st lo la lb i).1 i) (pCut la (pJs st lo la lb i).2.1 p) (pCut lb (pJs st lo la lb i).2.2.1 q) ++ [lo.getD i 0], (pJs st lo la lb i).2.2.2.2 || pBad (pCut lo (pJs st lo la lb i).1 i) (pCut la (pJs st lo la lb i).2.1 p) (pCut lb (pJs st lo la lb i).2.2.1 q))
    | _, _ => pJs st lo la lb i
def pJoin (st : Nat) (lo la lb : List Int32) : List Int32 := (pJs st lo la lb lo.length).2.2.2.1 ++ pGap st (pCut lo (pJs st lo la lb lo.length).1 lo.length) (pCut la (pJs st lo la lb lo.length).2.1 la.length) (pCut lb (pJs st lo la lb lo.length).2.2.1 lb.length)
def pJbad (st : Nat) (lo la lb : List Int32) : Bool := (pJs st lo la lb lo.length).2.2.2.2 || pBad (pCut lo (pJs st lo la lb lo.length).1 lo.length) (pCut la (pJs st lo la lb lo.length).2.1 la.length) (pCut lb (pJs st lo la lb lo.length).2.2.1 lb.length)
theorem pJs_ok (st : Nat) (lo la lb : List Int32) : ∀ i, (pJs st lo la lb i).1 ≤ i ∧ (pJs st lo la lb i).2.1 ≤ la.length ∧ (pJs st lo la lb i).2.2.1 ≤ lb.length ∧ (∀ i' p, i ≤ i' → (pMt lo la 0).getD i' none = some p → (pJs st lo la lb i).2.1 ≤ p) ∧ (∀ i' q, i ≤ i' → (pMt lo lb 0).getD i' none = some q → (pJs st lo la lb i).2.2.1 ≤ q)
  | 0 => ⟨Nat.le_refl _, Nat.zero_le _, Nat.zero_le _, fun _ _ _ _ => Nat.zero_le _, fun _ _ _ _ => Nat.zero_le _⟩
  | i + 1 => by
    obtain ⟨h1, h2, h3, h4, h5⟩ := pJs_ok st lo la lb i
    unfold pJs
    split
    · rename_i p q hp hq
      have ip := pMt_in hp
      have iq := pMt_in hq
      exact ⟨Nat.le_refl _, by simp only; omega, by simp only; omega, fun i' p' hi hh => pMt_up (by omega) hp hh, fun i' q' hi hh => pMt_up (by omega) hq hh⟩
    · exact ⟨by omega, h2, h3, fun i' p hi => h4 i' p (by omega), fun i' p hi => h5 i' p (by omega)⟩
/-- what the merger of lines sees -/
def hV (σ : xS) (w : List Int32) (c : Bool) (gA gB : Nat → Int32) (o a b : Nat) (lo la lb : List Int32) (fo wo fa wa fb wb : Nat) : Prop := hLM σ w c ∧ hPs σ o a b lo la lb fo wo fa wa fb wb ∧ σ.1 32 = some (.inl (0, 8, gA)) ∧ σ.1 33 = some (.inl (0, 8, gB))
theorem hLM.ne {σ : xS} {w : List Int32} {c : Bool} {k : Nat} {e : xE} (h : hLM σ w c) (hk : k ≠ 21 ∧ k ≠ 37) : hLM (xup σ k e) w c := by
  obtain ⟨h1, h2, f, h3, h4⟩ := h
  exact ⟨by rw [xup_ne (by omega)]; exact h1, h2, f, by rw [xup_ne (by omega)]; exact h3, h4⟩
theorem hInts.up {σ : xS} {b k : Nat} {l : List Int32} {e : xE} (h : hInts σ b l) (hk : b ≠ k) : hInts (xup σ k e) b l := by
  obtain ⟨f, h1, h2⟩ := h
  exact ⟨f, by rw [xup_ne hk]; exact h1, h2⟩
theorem hPart.up {σ : xS} {a b fr wd k : Nat} {e : xE} (h : hPart σ a b fr wd) (hk : a ≠ k) : hPart (xup σ k e) a b fr wd := by
  unfold hPart at h ⊢
  rw [xup_ne hk]
  exact h
theorem hV.o {σ : xS} {w : List Int32} {c : Bool} {gA gB : Nat → Int32} {o a b : Nat} {lo la lb : List Int32} {fo wo fa wa fb wb fo' wo' : Nat} (h : hV σ w c gA gB o a b lo la lb fo wo fa wa fb wb) (ho : far o) (ha : far a) (hb : far b) : hV (xup σ 34 (.inr (.inr (5, [.inr (some o), .inl (nI fo'), .inl (nI wo')])))) w c gA gB o a b lo la lb fo' wo' fa wa fb wb := by
  obtain ⟨h1, ⟨-, h3, h4, h5, h6, h7⟩, h8, h9⟩ := h
  unfold far at ho ha hb
  exact ⟨h1.ne (by decide), ⟨xup_eq _ _ _, h3.up (by decide), h4.up (by decide), h5.up (by omega), h6.up (by omega), h7.up (by omega)⟩, by rw [xup_ne (by decide)]; exact h8, by rw [xup_ne (by decide)]; exact h9⟩
theorem hV.a {σ : xS} {w : List Int32} {c : Bool} {gA gB : Nat → Int32} {o a b : Nat} {lo la lb : List Int32} {fo wo fa wa fb wb fo' wo' : Nat} (h : hV σ w c gA gB o a b lo la lb fo wo fa wa fb wb) (ho : far o) (ha : far a) (hb : far b) : hV (xup σ 35 (.inr (.inr (5, [.inr (some a), .inl (nI fo'), .inl (nI wo')])))) w c gA gB o a b lo la lb fo wo fo' wo' fb wb := by
  obtain ⟨h1, ⟨h3, -, h4, h5, h6, h7⟩, h8, h9⟩ := h
  unfold far at ho ha hb
  exact ⟨h1.ne (by decide), ⟨h3.up (by decide), xup_eq _ _ _, h4.up (by decide), h5.up (by omega), h6.up (by omega), h7.up (by omega)⟩, by rw [xup_ne (by decide)]; exact h8, by rw [xup_ne (by decide)]; exact h9⟩
theorem hV.b {σ : xS} {w : List Int32} {c : Bool} {gA gB : Nat → Int32} {o a b : Nat} {lo la lb : List Int32} {fo wo fa wa fb wb fo' wo' : Nat} (h : hV σ w c gA gB o a b lo la lb fo wo fa wa fb wb) (ho : far o) (ha : far a) (hb : far b) : hV (xup σ 36 (.inr (.inr (5, [.inr (some b), .inl (nI fo'), .inl (nI wo')])))) w c gA gB o a b lo la lb fo wo fa wa fo' wo' := by
  obtain ⟨h1, ⟨h3, h4, -, h5, h6, h7⟩, h8, h9⟩ := h
  unfold far at ho ha hb
  exact ⟨h1.ne (by decide), ⟨h3.up (by decide), h4.up (by decide), xup_eq _ _ _, h5.up (by omega), h6.up (by omega), h7.up (by omega)⟩, by rw [xup_ne (by decide)]; exact h8, by rw [xup_ne (by decide)]; exact h9⟩
theorem hV.w {σ σ' : xS} {w w' : List Int32} {c c' : Bool} {gA gB : Nat → Int32} {o a b : Nat} {lo la lb : List Int32} {fo wo fa wa fb wb : Nat} (h : hV σ w c gA gB o a b lo la lb fo wo fa wa fb wb) (hl : hLM σ' w' c') (hw : hW σ σ') (ho : far o) (ha : far a) (hb : far b) : hV σ' w' c' gA gB o a b lo la lb fo wo fa wa fb wb := by
  obtain ⟨h1, h2, h8, h9⟩ := h
  exact ⟨hl, h2.w hw ho ha hb, by rw [hw.2 32 (by decide) (by decide)]; exact h8, by rw [hw.2 33 (by decide) (by decide)]; exact h9⟩
theorem hW.fr {σ σ' : xS} (h : hW σ σ') : hFr 21 37 σ σ' := ⟨h.1, fun k hk => h.2 k (by omega) (by omega)⟩
/-- the merger of lines, its table and its parts, as they lie between two merges -/
def hL0 (σ : xS) : Prop := (∃ w c, hLM σ w c) ∧ (∃ F, hTb σ F) ∧ (∃ f, σ.1 32 = some (.inl (0, 8, f))) ∧ (∃ f, σ.1 33 = some (.inl (0, 8, f))) ∧ (∃ x y z, σ.1 34 = some (.inr (.inr (5, [x, y, z])))) ∧ (∃ x y z, σ.1 35 = some (.inr (.inr (5, [x, y, z])))) ∧ (∃ x y z, σ.1 36 = some (.inr (.inr (5, [x, y, z]))))
theorem m_join (d : Nat) {σ : xS} {o a b st : Nat} {lo la lb : List Int32} (h : hL0 σ) (hlo : hInts σ o lo) (hla : hInts σ a la) (hlb : hInts σ b lb) (ho : far o) (ha : far a) (hb : far b) (so : lo.length ≤ 8) (sa : la.length ≤ 76) (sb : lb.length ≤ 76) (hst : st < 1000) :
    ∃ σ', xEx (d + 3) 44 [.inr (some 21), .inr (some o), .inr (some a), .inr (some b), .inl (nI st)] σ none σ' ∧ hLM σ' (pW [] (pJoin st lo la lb)) (pJbad st lo la lb) ∧ hL0 σ' ∧ hFr 21 37 σ σ' := by
  let K : Option xV → xS → Prop := fun r0 σ0 => r0 = none ∧ hLM σ0 (pW [] (pJoin st lo la lb)) (pJbad st lo la lb) ∧ hL0 σ0 ∧ hFr 21 37 σ σ0
  have main : xGo (xEx (d + 2)) xtb_44 K (0, [some (.inr (some 21)), some (.inr (some o)), some (.inr (some a)), some (.inr (some b)), some (.inl (nI st)), none], [], σ) := by
    obtain ⟨⟨w0, c0, h21, -, f37, h37, -⟩, ⟨F0, tb0⟩, ⟨fA0, hA0⟩, ⟨fB0, hB0⟩, ⟨ox, oy, oz, hO⟩, ⟨ax, ay, az, hA⟩, ⟨bx, by', bz, hB⟩⟩ := h
    unfold far at ho ha hb
    repeat (first | refine gp rfl rfl rfl ?_ | refine ggf rfl (by assumption) (by rfl) ?_ | refine gal rfl (by assumption) (by rfl) (by omega) (by omega) ?_ | refine gil rfl (by assumption) (by rfl) (by omega) (by omega) ?_ | refine gbl rfl (by assumption) (by rfl) (by omega) (by omega) ?_ | refine gln rfl (xlen_i (by assumption)) ?_ | refine gln rfl (xlen_q (by assumption)) ?_)
    refine gpf rfl h21 (Nat.le_of_ble_eq_true rfl) (Or.inl rfl) ?_
    repeat (first | refine gp rfl rfl rfl ?_ | refine ggf rfl (by assumption) (by rfl) ?_ | refine gal rfl (by assumption) (by rfl) (by omega) (by omega) ?_ | refine gil rfl (by assumption) (by rfl) (by omega) (by omega) ?_ | refine gbl rfl (by assumption) (by rfl) (by omega) (by omega) ?_ | refine gln rfl (xlen_i (by assumption)) ?_ | refine gln rfl (xlen_q (by assumption)) ?_)
    refine gpf rfl (xup_eq _ _ _) (Nat.le_of_ble_eq_true rfl) (Or.inr ⟨rfl, Or.inl rfl⟩) ?_
    rw [xup_up]
    show xGo (xEx (d + 2)) xtb_44 K (10, [some (.inr (some 21)), some (.inr (some o)), some (.inr (some a)), some (.inr (some b)), some (.inl (nI st)), none], [], xup σ 21 (.inr (.inr (6, [.inr (some 22), .inr (some 32), .inr (some 33), .inr (some 34), .inr (some 35), .inr (some 36), .inr (some 37), .inl (nI 0), .inl (bI false)]))))
    have L1 : hLM (xup σ 21 (.inr (.inr (6, [.inr (some 22), .inr (some 32), .inr (some 33), .inr (some 34), .inr (some 35), .inr (some 36), .inr (some 37), .inl (nI 0), .inl (bI false)])))) [] false := ⟨xup_eq _ _ _, by decide, f37, by rw [xup_ne (by decide)]; exact h37, fun j hj => absurd hj (Nat.not_lt_zero _)⟩
    have R1 : hFr 21 37 σ (xup σ 21 (.inr (.inr (6, [.inr (some 22), .inr (some 32), .inr (some 33), .inr (some 34), .inr (some 35), .inr (some 36), .inr (some 37), .inl (nI 0), .inl (bI false)])))) := hFr.up (by decide) (by decide)
    have T1 : hTb (xup σ 21 (.inr (.inr (6, [.inr (some 22), .inr (some 32), .inr (some 33), .inr (some 34), .inr (some 35), .inr (some 36), .inr (some 37), .inl (nI 0), .inl (bI false)])))) F0 := ⟨by rw [xup_ne (by decide)]; exact tb0.1, fun i hi => by rw [xup_ne (by omega)]; exact tb0.2 i hi⟩
    have Q1 : ∀ k, k ≠ 21 → (xup σ 21 (.inr (.inr (6, [.inr (some 22), .inr (some 32), .inr (some 33), .inr (some 34), .inr (some 35), .inr (some 36), .inr (some 37), .inl (nI 0), .inl (bI false)])))).1 k = σ.1 k := fun k hk => xup_ne hk
    generalize xup σ 21 (.inr (.inr (6, [.inr (some 22), .inr (some 32), .inr (some 33), .inr (some 34), .inr (some 35), .inr (some 36), .inr (some 37), .inl (nI 0), .inl (bI false)]))) = σ1 at *
    have e21 := L1.1
    repeat (first | refine gp rfl rfl rfl ?_ | refine ggf rfl (by assumption) (by rfl) ?_ | refine gal rfl (by assumption) (by rfl) (by omega) (by omega) ?_ | refine gil rfl (by assumption) (by rfl) (by omega) (by omega) ?_ | refine gbl rfl (by assumption) (by rfl) (by omega) (by omega) ?_ | refine gln rfl (xlen_i (by assumption)) ?_ | refine gln rfl (xlen_q (by assumption)) ?_)
    obtain ⟨σ2, F2, gA, x2, T2, p2, v2, n2, q2⟩ := m_match d (p := 32) L1 T1 (hlo.fr R1 (by omega)) (hla.fr R1 (by omega)) ho ha so sa (by rw [Q1 32 (by decide)]; exact hA0) (Or.inl rfl)
    refine gcv (As := [.inr (some o), .inr (some a), .inr (some 32)]) (rest := []) rfl (by decide) x2 e21 rfl rfl (by decide) ?_
    have R2 : hFr 21 37 σ σ2 := R1.trans ⟨n2, fun k hk => q2 k (by omega) (by omega)⟩
    have L2 : hLM σ2 [] false := by
      obtain ⟨z1, z2, f, z3, z4⟩ := L1
      exact ⟨by rw [q2 21 (by decide) (by decide)]; exact z1, z2, f, by rw [q2 37 (by decide) (by decide)]; exact z3, z4⟩
    have e21 := L2.1
    repeat (first | refine gp rfl rfl rfl ?_ | refine ggf rfl (by assumption) (by rfl) ?_ | refine gal rfl (by assumption) (by rfl) (by omega) (by omega) ?_ | refine gil rfl (by assumption) (by rfl) (by omega) (by omega) ?_ | refine gbl rfl (by assumption) (by rfl) (by omega) (by omega) ?_ | refine gln rfl (xlen_i (by assumption)) ?_ | refine gln rfl (xlen_q (by assumption)) ?_)
    obtain ⟨σ3, F3, gB, x3, T3, p3, v3, n3, q3⟩ := m_match d (p := 33) L2 T2 (hlo.fr R2 (by omega)) (hlb.fr R2 (by omega)) ho hb so sb (by rw [q2 33 (by decide) (by decide), Q1 33 (by decide)]; exact hB0) (Or.inr rfl)
    refine gcv (As := [.inr (some o), .inr (some b), .inr (some 33)]) (rest := []) rfl (by decide) x3 e21 rfl rfl (by decide) ?_
    have R3 : hFr 21 37 σ σ3 := R2.trans ⟨n3, fun k hk => q3 k (by omega) (by omega)⟩
    have L3 : hLM σ3 [] false := by
      obtain ⟨z1, z2, f, z3, z4⟩ := L2
      exact ⟨by rw [q3 21 (by decide) (by decide)]; exact z1, z2, f, by rw [q3 37 (by decide) (by decide)]; exact z3, z4⟩
    have e32 : σ3.1 32 = some (.inl (0, 8, gA)) := by rw [q3 32 (by decide) (by decide)]; exact p2
    have e34 : σ3.1 34 = some (.inr (.inr (5, [ox, oy, oz]))) := by rw [q3 34 (by decide) (by decide), q2 34 (by decide) (by decide), Q1 34 (by decide)]; exact hO
    have e35 : σ3.1 35 = some (.inr (.inr (5, [ax, ay, az]))) := by rw [q3 35 (by decide) (by decide), q2 35 (by decide) (by decide), Q1 35 (by decide)]; exact hA
    have e36 : σ3.1 36 = some (.inr (.inr (5, [bx, by', bz]))) := by rw [q3 36 (by decide) (by decide), q2 36 (by decide) (by decide), Q1 36 (by decide)]; exact hB
    have e21 := L3.1
    have jO := hlo.fr R3 (by omega)
    have jA := hla.fr R3 (by omega)
    have jB := hlb.fr R3 (by omega)
    clear x2 x3 p2 q2 q3 L1 L2 T1 T2 n2 n3 R1 R2 Q1 h21 hA0 hB0 hO hA hB h37 tb0
    repeat (first | refine gp rfl rfl rfl ?_ | refine ggf rfl (by assumption) (by rfl) ?_ | refine gal rfl (by assumption) (by rfl) (by omega) (by omega) ?_ | refine gil rfl (by assumption) (by rfl) (by omega) (by omega) ?_ | refine gbl rfl (by assumption) (by rfl) (by omega) (by omega) ?_ | refine gln rfl (xlen_i (by assumption)) ?_ | refine gln rfl (xlen_q (by assumption)) ?_)
    refine gcv (As := [.inr (some o)]) (rest := []) rfl (by decide) (m_startAt (d + 1) e34) e34 rfl rfl (by decide) ?_
    have L4 := hLM.ne (k := 34) (e := (.inr (.inr (5, [.inr (some o), .inl (nI 0), .inl (nI 0)])))) L3 (by decide)
    have e21 := L4.1
    have e35' : (xup σ3 34 (.inr (.inr (5, [.inr (some o), .inl (nI 0), .inl (nI 0)])))).1 35 = some (.inr (.inr (5, [ax, ay, az]))) := by rw [xup_ne (by decide)]; exact e35
    repeat (first | refine gp rfl rfl rfl ?_ | refine ggf rfl (by assumption) (by rfl) ?_ | refine gal rfl (by assumption) (by rfl) (by omega) (by omega) ?_ | refine gil rfl (by assumption) (by rfl) (by omega) (by omega) ?_ | refine gbl rfl (by assumption) (by rfl) (by omega) (by omega) ?_ | refine gln rfl (xlen_i (by assumption)) ?_ | refine gln rfl (xlen_q (by assumption)) ?_)
    refine gcv (As := [.inr (some a)]) (rest := []) rfl (by decide) (m_startAt (d + 1) e35') e35' rfl rfl (by decide) ?_
    have L5 := hLM.ne (k := 35) (e := (.inr (.inr (5, [.inr (some a), .inl (nI 0), .inl (nI 0)])))) L4 (by decide)
    have e21 := L5.1
    have e36' : (xup (xup σ3 34 (.inr (.inr (5, [.inr (some o), .inl (nI 0), .inl (nI 0)])))) 35 (.inr (.inr (5, [.inr (some a), .inl (nI 0), .inl (nI 0)])))).1 36 = some (.inr (.inr (5, [bx, by', bz]))) := by rw [xup_ne (by decide), xup_ne (by decide)]; exact e36
    repeat (first | refine gp rfl rfl rfl ?_ | refine ggf rfl (by assumption) (by rfl) ?_ | refine gal rfl (by assumption) (by rfl) (by omega) (by omega) ?_ | refine gil rfl (by assumption) (by rfl) (by omega) (by omega) ?_ | refine gbl rfl (by assumption) (by rfl) (by omega) (by omega) ?_ | refine gln rfl (xlen_i (by assumption)) ?_ | refine gln rfl (xlen_q (by assumption)) ?_)
    refine gcv (As := [.inr (some b)]) (rest := []) rfl (by decide) (m_startAt (d + 1) e36') e36' rfl rfl (by decide) ?_
    have V6 : hV (xup (xup (xup σ3 34 (.inr (.inr (5, [.inr (some o), .inl (nI 0), .inl (nI 0)])))) 35 (.inr (.inr (5, [.inr (some a), .inl (nI 0), .inl (nI 0)])))) 36 (.inr (.inr (5, [.inr (some b), .inl (nI 0), .inl (nI 0)])))) [] false gA gB o a b lo la lb 0 0 0 0 0 0 := by
      refine ⟨L5.ne (by decide), ⟨?_, ?_, xup_eq _ _ _, ((jO.up (by omega)).up (by omega)).up (by omega), ((jA.up (by omega)).up (by omega)).up (by omega), ((jB.up (by omega)).up (by omega)).up (by omega)⟩, ?_, ?_⟩
      · exact hPart.up (hPart.up (xup_eq _ _ _) (by decide)) (by decide)
      · exact hPart.up (xup_eq _ _ _) (by decide)
      · rw [xup_ne (by decide), xup_ne (by decide), xup_ne (by decide)]; exact e32
      · rw [xup_ne (by decide), xup_ne (by decide), xup_ne (by decide)]; exact p3
    have R6 : hFr 21 37 σ (xup (xup (xup σ3 34 (.inr (.inr (5, [.inr (some o), .inl (nI 0), .inl (nI 0)])))) 35 (.inr (.inr (5, [.inr (some a), .inl (nI 0), .inl (nI 0)])))) 36 (.inr (.inr (5, [.inr (some b), .inl (nI 0), .inl (nI 0)])))) := R3.trans ((hFr.up (by decide) (by decide)).trans ((hFr.up (by decide) (by decide)).trans (hFr.up (by decide) (by decide))))
    have T6 : ∃ F, hTb (xup (xup (xup σ3 34 (.inr (.inr (5, [.inr (some o), .inl (nI 0), .inl (nI 0)])))) 35 (.inr (.inr (5, [.inr (some a), .inl (nI 0), .inl (nI 0)])))) 36 (.inr (.inr (5, [.inr (some b), .inl (nI 0), .inl (nI 0)])))) F := ⟨F3, by rw [xup_ne (by decide), xup_ne (by decide), xup_ne (by decide)]; exact T3.1, fun i hi => by rw [xup_ne (by omega), xup_ne (by omega), xup_ne (by omega)]; exact T3.2 i hi⟩
    generalize xup (xup (xup σ3 34 (.inr (.inr (5, [.inr (some o), .inl (nI 0), .inl (nI 0)])))) 35 (.inr (.inr (5, [.inr (some a), .inl (nI 0), .inl (nI 0)])))) 36 (.inr (.inr (5, [.inr (some b), .inl (nI 0), .inl (nI 0)]))) = σ6 at V6 R6 T6 ⊢
    clear e21 e32 e34 e35 e36 e35' e36' L3 L4 L5 jO jA jB p3 R3 T3
    have loop : ∀ k i (σ7 : xS) (wo wa wb : Nat), i + k = lo.length → hV σ7 (pW [] (pJs st lo la lb i).2.2.2.1) (pJs st lo la lb i).2.2.2.2 gA gB o a b lo la lb (pJs st lo la lb i).1 wo (pJs st lo la lb i).2.1 wa (pJs st lo la lb i).2.2.1 wb → hFr 21 37 σ σ7 → (∃ F, hTb σ7 F) → xGo (xEx (d + 2)) xtb_44 K (61, [some (.inr (some 21)), some (.inr (some o)), some (.inr (some a)), some (.inr (some b)), some (.inl (nI st)), some (.inl (nI i))], [.inl (nI lo.length), .inl (nI i)], σ7) := by
      intro k
      induction k with
      | zero =>
        intro i σ7 wo wa wb hi hv hr hT
        obtain rfl : i = lo.length := by omega
        obtain ⟨j1, j2, j3, j4, j5⟩ := pJs_ok st lo la lb lo.length
        refine gct rfl (show nI _ ≤ nI _ from nI_le (by omega) (by omega)) ?_
        obtain ⟨⟨e21, -⟩, ⟨zO, zA, zB, ⟨fo, io, -⟩, ⟨fa, ia, -⟩, ⟨fb, ib, -⟩⟩, e32, e33⟩ := id hv
        repeat (first | refine gp rfl rfl rfl ?_ | refine ggf rfl (by assumption) (by rfl) ?_ | refine gal rfl (by assumption) (by rfl) (by omega) (by omega) ?_ | refine gil rfl (by assumption) (by rfl) (by omega) (by omega) ?_ | refine gbl rfl (by assumption) (by rfl) (by omega) (by omega) ?_ | refine gln rfl (xlen_i (by assumption)) ?_ | refine gln rfl (xlen_q (by assumption)) ?_)
        refine gcv (As := [.inl (nI lo.length)]) (rest := []) rfl (by decide) (m_reachTo (d + 1) zO j1) (show σ7.1 34 = _ from zO) rfl rfl (by decide) ?_
        have hv8 := hv.o (fo' := (pJs st lo la lb lo.length).1) (wo' := lo.length - (pJs st lo la lb lo.length).1) ho ha hb
        have hr8 := hr.trans (hFr.up (k := 34) (e := (.inr (.inr (5, [.inr (some o), .inl (nI (pJs st lo la lb lo.length).1), .inl (nI (lo.length - (pJs st lo la lb lo.length).1))])))) (by decide) (by decide))
        obtain ⟨⟨e21, -⟩, ⟨zO, zA, zB, ⟨fo, io, -⟩, ⟨fa, ia, -⟩, ⟨fb, ib, -⟩⟩, e32, e33⟩ := id hv8
        repeat (first | refine gp rfl rfl rfl ?_ | refine ggf rfl (by assumption) (by rfl) ?_ | refine gal rfl (by assumption) (by rfl) (by omega) (by omega) ?_ | refine gil rfl (by assumption) (by rfl) (by omega) (by omega) ?_ | refine gbl rfl (by assumption) (by rfl) (by omega) (by omega) ?_ | refine gln rfl (xlen_i (by assumption)) ?_ | refine gln rfl (xlen_q (by assumption)) ?_)
        refine gcv (As := [.inl (nI la.length)]) (rest := []) rfl (by decide) (m_reachTo (d + 1) zA j2) (show _ = some (Sum.inr (Sum.inr (5, _))) from zA) rfl rfl (by decide) ?_
        have hv9 := hv8.a (fo' := (pJs st lo la lb lo.length).2.1) (wo' := la.length - (pJs st lo la lb lo.length).2.1) ho ha hb
        have hr9 := hr8.trans (hFr.up (k := 35) (e := (.inr (.inr (5, [.inr (some a), .inl (nI (pJs st lo la lb lo.length).2.1), .inl (nI (la.length - (pJs st lo la lb lo.length).2.1))])))) (by decide) (by decide))
        obtain ⟨⟨e21, -⟩, ⟨zO, zA, zB, ⟨fo, io, -⟩, ⟨fa, ia, -⟩, ⟨fb, ib, -⟩⟩, e32, e33⟩ := id hv9
        repeat (first | refine gp rfl rfl rfl ?_ | refine ggf rfl (by assumption) (by rfl) ?_ | refine gal rfl (by assumption) (by rfl) (by omega) (by omega) ?_ | refine gil rfl (by assumption) (by rfl) (by omega) (by omega) ?_ | refine gbl rfl (by assumption) (by rfl) (by omega) (by omega) ?_ | refine gln rfl (xlen_i (by assumption)) ?_ | refine gln rfl (xlen_q (by assumption)) ?_)
        refine gcv (As := [.inl (nI lb.length)]) (rest := []) rfl (by decide) (m_reachTo (d + 1) zB j3) (show _ = some (Sum.inr (Sum.inr (5, _))) from zB) rfl rfl (by decide) ?_
        have hv10 := hv9.b (fo' := (pJs st lo la lb lo.length).2.2.1) (wo' := lb.length - (pJs st lo la lb lo.length).2.2.1) ho ha hb
        have hr10 := hr9.trans (hFr.up (k := 36) (e := (.inr (.inr (5, [.inr (some b), .inl (nI (pJs st lo la lb lo.length).2.2.1), .inl (nI (lb.length - (pJs st lo la lb lo.length).2.2.1))])))) (by decide) (by decide))
        have hT10 : ∃ F, hTb (xup (xup (xup σ7 34 (.inr (.inr (5, [.inr (some o), .inl (nI (pJs st lo la lb lo.length).1), .inl (nI (lo.length - (pJs st lo la lb lo.length).1))])))) 35 (.inr (.inr (5, [.inr (some a), .inl (nI (pJs st lo la lb lo.length).2.1), .inl (nI (la.length - (pJs st lo la lb lo.length).2.1))])))) 36 (.inr (.inr (5, [.inr (some b), .inl (nI (pJs st lo la lb lo.length).2.2.1), .inl (nI (lb.length - (pJs st lo la lb lo.length).2.2.1))])))) F := by
          obtain ⟨F, t1, t2⟩ := hT
          exact ⟨F, by rw [xup_ne (by decide), xup_ne (by decide), xup_ne (by decide)]; exact t1, fun i hi => by rw [xup_ne (by omega), xup_ne (by omega), xup_ne (by omega)]; exact t2 i hi⟩
        obtain ⟨⟨e21, -⟩, -⟩ := id hv10
        repeat (first | refine gp rfl rfl rfl ?_ | refine ggf rfl (by assumption) (by rfl) ?_ | refine gal rfl (by assumption) (by rfl) (by omega) (by omega) ?_ | refine gil rfl (by assumption) (by rfl) (by omega) (by omega) ?_ | refine gbl rfl (by assumption) (by rfl) (by omega) (by omega) ?_ | refine gln rfl (xlen_i (by assumption)) ?_ | refine gln rfl (xlen_q (by assumption)) ?_)
        obtain ⟨σ8, y1, y2, y3⟩ := m_writeGap d (st := st) hv10.1 hv10.2.1 ho ha hb (by omega) sa sb (by omega) (by omega) (by omega) hst
        refine gcv (As := [.inl (nI st)]) (rest := []) rfl (by decide) y1 e21 rfl rfl (by decide) ?_
        have hv11 := hv10.w y2 y3 ho ha hb
        refine grv rfl ⟨rfl, ?_, ?_, hr10.trans y3.fr⟩
        · rw [pW_pW] at y2
          exact y2
        · obtain ⟨-, ⟨zO, zA, zB, -⟩, e32, e33⟩ := hv11
          obtain ⟨F, t1, t2⟩ := hT10
          exact ⟨⟨_, _, y2⟩, ⟨F, by rw [y3.2 22 (by decide) (by decide)]; exact t1, fun i hi => by rw [y3.2 _ (by omega) (by omega)]; exact t2 i hi⟩, ⟨_, e32⟩, ⟨_, e33⟩, ⟨_, _, _, zO⟩, ⟨_, _, _, zA⟩, ⟨_, _, _, zB⟩⟩
      | succ k ih =>
        intro i σ7 wo wa wb hi hv hr hT
        obtain ⟨j1, j2, j3, j4, j5⟩ := pJs_ok st lo la lb i
        obtain ⟨⟨e21, -⟩, ⟨zO, zA, zB, ⟨fo, io, io2⟩, ⟨fa, ia, -⟩, ⟨fb, ib, -⟩⟩, e32, e33⟩ := id hv
        refine gcf rfl (nI_ge (by omega) (by omega)) ?_
        repeat (first | refine gp rfl rfl rfl ?_ | refine ggf rfl (by assumption) (by rfl) ?_ | refine gal rfl (by assumption) (by rfl) (by omega) (by omega) ?_ | refine gil rfl (by assumption) (by rfl) (by omega) (by omega) ?_ | refine gbl rfl (by assumption) (by rfl) (by omega) (by omega) ?_ | refine gln rfl (xlen_i (by assumption)) ?_ | refine gln rfl (xlen_q (by assumption)) ?_)
        refine gcf rfl (show ¬ nI 8 ≤ nI i from nI_ge (by omega) (by omega)) ?_
        repeat (first | refine gp rfl rfl rfl ?_ | refine ggf rfl (by assumption) (by rfl) ?_ | refine gal rfl (by assumption) (by rfl) (by omega) (by omega) ?_ | refine gil rfl (by assumption) (by rfl) (by omega) (by omega) ?_ | refine gbl rfl (by assumption) (by rfl) (by omega) (by omega) ?_ | refine gln rfl (xlen_i (by assumption)) ?_ | refine gln rfl (xlen_q (by assumption)) ?_)
        rw [v2 i (by omega)]
        have stay : pJs st lo la lb (i + 1) = pJs st lo la lb i → xGo (xEx (d + 2)) xtb_44 K (181, [some (.inr (some 21)), some (.inr (some o)), some (.inr (some a)), some (.inr (some b)), some (.inl (nI st)), some (.inl (nI i))], [], σ7) := by
          intro he
          repeat (first | refine gp rfl rfl rfl ?_ | refine ggf rfl (by assumption) (by rfl) ?_ | refine gal rfl (by assumption) (by rfl) (by omega) (by omega) ?_ | refine gil rfl (by assumption) (by rfl) (by omega) (by omega) ?_ | refine gbl rfl (by assumption) (by rfl) (by omega) (by omega) ?_ | refine gln rfl (xlen_i (by assumption)) ?_ | refine gln rfl (xlen_q (by assumption)) ?_)
          rw [nI_s]
          refine ih (i + 1) σ7 wo wa wb (by omega) ?_ hr hT
          rw [he]
          exact hv
        cases hmA : (pMt lo la 0).getD i none with
        | none =>
          refine gct rfl (show oI none = xk 1 1 from xk_m1.symm) ?_
          exact stay (by rw [pJs, hmA])
        | some p =>
          have ip := pMt_in hmA
          refine gcf rfl (fun z => oI_ne (q := p) (by omega) ((show nI p = xk 1 1 from z).trans xk_m1)) ?_
          repeat (first | refine gp rfl rfl rfl ?_ | refine ggf rfl (by assumption) (by rfl) ?_ | refine gal rfl (by assumption) (by rfl) (by omega) (by omega) ?_ | refine gil rfl (by assumption) (by rfl) (by omega) (by omega) ?_ | refine gbl rfl (by assumption) (by rfl) (by omega) (by omega) ?_ | refine gln rfl (xlen_i (by assumption)) ?_ | refine gln rfl (xlen_q (by assumption)) ?_)
          rw [v3 i (by omega)]
          cases hmB : (pMt lo lb 0).getD i none with
          | none =>
            refine gct rfl (show oI none = xk 1 1 from xk_m1.symm) ?_
            exact stay (by rw [pJs, hmA, hmB])
          | some q =>
            have iq := pMt_in hmB
            have jp := j4 i p (Nat.le_refl _) hmA
            have jq := j5 i q (Nat.le_refl _) hmB
            refine gcf rfl (fun z => oI_ne (q := q) (by omega) ((show nI q = xk 1 1 from z).trans xk_m1)) ?_
            have eS : pJs st lo la lb (i + 1) = (i + 1, p + 1, q + 1, (pJs st lo la lb i).2.2.2.1 ++ pGap st (pCut lo (pJs st lo la lb i).1 i) (pCut la (pJs st lo la lb i).2.1 p) (pCut lb (pJs st lo la lb i).2.2.1 q) ++ [lo.getD i 0], (pJs st lo la lb i).2.2.2.2 || pBad (pCut lo (pJs st lo la lb i).1 i) (pCut la (pJs st lo la lb i).2.1 p) (pCut lb (pJs st lo la lb i).2.2.1 q)) := by rw [pJs, hmA, hmB]
            have a32 : gA i = nI p := by rw [v2 i (by omega), hmA]; rfl
            have a33 : gB i = nI q := by rw [v3 i (by omega), hmB]; rfl
            generalize pJs st lo la lb i = S at *
            obtain ⟨sO, sA, sB, W, C⟩ := S
            simp only at *
            repeat (first | refine gp rfl rfl rfl ?_ | refine ggf rfl (by assumption) (by rfl) ?_ | refine gal rfl (by assumption) (by rfl) (by omega) (by omega) ?_ | refine gil rfl (by assumption) (by rfl) (by omega) (by omega) ?_ | refine gbl rfl (by assumption) (by rfl) (by omega) (by omega) ?_ | refine gln rfl (xlen_i (by assumption)) ?_ | refine gln rfl (xlen_q (by assumption)) ?_)
            refine gcv (As := [.inl (nI i)]) (rest := []) rfl (by decide) (m_reachTo (d + 1) zO j1) (show σ7.1 34 = _ from zO) rfl rfl (by decide) ?_
            have hv8 := hv.o (fo' := sO) (wo' := i - sO) ho ha hb
            have hr8 := hr.trans (hFr.up (k := 34) (e := (.inr (.inr (5, [.inr (some o), .inl (nI sO), .inl (nI (i - sO))])))) (by decide) (by decide))
            obtain ⟨⟨e21, -⟩, ⟨zO, zA, zB, -⟩, e32, e33⟩ := id hv8
            repeat (first | refine gp rfl rfl rfl ?_ | refine ggf rfl (by assumption) (by rfl) ?_ | refine gal rfl (by assumption) (by rfl) (by omega) (by omega) ?_ | refine gil rfl (by assumption) (by rfl) (by omega) (by omega) ?_ | refine gbl rfl (by assumption) (by rfl) (by omega) (by omega) ?_ | refine gln rfl (xlen_i (by assumption)) ?_ | refine gln rfl (xlen_q (by assumption)) ?_)
            rw [a32]
            refine gcv (As := [.inl (nI p)]) (rest := []) rfl (by decide) (m_reachTo (d + 1) zA jp) (show _ = some (Sum.inr (Sum.inr (5, _))) from zA) rfl rfl (by decide) ?_
            have hv9 := hv8.a (fo' := sA) (wo' := p - sA) ho ha hb
            have hr9 := hr8.trans (hFr.up (k := 35) (e := (.inr (.inr (5, [.inr (some a), .inl (nI sA), .inl (nI (p - sA))])))) (by decide) (by decide))
            obtain ⟨⟨e21, -⟩, ⟨zO, zA, zB, -⟩, e32, e33⟩ := id hv9
            repeat (first | refine gp rfl rfl rfl ?_ | refine ggf rfl (by assumption) (by rfl) ?_ | refine gal rfl (by assumption) (by rfl) (by omega) (by omega) ?_ | refine gil rfl (by assumption) (by rfl) (by omega) (by omega) ?_ | refine gbl rfl (by assumption) (by rfl) (by omega) (by omega) ?_ | refine gln rfl (xlen_i (by assumption)) ?_ | refine gln rfl (xlen_q (by assumption)) ?_)
            rw [a33]
            refine gcv (As := [.inl (nI q)]) (rest := []) rfl (by decide) (m_reachTo (d + 1) zB jq) (show _ = some (Sum.inr (Sum.inr (5, _))) from zB) rfl rfl (by decide) ?_
            have hv10 := hv9.b (fo' := sB) (wo' := q - sB) ho ha hb
            have hr10 := hr9.trans (hFr.up (k := 36) (e := (.inr (.inr (5, [.inr (some b), .inl (nI sB), .inl (nI (q - sB))])))) (by decide) (by decide))
            have hT10 : ∃ F, hTb (xup (xup (xup σ7 34 (.inr (.inr (5, [.inr (some o), .inl (nI sO), .inl (nI (i - sO))])))) 35 (.inr (.inr (5, [.inr (some a), .inl (nI sA), .inl (nI (p - sA))])))) 36 (.inr (.inr (5, [.inr (some b), .inl (nI sB), .inl (nI (q - sB))])))) F := by
              obtain ⟨F, t1, t2⟩ := hT
              exact ⟨F, by rw [xup_ne (by decide), xup_ne (by decide), xup_ne (by decide)]; exact t1, fun i hi => by rw [xup_ne (by omega), xup_ne (by omega), xup_ne (by omega)]; exact t2 i hi⟩
            generalize (xup (xup (xup σ7 34 (.inr (.inr (5, [.inr (some o), .inl (nI sO), .inl (nI (i - sO))])))) 35 (.inr (.inr (5, [.inr (some a), .inl (nI sA), .inl (nI (p - sA))])))) 36 (.inr (.inr (5, [.inr (some b), .inl (nI sB), .inl (nI (q - sB))])))) = σ8 at hv10 hr10 hT10 ⊢
            obtain ⟨⟨e21, -⟩, -⟩ := id hv10
            repeat (first | refine gp rfl rfl rfl ?_ | refine ggf rfl (by assumption) (by rfl) ?_ | refine gal rfl (by assumption) (by rfl) (by omega) (by omega) ?_ | refine gil rfl (by assumption) (by rfl) (by omega) (by omega) ?_ | refine gbl rfl (by assumption) (by rfl) (by omega) (by omega) ?_ | refine gln rfl (xlen_i (by assumption)) ?_ | refine gln rfl (xlen_q (by assumption)) ?_)
            obtain ⟨σ9, y1, y2, y3⟩ := m_writeGap d (st := st) hv10.1 hv10.2.1 ho ha hb (by omega) sa sb (by omega) (by omega) (by omega) hst
            refine gcv (As := [.inl (nI st)]) (rest := []) rfl (by decide) y1 e21 rfl rfl (by decide) ?_
            have hv11 := hv10.w y2 y3 ho ha hb
            have hr11 := hr10.trans y3.fr
            obtain ⟨⟨e21, -⟩, ⟨-, -, -, ⟨fo', io', io2'⟩, -, -⟩, e32, e33⟩ := id hv11
            repeat (first | refine gp rfl rfl rfl ?_ | refine ggf rfl (by assumption) (by rfl) ?_ | refine gal rfl (by assumption) (by rfl) (by omega) (by omega) ?_ | refine gil rfl (by assumption) (by rfl) (by omega) (by omega) ?_ | refine gbl rfl (by assumption) (by rfl) (by omega) (by omega) ?_ | refine gln rfl (xlen_i (by assumption)) ?_ | refine gln rfl (xlen_q (by assumption)) ?_)
            rw [io2' i (by omega)]
            obtain ⟨σ10, u1, u2, u3⟩ := m_write (d + 1) (x := lo.getD i 0) y2
            refine gcv (As := [.inl (lo.getD i 0)]) (rest := []) rfl (by decide) u1 e21 rfl rfl (by decide) ?_
            have hv12 := hv11.w u2 u3 ho ha hb
            have hr12 := hr11.trans u3.fr
            have hT12 : ∃ F, hTb σ10 F := by
              obtain ⟨F, t1, t2⟩ := hT10
              exact ⟨F, by rw [u3.2 22 (by decide) (by decide), y3.2 22 (by decide) (by decide)]; exact t1, fun i hi => by rw [u3.2 _ (by omega) (by omega), y3.2 _ (by omega) (by omega)]; exact t2 i hi⟩
            obtain ⟨⟨e21, -⟩, ⟨zO, zA, zB, -⟩, e32, e33⟩ := id hv12
            repeat (first | refine gp rfl rfl rfl ?_ | refine ggf rfl (by assumption) (by rfl) ?_ | refine gal rfl (by assumption) (by rfl) (by omega) (by omega) ?_ | refine gil rfl (by assumption) (by rfl) (by omega) (by omega) ?_ | refine gbl rfl (by assumption) (by rfl) (by omega) (by omega) ?_ | refine gln rfl (xlen_i (by assumption)) ?_ | refine gln rfl (xlen_q (by assumption)) ?_)
            refine gcv (As := [.inl (nI i)]) (rest := []) rfl (by decide) (m_startBehind (d + 1) zO) (show _ = some (Sum.inr (Sum.inr (5, _))) from zO) rfl rfl (by decide) ?_
            have hv13 := hv12.o (fo' := i + 1) (wo' := 0) ho ha hb
            have hr13 := hr12.trans (hFr.up (k := 34) (e := (.inr (.inr (5, [.inr (some o), .inl (nI (i + 1)), .inl (nI 0)])))) (by decide) (by decide))
            obtain ⟨⟨e21, -⟩, ⟨zO, zA, zB, -⟩, e32, e33⟩ := id hv13
            repeat (first | refine gp rfl rfl rfl ?_ | refine ggf rfl (by assumption) (by rfl) ?_ | refine gal rfl (by assumption) (by rfl) (by omega) (by omega) ?_ | refine gil rfl (by assumption) (by rfl) (by omega) (by omega) ?_ | refine gbl rfl (by assumption) (by rfl) (by omega) (by omega) ?_ | refine gln rfl (xlen_i (by assumption)) ?_ | refine gln rfl (xlen_q (by assumption)) ?_)
            rw [a32]
            refine gcv (As := [.inl (nI p)]) (rest := []) rfl (by decide) (m_startBehind (d + 1) zA) (show _ = some (Sum.inr (Sum.inr (5, _))) from zA) rfl rfl (by decide) ?_
            have hv14 := hv13.a (fo' := p + 1) (wo' := 0) ho ha hb
            have hr14 := hr13.trans (hFr.up (k := 35) (e := (.inr (.inr (5, [.inr (some a), .inl (nI (p + 1)), .inl (nI 0)])))) (by decide) (by decide))
            obtain ⟨⟨e21, -⟩, ⟨zO, zA, zB, -⟩, e32, e33⟩ := id hv14
            repeat (first | refine gp rfl rfl rfl ?_ | refine ggf rfl (by assumption) (by rfl) ?_ | refine gal rfl (by assumption) (by rfl) (by omega) (by omega) ?_ | refine gil rfl (by assumption) (by rfl) (by omega) (by omega) ?_ | refine gbl rfl (by assumption) (by rfl) (by omega) (by omega) ?_ | refine gln rfl (xlen_i (by assumption)) ?_ | refine gln rfl (xlen_q (by assumption)) ?_)
            rw [a33]
            refine gcv (As := [.inl (nI q)]) (rest := []) rfl (by decide) (m_startBehind (d + 1) zB) (show _ = some (Sum.inr (Sum.inr (5, _))) from zB) rfl rfl (by decide) ?_
            have hv15 := hv14.b (fo' := q + 1) (wo' := 0) ho ha hb
            have hr15 := hr14.trans (hFr.up (k := 36) (e := (.inr (.inr (5, [.inr (some b), .inl (nI (q + 1)), .inl (nI 0)])))) (by decide) (by decide))
            have hT15 : ∃ F, hTb (xup (xup (xup σ10 34 (.inr (.inr (5, [.inr (some o), .inl (nI (i + 1)), .inl (nI 0)])))) 35 (.inr (.inr (5, [.inr (some a), .inl (nI (p + 1)), .inl (nI 0)])))) 36 (.inr (.inr (5, [.inr (some b), .inl (nI (q + 1)), .inl (nI 0)])))) F := by
              obtain ⟨F, t1, t2⟩ := hT12
              exact ⟨F, by rw [xup_ne (by decide), xup_ne (by decide), xup_ne (by decide)]; exact t1, fun i hi => by rw [xup_ne (by omega), xup_ne (by omega), xup_ne (by omega)]; exact t2 i hi⟩
            obtain ⟨-, ⟨-, -, -, ⟨fo2, io2, -⟩, -⟩, -⟩ := id hv15
            repeat (first | refine gp rfl rfl rfl ?_ | refine ggf rfl (by assumption) (by rfl) ?_ | refine gal rfl (by assumption) (by rfl) (by omega) (by omega) ?_ | refine gil rfl (by assumption) (by rfl) (by omega) (by omega) ?_ | refine gbl rfl (by assumption) (by rfl) (by omega) (by omega) ?_ | refine gln rfl (xlen_i (by assumption)) ?_ | refine gln rfl (xlen_q (by assumption)) ?_)
            rw [nI_s]
            refine ih (i + 1) _ 0 0 0 (by omega) ?_ hr15 hT15
            rw [eS]
            rw [pW_pW, pW_pW] at hv15
            rw [List.append_assoc]
            exact hv15
    obtain ⟨-, ⟨-, -, -, ⟨fo2, io2, -⟩, -⟩, -⟩ := id V6
    repeat (first | refine gp rfl rfl rfl ?_ | refine ggf rfl (by assumption) (by rfl) ?_ | refine gal rfl (by assumption) (by rfl) (by omega) (by omega) ?_ | refine gil rfl (by assumption) (by rfl) (by omega) (by omega) ?_ | refine gbl rfl (by assumption) (by rfl) (by omega) (by omega) ?_ | refine gln rfl (xlen_i (by assumption)) ?_ | refine gln rfl (xlen_q (by assumption)) ?_)
    exact loop lo.length 0 σ6 0 0 0 (by omega) V6 R6 T6
  obtain ⟨r, σ', hex, rfl, g1, g2, g3⟩ := ex_of (d := d + 2) (y := 44) (as := [.inr (some 21), .inr (some o), .inr (some a), .inr (some b), .inl (nI st)]) (σ := σ) (K := K) (by decide) rfl main
  exact ⟨σ', hex, g1, g2, g3⟩
end
section
/-! MODULE: copies, what was written is taken, marks -/
section XRUN2
variable {E : Nat → List xV → xS → Option xV → xS → Prop} {tb : List xI} {K : Option xV → xS → Prop} {pc len a b w : Nat} {ls : xL} {st : List xV} {σ : xS} {i : Instr}
theorem gcl {idx q n : Nat} {f : Nat → Int32} (hk : xfd tb pc = some (pc, .invokevirtual idx, len, a, 7, w)) (h : σ.1 q = some (.inl (0, n, f))) (h2 : 2 ≤ q) (hr : st.length ≤ 8) (g : xGo E tb K (pc + len, ls, .inr (some σ.2.1) :: st, xnew σ (.inl (0, n, f)) n)) : xGo E tb K (pc, ls, .inr (some q) :: st, σ) := g0 hk (o := .inl _) (show xcall E a 7 (pc + len) ls (.inr (some q) :: st) σ _ from ⟨n, f, h, h2, hr, rfl⟩) g
theorem gcc {idx q n : Nat} {f : Nat → Int32} (hk : xfd tb pc = some (pc, .checkcast idx, len, a, b, w)) (h : σ.1 q = some (.inl (0, n, f))) (h2 : 2 ≤ q) (g : xGo E tb K (pc + len, ls, .inr (some q) :: st, σ)) : xGo E tb K (pc, ls, .inr (some q) :: st, σ) := g0 hk (o := .inl _) ⟨n, f, h, h2, rfl⟩ g
theorem gac {idx q0 q1 n0 n1 N S T : Nat} {f g' : Nat → Int32} {n dp sp : Int32} (hk : xfd tb pc = some (pc, .invokestatic idx, len, a, 8, w)) (h0 : σ.1 q0 = some (.inl (0, n0, f))) (h1 : σ.1 q1 = some (.inl (0, n1, g'))) (e1 : n = nI N) (e2 : dp = nI T) (e3 : sp = nI S) (l1 : S + N ≤ n0) (l2 : T + N ≤ n1) (l3 : S + N < 2147483648) (l4 : T + N < 2147483648) (k0 : 2 ≤ q0) (k1 : 2 ≤ q1) (hne : ¬ q0 = q1) (hr : st.length ≤ 8) (g : xGo E tb K (pc + len, ls, st, xup σ q1 (.inl (0, n1, va_cpy f g' S T N)))) : xGo E tb K (pc, ls, .inl n :: .inl dp :: .inr (some q1) :: .inl sp :: .inr (some q0) :: st, σ) := g0 hk (o := .inl _) (show xcall E a 8 (pc + len) ls (.inl n :: .inl dp :: .inr (some q1) :: .inl sp :: .inr (some q0) :: st) σ _ from ⟨n0, n1, f, g', N, S, T, h0, h1, e1, e2, e3, l1, l2, l3, l4, k0, k1, hne, hr, rfl⟩) g
end XRUN2
theorem xnew_up (σ : xS) (e e' : xE) (n : Nat) : xup (xnew σ e n) σ.2.1 e' = xnew σ e' n := by
  unfold xup xnew
  simp only
  refine congrArg (fun z => (z, _)) ?_
  funext j
  by_cases h : j = σ.2.1
  · simp [h]
  · simp [h]
theorem m_copyOf (d : Nat) {σ : xS} {q n k : Nat} {f : Nat → Int32} (h : σ.1 q = some (.inl (0, n, f))) (hk : k ≤ n) (hn : n ≤ 20000) (hq : 2 ≤ q) (hqn : q ≠ σ.2.1) (hn2 : 2 ≤ σ.2.1) : ∃ f' : Nat → Int32, (∀ j, j < k → f' j = f j) ∧ xEx (d + 1) 1 [.inr (some q), .inl (nI k)] σ (some (.inr (some σ.2.1))) (xnew σ (.inl (0, k, f')) k) := by
  by_cases hkn : k = n
  · subst hkn
    refine ⟨f, fun _ _ => rfl, by decide, rfl, ?_⟩
    show xGo (xEx d) xtb_1 _ (0, [some (.inr (some q)), some (.inl (nI k)), none], [], σ)
    repeat (first | refine gp rfl rfl rfl ?_ | refine ggf rfl (by assumption) (by rfl) ?_ | refine gal rfl (by assumption) (by rfl) (by omega) (by omega) ?_ | refine gil rfl (by assumption) (by rfl) (by omega) (by omega) ?_ | refine gbl rfl (by assumption) (by rfl) (by omega) (by omega) ?_ | refine gln rfl (xlen_i (by assumption)) ?_ | refine gln rfl (xlen_q (by assumption)) ?_)
    refine gcf rfl (fun z => z rfl) ?_
    repeat (first | refine gp rfl rfl rfl ?_ | refine ggf rfl (by assumption) (by rfl) ?_ | refine gal rfl (by assumption) (by rfl) (by omega) (by omega) ?_ | refine gil rfl (by assumption) (by rfl) (by omega) (by omega) ?_ | refine gbl rfl (by assumption) (by rfl) (by omega) (by omega) ?_ | refine gln rfl (xlen_i (by assumption)) ?_ | refine gln rfl (xlen_q (by assumption)) ?_)
    refine gcl rfl h hq (by decide) ?_
    refine gcc rfl (xnew_eq _ _ _) hn2 ?_
    exact gra rfl ⟨rfl, rfl⟩
  · refine ⟨va_cpy f (fun _ => 0) 0 0 k, fun j hj => ?_, by decide, rfl, ?_⟩
    · show (if 0 ≤ j ∧ j < 0 + k then f (0 + (j - 0)) else 0) = f j
      rw [if_pos (by omega), Nat.zero_add, Nat.sub_zero]
    show xGo (xEx d) xtb_1 _ (0, [some (.inr (some q)), some (.inl (nI k)), none], [], σ)
    repeat (first | refine gp rfl rfl rfl ?_ | refine ggf rfl (by assumption) (by rfl) ?_ | refine gal rfl (by assumption) (by rfl) (by omega) (by omega) ?_ | refine gil rfl (by assumption) (by rfl) (by omega) (by omega) ?_ | refine gbl rfl (by assumption) (by rfl) (by omega) (by omega) ?_ | refine gln rfl (xlen_i (by assumption)) ?_ | refine gln rfl (xlen_q (by assumption)) ?_)
    refine gct rfl (fun z => hkn ((nI_eq (by omega) (by omega)).mp z)) ?_
    repeat (first | refine gp rfl rfl rfl ?_ | refine ggf rfl (by assumption) (by rfl) ?_ | refine gal rfl (by assumption) (by rfl) (by omega) (by omega) ?_ | refine gil rfl (by assumption) (by rfl) (by omega) (by omega) ?_ | refine gbl rfl (by assumption) (by rfl) (by omega) (by omega) ?_ | refine gln rfl (xlen_i (by assumption)) ?_ | refine gln rfl (xlen_q (by assumption)) ?_)
    refine gna rfl rfl (by omega) ?_
    have h' : (xnew σ (.inl (0, k, fun _ => 0)) k).1 q = some (.inl (0, n, f)) := by rw [xnew_ne hqn]; exact h
    repeat (first | refine gp rfl rfl rfl ?_ | refine ggf rfl (by assumption) (by rfl) ?_ | refine gal rfl (by assumption) (by rfl) (by omega) (by omega) ?_ | refine gil rfl (by assumption) (by rfl) (by omega) (by omega) ?_ | refine gbl rfl (by assumption) (by rfl) (by omega) (by omega) ?_ | refine gln rfl (xlen_i (by assumption)) ?_ | refine gln rfl (xlen_q (by assumption)) ?_)
    refine gmn rfl (Nat.le_of_ble_eq_true rfl) ?_
    rw [mn_nI (by omega) (by omega), Nat.min_eq_right hk]
    refine gac (N := k) (S := 0) (T := 0) rfl h' (xnew_eq _ _ _) rfl rfl rfl (by omega) (by omega) (by omega) (by omega) hq hn2 hqn (by decide) ?_
    rw [xnew_up]
    repeat (first | refine gp rfl rfl rfl ?_ | refine ggf rfl (by assumption) (by rfl) ?_ | refine gal rfl (by assumption) (by rfl) (by omega) (by omega) ?_ | refine gil rfl (by assumption) (by rfl) (by omega) (by omega) ?_ | refine gbl rfl (by assumption) (by rfl) (by omega) (by omega) ?_ | refine gln rfl (xlen_i (by assumption)) ?_ | refine gln rfl (xlen_q (by assumption)) ?_)
    exact gra rfl ⟨rfl, rfl⟩
theorem m_hasClash (d : Nat) {σ : xS} {w : List Int32} {c : Bool} (h : hLM σ w c) : xEx (d + 1) 50 [.inr (some 21)] σ (some (.inl (bI c))) σ := by
  obtain ⟨h1, -⟩ := h
  refine ⟨by decide, rfl, ?_⟩
  show xGo (xEx d) xtb_50 _ (0, [some (.inr (some 21))], [], σ)
  repeat (first | refine gp rfl rfl rfl ?_ | refine ggf rfl (by assumption) (by rfl) ?_ | refine gal rfl (by assumption) (by rfl) (by omega) (by omega) ?_ | refine gil rfl (by assumption) (by rfl) (by omega) (by omega) ?_ | refine gbl rfl (by assumption) (by rfl) (by omega) (by omega) ?_ | refine gln rfl (xlen_i (by assumption)) ?_ | refine gln rfl (xlen_q (by assumption)) ?_)
  refine gri rfl (fun _ => ?_) ⟨rfl, rfl⟩
  cases c
  · exact Or.inl rfl
  · exact Or.inr rfl
theorem m_takeWritten (d : Nat) {σ : xS} {w : List Int32} {c : Bool} (h : hLM σ w c) (hs : 63 ≤ σ.2.1) : ∃ f' : Nat → Int32, (∀ j, j < w.length → f' j = w.getD j 0) ∧ xEx (d + 2) 51 [.inr (some 21)] σ (some (.inr (some σ.2.1))) (xnew σ (.inl (0, w.length, f')) w.length) := by
  obtain ⟨h1, h2, f, h3, h4⟩ := h
  obtain ⟨f', e1, e2⟩ := m_copyOf d (k := w.length) h3 h2 (by omega) (by decide) (by omega) (by omega)
  refine ⟨f', fun j hj => (e1 j hj).trans (h4 j hj), by decide, rfl, ?_⟩
  show xGo (xEx (d + 1)) xtb_51 _ (0, [some (.inr (some 21))], [], σ)
  repeat (first | refine gp rfl rfl rfl ?_ | refine ggf rfl (by assumption) (by rfl) ?_ | refine gal rfl (by assumption) (by rfl) (by omega) (by omega) ?_ | refine gil rfl (by assumption) (by rfl) (by omega) (by omega) ?_ | refine gbl rfl (by assumption) (by rfl) (by omega) (by omega) ?_ | refine gln rfl (xlen_i (by assumption)) ?_ | refine gln rfl (xlen_q (by assumption)) ?_)
  refine gcs (As := [.inr (some 37), .inl (nI w.length)]) (rest := []) rfl (by decide) e2 rfl rfl (by decide) ?_
  exact gra rfl ⟨rfl, rfl⟩
/-- the merger -/
def hMg (σ : xS) : Prop := σ.1 4 = some (.inr (.inr (4, [.inr (some 5), .inr (some 6), .inr (some 13), .inr (some 20), .inr (some 21)]))) ∧ ∃ g : Nat → Option Nat, σ.1 5 = some (.inr (.inl (1, 3, g))) ∧ g 0 = some 38 ∧ g 1 = some 40 ∧ g 2 = some 42
/-- the codes -/
def hCo (σ : xS) (C : Nat → Int32) : Prop := ∃ f : Nat → Int32, σ.1 20 = some (.inl (0, 64, f)) ∧ ∀ p, p < 64 → f p = C p
def cUp (C : Nat → Int32) (p : Nat) (k : Int32) : Nat → Int32 := fun z => if z = p then C z ||| k else C z
theorem cUp_zero (C : Nat → Int32) (p : Nat) : cUp C p 0 = C := by
  funext z
  unfold cUp
  split
  · exact Int32.or_zero
  · rfl
theorem m_codesAt (d : Nat) {σ : xS} {C : Nat → Int32} {p : Nat} (hM : hMg σ) (hC : hCo σ C) (hp : p < 64) : xEx (d + 2) 60 [.inr (some 4), .inl (nI p)] σ (some (.inl (C p))) σ := by
  obtain ⟨h4, -⟩ := hM
  obtain ⟨f, c1, c2⟩ := hC
  refine ⟨by decide, rfl, ?_⟩
  show xGo (xEx (d + 1)) xtb_60 _ (0, [some (.inr (some 4)), some (.inl (nI p))], [], σ)
  repeat (first | refine gp rfl rfl rfl ?_ | refine ggf rfl (by assumption) (by rfl) ?_ | refine gal rfl (by assumption) (by rfl) (by omega) (by omega) ?_ | refine gil rfl (by assumption) (by rfl) (by omega) (by omega) ?_ | refine gbl rfl (by assumption) (by rfl) (by omega) (by omega) ?_ | refine gln rfl (xlen_i (by assumption)) ?_ | refine gln rfl (xlen_q (by assumption)) ?_)
  refine gcs rfl (by decide) (m_isPath d (nI p) σ) rfl rfl (by decide) ?_
  rw [if_pos (p_ok hp)]
  refine giff rfl (fun h => absurd (show (1 : Int32) = 0 from h) (by decide)) ?_
  repeat (first | refine gp rfl rfl rfl ?_ | refine ggf rfl (by assumption) (by rfl) ?_ | refine gal rfl (by assumption) (by rfl) (by omega) (by omega) ?_ | refine gil rfl (by assumption) (by rfl) (by omega) (by omega) ?_ | refine gbl rfl (by assumption) (by rfl) (by omega) (by omega) ?_ | refine gln rfl (xlen_i (by assumption)) ?_ | refine gln rfl (xlen_q (by assumption)) ?_)
  rw [c2 p hp]
  exact gri rfl (fun h => absurd h (by decide)) ⟨rfl, rfl⟩
theorem m_codesAt_no (d : Nat) {σ : xS} {x : Int32} (hx : ¬ (0 ≤ x ∧ x < nI 64)) : xEx (d + 2) 60 [.inr (some 4), .inl x] σ (some (.inl 0)) σ := by
  refine ⟨by decide, rfl, ?_⟩
  show xGo (xEx (d + 1)) xtb_60 _ (0, [some (.inr (some 4)), some (.inl x)], [], σ)
  repeat (first | refine gp rfl rfl rfl ?_ | refine ggf rfl (by assumption) (by rfl) ?_ | refine gal rfl (by assumption) (by rfl) (by omega) (by omega) ?_ | refine gil rfl (by assumption) (by rfl) (by omega) (by omega) ?_ | refine gbl rfl (by assumption) (by rfl) (by omega) (by omega) ?_ | refine gln rfl (xlen_i (by assumption)) ?_ | refine gln rfl (xlen_q (by assumption)) ?_)
  refine gcs rfl (by decide) (m_isPath d x σ) rfl rfl (by decide) ?_
  rw [if_neg hx]
  refine git rfl (show (0 : Int32) = 0 from rfl) ?_
  repeat (first | refine gp rfl rfl rfl ?_ | refine ggf rfl (by assumption) (by rfl) ?_ | refine gal rfl (by assumption) (by rfl) (by omega) (by omega) ?_ | refine gil rfl (by assumption) (by rfl) (by omega) (by omega) ?_ | refine gbl rfl (by assumption) (by rfl) (by omega) (by omega) ?_ | refine gln rfl (xlen_i (by assumption)) ?_ | refine gln rfl (xlen_q (by assumption)) ?_)
  exact gri rfl (fun h => absurd h (by decide)) ⟨rfl, rfl⟩
theorem m_mark (d : Nat) {σ : xS} {C : Nat → Int32} {p : Nat} {k : Int32} (hM : hMg σ) (hC : hCo σ C) (hp : p < 64) : ∃ f : Nat → Int32, xEx (d + 2) 56 [.inr (some 4), .inl (nI p), .inl k] σ none (xup σ 20 (.inl (0, 64, f))) ∧ hCo (xup σ 20 (.inl (0, 64, f))) (cUp C p k) := by
  obtain ⟨h4, -⟩ := hM
  obtain ⟨f, c1, c2⟩ := hC
  refine ⟨upd f p (f p ||| k), ⟨by decide, rfl, ?_⟩, upd f p (f p ||| k), xup_eq _ _ _, fun z hz => ?_⟩
  · show xGo (xEx (d + 1)) xtb_56 _ (0, [some (.inr (some 4)), some (.inl (nI p)), some (.inl k)], [], σ)
    repeat (first | refine gp rfl rfl rfl ?_ | refine ggf rfl (by assumption) (by rfl) ?_ | refine gal rfl (by assumption) (by rfl) (by omega) (by omega) ?_ | refine gil rfl (by assumption) (by rfl) (by omega) (by omega) ?_ | refine gbl rfl (by assumption) (by rfl) (by omega) (by omega) ?_ | refine gln rfl (xlen_i (by assumption)) ?_ | refine gln rfl (xlen_q (by assumption)) ?_)
    refine gcs rfl (by decide) (m_isPath d (nI p) σ) rfl rfl (by decide) ?_
    rw [if_pos (p_ok hp)]
    refine giff rfl (fun h => absurd (show (1 : Int32) = 0 from h) (by decide)) ?_
    repeat (first | refine gp rfl rfl rfl ?_ | refine ggf rfl (by assumption) (by rfl) ?_ | refine gal rfl (by assumption) (by rfl) (by omega) (by omega) ?_ | refine gil rfl (by assumption) (by rfl) (by omega) (by omega) ?_ | refine gbl rfl (by assumption) (by rfl) (by omega) (by omega) ?_ | refine gln rfl (xlen_i (by assumption)) ?_ | refine gln rfl (xlen_q (by assumption)) ?_)
    refine gis rfl c1 rfl hp (by omega) (by decide) ?_
    exact grv rfl ⟨rfl, rfl⟩
  · unfold cUp upd
    split
    · rename_i hzp
      subst hzp
      rw [c2 z hz]
    · exact c2 z hz
end
section
/-! MODULE: two versions of a file over a third, the class -/
def pLn (o : Option pF) : List Int32 := match o with
  | some O => O.2
  | none => []
def pLk (o : Option pF) : Bool := match o with
  | some O => O.1
  | none => false
def pMg2 (st : Nat) (o a b : Option pF) : Option pF × Int32 := match a, b with
  | none, b => (b, nI 4)
  | some A, none => (some A, nI 4)
  | some A, some B => if A.1 || B.1 || pLk o then (some A, nI 8) else (some (false, pW [] (pJoin st (pLn o) A.2 B.2)), if pJbad st (pLn o) A.2 B.2 then (if o.isNone then nI 2 else nI 1) else 0)
def pMerge (st : Nat) (o a b : Option pF) : Option pF × Int32 := if a = b then (a, 0) else if o = a then (b, 0) else if o = b then (a, 0) else pMg2 st o a b
def hFresh (σ : xS) : Prop := 63 ≤ σ.2.1 ∧ ∀ k, σ.2.1 ≤ k → σ.1 k = none
/-- what a merge of files leaves: what was made stays; c more cells, s more slots at most; the codes, the merger of lines alone changed -/
def hGr (σ σ' : xS) (c s : Nat) : Prop := hKeep σ σ' ∧ (∀ k, k < 63 → (k < 20 ∨ 37 < k) → σ'.1 k = σ.1 k) ∧ σ.2.1 ≤ σ'.2.1 ∧ σ'.2.1 ≤ σ.2.1 + c ∧ σ'.2.2 ≤ σ.2.2 + s ∧ hFresh σ'
theorem hFresh.of2 {σ σ' : xS} (h : hFresh σ) (h2 : σ'.2 = σ.2) (h3 : ∀ k, 63 ≤ k → σ'.1 k = σ.1 k) : hFresh σ' := ⟨by rw [h2]; exact h.1, fun k hk => by rw [h2] at hk; rw [h3 k (Nat.le_trans h.1 hk)]; exact h.2 k hk⟩
theorem hGr.refl {σ : xS} (h : hFresh σ) (c s : Nat) : hGr σ σ c s := ⟨hKeep.refl σ, fun _ _ _ => rfl, Nat.le_refl _, by omega, by omega, h⟩
theorem hGr.trans {a b c : xS} {c1 s1 c2 s2 : Nat} (h1 : hGr a b c1 s1) (h2 : hGr b c c2 s2) : hGr a c (c1 + c2) (s1 + s2) := by
  obtain ⟨a1, a2, a3, a4, a5, a6⟩ := h1
  obtain ⟨b1, b2, b3, b4, b5, b6⟩ := h2
  exact ⟨a1.trans b1, fun k hk hk' => (b2 k hk hk').trans (a2 k hk hk'), by omega, by omega, by omega, b6⟩
theorem hGr.of_fr {lo hi : Nat} {σ σ' : xS} (hf : hFresh σ) (h : hFr lo hi σ σ') (h1 : 20 ≤ lo) (h2 : hi ≤ 37) (c s : Nat) : hGr σ σ' c s := ⟨h.keep (by omega), fun k _ hk => h.2 k (by omega), by rw [h.1]; exact Nat.le_refl _, by rw [h.1]; omega, by rw [h.1]; omega, hf.of2 h.1 (fun k hk => h.2 k (by omega))⟩
theorem hGr.new {σ : xS} {e : xE} {n : Nat} (hf : hFresh σ) : hGr σ (xnew σ e n) 1 n := by
  obtain ⟨h1, h2⟩ := hf
  refine ⟨fun k e' hk hs => ?_, fun k hk _ => xnew_ne (by omega), Nat.le_succ _, Nat.le_refl _, Nat.le_refl _, Nat.le_succ_of_le h1, fun k hk => ?_⟩
  · rw [xnew_ne]
    · exact hs
    · intro z
      rw [h2 k (by omega)] at hs
      cases hs
  · have hk : σ.2.1 + 1 ≤ k := hk
    rw [xnew_ne (by omega)]
    exact h2 k (by omega)
theorem hMg.of {σ σ' : xS} (h : hMg σ) (hk : ∀ k, k < 63 → (k < 20 ∨ 37 < k) → σ'.1 k = σ.1 k) : hMg σ' := by
  obtain ⟨h1, g, h2, h3⟩ := h
  exact ⟨by rw [hk 4 (by decide) (by decide)]; exact h1, g, by rw [hk 5 (by decide) (by decide)]; exact h2, h3⟩
theorem hCo.of {σ σ' : xS} {C : Nat → Int32} (h : hCo σ C) (hk : σ'.1 20 = σ.1 20) : hCo σ' C := by
  obtain ⟨f, h1, h2⟩ := h
  exact ⟨f, by rw [hk]; exact h1, h2⟩
theorem hL0.of {σ σ' : xS} (h : hL0 σ) (hk : ∀ k, 21 ≤ k → k ≤ 37 → σ'.1 k = σ.1 k) : hL0 σ' := by
  obtain ⟨⟨w, c, h1, h2, f, h3, h4⟩, ⟨F, t1, t2⟩, ⟨fa, ha⟩, ⟨fb, hb⟩, ⟨x1, y1, z1, e1⟩, ⟨x2, y2, z2, e2⟩, ⟨x3, y3, z3, e3⟩⟩ := h
  exact ⟨⟨w, c, by rw [hk 21 (by decide) (by decide)]; exact h1, h2, f, by rw [hk 37 (by decide) (by decide)]; exact h3, h4⟩, ⟨F, by rw [hk 22 (by decide) (by decide)]; exact t1, fun i hi => by rw [hk _ (by omega) (by omega)]; exact t2 i hi⟩, ⟨fa, by rw [hk 32 (by decide) (by decide)]; exact ha⟩, ⟨fb, by rw [hk 33 (by decide) (by decide)]; exact hb⟩, ⟨x1, y1, z1, by rw [hk 34 (by decide) (by decide)]; exact e1⟩, ⟨x2, y2, z2, by rw [hk 35 (by decide) (by decide)]; exact e2⟩, ⟨x3, y3, z3, by rw [hk 36 (by decide) (by decide)]; exact e3⟩⟩
theorem hLM.of {σ σ' : xS} {w : List Int32} {c : Bool} (h : hLM σ w c) (hk : ∀ k, 21 ≤ k → k ≤ 37 → σ'.1 k = σ.1 k) : hLM σ' w c := by
  obtain ⟨h1, h2, f, h3, h4⟩ := h
  exact ⟨by rw [hk 21 (by decide) (by decide)]; exact h1, h2, f, by rw [hk 37 (by decide) (by decide)]; exact h3, h4⟩
theorem m_mergeFiles (d : Nat) {σ : xS} {p st : Nat} {qo qa qb : Option Nat} {o a b : Option pF} {C : Nat → Int32} (hM : hMg σ) (hL : hL0 σ) (hC : hCo σ C) (hN : hInts σ 1 []) (hf : hFresh σ) (ho : hOpt σ qo o) (ha : hOpt σ qa a) (hb : hOpt σ qb b) (so : ∀ O, o = some O → O.2.length ≤ 8) (hp : p < 64) (hst : st < 1000) :
    ∃ (σ' : xS) (r : Option Nat), xEx (d + 4) 58 [.inr (some 4), .inl (nI p), .inr qo, .inr qa, .inr qb, .inl (nI st)] σ (some (.inr r)) σ' ∧ hOpt σ' r (pMerge st o a b).1 ∧ hCo σ' (cUp C p (pMerge st o a b).2) ∧ hL0 σ' ∧ hGr σ σ' 2 78 := by
  generalize hX : pMerge st o a b = X
  let K : Option xV → xS → Prop := fun r0 σ0 => ∃ r, r0 = some (.inr r) ∧ hOpt σ0 r X.1 ∧ hCo σ0 (cUp C p X.2) ∧ hL0 σ0 ∧ hGr σ σ0 2 78
  have done : ∀ (r : Option Nat) (F : Option pF), hOpt σ r F → X = (F, 0) → K (some (.inr r)) σ := by
    intro r F h1 h2
    refine ⟨r, rfl, ?_, ?_, hL, hGr.refl hf _ _⟩
    · rw [h2]; exact h1
    · rw [h2, cUp_zero]; exact hC
  have mk : ∀ (k : Int32) (r : Option Nat) (F : Option pF) (f : Nat → Int32), hOpt σ r F → X = (F, k) → hCo (xup σ 20 (.inl (0, 64, f))) (cUp C p k) → K (some (.inr r)) (xup σ 20 (.inl (0, 64, f))) := by
    intro k r F f h1 h2 h3
    refine ⟨r, rfl, ?_, ?_, hL.of (fun k h1 h2 => xup_ne (by omega)), hGr.of_fr hf (hFr.up (lo := 20) (hi := 20) (by omega) (by omega)) (by omega) (by omega) _ _⟩
    · rw [h2]; exact h1.keep (hKeep.up (by omega))
    · rw [h2]; exact h3
  have main : xGo (xEx (d + 3)) xtb_58 K (0, [some (.inr (some 4)), some (.inl (nI p)), some (.inr qo), some (.inr qa), some (.inr qb), some (.inl (nI st))], [], σ) := by
    repeat (first | refine gp rfl rfl rfl ?_ | refine ggf rfl (by assumption) (by rfl) ?_ | refine gal rfl (by assumption) (by rfl) (by omega) (by omega) ?_ | refine gil rfl (by assumption) (by rfl) (by omega) (by omega) ?_ | refine gbl rfl (by assumption) (by rfl) (by omega) (by omega) ?_ | refine gln rfl (xlen_i (by assumption)) ?_ | refine gln rfl (xlen_q (by assumption)) ?_)
    refine gcs (As := [.inr qa, .inr qb]) (rest := []) rfl (by decide) (m_same (d + 1) ha hb) rfl rfl (by decide) ?_
    by_cases hab : a = b
    · rw [decide_eq_true hab]
      refine giff rfl (fun h => absurd (show (1 : Int32) = 0 from h) (by decide)) ?_
      repeat (first | refine gp rfl rfl rfl ?_ | refine ggf rfl (by assumption) (by rfl) ?_ | refine gal rfl (by assumption) (by rfl) (by omega) (by omega) ?_ | refine gil rfl (by assumption) (by rfl) (by omega) (by omega) ?_ | refine gbl rfl (by assumption) (by rfl) (by omega) (by omega) ?_ | refine gln rfl (xlen_i (by assumption)) ?_ | refine gln rfl (xlen_q (by assumption)) ?_)
      exact gra rfl (done qa a ha (by rw [← hX]; unfold pMerge; rw [if_pos hab]))
    rw [decide_eq_false hab]
    refine git rfl (show (0 : Int32) = 0 from rfl) ?_
    repeat (first | refine gp rfl rfl rfl ?_ | refine ggf rfl (by assumption) (by rfl) ?_ | refine gal rfl (by assumption) (by rfl) (by omega) (by omega) ?_ | refine gil rfl (by assumption) (by rfl) (by omega) (by omega) ?_ | refine gbl rfl (by assumption) (by rfl) (by omega) (by omega) ?_ | refine gln rfl (xlen_i (by assumption)) ?_ | refine gln rfl (xlen_q (by assumption)) ?_)
    refine gcs (As := [.inr qo, .inr qa]) (rest := []) rfl (by decide) (m_same (d + 1) ho ha) rfl rfl (by decide) ?_
    by_cases hoa : o = a
    · rw [decide_eq_true hoa]
      refine giff rfl (fun h => absurd (show (1 : Int32) = 0 from h) (by decide)) ?_
      repeat (first | refine gp rfl rfl rfl ?_ | refine ggf rfl (by assumption) (by rfl) ?_ | refine gal rfl (by assumption) (by rfl) (by omega) (by omega) ?_ | refine gil rfl (by assumption) (by rfl) (by omega) (by omega) ?_ | refine gbl rfl (by assumption) (by rfl) (by omega) (by omega) ?_ | refine gln rfl (xlen_i (by assumption)) ?_ | refine gln rfl (xlen_q (by assumption)) ?_)
      exact gra rfl (done qb b hb (by rw [← hX]; unfold pMerge; rw [if_neg hab, if_pos hoa]))
    rw [decide_eq_false hoa]
    refine git rfl (show (0 : Int32) = 0 from rfl) ?_
    repeat (first | refine gp rfl rfl rfl ?_ | refine ggf rfl (by assumption) (by rfl) ?_ | refine gal rfl (by assumption) (by rfl) (by omega) (by omega) ?_ | refine gil rfl (by assumption) (by rfl) (by omega) (by omega) ?_ | refine gbl rfl (by assumption) (by rfl) (by omega) (by omega) ?_ | refine gln rfl (xlen_i (by assumption)) ?_ | refine gln rfl (xlen_q (by assumption)) ?_)
    refine gcs (As := [.inr qo, .inr qb]) (rest := []) rfl (by decide) (m_same (d + 1) ho hb) rfl rfl (by decide) ?_
    by_cases hob : o = b
    · rw [decide_eq_true hob]
      refine giff rfl (fun h => absurd (show (1 : Int32) = 0 from h) (by decide)) ?_
      repeat (first | refine gp rfl rfl rfl ?_ | refine ggf rfl (by assumption) (by rfl) ?_ | refine gal rfl (by assumption) (by rfl) (by omega) (by omega) ?_ | refine gil rfl (by assumption) (by rfl) (by omega) (by omega) ?_ | refine gbl rfl (by assumption) (by rfl) (by omega) (by omega) ?_ | refine gln rfl (xlen_i (by assumption)) ?_ | refine gln rfl (xlen_q (by assumption)) ?_)
      exact gra rfl (done qa a ha (by rw [← hX]; unfold pMerge; rw [if_neg hab, if_neg hoa, if_pos hob]))
    rw [decide_eq_false hob]
    refine git rfl (show (0 : Int32) = 0 from rfl) ?_
    have e0 : X = pMg2 st o a b := by rw [← hX]; unfold pMerge; rw [if_neg hab, if_neg hoa, if_neg hob]
    have h4 := hM.1
    match qa, a, ha, qb, b, hb, hab, hoa, hob, e0 with
    | none, none, ha, qb, b, hb, hab, hoa, hob, e0 =>
      repeat (first | refine gp rfl rfl rfl ?_ | refine ggf rfl (by assumption) (by rfl) ?_ | refine gal rfl (by assumption) (by rfl) (by omega) (by omega) ?_ | refine gil rfl (by assumption) (by rfl) (by omega) (by omega) ?_ | refine gbl rfl (by assumption) (by rfl) (by omega) (by omega) ?_ | refine gln rfl (xlen_i (by assumption)) ?_ | refine gln rfl (xlen_q (by assumption)) ?_)
      refine gnl rfl (fun _ => ?_) (fun z hz => by cases hz)
      repeat (first | refine gp rfl rfl rfl ?_ | refine ggf rfl (by assumption) (by rfl) ?_ | refine gal rfl (by assumption) (by rfl) (by omega) (by omega) ?_ | refine gil rfl (by assumption) (by rfl) (by omega) (by omega) ?_ | refine gbl rfl (by assumption) (by rfl) (by omega) (by omega) ?_ | refine gln rfl (xlen_i (by assumption)) ?_ | refine gln rfl (xlen_q (by assumption)) ?_)
      obtain ⟨f, x1, x2⟩ := m_mark (d + 1) (k := nI 4) hM hC hp
      refine gcv (As := [.inl (nI p), .inl (nI 4)]) (rest := []) rfl (by decide) x1 h4 rfl rfl (by decide) ?_
      repeat (first | refine gp rfl rfl rfl ?_ | refine ggf rfl (by assumption) (by rfl) ?_ | refine gal rfl (by assumption) (by rfl) (by omega) (by omega) ?_ | refine gil rfl (by assumption) (by rfl) (by omega) (by omega) ?_ | refine gbl rfl (by assumption) (by rfl) (by omega) (by omega) ?_ | refine gln rfl (xlen_i (by assumption)) ?_ | refine gln rfl (xlen_q (by assumption)) ?_)
      refine gnn rfl (fun z hz => by cases hz) (fun _ => ?_)
      repeat (first | refine gp rfl rfl rfl ?_ | refine ggf rfl (by assumption) (by rfl) ?_ | refine gal rfl (by assumption) (by rfl) (by omega) (by omega) ?_ | refine gil rfl (by assumption) (by rfl) (by omega) (by omega) ?_ | refine gbl rfl (by assumption) (by rfl) (by omega) (by omega) ?_ | refine gln rfl (xlen_i (by assumption)) ?_ | refine gln rfl (xlen_q (by assumption)) ?_)
      exact gra rfl (mk _ qb b f hb e0 x2)
    | some za, some A, ha, none, none, hb, hab, hoa, hob, e0 =>
      repeat (first | refine gp rfl rfl rfl ?_ | refine ggf rfl (by assumption) (by rfl) ?_ | refine gal rfl (by assumption) (by rfl) (by omega) (by omega) ?_ | refine gil rfl (by assumption) (by rfl) (by omega) (by omega) ?_ | refine gbl rfl (by assumption) (by rfl) (by omega) (by omega) ?_ | refine gln rfl (xlen_i (by assumption)) ?_ | refine gln rfl (xlen_q (by assumption)) ?_)
      refine gnl rfl (fun z => by cases z) (fun z hz => ?_)
      repeat (first | refine gp rfl rfl rfl ?_ | refine ggf rfl (by assumption) (by rfl) ?_ | refine gal rfl (by assumption) (by rfl) (by omega) (by omega) ?_ | refine gil rfl (by assumption) (by rfl) (by omega) (by omega) ?_ | refine gbl rfl (by assumption) (by rfl) (by omega) (by omega) ?_ | refine gln rfl (xlen_i (by assumption)) ?_ | refine gln rfl (xlen_q (by assumption)) ?_)
      refine gnn rfl (fun z hz => by cases hz) (fun _ => ?_)
      repeat (first | refine gp rfl rfl rfl ?_ | refine ggf rfl (by assumption) (by rfl) ?_ | refine gal rfl (by assumption) (by rfl) (by omega) (by omega) ?_ | refine gil rfl (by assumption) (by rfl) (by omega) (by omega) ?_ | refine gbl rfl (by assumption) (by rfl) (by omega) (by omega) ?_ | refine gln rfl (xlen_i (by assumption)) ?_ | refine gln rfl (xlen_q (by assumption)) ?_)
      obtain ⟨f, x1, x2⟩ := m_mark (d + 1) (k := nI 4) hM hC hp
      refine gcv (As := [.inl (nI p), .inl (nI 4)]) (rest := []) rfl (by decide) x1 h4 rfl rfl (by decide) ?_
      repeat (first | refine gp rfl rfl rfl ?_ | refine ggf rfl (by assumption) (by rfl) ?_ | refine gal rfl (by assumption) (by rfl) (by omega) (by omega) ?_ | refine gil rfl (by assumption) (by rfl) (by omega) (by omega) ?_ | refine gbl rfl (by assumption) (by rfl) (by omega) (by omega) ?_ | refine gln rfl (xlen_i (by assumption)) ?_ | refine gln rfl (xlen_q (by assumption)) ?_)
      refine gnn rfl (fun z hz => ?_) (fun z => by cases z)
      repeat (first | refine gp rfl rfl rfl ?_ | refine ggf rfl (by assumption) (by rfl) ?_ | refine gal rfl (by assumption) (by rfl) (by omega) (by omega) ?_ | refine gil rfl (by assumption) (by rfl) (by omega) (by omega) ?_ | refine gbl rfl (by assumption) (by rfl) (by omega) (by omega) ?_ | refine gln rfl (xlen_i (by assumption)) ?_ | refine gln rfl (xlen_q (by assumption)) ?_)
      exact gra rfl (mk _ (some za) (some A) f ha e0 x2)
    | some za, some A, ha, some zb, some B, hb, hab, hoa, hob, e0 =>
      obtain ⟨ba, a1, a2, a3, a4, a5⟩ := id (show hFile σ za A from ha)
      obtain ⟨bb, b1, b2, b3, b4, b5⟩ := id (show hFile σ zb B from hb)
      repeat (first | refine gp rfl rfl rfl ?_ | refine ggf rfl (by assumption) (by rfl) ?_ | refine gal rfl (by assumption) (by rfl) (by omega) (by omega) ?_ | refine gil rfl (by assumption) (by rfl) (by omega) (by omega) ?_ | refine gbl rfl (by assumption) (by rfl) (by omega) (by omega) ?_ | refine gln rfl (xlen_i (by assumption)) ?_ | refine gln rfl (xlen_q (by assumption)) ?_)
      refine gnl rfl (fun z => by cases z) (fun z hz => ?_)
      repeat (first | refine gp rfl rfl rfl ?_ | refine ggf rfl (by assumption) (by rfl) ?_ | refine gal rfl (by assumption) (by rfl) (by omega) (by omega) ?_ | refine gil rfl (by assumption) (by rfl) (by omega) (by omega) ?_ | refine gbl rfl (by assumption) (by rfl) (by omega) (by omega) ?_ | refine gln rfl (xlen_i (by assumption)) ?_ | refine gln rfl (xlen_q (by assumption)) ?_)
      refine gnn rfl (fun z hz => ?_) (fun z => by cases z)
      have kinds : (A.1 || B.1 || pLk o) = true → xGo (xEx (d + 3)) xtb_58 K (85, [some (.inr (some 4)), some (.inl (nI p)), some (.inr qo), some (.inr (some za)), some (.inr (some zb)), some (.inl (nI st))], [], σ) := by
        intro hk
        repeat (first | refine gp rfl rfl rfl ?_ | refine ggf rfl (by assumption) (by rfl) ?_ | refine gal rfl (by assumption) (by rfl) (by omega) (by omega) ?_ | refine gil rfl (by assumption) (by rfl) (by omega) (by omega) ?_ | refine gbl rfl (by assumption) (by rfl) (by omega) (by omega) ?_ | refine gln rfl (xlen_i (by assumption)) ?_ | refine gln rfl (xlen_q (by assumption)) ?_)
        obtain ⟨f, x1, x2⟩ := m_mark (d + 1) (k := nI 8) hM hC hp
        refine gcv (As := [.inl (nI p), .inl (nI 8)]) (rest := []) rfl (by decide) x1 h4 rfl rfl (by decide) ?_
        repeat (first | refine gp rfl rfl rfl ?_ | refine ggf rfl (by assumption) (by rfl) ?_ | refine gal rfl (by assumption) (by rfl) (by omega) (by omega) ?_ | refine gil rfl (by assumption) (by rfl) (by omega) (by omega) ?_ | refine gbl rfl (by assumption) (by rfl) (by omega) (by omega) ?_ | refine gln rfl (xlen_i (by assumption)) ?_ | refine gln rfl (xlen_q (by assumption)) ?_)
        exact gra rfl (mk _ (some za) (some A) f ha (by rw [e0]; show (if A.1 || B.1 || pLk o then _ else _) = _; rw [if_pos hk]) x2)
      have text : (A.1 || B.1 || pLk o) = false → ∀ bo : Nat, hInts σ bo (pLn o) → far bo → xGo (xEx (d + 3)) xtb_58 K (123, [some (.inr (some 4)), some (.inl (nI p)), some (.inr qo), some (.inr (some za)), some (.inr (some zb)), some (.inl (nI st))], [.inl (nI st), .inr (some bb), .inr (some ba), .inr (some bo), .inr (some 21)], σ) := by
        intro hk bo hbo hfar
        have sl : (pLn o).length ≤ 8 := by
          cases o with
          | none => exact Nat.zero_le _
          | some O => exact so O rfl
        obtain ⟨σ1, j1, j2, j3, j4⟩ := m_join d (st := st) hL hbo a2 b2 hfar (Or.inr a5) (Or.inr b5) sl a3 b3 hst
        obtain ⟨w0, c0, h21, -⟩ := hL.1
        refine gcv (As := [.inr (some bo), .inr (some ba), .inr (some bb), .inl (nI st)]) (rest := []) rfl (by decide) j1 h21 rfl rfl (by decide) ?_
        have g1 : hGr σ σ1 0 0 := hGr.of_fr hf j4 (by omega) (by omega) _ _
        have M1 := hM.of g1.2.1
        have C1 : hCo σ1 C := hC.of (j4.2 20 (by omega))
        have k4 := M1.1
        have k21 := j2.1
        have e1 : X = (some (false, pW [] (pJoin st (pLn o) A.2 B.2)), if pJbad st (pLn o) A.2 B.2 then (if o.isNone then nI 2 else nI 1) else 0) := by rw [e0]; show (if A.1 || B.1 || pLk o then _ else _) = _; rw [if_neg (by rw [hk]; decide)]
        have fin : ∀ (σ2 : xS) (cd : Int32), hLM σ2 (pW [] (pJoin st (pLn o) A.2 B.2)) (pJbad st (pLn o) A.2 B.2) → hL0 σ2 → hMg σ2 → hCo σ2 (cUp C p cd) → hGr σ σ2 0 0 → cd = (if pJbad st (pLn o) A.2 B.2 then (if o.isNone then nI 2 else nI 1) else 0) → xGo (xEx (d + 3)) xtb_58 K (150, [some (.inr (some 4)), some (.inl (nI p)), some (.inr qo), some (.inr (some za)), some (.inr (some zb)), some (.inl (nI st))], [], σ2) := by
          intro σ2 cd l2 l0 m2 c2 g2 hcd
          have f2 := g2.2.2.2.2.2
          have g3 : hGr σ2 (xnew σ2 (.inr (.inr (1, xdf 1))) 2) 1 2 := hGr.new f2
          have f3 := g3.2.2.2.2.2
          have m3 := m2.of g3.2.1
          have k4' := m3.1
          have l3 : hLM (xnew σ2 (.inr (.inr (1, xdf 1))) 2) _ _ := l2.of (fun k h1 h2 => xnew_ne (by have := f2.1; omega))
          have k21' := l3.1
          have n1 : (xnew σ2 (.inr (.inr (1, xdf 1))) 2).1 σ2.2.1 = some (.inr (.inr (1, [.inl 0, .inr none]))) := xnew_eq _ _ _
          have n2 : (xnew σ2 (.inr (.inr (1, xdf 1))) 2).2.1 = σ2.2.1 + 1 := rfl
          repeat (first | refine gp rfl rfl rfl ?_ | refine ggf rfl (by assumption) (by rfl) ?_ | refine gal rfl (by assumption) (by rfl) (by omega) (by omega) ?_ | refine gil rfl (by assumption) (by rfl) (by omega) (by omega) ?_ | refine gbl rfl (by assumption) (by rfl) (by omega) (by omega) ?_ | refine gln rfl (xlen_i (by assumption)) ?_ | refine gln rfl (xlen_q (by assumption)) ?_)
          obtain ⟨f', y1, y2⟩ := m_takeWritten (d + 1) l3 f3.1
          refine gcv (As := []) (rest := [.inl (nI 0), .inr (some σ2.2.1), .inr (some σ2.2.1)]) rfl (by decide) y2 k21' rfl rfl (Nat.le_of_ble_eq_true rfl) ?_
          have n3 : (xnew (xnew σ2 (.inr (.inr (1, xdf 1))) 2) (.inl (0, (pW [] (pJoin st (pLn o) A.2 B.2)).length, f')) (pW [] (pJoin st (pLn o) A.2 B.2)).length).1 σ2.2.1 = some (.inr (.inr (1, [.inl 0, .inr none]))) := by rw [xnew_ne (by rw [n2]; omega)]; exact n1
          have g4 : hGr (xnew σ2 (.inr (.inr (1, xdf 1))) 2) (xnew (xnew σ2 (.inr (.inr (1, xdf 1))) 2) (.inl (0, (pW [] (pJoin st (pLn o) A.2 B.2)).length, f')) (pW [] (pJoin st (pLn o) A.2 B.2)).length) 1 _ := hGr.new f3
          have n4 := xnew_eq (xnew σ2 (.inr (.inr (1, xdf 1))) 2) (.inl (0, (pW [] (pJoin st (pLn o) A.2 B.2)).length, f')) (pW [] (pJoin st (pLn o) A.2 B.2)).length
          rw [n2] at n4
          refine gci (As := [.inl (bI false), .inr (some (σ2.2.1 + 1))]) (rest := [.inr (some σ2.2.1)]) rfl (by decide) (m_TreeFile (d + 2) n3) rfl rfl (Nat.le_of_ble_eq_true rfl) ?_
          have w76 := pW_len [] (pJoin st (pLn o) A.2 B.2)
          have f63 := f2.1
          have g0 := g2.2.2.1
          have low : ∀ k, k < 63 → (xup (xnew (xnew σ2 (.inr (.inr (1, xdf 1))) 2) (.inl (0, (pW [] (pJoin st (pLn o) A.2 B.2)).length, f')) (pW [] (pJoin st (pLn o) A.2 B.2)).length) σ2.2.1 (.inr (.inr (1, [.inl (bI false), .inr (some (σ2.2.1 + 1))])))).1 k = σ2.1 k := fun k hk => by rw [xup_ne (by omega), xnew_ne (by rw [n2]; omega), xnew_ne (by omega)]
          refine gra rfl ⟨some σ2.2.1, rfl, ?_, ?_, ?_, ?_⟩
          · rw [e1]
            refine ⟨σ2.2.1 + 1, xup_eq _ _ _, ⟨f', ?_, y1⟩, w76, f63, by omega⟩
            rw [xup_ne (by omega)]
            exact n4
          · rw [e1]
            rw [hcd] at c2
            exact c2.of (low 20 (by decide))
          · exact l0.of (fun k h1 h2 => low k (by omega))
          · refine ⟨fun k e hk hs => ?_, fun k hk hk' => (low k hk).trans (g2.2.1 k hk hk'), ?_, ?_, ?_, ?_, ?_⟩
            · have := g4.1 k e hk (g3.1 k e hk (g2.1 k e hk hs))
              by_cases hkq : k = σ2.2.1
              · subst hkq
                have z := g2.1 _ e hk hs
                rw [f2.2 _ (Nat.le_refl _)] at z
                cases z
              · rw [xup_ne hkq]; exact this
            · show σ.2.1 ≤ σ2.2.1 + 1 + 1
              omega
            · show σ2.2.1 + 1 + 1 ≤ σ.2.1 + 2
              have := g2.2.2.2.1
              omega
            · show σ2.2.2 + 2 + (pW [] (pJoin st (pLn o) A.2 B.2)).length ≤ σ.2.2 + 78
              have := g2.2.2.2.2.1
              omega
            · show 63 ≤ σ2.2.1 + 1 + 1
              omega
            · intro k hk
              have hk : σ2.2.1 + 1 + 1 ≤ k := hk
              rw [xup_ne (by omega), xnew_ne (by rw [n2]; omega), xnew_ne (by omega)]
              exact f2.2 k (by omega)
        repeat (first | refine gp rfl rfl rfl ?_ | refine ggf rfl (by assumption) (by rfl) ?_ | refine gal rfl (by assumption) (by rfl) (by omega) (by omega) ?_ | refine gil rfl (by assumption) (by rfl) (by omega) (by omega) ?_ | refine gbl rfl (by assumption) (by rfl) (by omega) (by omega) ?_ | refine gln rfl (xlen_i (by assumption)) ?_ | refine gln rfl (xlen_q (by assumption)) ?_)
        refine gcv (As := []) (rest := []) rfl (by decide) (m_hasClash (d + 2) j2) k21 rfl rfl (by decide) ?_
        cases hbad : pJbad st (pLn o) A.2 B.2 with
        | false =>
          refine git rfl (show (0 : Int32) = 0 from rfl) ?_
          exact fin σ1 0 j2 j3 M1 (by rw [cUp_zero]; exact C1) g1 (by rw [hbad]; rfl)
        | true =>
          refine giff rfl (fun h => absurd (show (1 : Int32) = 0 from h) (by decide)) ?_
          have mkd : ∀ cd : Int32, cd = (if o.isNone then nI 2 else nI 1) → xGo (xEx (d + 3)) xtb_58 K (147, [some (.inr (some 4)), some (.inl (nI p)), some (.inr qo), some (.inr (some za)), some (.inr (some zb)), some (.inl (nI st))], [.inl cd, .inl (nI p), .inr (some 4)], σ1) := by
            intro cd hcd
            obtain ⟨f, x1, x2⟩ := m_mark (d + 1) (k := cd) M1 C1 hp
            refine gcv (As := [.inl (nI p), .inl cd]) (rest := []) rfl (by decide) x1 k4 rfl rfl (by decide) ?_
            have g5 : hGr σ1 (xup σ1 20 (.inl (0, 64, f))) 0 0 := hGr.of_fr g1.2.2.2.2.2 (hFr.up (lo := 20) (hi := 20) (by omega) (by omega)) (by omega) (by omega) _ _
            exact fin _ cd (j2.of (fun k h1 h2 => xup_ne (by omega))) (j3.of (fun k h1 h2 => xup_ne (by omega))) (M1.of g5.2.1) x2 (g1.trans g5) (by rw [hbad, if_pos rfl]; exact hcd)
          repeat (first | refine gp rfl rfl rfl ?_ | refine ggf rfl (by assumption) (by rfl) ?_ | refine gal rfl (by assumption) (by rfl) (by omega) (by omega) ?_ | refine gil rfl (by assumption) (by rfl) (by omega) (by omega) ?_ | refine gbl rfl (by assumption) (by rfl) (by omega) (by omega) ?_ | refine gln rfl (xlen_i (by assumption)) ?_ | refine gln rfl (xlen_q (by assumption)) ?_)
          match qo, o, ho, mkd with
          | none, none, _, mkd =>
            refine gnn rfl (fun z hz => by cases hz) (fun _ => ?_)
            repeat (first | refine gp rfl rfl rfl ?_ | refine ggf rfl (by assumption) (by rfl) ?_ | refine gal rfl (by assumption) (by rfl) (by omega) (by omega) ?_ | refine gil rfl (by assumption) (by rfl) (by omega) (by omega) ?_ | refine gbl rfl (by assumption) (by rfl) (by omega) (by omega) ?_ | refine gln rfl (xlen_i (by assumption)) ?_ | refine gln rfl (xlen_q (by assumption)) ?_)
            exact mkd _ rfl
          | some zo, some O, _, mkd =>
            refine gnn rfl (fun z hz => ?_) (fun z => by cases z)
            repeat (first | refine gp rfl rfl rfl ?_ | refine ggf rfl (by assumption) (by rfl) ?_ | refine gal rfl (by assumption) (by rfl) (by omega) (by omega) ?_ | refine gil rfl (by assumption) (by rfl) (by omega) (by omega) ?_ | refine gbl rfl (by assumption) (by rfl) (by omega) (by omega) ?_ | refine gln rfl (xlen_i (by assumption)) ?_ | refine gln rfl (xlen_q (by assumption)) ?_)
            exact mkd _ rfl
      repeat (first | refine gp rfl rfl rfl ?_ | refine ggf rfl (by assumption) (by rfl) ?_ | refine gal rfl (by assumption) (by rfl) (by omega) (by omega) ?_ | refine gil rfl (by assumption) (by rfl) (by omega) (by omega) ?_ | refine gbl rfl (by assumption) (by rfl) (by omega) (by omega) ?_ | refine gln rfl (xlen_i (by assumption)) ?_ | refine gln rfl (xlen_q (by assumption)) ?_)
      cases hA1 : A.1 with
      | true =>
        refine git rfl (fun h => absurd (show (1 : Int32) = 0 from h) (by decide)) ?_
        exact kinds (by rw [hA1]; rfl)
      | false =>
        refine giff rfl (fun h => h (show (0 : Int32) = 0 from rfl)) ?_
        repeat (first | refine gp rfl rfl rfl ?_ | refine ggf rfl (by assumption) (by rfl) ?_ | refine gal rfl (by assumption) (by rfl) (by omega) (by omega) ?_ | refine gil rfl (by assumption) (by rfl) (by omega) (by omega) ?_ | refine gbl rfl (by assumption) (by rfl) (by omega) (by omega) ?_ | refine gln rfl (xlen_i (by assumption)) ?_ | refine gln rfl (xlen_q (by assumption)) ?_)
        cases hB1 : B.1 with
        | true =>
          refine git rfl (fun h => absurd (show (1 : Int32) = 0 from h) (by decide)) ?_
          exact kinds (by rw [hA1, hB1]; rfl)
        | false =>
          refine giff rfl (fun h => h (show (0 : Int32) = 0 from rfl)) ?_
          repeat (first | refine gp rfl rfl rfl ?_ | refine ggf rfl (by assumption) (by rfl) ?_ | refine gal rfl (by assumption) (by rfl) (by omega) (by omega) ?_ | refine gil rfl (by assumption) (by rfl) (by omega) (by omega) ?_ | refine gbl rfl (by assumption) (by rfl) (by omega) (by omega) ?_ | refine gln rfl (xlen_i (by assumption)) ?_ | refine gln rfl (xlen_q (by assumption)) ?_)
          match qo, o, ho, kinds, text with
          | none, none, _, kinds, text =>
            refine gnl rfl (fun _ => ?_) (fun z hz => by cases hz)
            repeat (first | refine gp rfl rfl rfl ?_ | refine ggf rfl (by assumption) (by rfl) ?_ | refine gal rfl (by assumption) (by rfl) (by omega) (by omega) ?_ | refine gil rfl (by assumption) (by rfl) (by omega) (by omega) ?_ | refine gbl rfl (by assumption) (by rfl) (by omega) (by omega) ?_ | refine gln rfl (xlen_i (by assumption)) ?_ | refine gln rfl (xlen_q (by assumption)) ?_)
            refine gnn rfl (fun z hz => by cases hz) (fun _ => ?_)
            repeat (first | refine gp rfl rfl rfl ?_ | refine ggf rfl (by assumption) (by rfl) ?_ | refine gal rfl (by assumption) (by rfl) (by omega) (by omega) ?_ | refine gil rfl (by assumption) (by rfl) (by omega) (by omega) ?_ | refine gbl rfl (by assumption) (by rfl) (by omega) (by omega) ?_ | refine gln rfl (xlen_i (by assumption)) ?_ | refine gln rfl (xlen_q (by assumption)) ?_)
            exact text (by rw [hA1, hB1]; rfl) 1 hN (Or.inl (by decide))
          | some zo, some O, ho, kinds, text =>
            obtain ⟨bo, o1, o2, o3, o4, o5⟩ := id (show hFile σ zo O from ho)
            refine gnl rfl (fun z => by cases z) (fun z hz => ?_)
            repeat (first | refine gp rfl rfl rfl ?_ | refine ggf rfl (by assumption) (by rfl) ?_ | refine gal rfl (by assumption) (by rfl) (by omega) (by omega) ?_ | refine gil rfl (by assumption) (by rfl) (by omega) (by omega) ?_ | refine gbl rfl (by assumption) (by rfl) (by omega) (by omega) ?_ | refine gln rfl (xlen_i (by assumption)) ?_ | refine gln rfl (xlen_q (by assumption)) ?_)
            cases hO1 : O.1 with
            | true =>
              refine giff rfl (fun h => absurd (show (1 : Int32) = 0 from h) (by decide)) ?_
              exact kinds (by rw [hA1, hB1]; exact hO1)
            | false =>
              refine git rfl (show (0 : Int32) = 0 from rfl) ?_
              repeat (first | refine gp rfl rfl rfl ?_ | refine ggf rfl (by assumption) (by rfl) ?_ | refine gal rfl (by assumption) (by rfl) (by omega) (by omega) ?_ | refine gil rfl (by assumption) (by rfl) (by omega) (by omega) ?_ | refine gbl rfl (by assumption) (by rfl) (by omega) (by omega) ?_ | refine gln rfl (xlen_i (by assumption)) ?_ | refine gln rfl (xlen_q (by assumption)) ?_)
              refine gnn rfl (fun z hz => ?_) (fun z => by cases z)
              repeat (first | refine gp rfl rfl rfl ?_ | refine ggf rfl (by assumption) (by rfl) ?_ | refine gal rfl (by assumption) (by rfl) (by omega) (by omega) ?_ | refine gil rfl (by assumption) (by rfl) (by omega) (by omega) ?_ | refine gbl rfl (by assumption) (by rfl) (by omega) (by omega) ?_ | refine gln rfl (xlen_i (by assumption)) ?_ | refine gln rfl (xlen_q (by assumption)) ?_)
              exact text (by rw [hA1, hB1]; exact hO1) bo o2 (Or.inr o5)
  obtain ⟨r, σ', hex, r', rfl, g1, g2, g3, g4⟩ := ex_of (d := d + 3) (y := 58) (as := [.inr (some 4), .inl (nI p), .inr qo, .inr qa, .inr qb, .inl (nI st)]) (σ := σ) (K := K) (by decide) rfl main
  exact ⟨σ', r', hex, g1, g2, g3, g4⟩
end
section
/-! MODULE: renames are carried, files are settled, the class -/
def pMv (T : pT) (i j : Nat) : pT := fun z => if z = j then T i else if z = i then none else T z
def pLy (T : pT) (i : Nat) (F : Option pF) : pT := fun z => if z = i then F else T z
def vU (V : Nat → pT) (i : Nat) (T : pT) : Nat → pT := fun k => if k = i then T else V k
/-- as hGr, and the three versions may change -/
def hGq (σ σ' : xS) (c s : Nat) : Prop := hKeep σ σ' ∧ (∀ k, k < 63 → (k < 20 ∨ 43 < k) → σ'.1 k = σ.1 k) ∧ σ.2.1 ≤ σ'.2.1 ∧ σ'.2.1 ≤ σ.2.1 + c ∧ σ'.2.2 ≤ σ.2.2 + s ∧ hFresh σ'
theorem hGr.q {σ σ' : xS} {c s : Nat} (h : hGr σ σ' c s) : hGq σ σ' c s := ⟨h.1, fun k hk hk' => h.2.1 k hk (by omega), h.2.2⟩
theorem hGq.refl {σ : xS} (h : hFresh σ) : hGq σ σ 0 0 := ⟨hKeep.refl σ, fun _ _ _ => rfl, Nat.le_refl _, by omega, by omega, h⟩
theorem hGq.wide {σ σ' : xS} {c s c' s' : Nat} (h : hGq σ σ' c s) (hc : c ≤ c') (hs : s ≤ s') : hGq σ σ' c' s' := ⟨h.1, h.2.1, h.2.2.1, Nat.le_trans h.2.2.2.1 (by omega), Nat.le_trans h.2.2.2.2.1 (by omega), h.2.2.2.2.2⟩
theorem hGq.trans {a b c : xS} {c1 s1 c2 s2 : Nat} (h1 : hGq a b c1 s1) (h2 : hGq b c c2 s2) : hGq a c (c1 + c2) (s1 + s2) := by
  obtain ⟨a1, a2, a3, a4, a5, a6⟩ := h1
  obtain ⟨b1, b2, b3, b4, b5, b6⟩ := h2
  exact ⟨a1.trans b1, fun k hk hk' => (b2 k hk hk').trans (a2 k hk hk'), by omega, by omega, by omega, b6⟩
theorem hGq.of_fr {lo hi : Nat} {σ σ' : xS} (hf : hFresh σ) (h : hFr lo hi σ σ') (h1 : 20 ≤ lo) (h2 : hi ≤ 43) : hGq σ σ' 0 0 := ⟨h.keep (by omega), fun k _ hk => h.2 k (by omega), by rw [h.1]; exact Nat.le_refl _, by rw [h.1]; omega, by rw [h.1]; omega, hf.of2 h.1 (fun k hk => h.2 k (by omega))⟩
theorem hT.gr {σ σ' : xS} {t c s : Nat} {T : pT} (h : hT σ t T) (hg : hGr σ σ' c s) (h1 : 38 ≤ t) (h2 : t + 1 < 63) : hT σ' t T := by
  obtain ⟨g, ⟨a1, a2⟩, a3⟩ := h
  exact ⟨g, ⟨by rw [hg.2.1 t (by omega) (by omega)]; exact a1, by rw [hg.2.1 (t + 1) (by omega) (by omega)]; exact a2⟩, fun p hp => (a3 p hp).keep hg.1⟩
theorem m_moveT (d : Nat) {σ : xS} {t i j : Nat} {T : pT} (h : hT σ t T) (hi : i < 64) (hj : j < 64) (ht : t + 1 < 63) : ∃ σ', xEx (d + 3) 15 [.inr (some t), .inl (nI i), .inl (nI j)] σ none σ' ∧ hT σ' t (pMv T i j) ∧ hFr (t + 1) (t + 1) σ σ' := by
  obtain ⟨g, h1, h2⟩ := h
  refine ⟨_, m_move d h1 hi hj (hOpt_cell (h2 i hi)), ⟨_, ⟨by rw [xup_ne (by omega)]; exact h1.1, xup_eq _ _ _⟩, fun p hp => ?_⟩, hFr.up (Nat.le_refl _) (Nat.le_refl _)⟩
  have kp : hKeep σ (xup σ (t + 1) (.inr (.inl (0, 64, va_up (va_up g i none) j (g i))))) := hKeep.up (by omega)
  unfold pMv va_up
  by_cases hpj : p = j
  · rw [if_pos hpj, if_pos hpj]
    exact (h2 i hi).keep kp
  · rw [if_neg hpj, if_neg hpj]
    by_cases hpi : p = i
    · rw [if_pos hpi, if_pos hpi]; trivial
    · rw [if_neg hpi, if_neg hpi]; exact (h2 p hp).keep kp
theorem m_layT (d : Nat) {σ : xS} {t i : Nat} {T : pT} {q : Option Nat} {F : Option pF} (h : hT σ t T) (hq : hOpt σ q F) (hi : i < 64) (ht : t + 1 < 63) : ∃ σ', xEx (d + 2) 10 [.inr (some t), .inl (nI i), .inr q] σ none σ' ∧ hT σ' t (pLy T i F) ∧ hFr (t + 1) (t + 1) σ σ' := by
  obtain ⟨g, h1, h2⟩ := h
  refine ⟨_, m_lay d h1 hi (hOpt_cell hq), ⟨_, ⟨by rw [xup_ne (by omega)]; exact h1.1, xup_eq _ _ _⟩, fun p hp => ?_⟩, hFr.up (Nat.le_refl _) (Nat.le_refl _)⟩
  have kp : hKeep σ (xup σ (t + 1) (.inr (.inl (0, 64, va_up g i q)))) := hKeep.up (by omega)
  unfold pLy va_up
  by_cases hpi : p = i
  · rw [if_pos hpi, if_pos hpi]; exact hq.keep kp
  · rw [if_neg hpi, if_neg hpi]; exact (h2 p hp).keep kp
/-- the merger with its versions and codes -/
def hMS (σ : xS) (V : Nat → pT) (C : Nat → Int32) : Prop := hMg σ ∧ hL0 σ ∧ hCo σ C ∧ hInts σ 1 [] ∧ hFresh σ ∧ ∀ i, i < 3 → hT σ (38 + 2 * i) (V i)
theorem s_mark (d : Nat) {σ : xS} {V : Nat → pT} {C : Nat → Int32} {p : Nat} {k : Int32} (h : hMS σ V C) (hp : p < 64) : ∃ σ', xEx (d + 2) 56 [.inr (some 4), .inl (nI p), .inl k] σ none σ' ∧ hMS σ' V (cUp C p k) ∧ hGq σ σ' 0 0 := by
  obtain ⟨h1, h2, h3, h4, h5, h6⟩ := h
  obtain ⟨f, x1, x2⟩ := m_mark d (k := k) h1 h3 hp
  have fr : hFr 20 20 σ (xup σ 20 (.inl (0, 64, f))) := hFr.up (Nat.le_refl _) (Nat.le_refl _)
  have gr : hGr σ (xup σ 20 (.inl (0, 64, f))) 0 0 := hGr.of_fr h5 fr (by omega) (by omega) _ _
  exact ⟨_, x1, ⟨h1.of gr.2.1, h2.of (fun k h1 h2 => xup_ne (by omega)), x2, h4.up (by decide), gr.2.2.2.2.2, fun i hi => (h6 i hi).gr gr (by omega) (by omega)⟩, gr.q⟩
theorem hMS.tree {σ σ' : xS} {V : Nat → pT} {C : Nat → Int32} {i : Nat} {T : pT} (h : hMS σ V C) (hi : i < 3) (hT' : hT σ' (38 + 2 * i) T) (fr : hFr (38 + 2 * i + 1) (38 + 2 * i + 1) σ σ') : hMS σ' (vU V i T) C ∧ hGq σ σ' 0 0 := by
  obtain ⟨h1, h2, h3, h4, h5, h6⟩ := h
  have gq := hGq.of_fr h5 fr (by omega) (by omega)
  refine ⟨⟨?_, h2.of (fun k h1 h2 => fr.2 k (by omega)), h3.of (fr.2 20 (by omega)), h4.fr fr (by omega), gq.2.2.2.2.2, fun k hk => ?_⟩, gq⟩
  · obtain ⟨a1, g, a2, a3⟩ := h1
    exact ⟨by rw [fr.2 4 (by omega)]; exact a1, g, by rw [fr.2 5 (by omega)]; exact a2, a3⟩
  · unfold vU
    split
    · rename_i hki
      subst hki
      exact hT'
    · exact (h6 k hk).fr fr (by omega) (by omega)
theorem s_move (d : Nat) {σ : xS} {V : Nat → pT} {C : Nat → Int32} {i p t : Nat} (h : hMS σ V C) (hi : i < 3) (hp : p < 64) (ht : t < 64) : ∃ σ', xEx (d + 3) 15 [.inr (some (38 + 2 * i)), .inl (nI p), .inl (nI t)] σ none σ' ∧ hMS σ' (vU V i (pMv (V i) p t)) C ∧ hGq σ σ' 0 0 := by
  obtain ⟨σ', x1, x2, x3⟩ := m_moveT d (h.2.2.2.2.2 i hi) hp ht (by omega)
  exact ⟨σ', x1, h.tree hi x2 x3⟩
theorem s_lay (d : Nat) {σ : xS} {V : Nat → pT} {C : Nat → Int32} {i p : Nat} {q : Option Nat} {F : Option pF} (h : hMS σ V C) (hi : i < 3) (hp : p < 64) (hq : hOpt σ q F) : ∃ σ', xEx (d + 2) 10 [.inr (some (38 + 2 * i)), .inl (nI p), .inr q] σ none σ' ∧ hMS σ' (vU V i (pLy (V i) p F)) C ∧ hGq σ σ' 0 0 := by
  obtain ⟨σ', x1, x2, x3⟩ := m_layT d (h.2.2.2.2.2 i hi) hq hp (by omega)
  exact ⟨σ', x1, h.tree hi x2 x3⟩
theorem s_merge (d : Nat) {σ : xS} {V : Nat → pT} {C : Nat → Int32} {p st : Nat} {qo qa qb : Option Nat} {o a b : Option pF} (h : hMS σ V C) (ho : hOpt σ qo o) (ha : hOpt σ qa a) (hb : hOpt σ qb b) (so : ∀ O, o = some O → O.2.length ≤ 8) (hp : p < 64) (hst : st < 1000) :
    ∃ (σ' : xS) (r : Option Nat), xEx (d + 4) 58 [.inr (some 4), .inl (nI p), .inr qo, .inr qa, .inr qb, .inl (nI st)] σ (some (.inr r)) σ' ∧ hOpt σ' r (pMerge st o a b).1 ∧ hMS σ' V (cUp C p (pMerge st o a b).2) ∧ hGr σ σ' 2 78 := by
  obtain ⟨h1, h2, h3, h4, h5, h6⟩ := h
  obtain ⟨σ', r, x1, x2, x3, x4, x5⟩ := m_mergeFiles d h1 h2 h3 h4 h5 ho ha hb so hp hst
  refine ⟨σ', r, x1, x2, ⟨h1.of x5.2.1, x4, x3, ?_, x5.2.2.2.2.2, fun i hi => (h6 i hi).gr x5 (by omega) (by omega)⟩, x5⟩
  obtain ⟨f, a1, a2⟩ := h4
  exact ⟨f, by rw [x5.2.1 1 (by decide) (by decide)]; exact a1, a2⟩
theorem hMg.at {σ : xS} (h : hMg σ) : ∃ g : Nat → Option Nat, σ.1 5 = some (.inr (.inl (1, 3, g))) ∧ ∀ i, i < 3 → g i = some (38 + 2 * i) := by
  obtain ⟨-, g, h1, h2, h3, h4⟩ := h
  refine ⟨g, h1, fun i hi => ?_⟩
  match i, hi with
  | 0, _ => exact h2
  | 1, _ => exact h3
  | 2, _ => exact h4
def pSettle (st : Nat) (C : Nat → Int32) (V : Nat → pT) (p : Nat) : Option pF × Int32 := if ¬ C p &&& nI 16 = 0 ∧ ((V 1 p).isNone = true ∨ (V 2 p).isNone = true) then (if (V 1 p).isNone then V 2 p else V 1 p, 0) else pMerge st (V 0 p) (V 1 p) (V 2 p)
theorem m_settle (d : Nat) {σ : xS} {V : Nat → pT} {C : Nat → Int32} {p st : Nat} (h : hMS σ V C) (so : ∀ O, V 0 p = some O → O.2.length ≤ 8) (hp : p < 64) (hst : st < 1000) :
    ∃ (σ' : xS) (r : Option Nat), xEx (d + 5) 59 [.inr (some 4), .inl (nI p), .inl (nI st)] σ (some (.inr r)) σ' ∧ hOpt σ' r (pSettle st C V p).1 ∧ hMS σ' V (cUp C p (pSettle st C V p).2) ∧ hGr σ σ' 2 78 := by
  let K : Option xV → xS → Prop := fun r0 σ0 => ∃ r, r0 = some (.inr r) ∧ hOpt σ0 r (pSettle st C V p).1 ∧ hMS σ0 V (cUp C p (pSettle st C V p).2) ∧ hGr σ σ0 2 78
  have main : xGo (xEx (d + 4)) xtb_59 K (0, [some (.inr (some 4)), some (.inl (nI p)), some (.inl (nI st)), none, none], [], σ) := by
    have hM := h.1
    have h4 := hM.1
    obtain ⟨g, h5, hg⟩ := hM.at
    have t0 := h.2.2.2.2.2 0 (by decide)
    have t1 := h.2.2.2.2.2 1 (by decide)
    have t2 := h.2.2.2.2.2 2 (by decide)
    obtain ⟨q0, f0, o0⟩ := m_fileAtT (d + 2) t0 hp
    obtain ⟨q1, f1, o1⟩ := m_fileAtT (d + 2) t1 hp
    obtain ⟨q2, f2, o2⟩ := m_fileAtT (d + 2) t2 hp
    have merge : ¬ (¬ C p &&& nI 16 = 0 ∧ ((V 1 p).isNone = true ∨ (V 2 p).isNone = true)) → xGo (xEx (d + 4)) xtb_59 K (54, [some (.inr (some 4)), some (.inl (nI p)), some (.inl (nI st)), some (.inr q1), some (.inr q2)], [], σ) := by
      intro hno
      have e : pSettle st C V p = pMerge st (V 0 p) (V 1 p) (V 2 p) := by unfold pSettle; rw [if_neg hno]
      repeat (first | refine gp rfl rfl rfl ?_ | refine ggf rfl (by assumption) (by rfl) ?_ | refine gal rfl (by assumption) (by rfl) (by omega) (by omega) ?_ | refine gil rfl (by assumption) (by rfl) (by omega) (by omega) ?_ | refine gbl rfl (by assumption) (by rfl) (by omega) (by omega) ?_ | refine gln rfl (xlen_i (by assumption)) ?_ | refine gln rfl (xlen_q (by assumption)) ?_)
      rw [hg 0 (by decide)]
      refine gcv (As := [.inl (nI p)]) (rest := [.inl (nI p), .inr (some 4)]) rfl (by decide) f0 t0.obj rfl rfl (Nat.le_of_ble_eq_true rfl) ?_
      repeat (first | refine gp rfl rfl rfl ?_ | refine ggf rfl (by assumption) (by rfl) ?_ | refine gal rfl (by assumption) (by rfl) (by omega) (by omega) ?_ | refine gil rfl (by assumption) (by rfl) (by omega) (by omega) ?_ | refine gbl rfl (by assumption) (by rfl) (by omega) (by omega) ?_ | refine gln rfl (xlen_i (by assumption)) ?_ | refine gln rfl (xlen_q (by assumption)) ?_)
      obtain ⟨σ', r, x1, x2, x3, x4⟩ := s_merge d h o0 o1 o2 so hp hst
      refine gcv (As := [.inl (nI p), .inr q0, .inr q1, .inr q2, .inl (nI st)]) (rest := []) rfl (by decide) x1 h4 rfl rfl (by decide) ?_
      exact gra rfl ⟨r, rfl, by rw [e]; exact x2, by rw [e]; exact x3, x4⟩
    repeat (first | refine gp rfl rfl rfl ?_ | refine ggf rfl (by assumption) (by rfl) ?_ | refine gal rfl (by assumption) (by rfl) (by omega) (by omega) ?_ | refine gil rfl (by assumption) (by rfl) (by omega) (by omega) ?_ | refine gbl rfl (by assumption) (by rfl) (by omega) (by omega) ?_ | refine gln rfl (xlen_i (by assumption)) ?_ | refine gln rfl (xlen_q (by assumption)) ?_)
    rw [hg 1 (by decide)]
    refine gcv (As := [.inl (nI p)]) (rest := []) rfl (by decide) f1 t1.obj rfl rfl (by decide) ?_
    repeat (first | refine gp rfl rfl rfl ?_ | refine ggf rfl (by assumption) (by rfl) ?_ | refine gal rfl (by assumption) (by rfl) (by omega) (by omega) ?_ | refine gil rfl (by assumption) (by rfl) (by omega) (by omega) ?_ | refine gbl rfl (by assumption) (by rfl) (by omega) (by omega) ?_ | refine gln rfl (xlen_i (by assumption)) ?_ | refine gln rfl (xlen_q (by assumption)) ?_)
    rw [hg 2 (by decide)]
    refine gcv (As := [.inl (nI p)]) (rest := []) rfl (by decide) f2 t2.obj rfl rfl (by decide) ?_
    repeat (first | refine gp rfl rfl rfl ?_ | refine ggf rfl (by assumption) (by rfl) ?_ | refine gal rfl (by assumption) (by rfl) (by omega) (by omega) ?_ | refine gil rfl (by assumption) (by rfl) (by omega) (by omega) ?_ | refine gbl rfl (by assumption) (by rfl) (by omega) (by omega) ?_ | refine gln rfl (xlen_i (by assumption)) ?_ | refine gln rfl (xlen_q (by assumption)) ?_)
    refine gcv (As := [.inl (nI p)]) (rest := []) rfl (by decide) (m_codesAt (d + 2) hM h.2.2.1 hp) h4 rfl rfl (by decide) ?_
    repeat (first | refine gp rfl rfl rfl ?_ | refine ggf rfl (by assumption) (by rfl) ?_ | refine gal rfl (by assumption) (by rfl) (by omega) (by omega) ?_ | refine gil rfl (by assumption) (by rfl) (by omega) (by omega) ?_ | refine gbl rfl (by assumption) (by rfl) (by omega) (by omega) ?_ | refine gln rfl (xlen_i (by assumption)) ?_ | refine gln rfl (xlen_q (by assumption)) ?_)
    by_cases hc : C p &&& nI 16 = 0
    · refine git rfl (show C p &&& nI 16 = 0 from hc) ?_
      exact merge (fun z => z.1 hc)
    · refine giff rfl (fun z => hc z) ?_
      have s1 := hOpt_some o1
      have s2 := hOpt_some o2
      repeat (first | refine gp rfl rfl rfl ?_ | refine ggf rfl (by assumption) (by rfl) ?_ | refine gal rfl (by assumption) (by rfl) (by omega) (by omega) ?_ | refine gil rfl (by assumption) (by rfl) (by omega) (by omega) ?_ | refine gbl rfl (by assumption) (by rfl) (by omega) (by omega) ?_ | refine gln rfl (xlen_i (by assumption)) ?_ | refine gln rfl (xlen_q (by assumption)) ?_)
      refine gnl rfl (fun hz => ?_) (fun z hz => ?_)
      · subst hz
        have n1 : (V 1 p).isNone = true := by cases hv : V 1 p with
          | none => rfl
          | some _ => rw [hv] at s1; cases s1
        have e : pSettle st C V p = (V 2 p, 0) := by unfold pSettle; rw [if_pos ⟨hc, Or.inl n1⟩, if_pos n1]
        repeat (first | refine gp rfl rfl rfl ?_ | refine ggf rfl (by assumption) (by rfl) ?_ | refine gal rfl (by assumption) (by rfl) (by omega) (by omega) ?_ | refine gil rfl (by assumption) (by rfl) (by omega) (by omega) ?_ | refine gbl rfl (by assumption) (by rfl) (by omega) (by omega) ?_ | refine gln rfl (xlen_i (by assumption)) ?_ | refine gln rfl (xlen_q (by assumption)) ?_)
        refine gnn rfl (fun z hz => by cases hz) (fun _ => ?_)
        repeat (first | refine gp rfl rfl rfl ?_ | refine ggf rfl (by assumption) (by rfl) ?_ | refine gal rfl (by assumption) (by rfl) (by omega) (by omega) ?_ | refine gil rfl (by assumption) (by rfl) (by omega) (by omega) ?_ | refine gbl rfl (by assumption) (by rfl) (by omega) (by omega) ?_ | refine gln rfl (xlen_i (by assumption)) ?_ | refine gln rfl (xlen_q (by assumption)) ?_)
        exact gra rfl ⟨q2, rfl, by rw [e]; exact o2, by rw [e, cUp_zero]; exact h, hGr.refl h.2.2.2.2.1 _ _⟩
      · subst hz
        have n1 : ¬ (V 1 p).isNone = true := by cases hv : V 1 p with
          | none => rw [hv] at s1; cases s1
          | some _ => simp
        repeat (first | refine gp rfl rfl rfl ?_ | refine ggf rfl (by assumption) (by rfl) ?_ | refine gal rfl (by assumption) (by rfl) (by omega) (by omega) ?_ | refine gil rfl (by assumption) (by rfl) (by omega) (by omega) ?_ | refine gbl rfl (by assumption) (by rfl) (by omega) (by omega) ?_ | refine gln rfl (xlen_i (by assumption)) ?_ | refine gln rfl (xlen_q (by assumption)) ?_)
        refine gnn rfl (fun z2 hz2 => ?_) (fun hz2 => ?_)
        · subst hz2
          refine merge (fun z => ?_)
          rcases z.2 with z | z
          · exact n1 z
          · cases hv : V 2 p with
            | none => rw [hv] at s2; cases s2
            | some _ => rw [hv] at z; cases z
        · subst hz2
          have n2 : (V 2 p).isNone = true := by cases hv : V 2 p with
            | none => rfl
            | some _ => rw [hv] at s2; cases s2
          have e : pSettle st C V p = (V 1 p, 0) := by unfold pSettle; rw [if_pos ⟨hc, Or.inr n2⟩, if_neg n1]
          repeat (first | refine gp rfl rfl rfl ?_ | refine ggf rfl (by assumption) (by rfl) ?_ | refine gal rfl (by assumption) (by rfl) (by omega) (by omega) ?_ | refine gil rfl (by assumption) (by rfl) (by omega) (by omega) ?_ | refine gbl rfl (by assumption) (by rfl) (by omega) (by omega) ?_ | refine gln rfl (xlen_i (by assumption)) ?_ | refine gln rfl (xlen_q (by assumption)) ?_)
          refine gnn rfl (fun z3 hz3 => ?_) (fun z => by cases z)
          repeat (first | refine gp rfl rfl rfl ?_ | refine ggf rfl (by assumption) (by rfl) ?_ | refine gal rfl (by assumption) (by rfl) (by omega) (by omega) ?_ | refine gil rfl (by assumption) (by rfl) (by omega) (by omega) ?_ | refine gbl rfl (by assumption) (by rfl) (by omega) (by omega) ?_ | refine gln rfl (xlen_i (by assumption)) ?_ | refine gln rfl (xlen_q (by assumption)) ?_)
          exact gra rfl ⟨_, rfl, by rw [e]; exact o1, by rw [e, cUp_zero]; exact h, hGr.refl h.2.2.2.2.1 _ _⟩
  obtain ⟨r, σ', hex, r', rfl, g1, g2, g3⟩ := ex_of (d := d + 4) (y := 59) (as := [.inr (some 4), .inl (nI p), .inl (nI st)]) (σ := σ) (K := K) (by decide) rfl main
  exact ⟨σ', r', hex, g1, g2, g3⟩
end
section
/-! MODULE: renames are carried, the class -/
theorem m_carryByBoth (d : Nat) {σ : xS} {V : Nat → pT} {C : Nat → Int32} {p i j : Nat} (h : hMS σ V C) (hp : p < 64) (hi : i < 64) (hj : j < 64) :
    ∃ σ', xEx (d + 4) 55 [.inr (some 4), .inl (nI p), .inl (nI i), .inl (nI j)] σ none σ' ∧ hMS σ' (if i = j then vU V 0 (pMv (V 0) p i) else V) (if i = j then C else cUp (cUp (cUp C p (nI 32)) i (nI 32)) j (nI 32)) ∧ hGq σ σ' 0 0 := by
  let K : Option xV → xS → Prop := fun r0 σ0 => r0 = none ∧ hMS σ0 (if i = j then vU V 0 (pMv (V 0) p i) else V) (if i = j then C else cUp (cUp (cUp C p (nI 32)) i (nI 32)) j (nI 32)) ∧ hGq σ σ0 0 0
  have main : xGo (xEx (d + 3)) xtb_55 K (0, [some (.inr (some 4)), some (.inl (nI p)), some (.inl (nI i)), some (.inl (nI j))], [], σ) := by
    have hM := h.1
    have h4 := hM.1
    obtain ⟨g, h5, hg⟩ := hM.at
    repeat (first | refine gp rfl rfl rfl ?_ | refine ggf rfl (by assumption) (by rfl) ?_ | refine gal rfl (by assumption) (by rfl) (by omega) (by omega) ?_ | refine gil rfl (by assumption) (by rfl) (by omega) (by omega) ?_ | refine gbl rfl (by assumption) (by rfl) (by omega) (by omega) ?_ | refine gln rfl (xlen_i (by assumption)) ?_ | refine gln rfl (xlen_q (by assumption)) ?_)
    by_cases hij : i = j
    · refine gcf rfl (fun z => z (show nI i = nI j by rw [hij])) ?_
      repeat (first | refine gp rfl rfl rfl ?_ | refine ggf rfl (by assumption) (by rfl) ?_ | refine gal rfl (by assumption) (by rfl) (by omega) (by omega) ?_ | refine gil rfl (by assumption) (by rfl) (by omega) (by omega) ?_ | refine gbl rfl (by assumption) (by rfl) (by omega) (by omega) ?_ | refine gln rfl (xlen_i (by assumption)) ?_ | refine gln rfl (xlen_q (by assumption)) ?_)
      rw [hg 0 (by decide)]
      obtain ⟨σ1, x1, x2, x3⟩ := s_move d h (i := 0) (by decide) hp hi
      refine gcv (As := [.inl (nI p), .inl (nI i)]) (rest := []) rfl (by decide) x1 (h.2.2.2.2.2 0 (by decide)).obj rfl rfl (by decide) ?_
      repeat (first | refine gp rfl rfl rfl ?_ | refine ggf rfl (by assumption) (by rfl) ?_ | refine gal rfl (by assumption) (by rfl) (by omega) (by omega) ?_ | refine gil rfl (by assumption) (by rfl) (by omega) (by omega) ?_ | refine gbl rfl (by assumption) (by rfl) (by omega) (by omega) ?_ | refine gln rfl (xlen_i (by assumption)) ?_ | refine gln rfl (xlen_q (by assumption)) ?_)
      exact grv rfl ⟨rfl, by rw [if_pos hij, if_pos hij]; exact x2, x3⟩
    · refine gct rfl (fun z => hij ((nI_eq (by omega) (by omega)).mp z)) ?_
      repeat (first | refine gp rfl rfl rfl ?_ | refine ggf rfl (by assumption) (by rfl) ?_ | refine gal rfl (by assumption) (by rfl) (by omega) (by omega) ?_ | refine gil rfl (by assumption) (by rfl) (by omega) (by omega) ?_ | refine gbl rfl (by assumption) (by rfl) (by omega) (by omega) ?_ | refine gln rfl (xlen_i (by assumption)) ?_ | refine gln rfl (xlen_q (by assumption)) ?_)
      obtain ⟨σ1, x1, x2, x3⟩ := s_mark (d + 1) (k := nI 32) h hp
      refine gcv (As := [.inl (nI p), .inl (nI 32)]) (rest := []) rfl (by decide) x1 h4 rfl rfl (by decide) ?_
      have k1 := x2.1.1
      repeat (first | refine gp rfl rfl rfl ?_ | refine ggf rfl (by assumption) (by rfl) ?_ | refine gal rfl (by assumption) (by rfl) (by omega) (by omega) ?_ | refine gil rfl (by assumption) (by rfl) (by omega) (by omega) ?_ | refine gbl rfl (by assumption) (by rfl) (by omega) (by omega) ?_ | refine gln rfl (xlen_i (by assumption)) ?_ | refine gln rfl (xlen_q (by assumption)) ?_)
      obtain ⟨σ2, y1, y2, y3⟩ := s_mark (d + 1) (k := nI 32) x2 hi
      refine gcv (As := [.inl (nI i), .inl (nI 32)]) (rest := []) rfl (by decide) y1 k1 rfl rfl (by decide) ?_
      have k2 := y2.1.1
      repeat (first | refine gp rfl rfl rfl ?_ | refine ggf rfl (by assumption) (by rfl) ?_ | refine gal rfl (by assumption) (by rfl) (by omega) (by omega) ?_ | refine gil rfl (by assumption) (by rfl) (by omega) (by omega) ?_ | refine gbl rfl (by assumption) (by rfl) (by omega) (by omega) ?_ | refine gln rfl (xlen_i (by assumption)) ?_ | refine gln rfl (xlen_q (by assumption)) ?_)
      obtain ⟨σ3, z1, z2, z3⟩ := s_mark (d + 1) (k := nI 32) y2 hj
      refine gcv (As := [.inl (nI j), .inl (nI 32)]) (rest := []) rfl (by decide) z1 k2 rfl rfl (by decide) ?_
      exact grv rfl ⟨rfl, by rw [if_neg hij, if_neg hij]; exact z2, x3.trans (y3.trans z3)⟩
  obtain ⟨r, σ', hex, rfl, g1, g2⟩ := ex_of (d := d + 3) (y := 55) (as := [.inr (some 4), .inl (nI p), .inl (nI i), .inl (nI j)]) (σ := σ) (K := K) (by decide) rfl main
  exact ⟨σ', hex, g1, g2⟩
def pOneM (st s : Nat) (V : Nat → pT) (p t : Nat) : Option pF × Int32 := if s = 1 then pMerge st (V 0 p) (V 1 t) (V 2 p) else pMerge st (V 0 p) (V 1 p) (V 2 t)
def pOneV (st s q : Nat) (V : Nat → pT) (p t : Nat) : Nat → pT :=
  if (V q p).isNone then (if (V q t).isSome then vU V 0 (pLy (V 0) p none) else vU V 0 (pMv (V 0) p t))
  else if (V q t).isNone then vU (vU V 0 (pMv (V 0) p t)) q (pMv (V q) p t)
  else vU (vU (vU V s (pLy (V s) t (pOneM st s V p t).1)) 0 (pLy (V 0) p none)) q (pLy (V q) p none)
def pOneC (st s q : Nat) (V : Nat → pT) (C : Nat → Int32) (p t : Nat) : Nat → Int32 :=
  if (V q p).isNone then cUp C t (nI 16)
  else if (V q t).isNone then C
  else cUp (cUp C t (nI 64)) t (pOneM st s V p t).2
theorem vU_ne {V : Nat → pT} {i k : Nat} {T : pT} (h : k ≠ i) : vU V i T k = V k := if_neg h
theorem m_carryByOne (d : Nat) {σ : xS} {V : Nat → pT} {C : Nat → Int32} {s q p t st : Nat} (h : hMS σ V C) (hs : (s = 1 ∧ q = 2) ∨ (s = 2 ∧ q = 1)) (so : ∀ O, V 0 p = some O → O.2.length ≤ 8) (hp : p < 64) (ht : t < 64) (hst : st < 1000) :
    ∃ σ', xEx (d + 5) 57 [.inr (some 4), .inl (nI s), .inl (nI p), .inl (nI t), .inl (nI st)] σ none σ' ∧ hMS σ' (pOneV st s q V p t) (pOneC st s q V C p t) ∧ hGq σ σ' 2 78 := by
  let K : Option xV → xS → Prop := fun r0 σ0 => r0 = none ∧ hMS σ0 (pOneV st s q V p t) (pOneC st s q V C p t) ∧ hGq σ σ0 2 78
  have main : xGo (xEx (d + 4)) xtb_57 K (0, [some (.inr (some 4)), some (.inl (nI s)), some (.inl (nI p)), some (.inl (nI t)), some (.inl (nI st)), none, none, none, none, none], [], σ) := by
    have hM := h.1
    have h4 := hM.1
    obtain ⟨g, h5, hg⟩ := hM.at
    have hs3 : s < 3 := by omega
    have hq3 : q < 3 := by omega
    have hsq : s ≠ q := by omega
    have hs0 : s ≠ 0 := by omega
    have hq0 : q ≠ 0 := by omega
    have tq := h.2.2.2.2.2 q hq3
    have tS := h.2.2.2.2.2 s hs3
    have tz := h.2.2.2.2.2 0 (by decide)
    have rest : xGo (xEx (d + 4)) xtb_57 K (36, [some (.inr (some 4)), some (.inl (nI s)), some (.inl (nI p)), some (.inl (nI t)), some (.inl (nI st)), some (.inr (some (38 + 2 * 0))), some (.inr (some (38 + 2 * s))), some (.inr (some (38 + 2 * q))), none, none], [.inl (nI p), .inr (some (38 + 2 * q))], σ) := by
      refine gcv (As := [.inl (nI p)]) (rest := []) rfl (by decide) (m_hasT (d + 1) tq hp) tq.obj rfl rfl (by decide) ?_
      cases hqp : (V q p).isSome with
      | false =>
        have nqp : (V q p).isNone = true := by cases hv : V q p with
          | none => rfl
          | some _ => rw [hv] at hqp; cases hqp
        refine giff rfl (fun z => z (show (0 : Int32) = 0 from rfl)) ?_
        repeat (first | refine gp rfl rfl rfl ?_ | refine ggf rfl (by assumption) (by rfl) ?_ | refine gal rfl (by assumption) (by rfl) (by omega) (by omega) ?_ | refine gil rfl (by assumption) (by rfl) (by omega) (by omega) ?_ | refine gbl rfl (by assumption) (by rfl) (by omega) (by omega) ?_ | refine gln rfl (xlen_i (by assumption)) ?_ | refine gln rfl (xlen_q (by assumption)) ?_)
        obtain ⟨σ1, x1, x2, x3⟩ := s_mark (d + 2) (k := nI 16) h ht
        refine gcv (As := [.inl (nI t), .inl (nI 16)]) (rest := []) rfl (by decide) x1 h4 rfl rfl (by decide) ?_
        have tq1 := x2.2.2.2.2.2 q hq3
        have eC : pOneC st s q V C p t = cUp C t (nI 16) := by unfold pOneC; rw [if_pos nqp]
        repeat (first | refine gp rfl rfl rfl ?_ | refine ggf rfl (by assumption) (by rfl) ?_ | refine gal rfl (by assumption) (by rfl) (by omega) (by omega) ?_ | refine gil rfl (by assumption) (by rfl) (by omega) (by omega) ?_ | refine gbl rfl (by assumption) (by rfl) (by omega) (by omega) ?_ | refine gln rfl (xlen_i (by assumption)) ?_ | refine gln rfl (xlen_q (by assumption)) ?_)
        refine gcv (As := [.inl (nI t)]) (rest := []) rfl (by decide) (m_hasT (d + 1) tq1 ht) tq1.obj rfl rfl (by decide) ?_
        cases hqt : (V q t).isSome with
        | true =>
          refine giff rfl (fun h => absurd (show (1 : Int32) = 0 from h) (by decide)) ?_
          repeat (first | refine gp rfl rfl rfl ?_ | refine ggf rfl (by assumption) (by rfl) ?_ | refine gal rfl (by assumption) (by rfl) (by omega) (by omega) ?_ | refine gil rfl (by assumption) (by rfl) (by omega) (by omega) ?_ | refine gbl rfl (by assumption) (by rfl) (by omega) (by omega) ?_ | refine gln rfl (xlen_i (by assumption)) ?_ | refine gln rfl (xlen_q (by assumption)) ?_)
          obtain ⟨σ2, y1, y2, y3⟩ := s_lay (d + 2) (i := 0) (q := none) (F := none) x2 (by decide) hp trivial
          refine gcv (As := [.inl (nI p), .inr none]) (rest := []) rfl (by decide) y1 (x2.2.2.2.2.2 0 (by decide)).obj rfl rfl (by decide) ?_
          repeat (first | refine gp rfl rfl rfl ?_ | refine ggf rfl (by assumption) (by rfl) ?_ | refine gal rfl (by assumption) (by rfl) (by omega) (by omega) ?_ | refine gil rfl (by assumption) (by rfl) (by omega) (by omega) ?_ | refine gbl rfl (by assumption) (by rfl) (by omega) (by omega) ?_ | refine gln rfl (xlen_i (by assumption)) ?_ | refine gln rfl (xlen_q (by assumption)) ?_)
          exact grv rfl ⟨rfl, by rw [eC]; unfold pOneV; rw [if_pos nqp, if_pos hqt]; exact y2, (x3.trans y3).wide (by omega) (by omega)⟩
        | false =>
          refine git rfl (show (0 : Int32) = 0 from rfl) ?_
          repeat (first | refine gp rfl rfl rfl ?_ | refine ggf rfl (by assumption) (by rfl) ?_ | refine gal rfl (by assumption) (by rfl) (by omega) (by omega) ?_ | refine gil rfl (by assumption) (by rfl) (by omega) (by omega) ?_ | refine gbl rfl (by assumption) (by rfl) (by omega) (by omega) ?_ | refine gln rfl (xlen_i (by assumption)) ?_ | refine gln rfl (xlen_q (by assumption)) ?_)
          obtain ⟨σ2, y1, y2, y3⟩ := s_move (d + 1) (i := 0) x2 (by decide) hp ht
          refine gcv (As := [.inl (nI p), .inl (nI t)]) (rest := []) rfl (by decide) y1 (x2.2.2.2.2.2 0 (by decide)).obj rfl rfl (by decide) ?_
          repeat (first | refine gp rfl rfl rfl ?_ | refine ggf rfl (by assumption) (by rfl) ?_ | refine gal rfl (by assumption) (by rfl) (by omega) (by omega) ?_ | refine gil rfl (by assumption) (by rfl) (by omega) (by omega) ?_ | refine gbl rfl (by assumption) (by rfl) (by omega) (by omega) ?_ | refine gln rfl (xlen_i (by assumption)) ?_ | refine gln rfl (xlen_q (by assumption)) ?_)
          exact grv rfl ⟨rfl, by rw [eC]; unfold pOneV; rw [if_pos nqp, if_neg (by rw [hqt]; decide)]; exact y2, (x3.trans y3).wide (by omega) (by omega)⟩
      | true =>
        have nqp : ¬ (V q p).isNone = true := by cases hv : V q p with
          | none => rw [hv] at hqp; cases hqp
          | some _ => simp
        refine git rfl (fun z => absurd (show (1 : Int32) = 0 from z) (by decide)) ?_
        repeat (first | refine gp rfl rfl rfl ?_ | refine ggf rfl (by assumption) (by rfl) ?_ | refine gal rfl (by assumption) (by rfl) (by omega) (by omega) ?_ | refine gil rfl (by assumption) (by rfl) (by omega) (by omega) ?_ | refine gbl rfl (by assumption) (by rfl) (by omega) (by omega) ?_ | refine gln rfl (xlen_i (by assumption)) ?_ | refine gln rfl (xlen_q (by assumption)) ?_)
        refine gcv (As := [.inl (nI t)]) (rest := []) rfl (by decide) (m_hasT (d + 1) tq ht) tq.obj rfl rfl (by decide) ?_
        cases hqt : (V q t).isSome with
        | false =>
          have nqt : (V q t).isNone = true := by cases hv : V q t with
            | none => rfl
            | some _ => rw [hv] at hqt; cases hqt
          refine giff rfl (fun z => z (show (0 : Int32) = 0 from rfl)) ?_
          repeat (first | refine gp rfl rfl rfl ?_ | refine ggf rfl (by assumption) (by rfl) ?_ | refine gal rfl (by assumption) (by rfl) (by omega) (by omega) ?_ | refine gil rfl (by assumption) (by rfl) (by omega) (by omega) ?_ | refine gbl rfl (by assumption) (by rfl) (by omega) (by omega) ?_ | refine gln rfl (xlen_i (by assumption)) ?_ | refine gln rfl (xlen_q (by assumption)) ?_)
          obtain ⟨σ1, x1, x2, x3⟩ := s_move (d + 1) (i := 0) h (by decide) hp ht
          refine gcv (As := [.inl (nI p), .inl (nI t)]) (rest := []) rfl (by decide) x1 tz.obj rfl rfl (by decide) ?_
          repeat (first | refine gp rfl rfl rfl ?_ | refine ggf rfl (by assumption) (by rfl) ?_ | refine gal rfl (by assumption) (by rfl) (by omega) (by omega) ?_ | refine gil rfl (by assumption) (by rfl) (by omega) (by omega) ?_ | refine gbl rfl (by assumption) (by rfl) (by omega) (by omega) ?_ | refine gln rfl (xlen_i (by assumption)) ?_ | refine gln rfl (xlen_q (by assumption)) ?_)
          obtain ⟨σ2, y1, y2, y3⟩ := s_move (d + 1) (i := q) x2 hq3 hp ht
          refine gcv (As := [.inl (nI p), .inl (nI t)]) (rest := []) rfl (by decide) y1 (x2.2.2.2.2.2 q hq3).obj rfl rfl (by decide) ?_
          repeat (first | refine gp rfl rfl rfl ?_ | refine ggf rfl (by assumption) (by rfl) ?_ | refine gal rfl (by assumption) (by rfl) (by omega) (by omega) ?_ | refine gil rfl (by assumption) (by rfl) (by omega) (by omega) ?_ | refine gbl rfl (by assumption) (by rfl) (by omega) (by omega) ?_ | refine gln rfl (xlen_i (by assumption)) ?_ | refine gln rfl (xlen_q (by assumption)) ?_)
          rw [vU_ne hq0] at y2
          refine grv rfl ⟨rfl, ?_, (x3.trans y3).wide (by omega) (by omega)⟩
          unfold pOneV pOneC
          rw [if_neg nqp, if_neg nqp, if_pos nqt, if_pos nqt]
          exact y2
        | true =>
          have nqt : ¬ (V q t).isNone = true := by cases hv : V q t with
            | none => rw [hv] at hqt; cases hqt
            | some _ => simp
          refine git rfl (fun z => absurd (show (1 : Int32) = 0 from z) (by decide)) ?_
          repeat (first | refine gp rfl rfl rfl ?_ | refine ggf rfl (by assumption) (by rfl) ?_ | refine gal rfl (by assumption) (by rfl) (by omega) (by omega) ?_ | refine gil rfl (by assumption) (by rfl) (by omega) (by omega) ?_ | refine gbl rfl (by assumption) (by rfl) (by omega) (by omega) ?_ | refine gln rfl (xlen_i (by assumption)) ?_ | refine gln rfl (xlen_q (by assumption)) ?_)
          obtain ⟨σ1, x1, x2, x3⟩ := s_mark (d + 2) (k := nI 64) h ht
          refine gcv (As := [.inl (nI t), .inl (nI 64)]) (rest := []) rfl (by decide) x1 h4 rfl rfl (by decide) ?_
          have uq := x2.2.2.2.2.2 q hq3
          have uS := x2.2.2.2.2.2 s hs3
          have uz := x2.2.2.2.2.2 0 (by decide)
          have k4 := x2.1.1
          obtain ⟨qo, fo, oo⟩ := m_fileAtT (d + 2) uz hp
          obtain ⟨qx, fx, ox⟩ := m_fileAtT (d + 2) uS ht
          obtain ⟨qy, fy, oy⟩ := m_fileAtT (d + 2) uq hp
          have last : ∀ (qa qb : Option Nat) (a b : Option pF), hOpt σ1 qa a → hOpt σ1 qb b → pMerge st (V 0 p) a b = pOneM st s V p t → xGo (xEx (d + 4)) xtb_57 K (163, [some (.inr (some 4)), some (.inl (nI s)), some (.inl (nI p)), some (.inl (nI t)), some (.inl (nI st)), some (.inr (some (38 + 2 * 0))), some (.inr (some (38 + 2 * s))), some (.inr (some (38 + 2 * q))), some (.inr qa), some (.inr qb)], [.inl (nI p), .inr (some (38 + 2 * 0)), .inl (nI t), .inr (some 4), .inl (nI t), .inr (some (38 + 2 * s))], σ1) := by
            intro qa qb a b ha hb he
            refine gcv (As := [.inl (nI p)]) (rest := [.inl (nI t), .inr (some 4), .inl (nI t), .inr (some (38 + 2 * s))]) rfl (by decide) fo uz.obj rfl rfl (Nat.le_of_ble_eq_true rfl) ?_
            repeat (first | refine gp rfl rfl rfl ?_ | refine ggf rfl (by assumption) (by rfl) ?_ | refine gal rfl (by assumption) (by rfl) (by omega) (by omega) ?_ | refine gil rfl (by assumption) (by rfl) (by omega) (by omega) ?_ | refine gbl rfl (by assumption) (by rfl) (by omega) (by omega) ?_ | refine gln rfl (xlen_i (by assumption)) ?_ | refine gln rfl (xlen_q (by assumption)) ?_)
            obtain ⟨σ2, r, y1, y2, y3, y4⟩ := s_merge d x2 oo ha hb so ht hst
            refine gcv (As := [.inl (nI t), .inr qo, .inr qa, .inr qb, .inl (nI st)]) (rest := [.inl (nI t), .inr (some (38 + 2 * s))]) rfl (by decide) y1 k4 rfl rfl (Nat.le_of_ble_eq_true rfl) ?_
            rw [he] at y2 y3
            obtain ⟨σ3, z1, z2, z3⟩ := s_lay (d + 2) (i := s) y3 hs3 ht y2
            refine gcv (As := [.inl (nI t), .inr r]) (rest := []) rfl (by decide) z1 (y3.2.2.2.2.2 s hs3).obj rfl rfl (by decide) ?_
            repeat (first | refine gp rfl rfl rfl ?_ | refine ggf rfl (by assumption) (by rfl) ?_ | refine gal rfl (by assumption) (by rfl) (by omega) (by omega) ?_ | refine gil rfl (by assumption) (by rfl) (by omega) (by omega) ?_ | refine gbl rfl (by assumption) (by rfl) (by omega) (by omega) ?_ | refine gln rfl (xlen_i (by assumption)) ?_ | refine gln rfl (xlen_q (by assumption)) ?_)
            obtain ⟨σ4, w1, w2, w3⟩ := s_lay (d + 2) (i := 0) (p := p) (q := none) (F := none) z2 (by decide) hp trivial
            refine gcv (As := [.inl (nI p), .inr none]) (rest := []) rfl (by decide) w1 (z2.2.2.2.2.2 0 (by decide)).obj rfl rfl (by decide) ?_
            repeat (first | refine gp rfl rfl rfl ?_ | refine ggf rfl (by assumption) (by rfl) ?_ | refine gal rfl (by assumption) (by rfl) (by omega) (by omega) ?_ | refine gil rfl (by assumption) (by rfl) (by omega) (by omega) ?_ | refine gbl rfl (by assumption) (by rfl) (by omega) (by omega) ?_ | refine gln rfl (xlen_i (by assumption)) ?_ | refine gln rfl (xlen_q (by assumption)) ?_)
            obtain ⟨σ5, v1, v2, v3⟩ := s_lay (d + 2) (i := q) (p := p) (q := none) (F := none) w2 hq3 hp trivial
            refine gcv (As := [.inl (nI p), .inr none]) (rest := []) rfl (by decide) v1 (w2.2.2.2.2.2 q hq3).obj rfl rfl (by decide) ?_
            rw [vU_ne hq0, vU_ne (Ne.symm hsq), vU_ne (Ne.symm hs0)] at v2
            refine grv rfl ⟨rfl, ?_, ((x3.trans y4.q).trans (z3.trans (w3.trans v3))).wide (by omega) (by omega)⟩
            unfold pOneV pOneC
            rw [if_neg nqp, if_neg nqp, if_neg nqt, if_neg nqt]
            exact v2
          repeat (first | refine gp rfl rfl rfl ?_ | refine ggf rfl (by assumption) (by rfl) ?_ | refine gal rfl (by assumption) (by rfl) (by omega) (by omega) ?_ | refine gil rfl (by assumption) (by rfl) (by omega) (by omega) ?_ | refine gbl rfl (by assumption) (by rfl) (by omega) (by omega) ?_ | refine gln rfl (xlen_i (by assumption)) ?_ | refine gln rfl (xlen_q (by assumption)) ?_)
          rcases hs with ⟨rfl, rfl⟩ | ⟨rfl, rfl⟩
          · refine gcf rfl (fun z => z (show nI 1 = nI 1 from rfl)) ?_
            repeat (first | refine gp rfl rfl rfl ?_ | refine ggf rfl (by assumption) (by rfl) ?_ | refine gal rfl (by assumption) (by rfl) (by omega) (by omega) ?_ | refine gil rfl (by assumption) (by rfl) (by omega) (by omega) ?_ | refine gbl rfl (by assumption) (by rfl) (by omega) (by omega) ?_ | refine gln rfl (xlen_i (by assumption)) ?_ | refine gln rfl (xlen_q (by assumption)) ?_)
            refine gcv (As := [.inl (nI t)]) (rest := []) rfl (by decide) fx uS.obj rfl rfl (by decide) ?_
            repeat (first | refine gp rfl rfl rfl ?_ | refine ggf rfl (by assumption) (by rfl) ?_ | refine gal rfl (by assumption) (by rfl) (by omega) (by omega) ?_ | refine gil rfl (by assumption) (by rfl) (by omega) (by omega) ?_ | refine gbl rfl (by assumption) (by rfl) (by omega) (by omega) ?_ | refine gln rfl (xlen_i (by assumption)) ?_ | refine gln rfl (xlen_q (by assumption)) ?_)
            refine gcf rfl (fun z => z (show nI 1 = nI 1 from rfl)) ?_
            repeat (first | refine gp rfl rfl rfl ?_ | refine ggf rfl (by assumption) (by rfl) ?_ | refine gal rfl (by assumption) (by rfl) (by omega) (by omega) ?_ | refine gil rfl (by assumption) (by rfl) (by omega) (by omega) ?_ | refine gbl rfl (by assumption) (by rfl) (by omega) (by omega) ?_ | refine gln rfl (xlen_i (by assumption)) ?_ | refine gln rfl (xlen_q (by assumption)) ?_)
            refine gcv (As := [.inl (nI p)]) (rest := []) rfl (by decide) fy uq.obj rfl rfl (by decide) ?_
            repeat (first | refine gp rfl rfl rfl ?_ | refine ggf rfl (by assumption) (by rfl) ?_ | refine gal rfl (by assumption) (by rfl) (by omega) (by omega) ?_ | refine gil rfl (by assumption) (by rfl) (by omega) (by omega) ?_ | refine gbl rfl (by assumption) (by rfl) (by omega) (by omega) ?_ | refine gln rfl (xlen_i (by assumption)) ?_ | refine gln rfl (xlen_q (by assumption)) ?_)
            exact last qx qy _ _ ox oy rfl
          · refine gct rfl (fun z => absurd (show nI 2 = nI 1 from z) (by decide)) ?_
            repeat (first | refine gp rfl rfl rfl ?_ | refine ggf rfl (by assumption) (by rfl) ?_ | refine gal rfl (by assumption) (by rfl) (by omega) (by omega) ?_ | refine gil rfl (by assumption) (by rfl) (by omega) (by omega) ?_ | refine gbl rfl (by assumption) (by rfl) (by omega) (by omega) ?_ | refine gln rfl (xlen_i (by assumption)) ?_ | refine gln rfl (xlen_q (by assumption)) ?_)
            refine gcv (As := [.inl (nI p)]) (rest := []) rfl (by decide) fy uq.obj rfl rfl (by decide) ?_
            repeat (first | refine gp rfl rfl rfl ?_ | refine ggf rfl (by assumption) (by rfl) ?_ | refine gal rfl (by assumption) (by rfl) (by omega) (by omega) ?_ | refine gil rfl (by assumption) (by rfl) (by omega) (by omega) ?_ | refine gbl rfl (by assumption) (by rfl) (by omega) (by omega) ?_ | refine gln rfl (xlen_i (by assumption)) ?_ | refine gln rfl (xlen_q (by assumption)) ?_)
            refine gct rfl (fun z => absurd (show nI 2 = nI 1 from z) (by decide)) ?_
            repeat (first | refine gp rfl rfl rfl ?_ | refine ggf rfl (by assumption) (by rfl) ?_ | refine gal rfl (by assumption) (by rfl) (by omega) (by omega) ?_ | refine gil rfl (by assumption) (by rfl) (by omega) (by omega) ?_ | refine gbl rfl (by assumption) (by rfl) (by omega) (by omega) ?_ | refine gln rfl (xlen_i (by assumption)) ?_ | refine gln rfl (xlen_q (by assumption)) ?_)
            refine gcv (As := [.inl (nI t)]) (rest := []) rfl (by decide) fx uS.obj rfl rfl (by decide) ?_
            repeat (first | refine gp rfl rfl rfl ?_ | refine ggf rfl (by assumption) (by rfl) ?_ | refine gal rfl (by assumption) (by rfl) (by omega) (by omega) ?_ | refine gil rfl (by assumption) (by rfl) (by omega) (by omega) ?_ | refine gbl rfl (by assumption) (by rfl) (by omega) (by omega) ?_ | refine gln rfl (xlen_i (by assumption)) ?_ | refine gln rfl (xlen_q (by assumption)) ?_)
            exact last qy qx _ _ oy ox rfl
    repeat (first | refine gp rfl rfl rfl ?_ | refine ggf rfl (by assumption) (by rfl) ?_ | refine gal rfl (by assumption) (by rfl) (by omega) (by omega) ?_ | refine gil rfl (by assumption) (by rfl) (by omega) (by omega) ?_ | refine gbl rfl (by assumption) (by rfl) (by omega) (by omega) ?_ | refine gln rfl (xlen_i (by assumption)) ?_ | refine gln rfl (xlen_q (by assumption)) ?_)
    rw [hg 0 (by decide), hg s hs3]
    rcases hs with ⟨rfl, rfl⟩ | ⟨rfl, rfl⟩
    · refine gcf rfl (fun z => z (show nI 1 = nI 1 from rfl)) ?_
      repeat (first | refine gp rfl rfl rfl ?_ | refine ggf rfl (by assumption) (by rfl) ?_ | refine gal rfl (by assumption) (by rfl) (by omega) (by omega) ?_ | refine gil rfl (by assumption) (by rfl) (by omega) (by omega) ?_ | refine gbl rfl (by assumption) (by rfl) (by omega) (by omega) ?_ | refine gln rfl (xlen_i (by assumption)) ?_ | refine gln rfl (xlen_q (by assumption)) ?_)
      rw [hg 2 (by decide)]
      exact rest
    · refine gct rfl (fun z => absurd (show nI 2 = nI 1 from z) (by decide)) ?_
      repeat (first | refine gp rfl rfl rfl ?_ | refine ggf rfl (by assumption) (by rfl) ?_ | refine gal rfl (by assumption) (by rfl) (by omega) (by omega) ?_ | refine gil rfl (by assumption) (by rfl) (by omega) (by omega) ?_ | refine gbl rfl (by assumption) (by rfl) (by omega) (by omega) ?_ | refine gln rfl (xlen_i (by assumption)) ?_ | refine gln rfl (xlen_q (by assumption)) ?_)
      rw [hg 1 (by decide)]
      exact rest
  obtain ⟨r, σ', hex, rfl, g1, g2⟩ := ex_of (d := d + 4) (y := 57) (as := [.inr (some 4), .inl (nI s), .inl (nI p), .inl (nI t), .inl (nI st)]) (σ := σ) (K := K) (by decide) rfl main
  exact ⟨σ', hex, g1, g2⟩
end
section
/-! MODULE: renames are carried (the choice), conflicts are counted, the class -/
/-- what a side found: targets, places, stands -/
def hSide (σ : xS) (a : Nat) (R : Nat → Option Nat) (P : Nat → pP) (S : Nat → Option Nat) : Prop := hSd σ a ∧ (∃ ft : Nat → Int32, σ.1 (a + 1) = some (.inl (0, 64, ft)) ∧ ∀ p, p < 64 → ft p = oI (R p)) ∧ (∃ fs, σ.1 (a + 2) = some (.inl (2, 64, fs))) ∧ (∃ fl, σ.1 (a + 3) = some (.inl (2, 64, fl))) ∧ (∃ fp : Nat → Int32, σ.1 (a + 4) = some (.inl (0, 8, fp)) ∧ ∀ f, f < 8 → fp f = plI (P f)) ∧ (∃ fw, σ.1 (a + 5) = some (.inl (0, 64, fw))) ∧ (∃ fz : Nat → Int32, σ.1 (a + 6) = some (.inl (0, 64, fz)) ∧ ∀ p, p < 64 → fz p = oI (S p))
theorem hSide.of {σ σ' : xS} {a : Nat} {R : Nat → Option Nat} {P : Nat → pP} {S : Nat → Option Nat} (h : hSide σ a R P S) (hk : ∀ k, a ≤ k → k ≤ a + 6 → σ'.1 k = σ.1 k) : hSide σ' a R P S := by
  obtain ⟨h0, ⟨ft, h1, h1'⟩, ⟨fs, h2⟩, ⟨fl, h3⟩, ⟨fp, h4, h4'⟩, ⟨fw, h5⟩, ⟨fz, h6, h6'⟩⟩ := h
  exact ⟨by unfold hSd; rw [hk a (by omega) (by omega)]; exact h0, ⟨ft, by rw [hk _ (by omega) (by omega)]; exact h1, h1'⟩, ⟨fs, by rw [hk _ (by omega) (by omega)]; exact h2⟩, ⟨fl, by rw [hk _ (by omega) (by omega)]; exact h3⟩, ⟨fp, by rw [hk _ (by omega) (by omega)]; exact h4, h4'⟩, ⟨fw, by rw [hk _ (by omega) (by omega)]; exact h5⟩, ⟨fz, by rw [hk _ (by omega) (by omega)]; exact h6, h6'⟩⟩
def oLt (R : Nat → Option Nat) : Prop := ∀ p q, p < 64 → R p = some q → q < 64
def pTo (R S : Nat → Option Nat) (p : Nat) : Option Nat := (R p).bind S
theorem pTo_lt {R S : Nat → Option Nat} {p q : Nat} (hR : oLt R) (hS : oLt S) (hp : p < 64) (h : pTo R S p = some q) : q < 64 := by
  unfold pTo at h
  cases hr : R p with
  | none => rw [hr] at h; cases h
  | some z => rw [hr] at h; exact hS z q (hR p z hp hr) h
theorem m_to (d : Nat) {σ : xS} {a p : Nat} {R : Nat → Option Nat} {P : Nat → pP} {S : Nat → Option Nat} (h : hSide σ a R P S) (hR : oLt R) (hp : p < 64) : xEx (d + 2) 34 [.inr (some a), .inl (nI p)] σ (some (.inl (oI (R p)))) σ ∧ xEx (d + 2) 35 [.inr (some a), .inl (oI (R p))] σ (some (.inl (oI (pTo R S p)))) σ := by
  obtain ⟨h0, ⟨ft, h1, h1'⟩, -, -, -, -, ⟨fz, h6, h6'⟩⟩ := h
  refine ⟨?_, ?_⟩
  · have := m_targetOf d h0 h1 hp
    rw [h1' p hp] at this
    exact this
  · unfold pTo
    cases hr : R p with
    | none => exact m_standOf_no d (by decide)
    | some q =>
      have hq := hR p q hp hr
      have := m_standOf d h0 h6 hq
      rw [h6' q hq] at this
      exact this
def pCarV (st : Nat) (i j : Option Nat) (V : Nat → pT) (p : Nat) : Nat → pT := match i, j with
  | some i, some j => if i = j then vU V 0 (pMv (V 0) p i) else V
  | some i, none => pOneV st 1 2 V p i
  | none, some j => pOneV st 2 1 V p j
  | none, none => V
def pCarC (st : Nat) (i j : Option Nat) (V : Nat → pT) (C : Nat → Int32) (p : Nat) : Nat → Int32 := match i, j with
  | some i, some j => if i = j then C else cUp (cUp (cUp C p (nI 32)) i (nI 32)) j (nI 32)
  | some i, none => pOneC st 1 2 V C p i
  | none, some j => pOneC st 2 1 V C p j
  | none, none => C
theorem oI_none : oI none = xk 1 1 := xk_m1.symm
theorem oI_some {q : Nat} (h : q < 64) : ¬ oI (some q) = xk 1 1 := fun z => oI_ne (q := q) (by omega) ((show nI q = xk 1 1 from z).trans xk_m1)
theorem m_carryRename (d : Nat) {σ : xS} {V : Nat → pT} {C : Nat → Int32} {p st : Nat} {R1 S1 R2 S2 : Nat → Option Nat} {P1 P2 : Nat → pP} (h : hMS σ V C) (s1 : hSide σ 6 R1 P1 S1) (s2 : hSide σ 13 R2 P2 S2) (hR1 : oLt R1) (hS1 : oLt S1) (hR2 : oLt R2) (hS2 : oLt S2) (so : ∀ O, V 0 p = some O → O.2.length ≤ 8) (hp : p < 64) (hst : st < 1000) :
    ∃ σ', xEx (d + 6) 54 [.inr (some 4), .inl (nI p), .inl (nI st)] σ none σ' ∧ hMS σ' (pCarV st (pTo R1 S1 p) (pTo R2 S2 p) V p) (pCarC st (pTo R1 S1 p) (pTo R2 S2 p) V C p) ∧ hGq σ σ' 2 78 := by
  let K : Option xV → xS → Prop := fun r0 σ0 => r0 = none ∧ hMS σ0 (pCarV st (pTo R1 S1 p) (pTo R2 S2 p) V p) (pCarC st (pTo R1 S1 p) (pTo R2 S2 p) V C p) ∧ hGq σ σ0 2 78
  have main : xGo (xEx (d + 5)) xtb_54 K (0, [some (.inr (some 4)), some (.inl (nI p)), some (.inl (nI st)), none, none], [], σ) := by
    have h4 := h.1.1
    obtain ⟨a1, a2⟩ := m_to (d + 3) s1 hR1 hp
    obtain ⟨b1, b2⟩ := m_to (d + 3) s2 hR2 hp
    have c1 : σ.1 6 = some (.inr (.inr (3, _))) := s1.1
    have c2 : σ.1 13 = some (.inr (.inr (3, _))) := s2.1
    repeat (first | refine gp rfl rfl rfl ?_ | refine ggf rfl (by assumption) (by rfl) ?_ | refine gal rfl (by assumption) (by rfl) (by omega) (by omega) ?_ | refine gil rfl (by assumption) (by rfl) (by omega) (by omega) ?_ | refine gbl rfl (by assumption) (by rfl) (by omega) (by omega) ?_ | refine gln rfl (xlen_i (by assumption)) ?_ | refine gln rfl (xlen_q (by assumption)) ?_)
    refine gcv (As := [.inl (nI p)]) (rest := [.inr (some 6)]) rfl (by decide) a1 c1 rfl rfl (by decide) ?_
    refine gcv (As := [.inl (oI (R1 p))]) (rest := []) rfl (by decide) a2 c1 rfl rfl (by decide) ?_
    repeat (first | refine gp rfl rfl rfl ?_ | refine ggf rfl (by assumption) (by rfl) ?_ | refine gal rfl (by assumption) (by rfl) (by omega) (by omega) ?_ | refine gil rfl (by assumption) (by rfl) (by omega) (by omega) ?_ | refine gbl rfl (by assumption) (by rfl) (by omega) (by omega) ?_ | refine gln rfl (xlen_i (by assumption)) ?_ | refine gln rfl (xlen_q (by assumption)) ?_)
    refine gcv (As := [.inl (nI p)]) (rest := [.inr (some 13)]) rfl (by decide) b1 c2 rfl rfl (by decide) ?_
    refine gcv (As := [.inl (oI (R2 p))]) (rest := []) rfl (by decide) b2 c2 rfl rfl (by decide) ?_
    have l1 := fun q => pTo_lt (q := q) hR1 hS1 hp
    have l2 := fun q => pTo_lt (q := q) hR2 hS2 hp
    have KK : K = fun r0 σ0 => r0 = none ∧ hMS σ0 (pCarV st (pTo R1 S1 p) (pTo R2 S2 p) V p) (pCarC st (pTo R1 S1 p) (pTo R2 S2 p) V C p) ∧ hGq σ σ0 2 78 := rfl
    rw [KK]
    clear KK a2 b2
    generalize pTo R1 S1 p = i at *
    generalize pTo R2 S2 p = j at *
    repeat (first | refine gp rfl rfl rfl ?_ | refine ggf rfl (by assumption) (by rfl) ?_ | refine gal rfl (by assumption) (by rfl) (by omega) (by omega) ?_ | refine gil rfl (by assumption) (by rfl) (by omega) (by omega) ?_ | refine gbl rfl (by assumption) (by rfl) (by omega) (by omega) ?_ | refine gln rfl (xlen_i (by assumption)) ?_ | refine gln rfl (xlen_q (by assumption)) ?_)
    cases i with
    | none =>
      refine gct rfl oI_none ?_
      repeat (first | refine gp rfl rfl rfl ?_ | refine ggf rfl (by assumption) (by rfl) ?_ | refine gal rfl (by assumption) (by rfl) (by omega) (by omega) ?_ | refine gil rfl (by assumption) (by rfl) (by omega) (by omega) ?_ | refine gbl rfl (by assumption) (by rfl) (by omega) (by omega) ?_ | refine gln rfl (xlen_i (by assumption)) ?_ | refine gln rfl (xlen_q (by assumption)) ?_)
      refine gct rfl oI_none ?_
      repeat (first | refine gp rfl rfl rfl ?_ | refine ggf rfl (by assumption) (by rfl) ?_ | refine gal rfl (by assumption) (by rfl) (by omega) (by omega) ?_ | refine gil rfl (by assumption) (by rfl) (by omega) (by omega) ?_ | refine gbl rfl (by assumption) (by rfl) (by omega) (by omega) ?_ | refine gln rfl (xlen_i (by assumption)) ?_ | refine gln rfl (xlen_q (by assumption)) ?_)
      cases j with
      | none =>
        refine gct rfl oI_none ?_
        exact grv rfl ⟨rfl, h, (hGq.refl h.2.2.2.2.1).wide (by omega) (by omega)⟩
      | some j =>
        have hj := l2 j rfl
        refine gcf rfl (oI_some hj) ?_
        repeat (first | refine gp rfl rfl rfl ?_ | refine ggf rfl (by assumption) (by rfl) ?_ | refine gal rfl (by assumption) (by rfl) (by omega) (by omega) ?_ | refine gil rfl (by assumption) (by rfl) (by omega) (by omega) ?_ | refine gbl rfl (by assumption) (by rfl) (by omega) (by omega) ?_ | refine gln rfl (xlen_i (by assumption)) ?_ | refine gln rfl (xlen_q (by assumption)) ?_)
        obtain ⟨σ1, x1, x2, x3⟩ := m_carryByOne d (s := 2) (q := 1) (st := st) h (Or.inr ⟨rfl, rfl⟩) so hp hj hst
        refine gcv (As := [.inl (nI 2), .inl (nI p), .inl (nI j), .inl (nI st)]) (rest := []) rfl (by decide) x1 h4 rfl rfl (by decide) ?_
        exact grv rfl ⟨rfl, x2, x3⟩
    | some i =>
      have hi := l1 i rfl
      refine gcf rfl (oI_some hi) ?_
      repeat (first | refine gp rfl rfl rfl ?_ | refine ggf rfl (by assumption) (by rfl) ?_ | refine gal rfl (by assumption) (by rfl) (by omega) (by omega) ?_ | refine gil rfl (by assumption) (by rfl) (by omega) (by omega) ?_ | refine gbl rfl (by assumption) (by rfl) (by omega) (by omega) ?_ | refine gln rfl (xlen_i (by assumption)) ?_ | refine gln rfl (xlen_q (by assumption)) ?_)
      cases j with
      | none =>
        refine gct rfl oI_none ?_
        repeat (first | refine gp rfl rfl rfl ?_ | refine ggf rfl (by assumption) (by rfl) ?_ | refine gal rfl (by assumption) (by rfl) (by omega) (by omega) ?_ | refine gil rfl (by assumption) (by rfl) (by omega) (by omega) ?_ | refine gbl rfl (by assumption) (by rfl) (by omega) (by omega) ?_ | refine gln rfl (xlen_i (by assumption)) ?_ | refine gln rfl (xlen_q (by assumption)) ?_)
        refine gcf rfl (oI_some hi) ?_
        repeat (first | refine gp rfl rfl rfl ?_ | refine ggf rfl (by assumption) (by rfl) ?_ | refine gal rfl (by assumption) (by rfl) (by omega) (by omega) ?_ | refine gil rfl (by assumption) (by rfl) (by omega) (by omega) ?_ | refine gbl rfl (by assumption) (by rfl) (by omega) (by omega) ?_ | refine gln rfl (xlen_i (by assumption)) ?_ | refine gln rfl (xlen_q (by assumption)) ?_)
        obtain ⟨σ1, x1, x2, x3⟩ := m_carryByOne d (s := 1) (q := 2) (st := st) h (Or.inl ⟨rfl, rfl⟩) so hp hi hst
        refine gcv (As := [.inl (nI 1), .inl (nI p), .inl (nI i), .inl (nI st)]) (rest := []) rfl (by decide) x1 h4 rfl rfl (by decide) ?_
        repeat (first | refine gp rfl rfl rfl ?_ | refine ggf rfl (by assumption) (by rfl) ?_ | refine gal rfl (by assumption) (by rfl) (by omega) (by omega) ?_ | refine gil rfl (by assumption) (by rfl) (by omega) (by omega) ?_ | refine gbl rfl (by assumption) (by rfl) (by omega) (by omega) ?_ | refine gln rfl (xlen_i (by assumption)) ?_ | refine gln rfl (xlen_q (by assumption)) ?_)
        exact grv rfl ⟨rfl, x2, x3⟩
      | some j =>
        have hj := l2 j rfl
        refine gcf rfl (oI_some hj) ?_
        repeat (first | refine gp rfl rfl rfl ?_ | refine ggf rfl (by assumption) (by rfl) ?_ | refine gal rfl (by assumption) (by rfl) (by omega) (by omega) ?_ | refine gil rfl (by assumption) (by rfl) (by omega) (by omega) ?_ | refine gbl rfl (by assumption) (by rfl) (by omega) (by omega) ?_ | refine gln rfl (xlen_i (by assumption)) ?_ | refine gln rfl (xlen_q (by assumption)) ?_)
        obtain ⟨σ1, x1, x2, x3⟩ := m_carryByBoth (d + 1) h hp hi hj
        refine gcv (As := [.inl (nI p), .inl (nI i), .inl (nI j)]) (rest := []) rfl (by decide) x1 h4 rfl rfl (by decide) ?_
        repeat (first | refine gp rfl rfl rfl ?_ | refine ggf rfl (by assumption) (by rfl) ?_ | refine gal rfl (by assumption) (by rfl) (by omega) (by omega) ?_ | refine gil rfl (by assumption) (by rfl) (by omega) (by omega) ?_ | refine gbl rfl (by assumption) (by rfl) (by omega) (by omega) ?_ | refine gln rfl (xlen_i (by assumption)) ?_ | refine gln rfl (xlen_q (by assumption)) ?_)
        exact grv rfl ⟨rfl, x2, x3.wide (by omega) (by omega)⟩
  obtain ⟨r, σ', hex, rfl, g1, g2⟩ := ex_of (d := d + 5) (y := 54) (as := [.inr (some 4), .inl (nI p), .inl (nI st)]) (σ := σ) (K := K) (by decide) rfl main
  exact ⟨σ', hex, g1, g2⟩
theorem m_countConflictPaths (d : Nat) {σ : xS} {C : Nat → Int32} (hM : hMg σ) (hC : hCo σ C) : xEx (d + 1) 61 [.inr (some 4)] σ (some (.inl (nI (pCnt (fun p => decide (¬ C p = 0)) 64)))) σ := by
  have h4 := hM.1
  obtain ⟨f, c1, c2⟩ := hC
  refine ⟨by decide, rfl, ?_⟩
  show xGo (xEx d) xtb_61 _ (0, [some (.inr (some 4)), none, none], [], σ)
  have loop : ∀ k i, i + k = 64 → xGo (xEx d) xtb_61 (fun r0 σ0 => r0 = some (.inl (nI (pCnt (fun p => decide (¬ C p = 0)) 64))) ∧ σ0 = σ) (7, [some (.inr (some 4)), some (.inl (nI (pCnt (fun p => decide (¬ C p = 0)) i))), some (.inl (nI i))], [.inl (nI 64), .inl (nI i)], σ) := by
    intro k
    induction k with
    | zero =>
      intro i hi
      obtain rfl : i = 64 := by omega
      refine gct rfl (show nI 64 ≤ nI _ from nI_le (by omega) (by omega)) ?_
      repeat (first | refine gp rfl rfl rfl ?_ | refine ggf rfl (by assumption) (by rfl) ?_ | refine gal rfl (by assumption) (by rfl) (by omega) (by omega) ?_ | refine gil rfl (by assumption) (by rfl) (by omega) (by omega) ?_ | refine gbl rfl (by assumption) (by rfl) (by omega) (by omega) ?_ | refine gln rfl (xlen_i (by assumption)) ?_ | refine gln rfl (xlen_q (by assumption)) ?_)
      exact gri rfl (fun h => absurd h (by decide)) ⟨rfl, rfl⟩
    | succ k ih =>
      intro i hi
      refine gcf rfl (nI_ge (by omega) (by omega)) ?_
      repeat (first | refine gp rfl rfl rfl ?_ | refine ggf rfl (by assumption) (by rfl) ?_ | refine gal rfl (by assumption) (by rfl) (by omega) (by omega) ?_ | refine gil rfl (by assumption) (by rfl) (by omega) (by omega) ?_ | refine gbl rfl (by assumption) (by rfl) (by omega) (by omega) ?_ | refine gln rfl (xlen_i (by assumption)) ?_ | refine gln rfl (xlen_q (by assumption)) ?_)
      rw [c2 i (by omega)]
      have ih1 := ih (i + 1) (by omega)
      rw [pCnt_s _ i] at ih1
      by_cases hc : C i = 0
      · refine git rfl hc ?_
        repeat (first | refine gp rfl rfl rfl ?_ | refine ggf rfl (by assumption) (by rfl) ?_ | refine gal rfl (by assumption) (by rfl) (by omega) (by omega) ?_ | refine gil rfl (by assumption) (by rfl) (by omega) (by omega) ?_ | refine gbl rfl (by assumption) (by rfl) (by omega) (by omega) ?_ | refine gln rfl (xlen_i (by assumption)) ?_ | refine gln rfl (xlen_q (by assumption)) ?_)
        rw [nI_s]
        rw [if_neg (by simp [hc]), Nat.add_zero] at ih1
        exact ih1
      · refine giff rfl hc ?_
        repeat (first | refine gp rfl rfl rfl ?_ | refine ggf rfl (by assumption) (by rfl) ?_ | refine gal rfl (by assumption) (by rfl) (by omega) (by omega) ?_ | refine gil rfl (by assumption) (by rfl) (by omega) (by omega) ?_ | refine gbl rfl (by assumption) (by rfl) (by omega) (by omega) ?_ | refine gln rfl (xlen_i (by assumption)) ?_ | refine gln rfl (xlen_q (by assumption)) ?_)
        rw [nI_s, nI_s]
        rw [if_pos (by simp [hc])] at ih1
        exact ih1
  repeat (first | refine gp rfl rfl rfl ?_ | refine ggf rfl (by assumption) (by rfl) ?_ | refine gal rfl (by assumption) (by rfl) (by omega) (by omega) ?_ | refine gil rfl (by assumption) (by rfl) (by omega) (by omega) ?_ | refine gbl rfl (by assumption) (by rfl) (by omega) (by omega) ?_ | refine gln rfl (xlen_i (by assumption)) ?_ | refine gln rfl (xlen_q (by assumption)) ?_)
  exact loop 64 0 rfl
theorem m_stagedFile (d : Nat) {σ : xS} {V : Nat → pT} {C : Nat → Int32} {v p : Nat} (h : hMS σ V C) (hv : v < 3) (hp : p < 64) : ∃ q, xEx (d + 3) 62 [.inr (some 4), .inl (nI v), .inl (nI p)] σ (some (.inr q)) σ ∧ hOpt σ q (if C p = 0 then none else V v p) := by
  have h4 := h.1.1
  obtain ⟨g, h5, hg⟩ := h.1.at
  have tv := h.2.2.2.2.2 v hv
  obtain ⟨q, f1, o1⟩ := m_fileAtT d tv hp
  refine ⟨if C p = 0 then none else q, ⟨by decide, rfl, ?_⟩, by split; trivial; exact o1⟩
  show xGo (xEx (d + 2)) xtb_62 _ (0, [some (.inr (some 4)), some (.inl (nI v)), some (.inl (nI p)), none], [], σ)
  repeat (first | refine gp rfl rfl rfl ?_ | refine ggf rfl (by assumption) (by rfl) ?_ | refine gal rfl (by assumption) (by rfl) (by omega) (by omega) ?_ | refine gil rfl (by assumption) (by rfl) (by omega) (by omega) ?_ | refine gbl rfl (by assumption) (by rfl) (by omega) (by omega) ?_ | refine gln rfl (xlen_i (by assumption)) ?_ | refine gln rfl (xlen_q (by assumption)) ?_)
  refine giff rfl (show ¬ nI v < 0 from nI_pos (by omega)) ?_
  repeat (first | refine gp rfl rfl rfl ?_ | refine ggf rfl (by assumption) (by rfl) ?_ | refine gal rfl (by assumption) (by rfl) (by omega) (by omega) ?_ | refine gil rfl (by assumption) (by rfl) (by omega) (by omega) ?_ | refine gbl rfl (by assumption) (by rfl) (by omega) (by omega) ?_ | refine gln rfl (xlen_i (by assumption)) ?_ | refine gln rfl (xlen_q (by assumption)) ?_)
  refine gcf rfl (show ¬ nI 3 ≤ nI v from nI_ge (by omega) (by omega)) ?_
  repeat (first | refine gp rfl rfl rfl ?_ | refine ggf rfl (by assumption) (by rfl) ?_ | refine gal rfl (by assumption) (by rfl) (by omega) (by omega) ?_ | refine gil rfl (by assumption) (by rfl) (by omega) (by omega) ?_ | refine gbl rfl (by assumption) (by rfl) (by omega) (by omega) ?_ | refine gln rfl (xlen_i (by assumption)) ?_ | refine gln rfl (xlen_q (by assumption)) ?_)
  refine giff rfl (fun h => absurd (show (1 : Int32) = 0 from h) (by decide)) ?_
  repeat (first | refine gp rfl rfl rfl ?_ | refine ggf rfl (by assumption) (by rfl) ?_ | refine gal rfl (by assumption) (by rfl) (by omega) (by omega) ?_ | refine gil rfl (by assumption) (by rfl) (by omega) (by omega) ?_ | refine gbl rfl (by assumption) (by rfl) (by omega) (by omega) ?_ | refine gln rfl (xlen_i (by assumption)) ?_ | refine gln rfl (xlen_q (by assumption)) ?_)
  refine gcv (As := [.inl (nI p)]) (rest := []) rfl (by decide) (m_codesAt d h.1 h.2.2.1 hp) h4 rfl rfl (by decide) ?_
  by_cases hc : C p = 0
  · refine git rfl hc ?_
    repeat (first | refine gp rfl rfl rfl ?_ | refine ggf rfl (by assumption) (by rfl) ?_ | refine gal rfl (by assumption) (by rfl) (by omega) (by omega) ?_ | refine gil rfl (by assumption) (by rfl) (by omega) (by omega) ?_ | refine gbl rfl (by assumption) (by rfl) (by omega) (by omega) ?_ | refine gln rfl (xlen_i (by assumption)) ?_ | refine gln rfl (xlen_q (by assumption)) ?_)
    exact gra rfl ⟨by rw [if_pos hc], rfl⟩
  · refine giff rfl hc ?_
    repeat (first | refine gp rfl rfl rfl ?_ | refine ggf rfl (by assumption) (by rfl) ?_ | refine gal rfl (by assumption) (by rfl) (by omega) (by omega) ?_ | refine gil rfl (by assumption) (by rfl) (by omega) (by omega) ?_ | refine gbl rfl (by assumption) (by rfl) (by omega) (by omega) ?_ | refine gln rfl (xlen_i (by assumption)) ?_ | refine gln rfl (xlen_q (by assumption)) ?_)
    rw [hg v hv]
    refine gcv (As := [.inl (nI p)]) (rest := []) rfl (by decide) f1 tv.obj rfl rfl (by decide) ?_
    repeat (first | refine gp rfl rfl rfl ?_ | refine ggf rfl (by assumption) (by rfl) ?_ | refine gal rfl (by assumption) (by rfl) (by omega) (by omega) ?_ | refine gil rfl (by assumption) (by rfl) (by omega) (by omega) ?_ | refine gbl rfl (by assumption) (by rfl) (by omega) (by omega) ?_ | refine gln rfl (xlen_i (by assumption)) ?_ | refine gln rfl (xlen_q (by assumption)) ?_)
    exact gra rfl ⟨by rw [if_neg hc], rfl⟩
theorem m_stagedFile_no (d : Nat) {σ : xS} {x y : Int32} (h : hMg σ) (hx : ¬ (0 ≤ x ∧ x < nI 3) ∨ ¬ (0 ≤ y ∧ y < nI 64)) : xEx (d + 3) 62 [.inr (some 4), .inl x, .inl y] σ (some (.inr none)) σ := by
  have h4 := h.1
  refine ⟨by decide, rfl, ?_⟩
  show xGo (xEx (d + 2)) xtb_62 _ (0, [some (.inr (some 4)), some (.inl x), some (.inl y), none], [], σ)
  repeat (first | refine gp rfl rfl rfl ?_ | refine ggf rfl (by assumption) (by rfl) ?_ | refine gal rfl (by assumption) (by rfl) (by omega) (by omega) ?_ | refine gil rfl (by assumption) (by rfl) (by omega) (by omega) ?_ | refine gbl rfl (by assumption) (by rfl) (by omega) (by omega) ?_ | refine gln rfl (xlen_i (by assumption)) ?_ | refine gln rfl (xlen_q (by assumption)) ?_)
  refine gif' rfl (fun hn => ?_) (fun hn => ?_)
  · repeat (first | refine gp rfl rfl rfl ?_ | refine ggf rfl (by assumption) (by rfl) ?_ | refine gal rfl (by assumption) (by rfl) (by omega) (by omega) ?_ | refine gil rfl (by assumption) (by rfl) (by omega) (by omega) ?_ | refine gbl rfl (by assumption) (by rfl) (by omega) (by omega) ?_ | refine gln rfl (xlen_i (by assumption)) ?_ | refine gln rfl (xlen_q (by assumption)) ?_)
    refine git rfl (show (0 : Int32) = 0 from rfl) ?_
    repeat (first | refine gp rfl rfl rfl ?_ | refine ggf rfl (by assumption) (by rfl) ?_ | refine gal rfl (by assumption) (by rfl) (by omega) (by omega) ?_ | refine gil rfl (by assumption) (by rfl) (by omega) (by omega) ?_ | refine gbl rfl (by assumption) (by rfl) (by omega) (by omega) ?_ | refine gln rfl (xlen_i (by assumption)) ?_ | refine gln rfl (xlen_q (by assumption)) ?_)
    exact gra rfl ⟨rfl, rfl⟩
  · repeat (first | refine gp rfl rfl rfl ?_ | refine ggf rfl (by assumption) (by rfl) ?_ | refine gal rfl (by assumption) (by rfl) (by omega) (by omega) ?_ | refine gil rfl (by assumption) (by rfl) (by omega) (by omega) ?_ | refine gbl rfl (by assumption) (by rfl) (by omega) (by omega) ?_ | refine gln rfl (xlen_i (by assumption)) ?_ | refine gln rfl (xlen_q (by assumption)) ?_)
    refine gcp rfl (fun h3 => ?_) (fun h3 => ?_)
    · repeat (first | refine gp rfl rfl rfl ?_ | refine ggf rfl (by assumption) (by rfl) ?_ | refine gal rfl (by assumption) (by rfl) (by omega) (by omega) ?_ | refine gil rfl (by assumption) (by rfl) (by omega) (by omega) ?_ | refine gbl rfl (by assumption) (by rfl) (by omega) (by omega) ?_ | refine gln rfl (xlen_i (by assumption)) ?_ | refine gln rfl (xlen_q (by assumption)) ?_)
      refine git rfl (show (0 : Int32) = 0 from rfl) ?_
      repeat (first | refine gp rfl rfl rfl ?_ | refine ggf rfl (by assumption) (by rfl) ?_ | refine gal rfl (by assumption) (by rfl) (by omega) (by omega) ?_ | refine gil rfl (by assumption) (by rfl) (by omega) (by omega) ?_ | refine gbl rfl (by assumption) (by rfl) (by omega) (by omega) ?_ | refine gln rfl (xlen_i (by assumption)) ?_ | refine gln rfl (xlen_q (by assumption)) ?_)
      exact gra rfl ⟨rfl, rfl⟩
    · repeat (first | refine gp rfl rfl rfl ?_ | refine ggf rfl (by assumption) (by rfl) ?_ | refine gal rfl (by assumption) (by rfl) (by omega) (by omega) ?_ | refine gil rfl (by assumption) (by rfl) (by omega) (by omega) ?_ | refine gbl rfl (by assumption) (by rfl) (by omega) (by omega) ?_ | refine gln rfl (xlen_i (by assumption)) ?_ | refine gln rfl (xlen_q (by assumption)) ?_)
      refine giff rfl (fun h => absurd (show (1 : Int32) = 0 from h) (by decide)) ?_
      have hy : ¬ (0 ≤ y ∧ y < nI 64) := by
        rcases hx with z | z
        · exact absurd ⟨Int32.not_lt.mp hn, Int32.not_le.mp h3⟩ z
        · exact z
      repeat (first | refine gp rfl rfl rfl ?_ | refine ggf rfl (by assumption) (by rfl) ?_ | refine gal rfl (by assumption) (by rfl) (by omega) (by omega) ?_ | refine gil rfl (by assumption) (by rfl) (by omega) (by omega) ?_ | refine gbl rfl (by assumption) (by rfl) (by omega) (by omega) ?_ | refine gln rfl (xlen_i (by assumption)) ?_ | refine gln rfl (xlen_q (by assumption)) ?_)
      refine gcv (As := [.inl y]) (rest := []) rfl (by decide) (m_codesAt_no d hy) h4 rfl rfl (by decide) ?_
      refine git rfl (show (0 : Int32) = 0 from rfl) ?_
      repeat (first | refine gp rfl rfl rfl ?_ | refine ggf rfl (by assumption) (by rfl) ?_ | refine gal rfl (by assumption) (by rfl) (by omega) (by omega) ?_ | refine gil rfl (by assumption) (by rfl) (by omega) (by omega) ?_ | refine gbl rfl (by assumption) (by rfl) (by omega) (by omega) ?_ | refine gln rfl (xlen_i (by assumption)) ?_ | refine gln rfl (xlen_q (by assumption)) ?_)
      exact gra rfl ⟨rfl, rfl⟩
theorem m_sideOf (d : Nat) {σ : xS} {x : Int32} (h : hMg σ) : xEx (d + 1) 63 [.inr (some 4), .inl x] σ (some (.inr (if x = nI 1 then some 6 else if x = nI 2 then some 13 else none))) σ := by
  have h4 := h.1
  refine ⟨by decide, rfl, ?_⟩
  show xGo (xEx d) xtb_63 _ (0, [some (.inr (some 4)), some (.inl x)], [], σ)
  repeat (first | refine gp rfl rfl rfl ?_ | refine ggf rfl (by assumption) (by rfl) ?_ | refine gal rfl (by assumption) (by rfl) (by omega) (by omega) ?_ | refine gil rfl (by assumption) (by rfl) (by omega) (by omega) ?_ | refine gbl rfl (by assumption) (by rfl) (by omega) (by omega) ?_ | refine gln rfl (xlen_i (by assumption)) ?_ | refine gln rfl (xlen_q (by assumption)) ?_)
  by_cases h1 : x = nI 1
  · refine gcf rfl (fun z => z (show x = nI 1 from h1)) ?_
    repeat (first | refine gp rfl rfl rfl ?_ | refine ggf rfl (by assumption) (by rfl) ?_ | refine gal rfl (by assumption) (by rfl) (by omega) (by omega) ?_ | refine gil rfl (by assumption) (by rfl) (by omega) (by omega) ?_ | refine gbl rfl (by assumption) (by rfl) (by omega) (by omega) ?_ | refine gln rfl (xlen_i (by assumption)) ?_ | refine gln rfl (xlen_q (by assumption)) ?_)
    exact gra rfl ⟨by rw [if_pos h1], rfl⟩
  · refine gct rfl (show ¬ x = nI 1 from h1) ?_
    repeat (first | refine gp rfl rfl rfl ?_ | refine ggf rfl (by assumption) (by rfl) ?_ | refine gal rfl (by assumption) (by rfl) (by omega) (by omega) ?_ | refine gil rfl (by assumption) (by rfl) (by omega) (by omega) ?_ | refine gbl rfl (by assumption) (by rfl) (by omega) (by omega) ?_ | refine gln rfl (xlen_i (by assumption)) ?_ | refine gln rfl (xlen_q (by assumption)) ?_)
    by_cases h2 : x = nI 2
    · refine gcf rfl (fun z => z (show x = nI 2 from h2)) ?_
      repeat (first | refine gp rfl rfl rfl ?_ | refine ggf rfl (by assumption) (by rfl) ?_ | refine gal rfl (by assumption) (by rfl) (by omega) (by omega) ?_ | refine gil rfl (by assumption) (by rfl) (by omega) (by omega) ?_ | refine gbl rfl (by assumption) (by rfl) (by omega) (by omega) ?_ | refine gln rfl (xlen_i (by assumption)) ?_ | refine gln rfl (xlen_q (by assumption)) ?_)
      exact gra rfl ⟨by rw [if_neg h1, if_pos h2], rfl⟩
    · refine gct rfl (show ¬ x = nI 2 from h2) ?_
      repeat (first | refine gp rfl rfl rfl ?_ | refine ggf rfl (by assumption) (by rfl) ?_ | refine gal rfl (by assumption) (by rfl) (by omega) (by omega) ?_ | refine gil rfl (by assumption) (by rfl) (by omega) (by omega) ?_ | refine gbl rfl (by assumption) (by rfl) (by omega) (by omega) ?_ | refine gln rfl (xlen_i (by assumption)) ?_ | refine gln rfl (xlen_q (by assumption)) ?_)
      exact gra rfl ⟨by rw [if_neg h1, if_neg h2], rfl⟩
end
section
/-! MODULE: what is found before any file goes anywhere, the class -/
def bP (B X : pT) (th : Nat) : Nat → pP := pPlace X (rAll B X th)
def bW (B X Y : pT) (th : Nat) : Nat → pP := sW B X (bP B Y th) (bP B X th)
def bS (B X Y : pT) (th : Nat) : Nat → Option Nat := sSt B X Y (bW B X Y th)
def bC1 (B X Y : pT) (th : Nat) (C : Nat → Int32) : Nat → Int32 := fun p => if sCf B X Y (bW B X Y th) p then C p ||| nI 128 else C p
def bC (B A T : pT) (th : Nat) : Nat → Int32 := bC1 B T A th (bC1 B A T th (fun _ => 0))
def bV (B A T : pT) (th : Nat) : Nat → pT := fun i => if i = 0 then B else if i = 1 then sVer A (bS B A T th) 64 else sVer T (bS B T A th) 64
theorem bP_ok (B X : pT) (th : Nat) : plOk (bP B X th) := fun _ _ _ h => pPlace_lt h
theorem bS_lt {B X Y : pT} {th : Nat} : oLt (bS B X Y th) := by
  intro p q hp h
  unfold bS sSt at h
  split at h
  · rename_i y hy
    have := sW_lt (bP_ok B Y th) hp hy
    split at h
    · split at h
      · cases h; exact hp
      · cases h
    · cases h; exact this
  · split at h
    · cases h; exact hp
    · cases h
theorem bS_some {B X Y : pT} {th p : Nat} (h : (X p).isSome = true) : (bS B X Y th p).isSome = true := by
  unfold bS sSt
  split
  · split <;> simp [h]
  · simp [h]
theorem hT.of {σ σ' : xS} {t : Nat} {T : pT} (h : hT σ t T) (hk : ∀ k, 38 ≤ k → σ'.1 k = σ.1 k) (ht : 38 ≤ t) : hT σ' t T := by
  obtain ⟨g, ⟨a1, a2⟩, a3⟩ := h
  exact ⟨g, ⟨by rw [hk t ht]; exact a1, by rw [hk (t + 1) (by omega)]; exact a2⟩, fun p hp => (a3 p hp).keep (fun k e hk' hs => by rw [hk k (by omega)]; exact hs)⟩
theorem m_becomeT (d : Nat) {σ : xS} {a c : Nat} {T T' : pT} (h : hT σ a T) (h' : hT σ c T') (hac : a ≠ c) (hac' : a + 1 ≠ c) (ha : a + 1 < 63) : ∃ σ', xEx (d + 1) 11 [.inr (some a), .inr (some c)] σ none σ' ∧ hT σ' a T' ∧ hFr (a + 1) (a + 1) σ σ' := by
  obtain ⟨g, h1, h2⟩ := h
  obtain ⟨g', h1', h2'⟩ := h'
  obtain ⟨g'', e1, e2⟩ := m_become d h1 h1' hac (fun j hj => hOpt_cell (h2' j hj))
  refine ⟨_, e2, ⟨g'', ⟨by rw [xup_ne (by omega)]; exact h1.1, xup_eq _ _ _⟩, fun p hp => ?_⟩, hFr.up (Nat.le_refl _) (Nat.le_refl _)⟩
  rw [e1 p hp]
  exact (h2' p hp).keep (hKeep.up (by omega))
theorem m_begin (d : Nat) {σ : xS} {B A T V0 V1 V2 : pT} {C0 : Nat → Int32} {R1 R2 S1 S2 : Nat → Option Nat} {P1 P2 : Nat → pP} {th : Nat} (hM : hMg σ) (hL : hL0 σ) (hC : hCo σ C0) (hN : hInts σ 1 []) (hf : hFresh σ) (s1 : hSide σ 6 R1 P1 S1) (s2 : hSide σ 13 R2 P2 S2) (hV0 : hT σ 38 V0) (hV1 : hT σ 40 V1) (hV2 : hT σ 42 V2) (hB : hT σ 44 B) (hA : hT σ 46 A) (hT' : hT σ 48 T) (kB : pTok B) (kA : pTok A) (kT : pTok T) (hth : th ≤ 100) (ok1 : rOk (rAll B A th)) (ok2 : rOk (rAll B T th)) :
    ∃ σ', xEx (d + 6) 53 [.inr (some 4), .inr (some 44), .inr (some 46), .inr (some 48), .inl (nI th)] σ none σ' ∧ hMS σ' (bV B A T th) (bC B A T th) ∧ hSide σ' 6 (rAll B A th).1 (bP B A th) (bS B A T th) ∧ hSide σ' 13 (rAll B T th).1 (bP B T th) (bS B T A th) ∧ σ'.2 = σ.2 ∧ ∀ k, (k < 6 ∨ 43 < k) → σ'.1 k = σ.1 k := by
  let K : Option xV → xS → Prop := fun r0 σ0 => r0 = none ∧ hMS σ0 (bV B A T th) (bC B A T th) ∧ hSide σ0 6 (rAll B A th).1 (bP B A th) (bS B A T th) ∧ hSide σ0 13 (rAll B T th).1 (bP B T th) (bS B T A th) ∧ σ0.2 = σ.2 ∧ ∀ k, (k < 6 ∨ 43 < k) → σ0.1 k = σ.1 k
  have main : xGo (xEx (d + 5)) xtb_53 K (0, [some (.inr (some 4)), some (.inr (some 44)), some (.inr (some 46)), some (.inr (some 48)), some (.inl (nI th))], [], σ) := by
    obtain ⟨a0, ⟨a1, ha1, -⟩, ⟨a2, ha2⟩, ⟨a3, ha3⟩, ⟨a4, ha4, -⟩, ⟨a5, ha5⟩, ⟨a6, ha6, -⟩⟩ := s1
    obtain ⟨b0, ⟨b1, hb1, -⟩, ⟨b2, hb2⟩, ⟨b3, hb3⟩, ⟨b4, hb4, -⟩, ⟨b5, hb5⟩, ⟨b6, hb6, -⟩⟩ := s2
    have h4 := hM.1
    obtain ⟨g5, h5, hg⟩ := hM.at
    obtain ⟨c0, hc0, -⟩ := hC
    -- the codes
    repeat (first | refine gp rfl rfl rfl ?_ | refine ggf rfl (by assumption) (by rfl) ?_ | refine gal rfl (by assumption) (by rfl) (by omega) (by omega) ?_ | refine gil rfl (by assumption) (by rfl) (by omega) (by omega) ?_ | refine gbl rfl (by assumption) (by rfl) (by omega) (by omega) ?_ | refine gln rfl (xlen_i (by assumption)) ?_ | refine gln rfl (xlen_q (by assumption)) ?_)
    obtain ⟨f1, e1, x1⟩ := m_fill (d + 4) (x := (0 : Int32)) hc0 (by decide) (by decide)
    refine gcs (As := [.inr (some 20), .inl 0]) (rest := []) rfl (by decide) x1 rfl rfl (by decide) ?_
    have F1 : ∀ k, k ≠ 20 → (xup σ 20 (.inl (0, 64, f1))).1 k = σ.1 k := fun k hk => xup_ne hk
    have N1 : (xup σ 20 (.inl (0, 64, f1))).2 = σ.2 := rfl
    have q1 : (xup σ 20 (.inl (0, 64, f1))).1 20 = some (.inl (0, 64, f1)) := xup_eq _ _ _
    generalize xup σ 20 (.inl (0, 64, f1)) = σ1 at *
    have z4 : σ1.1 4 = _ := (F1 4 (by decide)).trans h4
    repeat (first | refine gp rfl rfl rfl ?_ | refine ggf rfl (by assumption) (by rfl) ?_ | refine gal rfl (by assumption) (by rfl) (by omega) (by omega) ?_ | refine gil rfl (by assumption) (by rfl) (by omega) (by omega) ?_ | refine gbl rfl (by assumption) (by rfl) (by omega) (by omega) ?_ | refine gln rfl (xlen_i (by assumption)) ?_ | refine gln rfl (xlen_q (by assumption)) ?_)
    -- renames
    obtain ⟨σ2, x2, r2, fr2⟩ := m_findRenames d (σ := σ1) (a := 6) (t := 44) (u := 46) (th := th) (by unfold hSd; rw [F1 _ (by decide)]; exact a0) (by rw [F1 _ (by decide)]; exact ha1) (by rw [F1 _ (by decide)]; exact ha2) (by rw [F1 _ (by decide)]; exact ha3) (hB.of (fun k hk => F1 k (by omega)) (by decide)) (hA.of (fun k hk => F1 k (by omega)) (by decide)) kB kA (by decide) (by decide) (by decide) hth
    have y6 : σ1.1 6 = some (.inr (.inr (3, _))) := (F1 6 (by decide)).trans a0
    refine gcv (As := [.inr (some 44), .inr (some 46), .inl (nI th)]) (rest := []) rfl (by decide) x2 y6 rfl rfl (by decide) ?_
    have F2 : ∀ k, k ≠ 20 → (k < 7 ∨ 9 < k) → σ2.1 k = σ.1 k := fun k h1 h2 => (fr2.2 k h2).trans (F1 k h1)
    have N2 : σ2.2 = σ.2 := fr2.1.trans N1
    have q2 : σ2.1 20 = some (.inl (0, 64, f1)) := (fr2.2 20 (by decide)).trans q1
    have z4 : σ2.1 4 = _ := (F2 4 (by decide) (by decide)).trans h4
    repeat (first | refine gp rfl rfl rfl ?_ | refine ggf rfl (by assumption) (by rfl) ?_ | refine gal rfl (by assumption) (by rfl) (by omega) (by omega) ?_ | refine gil rfl (by assumption) (by rfl) (by omega) (by omega) ?_ | refine gbl rfl (by assumption) (by rfl) (by omega) (by omega) ?_ | refine gln rfl (xlen_i (by assumption)) ?_ | refine gln rfl (xlen_q (by assumption)) ?_)
    obtain ⟨σ3, x3, r3, fr3⟩ := m_findRenames d (σ := σ2) (a := 13) (t := 44) (u := 48) (th := th) (by unfold hSd; rw [F2 _ (by decide) (by decide)]; exact b0) (by rw [F2 _ (by decide) (by decide)]; exact hb1) (by rw [F2 _ (by decide) (by decide)]; exact hb2) (by rw [F2 _ (by decide) (by decide)]; exact hb3) (hB.of (fun k hk => F2 k (by omega) (by omega)) (by decide)) (hT'.of (fun k hk => F2 k (by omega) (by omega)) (by decide)) kB kT (by decide) (by decide) (by decide) hth
    have y13 : σ2.1 13 = some (.inr (.inr (3, _))) := (F2 13 (by decide) (by decide)).trans b0
    refine gcv (As := [.inr (some 44), .inr (some 48), .inl (nI th)]) (rest := []) rfl (by decide) x3 y13 rfl rfl (by decide) ?_
    have F3 : ∀ k, k ≠ 20 → (k < 7 ∨ 9 < k) → (k < 14 ∨ 16 < k) → σ3.1 k = σ.1 k := fun k h1 h2 h3 => (fr3.2 k h3).trans (F2 k h1 h2)
    have N3 : σ3.2 = σ.2 := fr3.1.trans N2
    have q3 : σ3.1 20 = some (.inl (0, 64, f1)) := (fr3.2 20 (by decide)).trans q2
    obtain ⟨-, u1, u2, u3, hu1, hu2, hu3, hu⟩ := r2
    obtain ⟨-, v1, v2, v3, hv1, hv2, hv3, hv⟩ := r3
    have hu1 : σ3.1 (6 + 1) = _ := (fr3.2 _ (by decide)).trans hu1
    have hu2 : σ3.1 (6 + 2) = _ := (fr3.2 _ (by decide)).trans hu2
    have hu3 : σ3.1 (6 + 3) = _ := (fr3.2 _ (by decide)).trans hu3
    have z4 : σ3.1 4 = _ := (F3 4 (by decide) (by decide) (by decide)).trans h4
    repeat (first | refine gp rfl rfl rfl ?_ | refine ggf rfl (by assumption) (by rfl) ?_ | refine gal rfl (by assumption) (by rfl) (by omega) (by omega) ?_ | refine gil rfl (by assumption) (by rfl) (by omega) (by omega) ?_ | refine gbl rfl (by assumption) (by rfl) (by omega) (by omega) ?_ | refine gln rfl (xlen_i (by assumption)) ?_ | refine gln rfl (xlen_q (by assumption)) ?_)
    -- places
    obtain ⟨p1, hp1, x4⟩ := m_findPlaces d (σ := σ3) (a := 6) (t := 46) (T := A) (R := rAll B A th) (by unfold hSd; rw [F3 _ (by decide) (by decide) (by decide)]; exact a0) hu1 (fun p hp => (hu p hp).1) (by rw [F3 _ (by decide) (by decide) (by decide)]; exact ha4) ok1 (hA.of (fun k hk => F3 k (by omega) (by omega) (by omega)) (by decide)) (by decide) (by decide)
    have y6 : σ3.1 6 = some (.inr (.inr (3, _))) := (F3 6 (by decide) (by decide) (by decide)).trans a0
    refine gcv (As := [.inr (some 46)]) (rest := []) rfl (by decide) x4 y6 rfl rfl (by decide) ?_
    have F4 : ∀ k, k ≠ 20 → (k < 7 ∨ 10 < k) → (k < 14 ∨ 16 < k) → (xup σ3 (6 + 4) (.inl (0, 8, p1))).1 k = σ.1 k := fun k h1 h2 h3 => (xup_ne (by omega)).trans (F3 k h1 (by omega) h3)
    have N4 : (xup σ3 (6 + 4) (.inl (0, 8, p1))).2 = σ.2 := N3
    have q4 : (xup σ3 (6 + 4) (.inl (0, 8, p1))).1 20 = some (.inl (0, 64, f1)) := (xup_ne (by decide)).trans q3
    have hu1 : (xup σ3 (6 + 4) (.inl (0, 8, p1))).1 (6 + 1) = _ := (xup_ne (by decide)).trans hu1
    have hu2 : (xup σ3 (6 + 4) (.inl (0, 8, p1))).1 (6 + 2) = _ := (xup_ne (by decide)).trans hu2
    have hu3 : (xup σ3 (6 + 4) (.inl (0, 8, p1))).1 (6 + 3) = _ := (xup_ne (by decide)).trans hu3
    have hv1 : (xup σ3 (6 + 4) (.inl (0, 8, p1))).1 (13 + 1) = _ := (xup_ne (by decide)).trans hv1
    have hv2 : (xup σ3 (6 + 4) (.inl (0, 8, p1))).1 (13 + 2) = _ := (xup_ne (by decide)).trans hv2
    have hv3 : (xup σ3 (6 + 4) (.inl (0, 8, p1))).1 (13 + 3) = _ := (xup_ne (by decide)).trans hv3
    have hu4 : (xup σ3 (6 + 4) (.inl (0, 8, p1))).1 (6 + 4) = some (.inl (0, 8, p1)) := xup_eq _ _ _
    generalize xup σ3 (6 + 4) (.inl (0, 8, p1)) = σ4 at F4 N4 q4 hu1 hu2 hu3 hv1 hv2 hv3 hu4 ⊢
    have z4 : σ4.1 4 = _ := (F4 4 (by decide) (by decide) (by decide)).trans h4
    repeat (first | refine gp rfl rfl rfl ?_ | refine ggf rfl (by assumption) (by rfl) ?_ | refine gal rfl (by assumption) (by rfl) (by omega) (by omega) ?_ | refine gil rfl (by assumption) (by rfl) (by omega) (by omega) ?_ | refine gbl rfl (by assumption) (by rfl) (by omega) (by omega) ?_ | refine gln rfl (xlen_i (by assumption)) ?_ | refine gln rfl (xlen_q (by assumption)) ?_)
    obtain ⟨p2, hp2, x5⟩ := m_findPlaces d (σ := σ4) (a := 13) (t := 48) (T := T) (R := rAll B T th) (by unfold hSd; rw [F4 _ (by decide) (by decide) (by decide)]; exact b0) hv1 (fun p hp => (hv p hp).1) (by rw [F4 _ (by decide) (by decide) (by decide)]; exact hb4) ok2 (hT'.of (fun k hk => F4 k (by omega) (by omega) (by omega)) (by decide)) (by decide) (by decide)
    have y13 : σ4.1 13 = some (.inr (.inr (3, _))) := (F4 13 (by decide) (by decide) (by decide)).trans b0
    refine gcv (As := [.inr (some 48)]) (rest := []) rfl (by decide) x5 y13 rfl rfl (by decide) ?_
    have F5 : ∀ k, k ≠ 20 → (k < 7 ∨ 10 < k) → (k < 14 ∨ 17 < k) → (xup σ4 (13 + 4) (.inl (0, 8, p2))).1 k = σ.1 k := fun k h1 h2 h3 => (xup_ne (by omega)).trans (F4 k h1 h2 (by omega))
    have N5 : (xup σ4 (13 + 4) (.inl (0, 8, p2))).2 = σ.2 := N4
    have q5 : (xup σ4 (13 + 4) (.inl (0, 8, p2))).1 20 = some (.inl (0, 64, f1)) := (xup_ne (by decide)).trans q4
    have hu1 : (xup σ4 (13 + 4) (.inl (0, 8, p2))).1 (6 + 1) = _ := (xup_ne (by decide)).trans hu1
    have hu2 : (xup σ4 (13 + 4) (.inl (0, 8, p2))).1 (6 + 2) = _ := (xup_ne (by decide)).trans hu2
    have hu3 : (xup σ4 (13 + 4) (.inl (0, 8, p2))).1 (6 + 3) = _ := (xup_ne (by decide)).trans hu3
    have hu4 : (xup σ4 (13 + 4) (.inl (0, 8, p2))).1 (6 + 4) = _ := (xup_ne (by decide)).trans hu4
    have hv1 : (xup σ4 (13 + 4) (.inl (0, 8, p2))).1 (13 + 1) = _ := (xup_ne (by decide)).trans hv1
    have hv2 : (xup σ4 (13 + 4) (.inl (0, 8, p2))).1 (13 + 2) = _ := (xup_ne (by decide)).trans hv2
    have hv3 : (xup σ4 (13 + 4) (.inl (0, 8, p2))).1 (13 + 3) = _ := (xup_ne (by decide)).trans hv3
    have hv4 : (xup σ4 (13 + 4) (.inl (0, 8, p2))).1 (13 + 4) = some (.inl (0, 8, p2)) := xup_eq _ _ _
    generalize xup σ4 (13 + 4) (.inl (0, 8, p2)) = σ5 at F5 N5 q5 hu1 hu2 hu3 hu4 hv1 hv2 hv3 hv4 ⊢
    have z4 : σ5.1 4 = _ := (F5 4 (by decide) (by decide) (by decide)).trans h4
    repeat (first | refine gp rfl rfl rfl ?_ | refine ggf rfl (by assumption) (by rfl) ?_ | refine gal rfl (by assumption) (by rfl) (by omega) (by omega) ?_ | refine gil rfl (by assumption) (by rfl) (by omega) (by omega) ?_ | refine gbl rfl (by assumption) (by rfl) (by omega) (by omega) ?_ | refine gln rfl (xlen_i (by assumption)) ?_ | refine gln rfl (xlen_q (by assumption)) ?_)
    -- stands
    obtain ⟨σ6, w1, w2, w3, x6, hw1, hw2, hw3, hw4, n6, k6⟩ := m_findStands d (σ := σ5) (a := 6) (c := 13) (t := 44) (u := 46) (w := 48) (b := 20) (B := B) (T := A) (O := T) (PO := bP B T th) (PL := bP B A th) (by unfold hSd; rw [F5 _ (by decide) (by decide) (by decide)]; exact a0) hu4 hp1 (by rw [F5 _ (by decide) (by decide) (by decide)]; exact ha5) (by rw [F5 _ (by decide) (by decide) (by decide)]; exact ha6) (by unfold hSd; rw [F5 _ (by decide) (by decide) (by decide)]; exact b0) hv4 hp2 (bP_ok _ _ _) (bP_ok _ _ _) q5 (hB.of (fun k hk => F5 k (by omega) (by omega) (by omega)) (by decide)) (hA.of (fun k hk => F5 k (by omega) (by omega) (by omega)) (by decide)) (hT'.of (fun k hk => F5 k (by omega) (by omega) (by omega)) (by decide)) (by decide) (by decide) (by decide) (by decide) (by decide) (by decide) (by decide)
    have y6 : σ5.1 6 = some (.inr (.inr (3, _))) := (F5 6 (by decide) (by decide) (by decide)).trans a0
    refine gcv (As := [.inr (some 44), .inr (some 46), .inr (some 48), .inr (some 13), .inr (some 20)]) (rest := []) rfl (by decide) x6 y6 rfl rfl (by decide) ?_
    have F6 : ∀ k, k ≠ 20 → (k < 7 ∨ 12 < k) → (k < 14 ∨ 17 < k) → σ6.1 k = σ.1 k := fun k h1 h2 h3 => (k6 k (by omega) (by omega) h1).trans (F5 k h1 (by omega) h3)
    have N6 : σ6.2 = σ.2 := n6.trans N5
    have hu1 : σ6.1 (6 + 1) = _ := (k6 _ (by decide) (by decide) (by decide)).trans hu1
    have hu2 : σ6.1 (6 + 2) = _ := (k6 _ (by decide) (by decide) (by decide)).trans hu2
    have hu3 : σ6.1 (6 + 3) = _ := (k6 _ (by decide) (by decide) (by decide)).trans hu3
    have hu4 : σ6.1 (6 + 4) = _ := (k6 _ (by decide) (by decide) (by decide)).trans hu4
    have hv1 : σ6.1 (13 + 1) = _ := (k6 _ (by decide) (by decide) (by decide)).trans hv1
    have hv2 : σ6.1 (13 + 2) = _ := (k6 _ (by decide) (by decide) (by decide)).trans hv2
    have hv3 : σ6.1 (13 + 3) = _ := (k6 _ (by decide) (by decide) (by decide)).trans hv3
    have hv4 : σ6.1 (13 + 4) = _ := (k6 _ (by decide) (by decide) (by decide)).trans hv4
    have z4 : σ6.1 4 = _ := (F6 4 (by decide) (by decide) (by decide)).trans h4
    repeat (first | refine gp rfl rfl rfl ?_ | refine ggf rfl (by assumption) (by rfl) ?_ | refine gal rfl (by assumption) (by rfl) (by omega) (by omega) ?_ | refine gil rfl (by assumption) (by rfl) (by omega) (by omega) ?_ | refine gbl rfl (by assumption) (by rfl) (by omega) (by omega) ?_ | refine gln rfl (xlen_i (by assumption)) ?_ | refine gln rfl (xlen_q (by assumption)) ?_)
    obtain ⟨σ7, t1, t2, t3, x7, ht1, ht2, ht3, ht4, n7, k7⟩ := m_findStands d (σ := σ6) (a := 13) (c := 6) (t := 44) (u := 48) (w := 46) (b := 20) (B := B) (T := T) (O := A) (PO := bP B A th) (PL := bP B T th) (by unfold hSd; rw [F6 _ (by decide) (by decide) (by decide)]; exact b0) hv4 hp2 (by rw [F6 _ (by decide) (by decide) (by decide)]; exact hb5) (by rw [F6 _ (by decide) (by decide) (by decide)]; exact hb6) (by unfold hSd; rw [F6 _ (by decide) (by decide) (by decide)]; exact a0) hu4 hp1 (bP_ok _ _ _) (bP_ok _ _ _) hw3 (hB.of (fun k hk => F6 k (by omega) (by omega) (by omega)) (by decide)) (hT'.of (fun k hk => F6 k (by omega) (by omega) (by omega)) (by decide)) (hA.of (fun k hk => F6 k (by omega) (by omega) (by omega)) (by decide)) (by decide) (by decide) (by decide) (by decide) (by decide) (by decide) (by decide)
    have y13 : σ6.1 13 = some (.inr (.inr (3, _))) := (F6 13 (by decide) (by decide) (by decide)).trans b0
    refine gcv (As := [.inr (some 44), .inr (some 48), .inr (some 46), .inr (some 6), .inr (some 20)]) (rest := []) rfl (by decide) x7 y13 rfl rfl (by decide) ?_
    have F7 : ∀ k, k ≠ 20 → (k < 7 ∨ 12 < k) → (k < 14 ∨ 19 < k) → σ7.1 k = σ.1 k := fun k h1 h2 h3 => (k7 k (by omega) (by omega) h1).trans (F6 k h1 h2 (by omega))
    have N7 : σ7.2 = σ.2 := n7.trans N6
    have S1' : hSide σ7 6 (rAll B A th).1 (bP B A th) (bS B A T th) := ⟨by unfold hSd; rw [F7 _ (by decide) (by decide) (by decide)]; exact a0, ⟨u1, (k7 _ (by decide) (by decide) (by decide)).trans hu1, fun p hp => (hu p hp).1⟩, ⟨u2, (k7 _ (by decide) (by decide) (by decide)).trans hu2⟩, ⟨u3, (k7 _ (by decide) (by decide) (by decide)).trans hu3⟩, ⟨p1, (k7 _ (by decide) (by decide) (by decide)).trans hu4, hp1⟩, ⟨w1, (k7 _ (by decide) (by decide) (by decide)).trans hw1⟩, ⟨w2, (k7 _ (by decide) (by decide) (by decide)).trans hw2, fun p hp => (hw4 p hp).1⟩⟩
    have S2' : hSide σ7 13 (rAll B T th).1 (bP B T th) (bS B T A th) := ⟨by unfold hSd; rw [F7 _ (by decide) (by decide) (by decide)]; exact b0, ⟨v1, (k7 _ (by decide) (by decide) (by decide)).trans hv1, fun p hp => (hv p hp).1⟩, ⟨v2, (k7 _ (by decide) (by decide) (by decide)).trans hv2⟩, ⟨v3, (k7 _ (by decide) (by decide) (by decide)).trans hv3⟩, ⟨p2, (k7 _ (by decide) (by decide) (by decide)).trans hv4, hp2⟩, ⟨t1, ht1⟩, ⟨t2, ht2, fun p hp => (ht4 p hp).1⟩⟩
    have C7 : hCo σ7 (bC B A T th) := by
      refine ⟨t3, ht3, fun p hp => ?_⟩
      rw [(ht4 p hp).2, (hw4 p hp).2, e1 p hp]
      rfl
    have z4 : σ7.1 4 = _ := (F7 4 (by decide) (by decide) (by decide)).trans h4
    have z5 : σ7.1 5 = _ := (F7 5 (by decide) (by decide) (by decide)).trans h5
    have B7 := hB.of (σ' := σ7) (fun k hk => F7 k (by omega) (by omega) (by omega)) (by decide)
    have A7 := hA.of (σ' := σ7) (fun k hk => F7 k (by omega) (by omega) (by omega)) (by decide)
    have T7 := hT'.of (σ' := σ7) (fun k hk => F7 k (by omega) (by omega) (by omega)) (by decide)
    have V70 := hV0.of (σ' := σ7) (fun k hk => F7 k (by omega) (by omega) (by omega)) (by decide)
    have V71 := hV1.of (σ' := σ7) (fun k hk => F7 k (by omega) (by omega) (by omega)) (by decide)
    have V72 := hV2.of (σ' := σ7) (fun k hk => F7 k (by omega) (by omega) (by omega)) (by decide)
    clear x1 x2 x3 x4 x5 x6 x7 F1 F2 F3 F4 F5 F6 N1 N2 N3 N4 N5 N6 hu1 hu2 hu3 hu4 hv1 hv2 hv3 hv4 hw1 hw2 hw3 ht1 ht2 ht3
    repeat (first | refine gp rfl rfl rfl ?_ | refine ggf rfl (by assumption) (by rfl) ?_ | refine gal rfl (by assumption) (by rfl) (by omega) (by omega) ?_ | refine gil rfl (by assumption) (by rfl) (by omega) (by omega) ?_ | refine gbl rfl (by assumption) (by rfl) (by omega) (by omega) ?_ | refine gln rfl (xlen_i (by assumption)) ?_ | refine gln rfl (xlen_q (by assumption)) ?_)
    rw [hg 0 (by decide)]
    -- the versions
    obtain ⟨σ8, x8, V80, fr8⟩ := m_becomeT (d + 4) V70 B7 (by decide) (by decide) (by decide)
    refine gcv (As := [.inr (some 44)]) (rest := []) rfl (by decide) x8 V70.obj rfl rfl (by decide) ?_
    have z4 : σ8.1 4 = _ := (fr8.2 4 (by decide)).trans z4
    have z5 : σ8.1 5 = _ := (fr8.2 5 (by decide)).trans z5
    have A8 := A7.fr fr8 (by decide) (by decide)
    have V81 := V71.fr fr8 (by decide) (by decide)
    have S18 := S1'.of (fun k h1 h2 => fr8.2 k (by omega))
    obtain ⟨q0, -, -, -, -, -, ⟨q6, hq6, hq6'⟩⟩ := S18
    repeat (first | refine gp rfl rfl rfl ?_ | refine ggf rfl (by assumption) (by rfl) ?_ | refine gal rfl (by assumption) (by rfl) (by omega) (by omega) ?_ | refine gil rfl (by assumption) (by rfl) (by omega) (by omega) ?_ | refine gbl rfl (by assumption) (by rfl) (by omega) (by omega) ?_ | refine gln rfl (xlen_i (by assumption)) ?_ | refine gln rfl (xlen_q (by assumption)) ?_)
    rw [hg 1 (by decide)]
    obtain ⟨g9, x9, V91⟩ := m_layStanding (d + 1) q0 hq6 hq6' (fun p y hp h => bS_lt p y hp h) (fun p hp h => bS_some h) A8 V81 (by decide) (by decide) (by decide) (by decide)
    have y6 : σ8.1 6 = some (.inr (.inr (3, _))) := q0
    refine gcv (As := [.inr (some 46), .inr (some 40)]) (rest := []) rfl (by decide) x9 y6 rfl rfl (by decide) ?_
    have fr9 : hFr 41 41 σ8 (xup σ8 (40 + 1) (.inr (.inl (0, 64, g9)))) := hFr.up (by decide) (by decide)
    generalize xup σ8 (40 + 1) (.inr (.inl (0, 64, g9))) = σ9 at V91 fr9 ⊢
    have z4 : σ9.1 4 = _ := (fr9.2 4 (by decide)).trans z4
    have z5 : σ9.1 5 = _ := (fr9.2 5 (by decide)).trans z5
    have T9 := (T7.fr fr8 (by decide) (by decide)).fr fr9 (by decide) (by decide)
    have V92 := (V72.fr fr8 (by decide) (by decide)).fr fr9 (by decide) (by decide)
    have V90 := V80.fr fr9 (by decide) (by decide)
    have S29 := (S2'.of (fun k h1 h2 => fr8.2 k (by omega))).of (fun k h1 h2 => fr9.2 k (by omega))
    obtain ⟨r0, -, -, -, -, -, ⟨r6, hr6, hr6'⟩⟩ := S29
    repeat (first | refine gp rfl rfl rfl ?_ | refine ggf rfl (by assumption) (by rfl) ?_ | refine gal rfl (by assumption) (by rfl) (by omega) (by omega) ?_ | refine gil rfl (by assumption) (by rfl) (by omega) (by omega) ?_ | refine gbl rfl (by assumption) (by rfl) (by omega) (by omega) ?_ | refine gln rfl (xlen_i (by assumption)) ?_ | refine gln rfl (xlen_q (by assumption)) ?_)
    rw [hg 2 (by decide)]
    obtain ⟨g10, x10, V102⟩ := m_layStanding (d + 1) r0 hr6 hr6' (fun p y hp h => bS_lt p y hp h) (fun p hp h => bS_some h) T9 V92 (by decide) (by decide) (by decide) (by decide)
    have y13 : σ9.1 13 = some (.inr (.inr (3, _))) := r0
    refine gcv (As := [.inr (some 48), .inr (some 42)]) (rest := []) rfl (by decide) x10 y13 rfl rfl (by decide) ?_
    have fr10 : hFr 43 43 σ9 (xup σ9 (42 + 1) (.inr (.inl (0, 64, g10)))) := hFr.up (by decide) (by decide)
    generalize xup σ9 (42 + 1) (.inr (.inl (0, 64, g10))) = σ10 at V102 fr10 ⊢
    have V100 := V90.fr fr10 (by decide) (by decide)
    have V101 := V91.fr fr10 (by decide) (by decide)
    have N10 : σ10.2 = σ.2 := fr10.1.trans (fr9.1.trans (fr8.1.trans N7))
    have G : ∀ k, k ≤ 38 ∨ 43 < k → σ10.1 k = σ7.1 k := fun k hk => (fr10.2 k (by omega)).trans ((fr9.2 k (by omega)).trans (fr8.2 k (by omega)))
    have G2 : ∀ k, (k < 6 ∨ 43 < k) → σ10.1 k = σ.1 k := fun k hk => (G k (by omega)).trans (F7 k (by omega) (by omega) (by omega))
    refine grv rfl ⟨rfl, ⟨?_, ?_, C7.of (G 20 (by decide)), ?_, ?_, ?_⟩, S1'.of (fun k h1 h2 => G k (by omega)), S2'.of (fun k h1 h2 => G k (by omega)), N10, G2⟩
    · obtain ⟨m1, g, m2, m3⟩ := hM
      exact ⟨by rw [G2 4 (by decide)]; exact m1, g, by rw [G2 5 (by decide)]; exact m2, m3⟩
    · exact hL.of (fun k h1 h2 => (G k (by omega)).trans (F7 k (by omega) (by omega) (by omega)))
    · obtain ⟨f, m1, m2⟩ := hN
      exact ⟨f, by rw [G2 1 (by decide)]; exact m1, m2⟩
    · exact hf.of2 N10 (fun k hk => G2 k (by omega))
    · intro i hi
      match i, hi with
      | 0, _ => exact V100
      | 1, _ => exact V101
      | 2, _ => exact V102
  obtain ⟨r, σ', hex, rfl, g1, g2, g3, g4, g5⟩ := ex_of (d := d + 5) (y := 53) (as := [.inr (some 4), .inr (some 44), .inr (some 46), .inr (some 48), .inl (nI th)]) (σ := σ) (K := K) (by decide) rfl main
  exact ⟨σ', hex, g1, g2, g3, g4, g5⟩
end
