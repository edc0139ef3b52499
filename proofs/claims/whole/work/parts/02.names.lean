/-! NAMES: printed by program (wip/whole/prog/gen.py) out of the Statement: the kinds of objects with their fields, the methods with their bytes, the rows of their instructions. -/
abbrev xV : Type := Int32 ⊕ Option Nat
/-- a row of a method's table: pc, instruction, length, two numbers that say what the constant pool says (or a branch's target), the place of its word in the tables -/
abbrev xI : Type := Nat × Instr × Nat × Nat × Nat × Nat
def xT0 : u_T := fun k => match k with
  | 0 => ("RenameMerge", "trees", "[LRenameMerge$Tree;", true)
  | 1 => ("RenameMerge", "merger", "LRenameMerge$Merger;", true)
  | 2 => ("RenameMerge", "threshold", "I", true)
  | 3 => ("RenameMerge", "chosenStyle", "I", false)
  | _ => ("RenameMerge", "hasMerged", "Z", false)
def xt0 : Nat → FieldType := fun k => match k with
  | 0 => (.array (.object "RenameMerge$Tree"))
  | 1 => (.object "RenameMerge$Merger")
  | 2 => .int
  | 3 => .int
  | _ => .boolean
def xT1 : u_T := fun k => match k with
  | 0 => ("RenameMerge$TreeFile", "link", "Z", true)
  | _ => ("RenameMerge$TreeFile", "lines", "[I", true)
def xt1 : Nat → FieldType := fun k => match k with
  | 0 => .boolean
  | _ => (.array .int)
def xT2 : u_T := fun k => match k with
  | _ => ("RenameMerge$Tree", "files", "[LRenameMerge$TreeFile;", true)
def xt2 : Nat → FieldType := fun k => match k with
  | _ => (.array (.object "RenameMerge$TreeFile"))
def xT3 : u_T := fun k => match k with
  | 0 => ("RenameMerge$Side", "targets", "[I", true)
  | 1 => ("RenameMerge$Side", "sourceLeft", "[Z", true)
  | 2 => ("RenameMerge$Side", "targetLeft", "[Z", true)
  | 3 => ("RenameMerge$Side", "places", "[I", true)
  | 4 => ("RenameMerge$Side", "wanted", "[I", true)
  | _ => ("RenameMerge$Side", "standing", "[I", true)
def xt3 : Nat → FieldType := fun k => match k with
  | 0 => (.array .int)
  | 1 => (.array .boolean)
  | 2 => (.array .boolean)
  | 3 => (.array .int)
  | 4 => (.array .int)
  | _ => (.array .int)
def xT4 : u_T := fun k => match k with
  | 0 => ("RenameMerge$Merger", "versions", "[LRenameMerge$Tree;", true)
  | 1 => ("RenameMerge$Merger", "ours", "LRenameMerge$Side;", true)
  | 2 => ("RenameMerge$Merger", "theirs", "LRenameMerge$Side;", true)
  | 3 => ("RenameMerge$Merger", "conflicts", "[I", true)
  | _ => ("RenameMerge$Merger", "lineMerge", "LRenameMerge$LineMerge;", true)
def xt4 : Nat → FieldType := fun k => match k with
  | 0 => (.array (.object "RenameMerge$Tree"))
  | 1 => (.object "RenameMerge$Side")
  | 2 => (.object "RenameMerge$Side")
  | 3 => (.array .int)
  | _ => (.object "RenameMerge$LineMerge")
def xT5 : u_T := fun k => match k with
  | 0 => ("RenameMerge$Part", "text", "[I", false)
  | 1 => ("RenameMerge$Part", "from", "I", false)
  | _ => ("RenameMerge$Part", "width", "I", false)
def xt5 : Nat → FieldType := fun k => match k with
  | 0 => (.array .int)
  | 1 => .int
  | _ => .int
def xT6 : u_T := fun k => match k with
  | 0 => ("RenameMerge$LineMerge", "common", "[[I", true)
  | 1 => ("RenameMerge$LineMerge", "pairedA", "[I", true)
  | 2 => ("RenameMerge$LineMerge", "pairedB", "[I", true)
  | 3 => ("RenameMerge$LineMerge", "partO", "LRenameMerge$Part;", true)
  | 4 => ("RenameMerge$LineMerge", "partA", "LRenameMerge$Part;", true)
  | 5 => ("RenameMerge$LineMerge", "partB", "LRenameMerge$Part;", true)
  | 6 => ("RenameMerge$LineMerge", "written", "[I", true)
  | 7 => ("RenameMerge$LineMerge", "count", "I", false)
  | _ => ("RenameMerge$LineMerge", "clash", "Z", false)
def xt6 : Nat → FieldType := fun k => match k with
  | 0 => (.array (.array .int))
  | 1 => (.array .int)
  | 2 => (.array .int)
  | 3 => (.object "RenameMerge$Part")
  | 4 => (.object "RenameMerge$Part")
  | 5 => (.object "RenameMerge$Part")
  | 6 => (.array .int)
  | 7 => .int
  | _ => .boolean
def xT7 : u_T := fun k => match k with
  | 0 => ("RenameMergeModel", "bound", "I", true)
  | 1 => ("RenameMergeModel", "style", "I", false)
  | 2 => ("RenameMergeModel", "merged", "Z", false)
  | 3 => ("RenameMergeModel", "kinds", "[I", true)
  | 4 => ("RenameMergeModel", "sizes", "[I", true)
  | 5 => ("RenameMergeModel", "lines", "[B", true)
  | 6 => ("RenameMergeModel", "target", "[I", true)
  | 7 => ("RenameMergeModel", "source", "[I", true)
  | 8 => ("RenameMergeModel", "stand", "[I", true)
  | 9 => ("RenameMergeModel", "place", "[I", true)
  | 10 => ("RenameMergeModel", "conflict", "[I", true)
  | 11 => ("RenameMergeModel", "out", "[B", true)
  | 12 => ("RenameMergeModel", "outSize", "I", false)
  | 13 => ("RenameMergeModel", "outKind", "I", false)
  | 14 => ("RenameMergeModel", "outConflict", "I", false)
  | 15 => ("RenameMergeModel", "baseO", "I", false)
  | 16 => ("RenameMergeModel", "baseA", "I", false)
  | 17 => ("RenameMergeModel", "baseB", "I", false)
  | 18 => ("RenameMergeModel", "clash", "Z", false)
  | _ => ("RenameMergeModel", "pair", "[I", true)
def xt7 : Nat → FieldType := fun k => match k with
  | 0 => .int
  | 1 => .int
  | 2 => .boolean
  | 3 => (.array .int)
  | 4 => (.array .int)
  | 5 => (.array .byte)
  | 6 => (.array .int)
  | 7 => (.array .int)
  | 8 => (.array .int)
  | 9 => (.array .int)
  | 10 => (.array .int)
  | 11 => (.array .byte)
  | 12 => .int
  | 13 => .int
  | 14 => .int
  | 15 => .int
  | 16 => .int
  | 17 => .int
  | 18 => .boolean
  | _ => (.array .int)
abbrev xcl : List vw_C := [("RenameMerge", xT0, 5), ("RenameMerge$TreeFile", xT1, 2), ("RenameMerge$Tree", xT2, 1), ("RenameMerge$Side", xT3, 6), ("RenameMerge$Merger", xT4, 5), ("RenameMerge$Part", xT5, 3), ("RenameMerge$LineMerge", xT6, 9), ("RenameMergeModel", xT7, 20)]
def xfts : List (List Nat) := [[2, 2, 0, 0, 1], [1, 2], [2], [2, 2, 2, 2, 2, 2], [2, 2, 2, 2, 2], [2, 0, 0], [2, 2, 2, 2, 2, 2, 2, 0, 1], [0, 0, 1, 2, 2, 2, 2, 2, 2, 2, 2, 2, 0, 0, 0, 0, 0, 0, 1, 2]]
def xft (c k : Nat) : Nat := (xfts.getD c []).getD k 9
def xdfs : List (List xV) := [[.inr none, .inr none, .inl 0, .inl 0, .inl 0], [.inl 0, .inr none], [.inr none], [.inr none, .inr none, .inr none, .inr none, .inr none, .inr none], [.inr none, .inr none, .inr none, .inr none, .inr none], [.inr none, .inl 0, .inl 0], [.inr none, .inr none, .inr none, .inr none, .inr none, .inr none, .inr none, .inl 0, .inl 0], [.inl 0, .inl 0, .inl 0, .inr none, .inr none, .inr none, .inr none, .inr none, .inr none, .inr none, .inr none, .inr none, .inl 0, .inl 0, .inl 0, .inl 0, .inl 0, .inl 0, .inl 0, .inr none]]
def xdf (c : Nat) : List xV := xdfs.getD c []
/-- arrays of references by their kind: 0, 1, 2 -/
def xqn (t : Nat) : String := if t = 0 then "RenameMerge$TreeFile" else if t = 1 then "RenameMerge$Tree" else "[I"
def xqty (t : Nat) : FieldType := if t = 0 then .object "RenameMerge$TreeFile" else if t = 1 then .object "RenameMerge$Tree" else .array .int
def xNLc : String := "RenameMerge"
def xNLn : String := "NO_LINES"
def xNLd : String := "[I"
def xms_0 : List (MethodName × ByteArray × Nat × Option FieldType × Nat × Nat) := [(⟨"java/util/Arrays", "fill", "([II)V"⟩, prog_13_method_103_code, 4, none, 2, 99),
  (⟨"java/util/Arrays", "copyOf", "([II)[I"⟩, prog_13_method_123_code, 3, (some (.array .int)), 2, 99),
  (⟨"java/lang/Math", "min", "(II)I"⟩, prog_11_method_69_code, 2, (some .int), 2, 99),
  (⟨"java/lang/Math", "max", "(II)I"⟩, prog_11_method_65_code, 2, (some .int), 2, 99),
  (⟨"RenameMerge$TreeFile", "<init>", "(Z[I)V"⟩, prog_7_method_1_code, 3, none, 3, 1),
  (⟨"RenameMerge$TreeFile", "same", "(LRenameMerge$TreeFile;LRenameMerge$TreeFile;)Z"⟩, prog_7_method_3_code, 3, (some .boolean), 2, 1),
  (⟨"RenameMerge$TreeFile", "lineAt", "(I)I"⟩, prog_7_method_2_code, 2, (some .int), 2, 1),
  (⟨"RenameMerge$TreeFile", "likeness", "(LRenameMerge$TreeFile;LRenameMerge$TreeFile;)I"⟩, prog_7_method_4_code, 3, (some .int), 2, 1),
  (⟨"RenameMerge$TreeFile", "countShared", "(LRenameMerge$TreeFile;)I"⟩, prog_7_method_5_code, 7, (some .int), 2, 1),
  (⟨"RenameMerge$Tree", "<init>", "()V"⟩, prog_6_method_1_code, 1, none, 1, 2),
  (⟨"RenameMerge$Tree", "fileAt", "(I)LRenameMerge$TreeFile;"⟩, prog_6_method_2_code, 2, (some (.object "RenameMerge$TreeFile")), 2, 2),
  (⟨"RenameMerge$Tree", "countFiles", "()I"⟩, prog_6_method_7_code, 3, (some .int), 1, 2),
  (⟨"RenameMerge$Tree", "lay", "(ILRenameMerge$TreeFile;)V"⟩, prog_6_method_4_code, 3, none, 3, 2),
  (⟨"RenameMerge$Tree", "become", "(LRenameMerge$Tree;)V"⟩, prog_6_method_6_code, 3, none, 2, 2),
  (⟨"RenameMerge$Tree", "longestText", "()I"⟩, prog_6_method_8_code, 4, (some .int), 1, 2),
  (⟨"RenameMerge$Tree", "has", "(I)Z"⟩, prog_6_method_3_code, 2, (some .boolean), 2, 2),
  (⟨"RenameMerge$Tree", "hasFileIn", "(I)Z"⟩, prog_6_method_9_code, 3, (some .boolean), 2, 2),
  (⟨"RenameMerge$Tree", "move", "(II)V"⟩, prog_6_method_5_code, 4, none, 3, 2),
  (⟨"RenameMerge$Side", "<init>", "()V"⟩, prog_5_method_1_code, 1, none, 1, 3),
  (⟨"RenameMerge$Side", "findRenames", "(LRenameMerge$Tree;LRenameMerge$Tree;I)V"⟩, prog_5_method_5_code, 5, none, 4, 3),
  (⟨"RenameMerge$Side", "pairEqualFiles", "(LRenameMerge$Tree;LRenameMerge$Tree;)V"⟩, prog_5_method_7_code, 5, none, 3, 3),
  (⟨"RenameMerge$Side", "findEqualSource", "(LRenameMerge$Tree;LRenameMerge$TreeFile;I)I"⟩, prog_5_method_8_code, 6, (some .int), 4, 3),
  (⟨"RenameMerge$Side", "pair", "(II)V"⟩, prog_5_method_6_code, 3, none, 3, 3),
  (⟨"RenameMerge$Side", "pairOnlyNames", "(LRenameMerge$Tree;LRenameMerge$Tree;I)V"⟩, prog_5_method_9_code, 7, none, 4, 3),
  (⟨"RenameMerge$Side", "findOnly", "([ZI)I"⟩, prog_5_method_10_code, 4, (some .int), 2, 3),
  (⟨"RenameMerge$Side", "pairByScore", "(LRenameMerge$Tree;LRenameMerge$Tree;I)V"⟩, prog_5_method_11_code, 8, none, 4, 3),
  (⟨"RenameMerge$Side", "countLeft", "([Z)I"⟩, prog_5_method_12_code, 3, (some .int), 1, 3),
  (⟨"RenameMerge$Side", "pairBest", "(LRenameMerge$Tree;LRenameMerge$Tree;I)V"⟩, prog_5_method_13_code, 11, none, 4, 3),
  (⟨"RenameMerge$Side", "findPlaces", "(LRenameMerge$Tree;)V"⟩, prog_5_method_14_code, 3, none, 2, 3),
  (⟨"RenameMerge$Side", "findPlace", "(I)I"⟩, prog_5_method_15_code, 6, (some .int), 2, 3),
  (⟨"RenameMerge$Side", "countRenames", "(II)I"⟩, prog_5_method_16_code, 6, (some .int), 3, 3),
  (⟨"RenameMerge$Side", "findStands", "(LRenameMerge$Tree;LRenameMerge$Tree;LRenameMerge$Tree;LRenameMerge$Side;[I)V"⟩, prog_5_method_17_code, 8, none, 6, 3),
  (⟨"RenameMerge$Side", "findWanted", "(LRenameMerge$Tree;LRenameMerge$Tree;LRenameMerge$Side;)V"⟩, prog_5_method_18_code, 6, none, 4, 3),
  (⟨"RenameMerge$Side", "placeOf", "(I)I"⟩, prog_5_method_3_code, 2, (some .int), 2, 3),
  (⟨"RenameMerge$Side", "countWanted", "(I)I"⟩, prog_5_method_19_code, 4, (some .int), 2, 3),
  (⟨"RenameMerge$Side", "layStanding", "(LRenameMerge$Tree;LRenameMerge$Tree;)V"⟩, prog_5_method_20_code, 4, none, 3, 3),
  (⟨"RenameMerge$Side", "targetOf", "(I)I"⟩, prog_5_method_2_code, 2, (some .int), 2, 3),
  (⟨"RenameMerge$Side", "standOf", "(I)I"⟩, prog_5_method_4_code, 2, (some .int), 2, 3),
  (⟨"RenameMerge$Part", "<init>", "()V"⟩, prog_4_method_1_code, 1, none, 1, 5),
  (⟨"RenameMerge$Part", "startAt", "([I)V"⟩, prog_4_method_2_code, 2, none, 2, 5)]
def xms_1 : List (MethodName × ByteArray × Nat × Option FieldType × Nat × Nat) := [(⟨"RenameMerge$Part", "reachTo", "(I)V"⟩, prog_4_method_3_code, 2, none, 2, 5),
  (⟨"RenameMerge$Part", "sameAs", "(LRenameMerge$Part;)Z"⟩, prog_4_method_5_code, 3, (some .boolean), 2, 5),
  (⟨"RenameMerge$Part", "commonBeginning", "(LRenameMerge$Part;)I"⟩, prog_4_method_6_code, 4, (some .int), 2, 5),
  (⟨"RenameMerge$Part", "commonEnd", "(LRenameMerge$Part;I)I"⟩, prog_4_method_7_code, 7, (some .int), 3, 5),
  (⟨"RenameMerge$Part", "startBehind", "(I)V"⟩, prog_4_method_4_code, 2, none, 2, 5),
  (⟨"RenameMerge$LineMerge", "<init>", "()V"⟩, prog_2_method_1_code, 1, none, 1, 6),
  (⟨"RenameMerge$LineMerge", "join", "([I[I[II)V"⟩, prog_2_method_4_code, 6, none, 5, 6),
  (⟨"RenameMerge$LineMerge", "match", "([I[I[I)V"⟩, prog_2_method_5_code, 10, none, 4, 6),
  (⟨"RenameMerge$LineMerge", "countCommon", "([II[II)V"⟩, prog_2_method_6_code, 7, none, 5, 6),
  (⟨"RenameMerge$LineMerge", "writeGap", "(I)V"⟩, prog_2_method_7_code, 5, none, 2, 6),
  (⟨"RenameMerge$LineMerge", "writeLines", "(LRenameMerge$Part;II)V"⟩, prog_2_method_8_code, 5, none, 4, 6),
  (⟨"RenameMerge$LineMerge", "write", "(I)V"⟩, prog_2_method_9_code, 2, none, 2, 6),
  (⟨"RenameMerge$LineMerge", "hasClash", "()Z"⟩, prog_2_method_2_code, 1, (some .boolean), 1, 6),
  (⟨"RenameMerge$LineMerge", "takeWritten", "()[I"⟩, prog_2_method_3_code, 1, (some (.array .int)), 1, 6),
  (⟨"RenameMerge$Merger", "<init>", "()V"⟩, prog_3_method_1_code, 2, none, 1, 4),
  (⟨"RenameMerge$Merger", "begin", "(LRenameMerge$Tree;LRenameMerge$Tree;LRenameMerge$Tree;I)V"⟩, prog_3_method_6_code, 5, none, 5, 4),
  (⟨"RenameMerge$Merger", "carryRename", "(II)V"⟩, prog_3_method_7_code, 5, none, 3, 4),
  (⟨"RenameMerge$Merger", "carryByBoth", "(III)V"⟩, prog_3_method_8_code, 4, none, 4, 4),
  (⟨"RenameMerge$Merger", "mark", "(II)V"⟩, prog_3_method_12_code, 3, none, 3, 4),
  (⟨"RenameMerge$Merger", "carryByOne", "(IIII)V"⟩, prog_3_method_9_code, 10, none, 5, 4),
  (⟨"RenameMerge$Merger", "mergeFiles", "(ILRenameMerge$TreeFile;LRenameMerge$TreeFile;LRenameMerge$TreeFile;I)LRenameMerge$TreeFile;"⟩, prog_3_method_11_code, 6, (some (.object "RenameMerge$TreeFile")), 6, 4),
  (⟨"RenameMerge$Merger", "settle", "(II)LRenameMerge$TreeFile;"⟩, prog_3_method_10_code, 5, (some (.object "RenameMerge$TreeFile")), 3, 4),
  (⟨"RenameMerge$Merger", "codesAt", "(I)I"⟩, prog_3_method_3_code, 2, (some .int), 2, 4),
  (⟨"RenameMerge$Merger", "countConflictPaths", "()I"⟩, prog_3_method_5_code, 3, (some .int), 1, 4),
  (⟨"RenameMerge$Merger", "stagedFile", "(II)LRenameMerge$TreeFile;"⟩, prog_3_method_4_code, 4, (some (.object "RenameMerge$TreeFile")), 3, 4),
  (⟨"RenameMerge$Merger", "sideOf", "(I)LRenameMerge$Side;"⟩, prog_3_method_2_code, 2, (some (.object "RenameMerge$Side")), 2, 4),
  (⟨"RenameMerge", "<init>", "(I)V"⟩, prog_1_method_1_code, 3, none, 2, 0),
  (⟨"RenameMerge", "put", "(IIIZ)Z"⟩, prog_1_method_2_code, 6, (some .boolean), 5, 0),
  (⟨"RenameMerge", "isInput", "(I)Z"⟩, prog_1_method_21_code, 1, (some .boolean), 1, 0),
  (⟨"RenameMerge", "isPath", "(I)Z"⟩, prog_1_method_22_code, 1, (some .boolean), 1, 0),
  (⟨"RenameMerge", "linesOf", "(I)[I"⟩, prog_1_method_25_code, 5, (some (.array .int)), 1, 0),
  (⟨"RenameMerge", "drop", "(II)Z"⟩, prog_1_method_3_code, 3, (some .boolean), 3, 0),
  (⟨"RenameMerge", "copy", "(II)Z"⟩, prog_1_method_4_code, 3, (some .boolean), 3, 0),
  (⟨"RenameMerge", "adopt", "(I)Z"⟩, prog_1_method_5_code, 3, (some .boolean), 2, 0),
  (⟨"RenameMerge", "style", "(I)Z"⟩, prog_1_method_6_code, 2, (some .boolean), 2, 0),
  (⟨"RenameMerge", "merge", "()I"⟩, prog_1_method_7_code, 2, (some .int), 1, 0),
  (⟨"RenameMerge", "nameOf", "(I)I"⟩, prog_1_method_24_code, 1, (some .int), 1, 0),
  (⟨"RenameMerge", "directoryOf", "(I)I"⟩, prog_1_method_23_code, 1, (some .int), 1, 0),
  (⟨"RenameMerge", "size", "(I)I"⟩, prog_1_method_8_code, 2, (some .int), 2, 0),
  (⟨"RenameMerge", "isTree", "(I)Z"⟩, prog_1_method_20_code, 1, (some .boolean), 1, 0)]
def xms_2 : List (MethodName × ByteArray × Nat × Option FieldType × Nat × Nat) := [(⟨"RenameMerge", "kind", "(II)I"⟩, prog_1_method_9_code, 4, (some .int), 3, 0),
  (⟨"RenameMerge", "findFile", "(II)LRenameMerge$TreeFile;"⟩, prog_1_method_19_code, 3, (some (.object "RenameMerge$TreeFile")), 3, 0),
  (⟨"RenameMerge", "length", "(II)I"⟩, prog_1_method_10_code, 4, (some .int), 3, 0),
  (⟨"RenameMerge", "line", "(III)I"⟩, prog_1_method_11_code, 5, (some .int), 4, 0),
  (⟨"RenameMerge", "conflict", "(I)I"⟩, prog_1_method_12_code, 2, (some .int), 2, 0),
  (⟨"RenameMerge", "staged", "(II)I"⟩, prog_1_method_13_code, 4, (some .int), 3, 0),
  (⟨"RenameMerge", "stagedLine", "(III)I"⟩, prog_1_method_14_code, 5, (some .int), 4, 0),
  (⟨"RenameMerge", "renamed", "(II)I"⟩, prog_1_method_15_code, 4, (some .int), 3, 0),
  (⟨"RenameMerge", "newPlace", "(II)I"⟩, prog_1_method_16_code, 4, (some .int), 3, 0),
  (⟨"RenameMerge", "stands", "(II)I"⟩, prog_1_method_17_code, 4, (some .int), 3, 0),
  (⟨"RenameMerge", "score", "(III)I"⟩, prog_1_method_18_code, 4, (some .int), 4, 0),
  (⟨"RenameMergeModel", "<init>", "(I)V"⟩, prog_9_method_1_code, 3, none, 2, 7),
  (⟨"RenameMergeModel", "size", "(I)I"⟩, prog_9_method_7_code, 4, (some .int), 2, 7),
  (⟨"RenameMergeModel", "has", "(II)Z"⟩, prog_9_method_3_code, 3, (some .boolean), 3, 7),
  (⟨"RenameMergeModel", "put", "(IIIZ)Z"⟩, prog_9_method_8_code, 8, (some .boolean), 5, 7),
  (⟨"RenameMergeModel", "start", "(II)I"⟩, prog_9_method_2_code, 2, (some .int), 2, 7),
  (⟨"RenameMergeModel", "drop", "(II)Z"⟩, prog_9_method_9_code, 3, (some .boolean), 3, 7),
  (⟨"RenameMergeModel", "erase", "(II)V"⟩, prog_9_method_4_code, 3, none, 3, 7),
  (⟨"RenameMergeModel", "copy", "(II)Z"⟩, prog_9_method_10_code, 4, (some .boolean), 3, 7),
  (⟨"RenameMergeModel", "copyFile", "(IIII)V"⟩, prog_9_method_5_code, 7, none, 5, 7),
  (⟨"RenameMergeModel", "adopt", "(I)Z"⟩, prog_9_method_11_code, 3, (some .boolean), 2, 7),
  (⟨"RenameMergeModel", "style", "(I)Z"⟩, prog_9_method_12_code, 2, (some .boolean), 2, 7),
  (⟨"RenameMergeModel", "score", "(III)I"⟩, prog_9_method_15_code, 4, (some .int), 4, 7),
  (⟨"RenameMergeModel", "likeness", "(III)I"⟩, prog_9_method_14_code, 11, (some .int), 4, 7),
  (⟨"RenameMergeModel", "often", "(III)I"⟩, prog_9_method_13_code, 6, (some .int), 4, 7),
  (⟨"RenameMergeModel", "merge", "()I"⟩, prog_9_method_44_code, 3, (some .int), 1, 7),
  (⟨"RenameMergeModel", "renames", "(I)V"⟩, prog_9_method_23_code, 4, none, 2, 7),
  (⟨"RenameMergeModel", "exact", "(I)V"⟩, prog_9_method_19_code, 6, none, 2, 7),
  (⟨"RenameMergeModel", "targetLeft", "(II)Z"⟩, prog_9_method_17_code, 3, (some .boolean), 3, 7),
  (⟨"RenameMergeModel", "sourceLeft", "(II)Z"⟩, prog_9_method_16_code, 3, (some .boolean), 3, 7),
  (⟨"RenameMergeModel", "alike", "(IIII)Z"⟩, prog_9_method_6_code, 8, (some .boolean), 5, 7),
  (⟨"RenameMergeModel", "join", "(III)V"⟩, prog_9_method_18_code, 4, none, 4, 7),
  (⟨"RenameMergeModel", "names", "(I)V"⟩, prog_9_method_20_code, 8, none, 2, 7),
  (⟨"RenameMergeModel", "lefts", "(IZ)I"⟩, prog_9_method_21_code, 5, (some .int), 3, 7),
  (⟨"RenameMergeModel", "bestLeft", "(I)I"⟩, prog_9_method_22_code, 8, (some .int), 2, 7),
  (⟨"RenameMergeModel", "newPlaceOf", "(II)I"⟩, prog_9_method_25_code, 7, (some .int), 3, 7),
  (⟨"RenameMergeModel", "moved", "(III)I"⟩, prog_9_method_24_code, 7, (some .int), 4, 7),
  (⟨"RenameMergeModel", "settle", "(II)V"⟩, prog_9_method_27_code, 8, none, 3, 7),
  (⟨"RenameMergeModel", "wanted", "(II)I"⟩, prog_9_method_26_code, 4, (some .int), 3, 7),
  (⟨"RenameMergeModel", "versions", "()V"⟩, prog_9_method_39_code, 3, none, 1, 7)]
def xms_3 : List (MethodName × ByteArray × Nat × Option FieldType × Nat × Nat) := [(⟨"RenameMergeModel", "follow", "(I)V"⟩, prog_9_method_42_code, 6, none, 2, 7),
  (⟨"RenameMergeModel", "go", "(III)V"⟩, prog_9_method_40_code, 4, none, 4, 7),
  (⟨"RenameMergeModel", "alone", "(III)V"⟩, prog_9_method_41_code, 6, none, 4, 7),
  (⟨"RenameMergeModel", "mergeFiles", "(III)V"⟩, prog_9_method_37_code, 7, none, 4, 7),
  (⟨"RenameMergeModel", "takeFile", "(II)V"⟩, prog_9_method_36_code, 4, none, 3, 7),
  (⟨"RenameMergeModel", "write", "(I)V"⟩, prog_9_method_31_code, 2, none, 2, 7),
  (⟨"RenameMergeModel", "mergeLines", "(III)V"⟩, prog_9_method_35_code, 8, none, 4, 7),
  (⟨"RenameMergeModel", "match", "(IIII)V"⟩, prog_9_method_30_code, 8, none, 5, 7),
  (⟨"RenameMergeModel", "ones", "(I)I"⟩, prog_9_method_28_code, 3, (some .int), 1, 7),
  (⟨"RenameMergeModel", "fits", "(IIII)Z"⟩, prog_9_method_29_code, 7, (some .boolean), 5, 7),
  (⟨"RenameMergeModel", "gap", "(IIIIII)V"⟩, prog_9_method_34_code, 9, none, 7, 7),
  (⟨"RenameMergeModel", "same", "(IIII)Z"⟩, prog_9_method_33_code, 7, (some .boolean), 5, 7),
  (⟨"RenameMergeModel", "writeAll", "(II)V"⟩, prog_9_method_32_code, 4, none, 3, 7),
  (⟨"RenameMergeModel", "putOut", "(II)V"⟩, prog_9_method_38_code, 4, none, 3, 7),
  (⟨"RenameMergeModel", "finish", "(I)V"⟩, prog_9_method_43_code, 2, none, 2, 7),
  (⟨"RenameMergeModel", "kind", "(II)I"⟩, prog_9_method_45_code, 3, (some .int), 3, 7),
  (⟨"RenameMergeModel", "length", "(II)I"⟩, prog_9_method_46_code, 3, (some .int), 3, 7),
  (⟨"RenameMergeModel", "line", "(III)I"⟩, prog_9_method_47_code, 4, (some .int), 4, 7),
  (⟨"RenameMergeModel", "conflict", "(I)I"⟩, prog_9_method_48_code, 2, (some .int), 2, 7),
  (⟨"RenameMergeModel", "staged", "(II)I"⟩, prog_9_method_49_code, 3, (some .int), 3, 7),
  (⟨"RenameMergeModel", "stagedLine", "(III)I"⟩, prog_9_method_50_code, 4, (some .int), 4, 7),
  (⟨"RenameMergeModel", "renamed", "(II)I"⟩, prog_9_method_51_code, 3, (some .int), 3, 7),
  (⟨"RenameMergeModel", "newPlace", "(II)I"⟩, prog_9_method_52_code, 3, (some .int), 3, 7),
  (⟨"RenameMergeModel", "stands", "(II)I"⟩, prog_9_method_53_code, 3, (some .int), 3, 7),
  (⟨"RenameMergeLaw", "cell", "([II)I"⟩, method_2_code, 2, (some .int), 2, 99),
  (⟨"RenameMergeLaw", "law", "([I)Z"⟩, code, 4, (some .boolean), 1, 99)]
def xms : List (MethodName × ByteArray × Nat × Option FieldType × Nat × Nat) := xms_0 ++ (xms_1 ++ (xms_2 ++ (xms_3)))
def xm0 : MethodName × ByteArray × Nat × Option FieldType × Nat × Nat := (⟨"", "", ""⟩, ⟨#[]⟩, 0, none, 0, 99)
def xmn (y : Nat) : MethodName := (xms.getD y xm0).1
def xmb (y : Nat) : ByteArray := (xms.getD y xm0).2.1
def xml (y : Nat) : Nat := (xms.getD y xm0).2.2.1
def xmr (y : Nat) : Option FieldType := (xms.getD y xm0).2.2.2.1
def xma (y : Nat) : Nat := (xms.getD y xm0).2.2.2.2.1
def xmc (y : Nat) : Nat := (xms.getD y xm0).2.2.2.2.2
def xNm : List (String × Nat × MethodName × String) := [("RenameMerge$Tree", 17, ⟨"RenameMerge", "isPath", "(I)Z"⟩, "RenameMerge"), ("RenameMerge$Side", 61, ⟨"RenameMerge", "nameOf", "(I)I"⟩, "RenameMerge"), ("RenameMerge$Side", 109, ⟨"RenameMerge", "directoryOf", "(I)I"⟩, "RenameMerge"), ("RenameMerge$Side", 37, ⟨"RenameMerge", "isPath", "(I)Z"⟩, "RenameMerge"), ("RenameMerge$LineMerge", 25, ⟨"RenameMerge$Part", "<init>", "()V"⟩, "RenameMerge"), ("RenameMerge$Merger", 33, ⟨"RenameMerge$LineMerge", "<init>", "()V"⟩, "RenameMerge"), ("RenameMerge$Merger", 38, ⟨"RenameMerge$Tree", "<init>", "()V"⟩, "RenameMerge"), ("RenameMerge$Merger", 39, ⟨"RenameMerge", "isPath", "(I)Z"⟩, "RenameMerge"), ("RenameMerge", 33, ⟨"RenameMerge$Tree", "<init>", "()V"⟩, "RenameMerge")]
def xNf : List (String × Nat × String × String × String × String) := [("RenameMerge$Part", 7, "RenameMerge", "NO_LINES", "[I", "RenameMerge"), ("RenameMerge$Merger", 118, "RenameMerge", "NO_LINES", "[I", "RenameMerge")]
