/-! NAMES: printed by program (wip/whole/prog/gen.py) out of the Statement: the kinds of objects with their fields, the methods with their bytes, the rows of their instructions. -/
abbrev xV : Type := Int32 ⊕ Option Nat
/-- a row of a method's table: pc, instruction, length, two numbers that say what the constant pool says (or a branch's target), the place of its word in the tables -/
abbrev xI : Type := Nat × Instr × Nat × Nat × Nat × Nat
def xT0 : u_T := fun k => match k with
  | 0 => ("RenameMerge", "trees", "[LRenameMerge$Tree;", true)
  | 1 => ("RenameMerge", "merger", "LRenameMerge$Merger;", true)
  | 2 => ("RenameMerge", "threshold", "I", true)
  | 3 => ("RenameMerge", "chosenStyle", "I", false)
  | _ => ("RenameMerge", "hasMerged", "Z", false)
def xt0 : Nat → FieldType := fun k => match k with
  | 0 => (.array (.object "RenameMerge$Tree"))
  | 1 => (.object "RenameMerge$Merger")
  | 2 => .int
  | 3 => .int
  | _ => .boolean
def xT1 : u_T := fun k => match k with
  | 0 => ("RenameMerge$TreeFile", "link", "Z", true)
  | _ => ("RenameMerge$TreeFile", "lines", "[I", true)
def xt1 : Nat → FieldType := fun k => match k with
  | 0 => .boolean
  | _ => (.array .int)
def xT2 : u_T := fun k => match k with
  | _ => ("RenameMerge$Tree", "files", "[LRenameMerge$TreeFile;", true)
def xt2 : Nat → FieldType := fun k => match k with
  | _ => (.array (.object "RenameMerge$TreeFile"))
def xT3 : u_T := fun k => match k with
  | 0 => ("RenameMerge$Side", "targets", "[I", true)
  | 1 => ("RenameMerge$Side", "sourceLeft", "[Z", true)
  | 2 => ("RenameMerge$Side", "targetLeft", "[Z", true)
  | 3 => ("RenameMerge$Side", "places", "[I", true)
  | 4 => ("RenameMerge$Side", "wanted", "[I", true)
  | _ => ("RenameMerge$Side", "standing", "[I", true)
def xt3 : Nat → FieldType := fun k => match k with
  | 0 => (.array .int)
  | 1 => (.array .boolean)
  | 2 => (.array .boolean)
  | 3 => (.array .int)
  | 4 => (.array .int)
  | _ => (.array .int)
def xT4 : u_T := fun k => match k with
  | 0 => ("RenameMerge$Merger", "versions", "[LRenameMerge$Tree;", true)
  | 1 => ("RenameMerge$Merger", "ours", "LRenameMerge$Side;", true)
  | 2 => ("RenameMerge$Merger", "theirs", "LRenameMerge$Side;", true)
  | 3 => ("RenameMerge$Merger", "conflicts", "[I", true)
  | _ => ("RenameMerge$Merger", "lineMerge", "LRenameMerge$LineMerge;", true)
def xt4 : Nat → FieldType := fun k => match k with
  | 0 => (.array (.object "RenameMerge$Tree"))
  | 1 => (.object "RenameMerge$Side")
  | 2 => (.object "RenameMerge$Side")
  | 3 => (.array .int)
  | _ => (.object "RenameMerge$LineMerge")
def xT5 : u_T := fun k => match k with
  | 0 => ("RenameMerge$Part", "text", "[I", false)
  | 1 => ("RenameMerge$Part", "from", "I", false)
  | _ => ("RenameMerge$Part", "width", "I", false)
def xt5 : Nat → FieldType := fun k => match k with
  | 0 => (.array .int)
  | 1 => .int
  | _ => .int
def xT6 : u_T := fun k => match k with
  | 0 => ("RenameMerge$LineMerge", "common", "[[I", true)
  | 1 => ("RenameMerge$LineMerge", "pairedA", "[I", true)
  | 2 => ("RenameMerge$LineMerge", "pairedB", "[I", true)
  | 3 => ("RenameMerge$LineMerge", "partO", "LRenameMerge$Part;", true)
  | 4 => ("RenameMerge$LineMerge", "partA", "LRenameMerge$Part;", true)
  | 5 => ("RenameMerge$LineMerge", "partB", "LRenameMerge$Part;", true)
  | 6 => ("RenameMerge$LineMerge", "written", "[I", true)
  | 7 => ("RenameMerge$LineMerge", "count", "I", false)
  | _ => ("RenameMerge$LineMerge", "clash", "Z", false)
def xt6 : Nat → FieldType := fun k => match k with
  | 0 => (.array (.array .int))
  | 1 => (.array .int)
  | 2 => (.array .int)
  | 3 => (.object "RenameMerge$Part")
  | 4 => (.object "RenameMerge$Part")
  | 5 => (.object "RenameMerge$Part")
  | 6 => (.array .int)
  | 7 => .int
  | _ => .boolean
def xT7 : u_T := fun k => match k with
  | 0 => ("RenameMergeModel", "bound", "I", true)
  | 1 => ("RenameMergeModel", "style", "I", false)
  | 2 => ("RenameMergeModel", "merged", "Z", false)
  | 3 => ("RenameMergeModel", "kinds", "[I", true)
  | 4 => ("RenameMergeModel", "sizes", "[I", true)
  | 5 => ("RenameMergeModel", "lines", "[B", true)
  | 6 => ("RenameMergeModel", "target", "[I", true)
  | 7 => ("RenameMergeModel", "source", "[I", true)
  | 8 => ("RenameMergeModel", "stand", "[I", true)
  | 9 => ("RenameMergeModel", "place", "[I", true)
  | 10 => ("RenameMergeModel", "conflict", "[I", true)
  | 11 => ("RenameMergeModel", "out", "[B", true)
  | 12 => ("RenameMergeModel", "outSize", "I", false)
  | 13 => ("RenameMergeModel", "outKind", "I", false)
  | 14 => ("RenameMergeModel", "outConflict", "I", false)
  | 15 => ("RenameMergeModel", "baseO", "I", false)
  | 16 => ("RenameMergeModel", "baseA", "I", false)
  | 17 => ("RenameMergeModel", "baseB", "I", false)
  | 18 => ("RenameMergeModel", "clash", "Z", false)
  | _ => ("RenameMergeModel", "pair", "[I", true)
def xt7 : Nat → FieldType := fun k => match k with
  | 0 => .int
  | 1 => .int
  | 2 => .boolean
  | 3 => (.array .int)
  | 4 => (.array .int)
  | 5 => (.array .byte)
  | 6 => (.array .int)
  | 7 => (.array .int)
  | 8 => (.array .int)
  | 9 => (.array .int)
  | 10 => (.array .int)
  | 11 => (.array .byte)
  | 12 => .int
  | 13 => .int
  | 14 => .int
  | 15 => .int
  | 16 => .int
  | 17 => .int
  | 18 => .boolean
  | _ => (.array .int)
abbrev xcl : List vw_C := [("RenameMerge", xT0, 5), ("RenameMerge$TreeFile", xT1, 2), ("RenameMerge$Tree", xT2, 1), ("RenameMerge$Side", xT3, 6), ("RenameMerge$Merger", xT4, 5), ("RenameMerge$Part", xT5, 3), ("RenameMerge$LineMerge", xT6, 9), ("RenameMergeModel", xT7, 20)]
def xfts : List (List Nat) := [[2, 2, 0, 0, 1], [1, 2], [2], [2, 2, 2, 2, 2, 2], [2, 2, 2, 2, 2], [2, 0, 0], [2, 2, 2, 2, 2, 2, 2, 0, 1], [0, 0, 1, 2, 2, 2, 2, 2, 2, 2, 2, 2, 0, 0, 0, 0, 0, 0, 1, 2]]
def xft (c k : Nat) : Nat := (xfts.getD c []).getD k 9
def xdfs : List (List xV) := [[.inr none, .inr none, .inl 0, .inl 0, .inl 0], [.inl 0, .inr none], [.inr none], [.inr none, .inr none, .inr none, .inr none, .inr none, .inr none], [.inr none, .inr none, .inr none, .inr none, .inr none], [.inr none, .inl 0, .inl 0], [.inr none, .inr none, .inr none, .inr none, .inr none, .inr none, .inr none, .inl 0, .inl 0], [.inl 0, .inl 0, .inl 0, .inr none, .inr none, .inr none, .inr none, .inr none, .inr none, .inr none, .inr none, .inr none, .inl 0, .inl 0, .inl 0, .inl 0, .inl 0, .inl 0, .inl 0, .inr none]]
def xdf (c : Nat) : List xV := xdfs.getD c []
/-- arrays of references by their kind: 0, 1, 2 -/
def xqn (t : Nat) : String := if t = 0 then "RenameMerge$TreeFile" else if t = 1 then "RenameMerge$Tree" else "[I"
def xqty (t : Nat) : FieldType := if t = 0 then .object "RenameMerge$TreeFile" else if t = 1 then .object "RenameMerge$Tree" else .array .int
def xNLc : String := "RenameMerge"
def xNLn : String := "NO_LINES"
def xNLd : String := "[I"
def xms_0 : List (MethodName × ByteArray × Nat × Option FieldType × Nat × Nat) := [(⟨"java/util/Arrays", "fill", "([II)V"⟩, prog_13_method_103_code, 4, none, 2, 99),
  (⟨"java/util/Arrays", "copyOf", "([II)[I"⟩, prog_13_method_123_code, 3, (some (.array .int)), 2, 99),
  (⟨"RenameMerge$TreeFile", "<init>", "(Z[I)V"⟩, prog_7_method_1_code, 3, none, 3, 1),
  (⟨"RenameMerge$TreeFile", "same", "(LRenameMerge$TreeFile;LRenameMerge$TreeFile;)Z"⟩, prog_7_method_3_code, 3, (some .boolean), 2, 1),
  (⟨"RenameMerge$TreeFile", "lineAt", "(I)I"⟩, prog_7_method_2_code, 2, (some .int), 2, 1),
  (⟨"RenameMerge$TreeFile", "likeness", "(LRenameMerge$TreeFile;LRenameMerge$TreeFile;)I"⟩, prog_7_method_4_code, 3, (some .int), 2, 1),
  (⟨"RenameMerge$TreeFile", "countShared", "(LRenameMerge$TreeFile;)I"⟩, prog_7_method_5_code, 7, (some .int), 2, 1),
  (⟨"RenameMerge$Tree", "<init>", "()V"⟩, prog_6_method_1_code, 1, none, 1, 2),
  (⟨"RenameMerge$Tree", "fileAt", "(I)LRenameMerge$TreeFile;"⟩, prog_6_method_2_code, 2, (some (.object "RenameMerge$TreeFile")), 2, 2),
  (⟨"RenameMerge$Tree", "countFiles", "()I"⟩, prog_6_method_7_code, 3, (some .int), 1, 2),
  (⟨"RenameMerge$Tree", "lay", "(ILRenameMerge$TreeFile;)V"⟩, prog_6_method_4_code, 3, none, 3, 2),
  (⟨"RenameMerge$Tree", "become", "(LRenameMerge$Tree;)V"⟩, prog_6_method_6_code, 3, none, 2, 2),
  (⟨"RenameMerge$Tree", "longestText", "()I"⟩, prog_6_method_8_code, 4, (some .int), 1, 2),
  (⟨"RenameMerge$Tree", "has", "(I)Z"⟩, prog_6_method_3_code, 2, (some .boolean), 2, 2),
  (⟨"RenameMerge$Tree", "hasFileIn", "(I)Z"⟩, prog_6_method_9_code, 3, (some .boolean), 2, 2),
  (⟨"RenameMerge$Tree", "move", "(II)V"⟩, prog_6_method_5_code, 4, none, 3, 2),
  (⟨"RenameMerge$Side", "<init>", "()V"⟩, prog_5_method_1_code, 1, none, 1, 3),
  (⟨"RenameMerge$Side", "findRenames", "(LRenameMerge$Tree;LRenameMerge$Tree;I)V"⟩, prog_5_method_5_code, 5, none, 4, 3),
  (⟨"RenameMerge$Side", "pairEqualFiles", "(LRenameMerge$Tree;LRenameMerge$Tree;)V"⟩, prog_5_method_7_code, 5, none, 3, 3),
  (⟨"RenameMerge$Side", "findEqualSource", "(LRenameMerge$Tree;LRenameMerge$TreeFile;I)I"⟩, prog_5_method_8_code, 6, (some .int), 4, 3),
  (⟨"RenameMerge$Side", "pair", "(II)V"⟩, prog_5_method_6_code, 3, none, 3, 3),
  (⟨"RenameMerge$Side", "pairOnlyNames", "(LRenameMerge$Tree;LRenameMerge$Tree;I)V"⟩, prog_5_method_9_code, 7, none, 4, 3),
  (⟨"RenameMerge$Side", "findOnly", "([ZI)I"⟩, prog_5_method_10_code, 4, (some .int), 2, 3),
  (⟨"RenameMerge$Side", "pairByScore", "(LRenameMerge$Tree;LRenameMerge$Tree;I)V"⟩, prog_5_method_11_code, 8, none, 4, 3),
  (⟨"RenameMerge$Side", "countLeft", "([Z)I"⟩, prog_5_method_12_code, 3, (some .int), 1, 3),
  (⟨"RenameMerge$Side", "pairBest", "(LRenameMerge$Tree;LRenameMerge$Tree;I)V"⟩, prog_5_method_13_code, 11, none, 4, 3),
  (⟨"RenameMerge$Side", "findPlaces", "(LRenameMerge$Tree;)V"⟩, prog_5_method_14_code, 3, none, 2, 3),
  (⟨"RenameMerge$Side", "findPlace", "(I)I"⟩, prog_5_method_15_code, 6, (some .int), 2, 3),
  (⟨"RenameMerge$Side", "countRenames", "(II)I"⟩, prog_5_method_16_code, 6, (some .int), 3, 3),
  (⟨"RenameMerge$Side", "findStands", "(LRenameMerge$Tree;LRenameMerge$Tree;LRenameMerge$Tree;LRenameMerge$Side;[I)V"⟩, prog_5_method_17_code, 8, none, 6, 3),
  (⟨"RenameMerge$Side", "findWanted", "(LRenameMerge$Tree;LRenameMerge$Tree;LRenameMerge$Side;)V"⟩, prog_5_method_18_code, 6, none, 4, 3),
  (⟨"RenameMerge$Side", "placeOf", "(I)I"⟩, prog_5_method_3_code, 2, (some .int), 2, 3),
  (⟨"RenameMerge$Side", "countWanted", "(I)I"⟩, prog_5_method_19_code, 4, (some .int), 2, 3),
  (⟨"RenameMerge$Side", "layStanding", "(LRenameMerge$Tree;LRenameMerge$Tree;)V"⟩, prog_5_method_20_code, 4, none, 3, 3),
  (⟨"RenameMerge$Side", "targetOf", "(I)I"⟩, prog_5_method_2_code, 2, (some .int), 2, 3),
  (⟨"RenameMerge$Side", "standOf", "(I)I"⟩, prog_5_method_4_code, 2, (some .int), 2, 3),
  (⟨"RenameMerge$Part", "<init>", "()V"⟩, prog_4_method_1_code, 1, none, 1, 5),
  (⟨"RenameMerge$Part", "startAt", "([I)V"⟩, prog_4_method_2_code, 2, none, 2, 5),
  (⟨"RenameMerge$Part", "reachTo", "(I)V"⟩, prog_4_method_3_code, 2, none, 2, 5),
  (⟨"RenameMerge$Part", "sameAs", "(LRenameMerge$Part;)Z"⟩, prog_4_method_5_code, 3, (some .boolean), 2, 5)]
def xms_1 : List (MethodName × ByteArray × Nat × Option FieldType × Nat × Nat) := [(⟨"RenameMerge$Part", "commonBeginning", "(LRenameMerge$Part;)I"⟩, prog_4_method_6_code, 4, (some .int), 2, 5),
  (⟨"RenameMerge$Part", "commonEnd", "(LRenameMerge$Part;I)I"⟩, prog_4_method_7_code, 7, (some .int), 3, 5),
  (⟨"RenameMerge$Part", "startBehind", "(I)V"⟩, prog_4_method_4_code, 2, none, 2, 5),
  (⟨"RenameMerge$LineMerge", "<init>", "()V"⟩, prog_2_method_1_code, 1, none, 1, 6),
  (⟨"RenameMerge$LineMerge", "join", "([I[I[II)V"⟩, prog_2_method_4_code, 6, none, 5, 6),
  (⟨"RenameMerge$LineMerge", "match", "([I[I[I)V"⟩, prog_2_method_5_code, 10, none, 4, 6),
  (⟨"RenameMerge$LineMerge", "countCommon", "([II[II)V"⟩, prog_2_method_6_code, 7, none, 5, 6),
  (⟨"RenameMerge$LineMerge", "writeGap", "(I)V"⟩, prog_2_method_7_code, 5, none, 2, 6),
  (⟨"RenameMerge$LineMerge", "writeLines", "(LRenameMerge$Part;II)V"⟩, prog_2_method_8_code, 5, none, 4, 6),
  (⟨"RenameMerge$LineMerge", "write", "(I)V"⟩, prog_2_method_9_code, 2, none, 2, 6),
  (⟨"RenameMerge$LineMerge", "hasClash", "()Z"⟩, prog_2_method_2_code, 1, (some .boolean), 1, 6),
  (⟨"RenameMerge$LineMerge", "takeWritten", "()[I"⟩, prog_2_method_3_code, 1, (some (.array .int)), 1, 6),
  (⟨"RenameMerge$Merger", "<init>", "()V"⟩, prog_3_method_1_code, 2, none, 1, 4),
  (⟨"RenameMerge$Merger", "begin", "(LRenameMerge$Tree;LRenameMerge$Tree;LRenameMerge$Tree;I)V"⟩, prog_3_method_6_code, 5, none, 5, 4),
  (⟨"RenameMerge$Merger", "carryRename", "(II)V"⟩, prog_3_method_7_code, 5, none, 3, 4),
  (⟨"RenameMerge$Merger", "carryByBoth", "(III)V"⟩, prog_3_method_8_code, 4, none, 4, 4),
  (⟨"RenameMerge$Merger", "mark", "(II)V"⟩, prog_3_method_12_code, 3, none, 3, 4),
  (⟨"RenameMerge$Merger", "carryByOne", "(IIII)V"⟩, prog_3_method_9_code, 10, none, 5, 4),
  (⟨"RenameMerge$Merger", "mergeFiles", "(ILRenameMerge$TreeFile;LRenameMerge$TreeFile;LRenameMerge$TreeFile;I)LRenameMerge$TreeFile;"⟩, prog_3_method_11_code, 6, (some (.object "RenameMerge$TreeFile")), 6, 4),
  (⟨"RenameMerge$Merger", "settle", "(II)LRenameMerge$TreeFile;"⟩, prog_3_method_10_code, 5, (some (.object "RenameMerge$TreeFile")), 3, 4),
  (⟨"RenameMerge$Merger", "codesAt", "(I)I"⟩, prog_3_method_3_code, 2, (some .int), 2, 4),
  (⟨"RenameMerge$Merger", "countConflictPaths", "()I"⟩, prog_3_method_5_code, 3, (some .int), 1, 4),
  (⟨"RenameMerge$Merger", "stagedFile", "(II)LRenameMerge$TreeFile;"⟩, prog_3_method_4_code, 4, (some (.object "RenameMerge$TreeFile")), 3, 4),
  (⟨"RenameMerge$Merger", "sideOf", "(I)LRenameMerge$Side;"⟩, prog_3_method_2_code, 2, (some (.object "RenameMerge$Side")), 2, 4),
  (⟨"RenameMerge", "<init>", "(I)V"⟩, prog_1_method_1_code, 3, none, 2, 0),
  (⟨"RenameMerge", "put", "(IIIZ)Z"⟩, prog_1_method_2_code, 6, (some .boolean), 5, 0),
  (⟨"RenameMerge", "isInput", "(I)Z"⟩, prog_1_method_21_code, 1, (some .boolean), 1, 0),
  (⟨"RenameMerge", "isPath", "(I)Z"⟩, prog_1_method_22_code, 1, (some .boolean), 1, 0),
  (⟨"RenameMerge", "linesOf", "(I)[I"⟩, prog_1_method_25_code, 5, (some (.array .int)), 1, 0),
  (⟨"RenameMerge", "drop", "(II)Z"⟩, prog_1_method_3_code, 3, (some .boolean), 3, 0),
  (⟨"RenameMerge", "copy", "(II)Z"⟩, prog_1_method_4_code, 3, (some .boolean), 3, 0),
  (⟨"RenameMerge", "adopt", "(I)Z"⟩, prog_1_method_5_code, 3, (some .boolean), 2, 0),
  (⟨"RenameMerge", "style", "(I)Z"⟩, prog_1_method_6_code, 2, (some .boolean), 2, 0),
  (⟨"RenameMerge", "merge", "()I"⟩, prog_1_method_7_code, 2, (some .int), 1, 0),
  (⟨"RenameMerge", "nameOf", "(I)I"⟩, prog_1_method_24_code, 1, (some .int), 1, 0),
  (⟨"RenameMerge", "directoryOf", "(I)I"⟩, prog_1_method_23_code, 1, (some .int), 1, 0),
  (⟨"RenameMerge", "size", "(I)I"⟩, prog_1_method_8_code, 2, (some .int), 2, 0),
  (⟨"RenameMerge", "isTree", "(I)Z"⟩, prog_1_method_20_code, 1, (some .boolean), 1, 0),
  (⟨"RenameMerge", "kind", "(II)I"⟩, prog_1_method_9_code, 4, (some .int), 3, 0),
  (⟨"RenameMerge", "findFile", "(II)LRenameMerge$TreeFile;"⟩, prog_1_method_19_code, 3, (some (.object "RenameMerge$TreeFile")), 3, 0)]
def xms_2 : List (MethodName × ByteArray × Nat × Option FieldType × Nat × Nat) := [(⟨"RenameMerge", "length", "(II)I"⟩, prog_1_method_10_code, 4, (some .int), 3, 0),
  (⟨"RenameMerge", "line", "(III)I"⟩, prog_1_method_11_code, 5, (some .int), 4, 0),
  (⟨"RenameMerge", "conflict", "(I)I"⟩, prog_1_method_12_code, 2, (some .int), 2, 0),
  (⟨"RenameMerge", "staged", "(II)I"⟩, prog_1_method_13_code, 4, (some .int), 3, 0),
  (⟨"RenameMerge", "stagedLine", "(III)I"⟩, prog_1_method_14_code, 5, (some .int), 4, 0),
  (⟨"RenameMerge", "renamed", "(II)I"⟩, prog_1_method_15_code, 4, (some .int), 3, 0),
  (⟨"RenameMerge", "newPlace", "(II)I"⟩, prog_1_method_16_code, 4, (some .int), 3, 0),
  (⟨"RenameMerge", "stands", "(II)I"⟩, prog_1_method_17_code, 4, (some .int), 3, 0),
  (⟨"RenameMerge", "score", "(III)I"⟩, prog_1_method_18_code, 4, (some .int), 4, 0),
  (⟨"RenameMergeModel", "<init>", "(I)V"⟩, prog_9_method_1_code, 3, none, 2, 7),
  (⟨"RenameMergeModel", "size", "(I)I"⟩, prog_9_method_7_code, 4, (some .int), 2, 7),
  (⟨"RenameMergeModel", "has", "(II)Z"⟩, prog_9_method_3_code, 3, (some .boolean), 3, 7),
  (⟨"RenameMergeModel", "put", "(IIIZ)Z"⟩, prog_9_method_8_code, 8, (some .boolean), 5, 7),
  (⟨"RenameMergeModel", "start", "(II)I"⟩, prog_9_method_2_code, 2, (some .int), 2, 7),
  (⟨"RenameMergeModel", "drop", "(II)Z"⟩, prog_9_method_9_code, 3, (some .boolean), 3, 7),
  (⟨"RenameMergeModel", "erase", "(II)V"⟩, prog_9_method_4_code, 3, none, 3, 7),
  (⟨"RenameMergeModel", "copy", "(II)Z"⟩, prog_9_method_10_code, 4, (some .boolean), 3, 7),
  (⟨"RenameMergeModel", "copyFile", "(IIII)V"⟩, prog_9_method_5_code, 7, none, 5, 7),
  (⟨"RenameMergeModel", "adopt", "(I)Z"⟩, prog_9_method_11_code, 3, (some .boolean), 2, 7),
  (⟨"RenameMergeModel", "style", "(I)Z"⟩, prog_9_method_12_code, 2, (some .boolean), 2, 7),
  (⟨"RenameMergeModel", "score", "(III)I"⟩, prog_9_method_15_code, 4, (some .int), 4, 7),
  (⟨"RenameMergeModel", "likeness", "(III)I"⟩, prog_9_method_14_code, 11, (some .int), 4, 7),
  (⟨"RenameMergeModel", "often", "(III)I"⟩, prog_9_method_13_code, 6, (some .int), 4, 7),
  (⟨"RenameMergeModel", "merge", "()I"⟩, prog_9_method_44_code, 3, (some .int), 1, 7),
  (⟨"RenameMergeModel", "renames", "(I)V"⟩, prog_9_method_23_code, 4, none, 2, 7),
  (⟨"RenameMergeModel", "exact", "(I)V"⟩, prog_9_method_19_code, 6, none, 2, 7),
  (⟨"RenameMergeModel", "targetLeft", "(II)Z"⟩, prog_9_method_17_code, 3, (some .boolean), 3, 7),
  (⟨"RenameMergeModel", "sourceLeft", "(II)Z"⟩, prog_9_method_16_code, 3, (some .boolean), 3, 7),
  (⟨"RenameMergeModel", "alike", "(IIII)Z"⟩, prog_9_method_6_code, 8, (some .boolean), 5, 7),
  (⟨"RenameMergeModel", "join", "(III)V"⟩, prog_9_method_18_code, 4, none, 4, 7),
  (⟨"RenameMergeModel", "names", "(I)V"⟩, prog_9_method_20_code, 8, none, 2, 7),
  (⟨"RenameMergeModel", "lefts", "(IZ)I"⟩, prog_9_method_21_code, 5, (some .int), 3, 7),
  (⟨"RenameMergeModel", "bestLeft", "(I)I"⟩, prog_9_method_22_code, 8, (some .int), 2, 7),
  (⟨"RenameMergeModel", "newPlaceOf", "(II)I"⟩, prog_9_method_25_code, 7, (some .int), 3, 7),
  (⟨"RenameMergeModel", "moved", "(III)I"⟩, prog_9_method_24_code, 7, (some .int), 4, 7),
  (⟨"RenameMergeModel", "settle", "(II)V"⟩, prog_9_method_27_code, 8, none, 3, 7),
  (⟨"RenameMergeModel", "wanted", "(II)I"⟩, prog_9_method_26_code, 4, (some .int), 3, 7),
  (⟨"RenameMergeModel", "versions", "()V"⟩, prog_9_method_39_code, 3, none, 1, 7),
  (⟨"RenameMergeModel", "follow", "(I)V"⟩, prog_9_method_42_code, 6, none, 2, 7),
  (⟨"RenameMergeModel", "go", "(III)V"⟩, prog_9_method_40_code, 4, none, 4, 7)]
def xms_3 : List (MethodName × ByteArray × Nat × Option FieldType × Nat × Nat) := [(⟨"RenameMergeModel", "alone", "(III)V"⟩, prog_9_method_41_code, 6, none, 4, 7),
  (⟨"RenameMergeModel", "mergeFiles", "(III)V"⟩, prog_9_method_37_code, 7, none, 4, 7),
  (⟨"RenameMergeModel", "takeFile", "(II)V"⟩, prog_9_method_36_code, 4, none, 3, 7),
  (⟨"RenameMergeModel", "write", "(I)V"⟩, prog_9_method_31_code, 2, none, 2, 7),
  (⟨"RenameMergeModel", "mergeLines", "(III)V"⟩, prog_9_method_35_code, 8, none, 4, 7),
  (⟨"RenameMergeModel", "match", "(IIII)V"⟩, prog_9_method_30_code, 8, none, 5, 7),
  (⟨"RenameMergeModel", "ones", "(I)I"⟩, prog_9_method_28_code, 3, (some .int), 1, 7),
  (⟨"RenameMergeModel", "fits", "(IIII)Z"⟩, prog_9_method_29_code, 7, (some .boolean), 5, 7),
  (⟨"RenameMergeModel", "gap", "(IIIIII)V"⟩, prog_9_method_34_code, 9, none, 7, 7),
  (⟨"RenameMergeModel", "same", "(IIII)Z"⟩, prog_9_method_33_code, 7, (some .boolean), 5, 7),
  (⟨"RenameMergeModel", "writeAll", "(II)V"⟩, prog_9_method_32_code, 4, none, 3, 7),
  (⟨"RenameMergeModel", "putOut", "(II)V"⟩, prog_9_method_38_code, 4, none, 3, 7),
  (⟨"RenameMergeModel", "finish", "(I)V"⟩, prog_9_method_43_code, 2, none, 2, 7),
  (⟨"RenameMergeModel", "kind", "(II)I"⟩, prog_9_method_45_code, 3, (some .int), 3, 7),
  (⟨"RenameMergeModel", "length", "(II)I"⟩, prog_9_method_46_code, 3, (some .int), 3, 7),
  (⟨"RenameMergeModel", "line", "(III)I"⟩, prog_9_method_47_code, 4, (some .int), 4, 7),
  (⟨"RenameMergeModel", "conflict", "(I)I"⟩, prog_9_method_48_code, 2, (some .int), 2, 7),
  (⟨"RenameMergeModel", "staged", "(II)I"⟩, prog_9_method_49_code, 3, (some .int), 3, 7),
  (⟨"RenameMergeModel", "stagedLine", "(III)I"⟩, prog_9_method_50_code, 4, (some .int), 4, 7),
  (⟨"RenameMergeModel", "renamed", "(II)I"⟩, prog_9_method_51_code, 3, (some .int), 3, 7),
  (⟨"RenameMergeModel", "newPlace", "(II)I"⟩, prog_9_method_52_code, 3, (some .int), 3, 7),
  (⟨"RenameMergeModel", "stands", "(II)I"⟩, prog_9_method_53_code, 3, (some .int), 3, 7),
  (⟨"RenameMergeLaw", "cell", "([II)I"⟩, method_2_code, 2, (some .int), 2, 99),
  (⟨"RenameMergeLaw", "law", "([I)Z"⟩, code, 4, (some .boolean), 1, 99)]
def xms : List (MethodName × ByteArray × Nat × Option FieldType × Nat × Nat) := xms_0 ++ (xms_1 ++ (xms_2 ++ (xms_3)))
def xm0 : MethodName × ByteArray × Nat × Option FieldType × Nat × Nat := (⟨"", "", ""⟩, ⟨#[]⟩, 0, none, 0, 99)
def xmn (y : Nat) : MethodName := (xms.getD y xm0).1
def xmb (y : Nat) : ByteArray := (xms.getD y xm0).2.1
def xml (y : Nat) : Nat := (xms.getD y xm0).2.2.1
def xmr (y : Nat) : Option FieldType := (xms.getD y xm0).2.2.2.1
def xma (y : Nat) : Nat := (xms.getD y xm0).2.2.2.2.1
def xmc (y : Nat) : Nat := (xms.getD y xm0).2.2.2.2.2
def xno : List String := ["RenameMerge", "RenameMerge$TreeFile", "RenameMerge$Tree", "RenameMerge$Side", "RenameMerge$Merger", "RenameMerge$Part", "RenameMerge$LineMerge", "RenameMergeModel", "RenameMergeLaw", "java/util/Arrays"]
def xmos : List Nat := [9, 9, 1, 1, 1, 1, 1, 2, 2, 2, 2, 2, 2, 2, 2, 2, 3, 3, 3, 3, 3, 3, 3, 3, 3, 3, 3, 3, 3, 3, 3, 3, 3, 3, 3, 3, 5, 5, 5, 5, 5, 5, 5, 6, 6, 6, 6, 6, 6, 6, 6, 6, 4, 4, 4, 4, 4, 4, 4, 4, 4, 4, 4, 4, 0, 0, 0, 0, 0, 0, 0, 0, 0, 0, 0, 0, 0, 0, 0, 0, 0, 0, 0, 0, 0, 0, 0, 0, 0, 7, 7, 7, 7, 7, 7, 7, 7, 7, 7, 7, 7, 7, 7, 7, 7, 7, 7, 7, 7, 7, 7, 7, 7, 7, 7, 7, 7, 7, 7, 7, 7, 7, 7, 7, 7, 7, 7, 7, 7, 7, 7, 7, 7, 7, 7, 7, 7, 7, 7, 7, 7, 7, 8, 8]
def xmo (y : Nat) : Nat := xmos.getD y 99
/-- links across the nest: the holder, the entry, the method -/
def xNm : List (Nat × Nat × Nat) := [(2, 17, 67), (3, 61, 74), (3, 109, 75), (3, 37, 67), (6, 25, 36), (4, 33, 43), (4, 38, 7), (4, 39, 67), (0, 33, 7)]
def xNf : List (Nat × Nat) := [(5, 7), (4, 118)]
/-- links: the place in the tables, the kind, the holder, the entry, two numbers -/
def xlw : List (Nat × Nat × Nat × Nat × Nat × Nat) := [(241, 7, 9, 316, 0, 0), (247, 5, 9, 317, 0, 0), (248, 10, 9, 304, 0, 0), (251, 8, 9, 150, 0, 0), (257, 6, 1, 3, 0, 0), (258, 0, 1, 9, 1, 0), (261, 0, 1, 15, 1, 1), (334, 1, 1, 19, 4, 0), (352, 9, 1, 23, 0, 0), (353, 1, 1, 29, 6, 0), (357, 10, 1, 33, 0, 0), (174, 6, 2, 3, 0, 0), (175, 3, 2, 9, 0, 0), (177, 0, 2, 11, 2, 0), (262, 0, 2, 29, 1, 1), (294, 9, 2, 33, 0, 0), (318, 1, 2, 21, 8, 0), (378, 1, 2, 39, 13, 0), (433, 1, 2, 25, 10, 0), (88, 6, 3, 3, 0, 0), (92, 0, 3, 9, 3, 0), (93, 0, 3, 15, 3, 1), (94, 0, 3, 19, 3, 2), (95, 0, 3, 22, 3, 3), (96, 0, 3, 25, 3, 4), (97, 0, 3, 28, 3, 5), (89, 1, 3, 31, 0, 0), (314, 1, 3, 41, 13, 0), (319, 1, 3, 46, 18, 0), (342, 1, 3, 50, 21, 0), (358, 1, 3, 54, 23, 0), (323, 1, 3, 57, 8, 0), (327, 1, 3, 65, 19, 0), (338, 1, 3, 69, 20, 0), (331, 1, 3, 73, 3, 0), (346, 1, 3, 79, 22, 0), (349, 1, 3, 83, 5, 0), (362, 1, 3, 87, 24, 0), (365, 10, 3, 91, 0, 0), (366, 1, 3, 97, 25, 0), (374, 1, 3, 100, 14, 0), (379, 1, 3, 103, 27, 0), (383, 1, 3, 106, 28, 0), (394, 1, 3, 112, 30, 0), (402, 1, 3, 116, 32, 0), (398, 1, 3, 119, 31, 0), (411, 1, 3, 122, 10, 0), (126, 6, 5, 1, 0, 0), (129, 0, 5, 13, 5, 0), (131, 0, 5, 18, 5, 1), (133, 0, 5, 22, 5, 2), (490, 10, 5, 25, 0, 0), (118, 6, 6, 3, 0, 0), (119, 4, 6, 9, 0, 0), (142, 0, 6, 11, 6, 0), (143, 0, 6, 16, 6, 1), (144, 0, 6, 20, 6, 2), (121, 2, 6, 23, 5, 0), (145, 0, 6, 26, 6, 3), (146, 0, 6, 30, 6, 4), (147, 0, 6, 33, 6, 5), (148, 0, 6, 36, 6, 6), (149, 0, 6, 39, 6, 7), (150, 0, 6, 43, 6, 8), (456, 1, 6, 53, 45, 0), (466, 1, 6, 57, 37, 0), (470, 1, 6, 61, 38, 0), (474, 1, 6, 65, 47, 0), (495, 1, 6, 68, 49, 0), (499, 1, 6, 71, 42, 0), (460, 10, 6, 74, 0, 0), (461, 1, 6, 80, 46, 0), (465, 9, 6, 84, 0, 0), (478, 1, 6, 87, 39, 0), (134, 0, 6, 91, 5, 2), (482, 1, 6, 94, 48, 0), (486, 1, 6, 98, 40, 0), (491, 1, 6, 102, 41, 0), (130, 0, 6, 106, 5, 0), (132, 0, 6, 109, 5, 1), (512, 1, 6, 47, 1, 0), (81, 6, 4, 3, 0, 0), (82, 3, 4, 9, 1, 0), (181, 0, 4, 11, 4, 0), (83, 2, 4, 17, 3, 0), (85, 1, 4, 19, 16, 0), (182, 0, 4, 20, 4, 1), (183, 0, 4, 24, 4, 2), (184, 0, 4, 27, 4, 3), (113, 2, 4, 31, 6, 0), (185, 0, 4, 34, 4, 4), (82, 2, 4, 9, 2, 0), (309, 1, 4, 51, 0, 0), (310, 1, 4, 57, 17, 0), (370, 1, 4, 61, 26, 0), (390, 1, 4, 65, 29, 0), (406, 1, 4, 69, 11, 0), (407, 1, 4, 72, 33, 0), (416, 1, 4, 76, 34, 0), (421, 1, 4, 79, 35, 0), (425, 1, 4, 82, 55, 0), (439, 1, 4, 86, 57, 0), (429, 1, 4, 90, 15, 0), (434, 1, 4, 94, 56, 0), (443, 1, 4, 97, 13, 0), (444, 1, 4, 100, 10, 0), (445, 1, 4, 47, 8, 0), (446, 1, 4, 104, 58, 0), (450, 1, 4, 108, 3, 0), (260, 0, 4, 114, 1, 0), (264, 0, 4, 121, 1, 1), (452, 1, 4, 124, 44, 0), (503, 1, 4, 128, 50, 0), (507, 2, 4, 109, 1, 0), (508, 1, 4, 132, 51, 0), (513, 1, 4, 136, 2, 0), (518, 1, 4, 43, 60, 0), (71, 6, 0, 1, 0, 0), (74, 3, 0, 9, 1, 0), (198, 0, 0, 11, 0, 0), (76, 2, 0, 15, 4, 0), (78, 1, 0, 17, 52, 0), (199, 0, 0, 18, 0, 1), (201, 0, 0, 22, 0, 3), (202, 0, 0, 26, 0, 4), (200, 0, 0, 30, 0, 2), (74, 2, 0, 9, 2, 0), (218, 1, 0, 34, 66, 0), (221, 1, 0, 38, 67, 0), (224, 1, 0, 41, 8, 0), (229, 1, 0, 45, 9, 0), (233, 2, 0, 49, 1, 0), (235, 1, 0, 51, 68, 0), (254, 1, 0, 55, 2, 0), (270, 1, 0, 58, 10, 0), (238, 1, 0, 126, 1, 0), (282, 1, 0, 62, 11, 0), (290, 1, 0, 66, 12, 0), (305, 1, 0, 69, 53, 0), (412, 1, 0, 73, 54, 0), (514, 1, 0, 77, 59, 0), (522, 1, 0, 81, 61, 0), (530, 1, 0, 84, 77, 0), (537, 1, 0, 87, 79, 0), (259, 0, 0, 90, 1, 0), (263, 0, 0, 93, 1, 1), (549, 1, 0, 97, 4, 0), (554, 1, 0, 101, 60, 0), (559, 1, 0, 104, 62, 0), (571, 1, 0, 107, 63, 0), (575, 1, 0, 111, 34, 0), (580, 1, 0, 116, 31, 0), (585, 1, 0, 119, 35, 0), (590, 1, 0, 122, 5, 0), (599, 6, 7, 1, 0, 0), (603, 0, 7, 7, 7, 3), (604, 0, 7, 13, 7, 4), (605, 0, 7, 16, 7, 5), (606, 0, 7, 20, 7, 6), (607, 0, 7, 23, 7, 7), (608, 0, 7, 26, 7, 8), (609, 0, 7, 29, 7, 9), (610, 0, 7, 32, 7, 10), (611, 0, 7, 35, 7, 11), (619, 0, 7, 38, 7, 19), (600, 0, 7, 41, 7, 0), (666, 1, 7, 49, 91, 0), (674, 1, 7, 53, 90, 0), (675, 1, 7, 45, 93, 0), (682, 1, 7, 57, 95, 0), (690, 1, 7, 61, 97, 0), (602, 0, 7, 65, 7, 2), (601, 0, 7, 69, 7, 1), (706, 1, 7, 76, 101, 0), (710, 1, 7, 72, 102, 0), (718, 1, 7, 177, 104, 0), (755, 1, 7, 180, 113, 0), (763, 1, 7, 183, 115, 0), (771, 1, 7, 186, 117, 0), (775, 1, 7, 189, 118, 0), (830, 1, 7, 192, 132, 0), (722, 1, 7, 96, 105, 0), (742, 1, 7, 100, 110, 0), (747, 1, 7, 103, 111, 0), (751, 1, 7, 107, 112, 0), (738, 1, 7, 89, 109, 0), (726, 1, 7, 79, 106, 0), (730, 1, 7, 82, 107, 0), (734, 1, 7, 85, 108, 0), (746, 1, 7, 93, 100, 0), (759, 1, 7, 110, 114, 0), (767, 1, 7, 113, 116, 0), (779, 1, 7, 165, 119, 0), (783, 1, 7, 174, 120, 0), (787, 1, 7, 168, 121, 0), (826, 1, 7, 171, 131, 0), (614, 0, 7, 156, 7, 14), (791, 1, 7, 159, 122, 0), (615, 0, 7, 116, 7, 15), (616, 0, 7, 140, 7, 16), (617, 0, 7, 146, 7, 17), (613, 0, 7, 153, 7, 13), (799, 1, 7, 162, 124, 0), (618, 0, 7, 137, 7, 18), (612, 0, 7, 125, 7, 12), (795, 1, 7, 128, 123, 0), (803, 1, 7, 143, 125, 0), (814, 1, 7, 149, 128, 0), (807, 1, 7, 119, 126, 0), (810, 1, 7, 122, 127, 0), (818, 1, 7, 131, 129, 0), (822, 1, 7, 134, 130, 0), (846, 1, 7, 195, 134, 0), (855, 1, 7, 198, 136, 0), (860, 1, 7, 200, 137, 0), (66, 2, 8, 7, 0, 0), (591, 1, 8, 9, 142, 0), (68, 1, 8, 15, 64, 0), (594, 2, 8, 18, 7, 0), (596, 1, 8, 20, 89, 0), (214, 1, 8, 21, 65, 0), (670, 1, 8, 25, 92, 0), (274, 1, 8, 26, 69, 0), (678, 1, 8, 30, 94, 0), (278, 1, 8, 31, 70, 0), (686, 1, 8, 34, 96, 0), (286, 1, 8, 35, 71, 0), (694, 1, 8, 39, 98, 0), (297, 1, 8, 40, 72, 0), (698, 1, 8, 43, 99, 0), (301, 1, 8, 44, 73, 0), (714, 1, 8, 48, 103, 0), (526, 1, 8, 49, 76, 0), (662, 1, 8, 53, 90, 0), (533, 1, 8, 54, 78, 0), (834, 1, 8, 58, 133, 0), (541, 1, 8, 59, 80, 0), (838, 1, 8, 62, 134, 0), (545, 1, 8, 63, 81, 0), (842, 1, 8, 67, 135, 0), (550, 1, 8, 68, 82, 0), (847, 1, 8, 71, 136, 0), (555, 1, 8, 72, 83, 0), (851, 1, 8, 75, 137, 0), (563, 1, 8, 76, 84, 0), (856, 1, 8, 79, 138, 0), (567, 1, 8, 80, 85, 0), (861, 1, 8, 83, 139, 0), (576, 1, 8, 84, 86, 0), (865, 1, 8, 87, 140, 0), (581, 1, 8, 88, 87, 0), (869, 1, 8, 91, 141, 0), (586, 1, 8, 92, 88, 0), (702, 1, 8, 95, 100, 0)]
/-- a constant: a number, or its negative -/
def xk (a b : Nat) : Int32 := if b = 0 then nI a else - nI a
def xty (t : Nat) : FieldType := if t = 0 then .int else if t = 1 then .byte else .boolean
