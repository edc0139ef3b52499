def xc0 : vw_C := ("", fun _ => ("", "", "", false), 0)
/-- by number: 0 without an object, 1 on one, 2 a constructor -/
def xmks : List Nat := [0, 0, 2, 0, 1, 0, 1, 2, 1, 1, 1, 1, 1, 1, 1, 1, 2, 1, 1, 1, 1, 1, 0, 1, 0, 1, 1, 1, 1, 1, 1, 1, 1, 1, 1, 1, 2, 1, 1, 1, 1, 1, 1, 2, 1, 1, 1, 1, 1, 1, 1, 1, 2, 1, 1, 1, 1, 1, 1, 1, 1, 1, 1, 1, 2, 1, 0, 0, 0, 1, 1, 1, 1, 1, 0, 0, 1, 0, 1, 1, 1, 1, 1, 1, 1, 1, 1, 1, 1, 2, 1, 1, 1, 0, 1, 1, 1, 1, 1, 1, 1, 1, 1, 1, 1, 1, 1, 1, 1, 1, 1, 1, 1, 1, 1, 1, 1, 1, 1, 1, 1, 1, 1, 1, 1, 1, 0, 1, 1, 1, 1, 1, 1, 1, 1, 1, 1, 1, 1, 1, 1, 1, 0]
def xmk (y : Nat) : Nat := xmks.getD y 9
/-! the rows, against the bytes -/
def xvc (own idx a b w k : Nat) : Bool :=
  if b = 2 * k then decide (a < 143) && decide ((xlw[w]?).map (fun q => q.2) = some (1, own, idx, a, 0))
  else decide (b = 2 * k + 1) && decide (a < 143) && decide (xNm[w]? = some (own, idx, a))
def xvf (own idx a b w : Nat) : Bool := decide (a < 8) && decide (b < (xcl.getD a xc0).2.2) && decide ((xlw[w]?).map (fun q => q.2) = some (0, own, idx, a, b))
def xvk (own idx w k a : Nat) : Bool := decide ((xlw[w]?).map (fun q => q.2) = some (k, own, idx, a, 0))
def xvi (own : Nat) (rt : Option FieldType) (nL : Nat) (ini : Bool) (pc : Nat) (i : Instr) (len a b w : Nat) : Bool := match i with
  | .iconst n => decide (len = 1) && decide (Int32.ofInt n = xk a b)
  | .bipush n => decide (len = 2) && decide ((Int8.ofInt n).toInt32 = xk a b)
  | .sipush n => decide (len = 3) && decide ((Int16.ofInt n).toInt32 = xk a b)
  | .istore_n k => decide (len = 1) && decide (k.val < nL)
  | .astore_n k => decide (len = 1) && decide (k.val < nL)
  | .istore k => decide (len = 2) && decide (k < nL)
  | .astore k => decide (len = 2) && decide (k < nL)
  | .iload _ => decide (len = 2)
  | .aload _ => decide (len = 2)
  | .iinc k n => decide (len = 3) && decide (k < nL) && decide (Int32.ofInt n = xk a b)
  | .ifCond _ off => decide (len = 3) && decide ((pc : Int) + off = (a : Int))
  | .if_icmp _ off => decide (len = 3) && decide ((pc : Int) + off = (a : Int))
  | .ifnull off => decide (len = 3) && decide ((pc : Int) + off = (a : Int))
  | .ifnonnull off => decide (len = 3) && decide ((pc : Int) + off = (a : Int))
  | .goto off => decide (len = 3) && decide ((pc : Int) + off = (a : Int))
  | .tableswitch _ _ _ _ => true
  | .baload => decide (len = 1) && decide (a = 1 ∨ a = 2)
  | .bastore => decide (len = 1) && decide (a = 1 ∨ a = 2)
  | .aastore => decide (len = 1) && decide (a < 2)
  | .getfield idx => decide (len = 3) && xvf own idx a b w
  | .putfield idx => decide (len = 3) && xvf own idx a b w && (!((xcl.getD a xc0).2.1 b).2.2.2 || (ini && decide (a = own)))
  | .new idx => decide (len = 3) && decide (a < 8) && decide (b = (xcl.getD a xc0).2.2) && xvk own idx w 2 a
  | .newarray q => decide (len = 2) && decide (newarray.typeOf q = xty a) && decide (a < 3)
  | .anewarray idx => decide (len = 3) && decide (a < 2) && xvk own idx w 3 a
  | .multianewarray idx n => decide (len = 4) && decide (n = 2) && xvk own idx w 4 0
  | .getstatic idx => decide (len = 3) && decide (xNf[w]? = some (own, idx))
  | .checkcast idx => decide (len = 3) && xvk own idx w 5 0
  | .invokespecial idx => decide (len = 3) && (if b = 6 then xvk own idx w 6 0 else xvc own idx a b w 0 && decide (xmk a = 2))
  | .invokevirtual idx => decide (len = 3) && (if b = 7 then xvk own idx w 7 0 else xvc own idx a b w 1 && decide (xmk a = 1))
  | .invokestatic idx => decide (len = 3) && (if b = 8 then xvk own idx w 8 0 else if b = 9 then xvk own idx w 9 0 else if b = 10 then xvk own idx w 10 0 else xvc own idx a b w 2 && decide (xmk a = 0))
  | .ireturn => decide (len = 1) && (if a = 1 then decide (rt = some .boolean) else decide (rt = some .int))
  | .areturn => decide (len = 1) && (match rt with
    | some (.object _) => true
    | some (.array _) => true
    | _ => false)
  | .return_ => decide (len = 1) && decide (rt = none)
  | _ => decide (len = 1)
def xvl (own : Nat) (rt : Option FieldType) (cc : ByteArray) (nL : Nat) (ini : Bool) (r : xI) : Bool := decide (decode cc r.1 = .ok (r.2.1, r.2.2.1)) && xvi own rt nL ini r.1 r.2.1 r.2.2.1 r.2.2.2.1 r.2.2.2.2.1 r.2.2.2.2.2
def xvm (y : Nat) : Bool := (xtb y).all (xvl (xmo y) (xmr y) (xmb y) (xml y) (decide ((xmn y).name = "<init>")))
