def TG (k : Nat) : Nat := tgL.getD k 99
def LN (k : Nat) : Nat := lnL.getD k 0
def FK (c : Nat) : List Nat := FKl.getD c []
def mI (y : Nat) : MI := mtL.getD y (⟨"", "", ""⟩, 0, ⟨#[]⟩, 0, none, 0)
def mY (y : Nat) : MethodName := (mI y).1
def mO (y : Nat) : Nat := (mI y).2.1
def mB (y : Nat) : ByteArray := (mI y).2.2.1
def mL (y : Nat) : Nat := (mI y).2.2.2.1
def mR (y : Nat) : Option FieldType := (mI y).2.2.2.2.1
def mP (y : Nat) : Nat := (mI y).2.2.2.2.2
def insT (y : Nat) : List (Nat × E5) := itL.getD y []
/-! ===== the tables are true: each instruction, each link ===== -/
def kv (v : Value) : Nat := match v with
  | .int _ => 0
  | .long _ => 1
  | .null => 2
  | _ => 9
def sname (a : Nat) : String := match a with
  | 0 => "TURN_XX"
  | 1 => "TURN_XY"
  | 2 => "TURN_YX"
  | _ => "TURN_YY"
def fAt (c b : Nat) : String × String × String × Bool := match classes[c]? with
  | some q => q.2.1 b
  | none => ("", "", "", false)
def fN (c : Nat) : Nat := match classes[c]? with
  | some q => q.2.2
  | none => 0
/-- a field link of the tables -/
def fldOk (q : Nat × Nat × Nat × Nat × Nat) : Bool := decide (q.2.2.2.1 < fN q.2.2.1) && decide (lw_tbl[q.2.2.2.2]? = some (.fieldLink (oname q.1) q.2.1 (fAt q.2.2.1 q.2.2.2.1).1 (fAt q.2.2.1 q.2.2.2.1).2.1 (fAt q.2.2.1 q.2.2.2.1).2.2.1))
def mthOk (q : Nat × Nat × Nat × Nat × Nat) : Bool := decide (q.2.2.1 < 259) && (if q.2.2.2.2 = 0 then decide (lw_tbl[q.2.2.2.1]? = some (.methodLink (oname q.1) q.2.1 (mY q.2.2.1))) else decide (lw_tbl[q.2.2.2.1]? = some (.methodLinkNest (oname q.1) q.2.1 (mY q.2.2.1) "SelfShapes")))
/-- a method's own words, but for its code -/
def mwOk (q : Nat × Nat × Nat × Nat × Nat × Nat) : Bool := decide (lw_tbl[q.2.2.2.2.1]? = some (.initialized (mY q.1).cls)) && (decide ((mY q.1).cls = oname (mO q.1)) && (decide (mL q.1 ≤ 40) && (Jvm.plainName (mY q.1).cls && (decide ((mY q.1).cls ≠ "java/lang/invoke/MethodHandle") && (decide ((mY q.1).cls ≠ "java/lang/invoke/VarHandle") && (decide ((parseMethodDescriptor (mY q.1).desc).map (fun d => d.parameters.length) = some (mP q.1)) &&
  (match q.2.2.2.2.2 with
  | 0 => decide (lw_tbl[q.2.2.1]? = some (.instanceMethod (mY q.1))) && (decide (lw_tbl[q.2.2.2.1]? = some (.selects (mY q.1).cls (mY q.1) (mY q.1))) && decide (mO q.1 < 11))
  | 1 => decide (lw_tbl[q.2.2.1]? = some (.static (mY q.1)))
  | _ => decide (lw_tbl[q.2.2.1]? = some (.instanceMethod (mY q.1))) && (decide ((mY q.1).name = "<init>") && decide (mR q.1 = none)))))))))
def objOk (q : Nat × Nat × Nat) : Bool := decide (lw_tbl[q.2.2]? = some (.methodLink (oname q.1) q.2.1 objectInit))
def matN (a : Nat) : MethodName := if a = 9002 then Lib.Math.max.name else if a = 9003 then Lib.Math.min.name else Lib.MathLoose.abs_long.x
def matOk (q : Nat × Nat × Nat × Nat) : Bool := (decide (q.2.2.1 = 9002) || (decide (q.2.2.1 = 9003) || decide (q.2.2.1 = 9004))) && decide (lw_tbl[q.2.2.2]? = some (.methodLink (oname q.1) q.2.1 (matN q.2.2.1)))
def cpyOk (q : Nat × Nat × Nat) : Bool := decide (lw_tbl[q.2.2]? = some (.methodLink (oname q.1) q.2.1 arraycopyName))
def mKind (y : Nat) : Nat := match mwT[y]? with
  | some q => q.2.2.2.2.2
  | none => 9
def hasF (ow k a b : Nat) : Bool := fldT.any (fun q => decide (q.1 = ow) && (decide (q.2.1 = k) && (decide (q.2.2.1 = a) && decide (q.2.2.2.1 = b))))
def hasM (ow k a n : Nat) : Bool := mthT.any (fun q => decide (q.1 = ow) && (decide (q.2.1 = k) && (decide (q.2.2.1 = a) && decide (q.2.2.2.2 = n))))
def ck1 (ow : Nat) (ini : Bool) (pc : Nat) (e : E5) : Bool := match e with
  | (i, np, a, b, v) => match i with
    | .iload k => decide (k = a) && decide (np = pc + 2)
    | .iload_n k => decide ((k : Nat) = a) && decide (np = pc + 1)
    | .lload k => decide (k = a) && decide (np = pc + 2)
    | .lload_n k => decide ((k : Nat) = a) && decide (np = pc + 1)
    | .aload k => decide (k = a) && decide (np = pc + 2)
    | .aload_n k => decide ((k : Nat) = a) && decide (np = pc + 1)
    | .istore k => decide (k = a) && decide (np = pc + 2)
    | .istore_n k => decide ((k : Nat) = a) && decide (np = pc + 1)
    | .lstore k => decide (k = a) && decide (np = pc + 2)
    | .lstore_n k => decide ((k : Nat) = a) && decide (np = pc + 1)
    | .astore k => decide (k = a) && decide (np = pc + 2)
    | .astore_n k => decide ((k : Nat) = a) && decide (np = pc + 1)
    | .iinc k n => decide (k = a) && (decide (v = .int (Int32.ofInt n)) && decide (np = pc + 3))
    | .iconst n => decide (v = .int (Int32.ofInt n)) && decide (np = pc + 1)
    | .bipush n => decide (v = .int (Int8.ofInt n).toInt32) && decide (np = pc + 2)
    | .sipush n => decide (v = .int (Int16.ofInt n).toInt32) && decide (np = pc + 3)
    | .lconst n => decide (v = .long (Int64.ofNat (n : Nat))) && decide (np = pc + 1)
    | .ldc k => (match v with
      | .int x => decide (lw_tbl[b]? = some (.constant (oname ow) k x)) && decide (np = pc + 2)
      | _ => false)
    | .ldc_w k => (match v with
      | .int x => decide (lw_tbl[b]? = some (.constant (oname ow) k x)) && decide (np = pc + 3)
      | _ => false)
    | .ldc2_w k => (match v with
      | .long x => decide (lw_tbl[b]? = some (.constantLong (oname ow) k x)) && decide (np = pc + 3)
      | _ => false)
    | .ifCond _ off => decide ((pc : Int) + off = (a : Int)) && decide (np = pc + 3)
    | .if_icmp _ off => decide ((pc : Int) + off = (a : Int)) && decide (np = pc + 3)
    | .goto off => decide ((pc : Int) + off = (a : Int)) && decide (np = pc + 3)
    | .tableswitch _ _ _ _ => true
    | .getfield k => hasF ow k a b && (decide ((FK a)[b]? = some (kv v)) && decide (np = pc + 3))
    | .putfield k => hasF ow k a b && (decide ((FK a)[b]? = some (kv v)) && (decide (np = pc + 3) && (!(fAt a b).2.2.2 || (ini && decide ((fAt a b).1 = oname ow)))))
    | .getstatic k => decide (lw_tbl[b]? = some (.fieldLinkNest (oname ow) k "SelfShapes" (sname a) "[I" "SelfShapes")) && decide (np = pc + 3)
    | .new k => decide (lw_tbl[b]? = some (.classLink (oname ow) k (oname a))) && decide (np = pc + 3)
    | .newarray t => (match t with
      | .int => decide (a = 11)
      | .long => decide (a = 12)
      | .boolean => decide (a = 13)
      | _ => false) && decide (np = pc + 2)
    | .anewarray k => (decide (a = 14) && decide (lw_tbl[b]? = some (.classLink (oname ow) k "SelfShapes$Row")) || decide (a = 15) && decide (lw_tbl[b]? = some (.classLink (oname ow) k "SelfShapes$Shape"))) && decide (np = pc + 3)
    | .invokevirtual k => hasM ow k a 0 && (decide (mKind a = 0) && (decide (b = mP a) && decide (np = pc + 3)))
    | .invokestatic k => (if a = 9001 then cpyT.any (fun q => decide (q.1 = ow) && decide (q.2.1 = k)) else if 9002 ≤ a then matT.any (fun q => decide (q.1 = ow) && (decide (q.2.1 = k) && decide (q.2.2.1 = a))) else hasM ow k a 0 && (decide (mKind a = 1) && decide (b = mP a))) && decide (np = pc + 3)
    | .invokespecial k => (if a = 9000 then objT.any (fun q => decide (q.1 = ow) && decide (q.2.1 = k)) else (hasM ow k a 0 || hasM ow k a 1) && (decide (mKind a = 2) && decide (b = mP a))) && decide (np = pc + 3)
    | .ireturn => true
    | .lreturn => true
    | .return_ => true
    | _ => decide (np = pc + 1)
def ck (B : ByteArray) (ow : Nat) (ini : Bool) (q : Nat × E5) : Bool := decide (decode B q.1 = .ok (q.2.1, q.2.2.1 - q.1)) && (decide (q.1 < q.2.2.1) && ck1 ow ini q.1 q.2)
def ckM (y : Nat) : Bool := (insT y).all (ck (mB y) (mO y) (decide ((mY y).name = "<init>")))
def cwd (y : Nat) : Cond := .code (mY y) (mB y) (mL y) (mR y)
