/-! ===== the pure machine: what each instruction does to a pure heap; a reference is the number of its cell in the order of making (below 1000), 1000 .. 1003 the four constant rows, 1004 the script ===== -/
abbrev PH : Type := Nat × (Nat → Nat → Int32) × (Nat → Nat → Int64) × (Nat → Nat → Option Nat)
abbrev PC : Type := Nat × List (Option Value) × List Value × PH
abbrev PRes : Type := Option Value × PH
abbrev PSt : Type := PRes ⊕ (PC ⊕ (Nat × List Value × PC))
def hN (h : PH) : Nat := h.1
def hI (h : PH) (k j : Nat) : Int32 := h.2.1 k j
def hL (h : PH) (k j : Nat) : Int64 := h.2.2.1 k j
def hR (h : PH) (k j : Nat) : Option Nat := h.2.2.2 k j
def up1 {α : Type} (f : Nat → Nat → α) (k : Nat) (g : Nat → α) : Nat → Nat → α := fun a => if a = k then g else f a
def up2 {α : Type} (f : Nat → Nat → α) (k j : Nat) (v : α) : Nat → Nat → α := fun a b => if a = k then (if b = j then v else f a b) else f a b
/-- one int, one long, one reference of a cell; a whole row of ints, of longs; a new cell -/
def sI (h : PH) (k j : Nat) (v : Int32) : PH := (h.1, up2 h.2.1 k j v, h.2.2.1, h.2.2.2)
def sL (h : PH) (k j : Nat) (v : Int64) : PH := (h.1, h.2.1, up2 h.2.2.1 k j v, h.2.2.2)
def sR (h : PH) (k j : Nat) (v : Option Nat) : PH := (h.1, h.2.1, h.2.2.1, up2 h.2.2.2 k j v)
def aI (h : PH) (k : Nat) (g : Nat → Int32) : PH := (h.1, up1 h.2.1 k g, h.2.2.1, h.2.2.2)
def aL (h : PH) (k : Nat) (g : Nat → Int64) : PH := (h.1, h.2.1, up1 h.2.2.1 k g, h.2.2.2)
def nH (h : PH) : PH := (h.1 + 1, up1 h.2.1 h.1 (fun _ => 0), up1 h.2.2.1 h.1 (fun _ => 0), up1 h.2.2.2 h.1 (fun _ => none))
/-- how many slots a cell has, and the first n cells together -/
def SZ (k : Nat) : Nat := if TG k < 11 then (FK (TG k)).length else LN k
def SL : Nat → Nat
  | 0 => 0
  | n + 1 => SL n + SZ n
def look : List (Nat × E5) → Nat → Option E5
  | [], _ => none
  | e :: l, pc => cond (Nat.beq e.1 pc) (some e.2) (look l pc)
/-- the rows of ints that nobody writes -/
def ro (sc : Nat × (Nat → Int32)) (k : Nat) : Nat × (Nat → Int32) := match k with
  | 0 => (8, fun j => ([1, 0, -1, 0, 0, -1, 0, 1] : List Int32).getD j 0)
  | 1 => (8, fun j => ([0, -1, 0, 1, 1, 0, -1, 0] : List Int32).getD j 0)
  | 2 => (8, fun j => ([0, 1, 0, -1, 1, 0, -1, 0] : List Int32).getD j 0)
  | 3 => (8, fun j => ([1, 0, -1, 0, 0, 1, 0, -1] : List Int32).getD j 0)
  | 4 => sc
  | _ => (0, fun _ => 0)
def okp (h : PH) (k c : Nat) : Bool := decide (k < hN h) && (decide (k < 1000) && decide (TG k = c))
def inb (i : Int32) (n : Nat) : Bool := decide (¬ (i < 0 ∨ n ≤ i.toNatClampNeg))
def gl (ls : List (Option Value)) (i : Nat) : Option Value := ls.getD i none
def cl2 (o : Option Value) : Option Value := match o with
  | some (.long _) => none
  | some (.double _) => none
  | o => o
def fx (ls : List (Option Value)) (i : Nat) : List (Option Value) := match i with
  | 0 => ls
  | j + 1 => ls.set j (cl2 (gl ls j))
def sto1 (ls : List (Option Value)) (i : Nat) (v : Value) : List (Option Value) := (fx ls i).set i (some v)
def sto2 (ls : List (Option Value)) (i : Nat) (v : Value) : List (Option Value) := ((fx ls i).set i (some v)).set (i + 1) none
def cat1 (v : Value) : Bool := decide (v.category = 1)
def catS (st : List Value) : Nat := (st.map fun v => v.category).sum
def go (pc : Nat) (ls : List (Option Value)) (st : List Value) (h : PH) : Option PSt := some (.inr (.inl (pc, ls, st, h)))
def o_ldI (np a : Nat) (ls : List (Option Value)) (st : List Value) (h : PH) : Option PSt := match gl ls a with
  | some (.int x) => go np ls (.int x :: st) h
  | _ => none
def o_ldL (np a : Nat) (ls : List (Option Value)) (st : List Value) (h : PH) : Option PSt := match gl ls a with
  | some (.long x) => go np ls (.long x :: st) h
  | _ => none
def o_ldA (np a : Nat) (ls : List (Option Value)) (st : List Value) (h : PH) : Option PSt := match gl ls a with
  | some (.ref x) => go np ls (.ref x :: st) h
  | _ => none
def o_stI (np a : Nat) (ls : List (Option Value)) (st : List Value) (h : PH) : Option PSt := match st with
  | .int x :: r => if a < ls.length then go np (sto1 ls a (.int x)) r h else none
  | _ => none
def o_stL (np a : Nat) (ls : List (Option Value)) (st : List Value) (h : PH) : Option PSt := match st with
  | .long x :: r => if a + 1 < ls.length then go np (sto2 ls a (.long x)) r h else none
  | _ => none
def o_stA (np a : Nat) (ls : List (Option Value)) (st : List Value) (h : PH) : Option PSt := match st with
  | .ref x :: r => if a < ls.length then go np (sto1 ls a (.ref x)) r h else none
  | _ => none
def o_inc (np a : Nat) (v : Value) (ls : List (Option Value)) (st : List Value) (h : PH) : Option PSt := match gl ls a, v with
  | some (.int x), .int d => if a < ls.length then go np (sto1 ls a (.int (x + d))) st h else none
  | _, _ => none
def o_push (np : Nat) (v : Value) (ls : List (Option Value)) (st : List Value) (h : PH) : Option PSt := match v with
  | .int x => go np ls (.int x :: st) h
  | .long x => go np ls (.long x :: st) h
  | _ => none
def o_ii (f : Int32 → Int32 → Int32) (np : Nat) (ls : List (Option Value)) (st : List Value) (h : PH) : Option PSt := match st with
  | .int y :: .int x :: r => go np ls (.int (f x y) :: r) h
  | _ => none
def o_iiz (f : Int32 → Int32 → Int32) (np : Nat) (ls : List (Option Value)) (st : List Value) (h : PH) : Option PSt := match st with
  | .int y :: .int x :: r => if y = 0 then none else go np ls (.int (f x y) :: r) h
  | _ => none
def o_ll (f : Int64 → Int64 → Int64) (np : Nat) (ls : List (Option Value)) (st : List Value) (h : PH) : Option PSt := match st with
  | .long y :: .long x :: r => go np ls (.long (f x y) :: r) h
  | _ => none
def o_llz (f : Int64 → Int64 → Int64) (np : Nat) (ls : List (Option Value)) (st : List Value) (h : PH) : Option PSt := match st with
  | .long y :: .long x :: r => if y = 0 then none else go np ls (.long (f x y) :: r) h
  | _ => none
def o_li (f : Int64 → Int32 → Int64) (np : Nat) (ls : List (Option Value)) (st : List Value) (h : PH) : Option PSt := match st with
  | .int y :: .long x :: r => go np ls (.long (f x y) :: r) h
  | _ => none
def o_cmp (np : Nat) (ls : List (Option Value)) (st : List Value) (h : PH) : Option PSt := match st with
  | .long y :: .long x :: r => go np ls (.int (lg_cmp x y) :: r) h
  | _ => none
def o_i (f : Int32 → Int32) (np : Nat) (ls : List (Option Value)) (st : List Value) (h : PH) : Option PSt := match st with
  | .int x :: r => go np ls (.int (f x) :: r) h
  | _ => none
def o_l (f : Int64 → Int64) (np : Nat) (ls : List (Option Value)) (st : List Value) (h : PH) : Option PSt := match st with
  | .long x :: r => go np ls (.long (f x) :: r) h
  | _ => none
def o_i2l (np : Nat) (ls : List (Option Value)) (st : List Value) (h : PH) : Option PSt := match st with
  | .int x :: r => go np ls (.long x.toInt64 :: r) h
  | _ => none
def o_l2i (np : Nat) (ls : List (Option Value)) (st : List Value) (h : PH) : Option PSt := match st with
  | .long x :: r => go np ls (.int x.toInt32 :: r) h
  | _ => none
def o_if (c : ClassFile.Cond) (np a : Nat) (ls : List (Option Value)) (st : List Value) (h : PH) : Option PSt := match st with
  | .int x :: r => match c with
    | .eq => if x = 0 then go a ls r h else go np ls r h
    | .ne => if x = 0 then go np ls r h else go a ls r h
    | .lt => if x < 0 then go a ls r h else go np ls r h
    | .ge => if 0 ≤ x then go a ls r h else go np ls r h
    | .gt => if 0 < x then go a ls r h else go np ls r h
    | .le => if x ≤ 0 then go a ls r h else go np ls r h
  | _ => none
def o_icmp (c : ClassFile.Cond) (np a : Nat) (ls : List (Option Value)) (st : List Value) (h : PH) : Option PSt := match st with
  | .int y :: .int x :: r => match c with
    | .eq => if x = y then go a ls r h else go np ls r h
    | .ne => if x = y then go np ls r h else go a ls r h
    | .lt => if x < y then go a ls r h else go np ls r h
    | .ge => if y ≤ x then go a ls r h else go np ls r h
    | .gt => if y < x then go a ls r h else go np ls r h
    | .le => if x ≤ y then go a ls r h else go np ls r h
  | _ => none
def o_sw (pc : Nat) (dflt lo hi : Int) (offs : Array Int) (ls : List (Option Value)) (st : List Value) (h : PH) : Option PSt := match st with
  | .int x :: r => if x.toInt < lo ∨ hi < x.toInt then (if 0 ≤ (pc : Int) + dflt then go ((pc : Int) + dflt).toNat ls r h else none) else match offs[(x.toInt - lo).toNat]? with
    | some off => if 0 ≤ (pc : Int) + off then go ((pc : Int) + off).toNat ls r h else none
    | none => none
  | _ => none
def o_iald (sc : Nat × (Nat → Int32)) (np : Nat) (ls : List (Option Value)) (st : List Value) (h : PH) : Option PSt := match st with
  | .int i :: .ref k :: r => if k < 1000 then (if okp h k 11 && inb i (LN k) then go np ls (.int (hI h k i.toNatClampNeg) :: r) h else none) else (if inb i (ro sc (k - 1000)).1 then go np ls (.int ((ro sc (k - 1000)).2 i.toNatClampNeg) :: r) h else none)
  | _ => none
def o_bald (np : Nat) (ls : List (Option Value)) (st : List Value) (h : PH) : Option PSt := match st with
  | .int i :: .ref k :: r => if okp h k 13 && inb i (LN k) then go np ls (.int (hI h k i.toNatClampNeg) :: r) h else none
  | _ => none
def o_lald (np : Nat) (ls : List (Option Value)) (st : List Value) (h : PH) : Option PSt := match st with
  | .int i :: .ref k :: r => if okp h k 12 && inb i (LN k) then go np ls (.long (hL h k i.toNatClampNeg) :: r) h else none
  | _ => none
def o_aald (np : Nat) (ls : List (Option Value)) (st : List Value) (h : PH) : Option PSt := match st with
  | .int i :: .ref k :: r => if (okp h k 14 || okp h k 15) && inb i (LN k) then (match hR h k i.toNatClampNeg with
      | some q => go np ls (.ref q :: r) h
      | none => none) else none
  | _ => none
def o_iast (np : Nat) (ls : List (Option Value)) (st : List Value) (h : PH) : Option PSt := match st with
  | .int x :: .int i :: .ref k :: r => if okp h k 11 && inb i (LN k) then go np ls r (sI h k i.toNatClampNeg x) else none
  | _ => none
def o_bast (np : Nat) (ls : List (Option Value)) (st : List Value) (h : PH) : Option PSt := match st with
  | .int x :: .int i :: .ref k :: r => if okp h k 13 && inb i (LN k) then go np ls r (sI h k i.toNatClampNeg (vp_nar .boolean x)) else none
  | _ => none
def o_last (np : Nat) (ls : List (Option Value)) (st : List Value) (h : PH) : Option PSt := match st with
  | .long x :: .int i :: .ref k :: r => if okp h k 12 && inb i (LN k) then go np ls r (sL h k i.toNatClampNeg x) else none
  | _ => none
def o_aast (np : Nat) (ls : List (Option Value)) (st : List Value) (h : PH) : Option PSt := match st with
  | .ref q :: .int i :: .ref k :: r => if ((okp h k 14 && okp h q 5) || (okp h k 15 && okp h q 6)) && inb i (LN k) then go np ls r (sR h k i.toNatClampNeg (some q)) else none
  | _ => none
def o_alen (sc : Nat × (Nat → Int32)) (np : Nat) (ls : List (Option Value)) (st : List Value) (h : PH) : Option PSt := match st with
  | .ref k :: r => if k < 1000 then (if okp h k 11 || (okp h k 12 || (okp h k 13 || (okp h k 14 || okp h k 15))) then go np ls (.int (Int32.ofNat (LN k)) :: r) h else none) else (if k - 1000 < 5 then go np ls (.int (Int32.ofNat (ro sc (k - 1000)).1) :: r) h else none)
  | _ => none
def o_new (np a : Nat) (ls : List (Option Value)) (st : List Value) (h : PH) : Option PSt := if hN h < 1000 ∧ TG (hN h) = a ∧ a < 11 then go np ls (.ref (hN h) :: st) (nH h) else none
def o_newa (np a : Nat) (ls : List (Option Value)) (st : List Value) (h : PH) : Option PSt := match st with
  | .int n :: r => if hN h < 1000 ∧ TG (hN h) = a ∧ (¬ n < 0) ∧ LN (hN h) = n.toNatClampNeg ∧ LN (hN h) ≤ 60000 then go np ls (.ref (hN h) :: r) (nH h) else none
  | _ => none
def o_dup (np : Nat) (ls : List (Option Value)) (st : List Value) (h : PH) : Option PSt := match st with
  | v :: r => if cat1 v then go np ls (v :: v :: r) h else none
  | _ => none
def o_dup2 (np : Nat) (ls : List (Option Value)) (st : List Value) (h : PH) : Option PSt := match st with
  | v :: w :: r => if cat1 v && cat1 w then go np ls (v :: w :: v :: w :: r) h else none
  | _ => none
def o_dupx2 (np : Nat) (ls : List (Option Value)) (st : List Value) (h : PH) : Option PSt := match st with
  | v :: w :: u :: r => if cat1 v && (cat1 w && cat1 u) then go np ls (v :: w :: u :: v :: r) h else none
  | _ => none
def o_getf (np a b : Nat) (v : Value) (ls : List (Option Value)) (st : List Value) (h : PH) : Option PSt := match st with
  | .ref k :: r => if okp h k a then (match v with
      | .int _ => go np ls (.int (hI h k b) :: r) h
      | .long _ => go np ls (.long (hL h k b) :: r) h
      | _ => match hR h k b with
        | some q => go np ls (.ref q :: r) h
        | none => none) else none
  | _ => none
def o_putf (np a b : Nat) (v : Value) (ls : List (Option Value)) (st : List Value) (h : PH) : Option PSt := match v, st with
  | .int _, .int x :: .ref k :: r => if okp h k a then go np ls r (sI h k b x) else none
  | .long _, .long x :: .ref k :: r => if okp h k a then go np ls r (sL h k b x) else none
  | .null, .ref q :: .ref k :: r => if okp h k a then go np ls r (sR h k b (some q)) else none
  | _, _ => none
/-- System.arraycopy over rows of ints and of longs -/
def o_copy (np : Nat) (ls : List (Option Value)) (st : List Value) (h : PH) : Option PSt := match st with
  | .int n :: .int dp :: .ref k1 :: .int sp :: .ref k0 :: r =>
    if (¬ sp < 0) ∧ (¬ dp < 0) ∧ (¬ n < 0) ∧ sp.toNatClampNeg + n.toNatClampNeg ≤ LN k0 ∧ dp.toNatClampNeg + n.toNatClampNeg ≤ LN k1 ∧ catS r ≤ 8 then
      (if okp h k0 11 && okp h k1 11 then go np ls r (aI h k1 (va_cpy (hI h k0) (hI h k1) sp.toNatClampNeg dp.toNatClampNeg n.toNatClampNeg))
       else if okp h k0 12 && okp h k1 12 then go np ls r (aL h k1 (va_cpy (hL h k0) (hL h k1) sp.toNatClampNeg dp.toNatClampNeg n.toNatClampNeg)) else none)
    else none
  | _ => none
def o_obj (np : Nat) (ls : List (Option Value)) (st : List Value) (h : PH) : Option PSt := match st with
  | .ref _ :: r => if catS r ≤ 8 then go np ls r h else none
  | _ => none
def entS : List Value → List (Option Value)
  | [] => []
  | v :: vs => match v with
    | .long _ => some v :: none :: entS vs
    | .double _ => some v :: none :: entS vs
    | _ => some v :: entS vs
/-- Math.max, Math.min of ints, Math.abs of a long -/
def o_mat (a np : Nat) (ls : List (Option Value)) (st : List Value) (h : PH) : Option PSt := match st with
  | .int y :: .int x :: r => if a = 9002 ∧ catS r ≤ 8 then go np ls (.int (if x < y then y else x) :: r) h else if a = 9003 ∧ catS r ≤ 8 then go np ls (.int (if y < x then y else x) :: r) h else none
  | .long x :: r => if a = 9004 ∧ catS r ≤ 8 then go np ls (.long (if 0 < x then x else -x) :: r) h else none
  | _ => none
/-- a call: the callee's number, its arguments, and where it goes on -/
def o_call (np y n : Nat) (vt : Bool) (ls : List (Option Value)) (st : List Value) (h : PH) : Option PSt :=
  if (st.take n).length = n ∧ catS (st.drop n) ≤ 11 then
    (if vt then match st.drop n with
      | .ref k :: r => if okp h k (mO y) && (decide (catS r ≤ 8) && decide ((entS (.ref k :: (st.take n).reverse)).length ≤ mL y)) then some (.inr (.inr (y, .ref k :: (st.take n).reverse, np, ls, r, h))) else none
      | _ => none
    else if catS (st.drop n) ≤ 8 ∧ (entS (st.take n).reverse).length ≤ mL y then some (.inr (.inr (y, (st.take n).reverse, np, ls, st.drop n, h))) else none)
  else none
def o_iret (rt : Option FieldType) (st : List Value) (h : PH) : Option PSt := match st, rt with
  | [.int x], some .int => some (.inl (some (.int x), h))
  | [.int x], some .boolean => if vp_nar .boolean x = x then some (.inl (some (.int x), h)) else none
  | _, _ => none
def o_lret (rt : Option FieldType) (st : List Value) (h : PH) : Option PSt := match st, rt with
  | [.long x], some .long => some (.inl (some (.long x), h))
  | _, _ => none
def o_vret (rt : Option FieldType) (st : List Value) (h : PH) : Option PSt := match st, rt with
  | [], none => some (.inl (none, h))
  | _, _ => none
def opr (sc : Nat × (Nat → Int32)) (rt : Option FieldType) (pc : Nat) (e : E5) (ls : List (Option Value)) (st : List Value) (h : PH) : Option PSt := match e with
  | (i, np, a, b, v) => match i with
    | .iload _ => o_ldI np a ls st h
    | .iload_n _ => o_ldI np a ls st h
    | .lload _ => o_ldL np a ls st h
    | .lload_n _ => o_ldL np a ls st h
    | .aload _ => o_ldA np a ls st h
    | .aload_n _ => o_ldA np a ls st h
    | .istore _ => o_stI np a ls st h
    | .istore_n _ => o_stI np a ls st h
    | .lstore _ => o_stL np a ls st h
    | .lstore_n _ => o_stL np a ls st h
    | .astore _ => o_stA np a ls st h
    | .astore_n _ => o_stA np a ls st h
    | .iinc _ _ => o_inc np a v ls st h
    | .iconst _ => o_push np v ls st h
    | .bipush _ => o_push np v ls st h
    | .sipush _ => o_push np v ls st h
    | .lconst _ => o_push np v ls st h
    | .ldc _ => o_push np v ls st h
    | .ldc_w _ => o_push np v ls st h
    | .ldc2_w _ => o_push np v ls st h
    | .iadd => o_ii (fun x y => x + y) np ls st h
    | .isub => o_ii (fun x y => x - y) np ls st h
    | .imul => o_ii (fun x y => x * y) np ls st h
    | .iand => o_ii (fun x y => x &&& y) np ls st h
    | .ior => o_ii (fun x y => x ||| y) np ls st h
    | .ishl => o_ii (fun x y => x <<< (y &&& 31)) np ls st h
    | .ishr => o_ii (fun x y => x >>> (y &&& 31)) np ls st h
    | .iushr => o_ii (fun x y => (x.toUInt32 >>> (y.toUInt32 &&& Int32.toUInt32 31)).toInt32) np ls st h
    | .idiv => o_iiz (fun x y => x / y) np ls st h
    | .irem => o_iiz (fun x y => x - x / y * y) np ls st h
    | .ineg => o_i (fun x => -x) np ls st h
    | .i2b => o_i (fun x => x.toInt8.toInt32) np ls st h
    | .ladd => o_ll (fun x y => x + y) np ls st h
    | .lsub => o_ll (fun x y => x - y) np ls st h
    | .lmul => o_ll (fun x y => x * y) np ls st h
    | .land => o_ll (fun x y => x &&& y) np ls st h
    | .lor => o_ll (fun x y => x ||| y) np ls st h
    | .ldiv => o_llz (fun x y => x / y) np ls st h
    | .lrem => o_llz (fun x y => x - x / y * y) np ls st h
    | .lneg => o_l (fun x => -x) np ls st h
    | .lshl => o_li (fun x y => x <<< (y.toInt64 &&& 63)) np ls st h
    | .lushr => o_li (fun x y => (x.toUInt64 >>> (y.toInt64.toUInt64 &&& Int64.toUInt64 63)).toInt64) np ls st h
    | .i2l => o_i2l np ls st h
    | .l2i => o_l2i np ls st h
    | .lcmp => o_cmp np ls st h
    | .ifCond c _ => o_if c np a ls st h
    | .if_icmp c _ => o_icmp c np a ls st h
    | .goto _ => go a ls st h
    | .tableswitch d lo hi offs => o_sw pc d lo hi offs ls st h
    | .iaload => o_iald sc np ls st h
    | .baload => o_bald np ls st h
    | .laload => o_lald np ls st h
    | .aaload => o_aald np ls st h
    | .iastore => o_iast np ls st h
    | .bastore => o_bast np ls st h
    | .lastore => o_last np ls st h
    | .aastore => o_aast np ls st h
    | .arraylength => o_alen sc np ls st h
    | .new _ => o_new np a ls st h
    | .newarray _ => o_newa np a ls st h
    | .anewarray _ => o_newa np a ls st h
    | .dup => o_dup np ls st h
    | .dup2 => o_dup2 np ls st h
    | .dup_x2 => o_dupx2 np ls st h
    | .getfield _ => o_getf np a b v ls st h
    | .putfield _ => o_putf np a b v ls st h
    | .getstatic _ => if a < 4 then go np ls (.ref (1000 + a) :: st) h else none
    | .invokevirtual _ => o_call np a b true ls st h
    | .invokestatic _ => if a = 9001 then o_copy np ls st h else if 9002 ≤ a then o_mat a np ls st h else o_call np a b false ls st h
    | .invokespecial _ => if a = 9000 then o_obj np ls st h else o_call np a b true ls st h
    | .ireturn => o_iret rt st h
    | .lreturn => o_lret rt st h
    | .return_ => o_vret rt st h
    | _ => none
def stp (sc : Nat × (Nat → Int32)) (y : Nat) (c : PC) : Option PSt := match c with
  | (pc, ls, st, h) => match look (insT y) pc with
    | some e => opr sc (mR y) pc e ls st h
    | none => none
def entL (args : List Value) (n : Nat) : List (Option Value) := entS args ++ List.replicate (n - (entS args).length) none
def ent0 (y : Nat) (args : List Value) (h : PH) : PC := (0, entL args (mL y), [], h)
def exec (sc : Nat × (Nat → Int32)) : Nat → Nat → Nat → PC → Option PRes
  | 0, _, _, _ => none
  | f + 1, d, y, c => match stp sc y c with
    | none => none
    | some (.inl r) => some r
    | some (.inr (.inl c')) => exec sc f d y c'
    | some (.inr (.inr (y', args, pc, ls, st, h))) => match d with
      | 0 => none
      | d' + 1 => match exec sc f d' y' (ent0 y' args h) with
        | none => none
        | some (v, h') => exec sc f (d' + 1) y (pc, ls, v.toList ++ st, h')
