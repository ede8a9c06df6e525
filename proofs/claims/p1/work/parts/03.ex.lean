/-! ===== THE INTERPRETER: frames of our own over the kit's instructions, values with virtual addresses (.ref k: the k-th cell that the law's run has made; .float u: u < 100 the script's u-th int, else a constant that was there before) ===== -/
abbrev gW : Type := List (Nat × List Value)
abbrev gL : Type := List (Nat × Value)
abbrev gF : Type := List (Nat × Int32 × Int32)
def gGet (ls : gL) (i : Nat) : Option Value := match ls with
  | [] => none
  | q :: t => bif Nat.beq q.1 i then some q.2 else gGet t i
def gIsI (v : Value) : Bool := match v with
  | .int _ => true
  | .float u => Nat.ble (u.toNat + 1) 100
  | _ => false
def gIsR (v : Value) : Bool := match v with
  | .null => true
  | .ref _ => true
  | .float u => Nat.ble 100 u.toNat
  | _ => false
def gLook (F : gF) (i : Nat) : Option (Int32 × Int32) := match F with
  | [] => none
  | q :: t => bif Nat.beq q.1 i then some q.2 else gLook t i
def gRng (F : gF) (v : Value) : Option (Int32 × Int32) := match v with
  | .int a => some (a, a)
  | .float u => gLook F u.toNat
  | _ => none
def gLt (a b p q : Int32) : Option Bool := if b < p then some true else if q ≤ a then some false else none
def gEq (a b p q : Int32) : Option Bool := if b < p then some false else if q < a then some false else if a = b then (if p = q then (if a = p then some true else none) else none) else none
def gCmp2 (c : Jvm.ClassFile.Cond) (a b p q : Int32) : Option Bool := match c with
  | .lt => gLt a b p q
  | .ge => (gLt a b p q).map not
  | .gt => gLt p q a b
  | .le => (gLt p q a b).map not
  | .eq => gEq a b p q
  | .ne => (gEq a b p q).map not
def gCmp (F : gF) (c : Jvm.ClassFile.Cond) (x y : Value) : Option Bool := match gRng F x with
  | none => none
  | some r => match gRng F y with
    | none => none
    | some t => gCmp2 c r.1 r.2 t.1 t.2
def gIs2 (v : Value) : Bool := match v with
  | .long _ => true
  | .double _ => true
  | _ => false
/-- the list without place i, nor what stands before it in two places -/
def gDel (ls : gL) (i : Nat) : gL := match ls with
  | [] => []
  | q :: t => bif Nat.beq q.1 i then gDel t i else bif Nat.beq (q.1 + 1) i && gIs2 q.2 then gDel t i else q :: gDel t i
theorem gDel_eq (i : Nat) : ∀ ls : gL, gDel ls i = ls.filter (fun q => !(q.1 == i) && !(q.1 + 1 == i && q.2.category == 2))
  | [] => rfl
  | q :: t => by
    have h2 : gIs2 q.2 = (q.2.category == 2) := by cases q.2 <;> rfl
    have hb : ∀ a b : Nat, Nat.beq a b = (a == b) := fun a b => by
      cases h : Nat.beq a b with
      | true => rw [Nat.eq_of_beq_eq_true h]; simp
      | false => symm; apply beq_eq_false_iff_ne.mpr; intro e; rw [e, Nat.beq_refl] at h; cases h
    unfold gDel
    rw [List.filter_cons, gDel_eq i t, hb, hb, h2]
    cases h1 : (q.1 == i) <;> cases h3 : (q.1 + 1 == i) <;> cases h4 : (q.2.category == 2) <;> simp
def gSt1 (ls : gL) (i : Nat) (v : Value) : gL := (i, v) :: gDel ls i
def gSt2 (ls : gL) (i : Nat) (v : Value) : gL := (i, v) :: gDel (gDel ls (i + 1)) i
abbrev gP : Type := Option (Nat × gL × List Value)
def gPush (n : Nat) (v : Value) (ls : gL) (st : List Value) : gP := some (n, ls, v :: st)
def gLdI (n i : Nat) (ls : gL) (st : List Value) : gP := match gGet ls i with
  | none => none
  | some v => bif gIsI v then some (n, ls, v :: st) else none
def gLdR (n i : Nat) (ls : gL) (st : List Value) : gP := match gGet ls i with
  | none => none
  | some v => bif gIsR v then some (n, ls, v :: st) else none
def gLdL (n i : Nat) (ls : gL) (st : List Value) : gP := match gGet ls i with
  | some (.long x) => some (n, ls, .long x :: st)
  | _ => none
def gLdD (n i : Nat) (ls : gL) (st : List Value) : gP := match gGet ls i with
  | some (.double x) => some (n, ls, .double x :: st)
  | _ => none
def gStI (n i nL : Nat) (ls : gL) (st : List Value) : gP := match st with
  | v :: r => bif gIsI v && Nat.ble (i + 1) nL then some (n, gSt1 ls i v, r) else none
  | _ => none
def gStR (n i nL : Nat) (ls : gL) (st : List Value) : gP := match st with
  | v :: r => bif gIsR v && Nat.ble (i + 1) nL then some (n, gSt1 ls i v, r) else none
  | _ => none
def gStL (n i nL : Nat) (ls : gL) (st : List Value) : gP := match st with
  | .long x :: r => bif Nat.ble (i + 2) nL then some (n, gSt2 ls i (.long x), r) else none
  | _ => none
def gStD (n i nL : Nat) (ls : gL) (st : List Value) : gP := match st with
  | .double x :: r => bif Nat.ble (i + 2) nL then some (n, gSt2 ls i (.double x), r) else none
  | _ => none
def gInc (i nL : Nat) (d : Int) (ls : gL) (st : List Value) : gP := match gGet ls i with
  | some (.int x) => bif Nat.ble (i + 1) nL then some (3, gSt1 ls i (.int (x + Int32.ofInt d)), st) else none
  | _ => none
def gBin (f : Int32 → Int32 → Int32) (ls : gL) (st : List Value) : gP := match st with
  | .int y :: .int x :: r => some (1, ls, .int (f x y) :: r)
  | _ => none
def gAnd (kk : Int32) (ls : gL) (st : List Value) : gP := match st with
  | .int y :: .int x :: r => some (1, ls, .int (x &&& y) :: r)
  | .int y :: .float u :: r => if y = 31 then (bif Nat.beq u.toNat 0 then some (1, ls, .int kk :: r) else none) else none
  | _ => none
def gDiv (ls : gL) (st : List Value) : gP := match st with
  | .int y :: .int x :: r => if y = 0 then none else some (1, ls, .int (x / y) :: r)
  | _ => none
def gBinL (f : Int64 → Int64 → Int64) (ls : gL) (st : List Value) : gP := match st with
  | .long y :: .long x :: r => some (1, ls, .long (f x y) :: r)
  | _ => none
def gLcmp (ls : gL) (st : List Value) : gP := match st with
  | .long y :: .long x :: r => some (1, ls, .int (lg_cmp x y) :: r)
  | _ => none
def gDcmp (op : CmpOp) (ls : gL) (st : List Value) : gP := match st with
  | .double y :: .double x :: r => some (1, ls, .int (Op.cmpValue (FP.dcmp x y) op) :: r)
  | _ => none
def gI2l (ls : gL) (st : List Value) : gP := match st with
  | .int x :: r => some (1, ls, .long x.toInt64 :: r)
  | _ => none
def gDup (ls : gL) (st : List Value) : gP := match st with
  | v :: r => bif Nat.beq v.category 1 then some (1, ls, v :: v :: r) else none
  | _ => none
def gPop (ls : gL) (st : List Value) : gP := match st with
  | v :: r => bif Nat.beq v.category 1 then some (1, ls, r) else none
  | _ => none
def gDupX (ls : gL) (st : List Value) : gP := match st with
  | v :: z :: r => bif Nat.beq v.category 1 && Nat.beq z.category 1 then some (1, ls, v :: z :: v :: r) else none
  | _ => none
/-- what touches the stack and the locals alone: length, locals, stack -/
def gPure (kk : Int32) (nL : Nat) (ins : Instr) (ls : gL) (st : List Value) : gP := match ins with
  | .iconst n => gPush 1 (.int (Int32.ofInt n)) ls st
  | .bipush n => gPush 2 (.int (Int8.ofInt n).toInt32) ls st
  | .sipush n => gPush 3 (.int (Int16.ofInt n).toInt32) ls st
  | .lconst n => gPush 1 (.long (Int64.ofNat n)) ls st
  | .dconst n => bif Nat.beq n.val 0 then gPush 1 (.double FP.dconst0) ls st else none
  | .iload_n n => gLdI 1 n.val ls st
  | .iload n => gLdI 2 n ls st
  | .aload_n n => gLdR 1 n.val ls st
  | .aload n => gLdR 2 n ls st
  | .lload_n n => gLdL 1 n.val ls st
  | .lload n => gLdL 2 n ls st
  | .dload n => gLdD 2 n ls st
  | .istore_n n => gStI 1 n.val nL ls st
  | .istore n => gStI 2 n nL ls st
  | .astore_n n => gStR 1 n.val nL ls st
  | .astore n => gStR 2 n nL ls st
  | .lstore_n n => gStL 1 n.val nL ls st
  | .lstore n => gStL 2 n nL ls st
  | .dstore n => gStD 2 n nL ls st
  | .iinc i d => gInc i nL d ls st
  | .iadd => gBin (fun x y => x + y) ls st
  | .isub => gBin (fun x y => x - y) ls st
  | .imul => gBin (fun x y => x * y) ls st
  | .iand => gAnd kk ls st
  | .ior => gBin (fun x y => x ||| y) ls st
  | .ixor => gBin (fun x y => x ^^^ y) ls st
  | .ishl => gBin (fun x y => x <<< (y &&& 31)) ls st
  | .ishr => gBin (fun x y => x >>> (y &&& 31)) ls st
  | .iushr => gBin (fun x y => (x.toUInt32 >>> (y.toUInt32 &&& Int32.toUInt32 31)).toInt32) ls st
  | .idiv => gDiv ls st
  | .ladd => gBinL (fun x y => x + y) ls st
  | .lmul => gBinL (fun x y => x * y) ls st
  | .lcmp => gLcmp ls st
  | .dcmp op => gDcmp op ls st
  | .i2l => gI2l ls st
  | .dup => gDup ls st
  | .pop => gPop ls st
  | .dup_x1 => gDupX ls st
  | _ => none
abbrev gB : Type := Option (Nat × Bool × Int × List Value)
def gIf (F : gF) (c : Jvm.ClassFile.Cond) (off : Int) (st : List Value) : gB := match st with
  | x :: r => match gCmp F c x (.int 0) with
    | none => none
    | some b => some (3, b, off, r)
  | _ => none
def gIcmp (F : gF) (c : Jvm.ClassFile.Cond) (off : Int) (st : List Value) : gB := match st with
  | y :: x :: r => match gCmp F c x y with
    | none => none
    | some b => some (3, b, off, r)
  | _ => none
def gAcmp (off : Int) (st : List Value) : gB := match st with
  | .float u :: .float t :: r => bif Nat.beq u.toNat t.toNat && Nat.ble 100 u.toNat then some (3, true, off, r) else none
  | _ => none
def gNull (off : Int) (st : List Value) : gB := match st with
  | .null :: r => some (3, true, off, r)
  | .ref _ :: r => some (3, false, off, r)
  | _ => none
def gSw (F : gF) (d lo hi : Int) (offs : Array Int) (len : Nat) (st : List Value) : gB := match st with
  | .int x :: r => if x.toInt < lo then some (len, true, d, r) else if hi < x.toInt then some (len, true, d, r) else match offs.toList[(x.toInt - lo).toNat]? with
    | none => none
    | some o => some (len, true, o, r)
  | .float u :: r => match gLook F u.toNat with
    | none => none
    | some q => if q.2.toInt < lo then some (len, true, d, r) else if hi < q.1.toInt then some (len, true, d, r) else none
  | _ => none
/-- jumps: length, whether, how far, stack -/
def gBr (F : gF) (len : Nat) (ins : Instr) (st : List Value) : gB := match ins with
  | .goto off => some (3, true, off, st)
  | .ifCond c off => gIf F c off st
  | .if_icmp c off => gIcmp F c off st
  | .if_acmp c off => match c with
    | .eq => gAcmp off st
    | .ne => none
  | .ifnull off => gNull off st
  | .tableswitch d lo hi offs => gSw F d lo hi offs len st
  | _ => none
