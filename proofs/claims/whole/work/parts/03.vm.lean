/-! A machine of our own: what a method of the program does to a world of numbered objects. A world: how many objects there are; of each its kind (a class, or 20 int[], 21 byte[], 22 boolean[], 23 long[]), its fields that are references (0 null, i + 1 object i), its length; how many slots were made; then its int fields, long fields, int contents, long contents. -/
abbrev vmS : Type := Nat × (Nat → Nat) × (Nat → Nat → Nat) × (Nat → Nat) × Nat
abbrev vmD : Type := (Nat → Nat → Int32) × (Nat → Nat → Int64) × (Nat → Nat → Int32) × (Nat → Nat → Int64)
abbrev vmW : Type := vmS × vmD
abbrev vmL : Type := List (Nat × Value)
abbrev vmR : Type := Option Value ⊕ ((Nat × List Value × List Value) ⊕ Option (Nat × vmL × List Value × vmW))
def up2 {α : Type} (f : Nat → Nat → α) (o k : Nat) (v : α) : Nat → Nat → α := fun o' k' => if o' = o ∧ k' = k then v else f o' k'
def up1 {α : Type} (f : Nat → α) (o : Nat) (v : α) : Nat → α := fun o' => if o' = o then v else f o'
def upz {α : Type} (f : Nat → Nat → α) (o : Nat) (v : α) : Nat → Nat → α := fun o' k' => if o' = o then v else f o' k'
/-- references outside the world: 1000 the script, 2000 + i the text i -/
def vmBase : Nat := 2000
def vmGet (lo : vmL) (i : Nat) : Option Value := match lo with
  | [] => none
  | q :: lo => bif Nat.beq q.1 i then some q.2 else vmGet lo i
def vmSet1 (lo : vmL) (i : Nat) (v : Value) : vmL := (i, v) :: lo.filter (fun q => !(q.1 == i) && !(q.1 + 1 == i && q.2.category == 2))
def vmSet2 (lo : vmL) (i : Nat) (v : Value) : vmL := (i, v) :: lo.filter (fun q => !(q.1 == i) && (!(q.1 == i + 1) && !(q.1 + 1 == i && q.2.category == 2)))
/-- a field's value -/
noncomputable def vmFv (w : vmW) (c o k : Nat) : Value := match cTy c k with
  | .int => .int (w.2.1 o k)
  | .boolean => .int (w.2.1 o k)
  | .long => .long (w.2.2.1 o k)
  | _ => match w.1.2.2.1 o k with
    | 0 => .null
    | i + 1 => .ref i
def vmCat (st : List Value) : Nat := match st with
  | [] => 0
  | v :: st => v.category + vmCat st
def vmAt (ty : ArrayType) : Option (Nat × FieldType) := match ty with
  | .int => some (20, .int)
  | .byte => some (21, .byte)
  | .boolean => some (22, .boolean)
  | .long => some (23, .long)
  | _ => none
def vmIx (c : Int32) : List Int32 → Nat → Int32
  | [], _ => -1
  | b :: l, k => if b = c then Int32.ofNat k else vmIx c l (k + 1)
def vmGo (pc : Nat) (lo : vmL) (w : vmW) (st : List Value) : vmR := .inr (.inr (some (pc, lo, st, w)))
def vmNo : vmR := .inr (.inr none)
/-- whether the objects of a world bear it that way -/
def vmIs (w : vmW) (o kind : Nat) : Bool := Nat.blt o w.1.1 && Nat.beq (w.1.2.1 o) kind
noncomputable def vmPut (w : vmW) (c o k : Nat) (v : Value) : Option vmW := match cTy c k, v with
  | .int, .int x => some (w.1, (up2 w.2.1 o k x, w.2.2))
  | .boolean, .int x => if x = 0 ∨ x = 1 then some (w.1, (up2 w.2.1 o k x, w.2.2)) else none
  | .long, .long x => some (w.1, (w.2.1, up2 w.2.2.1 o k x, w.2.2.2))
  | .object _, .ref i => some ((w.1.1, w.1.2.1, up2 w.1.2.2.1 o k (i + 1), w.1.2.2.2), w.2)
  | .array _, .ref i => some ((w.1.1, w.1.2.1, up2 w.1.2.2.1 o k (i + 1), w.1.2.2.2), w.2)
  | _, _ => none
/-- a new object of a kind, of so many slots; as an array, of that length -/
def vmNew (w : vmW) (kind len : Nat) : vmW :=
  ((w.1.1 + 1, up1 w.1.2.1 w.1.1 kind, upz w.1.2.2.1 w.1.1 0, up1 w.1.2.2.2.1 w.1.1 len, w.1.2.2.2.2 + len), (upz w.2.1 w.1.1 0, upz w.2.2.1 w.1.1 0, upz w.2.2.2.1 w.1.1 0, upz w.2.2.2.2 w.1.1 0))
def vmCmp0 (c : Jvm.ClassFile.Cond) (x : Int32) : Bool := match c with
  | .eq => decide (x = 0)
  | .ne => decide (¬ x = 0)
  | .lt => decide (x < 0)
  | .ge => decide (0 ≤ x)
  | .gt => decide (0 < x)
  | .le => decide (x ≤ 0)
def vmCmp (c : Jvm.ClassFile.Cond) (x y : Int32) : Bool := match c with
  | .eq => decide (x = y)
  | .ne => decide (¬ x = y)
  | .lt => decide (x < y)
  | .ge => decide (y ≤ x)
  | .gt => decide (y < x)
  | .le => decide (x ≤ y)
def vmTab (pc : Nat) (d lo hi : Int) (offs : Array Int) (x : Int32) : Nat :=
  if x.toInt < lo ∨ hi < x.toInt then ((pc : Int) + d).toNat else ((pc : Int) + offs.getD (x.toInt - lo).toNat 0).toNat
def vmLook (pc : Nat) (d : Int) (ps : List (Int × Int)) (x : Int32) : Nat := ((pc : Int) + Op.lookupswitch.offset ps d x.toInt).toNat
/-- a call: the method, how many arguments (with the object, if it has one), the stack -/
noncomputable def vmCall (w : vmW) (k' : Nat) (inst : Bool) (st : List Value) : vmR :=
  bif Nat.ble (mArgs k' + (bif inst then 1 else 0)) st.length then
    let args := (st.take (mArgs k' + (bif inst then 1 else 0))).reverse
    let rest := st.drop (mArgs k' + (bif inst then 1 else 0))
    bif Nat.ble (vmCat rest) 8 && Nat.ble (lg_sl args).length (mL k') && (bif inst then (match args with | .ref o :: _ => vmIs w o (mC k') | _ => false) else true) then .inr (.inl (k', args, rest)) else vmNo
  else vmNo
noncomputable def vmInvoke (pc : Nat) (lo : vmL) (w : vmW) (r : Option (Nat × Nat × List Nat)) (st : List Value) : vmR := match r with
  | none => vmNo
  | some (kd, k', _) => match kd with
    | 0 => vmCall w k' false st
    | 1 => vmCall w k' false st
    | 2 => vmCall w k' true st
    | 3 => vmCall w k' true st
    | 4 => vmCall w k' true st
    | 5 => vmCall w k' true st
    | 6 => (match st with
      | .ref _ :: r => bif Nat.ble (vmCat r) 8 then vmGo (pc + 3) lo w r else vmNo
      | _ => vmNo)
    | 7 => (match st with
      | .ref q :: r => bif Nat.ble vmBase q && Nat.blt q (vmBase + 7) && Nat.ble (vmCat r) 8 then vmGo (pc + 3) lo w (.int (Int32.ofNat (sB (q - vmBase)).length) :: r) else vmNo
      | _ => vmNo)
    | 8 => (match st with
      | .int j :: .ref q :: r => bif Nat.ble vmBase q && Nat.blt q (vmBase + 7) && Nat.ble (vmCat r) 8 then (if ¬ (j < 0 ∨ (sB (q - vmBase)).length ≤ j.toNatClampNeg) then vmGo (pc + 3) lo w (.int ((sB (q - vmBase)).getD j.toNatClampNeg 0) :: r) else vmNo) else vmNo
      | _ => vmNo)
    | 9 => (match st with
      | .int c :: .ref q :: r => bif Nat.ble vmBase q && Nat.blt q (vmBase + 7) && Nat.ble (vmCat r) 8 then vmGo (pc + 3) lo w (.int (vmIx c (sB (q - vmBase)) 0) :: r) else vmNo
      | _ => vmNo)
    | 10 => (match st with
      | .int y :: .int x :: r => bif Nat.ble (vmCat r) 8 then vmGo (pc + 3) lo w (.int (if x < y then y else x) :: r) else vmNo
      | _ => vmNo)
    | 11 => (match st with
      | .int y :: .int x :: r => bif Nat.ble (vmCat r) 8 then vmGo (pc + 3) lo w (.int (if y < x then y else x) :: r) else vmNo
      | _ => vmNo)
    | 12 => (match st with
      | .int x :: r => bif Nat.ble (vmCat r) 8 then vmGo (pc + 3) lo w (.int (if 0 ≤ x then x else 0 - x) :: r) else vmNo
      | _ => vmNo)
    | _ => vmNo
/-- one instruction: an answer, or a call, or the next state (none: stuck) -/
noncomputable def vmAct (k : Nat) (i : Instr) (len : Nat) (cv : Int32) (tg pc : Nat) (lo : vmL) (st : List Value) (w : vmW) : vmR := match i with
  | .iconst _ => vmGo (pc + len) lo w (.int cv :: st)
  | .bipush _ => vmGo (pc + len) lo w (.int cv :: st)
  | .sipush _ => vmGo (pc + len) lo w (.int cv :: st)
  | .lconst d => vmGo (pc + len) lo w (.long (Int64.ofNat d.val) :: st)
  | .ldc j => (match rI (mC k) j with
    | some (v, _) => vmGo (pc + len) lo w (.int v :: st)
    | none => (match rS (mC k) j with
      | some (v, _) => vmGo (pc + len) lo w (.ref (vmBase + v) :: st)
      | none => vmNo))
  | .ldc_w j => (match rI (mC k) j with
    | some (v, _) => vmGo (pc + len) lo w (.int v :: st)
    | none => vmNo)
  | .ldc2_w j => (match rJ (mC k) j with
    | some (v, _) => vmGo (pc + len) lo w (.long v :: st)
    | none => vmNo)
  | .iload n => (match vmGet lo n with
    | some (.int x) => vmGo (pc + len) lo w (.int x :: st)
    | _ => vmNo)
  | .iload_n n => (match vmGet lo n.val with
    | some (.int x) => vmGo (pc + len) lo w (.int x :: st)
    | _ => vmNo)
  | .lload n => (match vmGet lo n with
    | some (.long x) => vmGo (pc + len) lo w (.long x :: st)
    | _ => vmNo)
  | .lload_n n => (match vmGet lo n.val with
    | some (.long x) => vmGo (pc + len) lo w (.long x :: st)
    | _ => vmNo)
  | .aload n => (match vmGet lo n with
    | some (.ref x) => vmGo (pc + len) lo w (.ref x :: st)
    | _ => vmNo)
  | .aload_n n => (match vmGet lo n.val with
    | some (.ref x) => vmGo (pc + len) lo w (.ref x :: st)
    | _ => vmNo)
  | .istore n => (match st with
    | .int x :: r => bif Nat.blt n (mL k) then vmGo (pc + len) (vmSet1 lo n (.int x)) w r else vmNo
    | _ => vmNo)
  | .istore_n n => (match st with
    | .int x :: r => bif Nat.blt n.val (mL k) then vmGo (pc + len) (vmSet1 lo n.val (.int x)) w r else vmNo
    | _ => vmNo)
  | .lstore n => (match st with
    | .long x :: r => bif Nat.blt (n + 1) (mL k) then vmGo (pc + len) (vmSet2 lo n (.long x)) w r else vmNo
    | _ => vmNo)
  | .lstore_n n => (match st with
    | .long x :: r => bif Nat.blt (n.val + 1) (mL k) then vmGo (pc + len) (vmSet2 lo n.val (.long x)) w r else vmNo
    | _ => vmNo)
  | .astore n => (match st with
    | .ref x :: r => bif Nat.blt n (mL k) then vmGo (pc + len) (vmSet1 lo n (.ref x)) w r else vmNo
    | _ => vmNo)
  | .astore_n n => (match st with
    | .ref x :: r => bif Nat.blt n.val (mL k) then vmGo (pc + len) (vmSet1 lo n.val (.ref x)) w r else vmNo
    | _ => vmNo)
  | .iinc n _ => (match vmGet lo n with
    | some (.int x) => bif Nat.blt n (mL k) then vmGo (pc + len) (vmSet1 lo n (.int (x + cv))) w st else vmNo
    | _ => vmNo)
  | .iadd => (match st with
    | .int y :: .int x :: r => vmGo (pc + len) lo w (.int (x + y) :: r)
    | _ => vmNo)
  | .isub => (match st with
    | .int y :: .int x :: r => vmGo (pc + len) lo w (.int (x - y) :: r)
    | _ => vmNo)
  | .imul => (match st with
    | .int y :: .int x :: r => vmGo (pc + len) lo w (.int (x * y) :: r)
    | _ => vmNo)
  | .iand => (match st with
    | .int y :: .int x :: r => vmGo (pc + len) lo w (.int (x &&& y) :: r)
    | _ => vmNo)
  | .ior => (match st with
    | .int y :: .int x :: r => vmGo (pc + len) lo w (.int (x ||| y) :: r)
    | _ => vmNo)
  | .ixor => (match st with
    | .int y :: .int x :: r => vmGo (pc + len) lo w (.int (x ^^^ y) :: r)
    | _ => vmNo)
  | .ishl => (match st with
    | .int y :: .int x :: r => vmGo (pc + len) lo w (.int (x <<< (y &&& 31)) :: r)
    | _ => vmNo)
  | .ishr => (match st with
    | .int y :: .int x :: r => vmGo (pc + len) lo w (.int (x >>> (y &&& 31)) :: r)
    | _ => vmNo)
  | .iushr => (match st with
    | .int y :: .int x :: r => vmGo (pc + len) lo w (.int (x.toUInt32 >>> (y.toUInt32 &&& Int32.toUInt32 31)).toInt32 :: r)
    | _ => vmNo)
  | .idiv => (match st with
    | .int y :: .int x :: r => if y = 0 then vmNo else vmGo (pc + len) lo w (.int (x / y) :: r)
    | _ => vmNo)
  | .irem => (match st with
    | .int y :: .int x :: r => if y = 0 then vmNo else vmGo (pc + len) lo w (.int (x - x / y * y) :: r)
    | _ => vmNo)
  | .ineg => (match st with
    | .int x :: r => vmGo (pc + len) lo w (.int (-x) :: r)
    | _ => vmNo)
  | .ladd => (match st with
    | .long y :: .long x :: r => vmGo (pc + len) lo w (.long (x + y) :: r)
    | _ => vmNo)
  | .lmul => (match st with
    | .long y :: .long x :: r => vmGo (pc + len) lo w (.long (x * y) :: r)
    | _ => vmNo)
  | .land => (match st with
    | .long y :: .long x :: r => vmGo (pc + len) lo w (.long (x &&& y) :: r)
    | _ => vmNo)
  | .lor => (match st with
    | .long y :: .long x :: r => vmGo (pc + len) lo w (.long (x ||| y) :: r)
    | _ => vmNo)
  | .ldiv => (match st with
    | .long y :: .long x :: r => if y = 0 then vmNo else vmGo (pc + len) lo w (.long (x / y) :: r)
    | _ => vmNo)
  | .lrem => (match st with
    | .long y :: .long x :: r => if y = 0 then vmNo else vmGo (pc + len) lo w (.long (x - x / y * y) :: r)
    | _ => vmNo)
  | .lshl => (match st with
    | .int y :: .long x :: r => vmGo (pc + len) lo w (.long (x <<< (y.toInt64 &&& 63)) :: r)
    | _ => vmNo)
  | .lshr => (match st with
    | .int y :: .long x :: r => vmGo (pc + len) lo w (.long (x >>> (y.toInt64 &&& 63)) :: r)
    | _ => vmNo)
  | .i2l => (match st with
    | .int x :: r => vmGo (pc + len) lo w (.long x.toInt64 :: r)
    | _ => vmNo)
  | .l2i => (match st with
    | .long x :: r => vmGo (pc + len) lo w (.int x.toInt32 :: r)
    | _ => vmNo)
  | .i2b => (match st with
    | .int x :: r => vmGo (pc + len) lo w (.int x.toInt8.toInt32 :: r)
    | _ => vmNo)
  | .i2c => (match st with
    | .int x :: r => vmGo (pc + len) lo w (.int (x.toUInt32 % 65536).toInt32 :: r)
    | _ => vmNo)
  | .i2s => (match st with
    | .int x :: r => vmGo (pc + len) lo w (.int x.toInt16.toInt32 :: r)
    | _ => vmNo)
  | .lcmp => (match st with
    | .long y :: .long x :: r => vmGo (pc + len) lo w (.int (lg_cmp x y) :: r)
    | _ => vmNo)
  | .dup => (match st with
    | v :: r => bif Nat.beq v.category 1 then vmGo (pc + len) lo w (v :: v :: r) else vmNo
    | _ => vmNo)
  | .pop => (match st with
    | v :: r => bif Nat.beq v.category 1 then vmGo (pc + len) lo w r else vmNo
    | _ => vmNo)
  | .ifCond c _ => (match st with
    | .int x :: r => vmGo (bif vmCmp0 c x then tg else pc + len) lo w r
    | _ => vmNo)
  | .if_icmp c _ => (match st with
    | .int y :: .int x :: r => vmGo (bif vmCmp c x y then tg else pc + len) lo w r
    | _ => vmNo)
  | .goto _ => vmGo tg lo w st
  | .tableswitch d a b offs => (match st with
    | .int x :: r => vmGo (vmTab pc d a b offs x) lo w r
    | _ => vmNo)
  | .lookupswitch d ps => (match st with
    | .int x :: r => vmGo (vmLook pc d ps.toList x) lo w r
    | _ => vmNo)
  | .getfield j => (match st, rF (mC k) j with
    | .ref o :: r, some (c, f, _) => bif vmIs w o c then vmGo (pc + len) lo w (vmFv w c o f :: r) else vmNo
    | _, _ => vmNo)
  | .putfield j => (match st, rF (mC k) j with
    | v :: .ref o :: r, some (c, f, _) => bif vmIs w o c && (!(cT c f).2.2.2 || (mInit k && Nat.beq c (mC k))) then (match vmPut w c o f v with
      | some w' => vmGo (pc + len) lo w' r
      | none => vmNo) else vmNo
    | _, _ => vmNo)
  | .iaload => (match st with
    | .int j :: .ref o :: r => bif vmIs w o 20 || (Nat.beq o 1000 && Nat.beq k 406) then (if ¬ (j < 0 ∨ w.1.2.2.2.1 o ≤ j.toNatClampNeg) then vmGo (pc + len) lo w (.int (w.2.2.2.1 o j.toNatClampNeg) :: r) else vmNo) else vmNo
    | _ => vmNo)
  | .baload => (match st with
    | .int j :: .ref o :: r => bif vmIs w o 21 || vmIs w o 22 then (if ¬ (j < 0 ∨ w.1.2.2.2.1 o ≤ j.toNatClampNeg) then vmGo (pc + len) lo w (.int (w.2.2.2.1 o j.toNatClampNeg) :: r) else vmNo) else vmNo
    | _ => vmNo)
  | .laload => (match st with
    | .int j :: .ref o :: r => bif vmIs w o 23 then (if ¬ (j < 0 ∨ w.1.2.2.2.1 o ≤ j.toNatClampNeg) then vmGo (pc + len) lo w (.long (w.2.2.2.2 o j.toNatClampNeg) :: r) else vmNo) else vmNo
    | _ => vmNo)
  | .iastore => (match st with
    | .int x :: .int j :: .ref o :: r => bif vmIs w o 20 then (if ¬ (j < 0 ∨ w.1.2.2.2.1 o ≤ j.toNatClampNeg) then vmGo (pc + len) lo (w.1, (w.2.1, w.2.2.1, up2 w.2.2.2.1 o j.toNatClampNeg x, w.2.2.2.2)) r else vmNo) else vmNo
    | _ => vmNo)
  | .bastore => (match st with
    | .int x :: .int j :: .ref o :: r => bif vmIs w o 21 then (if ¬ (j < 0 ∨ w.1.2.2.2.1 o ≤ j.toNatClampNeg) then vmGo (pc + len) lo (w.1, (w.2.1, w.2.2.1, up2 w.2.2.2.1 o j.toNatClampNeg (vp_nar .byte x), w.2.2.2.2)) r else vmNo)
      else bif vmIs w o 22 then (if ¬ (j < 0 ∨ w.1.2.2.2.1 o ≤ j.toNatClampNeg) then vmGo (pc + len) lo (w.1, (w.2.1, w.2.2.1, up2 w.2.2.2.1 o j.toNatClampNeg (vp_nar .boolean x), w.2.2.2.2)) r else vmNo) else vmNo
    | _ => vmNo)
  | .lastore => (match st with
    | .long x :: .int j :: .ref o :: r => bif vmIs w o 23 then (if ¬ (j < 0 ∨ w.1.2.2.2.1 o ≤ j.toNatClampNeg) then vmGo (pc + len) lo (w.1, (w.2.1, w.2.2.1, w.2.2.2.1, up2 w.2.2.2.2 o j.toNatClampNeg x)) r else vmNo) else vmNo
    | _ => vmNo)
  | .arraylength => (match st with
    | .ref o :: r => bif (vmIs w o 20 || (vmIs w o 21 || (vmIs w o 22 || vmIs w o 23))) || (Nat.beq o 1000 && Nat.beq k 406) then vmGo (pc + len) lo w (.int (Int32.ofNat (w.1.2.2.2.1 o)) :: r) else vmNo
    | _ => vmNo)
  | .newarray ty => (match st, vmAt ty with
    | .int n :: r, some (kind, _) => if (¬ n < 0 ∧ n.toNatClampNeg ≤ 65536) ∧ w.1.1 < 900 then vmGo (pc + len) lo (vmNew w kind n.toNatClampNeg) (.ref w.1.1 :: r) else vmNo
    | _, _ => vmNo)
  | .new j => (match rN (mC k) j with
    | some (c, _) => if w.1.1 < 900 then vmGo (pc + len) lo (vmNew w c (cF c)) (.ref w.1.1 :: st) else vmNo
    | none => vmNo)
  | .invokevirtual j => vmInvoke pc lo w (rM (mC k) j) st
  | .invokespecial j => vmInvoke pc lo w (rM (mC k) j) st
  | .invokestatic j => vmInvoke pc lo w (rM (mC k) j) st
  | .ireturn => (match st, mR k with
    | [.int x], some .int => .inl (some (.int x))
    | [.int x], some .boolean => if x = 0 ∨ x = 1 then .inl (some (.int x)) else vmNo
    | _, _ => vmNo)
  | .lreturn => (match st, mR k with
    | [.long x], some .long => .inl (some (.long x))
    | _, _ => vmNo)
  | .return_ => (match st, mR k with
    | [], none => .inl none
    | _, _ => vmNo)
  | _ => vmNo
noncomputable def vmRun : Nat → Nat → Nat → vmL → List Value → vmW → Option (Option Value × vmW)
  | 0, _, _, _, _, _ => none
  | n + 1, k, pc, lo, st, w => match mI k pc with
    | none => none
    | some (i, len, cv, tg) => match vmAct k i len cv tg pc lo st w with
      | .inl rv => some (rv, w)
      | .inr (.inl (k', args, rest)) => (match vmRun n k' 0 (lv_args 0 args) [] w with
        | some (rv, w') => vmRun n k (pc + 3) lo (rv.toList ++ rest) w'
        | none => none)
      | .inr (.inr (some (pc', lo', st', w'))) => vmRun n k pc' lo' st' w'
      | .inr (.inr none) => none
/-- what holds when a method has come to its end from here -/
def vmWp (k pc : Nat) (lo : vmL) (st : List Value) (w : vmW) (Q : Option Value → vmW → Prop) : Prop := ∃ n rv w', vmRun n k pc lo st w = some (rv, w') ∧ Q rv w'
theorem vmRun_more : ∀ (n m k pc : Nat) (lo : vmL) (st : List Value) (w : vmW) (r : Option Value × vmW), vmRun n k pc lo st w = some r → vmRun (n + m) k pc lo st w = some r := by
  intro n
  induction n with
  | zero => intro m k pc lo st w r h; simp [vmRun] at h
  | succ n ih =>
    intro m k pc lo st w r h
    rw [show n + 1 + m = (n + m) + 1 by omega]
    unfold vmRun at h ⊢
    cases hI : mI k pc with
    | none => rw [hI] at h; cases h
    | some q =>
      obtain ⟨i, len, cv, tg⟩ := q
      rw [hI] at h
      dsimp only at h ⊢
      cases hA : vmAct k i len cv tg pc lo st w with
      | inl rv => rw [hA] at h; exact h
      | inr x =>
        rw [hA] at h
        cases x with
        | inl c =>
          obtain ⟨k', args, rest⟩ := c
          dsimp only at h ⊢
          cases hC : vmRun n k' 0 (lv_args 0 args) [] w with
          | none => rw [hC] at h; cases h
          | some y =>
            obtain ⟨rv, w'⟩ := y
            rw [hC] at h
            rw [ih m _ _ _ _ _ _ hC]
            exact ih m _ _ _ _ _ _ h
        | inr c =>
          cases c with
          | none => cases h
          | some y =>
            obtain ⟨pc', lo', st', w'⟩ := y
            exact ih m _ _ _ _ _ _ h
theorem vmWp.one {k pc : Nat} {lo : vmL} {st : List Value} {w : vmW} {Q : Option Value → vmW → Prop} {i : Instr} {len : Nat} {cv : Int32} {tg pc' : Nat} {lo' : vmL} {st' : List Value} {w' : vmW} (hI : mI k pc = some (i, len, cv, tg)) (hA : vmAct k i len cv tg pc lo st w = vmGo pc' lo' w' st') (h : vmWp k pc' lo' st' w' Q) : vmWp k pc lo st w Q := by
  obtain ⟨n, rv, w2, h1, h2⟩ := h
  refine ⟨n + 1, rv, w2, ?_, h2⟩
  unfold vmRun
  rw [hI]
  dsimp only
  rw [hA]
  exact h1
theorem vmWp.call {k pc : Nat} {lo : vmL} {st : List Value} {w : vmW} {Q : Option Value → vmW → Prop} {i : Instr} {len : Nat} {cv : Int32} {tg k' : Nat} {args rest : List Value} (hI : mI k pc = some (i, len, cv, tg)) (hA : vmAct k i len cv tg pc lo st w = .inr (.inl (k', args, rest))) (h : vmWp k' 0 (lv_args 0 args) [] w (fun rv w' => vmWp k (pc + 3) lo (rv.toList ++ rest) w' Q)) : vmWp k pc lo st w Q := by
  obtain ⟨n, rv, w2, h1, m, rv3, w3, h3, h4⟩ := h
  refine ⟨n + m + 1, rv3, w3, ?_, h4⟩
  unfold vmRun
  rw [hI]
  dsimp only
  rw [hA]
  dsimp only
  rw [vmRun_more n m _ _ _ _ _ _ h1]
  dsimp only
  rw [Nat.add_comm n m]
  exact vmRun_more m n _ _ _ _ _ _ h3
theorem vmWp.ret {k pc : Nat} {lo : vmL} {st : List Value} {w : vmW} {Q : Option Value → vmW → Prop} {i : Instr} {len : Nat} {cv : Int32} {tg : Nat} {rv : Option Value} (hI : mI k pc = some (i, len, cv, tg)) (hA : vmAct k i len cv tg pc lo st w = .inl rv) (h : Q rv w) : vmWp k pc lo st w Q := by
  refine ⟨1, rv, w, ?_, h⟩
  unfold vmRun
  rw [hI]
  dsimp only
  rw [hA]
/-- some instructions in one go: no call, no answer -/
noncomputable def vmSteps : Nat → Nat → Nat → vmL → List Value → vmW → Option (Nat × vmL × List Value × vmW)
  | 0, _, pc, lo, st, w => some (pc, lo, st, w)
  | n + 1, k, pc, lo, st, w => match mI k pc with
    | none => none
    | some (i, len, cv, tg) => match vmAct k i len cv tg pc lo st w with
      | .inr (.inr (some (pc', lo', st', w'))) => vmSteps n k pc' lo' st' w'
      | _ => none
theorem vmWp.go (n : Nat) {k pc : Nat} {lo : vmL} {st : List Value} {w : vmW} {Q : Option Value → vmW → Prop} {pc' : Nat} {lo' : vmL} {st' : List Value} {w' : vmW} (hA : vmSteps n k pc lo st w = some (pc', lo', st', w')) (h : vmWp k pc' lo' st' w' Q) : vmWp k pc lo st w Q := by
  induction n generalizing pc lo st w with
  | zero =>
    unfold vmSteps at hA
    cases hA
    exact h
  | succ n ih =>
    unfold vmSteps at hA
    cases hI : mI k pc with
    | none => rw [hI] at hA; cases hA
    | some q =>
      obtain ⟨i, len, cv, tg⟩ := q
      rw [hI] at hA
      dsimp only at hA
      cases hB : vmAct k i len cv tg pc lo st w with
      | inl rv => rw [hB] at hA; cases hA
      | inr x =>
        rw [hB] at hA
        cases x with
        | inl c => cases hA
        | inr c =>
          cases c with
          | none => cases hA
          | some y =>
            obtain ⟨pc1, lo1, st1, w1⟩ := y
            exact vmWp.one hI hB (ih hA)
theorem vmWp.mono {k pc : Nat} {lo : vmL} {st : List Value} {w : vmW} {Q Q' : Option Value → vmW → Prop} (h : vmWp k pc lo st w Q) (hQ : ∀ rv w', Q rv w' → Q' rv w') : vmWp k pc lo st w Q' := by
  obtain ⟨n, rv, w', h1, h2⟩ := h
  exact ⟨n, rv, w', h1, hQ _ _ h2⟩
