/-! THE ABSTRACT MACHINE: the same instructions over a world of fixed cells. Its state: ints (cell, place), longs (cell, place), references (cell, field). A reference is a cell's number; from 1000 on: a String constant. -/
abbrev aH : Type := (Nat → Nat → Int32) × (Nat → Nat → Int64) × (Nat → Nat → Nat)
/-- an instruction of a method: its pc, itself, its length, two numbers that say what it names -/
abbrev aEn : Type := Nat × Instr × Nat × Nat × Nat
abbrev aOut : Type := Sum (Option Value) Nat
def a2 {α : Type} (f : Nat → Nat → α) (k i : Nat) (v : α) : Nat → Nat → α := fun k' => if k' = k then (fun i' => if i' = i then v else f k' i') else f k'
def aLk (L : List (Nat × Value)) (i : Nat) : Option Value := (L.find? (fun q => q.1 == i)).map (·.2)
def aSt1 (L : List (Nat × Value)) (i : Nat) (v : Value) : List (Nat × Value) := (i, v) :: L.filter (fun q => !(q.1 == i) && !(q.1 + 1 == i && q.2.category == 2))
def aSt2 (L : List (Nat × Value)) (i : Nat) (v : Value) : List (Nat × Value) := (i, v) :: L.filter (fun q => !(q.1 == i) && (!(q.1 == i + 1) && !(q.1 + 1 == i && q.2.category == 2)))
def aLcmp (x y : Int64) : Int32 := if x < y then -1 else if x = y then 0 else 1
/-- a simple step (no heap, no call): whether it jumps, the locals, the stack -/
def aS0 (ins : Instr) (len nL : Nat) (L : List (Nat × Value)) (st : List Value) : Option (Bool × List (Nat × Value) × List Value) :=
  match ins with
  | .iconst n => if len = 1 then some (false, L, .int (Int32.ofInt n) :: st) else none
  | .bipush n => if len = 2 then some (false, L, .int (Int8.ofInt n).toInt32 :: st) else none
  | .sipush n => if len = 3 then some (false, L, .int (Int16.ofInt n).toInt32 :: st) else none
  | .lconst n => if len = 1 then some (false, L, .long (Int64.ofNat n) :: st) else none
  | .aconst_null => if len = 1 then some (false, L, .null :: st) else none
  | .iload i => if len = 2 then (match aLk L i with | some (.int x) => some (false, L, .int x :: st) | _ => none) else none
  | .iload_n n => if len = 1 then (match aLk L n.val with | some (.int x) => some (false, L, .int x :: st) | _ => none) else none
  | .lload i => if len = 2 then (match aLk L i with | some (.long x) => some (false, L, .long x :: st) | _ => none) else none
  | .lload_n n => if len = 1 then (match aLk L n.val with | some (.long x) => some (false, L, .long x :: st) | _ => none) else none
  | .aload i => if len = 2 then (match aLk L i with | some (.ref x) => some (false, L, .ref x :: st) | _ => none) else none
  | .aload_n n => if len = 1 then (match aLk L n.val with | some (.ref x) => some (false, L, .ref x :: st) | _ => none) else none
  | .istore i => if len = 2 then (match st with | .int x :: r => if i < nL then some (false, aSt1 L i (.int x), r) else none | _ => none) else none
  | .istore_n n => if len = 1 then (match st with | .int x :: r => if n.val < nL then some (false, aSt1 L n.val (.int x), r) else none | _ => none) else none
  | .astore i => if len = 2 then (match st with | .ref x :: r => if i < nL then some (false, aSt1 L i (.ref x), r) else none | _ => none) else none
  | .astore_n n => if len = 1 then (match st with | .ref x :: r => if n.val < nL then some (false, aSt1 L n.val (.ref x), r) else none | _ => none) else none
  | .lstore i => if len = 2 then (match st with | .long x :: r => if i + 1 < nL then some (false, aSt2 L i (.long x), r) else none | _ => none) else none
  | .lstore_n n => if len = 1 then (match st with | .long x :: r => if n.val + 1 < nL then some (false, aSt2 L n.val (.long x), r) else none | _ => none) else none
  | .iinc i n => if len = 3 then (match aLk L i with | some (.int x) => if i < nL then some (false, aSt1 L i (.int (x + Int32.ofInt n)), st) else none | _ => none) else none
  | .iadd => if len = 1 then (match st with | .int y :: .int x :: r => some (false, L, .int (x + y) :: r) | _ => none) else none
  | .isub => if len = 1 then (match st with | .int y :: .int x :: r => some (false, L, .int (x - y) :: r) | _ => none) else none
  | .imul => if len = 1 then (match st with | .int y :: .int x :: r => some (false, L, .int (x * y) :: r) | _ => none) else none
  | .iand => if len = 1 then (match st with | .int y :: .int x :: r => some (false, L, .int (x &&& y) :: r) | _ => none) else none
  | .ior => if len = 1 then (match st with | .int y :: .int x :: r => some (false, L, .int (x ||| y) :: r) | _ => none) else none
  | .ixor => if len = 1 then (match st with | .int y :: .int x :: r => some (false, L, .int (x ^^^ y) :: r) | _ => none) else none
  | .ishl => if len = 1 then (match st with | .int y :: .int x :: r => some (false, L, .int (x <<< (y &&& 31)) :: r) | _ => none) else none
  | .ishr => if len = 1 then (match st with | .int y :: .int x :: r => some (false, L, .int (x >>> (y &&& 31)) :: r) | _ => none) else none
  | .iushr => if len = 1 then (match st with | .int y :: .int x :: r => some (false, L, .int ((x.toUInt32 >>> (y.toUInt32 &&& Int32.toUInt32 31)).toInt32) :: r) | _ => none) else none
  | .idiv => if len = 1 then (match st with | .int y :: .int x :: r => if y = 0 then none else some (false, L, .int (x / y) :: r) | _ => none) else none
  | .irem => if len = 1 then (match st with | .int y :: .int x :: r => if y = 0 then none else some (false, L, .int (x - x / y * y) :: r) | _ => none) else none
  | .ladd => if len = 1 then (match st with | .long y :: .long x :: r => some (false, L, .long (x + y) :: r) | _ => none) else none
  | .lsub => if len = 1 then (match st with | .long y :: .long x :: r => some (false, L, .long (x - y) :: r) | _ => none) else none
  | .lmul => if len = 1 then (match st with | .long y :: .long x :: r => some (false, L, .long (x * y) :: r) | _ => none) else none
  | .land => if len = 1 then (match st with | .long y :: .long x :: r => some (false, L, .long (x &&& y) :: r) | _ => none) else none
  | .lor => if len = 1 then (match st with | .long y :: .long x :: r => some (false, L, .long (x ||| y) :: r) | _ => none) else none
  | .lxor => if len = 1 then (match st with | .long y :: .long x :: r => some (false, L, .long (x ^^^ y) :: r) | _ => none) else none
  | .ldiv => if len = 1 then (match st with | .long y :: .long x :: r => if y = 0 then none else some (false, L, .long (x / y) :: r) | _ => none) else none
  | .lshl => if len = 1 then (match st with | .int y :: .long x :: r => some (false, L, .long (x <<< (y.toInt64 &&& 63)) :: r) | _ => none) else none
  | .lshr => if len = 1 then (match st with | .int y :: .long x :: r => some (false, L, .long (x >>> (y.toInt64 &&& 63)) :: r) | _ => none) else none
  | .lushr => if len = 1 then (match st with | .int y :: .long x :: r => some (false, L, .long ((x.toUInt64 >>> (y.toInt64.toUInt64 &&& Int64.toUInt64 63)).toInt64) :: r) | _ => none) else none
  | .ineg => if len = 1 then (match st with | .int x :: r => some (false, L, .int (-x) :: r) | _ => none) else none
  | .lneg => if len = 1 then (match st with | .long x :: r => some (false, L, .long (-x) :: r) | _ => none) else none
  | .i2l => if len = 1 then (match st with | .int x :: r => some (false, L, .long (x.toInt64) :: r) | _ => none) else none
  | .l2i => if len = 1 then (match st with | .long x :: r => some (false, L, .int (x.toInt32) :: r) | _ => none) else none
  | .i2b => if len = 1 then (match st with | .int x :: r => some (false, L, .int (x.toInt8.toInt32) :: r) | _ => none) else none
  | .i2c => if len = 1 then (match st with | .int x :: r => some (false, L, .int ((x.toUInt32 % 65536).toInt32) :: r) | _ => none) else none
  | .lcmp => if len = 1 then (match st with | .long y :: .long x :: r => some (false, L, .int (aLcmp x y) :: r) | _ => none) else none
  | .dup => if len = 1 then (match st with | a :: r => if a.category = 1 then some (false, L, a :: a :: r) else none | _ => none) else none
  | .dup_x1 => if len = 1 then (match st with | a :: b :: r => if a.category = 1 ∧ b.category = 1 then some (false, L, a :: b :: a :: r) else none | _ => none) else none
  | .pop => if len = 1 then (match st with | a :: r => if a.category = 1 then some (false, L, r) else none | _ => none) else none
  | .pop2 => if len = 1 then (match st with | a :: r => if a.category = 2 then some (false, L, r) else none | _ => none) else none
  | .dup2 => if len = 1 then (match st with | a :: b :: r => if a.category = 1 ∧ b.category = 1 then some (false, L, a :: b :: a :: b :: r) else if a.category = 2 then some (false, L, a :: a :: b :: r) else none | [a] => if a.category = 2 then some (false, L, [a, a]) else none | _ => none) else none
  | .goto off => if len = 3 then some (true, L, st) else none
  | .if_icmp cnd off => if len = 3 then (match st with | .int y :: .int x :: r => (match cnd with | .eq => some (decide (x = y), L, r) | .ne => some (decide (¬ x = y), L, r) | .lt => some (decide (x < y), L, r) | .ge => some (decide (y ≤ x), L, r) | .gt => some (decide (y < x), L, r) | .le => some (decide (x ≤ y), L, r)) | _ => none) else none
  | .ifCond cnd off => if len = 3 then (match st with | .int x :: r => (match cnd with | .eq => some (decide (x = 0), L, r) | .ne => some (decide (¬ x = 0), L, r) | .lt => some (decide (x < 0), L, r) | .ge => some (decide (0 ≤ x), L, r) | .gt => some (decide (0 < x), L, r) | .le => some (decide (x ≤ 0), L, r)) | _ => none) else none
  | _ => none
