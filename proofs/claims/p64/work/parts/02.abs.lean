/-! THE ABSTRACT MACHINE: the state is a tuple of maps (ints, references, longs, doubles, kinds), cells are numbers; a program is a list of tables. -/
/-- ints (also boolean, char, byte), references (0 is null), longs, doubles, kinds (kind, length), next number, slots used -/
abbrev qq_S : Type := (Nat → Nat → Int32) × (Nat → Nat → Nat) × (Nat → Nat → Int64) × (Nat → Nat → UInt64) × (Nat → Nat × Nat) × Nat × Nat
def rd_I (σ : qq_S) (a k : Nat) : Int32 := σ.1 a k
def rd_R (σ : qq_S) (a k : Nat) : Nat := σ.2.1 a k
def rd_L (σ : qq_S) (a k : Nat) : Int64 := σ.2.2.1 a k
def rd_D (σ : qq_S) (a k : Nat) : UInt64 := σ.2.2.2.1 a k
def kd_S (σ : qq_S) (a : Nat) : Nat × Nat := σ.2.2.2.2.1 a
def sz_S (σ : qq_S) : Nat := σ.2.2.2.2.2.1
def su_S (σ : qq_S) : Nat := σ.2.2.2.2.2.2
def up_2 {α : Type} (f : Nat → Nat → α) (a k : Nat) (v : α) : Nat → Nat → α := fun b j => if b = a ∧ j = k then v else f b j
def ze_2 {α : Type} (f : Nat → Nat → α) (a n : Nat) (v : α) : Nat → Nat → α := fun b j => if a ≤ b ∧ b < a + n then v else f b j
def wr_I (σ : qq_S) (a k : Nat) (v : Int32) : qq_S := (up_2 σ.1 a k v, σ.2)
def wr_R (σ : qq_S) (a k : Nat) (v : Nat) : qq_S := (σ.1, up_2 σ.2.1 a k v, σ.2.2)
def wr_L (σ : qq_S) (a k : Nat) (v : Int64) : qq_S := (σ.1, σ.2.1, up_2 σ.2.2.1 a k v, σ.2.2.2)
def wr_D (σ : qq_S) (a k : Nat) (v : UInt64) : qq_S := (σ.1, σ.2.1, σ.2.2.1, up_2 σ.2.2.2.1 a k v, σ.2.2.2.2)
/-- n new cells of one kind, of s slots in all, their maps at their defaults -/
def nw_S (σ : qq_S) (n : Nat) (kd : Nat × Nat) (s : Nat) : qq_S := (ze_2 σ.1 (sz_S σ) n 0, ze_2 σ.2.1 (sz_S σ) n 0, ze_2 σ.2.2.1 (sz_S σ) n 0, ze_2 σ.2.2.2.1 (sz_S σ) n 0, (fun b => if sz_S σ ≤ b ∧ b < sz_S σ + n then kd else kd_S σ b), sz_S σ + n, su_S σ + s)
/-- the rows of a two-dimensional array: the outer's places hold the cells behind it -/
def gr_S (σ : qq_S) (a n : Nat) : qq_S := (σ.1, (fun b j => if b = a ∧ j < n then a + 1 + j else σ.2.1 b j), σ.2.2)
/-- an array copied into another one -/
def cp_S (σ : qq_S) (a sp b dp n : Nat) : qq_S := ((fun c j => if c = b ∧ dp ≤ j ∧ j < dp + n then σ.1 a (sp + (j - dp)) else σ.1 c j), σ.2)
/-- a copy of a byte array -/
def cl_S (σ : qq_S) (a : Nat) : qq_S := cp_S (nw_S σ 1 (102, (kd_S σ a).2) (kd_S σ a).2) a 0 (sz_S σ) 0 (kd_S σ a).2
noncomputable def qq_if {α : Type} (P : Prop) (x y : α) : α := @ite α P (Classical.propDecidable P) x y
theorem qq_if_t {α : Type} {P : Prop} {x y : α} (h : P) : qq_if P x y = x := @if_pos P (Classical.propDecidable P) h α x y
theorem qq_if_f {α : Type} {P : Prop} {x y : α} (h : ¬ P) : qq_if P x y = y := @if_neg P (Classical.propDecidable P) h α x y
theorem qq_if_some {α : Type} {P : Prop} {x y : α} (h : qq_if P (some x) none = some y) : P ∧ x = y := by
  by_cases hP : P
  · rw [qq_if_t hP] at h; exact ⟨hP, Option.some.inj h⟩
  · rw [qq_if_f hP] at h; cases h
/-- a slot's value by its type -/
def qq_val (σ : qq_S) (ty : FieldType) (a k : Nat) : Value := match ty with
  | .long => .long (rd_L σ a k)
  | .double => .double (rd_D σ a k)
  | .object _ => .ref (rd_R σ a k)
  | .array _ => .ref (rd_R σ a k)
  | .float => .float 0
  | _ => .int (rd_I σ a k)
noncomputable def qq_put (σ : qq_S) (ty : FieldType) (a k : Nat) (v : Value) : Option qq_S := match ty with
  | .long => (match v with | .long x => some (wr_L σ a k x) | _ => none)
  | .double => (match v with | .double x => some (wr_D σ a k x) | _ => none)
  | .object _ => (match v with | .ref x => some (wr_R σ a k x) | _ => none)
  | .array _ => (match v with | .ref x => some (wr_R σ a k x) | _ => none)
  | .float => none
  | .int => (match v with | .int x => some (wr_I σ a k x) | _ => none)
  | ty => (match v with | .int x => qq_if (narrow ty (.int x) = .int x ∧ fits ty (.int x) = true) (some (wr_I σ a k x)) none | _ => none)
/-- a pushed constant -/
def qq_cst : Instr → Option Value
  | .iconst n => some (.int (Int32.ofInt n))
  | .bipush n => some (.int (Int8.ofInt n).toInt32)
  | .sipush n => some (.int (Int16.ofInt n).toInt32)
  | .lconst n => some (.long (Int64.ofNat n))
  | .aconst_null => some (.ref 0)
  | .fconst n => if n = 0 then some (.float FP.fconst0) else none
  | .dconst n => if n = 0 then some (.double FP.dconst0) else none
  | _ => none
noncomputable def qq_un : Instr → Value → Option Value
  | .ineg, .int x => some (.int (-x))
  | .i2l, .int x => some (.long x.toInt64)
  | .l2i, .long x => some (.int x.toInt32)
  | .i2b, .int x => some (.int x.toInt8.toInt32)
  | .i2c, .int x => some (.int (x.toUInt32 % 65536).toInt32)
  | .i2d, .int x => some (.double (FP.i2d x))
  | .i2f, .int x => some (.float (FP.i2f x))
  | .f2d, .float x => qq_if (vf_n64 (FP.f2d x)) (some (.double (FP.f2d x))) none
  | _, _ => none
/-- the second operand (on top) comes first -/
noncomputable def qq_bin : Instr → Value → Value → Option Value
  | .iadd, .int y, .int x => some (.int (x + y))
  | .isub, .int y, .int x => some (.int (x - y))
  | .imul, .int y, .int x => some (.int (x * y))
  | .idiv, .int y, .int x => qq_if (¬ y = 0) (some (.int (x / y))) none
  | .irem, .int y, .int x => qq_if (¬ y = 0) (some (.int (x - x / y * y))) none
  | .iand, .int y, .int x => some (.int (x &&& y))
  | .ior, .int y, .int x => some (.int (x ||| y))
  | .ixor, .int y, .int x => some (.int (x ^^^ y))
  | .ishl, .int y, .int x => some (.int (x <<< (y &&& 31)))
  | .ishr, .int y, .int x => some (.int (x >>> (y &&& 31)))
  | .iushr, .int y, .int x => some (.int (x.toUInt32 >>> (y.toUInt32 &&& Int32.toUInt32 31)).toInt32)
  | .ladd, .long y, .long x => some (.long (x + y))
  | .lsub, .long y, .long x => some (.long (x - y))
  | .land, .long y, .long x => some (.long (x &&& y))
  | .lor, .long y, .long x => some (.long (x ||| y))
  | .lshl, .int y, .long x => some (.long (x <<< (y.toInt64 &&& 63)))
  | .lshr, .int y, .long x => some (.long (x >>> (y.toInt64 &&& 63)))
  | .lcmp, .long y, .long x => some (.int (lg_cmp x y))
  | .ddiv, .double y, .double x => qq_if (vf_n64 (FP.ddiv x y)) (some (.double (FP.ddiv x y))) none
  | .fdiv, .float y, .float x => qq_if (vf_n32 (FP.fdiv x y)) (some (.float (FP.fdiv x y))) none
  | .dcmp op, .double y, .double x => some (.int (Op.cmpValue (FP.dcmp x y) op))
  | .fcmp op, .float y, .float x => some (.int (Op.cmpValue (FP.fcmp x y) op))
  | _, _, _ => none
def qq_shf : Instr → List Value → Option (List Value)
  | .pop, v :: st => if v.category = 1 then some st else none
  | .dup, v :: st => if v.category = 1 then some (v :: v :: st) else none
  | .dup_x1, v :: w :: st => if v.category = 1 ∧ w.category = 1 then some (v :: w :: v :: st) else none
  | .dup2, v :: w :: st => if v.category = 1 ∧ w.category = 1 then some (v :: w :: v :: w :: st) else none
  | _, _ => none
/-- loads and stores: the place and the type's code -/
def qq_ldi : Instr → Option (Nat × Nat)
  | .iload_n k => some (k.val, 0)
  | .iload k => some (k, 0)
  | .lload_n k => some (k.val, 1)
  | .lload k => some (k, 1)
  | .fload_n k => some (k.val, 2)
  | .fload k => some (k, 2)
  | .dload_n k => some (k.val, 3)
  | .dload k => some (k, 3)
  | .aload_n k => some (k.val, 4)
  | .aload k => some (k, 4)
  | _ => none
def qq_sti : Instr → Option (Nat × Nat)
  | .istore_n k => some (k.val, 0)
  | .istore k => some (k, 0)
  | .lstore_n k => some (k.val, 1)
  | .lstore k => some (k, 1)
  | .fstore_n k => some (k.val, 2)
  | .fstore k => some (k, 2)
  | .dstore_n k => some (k.val, 3)
  | .dstore k => some (k, 3)
  | .astore_n k => some (k.val, 4)
  | .astore k => some (k, 4)
  | _ => none
def qq_tc : Value → Nat
  | .int _ => 0
  | .long _ => 1
  | .float _ => 2
  | .double _ => 3
  | .ref _ => 4
  | _ => 9
/-- the locals behind a store: a long or double takes two places; one that stood across is gone -/
def qq_set (ls : List (Option Value)) (i : Nat) (v : Value) : List (Option Value) :=
  let l1 := if v.category = 2 then ls.set (i + 1) none else ls
  let l2 := match i with
    | 0 => l1
    | h + 1 => (match l1[h]? with | some (some w) => if w.category = 2 then l1.set h none else l1 | _ => l1)
  l2.set i (some v)
def qq_c0 : ClassFile.Cond → Int32 → Bool
  | .eq, x => decide (x = 0)
  | .ne, x => decide (¬ x = 0)
  | .lt, x => decide (x < 0)
  | .ge, x => decide (0 ≤ x)
  | .gt, x => decide (0 < x)
  | .le, x => decide (x ≤ 0)
def qq_c2 : ClassFile.Cond → Int32 → Int32 → Bool
  | .eq, x, y => decide (x = y)
  | .ne, x, y => decide (¬ x = y)
  | .lt, x, y => decide (x < y)
  | .ge, x, y => decide (y ≤ x)
  | .gt, x, y => decide (y < x)
  | .le, x, y => decide (x ≤ y)
/-- a branch: taken or not, and the stack behind -/
def qq_br : Instr → List Value → Option (Bool × List Value)
  | .ifCond c _, .int x :: st => some (qq_c0 c x, st)
  | .if_icmp c _, .int y :: .int x :: st => some (qq_c2 c x y, st)
  | .goto _, st => some (true, st)
  | .ifnull _, .ref a :: st => if a = 2 then none else some (decide (a = 0), st)
  | .ifnonnull _, .ref a :: st => if a = 2 then none else some (decide (¬ a = 0), st)
  | _, _ => none
/-- which of the table's targets (0: default) a switch takes -/
def qq_sw : Instr → Int32 → Option Nat
  | .tableswitch _ lo hi _, x => some (if x.toInt < lo ∨ hi < x.toInt then 0 else (x.toInt - lo).toNat + 1)
  | .lookupswitch _ ps, x => some (match ps.toList.findIdx? (fun p => p.1 == x.toInt) with | some i => i + 1 | none => 0)
  | _, _ => none
/-- how many bytes -/
def qq_len : Instr → Nat
  | .bipush _ => 2 | .sipush _ => 3 | .iload _ => 2 | .lload _ => 2 | .fload _ => 2 | .dload _ => 2 | .aload _ => 2
  | .istore _ => 2 | .lstore _ => 2 | .fstore _ => 2 | .dstore _ => 2 | .astore _ => 2 | .iinc _ _ => 3
  | .ifCond _ _ => 3 | .if_icmp _ _ => 3 | .goto _ => 3 | .checkcast _ => 3 | .ifnull _ => 3 | .ifnonnull _ => 3
  | .getfield _ => 3 | .putfield _ => 3 | .getstatic _ => 3 | .new _ => 3 | .newarray _ => 2 | .anewarray _ => 3 | .multianewarray _ _ => 4
  | .invokevirtual _ => 3 | .invokespecial _ => 3 | .invokestatic _ => 3 | .ldc _ => 2 | .ldc_w _ => 3
  | _ => 1
