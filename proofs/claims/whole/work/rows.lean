section
/-! STRAIGHT STRETCHES: 'wq' reads a list of instructions and says what is left to be shown; 'wq_sound' says that it is enough. -/
abbrev wq_L : Type := List (Nat × Value)
/-- an annotation: flag, place, slot, an int, a long -/
abbrev wq_A : Type := Nat × Nat × Nat × Int32 × Int64
abbrev wq_J : Type := List (Jvm.ClassFile.Instr × wq_A)
def wq_lk (lv : wq_L) (i : Nat) : Option Value := (lv.find? (fun q => q.1 == i)).map (fun q => q.2)
def wq_s1 (lv : wq_L) (i : Nat) (v : Value) : wq_L := (i, v) :: lv.filter (fun q => !(q.1 == i) && !(q.1 + 1 == i && q.2.category == 2))
def wq_s2 (lv : wq_L) (i : Nat) (v : Value) : wq_L := (i, v) :: lv.filter (fun q => !(q.1 == i) && (!(q.1 == i + 1) && !(q.1 + 1 == i && q.2.category == 2)))
def wq_ok (ft : List (Nat × Nat × Nat × Nat)) (idx ci k : Nat) : Bool := ft.any (fun q => Nat.beq q.1 idx && (Nat.beq q.2.1 ci && Nat.beq q.2.2.1 k))
def wq_om (ft : List (Nat × Nat × Nat × Nat)) (idx ci k md : Nat) : Bool := ft.any (fun q => (Nat.beq q.1 idx && (Nat.beq q.2.1 ci && Nat.beq q.2.2.1 k)) && Nat.beq q.2.2.2 md)
/-- the length of an instruction (of a switch: its annotation) -/
def wq_il (a : wq_A) : Jvm.ClassFile.Instr → Nat
  | .bipush _ => 2
  | .sipush _ => 3
  | .iload _ => 2
  | .lload _ => 2
  | .aload _ => 2
  | .istore _ => 2
  | .lstore _ => 2
  | .astore _ => 2
  | .ldc _ => 2
  | .ldc2_w _ => 3
  | .iinc _ _ => 3
  | .ifCond _ _ => 3
  | .if_icmp _ _ => 3
  | .if_acmp _ _ => 3
  | .ifnull _ => 3
  | .ifnonnull _ => 3
  | .goto _ => 3
  | .getfield _ => 3
  | .putfield _ => 3
  | .getstatic _ => 3
  | .putstatic _ => 3
  | .invokevirtual _ => 3
  | .invokespecial _ => 3
  | .invokestatic _ => 3
  | .invokeinterface _ _ => 5
  | .new _ => 3
  | .newarray _ => 2
  | .anewarray _ => 3
  | .checkcast _ => 3
  | .instanceof _ => 3
  | .multianewarray _ _ => 4
  | .tableswitch _ _ _ _ => a.2.1
  | .lookupswitch _ _ => a.2.1
  | _ => 1

/-- what of an instruction is decided once: its constant, its target, its local -/
def wq_k (nL : Nat) (an : wq_A) (pc : Nat) : Jvm.ClassFile.Instr → Bool
  | .iconst i => decide (Int32.ofInt i = an.2.2.2.1)
  | .bipush i => decide ((Int8.ofInt i).toInt32 = an.2.2.2.1)
  | .sipush i => decide ((Int16.ofInt i).toInt32 = an.2.2.2.1)
  | .lconst i => decide (Int64.ofNat (i : Nat) = an.2.2.2.2)
  | .iinc i d => decide (Int32.ofInt d = an.2.2.2.1) && decide (i < nL)
  | .istore_n i => decide ((i : Nat) < nL)
  | .istore i => decide (i < nL)
  | .astore_n i => decide ((i : Nat) < nL)
  | .astore i => decide (i < nL)
  | .lstore_n i => decide ((i : Nat) + 1 < nL)
  | .lstore i => decide (i + 1 < nL)
  | .ifCond _ off => decide ((pc : Int) + off = (an.2.1 : Nat))
  | .if_icmp _ off => decide ((pc : Int) + off = (an.2.1 : Nat))
  | .if_acmp _ off => decide ((pc : Int) + off = (an.2.1 : Nat))
  | .ifnull off => decide ((pc : Int) + off = (an.2.1 : Nat))
  | .ifnonnull off => decide ((pc : Int) + off = (an.2.1 : Nat))
  | .goto off => decide ((pc : Int) + off = (an.2.1 : Nat))
  | _ => true

def wq (nL : Nat) (ini : Bool) (tc : Nat → ClassId) (ft : List (Nat × Nat × Nat × Nat)) (ty : Nat → Nat → FieldType) (RT : Nat → Nat → Nat → (Nat → Value) → Prop) (RF : Nat → Nat → Value → Prop) (RZ : Nat → Value → Prop) (RS : Nat → Value → Prop) (V : Nat → wq_L → List Value → va_W → Nat → Nat → Prop) : wq_J → Nat → wq_L → List Value → va_W → Nat → Nat → Prop
  | [], pc, lv, st, ws, k, n => V pc lv st ws k n
  | (ins, an) :: r, pc, lv, st, ws, k, n => match ins with
  | .iconst _ => (wq nL ini tc ft ty RT RF RZ RS V r (pc + 1) lv (.int an.2.2.2.1 :: st) ws k n)
  | .bipush _ => (wq nL ini tc ft ty RT RF RZ RS V r (pc + 2) lv (.int an.2.2.2.1 :: st) ws k n)
  | .sipush _ => (wq nL ini tc ft ty RT RF RZ RS V r (pc + 3) lv (.int an.2.2.2.1 :: st) ws k n)
  | .lconst _ => (wq nL ini tc ft ty RT RF RZ RS V r (pc + 1) lv (.long an.2.2.2.2 :: st) ws k n)
  | .aconst_null => (wq nL ini tc ft ty RT RF RZ RS V r (pc + 1) lv (.null :: st) ws k n)
  | .iload_n i => (match wq_lk lv i with
    | some (.int x) => wq nL ini tc ft ty RT RF RZ RS V r (pc + 1) lv (.int x :: st) ws k n
    | _ => V pc lv st ws k n)
  | .iload i => (match wq_lk lv i with
    | some (.int x) => wq nL ini tc ft ty RT RF RZ RS V r (pc + 2) lv (.int x :: st) ws k n
    | _ => V pc lv st ws k n)
  | .lload_n i => (match wq_lk lv i with
    | some (.long x) => wq nL ini tc ft ty RT RF RZ RS V r (pc + 1) lv (.long x :: st) ws k n
    | _ => V pc lv st ws k n)
  | .lload i => (match wq_lk lv i with
    | some (.long x) => wq nL ini tc ft ty RT RF RZ RS V r (pc + 2) lv (.long x :: st) ws k n
    | _ => V pc lv st ws k n)
  | .aload_n i => (match wq_lk lv i with
    | some (.ref x) => wq nL ini tc ft ty RT RF RZ RS V r (pc + 1) lv (.ref x :: st) ws k n
    | some .null => wq nL ini tc ft ty RT RF RZ RS V r (pc + 1) lv (.null :: st) ws k n
    | _ => V pc lv st ws k n)
  | .aload i => (match wq_lk lv i with
    | some (.ref x) => wq nL ini tc ft ty RT RF RZ RS V r (pc + 2) lv (.ref x :: st) ws k n
    | some .null => wq nL ini tc ft ty RT RF RZ RS V r (pc + 2) lv (.null :: st) ws k n
    | _ => V pc lv st ws k n)
  | .istore_n i => (match st with
    | .int x :: t => wq nL ini tc ft ty RT RF RZ RS V r (pc + 1) (wq_s1 lv i (.int x)) t ws k n
    | _ => V pc lv st ws k n)
  | .istore i => (match st with
    | .int x :: t => wq nL ini tc ft ty RT RF RZ RS V r (pc + 2) (wq_s1 lv i (.int x)) t ws k n
    | _ => V pc lv st ws k n)
  | .lstore_n i => (match st with
    | .long x :: t => wq nL ini tc ft ty RT RF RZ RS V r (pc + 1) (wq_s2 lv i (.long x)) t ws k n
    | _ => V pc lv st ws k n)
  | .lstore i => (match st with
    | .long x :: t => wq nL ini tc ft ty RT RF RZ RS V r (pc + 2) (wq_s2 lv i (.long x)) t ws k n
    | _ => V pc lv st ws k n)
  | .astore_n i => (match st with
    | .ref x :: t => wq nL ini tc ft ty RT RF RZ RS V r (pc + 1) (wq_s1 lv i (.ref x)) t ws k n
    | .null :: t => wq nL ini tc ft ty RT RF RZ RS V r (pc + 1) (wq_s1 lv i .null) t ws k n
    | _ => V pc lv st ws k n)
  | .astore i => (match st with
    | .ref x :: t => wq nL ini tc ft ty RT RF RZ RS V r (pc + 2) (wq_s1 lv i (.ref x)) t ws k n
    | .null :: t => wq nL ini tc ft ty RT RF RZ RS V r (pc + 2) (wq_s1 lv i .null) t ws k n
    | _ => V pc lv st ws k n)
  | .iinc i _ => (match wq_lk lv i with
    | some (.int x) => wq nL ini tc ft ty RT RF RZ RS V r (pc + 3) (wq_s1 lv i (.int (x + an.2.2.2.1))) st ws k n
    | _ => V pc lv st ws k n)
  | .iadd => (match st with
    | .int y :: .int x :: t => wq nL ini tc ft ty RT RF RZ RS V r (pc + 1) lv (.int (x + y) :: t) ws k n
    | _ => V pc lv st ws k n)
  | .isub => (match st with
    | .int y :: .int x :: t => wq nL ini tc ft ty RT RF RZ RS V r (pc + 1) lv (.int (x - y) :: t) ws k n
    | _ => V pc lv st ws k n)
  | .imul => (match st with
    | .int y :: .int x :: t => wq nL ini tc ft ty RT RF RZ RS V r (pc + 1) lv (.int (x * y) :: t) ws k n
    | _ => V pc lv st ws k n)
  | .iand => (match st with
    | .int y :: .int x :: t => wq nL ini tc ft ty RT RF RZ RS V r (pc + 1) lv (.int (x &&& y) :: t) ws k n
    | _ => V pc lv st ws k n)
  | .ior => (match st with
    | .int y :: .int x :: t => wq nL ini tc ft ty RT RF RZ RS V r (pc + 1) lv (.int (x ||| y) :: t) ws k n
    | _ => V pc lv st ws k n)
  | .ixor => (match st with
    | .int y :: .int x :: t => wq nL ini tc ft ty RT RF RZ RS V r (pc + 1) lv (.int (x ^^^ y) :: t) ws k n
    | _ => V pc lv st ws k n)
  | .ishl => (match st with
    | .int y :: .int x :: t => wq nL ini tc ft ty RT RF RZ RS V r (pc + 1) lv (.int (x <<< (y &&& 31)) :: t) ws k n
    | _ => V pc lv st ws k n)
  | .ishr => (match st with
    | .int y :: .int x :: t => wq nL ini tc ft ty RT RF RZ RS V r (pc + 1) lv (.int (x >>> (y &&& 31)) :: t) ws k n
    | _ => V pc lv st ws k n)
  | .iushr => (match st with
    | .int y :: .int x :: t => wq nL ini tc ft ty RT RF RZ RS V r (pc + 1) lv (.int ((x.toUInt32 >>> (y.toUInt32 &&& Int32.toUInt32 31)).toInt32) :: t) ws k n
    | _ => V pc lv st ws k n)
  | .ladd => (match st with
    | .long y :: .long x :: t => wq nL ini tc ft ty RT RF RZ RS V r (pc + 1) lv (.long (x + y) :: t) ws k n
    | _ => V pc lv st ws k n)
  | .lsub => (match st with
    | .long y :: .long x :: t => wq nL ini tc ft ty RT RF RZ RS V r (pc + 1) lv (.long (x - y) :: t) ws k n
    | _ => V pc lv st ws k n)
  | .lmul => (match st with
    | .long y :: .long x :: t => wq nL ini tc ft ty RT RF RZ RS V r (pc + 1) lv (.long (x * y) :: t) ws k n
    | _ => V pc lv st ws k n)
  | .land => (match st with
    | .long y :: .long x :: t => wq nL ini tc ft ty RT RF RZ RS V r (pc + 1) lv (.long (x &&& y) :: t) ws k n
    | _ => V pc lv st ws k n)
  | .lor => (match st with
    | .long y :: .long x :: t => wq nL ini tc ft ty RT RF RZ RS V r (pc + 1) lv (.long (x ||| y) :: t) ws k n
    | _ => V pc lv st ws k n)
  | .lxor => (match st with
    | .long y :: .long x :: t => wq nL ini tc ft ty RT RF RZ RS V r (pc + 1) lv (.long (x ^^^ y) :: t) ws k n
    | _ => V pc lv st ws k n)
  | .lshl => (match st with
    | .int y :: .long x :: t => wq nL ini tc ft ty RT RF RZ RS V r (pc + 1) lv (.long (x <<< (y.toInt64 &&& 63)) :: t) ws k n
    | _ => V pc lv st ws k n)
  | .lshr => (match st with
    | .int y :: .long x :: t => wq nL ini tc ft ty RT RF RZ RS V r (pc + 1) lv (.long (x >>> (y.toInt64 &&& 63)) :: t) ws k n
    | _ => V pc lv st ws k n)
  | .lushr => (match st with
    | .int y :: .long x :: t => wq nL ini tc ft ty RT RF RZ RS V r (pc + 1) lv (.long ((x.toUInt64 >>> (y.toInt64.toUInt64 &&& Int64.toUInt64 63)).toInt64) :: t) ws k n
    | _ => V pc lv st ws k n)
  | .idiv => (match st with
    | .int y :: .int x :: t => ¬ y = 0 ∧ wq nL ini tc ft ty RT RF RZ RS V r (pc + 1) lv (.int (x / y) :: t) ws k n
    | _ => V pc lv st ws k n)
  | .irem => (match st with
    | .int y :: .int x :: t => ¬ y = 0 ∧ wq nL ini tc ft ty RT RF RZ RS V r (pc + 1) lv (.int (x - x / y * y) :: t) ws k n
    | _ => V pc lv st ws k n)
  | .ldiv => (match st with
    | .long y :: .long x :: t => ¬ y = 0 ∧ wq nL ini tc ft ty RT RF RZ RS V r (pc + 1) lv (.long (x / y) :: t) ws k n
    | _ => V pc lv st ws k n)
  | .lrem => (match st with
    | .long y :: .long x :: t => ¬ y = 0 ∧ wq nL ini tc ft ty RT RF RZ RS V r (pc + 1) lv (.long (x - x / y * y) :: t) ws k n
    | _ => V pc lv st ws k n)
  | .ineg => (match st with
    | .int x :: t => wq nL ini tc ft ty RT RF RZ RS V r (pc + 1) lv (.int (-x) :: t) ws k n
    | _ => V pc lv st ws k n)
  | .lneg => (match st with
    | .long x :: t => wq nL ini tc ft ty RT RF RZ RS V r (pc + 1) lv (.long (-x) :: t) ws k n
    | _ => V pc lv st ws k n)
  | .i2l => (match st with
    | .int x :: t => wq nL ini tc ft ty RT RF RZ RS V r (pc + 1) lv (.long x.toInt64 :: t) ws k n
    | _ => V pc lv st ws k n)
  | .l2i => (match st with
    | .long x :: t => wq nL ini tc ft ty RT RF RZ RS V r (pc + 1) lv (.int x.toInt32 :: t) ws k n
    | _ => V pc lv st ws k n)
  | .i2b => (match st with
    | .int x :: t => wq nL ini tc ft ty RT RF RZ RS V r (pc + 1) lv (.int x.toInt8.toInt32 :: t) ws k n
    | _ => V pc lv st ws k n)
  | .i2s => (match st with
    | .int x :: t => wq nL ini tc ft ty RT RF RZ RS V r (pc + 1) lv (.int x.toInt16.toInt32 :: t) ws k n
    | _ => V pc lv st ws k n)
  | .i2c => (match st with
    | .int x :: t => wq nL ini tc ft ty RT RF RZ RS V r (pc + 1) lv (.int (x.toUInt32 % 65536).toInt32 :: t) ws k n
    | _ => V pc lv st ws k n)
  | .lcmp => (match st with
    | .long y :: .long x :: t => wq nL ini tc ft ty RT RF RZ RS V r (pc + 1) lv (.int (lg_cmp x y) :: t) ws k n
    | _ => V pc lv st ws k n)
  | .dup => (match st with
    | va :: t => va.category = 1 ∧ wq nL ini tc ft ty RT RF RZ RS V r (pc + 1) lv (va :: va :: t) ws k n
    | _ => V pc lv st ws k n)
  | .pop => (match st with
    | va :: t => va.category = 1 ∧ wq nL ini tc ft ty RT RF RZ RS V r (pc + 1) lv t ws k n
    | _ => V pc lv st ws k n)
  | .dup_x1 => (match st with
    | va :: vb :: t => va.category = 1 ∧ vb.category = 1 ∧ wq nL ini tc ft ty RT RF RZ RS V r (pc + 1) lv (va :: vb :: va :: t) ws k n
    | _ => V pc lv st ws k n)
  | .dup2 => (match st with
    | .long x :: t => wq nL ini tc ft ty RT RF RZ RS V r (pc + 1) lv (.long x :: .long x :: t) ws k n
    | va :: vb :: t => va.category = 1 ∧ vb.category = 1 ∧ wq nL ini tc ft ty RT RF RZ RS V r (pc + 1) lv (va :: vb :: va :: vb :: t) ws k n
    | _ => V pc lv st ws k n)
  | .ifCond .eq _ => (match st with
    | .int x :: t => (x = 0 → V (an.2.1) lv t ws k n) ∧ (¬ x = 0 → wq nL ini tc ft ty RT RF RZ RS V r (pc + 3) lv t ws k n)
    | _ => V pc lv st ws k n)
  | .ifCond .ne _ => (match st with
    | .int x :: t => (¬ x = 0 → V (an.2.1) lv t ws k n) ∧ (x = 0 → wq nL ini tc ft ty RT RF RZ RS V r (pc + 3) lv t ws k n)
    | _ => V pc lv st ws k n)
  | .ifCond .lt _ => (match st with
    | .int x :: t => (x < 0 → V (an.2.1) lv t ws k n) ∧ (¬ x < 0 → wq nL ini tc ft ty RT RF RZ RS V r (pc + 3) lv t ws k n)
    | _ => V pc lv st ws k n)
  | .ifCond .ge _ => (match st with
    | .int x :: t => (0 ≤ x → V (an.2.1) lv t ws k n) ∧ (¬ 0 ≤ x → wq nL ini tc ft ty RT RF RZ RS V r (pc + 3) lv t ws k n)
    | _ => V pc lv st ws k n)
  | .ifCond .gt _ => (match st with
    | .int x :: t => (0 < x → V (an.2.1) lv t ws k n) ∧ (¬ 0 < x → wq nL ini tc ft ty RT RF RZ RS V r (pc + 3) lv t ws k n)
    | _ => V pc lv st ws k n)
  | .ifCond .le _ => (match st with
    | .int x :: t => (x ≤ 0 → V (an.2.1) lv t ws k n) ∧ (¬ x ≤ 0 → wq nL ini tc ft ty RT RF RZ RS V r (pc + 3) lv t ws k n)
    | _ => V pc lv st ws k n)
  | .if_icmp .eq _ => (match st with
    | .int y :: .int x :: t => (x = y → V (an.2.1) lv t ws k n) ∧ (¬ x = y → wq nL ini tc ft ty RT RF RZ RS V r (pc + 3) lv t ws k n)
    | _ => V pc lv st ws k n)
  | .if_icmp .ne _ => (match st with
    | .int y :: .int x :: t => (¬ x = y → V (an.2.1) lv t ws k n) ∧ (x = y → wq nL ini tc ft ty RT RF RZ RS V r (pc + 3) lv t ws k n)
    | _ => V pc lv st ws k n)
  | .if_icmp .lt _ => (match st with
    | .int y :: .int x :: t => (x < y → V (an.2.1) lv t ws k n) ∧ (¬ x < y → wq nL ini tc ft ty RT RF RZ RS V r (pc + 3) lv t ws k n)
    | _ => V pc lv st ws k n)
  | .if_icmp .ge _ => (match st with
    | .int y :: .int x :: t => (y ≤ x → V (an.2.1) lv t ws k n) ∧ (¬ y ≤ x → wq nL ini tc ft ty RT RF RZ RS V r (pc + 3) lv t ws k n)
    | _ => V pc lv st ws k n)
  | .if_icmp .gt _ => (match st with
    | .int y :: .int x :: t => (y < x → V (an.2.1) lv t ws k n) ∧ (¬ y < x → wq nL ini tc ft ty RT RF RZ RS V r (pc + 3) lv t ws k n)
    | _ => V pc lv st ws k n)
  | .if_icmp .le _ => (match st with
    | .int y :: .int x :: t => (x ≤ y → V (an.2.1) lv t ws k n) ∧ (¬ x ≤ y → wq nL ini tc ft ty RT RF RZ RS V r (pc + 3) lv t ws k n)
    | _ => V pc lv st ws k n)
  | .ifnull _ => (match st with
    | .ref _ :: t => wq nL ini tc ft ty RT RF RZ RS V r (pc + 3) lv t ws k n
    | .null :: t => V (an.2.1) lv t ws k n
    | _ => V pc lv st ws k n)
  | .ifnonnull _ => (match st with
    | .ref _ :: t => V (an.2.1) lv t ws k n
    | .null :: t => wq nL ini tc ft ty RT RF RZ RS V r (pc + 3) lv t ws k n
    | _ => V pc lv st ws k n)
  | .goto _ => (V (an.2.1) lv st ws k n)
  | .getfield idx => (match an.1 with
    | 1 => (match st, ws[an.2.1]? with
      | .ref a :: t, some (b, .inr (ci, fs)) => (match wq_ok ft idx ci an.2.2.1, fs[an.2.2.1]? with
        | true, some v => a = b ∧ wq nL ini tc ft ty RT RF RZ RS V r (pc + 3) lv (v :: t) ws k n
        | _, _ => V pc lv st ws k n)
      | _, _ => V pc lv st ws k n)
    | 2 => (match st with
      | .ref a :: t => ∃ v, RF idx a v ∧ wq nL ini tc ft ty RT RF RZ RS V r (pc + 3) lv (v :: t) ws k n
      | _ => V pc lv st ws k n)
    | _ => V pc lv st ws k n)
  | .putfield idx => (match an.1 with
    | 1 => (match st, ws[an.2.1]? with
      | v :: .ref a :: t, some (b, .inr (ci, fs)) => (match wq_om ft idx ci an.2.2.1 0, Nat.blt an.2.2.1 fs.length with
        | true, true => a = b ∧ (narrow (ty ci an.2.2.1) v = v ∧ fits (ty ci an.2.2.1) v = true) ∧ wq nL ini tc ft ty RT RF RZ RS V r (pc + 3) lv t (ws.set an.2.1 (b, .inr (ci, fs.set an.2.2.1 v))) k n
        | _, _ => V pc lv st ws k n)
      | _, _ => V pc lv st ws k n)
    | 3 => (match st, ws[an.2.1]? with
      | v :: .ref a :: t, some (b, .inr (ci, fs)) => (match wq_om ft idx ci an.2.2.1 1, Nat.blt an.2.2.1 fs.length, ini with
        | true, true, true => a = b ∧ (narrow (ty ci an.2.2.1) v = v ∧ fits (ty ci an.2.2.1) v = true) ∧ wq nL ini tc ft ty RT RF RZ RS V r (pc + 3) lv t (ws.set an.2.1 (b, .inr (ci, fs.set an.2.2.1 v))) k n
        | _, _, _ => V pc lv st ws k n)
      | _, _ => V pc lv st ws k n)
    | _ => V pc lv st ws k n)
  | .getstatic idx => (match an.1 with
    | 2 => ∃ v, RZ idx v ∧ wq nL ini tc ft ty RT RF RZ RS V r (pc + 3) lv (v :: st) ws k n
    | _ => V pc lv st ws k n)
  | .ldc idx => (match an.1 with
    | 1 => RS idx (.int an.2.2.2.1) ∧ wq nL ini tc ft ty RT RF RZ RS V r (pc + 2) lv (.int an.2.2.2.1 :: st) ws k n
    | 2 => ∃ q : Nat, RS idx (.ref q) ∧ wq nL ini tc ft ty RT RF RZ RS V r (pc + 2) lv (.ref q :: st) ws k n
    | _ => V pc lv st ws k n)
  | .ldc2_w idx => (match an.1 with
    | 1 => RS idx (.long an.2.2.2.2) ∧ wq nL ini tc ft ty RT RF RZ RS V r (pc + 3) lv (.long an.2.2.2.2 :: st) ws k n
    | _ => V pc lv st ws k n)
  | .iaload => (match an.1 with
    | 1 => (match st, ws[an.2.1]? with
      | .int x :: .ref a :: t, some (b, .inl (cA, N, .inl f)) => a = b ∧ cA = tc 0 ∧ vp_in x N ∧ wq nL ini tc ft ty RT RF RZ RS V r (pc + 1) lv (.int (f x.toNatClampNeg) :: t) ws k n
      | _, _ => V pc lv st ws k n)
    | 2 => (match st with
      | .int x :: .ref a :: t => ∃ (N : Nat) (f : Nat → Value), RT 0 a N f ∧ vp_in x N ∧ wq nL ini tc ft ty RT RF RZ RS V r (pc + 1) lv (f x.toNatClampNeg :: t) ws k n
      | _ => V pc lv st ws k n)
    | _ => V pc lv st ws k n)
  | .baload => (match an.1 with
    | 1 => (match st, ws[an.2.1]? with
      | .int x :: .ref a :: t, some (b, .inl (cA, N, .inl f)) => a = b ∧ cA = tc 1 ∧ vp_in x N ∧ wq nL ini tc ft ty RT RF RZ RS V r (pc + 1) lv (.int (f x.toNatClampNeg) :: t) ws k n
      | _, _ => V pc lv st ws k n)
    | 2 => (match st with
      | .int x :: .ref a :: t => ∃ (N : Nat) (f : Nat → Value), RT 1 a N f ∧ vp_in x N ∧ wq nL ini tc ft ty RT RF RZ RS V r (pc + 1) lv (f x.toNatClampNeg :: t) ws k n
      | _ => V pc lv st ws k n)
    | _ => V pc lv st ws k n)
  | .iastore => (match an.1 with
    | 1 => (match st, ws[an.2.1]? with
      | .int v :: .int x :: .ref a :: t, some (b, .inl (cA, N, .inl f)) => a = b ∧ cA = tc 0 ∧ vp_in x N ∧ wq nL ini tc ft ty RT RF RZ RS V r (pc + 1) lv t (ws.set an.2.1 (b, .inl (cA, N, .inl (upd f x.toNatClampNeg v)))) k n
      | _, _ => V pc lv st ws k n)
    | _ => V pc lv st ws k n)
  | .arraylength => (match an.1 with
    | 1 => (match st, ws[an.2.1]? with
      | .ref a :: t, some (b, .inl (cA, N, g)) => a = b ∧ (cA = tc 0 ∨ cA = tc 1) ∧ wq nL ini tc ft ty RT RF RZ RS V r (pc + 1) lv (.int (nI N) :: t) ws k n
      | _, _ => V pc lv st ws k n)
    | 2 => (match st with
      | .ref a :: t => ∃ (y : Nat) (N : Nat) (f : Nat → Value), RT y a N f ∧ wq nL ini tc ft ty RT RF RZ RS V r (pc + 1) lv (.int (nI N) :: t) ws k n
      | _ => V pc lv st ws k n)
    | _ => V pc lv st ws k n)
  | _ => V pc lv st ws k n
end
section
/-! THE STRETCHES ARE SOUND -/
theorem wq_at {ls : Array Slot} {nL : Nat} {lv : wq_L} {i : Nat} {v : Value} (h : lv_has ls nL lv) (e : wq_lk lv i = some v) : ls[i]? = some (.val v) := by
  unfold wq_lk at e
  cases hf : lv.find? (fun q => q.1 == i) with
  | none => rw [hf] at e; cases e
  | some q =>
    rw [hf] at e
    have e2 : q.2 = v := Option.some.inj e
    have hq := List.mem_of_find?_eq_some hf
    have hp := List.find?_some hf
    have hi : q.1 = i := by simpa using hp
    have := h.2.2 q hq
    rw [hi, e2] at this
    exact this
theorem wq_ix {lv : wq_L} {i : Nat} {v : Value} (e : wq_lk lv i = some v) : ∃ k : Nat, lv[k]? = some (i, v) := by
  unfold wq_lk at e
  cases hf : lv.find? (fun q => q.1 == i) with
  | none => rw [hf] at e; cases e
  | some q =>
    rw [hf] at e
    have e2 : q.2 = v := Option.some.inj e
    have hq := List.mem_of_find?_eq_some hf
    have hp := List.find?_some hf
    have hi : q.1 = i := by simpa using hp
    obtain ⟨k, hk⟩ := List.getElem?_of_mem hq
    refine ⟨k, ?_⟩
    rw [hk, ← hi, ← e2]
theorem wq_ok_spec {ft : List (Nat × Nat × Nat × Nat)} {idx ci k : Nat} (h : wq_ok ft idx ci k = true) : ∃ q ∈ ft, q.1 = idx ∧ q.2.1 = ci ∧ q.2.2.1 = k := by
  unfold wq_ok at h
  obtain ⟨q, hq, e⟩ := List.any_eq_true.mp h
  simp only [Bool.and_eq_true] at e
  exact ⟨q, hq, Nat.eq_of_beq_eq_true e.1, Nat.eq_of_beq_eq_true e.2.1, Nat.eq_of_beq_eq_true e.2.2⟩
theorem wq_om_spec {ft : List (Nat × Nat × Nat × Nat)} {idx ci k md : Nat} (h : wq_om ft idx ci k md = true) : ∃ q ∈ ft, q.1 = idx ∧ q.2.1 = ci ∧ q.2.2.1 = k ∧ q.2.2.2 = md := by
  unfold wq_om at h
  obtain ⟨q, hq, e⟩ := List.any_eq_true.mp h
  simp only [Bool.and_eq_true] at e
  exact ⟨q, hq, Nat.eq_of_beq_eq_true e.1.1, Nat.eq_of_beq_eq_true e.1.2.1, Nat.eq_of_beq_eq_true e.1.2.2, Nat.eq_of_beq_eq_true e.2⟩
/-- the machine at pc with these locals, stack and cells comes to Q -/
def Vx (p : Program) (l : Launch) (e : Env) (R : Room) (s : State) (m : MethodId) (args : Array Value) (below : List Frame) (meth : Method) (c : Code) (nL : Nat) (D : va_G) (cl : List vw_C) (A : Nat → Prop) (Q : State → Prop) (pc : Nat) (lv : wq_L) (st : List Value) (ws : va_W) (k n : Nat) : Prop :=
  ∀ (H : Heap) (locs : List Loc) (ls : Array Slot), va_P D cl ws H → va_D A ws → va_S A s.heap H locs → lv_has ls nL lv → W p l e R s m args below meth c H locs k n Q (F0 m pc ls st)
/-- what stays over a method's body -/
def Cx (p : Program) (s : State) (m : MethodId) (args : Array Value) (c : Code) (cc : ByteArray) (nL : Nat) (own : String) (Ts : List Cond) (D : va_G) (cl : List vw_C) (tys : List (ClassId × FieldType)) (A : Nat → Prop) (tc : Nat → ClassId) : Prop :=
  p.tables.exec = Jvm.exec ∧ c.code = cc ∧ c.maxLocals = nL ∧ s.vm.findClass own = some m.cls ∧ (∀ w ∈ Ts, w.before args s = true) ∧ va_K D cl tys s ∧ (∀ q : Nat, s.heap.size ≤ q → A q) ∧ tys[0]? = some (tc 0, .int) ∧ tys[1]? = some (tc 1, .byte)
def vx_ty (y : Nat) : FieldType := match y with
  | 0 => .int
  | 1 => .byte
  | 2 => .char
  | 3 => .long
  | _ => .boolean
def vx_RT (A : Nat → Prop) (s : State) (y a N : Nat) (f : Nat → Value) : Prop := va_T (vx_ty y) a N f A s s.heap
def vx_RF (own : String) (args : Array Value) (A : Nat → Prop) (s : State) (idx a : Nat) (v : Value) : Prop := ∃ o n d ref : String, va_OF o n d v a A s s.heap ∧ (Cond.fieldLink own idx ref n d).before args s = true ∧ ∀ x, s.fieldFound? o n d = some x → s.fieldFound? ref n d = some x
def vx_RZ (own : String) (args : Array Value) (A : Nat → Prop) (s : State) (idx : Nat) (v : Value) : Prop := ∃ C n d ref : String, va_Z C n d v A s s.heap ∧ ((Cond.fieldLink own idx ref n d).before args s = true ∨ ∃ host, (Cond.fieldLinkNest own idx ref n d host).before args s = true) ∧ ∀ x, s.fieldFound? C n d = some x → s.fieldFound? ref n d = some x
def vx_RS (own : String) (args : Array Value) (s : State) (idx : Nat) (v : Value) : Prop := (∃ x : Int32, v = .int x ∧ (Jvm.Cond.constant own idx x).before args s = true) ∨ (∃ x : Int64, v = .long x ∧ (Jvm.Cond.constantLong own idx x).before args s = true) ∨ ∃ (tx : String) (q : Nat), v = .ref q ∧ vk_R own idx tx q s
/-- a table of fields: (index, class, slot, 0 or 1 where it is final) -/
def vx_Ft (own : String) (Ts : List Cond) (cl : List vw_C) (ty : Nat → Nat → FieldType) (ft : List (Nat × Nat × Nat × Nat)) : Prop := ∀ q ∈ ft, ∃ (C : String) (T : u_T) (N : Nat), cl[q.2.1]? = some (C, T, N) ∧ q.2.2.1 < N ∧ (∀ w ∈ u_ws C T N, w ∈ Ts) ∧ (∀ j, j < N → parseFieldDescriptor (T j).2.2.1 = some (ty q.2.1 j)) ∧ (∀ a, a < N → ∀ b, b < N → a ≠ b → (T a).2.1 ≠ (T b).2.1) ∧
  (Cond.fieldLink own q.1 (T q.2.2.1).1 (T q.2.2.1).2.1 (T q.2.2.1).2.2.1 ∈ Ts ∨ ∃ host, Cond.fieldLinkNest own q.1 (T q.2.2.1).1 (T q.2.2.1).2.1 (T q.2.2.1).2.2.1 host ∈ Ts) ∧ (q.2.2.2 = 0 → (T q.2.2.1).2.2.2 = false) ∧ (q.2.2.2 = 1 → (T q.2.2.1).2.2.2 = true ∧ (T q.2.2.1).1 = own ∧ Cond.fieldLink own q.1 (T q.2.2.1).1 (T q.2.2.1).2.1 (T q.2.2.1).2.2.1 ∈ Ts)
def wq_c (cc : ByteArray) (nL : Nat) : wq_J → Nat → Bool
  | [], _ => true
  | (ins, an) :: r, pc => (decide (decode cc pc = .ok (ins, wq_il an ins)) && wq_k nL an pc ins) && wq_c cc nL r (pc + wq_il an ins)
set_option maxHeartbeats 4000000 in
set_option maxRecDepth 100000 in
theorem wq_sound {p : Program} {l : Launch} {e : Env} {R : Room} {s : State} {m : MethodId} {args : Array Value} {below : List Frame} {meth : Method} {c : Code} {cc : ByteArray} {nL : Nat} {own : String} {Ts : List Cond} {D : va_G} {cl : List vw_C} {tys : List (ClassId × FieldType)} {A : Nat → Prop} {tc : Nat → ClassId} {Q : State → Prop} {ini : Bool} {ft : List (Nat × Nat × Nat × Nat)} {ty : Nat → Nat → FieldType}
    (hC : Cx p s m args c cc nL own Ts D cl tys A tc) (hF : vx_Ft own Ts cl ty ft) (hini : ini = true → meth.name = "<init>") :
    ∀ (jc : wq_J) (pc : Nat) (lv : wq_L) (st : List Value) (ws : va_W) (k n : Nat), wq_c cc nL jc pc = true →
      wq nL ini tc ft ty (vx_RT A s) (vx_RF own args A s) (vx_RZ own args A s) (vx_RS own args s) (Vx p l e R s m args below meth c nL D cl A Q) jc pc lv st ws k n → Vx p l e R s m args below meth c nL D cl A Q pc lv st ws k n := by
  obtain ⟨hx, hb, hml, hown, hts, hK, hA, ht0, ht1⟩ := hC
  intro jc
  induction jc with
  | nil => intro pc lv st ws k n _ h; exact h
  | cons q r ih =>
    obtain ⟨ins, an⟩ := q
    intro pc lv st ws k n hc h
    rw [wq_c, Bool.and_eq_true, Bool.and_eq_true] at hc
    obtain ⟨⟨hc1, hk⟩, hc2⟩ := hc
    have hc1 : decode cc pc = .ok (ins, wq_il an ins) := of_decide_eq_true hc1
    cases ins
    case iconst =>
      unfold wq at h; dsimp only at h
      intro H locs ls hP hD hS hl
      exact lv_iconst hx hb hc1 (of_decide_eq_true hk) (ih _ _ _ _ _ _ hc2 h H locs ls hP hD hS hl)
    case bipush =>
      unfold wq at h; dsimp only at h
      intro H locs ls hP hD hS hl
      exact lv_bipush hx hb hc1 (of_decide_eq_true hk) (ih _ _ _ _ _ _ hc2 h H locs ls hP hD hS hl)
    case sipush =>
      unfold wq at h; dsimp only at h
      intro H locs ls hP hD hS hl
      exact lv_sipush hx hb hc1 (of_decide_eq_true hk) (ih _ _ _ _ _ _ hc2 h H locs ls hP hD hS hl)
    case lconst =>
      unfold wq at h; dsimp only at h
      intro H locs ls hP hD hS hl
      exact lv_lconst hx hb hc1 (of_decide_eq_true hk) (ih _ _ _ _ _ _ hc2 h H locs ls hP hD hS hl)
    case aconst_null =>
      unfold wq at h; dsimp only at h
      intro H locs ls hP hD hS hl
      exact lv_null hx hb hc1 (ih _ _ _ _ _ _ hc2 h H locs ls hP hD hS hl)
    case iload_n =>
      unfold wq at h; dsimp only at h
      split at h
      · intro H locs ls hP hD hS hl
        exact lv_iload_n hx hb hc1 rfl (wq_at hl ‹wq_lk _ _ = some _›) (ih _ _ _ _ _ _ hc2 h H locs ls hP hD hS hl)
      · exact h
    case lload_n =>
      unfold wq at h; dsimp only at h
      split at h
      · intro H locs ls hP hD hS hl
        exact lv_lload_n hx hb hc1 rfl (wq_at hl ‹wq_lk _ _ = some _›) (ih _ _ _ _ _ _ hc2 h H locs ls hP hD hS hl)
      · exact h
    case iload =>
      unfold wq at h; dsimp only at h
      split at h
      · intro H locs ls hP hD hS hl
        exact lv_iload hx hb hc1 (wq_at hl ‹wq_lk _ _ = some _›) (ih _ _ _ _ _ _ hc2 h H locs ls hP hD hS hl)
      · exact h
    case lload =>
      unfold wq at h; dsimp only at h
      split at h
      · intro H locs ls hP hD hS hl
        exact lv_lload hx hb hc1 (wq_at hl ‹wq_lk _ _ = some _›) (ih _ _ _ _ _ _ hc2 h H locs ls hP hD hS hl)
      · exact h
    case aload_n =>
      unfold wq at h; dsimp only at h
      split at h
      · intro H locs ls hP hD hS hl
        exact lv_aload_n hx hb hc1 rfl (wq_at hl ‹wq_lk _ _ = some _›) (ih _ _ _ _ _ _ hc2 h H locs ls hP hD hS hl)
      · intro H locs ls hP hD hS hl
        exact lv_aload_nN hx hb hc1 rfl (wq_at hl ‹wq_lk _ _ = some _›) (ih _ _ _ _ _ _ hc2 h H locs ls hP hD hS hl)
      · exact h
    case aload =>
      unfold wq at h; dsimp only at h
      split at h
      · intro H locs ls hP hD hS hl
        exact lv_aload hx hb hc1 (wq_at hl ‹wq_lk _ _ = some _›) (ih _ _ _ _ _ _ hc2 h H locs ls hP hD hS hl)
      · intro H locs ls hP hD hS hl
        exact lv_aloadN hx hb hc1 (wq_at hl ‹wq_lk _ _ = some _›) (ih _ _ _ _ _ _ hc2 h H locs ls hP hD hS hl)
      · exact h
    case istore_n =>
      unfold wq at h; dsimp only at h
      split at h
      · intro H locs ls hP hD hS hl
        exact lv_istore_n hx hb hc1 rfl hl (of_decide_eq_true hk) rfl (fun ls hl => ih _ _ _ _ _ _ hc2 h H locs ls hP hD hS hl)
      · exact h
    case istore =>
      unfold wq at h; dsimp only at h
      split at h
      · intro H locs ls hP hD hS hl
        exact lv_istore hx hb hc1 hl (of_decide_eq_true hk) rfl (fun ls hl => ih _ _ _ _ _ _ hc2 h H locs ls hP hD hS hl)
      · exact h
    case lstore_n =>
      unfold wq at h; dsimp only at h
      split at h
      · intro H locs ls hP hD hS hl
        exact lv_lstore_n hx hb hc1 rfl hl (of_decide_eq_true hk) rfl (fun ls hl => ih _ _ _ _ _ _ hc2 h H locs ls hP hD hS hl)
      · exact h
    case lstore =>
      unfold wq at h; dsimp only at h
      split at h
      · intro H locs ls hP hD hS hl
        exact lv_lstore hx hb hc1 hl (of_decide_eq_true hk) rfl (fun ls hl => ih _ _ _ _ _ _ hc2 h H locs ls hP hD hS hl)
      · exact h
    case astore_n =>
      unfold wq at h; dsimp only at h
      split at h
      · intro H locs ls hP hD hS hl
        exact lv_astore_n hx hb hc1 rfl hl (of_decide_eq_true hk) rfl (fun ls hl => ih _ _ _ _ _ _ hc2 h H locs ls hP hD hS hl)
      · intro H locs ls hP hD hS hl
        exact lv_astore_nN hx hb hc1 rfl hl (of_decide_eq_true hk) rfl (fun ls hl => ih _ _ _ _ _ _ hc2 h H locs ls hP hD hS hl)
      · exact h
    case astore =>
      unfold wq at h; dsimp only at h
      split at h
      · intro H locs ls hP hD hS hl
        exact lv_astore hx hb hc1 hl (of_decide_eq_true hk) rfl (fun ls hl => ih _ _ _ _ _ _ hc2 h H locs ls hP hD hS hl)
      · intro H locs ls hP hD hS hl
        exact lv_astoreN hx hb hc1 hl (of_decide_eq_true hk) rfl (fun ls hl => ih _ _ _ _ _ _ hc2 h H locs ls hP hD hS hl)
      · exact h
    case iinc =>
      unfold wq at h; dsimp only at h
      have hk := Bool.and_eq_true_iff.mp hk
      split at h
      · intro H locs ls hP hD hS hl
        obtain ⟨j, hj⟩ := wq_ix ‹wq_lk _ _ = some _›
        exact lv_iinc hx hb hc1 hl hj (by rw [of_decide_eq_true hk.1]) (of_decide_eq_true hk.2) rfl (fun ls hl => ih _ _ _ _ _ _ hc2 h H locs ls hP hD hS hl)
      · exact h
    case iadd =>
      unfold wq at h; dsimp only at h
      split at h
      · intro H locs ls hP hD hS hl
        exact lv_iadd hx hb hc1 (ih _ _ _ _ _ _ hc2 h H locs ls hP hD hS hl)
      · exact h
    case isub =>
      unfold wq at h; dsimp only at h
      split at h
      · intro H locs ls hP hD hS hl
        exact lv_isub hx hb hc1 (ih _ _ _ _ _ _ hc2 h H locs ls hP hD hS hl)
      · exact h
    case imul =>
      unfold wq at h; dsimp only at h
      split at h
      · intro H locs ls hP hD hS hl
        exact lv_imul hx hb hc1 (ih _ _ _ _ _ _ hc2 h H locs ls hP hD hS hl)
      · exact h
    case iand =>
      unfold wq at h; dsimp only at h
      split at h
      · intro H locs ls hP hD hS hl
        exact lv_iand hx hb hc1 (ih _ _ _ _ _ _ hc2 h H locs ls hP hD hS hl)
      · exact h
    case ior =>
      unfold wq at h; dsimp only at h
      split at h
      · intro H locs ls hP hD hS hl
        exact lv_ior hx hb hc1 (ih _ _ _ _ _ _ hc2 h H locs ls hP hD hS hl)
      · exact h
    case ixor =>
      unfold wq at h; dsimp only at h
      split at h
      · intro H locs ls hP hD hS hl
        exact lv_ixor hx hb hc1 (ih _ _ _ _ _ _ hc2 h H locs ls hP hD hS hl)
      · exact h
    case ladd =>
      unfold wq at h; dsimp only at h
      split at h
      · intro H locs ls hP hD hS hl
        exact lv_ladd hx hb hc1 (ih _ _ _ _ _ _ hc2 h H locs ls hP hD hS hl)
      · exact h
    case lsub =>
      unfold wq at h; dsimp only at h
      split at h
      · intro H locs ls hP hD hS hl
        exact lv_lsub hx hb hc1 (ih _ _ _ _ _ _ hc2 h H locs ls hP hD hS hl)
      · exact h
    case lmul =>
      unfold wq at h; dsimp only at h
      split at h
      · intro H locs ls hP hD hS hl
        exact lv_lmul hx hb hc1 (ih _ _ _ _ _ _ hc2 h H locs ls hP hD hS hl)
      · exact h
    case land =>
      unfold wq at h; dsimp only at h
      split at h
      · intro H locs ls hP hD hS hl
        exact lv_land hx hb hc1 (ih _ _ _ _ _ _ hc2 h H locs ls hP hD hS hl)
      · exact h
    case lor =>
      unfold wq at h; dsimp only at h
      split at h
      · intro H locs ls hP hD hS hl
        exact lv_lor hx hb hc1 (ih _ _ _ _ _ _ hc2 h H locs ls hP hD hS hl)
      · exact h
    case lxor =>
      unfold wq at h; dsimp only at h
      split at h
      · intro H locs ls hP hD hS hl
        exact lv_lxor hx hb hc1 (ih _ _ _ _ _ _ hc2 h H locs ls hP hD hS hl)
      · exact h
    case ishl =>
      unfold wq at h; dsimp only at h
      split at h
      · intro H locs ls hP hD hS hl
        exact lv_ishl hx hb hc1 (ih _ _ _ _ _ _ hc2 h H locs ls hP hD hS hl)
      · exact h
    case ishr =>
      unfold wq at h; dsimp only at h
      split at h
      · intro H locs ls hP hD hS hl
        exact lv_ishr hx hb hc1 (ih _ _ _ _ _ _ hc2 h H locs ls hP hD hS hl)
      · exact h
    case ineg =>
      unfold wq at h; dsimp only at h
      split at h
      · intro H locs ls hP hD hS hl
        exact lv_ineg hx hb hc1 (ih _ _ _ _ _ _ hc2 h H locs ls hP hD hS hl)
      · exact h
    case lneg =>
      unfold wq at h; dsimp only at h
      split at h
      · intro H locs ls hP hD hS hl
        exact lv_lneg hx hb hc1 (ih _ _ _ _ _ _ hc2 h H locs ls hP hD hS hl)
      · exact h
    case iushr =>
      unfold wq at h; dsimp only at h
      split at h
      · intro H locs ls hP hD hS hl
        exact lv_iushr hx hb hc1 rfl (ih _ _ _ _ _ _ hc2 h H locs ls hP hD hS hl)
      · exact h
    case lshl =>
      unfold wq at h; dsimp only at h
      split at h
      · intro H locs ls hP hD hS hl
        exact lv_lshl hx hb hc1 rfl (ih _ _ _ _ _ _ hc2 h H locs ls hP hD hS hl)
      · exact h
    case lshr =>
      unfold wq at h; dsimp only at h
      split at h
      · intro H locs ls hP hD hS hl
        exact lv_lshr hx hb hc1 rfl (ih _ _ _ _ _ _ hc2 h H locs ls hP hD hS hl)
      · exact h
    case lushr =>
      unfold wq at h; dsimp only at h
      split at h
      · intro H locs ls hP hD hS hl
        exact lv_lushr hx hb hc1 rfl (ih _ _ _ _ _ _ hc2 h H locs ls hP hD hS hl)
      · exact h
    case i2l =>
      unfold wq at h; dsimp only at h
      split at h
      · intro H locs ls hP hD hS hl
        exact lv_i2l hx hb hc1 rfl (ih _ _ _ _ _ _ hc2 h H locs ls hP hD hS hl)
      · exact h
    case l2i =>
      unfold wq at h; dsimp only at h
      split at h
      · intro H locs ls hP hD hS hl
        exact lv_l2i hx hb hc1 rfl (ih _ _ _ _ _ _ hc2 h H locs ls hP hD hS hl)
      · exact h
    case i2b =>
      unfold wq at h; dsimp only at h
      split at h
      · intro H locs ls hP hD hS hl
        exact lv_i2b hx hb hc1 rfl (ih _ _ _ _ _ _ hc2 h H locs ls hP hD hS hl)
      · exact h
    case i2s =>
      unfold wq at h; dsimp only at h
      split at h
      · intro H locs ls hP hD hS hl
        exact lv_i2s hx hb hc1 rfl (ih _ _ _ _ _ _ hc2 h H locs ls hP hD hS hl)
      · exact h
    case i2c =>
      unfold wq at h; dsimp only at h
      split at h
      · intro H locs ls hP hD hS hl
        exact lv_i2c hx hb hc1 rfl (ih _ _ _ _ _ _ hc2 h H locs ls hP hD hS hl)
      · exact h
    case idiv =>
      unfold wq at h; dsimp only at h
      split at h
      · obtain ⟨hne, h⟩ := h
        intro H locs ls hP hD hS hl
        exact lv_idiv hx hb hc1 hne (ih _ _ _ _ _ _ hc2 h H locs ls hP hD hS hl)
      · exact h
    case irem =>
      unfold wq at h; dsimp only at h
      split at h
      · obtain ⟨hne, h⟩ := h
        intro H locs ls hP hD hS hl
        exact lv_irem hx hb hc1 hne (ih _ _ _ _ _ _ hc2 h H locs ls hP hD hS hl)
      · exact h
    case ldiv =>
      unfold wq at h; dsimp only at h
      split at h
      · obtain ⟨hne, h⟩ := h
        intro H locs ls hP hD hS hl
        exact lv_ldiv hx hb hc1 hne (ih _ _ _ _ _ _ hc2 h H locs ls hP hD hS hl)
      · exact h
    case lrem =>
      unfold wq at h; dsimp only at h
      split at h
      · obtain ⟨hne, h⟩ := h
        intro H locs ls hP hD hS hl
        exact lv_lrem hx hb hc1 hne (ih _ _ _ _ _ _ hc2 h H locs ls hP hD hS hl)
      · exact h
    case lcmp =>
      unfold wq at h; dsimp only at h
      split at h
      · intro H locs ls hP hD hS hl
        exact W.lcmp hx hb hc1 (ih _ _ _ _ _ _ hc2 h H locs ls hP hD hS hl)
      · exact h
    case dup =>
      unfold wq at h; dsimp only at h
      split at h
      · obtain ⟨h1, h⟩ := h
        intro H locs ls hP hD hS hl
        exact lv_dup hx hb hc1 h1 (ih _ _ _ _ _ _ hc2 h H locs ls hP hD hS hl)
      · exact h
    case pop =>
      unfold wq at h; dsimp only at h
      split at h
      · obtain ⟨h1, h⟩ := h
        intro H locs ls hP hD hS hl
        exact lv_pop hx hb hc1 h1 (ih _ _ _ _ _ _ hc2 h H locs ls hP hD hS hl)
      · exact h
    case dup_x1 =>
      unfold wq at h; dsimp only at h
      split at h
      · obtain ⟨h1, h2, h⟩ := h
        intro H locs ls hP hD hS hl
        exact lv_dup_x1 hx hb hc1 h1 h2 (ih _ _ _ _ _ _ hc2 h H locs ls hP hD hS hl)
      · exact h
    case dup2 =>
      unfold wq at h; dsimp only at h
      split at h
      · intro H locs ls hP hD hS hl
        exact lv_dup2_2 hx hb hc1 rfl (ih _ _ _ _ _ _ hc2 h H locs ls hP hD hS hl)
      · obtain ⟨h1, h2, h⟩ := h
        intro H locs ls hP hD hS hl
        exact lv_dup2_11 hx hb hc1 h1 h2 (ih _ _ _ _ _ _ hc2 h H locs ls hP hD hS hl)
      · exact h
    case ifCond =>
      rename_i cond off _
      cases cond
      case eq =>
        unfold wq at h; dsimp only at h
        split at h
        · intro H locs ls hP hD hS hl
          exact lv_if_eq hx hb hc1 (of_decide_eq_true hk) (fun z => h.1 z H locs ls hP hD hS hl) (fun z => ih _ _ _ _ _ _ hc2 (h.2 z) H locs ls hP hD hS hl)
        · exact h
      case ne =>
        unfold wq at h; dsimp only at h
        split at h
        · intro H locs ls hP hD hS hl
          exact lv_if_ne hx hb hc1 (of_decide_eq_true hk) (fun z => h.1 z H locs ls hP hD hS hl) (fun z => ih _ _ _ _ _ _ hc2 (h.2 z) H locs ls hP hD hS hl)
        · exact h
      case lt =>
        unfold wq at h; dsimp only at h
        split at h
        · intro H locs ls hP hD hS hl
          exact lv_if_lt hx hb hc1 (of_decide_eq_true hk) (fun z => h.1 z H locs ls hP hD hS hl) (fun z => ih _ _ _ _ _ _ hc2 (h.2 z) H locs ls hP hD hS hl)
        · exact h
      case ge =>
        unfold wq at h; dsimp only at h
        split at h
        · intro H locs ls hP hD hS hl
          exact lv_if_ge hx hb hc1 (of_decide_eq_true hk) (fun z => h.1 z H locs ls hP hD hS hl) (fun z => ih _ _ _ _ _ _ hc2 (h.2 z) H locs ls hP hD hS hl)
        · exact h
      case gt =>
        unfold wq at h; dsimp only at h
        split at h
        · intro H locs ls hP hD hS hl
          exact lv_if_gt hx hb hc1 (of_decide_eq_true hk) (fun z => h.1 z H locs ls hP hD hS hl) (fun z => ih _ _ _ _ _ _ hc2 (h.2 z) H locs ls hP hD hS hl)
        · exact h
      case le =>
        unfold wq at h; dsimp only at h
        split at h
        · intro H locs ls hP hD hS hl
          exact lv_if_le hx hb hc1 (of_decide_eq_true hk) (fun z => h.1 z H locs ls hP hD hS hl) (fun z => ih _ _ _ _ _ _ hc2 (h.2 z) H locs ls hP hD hS hl)
        · exact h
    case if_icmp =>
      rename_i cond off _
      cases cond
      case eq =>
        unfold wq at h; dsimp only at h
        split at h
        · intro H locs ls hP hD hS hl
          exact lv_icmp_eq hx hb hc1 (of_decide_eq_true hk) (fun z => h.1 z H locs ls hP hD hS hl) (fun z => ih _ _ _ _ _ _ hc2 (h.2 z) H locs ls hP hD hS hl)
        · exact h
      case ne =>
        unfold wq at h; dsimp only at h
        split at h
        · intro H locs ls hP hD hS hl
          exact lv_icmp_ne hx hb hc1 (of_decide_eq_true hk) (fun z => h.1 z H locs ls hP hD hS hl) (fun z => ih _ _ _ _ _ _ hc2 (h.2 z) H locs ls hP hD hS hl)
        · exact h
      case lt =>
        unfold wq at h; dsimp only at h
        split at h
        · intro H locs ls hP hD hS hl
          exact lv_icmp_lt hx hb hc1 (of_decide_eq_true hk) (fun z => h.1 z H locs ls hP hD hS hl) (fun z => ih _ _ _ _ _ _ hc2 (h.2 z) H locs ls hP hD hS hl)
        · exact h
      case ge =>
        unfold wq at h; dsimp only at h
        split at h
        · intro H locs ls hP hD hS hl
          exact lv_icmp_ge hx hb hc1 (of_decide_eq_true hk) (fun z => h.1 z H locs ls hP hD hS hl) (fun z => ih _ _ _ _ _ _ hc2 (h.2 z) H locs ls hP hD hS hl)
        · exact h
      case gt =>
        unfold wq at h; dsimp only at h
        split at h
        · intro H locs ls hP hD hS hl
          exact lv_icmp_gt hx hb hc1 (of_decide_eq_true hk) (fun z => h.1 z H locs ls hP hD hS hl) (fun z => ih _ _ _ _ _ _ hc2 (h.2 z) H locs ls hP hD hS hl)
        · exact h
      case le =>
        unfold wq at h; dsimp only at h
        split at h
        · intro H locs ls hP hD hS hl
          exact lv_icmp_le hx hb hc1 (of_decide_eq_true hk) (fun z => h.1 z H locs ls hP hD hS hl) (fun z => ih _ _ _ _ _ _ hc2 (h.2 z) H locs ls hP hD hS hl)
        · exact h
    case ifnull =>
      unfold wq at h; dsimp only at h
      split at h
      · intro H locs ls hP hD hS hl
        exact lv_ifnull hx hb hc1 (ih _ _ _ _ _ _ hc2 h H locs ls hP hD hS hl)
      · intro H locs ls hP hD hS hl
        exact lv_ifnullN hx hb hc1 (of_decide_eq_true hk) (h H locs ls hP hD hS hl)
      · exact h
    case ifnonnull =>
      unfold wq at h; dsimp only at h
      split at h
      · intro H locs ls hP hD hS hl
        exact lv_ifnonnull hx hb hc1 (of_decide_eq_true hk) (h H locs ls hP hD hS hl)
      · intro H locs ls hP hD hS hl
        exact lv_ifnonnullN hx hb hc1 (ih _ _ _ _ _ _ hc2 h H locs ls hP hD hS hl)
      · exact h
    case goto =>
      unfold wq at h; dsimp only at h
      intro H locs ls hP hD hS hl
      exact lv_goto hx hb hc1 (of_decide_eq_true hk) (h H locs ls hP hD hS hl)
    case getfield =>
      unfold wq at h; dsimp only at h
      split at h
      · split at h
        · split at h
          · obtain ⟨rfl, h⟩ := h
            obtain ⟨⟨i0, c0, k0, m0⟩, hq, rfl, rfl, e3⟩ := wq_ok_spec ‹wq_ok _ _ _ _ = true›
            obtain ⟨C, T, N, g1, g2, g3, g4, g5, g6, g7⟩ := hF _ hq
            dsimp only at e3 g1 g2 g6
            subst e3
            intro H locs ls hP hD hS hl
            rcases g6 with g6 | ⟨host, g6⟩
            · exact va_get hx hb hts g3 hown hK hP _ ‹ws[_]? = some _› g1 _ g2 (hts _ g6) (fun _ z => z) ‹_[_]? = some _› hc1 (ih _ _ _ _ _ _ hc2 h H locs ls hP hD hS hl)
            · exact va_getN hx hb hts g3 hown hK hP _ ‹ws[_]? = some _› g1 _ g2 (hts _ g6) (fun _ z => z) ‹_[_]? = some _› hc1 (ih _ _ _ _ _ _ hc2 h H locs ls hP hD hS hl)
          · exact h
        · exact h
      · split at h
        · obtain ⟨v, ⟨o, nn, d, ref, q1, q2, q3⟩, h⟩ := h
          intro H locs ls hP hD hS hl
          exact vk_getf hx hb q1 hS hown q2 q3 hc1 (ih _ _ _ _ _ _ hc2 h H locs ls hP hD hS hl)
        · exact h
      · exact h
    case putfield =>
      unfold wq at h; dsimp only at h
      split at h
      · split at h
        · split at h
          · obtain ⟨rfl, ⟨h1, h2⟩, h⟩ := h
            obtain ⟨⟨i0, c0, k0, m0⟩, hq, rfl, rfl, e3, e4⟩ := wq_om_spec ‹wq_om _ _ _ _ _ = true›
            obtain ⟨C, T, N, g1, g2, g3, g4, g5, g6, g7, g8⟩ := hF _ hq
            dsimp only at e3 e4 g1 g2 g6 g7 g8
            subst e3
            subst e4
            intro H locs ls hP hD hS hl
            rcases g6 with g6 | ⟨host, g6⟩
            · exact va_put hx hb hts g3 (ty c0) g4 g5 hown hK hP hD hS _ ‹ws[_]? = some _› g1 _ g2 (hts _ g6) (fun _ z => z) (g7 rfl) (g4 _ g2) h1 h2 (Nat.le_of_ble_eq_true ‹Nat.blt _ _ = true›) hc1 (fun H locs hP hD hS => ih _ _ _ _ _ _ hc2 h H locs ls hP hD hS hl)
            · exact va_putN hx hb hts g3 (ty c0) g4 g5 hown hK hP hD hS _ ‹ws[_]? = some _› g1 _ g2 (hts _ g6) (fun _ z => z) (g7 rfl) (g4 _ g2) h1 h2 (Nat.le_of_ble_eq_true ‹Nat.blt _ _ = true›) hc1 (fun H locs hP hD hS => ih _ _ _ _ _ _ hc2 h H locs ls hP hD hS hl)
          · exact h
        · exact h
      · split at h
        · split at h
          · obtain ⟨rfl, ⟨h1, h2⟩, h⟩ := h
            obtain ⟨⟨i0, c0, k0, m0⟩, hq, rfl, rfl, e3, e4⟩ := wq_om_spec ‹wq_om _ _ _ _ _ = true›
            obtain ⟨C, T, N, g1, g2, g3, g4, g5, g6, g7, g8⟩ := hF _ hq
            dsimp only at e3 e4 g1 g2 g6 g7 g8
            subst e3
            subst e4
            intro H locs ls hP hD hS hl
            obtain ⟨f1, f2, f3⟩ := g8 rfl
            exact va_putF hx hb hts g3 (ty c0) g4 g5 hown hK hP hD hS _ ‹ws[_]? = some _› g1 _ g2 (hts _ f3) (fun _ z => z) f1 (hini rfl) f2 (g4 _ g2) h1 h2 (Nat.le_of_ble_eq_true ‹Nat.blt _ _ = true›) hc1 (fun H locs hP hD hS => ih _ _ _ _ _ _ hc2 h H locs ls hP hD hS hl)
          · exact h
        · exact h
      · exact h
    case getstatic =>
      unfold wq at h; dsimp only at h
      split at h
      · obtain ⟨v, ⟨C, nn, d, ref, q1, q2, q3⟩, h⟩ := h
        intro H locs ls hP hD hS hl
        rcases q2 with q2 | ⟨host, q2⟩
        · exact va_gets hx hb q1 hS hown q2 q3 hc1 (ih _ _ _ _ _ _ hc2 h H locs ls hP hD hS hl)
        · exact va_getsN hx hb q1 hS hown q2 q3 hc1 (ih _ _ _ _ _ _ hc2 h H locs ls hP hD hS hl)
      · exact h
    case ldc =>
      unfold wq at h; dsimp only at h
      split at h
      · obtain ⟨q1, h⟩ := h
        intro H locs ls hP hD hS hl
        rcases q1 with ⟨x, e1, q1⟩ | ⟨x, e1, q1⟩ | ⟨tx, q, e1, q1⟩
        · cases e1
          exact lv_ldc hx hb hown q1 hc1 (ih _ _ _ _ _ _ hc2 h H locs ls hP hD hS hl)
        · cases e1
        · cases e1
      · obtain ⟨a, q1, h⟩ := h
        intro H locs ls hP hD hS hl
        rcases q1 with ⟨x, e1, q1⟩ | ⟨x, e1, q1⟩ | ⟨tx, q, e1, q1⟩
        · cases e1
        · cases e1
        · cases e1
          exact va_ldcS hx hb hown q1 hc1 (ih _ _ _ _ _ _ hc2 h H locs ls hP hD hS hl)
      · exact h
    case ldc2_w =>
      unfold wq at h; dsimp only at h
      split at h
      · obtain ⟨q1, h⟩ := h
        intro H locs ls hP hD hS hl
        rcases q1 with ⟨x, e1, q1⟩ | ⟨x, e1, q1⟩ | ⟨tx, q, e1, q1⟩
        · cases e1
        · cases e1
          exact lv_ldc2 hx hb hown q1 hc1 (ih _ _ _ _ _ _ hc2 h H locs ls hP hD hS hl)
        · cases e1
      · exact h
    case iaload =>
      unfold wq at h; dsimp only at h
      split at h
      · split at h
        · obtain ⟨rfl, rfl, h1, h⟩ := h
          intro H locs ls hP hD hS hl
          exact va_iald hx hb hK hP _ 0 ‹ws[_]? = some _› ht0 h1 hc1 (ih _ _ _ _ _ _ hc2 h H locs ls hP hD hS hl)
        · exact h
      · split at h
        · obtain ⟨N, f, h1, h2, h⟩ := h
          intro H locs ls hP hD hS hl
          exact va_ti hx hb h1 hS h2 rfl hc1 (ih _ _ _ _ _ _ hc2 h H locs ls hP hD hS hl)
        · exact h
      · exact h
    case baload =>
      unfold wq at h; dsimp only at h
      split at h
      · split at h
        · obtain ⟨rfl, rfl, h1, h⟩ := h
          intro H locs ls hP hD hS hl
          exact va_bald hx hb hK hP _ 1 ‹ws[_]? = some _› ht1 h1 hc1 (ih _ _ _ _ _ _ hc2 h H locs ls hP hD hS hl)
        · exact h
      · split at h
        · obtain ⟨N, f, h1, h2, h⟩ := h
          intro H locs ls hP hD hS hl
          exact va_tb hx hb h1 hS h2 rfl hc1 (ih _ _ _ _ _ _ hc2 h H locs ls hP hD hS hl)
        · exact h
      · exact h
    case iastore =>
      unfold wq at h; dsimp only at h
      split at h
      · split at h
        · obtain ⟨rfl, rfl, h1, h⟩ := h
          intro H locs ls hP hD hS hl
          exact va_iast hx hb hK hP hD hS _ 0 ‹ws[_]? = some _› ht0 h1 hc1 (fun H locs hP hD hS => ih _ _ _ _ _ _ hc2 h H locs ls hP hD hS hl)
        · exact h
      · exact h
    case arraylength =>
      unfold wq at h; dsimp only at h
      split at h
      · split at h
        · obtain ⟨rfl, h1, h⟩ := h
          intro H locs ls hP hD hS hl
          have he := ‹ws[_]? = some _›
          rcases h1 with rfl | rfl
          · exact va_alen hx hb hK hP _ 0 he ht0 rfl hc1 (ih _ _ _ _ _ _ hc2 h H locs ls hP hD hS hl)
          · exact va_alen hx hb hK hP _ 1 he ht1 rfl hc1 (ih _ _ _ _ _ _ hc2 h H locs ls hP hD hS hl)
        · exact h
      · split at h
        · obtain ⟨y, N, f, h1, h⟩ := h
          intro H locs ls hP hD hS hl
          exact va_tlen hx hb h1 hS rfl hc1 (ih _ _ _ _ _ _ hc2 h H locs ls hP hD hS hl)
        · exact h
      · exact h
    all_goals exact h
end
section
/-! CONTRACTS over cells, and calls by them -/
def Qp (D : va_G) (cl : List vw_C) (A : Nat → Prop) (post : Option Value → va_W → Prop) : Array Value → State → Outcome → State → Prop := fun _ st oc t => (∃ (r : Option Value) (w1 : va_W), oc = .returned r ∧ post r w1 ∧ va_P D cl w1 t.heap ∧ va_D A w1) ∧ va_F A st t
/-- facts about cells that are only read: they don't mind frames, writes elsewhere, fewer writes -/
def RO (F : (Nat → Prop) → State → Heap → Prop) : Prop := (∀ (A : Nat → Prop) (u U : State) (H : Heap), u.vm.Alike U.vm → F A u H → F A U H) ∧ (∀ (A : Nat → Prop) (U : State) (H H1 : Heap), (∀ a : Nat, a < H.size → ¬ A a → H1[a]? = H[a]?) → F A U H → F A U H1) ∧ (∀ (A B : Nat → Prop) (U : State) (H : Heap), (∀ q, B q → A q) → F A U H → F B U H)
def Kp (D : va_G) (cl : List vw_C) (tys : List (ClassId × FieldType)) (F : (Nat → Prop) → State → Heap → Prop) (ar : List Value) (ws : va_W) (sz : Nat) : Array Value → State → Prop := va_Pc ar (fun U => U.heap.size = sz ∧ va_P D cl ws U.heap ∧ va_K D cl tys U ∧ va_D (fun _ => True) ws ∧ F (va_A ws sz) U U.heap)
/-- a method's contract: from the cells ws and the read facts F it answers by post, at most mc cells of ms slots are new -/
def Kt (l : Launch) (y : MethodName) (wds : List Cond) (fr lo mc ms : Nat) (D : va_G) (cl : List vw_C) (tys : List (ClassId × FieldType)) (F : (Nat → Prop) → State → Heap → Prop) (ar : List Value) (ws : va_W) (post : Option Value → va_W → Prop) : Prop :=
  RO F ∧ ∀ sz : Nat, Met l y wds { frames := fr, cells := mc, slots := ms, locals := lo } (Kp D cl tys F ar ws sz) (Qp D cl (va_A ws sz) post) mc ms (va_A ws sz)
theorem Kp.blind {D : va_G} {cl : List vw_C} {tys : List (ClassId × FieldType)} {F : (Nat → Prop) → State → Heap → Prop} {ar : List Value} {ws : va_W} {sz : Nat} (hF : RO F) : FrameBlind (Kp D cl tys F ar ws sz) := by
  intro a U g mk q
  obtain ⟨q0, q1, qP, qK, qD, qF⟩ := q
  exact ⟨q0, q1, qP, va_K.moved (u := U) (U := U.calling g mk a) (Vm.Alike.refl U.vm) qK, qD, hF.1 _ U (U.calling g mk a) _ (Vm.Alike.refl U.vm) qF⟩
set_option maxHeartbeats 1000000 in
/-- a contract out of a walk -/
theorem Kt.of {l : Launch} {y : MethodName} {wds ws' : List Cond} {fr lo mc ms : Nat} {D : va_G} {cl : List vw_C} {tys : List (ClassId × FieldType)} {F : (Nat → Prop) → State → Heap → Prop} {ar : List Value} {ws : va_W} {post : Option Value → va_W → Prop} {cc : ByteArray} {nL : Nat} {ret : Option FieldType} {tc : Nat → ClassId}
    (hF : RO F) (hy : plainName y.cls = true) (hw : wds = Cond.code y cc nL ret :: ws') (ht0 : tys[0]? = some (tc 0, .int)) (ht1 : tys[1]? = some (tc 1, .byte)) (hlen : (lg_sl ar).length ≤ nL)
    (body : ∀ (p : Program) (e : Env) (s : State) (m : MethodId) (args : Array Value) (below : List Frame) (meth : Method) (c : Code) (A : Nat → Prop), Cx p s m args c cc nL y.cls wds D cl tys A tc → meth.sig.returnType = ret → meth.locks = false → meth.name = y.name → F A s s.heap →
      Vx p l e { frames := fr, cells := mc, slots := ms, locals := lo } s m args below meth c nL D cl A (MQ below (Qp D cl A post) args s mc ms A) 0 (lv_args 0 ar) [] ws 0 0) :
    Kt l y wds fr lo mc ms D cl tys F ar ws post := by
  refine ⟨hF, fun sz => ?_⟩
  refine Met.ofW (cc := cc) (maxL := nL) (ret := ret) hy hw ?_
  intro p e s m args below meth c s₁ B hml hv
  obtain ⟨rfl, hsz, hP, hK, hD0, hf⟩ := hv
  have hts := atoms_spec (ws := wds) B.pre
  have hown : s.vm.findClass y.cls = some m.cls := findClass_of_methodNamed B.named
  have hnm : meth.name = y.name := (name_of_methodNamed B.named B.method).1
  subst hsz
  have hD := hD0.self (sz := s.heap.size)
  generalize hAe : va_A ws s.heap.size = A at hD hf ⊢
  have hA : ∀ q : Nat, s.heap.size ≤ q → A q := fun q h => by rw [← hAe]; exact Or.inr h
  have hS : va_S A s.heap s.heap [] := va_S.rf
  have hl := lv_entry ar (n := nL) hlen
  rw [lg_entry_eq]
  exact body p e s m _ below meth c A ⟨B.exec, B.bytes, hml, hown, hts, hK, hA, ht0, ht1⟩ B.returns B.notSynchronized hnm hf s.heap [] _ hP hD hS hl
section
variable {p : Program} {l : Launch} {e : Env} {R : Room} {s : State} {m : MethodId} {args : Array Value} {below : List Frame} {meth : Method} {c : Code} {cc : ByteArray} {nL : Nat} {own : String} {Ts : List Cond} {D : va_G} {cl : List vw_C} {tys : List (ClassId × FieldType)} {A : Nat → Prop} {tc : Nat → ClassId} {Q : State → Prop} {pc : Nat} {lv lv' : wq_L} {st rest : List Value} {ws wc wr ws2 : va_W} {k n mc ms : Nat} {post : Option Value → va_W → Prop} {F : (Nat → Prop) → State → Heap → Prop}
/-- fewer locals and cells, in another order -/
theorem Vx.sub (is : List Nat) (hl : lv_pick lv is = lv') (js : List Nat) (hn : va_nd js = true) (hw : js.map (fun i => ws[i]?) = ws2.map some) (h : Vx p l e R s m args below meth c nL D cl A Q pc lv' st ws2 k n) : Vx p l e R s m args below meth c nL D cl A Q pc lv st ws k n := by
  intro H locs ls hP hD hS hl0
  refine h H locs ls ?_ (hD.sub js hn hw) hS (lv_sub hl0 is hl)
  intro j q hq
  have h1 : (js.map (fun i => ws[i]?))[j]? = some (some q) := by rw [hw, List.getElem?_map, hq]; rfl
  rw [List.getElem?_map] at h1
  cases hi : js[j]? with
  | none => rw [hi] at h1; cases h1
  | some i => rw [hi] at h1; exact hP i q (Option.some.inj h1)
theorem Vx.subL (is : List Nat) (hl : lv_pick lv is = lv') (h : Vx p l e R s m args below meth c nL D cl A Q pc lv' st ws k n) : Vx p l e R s m args below meth c nL D cl A Q pc lv st ws k n :=
  fun H locs ls hP hD hS hl0 => h H locs ls hP hD hS (lv_sub hl0 is hl)
theorem Vx.wide {k2 n2 : Nat} (h1 : k ≤ k2) (h2 : n ≤ n2) (h : Vx p l e R s m args below meth c nL D cl A Q pc lv st ws k2 n2) : Vx p l e R s m args below meth c nL D cl A Q pc lv st ws k n :=
  fun H locs ls hP hD hS hl0 => W.widen h1 h2 (h H locs ls hP hD hS hl0)
theorem Vx.eqs {lv2 : wq_L} {st2 : List Value} {w2 : va_W} {pc2 : Nat} (h0 : pc = pc2) (h1 : lv = lv2) (h2 : st = st2) (h3 : ws = w2) (h : Vx p l e R s m args below meth c nL D cl A Q pc2 lv2 st2 w2 k n) : Vx p l e R s m args below meth c nL D cl A Q pc lv st ws k n := by
  subst h0; subst h1; subst h2; subst h3; exact h
theorem vx_iret (hC : Cx p s m args c cc nL own Ts D cl tys A tc) (hr : meth.sig.returnType = some .int) (hlk : meth.locks = false) {v : Int32} (hp : post (some (.int v)) ws) (hk : k ≤ mc) (hn : n ≤ ms) (hdg : decode cc pc = .ok (.ireturn, 1)) :
    Vx p l e R s m args below meth c nL D cl A (MQ below (Qp D cl A post) args s mc ms A) pc lv [.int v] ws k n :=
  fun H locs ls hP hD hS hl0 => W.widen hk hn (W.iret hC.1 hC.2.1 hr (fun t ht hW => ⟨⟨_, ws, rfl, hp, by rw [ht]; exact hP, hD⟩, hS.F ht⟩) hS.2.2 hdg hlk)
theorem vx_zret {ty : FieldType} (hC : Cx p s m args c cc nL own Ts D cl tys A tc) (hr : meth.sig.returnType = some ty) (hlk : meth.locks = false) {v : Int32} (hv : narrow ty (.int v) = .int v) (hp : post (some (.int v)) ws) (hk : k ≤ mc) (hn : n ≤ ms) (hdg : decode cc pc = .ok (.ireturn, 1)) :
    Vx p l e R s m args below meth c nL D cl A (MQ below (Qp D cl A post) args s mc ms A) pc lv [.int v] ws k n :=
  fun H locs ls hP hD hS hl0 => W.widen hk hn (W.zret hC.1 hC.2.1 hr hv (fun t ht hW => ⟨⟨_, ws, rfl, hp, by rw [ht]; exact hP, hD⟩, hS.F ht⟩) hS.2.2 hdg hlk)
theorem vx_lret (hC : Cx p s m args c cc nL own Ts D cl tys A tc) (hr : meth.sig.returnType = some .long) (hlk : meth.locks = false) {v : Int64} (hp : post (some (.long v)) ws) (hk : k ≤ mc) (hn : n ≤ ms) (hdg : decode cc pc = .ok (.lreturn, 1)) :
    Vx p l e R s m args below meth c nL D cl A (MQ below (Qp D cl A post) args s mc ms A) pc lv [.long v] ws k n :=
  fun H locs ls hP hD hS hl0 => W.widen hk hn (W.lret hC.1 hC.2.1 hr (fun t ht hW => ⟨⟨_, ws, rfl, hp, by rw [ht]; exact hP, hD⟩, hS.F ht⟩) hS.2.2 hdg hlk)
theorem vx_vret (hC : Cx p s m args c cc nL own Ts D cl tys A tc) (hr : meth.sig.returnType = none) (hlk : meth.locks = false) (hp : post none ws) (hk : k ≤ mc) (hn : n ≤ ms) (hdg : decode cc pc = .ok (.return_, 1)) :
    Vx p l e R s m args below meth c nL D cl A (MQ below (Qp D cl A post) args s mc ms A) pc lv [] ws k n :=
  fun H locs ls hP hD hS hl0 => W.widen hk hn (W.vret hC.1 hC.2.1 hr (fun t ht hW => ⟨⟨_, ws, rfl, hp, by rw [ht]; exact hP, hD⟩, hS.F ht⟩) hS.2.2 hdg hlk)
theorem vx_aret {rt : FieldType} (hC : Cx p s m args c cc nL own Ts D cl tys A tc) (hr : meth.sig.returnType = some rt) (hrt : (∃ n, rt = .object n) ∨ ∃ t, rt = .array t) (hlk : meth.locks = false) {v : Value} (hv : v = .null ∨ ∃ a, v = .ref a) (hp : post (some v) ws) (hk : k ≤ mc) (hn : n ≤ ms) (hdg : decode cc pc = .ok (.areturn, 1)) :
    Vx p l e R s m args below meth c nL D cl A (MQ below (Qp D cl A post) args s mc ms A) pc lv [v] ws k n :=
  fun H locs ls hP hD hS hl0 => W.widen hk hn (W.aret hC.1 hC.2.1 hr hrt hv (fun t ht hW => ⟨⟨_, ws, rfl, hp, by rw [ht]; exact hP, hD⟩, hS.F ht⟩) hS.2.2 hdg hlk)
set_option maxHeartbeats 1000000 in
/-- the frame rule at a call -/
theorem vx_call (hA : ∀ q : Nat, s.heap.size ≤ q → A q) {a : Array Value}
    (hrun : ∀ (H : Heap) (locs : List Loc) (ls : Array Slot), va_P D cl ws H → va_D A ws → va_S A s.heap H locs → lv_has ls nL lv → va_Run p l e R s m args below meth c H locs k n mc ms (F0 m pc ls st) rest (Qp D cl (va_A wc H.size) post a) (va_A wc H.size))
    (isC isR : List Nat) (hC : isC.map (fun i => ws[i]?) = wc.map some) (hR : isR.map (fun i => ws[i]?) = wr.map some) (hn : va_nd isR = true) (hdis : ∀ i ∈ isR, i ∉ isC)
    (kk : ∀ (r : Option Value) (w1 : va_W), post r w1 → Vx p l e R s m args below meth c nL D cl A Q (pc + 3) lv (r.toList ++ rest) (wr ++ w1) (k + mc) (n + ms)) :
    Vx p l e R s m args below meth c nL D cl A Q pc lv st ws k n := by
  intro H locs ls hP hD hS hl T hT X
  obtain ⟨v, st₀, t, T', L, h0, X', hL, e1, e2, ⟨⟨r, w1, hv, hp, hP1, hD1⟩, hz, hk⟩, stp⟩ := hrun H locs ls hP hD hS hl T hT X
  cases hv
  rw [h0] at hz hk
  have hFc := va_free hD hS hA isC hC
  obtain ⟨hP2, hD2⟩ := va_join hP hD isC isR hC hR hn hdis (H1 := T'.heap) (fun q h1 h2 => by rw [e1]; exact hk q h1 h2) hFc (by rw [e1]; exact hP1) hD1
  have hS2 : va_S A s.heap T'.heap (locs ++ L) := ⟨Nat.le_trans hS.1 (by rw [e1]; exact hz), fun q h1 h2 => by rw [e1, hk q (Nat.lt_of_lt_of_le h1 hS.1) (fun z => h2 (hFc q z))]; exact hS.2.1 q h1 h2, fun q hq => by
      rcases List.mem_append.mp hq with h | h
      · exact hS.2.2 q h
      · exact hFc _ (hL q h)⟩
  obtain ⟨t2, a1, b1⟩ := kk _ w1 hp T'.heap (locs ++ L) ls hP2 hD2 hS2 hl T' rfl X'
  exact ⟨t2, stp t2 a1, b1⟩
/-- read facts at a call: what held at the method's start holds for the callee -/
theorem vx_ro (hF : RO F) (hA : ∀ q : Nat, s.heap.size ≤ q → A q) (h : F A s s.heap) (isC : List Nat) (hC : isC.map (fun i => ws[i]?) = wc.map some) : ∀ (H : Heap) (locs : List Loc), va_P D cl ws H → va_D A ws → va_S A s.heap H locs → F (va_A wc H.size) s H :=
  fun H locs _ hD hS => hF.2.2 A _ s H (va_free hD hS hA isC hC) (hF.2.1 A s s.heap H (fun a h1 h2 => hS.2.1 a h1 h2) h)
variable {y : MethodName} {bytes : ByteArray} {maxL index nA fr lo : Nat} {ret : Option FieldType} {wds : List Cond} {C : String} {b : Nat} {As : List Value}
set_option maxHeartbeats 1000000 in
theorem vx_callV (hC : Cx p s m args c cc nL own Ts D cl tys A tc) (hk : Kt l y wds fr lo mc ms D cl tys F (.ref b :: As) wc post) (cw : CallW R s args own C index y bytes maxL ret wds { frames := fr, cells := mc, slots := ms, locals := lo } mc ms nA)
    (isC isR : List Nat) (hc : isC.map (fun i => ws[i]?) = wc.map some) (hr : isR.map (fun i => ws[i]?) = wr.map some) (hnC : va_nd isC = true) (hn : va_nd isR = true) (hdis : ∀ i ∈ isR, i ∉ isC)
    {q0 ci : Nat} {fs : List Value} {rc : vw_C} (hq : wc[q0]? = some (b, .inr (ci, fs))) (hci : cl[ci]? = some rc) (hrc : rc.1 = C) (hF : ∀ (H : Heap) (locs : List Loc), va_P D cl ws H → va_D A ws → va_S A s.heap H locs → F (va_A wc H.size) s H)
    (hlen : As.length = nA) (hst : st = As.reverse ++ .ref b :: rest) (hW : (rest.map fun v => v.category).sum ≤ 8) (hdg : decode cc pc = .ok (.invokevirtual index, 3)) (hf : k + mc ≤ R.cells ∧ n + ms ≤ R.slots)
    (kk : ∀ (r : Option Value) (w1 : va_W), post r w1 → Vx p l e R s m args below meth c nL D cl A Q (pc + 3) lv (r.toList ++ rest) (wr ++ w1) (k + mc) (n + ms)) :
    Vx p l e R s m args below meth c nL D cl A Q pc lv st ws k n := by
  subst hst
  subst hrc
  obtain ⟨hx, hb, hml, hown, hts, hK, hA, ht0, ht1⟩ := hC
  refine vx_call hA (post := post) (a := (Value.ref b :: As).toArray) (fun H locs ls hP hD hS hl => ?_) isC isR hc hr hn hdis kk
  have hPc : va_P D cl wc H := by
    intro j q hq
    have h1 : (isC.map (fun i => ws[i]?))[j]? = some (some q) := by rw [hc, List.getElem?_map, hq]; rfl
    rw [List.getElem?_map] at h1
    cases hi : isC[j]? with
    | none => rw [hi] at h1; cases h1
    | some i => rw [hi] at h1; exact hP i q (Option.some.inj h1)
  have hDc := hD.sub isC hnC hc
  exact va_runV (As := As) (rest := rest) ⟨hx, hb, hml, hown, hts⟩ (hk.2 H.size) cw ⟨Kp.blind hk.1, va_recv hK hPc hci hq, fun U hU hW => ⟨rfl, by rw [hU], by rw [hU]; exact hPc, va_K.moved hW.alike hK, hDc.weaken (fun _ _ _ _ => trivial), by rw [hU]; exact hk.1.1 _ s U H hW.alike (hF H locs hP hD hS)⟩⟩ rfl hlen hl.1 rfl (lv_room hW) hdg hf
end
end
