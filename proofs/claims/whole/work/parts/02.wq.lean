/-! STRAIGHT STRETCHES: 'wq' reads a list of instructions and says what is left to be shown; 'wq_sound' says that it is enough. -/
abbrev wq_L : Type := List (Nat × Value)
/-- an annotation: flag, place, slot, an int, a long -/
abbrev wq_A : Type := Nat × Nat × Nat × Int32 × Int64
abbrev wq_J : Type := List (Jvm.ClassFile.Instr × wq_A)
def wq_lk (lv : wq_L) (i : Nat) : Option Value := (lv.find? (fun q => q.1 == i)).map (fun q => q.2)
def wq_s1 (lv : wq_L) (i : Nat) (v : Value) : wq_L := (i, v) :: lv.filter (fun q => !(q.1 == i) && !(q.1 + 1 == i && q.2.category == 2))
def wq_s2 (lv : wq_L) (i : Nat) (v : Value) : wq_L := (i, v) :: lv.filter (fun q => !(q.1 == i) && (!(q.1 == i + 1) && !(q.1 + 1 == i && q.2.category == 2)))
def wq_ok (ft : List (Nat × Nat × Nat × Nat)) (idx ci k : Nat) : Bool := ft.any (fun q => Nat.beq q.1 idx && (Nat.beq q.2.1 ci && Nat.beq q.2.2.1 k))
def wq_om (ft : List (Nat × Nat × Nat × Nat)) (idx ci k md : Nat) : Bool := ft.any (fun q => (Nat.beq q.1 idx && (Nat.beq q.2.1 ci && Nat.beq q.2.2.1 k)) && Nat.beq q.2.2.2 md)
/-- the length of an instruction (of a switch: its annotation) -/
def wq_il (a : wq_A) : Jvm.ClassFile.Instr → Nat
  | .bipush _ => 2
  | .sipush _ => 3
  | .iload _ => 2
  | .lload _ => 2
  | .aload _ => 2
  | .istore _ => 2
  | .lstore _ => 2
  | .astore _ => 2
  | .ldc _ => 2
  | .ldc2_w _ => 3
  | .ldc_w _ => 3
  | .iinc _ _ => 3
  | .ifCond _ _ => 3
  | .if_icmp _ _ => 3
  | .if_acmp _ _ => 3
  | .ifnull _ => 3
  | .ifnonnull _ => 3
  | .goto _ => 3
  | .getfield _ => 3
  | .putfield _ => 3
  | .getstatic _ => 3
  | .putstatic _ => 3
  | .invokevirtual _ => 3
  | .invokespecial _ => 3
  | .invokestatic _ => 3
  | .invokeinterface _ _ => 5
  | .new _ => 3
  | .newarray _ => 2
  | .anewarray _ => 3
  | .checkcast _ => 3
  | .instanceof _ => 3
  | .multianewarray _ _ => 4
  | .tableswitch _ _ _ _ => a.2.1
  | .lookupswitch _ _ => a.2.1
  | _ => 1

/-- what of an instruction is decided once: its constant, its target, its local -/
def wq_k (nL : Nat) (an : wq_A) (pc : Nat) : Jvm.ClassFile.Instr → Bool
  | .iconst i => decide (Int32.ofInt i = an.2.2.2.1)
  | .bipush i => decide ((Int8.ofInt i).toInt32 = an.2.2.2.1)
  | .sipush i => decide ((Int16.ofInt i).toInt32 = an.2.2.2.1)
  | .lconst i => decide (Int64.ofNat (i : Nat) = an.2.2.2.2)
  | .iinc i d => decide (Int32.ofInt d = an.2.2.2.1) && decide (i < nL)
  | .istore_n i => decide ((i : Nat) < nL)
  | .istore i => decide (i < nL)
  | .astore_n i => decide ((i : Nat) < nL)
  | .astore i => decide (i < nL)
  | .lstore_n i => decide ((i : Nat) + 1 < nL)
  | .lstore i => decide (i + 1 < nL)
  | .ifCond _ off => decide ((pc : Int) + off = (an.2.1 : Nat))
  | .if_icmp _ off => decide ((pc : Int) + off = (an.2.1 : Nat))
  | .if_acmp _ off => decide ((pc : Int) + off = (an.2.1 : Nat))
  | .ifnull off => decide ((pc : Int) + off = (an.2.1 : Nat))
  | .ifnonnull off => decide ((pc : Int) + off = (an.2.1 : Nat))
  | .goto off => decide ((pc : Int) + off = (an.2.1 : Nat))
  | _ => true

def wq (nL : Nat) (ini : Bool) (tc : Nat → ClassId) (ft : List (Nat × Nat × Nat × Nat)) (ty : Nat → Nat → FieldType) (RT : Nat → Nat → Nat → (Nat → Value) → Prop) (RF : Nat → Nat → Value → Prop) (RZ : Nat → Value → Prop) (RS : Nat → Value → Prop) (SX : Jvm.ClassFile.Instr → Nat → List Value → va_W → Nat → Nat → (List Value → va_W → Nat → Nat → Prop) → Prop) (EN : Option Value → va_W → Nat → Nat → Prop) (V : Nat → wq_L → List Value → va_W → Nat → Nat → Prop) : wq_J → Nat → wq_L → List Value → va_W → Nat → Nat → Prop
  | [], pc, lv, st, ws, k, n => V pc lv st ws k n
  | (ins, an) :: r, pc, lv, st, ws, k, n => match ins with
  | .iconst _ => (wq nL ini tc ft ty RT RF RZ RS SX EN V r (pc + 1) lv (.int an.2.2.2.1 :: st) ws k n)
  | .bipush _ => (wq nL ini tc ft ty RT RF RZ RS SX EN V r (pc + 2) lv (.int an.2.2.2.1 :: st) ws k n)
  | .sipush _ => (wq nL ini tc ft ty RT RF RZ RS SX EN V r (pc + 3) lv (.int an.2.2.2.1 :: st) ws k n)
  | .lconst _ => (wq nL ini tc ft ty RT RF RZ RS SX EN V r (pc + 1) lv (.long an.2.2.2.2 :: st) ws k n)
  | .aconst_null => (wq nL ini tc ft ty RT RF RZ RS SX EN V r (pc + 1) lv (.null :: st) ws k n)
  | .iload_n i => (match wq_lk lv i with
    | some (.int x) => wq nL ini tc ft ty RT RF RZ RS SX EN V r (pc + 1) lv (.int x :: st) ws k n
    | _ => V pc lv st ws k n)
  | .iload i => (match wq_lk lv i with
    | some (.int x) => wq nL ini tc ft ty RT RF RZ RS SX EN V r (pc + 2) lv (.int x :: st) ws k n
    | _ => V pc lv st ws k n)
  | .lload_n i => (match wq_lk lv i with
    | some (.long x) => wq nL ini tc ft ty RT RF RZ RS SX EN V r (pc + 1) lv (.long x :: st) ws k n
    | _ => V pc lv st ws k n)
  | .lload i => (match wq_lk lv i with
    | some (.long x) => wq nL ini tc ft ty RT RF RZ RS SX EN V r (pc + 2) lv (.long x :: st) ws k n
    | _ => V pc lv st ws k n)
  | .aload_n i => (match wq_lk lv i with
    | some (.ref x) => wq nL ini tc ft ty RT RF RZ RS SX EN V r (pc + 1) lv (.ref x :: st) ws k n
    | some .null => wq nL ini tc ft ty RT RF RZ RS SX EN V r (pc + 1) lv (.null :: st) ws k n
    | _ => V pc lv st ws k n)
  | .aload i => (match wq_lk lv i with
    | some (.ref x) => wq nL ini tc ft ty RT RF RZ RS SX EN V r (pc + 2) lv (.ref x :: st) ws k n
    | some .null => wq nL ini tc ft ty RT RF RZ RS SX EN V r (pc + 2) lv (.null :: st) ws k n
    | _ => V pc lv st ws k n)
  | .istore_n i => (match st with
    | .int x :: t => wq nL ini tc ft ty RT RF RZ RS SX EN V r (pc + 1) (wq_s1 lv i (.int x)) t ws k n
    | _ => V pc lv st ws k n)
  | .istore i => (match st with
    | .int x :: t => wq nL ini tc ft ty RT RF RZ RS SX EN V r (pc + 2) (wq_s1 lv i (.int x)) t ws k n
    | _ => V pc lv st ws k n)
  | .lstore_n i => (match st with
    | .long x :: t => wq nL ini tc ft ty RT RF RZ RS SX EN V r (pc + 1) (wq_s2 lv i (.long x)) t ws k n
    | _ => V pc lv st ws k n)
  | .lstore i => (match st with
    | .long x :: t => wq nL ini tc ft ty RT RF RZ RS SX EN V r (pc + 2) (wq_s2 lv i (.long x)) t ws k n
    | _ => V pc lv st ws k n)
  | .astore_n i => (match st with
    | .ref x :: t => wq nL ini tc ft ty RT RF RZ RS SX EN V r (pc + 1) (wq_s1 lv i (.ref x)) t ws k n
    | .null :: t => wq nL ini tc ft ty RT RF RZ RS SX EN V r (pc + 1) (wq_s1 lv i .null) t ws k n
    | _ => V pc lv st ws k n)
  | .astore i => (match st with
    | .ref x :: t => wq nL ini tc ft ty RT RF RZ RS SX EN V r (pc + 2) (wq_s1 lv i (.ref x)) t ws k n
    | .null :: t => wq nL ini tc ft ty RT RF RZ RS SX EN V r (pc + 2) (wq_s1 lv i .null) t ws k n
    | _ => V pc lv st ws k n)
  | .iinc i _ => (match wq_lk lv i with
    | some (.int x) => wq nL ini tc ft ty RT RF RZ RS SX EN V r (pc + 3) (wq_s1 lv i (.int (x + an.2.2.2.1))) st ws k n
    | _ => V pc lv st ws k n)
  | .iadd => (match st with
    | .int y :: .int x :: t => wq nL ini tc ft ty RT RF RZ RS SX EN V r (pc + 1) lv (.int (x + y) :: t) ws k n
    | _ => V pc lv st ws k n)
  | .isub => (match st with
    | .int y :: .int x :: t => wq nL ini tc ft ty RT RF RZ RS SX EN V r (pc + 1) lv (.int (x - y) :: t) ws k n
    | _ => V pc lv st ws k n)
  | .imul => (match st with
    | .int y :: .int x :: t => wq nL ini tc ft ty RT RF RZ RS SX EN V r (pc + 1) lv (.int (x * y) :: t) ws k n
    | _ => V pc lv st ws k n)
  | .iand => (match st with
    | .int y :: .int x :: t => wq nL ini tc ft ty RT RF RZ RS SX EN V r (pc + 1) lv (.int (x &&& y) :: t) ws k n
    | _ => V pc lv st ws k n)
  | .ior => (match st with
    | .int y :: .int x :: t => wq nL ini tc ft ty RT RF RZ RS SX EN V r (pc + 1) lv (.int (x ||| y) :: t) ws k n
    | _ => V pc lv st ws k n)
  | .ixor => (match st with
    | .int y :: .int x :: t => wq nL ini tc ft ty RT RF RZ RS SX EN V r (pc + 1) lv (.int (x ^^^ y) :: t) ws k n
    | _ => V pc lv st ws k n)
  | .ishl => (match st with
    | .int y :: .int x :: t => wq nL ini tc ft ty RT RF RZ RS SX EN V r (pc + 1) lv (.int (x <<< (y &&& 31)) :: t) ws k n
    | _ => V pc lv st ws k n)
  | .ishr => (match st with
    | .int y :: .int x :: t => wq nL ini tc ft ty RT RF RZ RS SX EN V r (pc + 1) lv (.int (x >>> (y &&& 31)) :: t) ws k n
    | _ => V pc lv st ws k n)
  | .iushr => (match st with
    | .int y :: .int x :: t => wq nL ini tc ft ty RT RF RZ RS SX EN V r (pc + 1) lv (.int ((x.toUInt32 >>> (y.toUInt32 &&& Int32.toUInt32 31)).toInt32) :: t) ws k n
    | _ => V pc lv st ws k n)
  | .ladd => (match st with
    | .long y :: .long x :: t => wq nL ini tc ft ty RT RF RZ RS SX EN V r (pc + 1) lv (.long (x + y) :: t) ws k n
    | _ => V pc lv st ws k n)
  | .lsub => (match st with
    | .long y :: .long x :: t => wq nL ini tc ft ty RT RF RZ RS SX EN V r (pc + 1) lv (.long (x - y) :: t) ws k n
    | _ => V pc lv st ws k n)
  | .lmul => (match st with
    | .long y :: .long x :: t => wq nL ini tc ft ty RT RF RZ RS SX EN V r (pc + 1) lv (.long (x * y) :: t) ws k n
    | _ => V pc lv st ws k n)
  | .land => (match st with
    | .long y :: .long x :: t => wq nL ini tc ft ty RT RF RZ RS SX EN V r (pc + 1) lv (.long (x &&& y) :: t) ws k n
    | _ => V pc lv st ws k n)
  | .lor => (match st with
    | .long y :: .long x :: t => wq nL ini tc ft ty RT RF RZ RS SX EN V r (pc + 1) lv (.long (x ||| y) :: t) ws k n
    | _ => V pc lv st ws k n)
  | .lxor => (match st with
    | .long y :: .long x :: t => wq nL ini tc ft ty RT RF RZ RS SX EN V r (pc + 1) lv (.long (x ^^^ y) :: t) ws k n
    | _ => V pc lv st ws k n)
  | .lshl => (match st with
    | .int y :: .long x :: t => wq nL ini tc ft ty RT RF RZ RS SX EN V r (pc + 1) lv (.long (x <<< (y.toInt64 &&& 63)) :: t) ws k n
    | _ => V pc lv st ws k n)
  | .lshr => (match st with
    | .int y :: .long x :: t => wq nL ini tc ft ty RT RF RZ RS SX EN V r (pc + 1) lv (.long (x >>> (y.toInt64 &&& 63)) :: t) ws k n
    | _ => V pc lv st ws k n)
  | .lushr => (match st with
    | .int y :: .long x :: t => wq nL ini tc ft ty RT RF RZ RS SX EN V r (pc + 1) lv (.long ((x.toUInt64 >>> (y.toInt64.toUInt64 &&& Int64.toUInt64 63)).toInt64) :: t) ws k n
    | _ => V pc lv st ws k n)
  | .idiv => (match st with
    | .int y :: .int x :: t => ¬ y = 0 ∧ wq nL ini tc ft ty RT RF RZ RS SX EN V r (pc + 1) lv (.int (x / y) :: t) ws k n
    | _ => V pc lv st ws k n)
  | .irem => (match st with
    | .int y :: .int x :: t => ¬ y = 0 ∧ wq nL ini tc ft ty RT RF RZ RS SX EN V r (pc + 1) lv (.int (x - x / y * y) :: t) ws k n
    | _ => V pc lv st ws k n)
  | .ldiv => (match st with
    | .long y :: .long x :: t => ¬ y = 0 ∧ wq nL ini tc ft ty RT RF RZ RS SX EN V r (pc + 1) lv (.long (x / y) :: t) ws k n
    | _ => V pc lv st ws k n)
  | .lrem => (match st with
    | .long y :: .long x :: t => ¬ y = 0 ∧ wq nL ini tc ft ty RT RF RZ RS SX EN V r (pc + 1) lv (.long (x - x / y * y) :: t) ws k n
    | _ => V pc lv st ws k n)
  | .ineg => (match st with
    | .int x :: t => wq nL ini tc ft ty RT RF RZ RS SX EN V r (pc + 1) lv (.int (-x) :: t) ws k n
    | _ => V pc lv st ws k n)
  | .lneg => (match st with
    | .long x :: t => wq nL ini tc ft ty RT RF RZ RS SX EN V r (pc + 1) lv (.long (-x) :: t) ws k n
    | _ => V pc lv st ws k n)
  | .i2l => (match st with
    | .int x :: t => wq nL ini tc ft ty RT RF RZ RS SX EN V r (pc + 1) lv (.long x.toInt64 :: t) ws k n
    | _ => V pc lv st ws k n)
  | .l2i => (match st with
    | .long x :: t => wq nL ini tc ft ty RT RF RZ RS SX EN V r (pc + 1) lv (.int x.toInt32 :: t) ws k n
    | _ => V pc lv st ws k n)
  | .i2b => (match st with
    | .int x :: t => wq nL ini tc ft ty RT RF RZ RS SX EN V r (pc + 1) lv (.int x.toInt8.toInt32 :: t) ws k n
    | _ => V pc lv st ws k n)
  | .i2s => (match st with
    | .int x :: t => wq nL ini tc ft ty RT RF RZ RS SX EN V r (pc + 1) lv (.int x.toInt16.toInt32 :: t) ws k n
    | _ => V pc lv st ws k n)
  | .i2c => (match st with
    | .int x :: t => wq nL ini tc ft ty RT RF RZ RS SX EN V r (pc + 1) lv (.int (x.toUInt32 % 65536).toInt32 :: t) ws k n
    | _ => V pc lv st ws k n)
  | .lcmp => (match st with
    | .long y :: .long x :: t => wq nL ini tc ft ty RT RF RZ RS SX EN V r (pc + 1) lv (.int (lg_cmp x y) :: t) ws k n
    | _ => V pc lv st ws k n)
  | .dup => (match st with
    | va :: t => va.category = 1 ∧ wq nL ini tc ft ty RT RF RZ RS SX EN V r (pc + 1) lv (va :: va :: t) ws k n
    | _ => V pc lv st ws k n)
  | .pop => (match st with
    | va :: t => va.category = 1 ∧ wq nL ini tc ft ty RT RF RZ RS SX EN V r (pc + 1) lv t ws k n
    | _ => V pc lv st ws k n)
  | .dup_x1 => (match st with
    | va :: vb :: t => va.category = 1 ∧ vb.category = 1 ∧ wq nL ini tc ft ty RT RF RZ RS SX EN V r (pc + 1) lv (va :: vb :: va :: t) ws k n
    | _ => V pc lv st ws k n)
  | .dup2 => (match st with
    | .long x :: t => wq nL ini tc ft ty RT RF RZ RS SX EN V r (pc + 1) lv (.long x :: .long x :: t) ws k n
    | va :: vb :: t => va.category = 1 ∧ vb.category = 1 ∧ wq nL ini tc ft ty RT RF RZ RS SX EN V r (pc + 1) lv (va :: vb :: va :: vb :: t) ws k n
    | _ => V pc lv st ws k n)
  | .ifCond .eq _ => (match st with
    | .int x :: t => (x = 0 → V (an.2.1) lv t ws k n) ∧ (¬ x = 0 → wq nL ini tc ft ty RT RF RZ RS SX EN V r (pc + 3) lv t ws k n)
    | _ => V pc lv st ws k n)
  | .ifCond .ne _ => (match st with
    | .int x :: t => (¬ x = 0 → V (an.2.1) lv t ws k n) ∧ (x = 0 → wq nL ini tc ft ty RT RF RZ RS SX EN V r (pc + 3) lv t ws k n)
    | _ => V pc lv st ws k n)
  | .ifCond .lt _ => (match st with
    | .int x :: t => (x < 0 → V (an.2.1) lv t ws k n) ∧ (¬ x < 0 → wq nL ini tc ft ty RT RF RZ RS SX EN V r (pc + 3) lv t ws k n)
    | _ => V pc lv st ws k n)
  | .ifCond .ge _ => (match st with
    | .int x :: t => (0 ≤ x → V (an.2.1) lv t ws k n) ∧ (¬ 0 ≤ x → wq nL ini tc ft ty RT RF RZ RS SX EN V r (pc + 3) lv t ws k n)
    | _ => V pc lv st ws k n)
  | .ifCond .gt _ => (match st with
    | .int x :: t => (0 < x → V (an.2.1) lv t ws k n) ∧ (¬ 0 < x → wq nL ini tc ft ty RT RF RZ RS SX EN V r (pc + 3) lv t ws k n)
    | _ => V pc lv st ws k n)
  | .ifCond .le _ => (match st with
    | .int x :: t => (x ≤ 0 → V (an.2.1) lv t ws k n) ∧ (¬ x ≤ 0 → wq nL ini tc ft ty RT RF RZ RS SX EN V r (pc + 3) lv t ws k n)
    | _ => V pc lv st ws k n)
  | .if_icmp .eq _ => (match st with
    | .int y :: .int x :: t => (x = y → V (an.2.1) lv t ws k n) ∧ (¬ x = y → wq nL ini tc ft ty RT RF RZ RS SX EN V r (pc + 3) lv t ws k n)
    | _ => V pc lv st ws k n)
  | .if_icmp .ne _ => (match st with
    | .int y :: .int x :: t => (¬ x = y → V (an.2.1) lv t ws k n) ∧ (x = y → wq nL ini tc ft ty RT RF RZ RS SX EN V r (pc + 3) lv t ws k n)
    | _ => V pc lv st ws k n)
  | .if_icmp .lt _ => (match st with
    | .int y :: .int x :: t => (x < y → V (an.2.1) lv t ws k n) ∧ (¬ x < y → wq nL ini tc ft ty RT RF RZ RS SX EN V r (pc + 3) lv t ws k n)
    | _ => V pc lv st ws k n)
  | .if_icmp .ge _ => (match st with
    | .int y :: .int x :: t => (y ≤ x → V (an.2.1) lv t ws k n) ∧ (¬ y ≤ x → wq nL ini tc ft ty RT RF RZ RS SX EN V r (pc + 3) lv t ws k n)
    | _ => V pc lv st ws k n)
  | .if_icmp .gt _ => (match st with
    | .int y :: .int x :: t => (y < x → V (an.2.1) lv t ws k n) ∧ (¬ y < x → wq nL ini tc ft ty RT RF RZ RS SX EN V r (pc + 3) lv t ws k n)
    | _ => V pc lv st ws k n)
  | .if_icmp .le _ => (match st with
    | .int y :: .int x :: t => (x ≤ y → V (an.2.1) lv t ws k n) ∧ (¬ x ≤ y → wq nL ini tc ft ty RT RF RZ RS SX EN V r (pc + 3) lv t ws k n)
    | _ => V pc lv st ws k n)
  | .ifnull _ => (match st with
    | .ref _ :: t => wq nL ini tc ft ty RT RF RZ RS SX EN V r (pc + 3) lv t ws k n
    | .null :: t => V (an.2.1) lv t ws k n
    | _ => V pc lv st ws k n)
  | .ifnonnull _ => (match st with
    | .ref _ :: t => V (an.2.1) lv t ws k n
    | .null :: t => wq nL ini tc ft ty RT RF RZ RS SX EN V r (pc + 3) lv t ws k n
    | _ => V pc lv st ws k n)
  | .goto _ => (V (an.2.1) lv st ws k n)
  | .getfield idx => (match an.1 with
    | 1 => (match st, ws[an.2.1]? with
      | .ref a :: t, some (b, .inr (ci, fs)) => (match wq_ok ft idx ci an.2.2.1, fs[an.2.2.1]? with
        | true, some v => a = b ∧ wq nL ini tc ft ty RT RF RZ RS SX EN V r (pc + 3) lv (v :: t) ws k n
        | _, _ => V pc lv st ws k n)
      | _, _ => V pc lv st ws k n)
    | 2 => (match st with
      | .ref a :: t => ∃ v, RF idx a v ∧ wq nL ini tc ft ty RT RF RZ RS SX EN V r (pc + 3) lv (v :: t) ws k n
      | _ => V pc lv st ws k n)
    | _ => SX (.getfield idx) (wq_il an (.getfield idx)) st ws k n (fun st2 ws2 k2 n2 => wq nL ini tc ft ty RT RF RZ RS SX EN V r (pc + wq_il an (.getfield idx)) lv st2 ws2 k2 n2))
  | .putfield idx => (match an.1 with
    | 1 => (match st, ws[an.2.1]? with
      | v :: .ref a :: t, some (b, .inr (ci, fs)) => (match wq_om ft idx ci an.2.2.1 0, Nat.blt an.2.2.1 fs.length with
        | true, true => a = b ∧ (narrow (ty ci an.2.2.1) v = v ∧ fits (ty ci an.2.2.1) v = true) ∧ wq nL ini tc ft ty RT RF RZ RS SX EN V r (pc + 3) lv t (ws.set an.2.1 (b, .inr (ci, fs.set an.2.2.1 v))) k n
        | _, _ => V pc lv st ws k n)
      | _, _ => V pc lv st ws k n)
    | 3 => (match st, ws[an.2.1]? with
      | v :: .ref a :: t, some (b, .inr (ci, fs)) => (match wq_om ft idx ci an.2.2.1 1, Nat.blt an.2.2.1 fs.length, ini with
        | true, true, true => a = b ∧ (narrow (ty ci an.2.2.1) v = v ∧ fits (ty ci an.2.2.1) v = true) ∧ wq nL ini tc ft ty RT RF RZ RS SX EN V r (pc + 3) lv t (ws.set an.2.1 (b, .inr (ci, fs.set an.2.2.1 v))) k n
        | _, _, _ => V pc lv st ws k n)
      | _, _ => V pc lv st ws k n)
    | _ => SX (.putfield idx) (wq_il an (.putfield idx)) st ws k n (fun st2 ws2 k2 n2 => wq nL ini tc ft ty RT RF RZ RS SX EN V r (pc + wq_il an (.putfield idx)) lv st2 ws2 k2 n2))
  | .getstatic idx => (match an.1 with
    | 2 => ∃ v, RZ idx v ∧ wq nL ini tc ft ty RT RF RZ RS SX EN V r (pc + 3) lv (v :: st) ws k n
    | _ => SX (.getstatic idx) (wq_il an (.getstatic idx)) st ws k n (fun st2 ws2 k2 n2 => wq nL ini tc ft ty RT RF RZ RS SX EN V r (pc + wq_il an (.getstatic idx)) lv st2 ws2 k2 n2))
  | .ldc idx => (match an.1 with
    | 1 => RS idx (.int an.2.2.2.1) ∧ wq nL ini tc ft ty RT RF RZ RS SX EN V r (pc + 2) lv (.int an.2.2.2.1 :: st) ws k n
    | 2 => ∃ q : Nat, RS idx (.ref q) ∧ wq nL ini tc ft ty RT RF RZ RS SX EN V r (pc + 2) lv (.ref q :: st) ws k n
    | _ => SX (.ldc idx) (wq_il an (.ldc idx)) st ws k n (fun st2 ws2 k2 n2 => wq nL ini tc ft ty RT RF RZ RS SX EN V r (pc + wq_il an (.ldc idx)) lv st2 ws2 k2 n2))
  | .ldc2_w idx => (match an.1 with
    | 1 => RS idx (.long an.2.2.2.2) ∧ wq nL ini tc ft ty RT RF RZ RS SX EN V r (pc + 3) lv (.long an.2.2.2.2 :: st) ws k n
    | _ => SX (.ldc2_w idx) (wq_il an (.ldc2_w idx)) st ws k n (fun st2 ws2 k2 n2 => wq nL ini tc ft ty RT RF RZ RS SX EN V r (pc + wq_il an (.ldc2_w idx)) lv st2 ws2 k2 n2))
  | .iaload => (match an.1 with
    | 1 => (match st, ws[an.2.1]? with
      | .int x :: .ref a :: t, some (b, .inl (cA, N, .inl f)) => a = b ∧ cA = tc 0 ∧ vp_in x N ∧ wq nL ini tc ft ty RT RF RZ RS SX EN V r (pc + 1) lv (.int (f x.toNatClampNeg) :: t) ws k n
      | _, _ => V pc lv st ws k n)
    | 2 => (match st with
      | .int x :: .ref a :: t => ∃ (N : Nat) (f : Nat → Value), RT 0 a N f ∧ vp_in x N ∧ wq nL ini tc ft ty RT RF RZ RS SX EN V r (pc + 1) lv (f x.toNatClampNeg :: t) ws k n
      | _ => V pc lv st ws k n)
    | _ => SX (.iaload) (wq_il an (.iaload)) st ws k n (fun st2 ws2 k2 n2 => wq nL ini tc ft ty RT RF RZ RS SX EN V r (pc + wq_il an (.iaload)) lv st2 ws2 k2 n2))
  | .baload => (match an.1 with
    | 1 => (match st, ws[an.2.1]? with
      | .int x :: .ref a :: t, some (b, .inl (cA, N, .inl f)) => a = b ∧ cA = tc 1 ∧ vp_in x N ∧ wq nL ini tc ft ty RT RF RZ RS SX EN V r (pc + 1) lv (.int (f x.toNatClampNeg) :: t) ws k n
      | _, _ => V pc lv st ws k n)
    | 4 => (match st, ws[an.2.1]? with
      | .int x :: .ref a :: t, some (b, .inl (cA, N, .inl f)) => a = b ∧ cA = tc 3 ∧ vp_in x N ∧ wq nL ini tc ft ty RT RF RZ RS SX EN V r (pc + 1) lv (.int (f x.toNatClampNeg) :: t) ws k n
      | _, _ => V pc lv st ws k n)
    | 2 => (match st with
      | .int x :: .ref a :: t => ∃ (N : Nat) (f : Nat → Value), RT 1 a N f ∧ vp_in x N ∧ wq nL ini tc ft ty RT RF RZ RS SX EN V r (pc + 1) lv (f x.toNatClampNeg :: t) ws k n
      | _ => V pc lv st ws k n)
    | _ => SX (.baload) (wq_il an (.baload)) st ws k n (fun st2 ws2 k2 n2 => wq nL ini tc ft ty RT RF RZ RS SX EN V r (pc + wq_il an (.baload)) lv st2 ws2 k2 n2))
  | .laload => (match an.1 with
    | 1 => (match st, ws[an.2.1]? with
      | .int x :: .ref a :: t, some (b, .inl (cA, N, .inr (.inl f))) => a = b ∧ cA = tc 2 ∧ vp_in x N ∧ wq nL ini tc ft ty RT RF RZ RS SX EN V r (pc + 1) lv (.long (f x.toNatClampNeg) :: t) ws k n
      | _, _ => V pc lv st ws k n)
    | 2 => (match st with
      | .int x :: .ref a :: t => ∃ (N : Nat) (f : Nat → Value), RT 2 a N f ∧ vp_in x N ∧ wq nL ini tc ft ty RT RF RZ RS SX EN V r (pc + 1) lv (f x.toNatClampNeg :: t) ws k n
      | _ => V pc lv st ws k n)
    | _ => SX (.laload) (wq_il an (.laload)) st ws k n (fun st2 ws2 k2 n2 => wq nL ini tc ft ty RT RF RZ RS SX EN V r (pc + wq_il an (.laload)) lv st2 ws2 k2 n2))
  | .iastore => (match an.1 with
    | 1 => (match st, ws[an.2.1]? with
      | .int v :: .int x :: .ref a :: t, some (b, .inl (cA, N, .inl f)) => a = b ∧ cA = tc 0 ∧ vp_in x N ∧ wq nL ini tc ft ty RT RF RZ RS SX EN V r (pc + 1) lv t (ws.set an.2.1 (b, .inl (cA, N, .inl (upd f x.toNatClampNeg v)))) k n
      | _, _ => V pc lv st ws k n)
    | _ => SX (.iastore) (wq_il an (.iastore)) st ws k n (fun st2 ws2 k2 n2 => wq nL ini tc ft ty RT RF RZ RS SX EN V r (pc + wq_il an (.iastore)) lv st2 ws2 k2 n2))
  | .bastore => (match an.1 with
    | 1 => (match st, ws[an.2.1]? with
      | .int v :: .int x :: .ref a :: t, some (b, .inl (cA, N, .inl f)) => a = b ∧ cA = tc 1 ∧ vp_in x N ∧ wq nL ini tc ft ty RT RF RZ RS SX EN V r (pc + 1) lv t (ws.set an.2.1 (b, .inl (cA, N, .inl (upd f x.toNatClampNeg (vp_nar .byte v))))) k n
      | _, _ => V pc lv st ws k n)
    | 4 => (match st, ws[an.2.1]? with
      | .int v :: .int x :: .ref a :: t, some (b, .inl (cA, N, .inl f)) => a = b ∧ cA = tc 3 ∧ vp_in x N ∧ wq nL ini tc ft ty RT RF RZ RS SX EN V r (pc + 1) lv t (ws.set an.2.1 (b, .inl (cA, N, .inl (upd f x.toNatClampNeg (vp_nar .boolean v))))) k n
      | _, _ => V pc lv st ws k n)
    | _ => SX (.bastore) (wq_il an (.bastore)) st ws k n (fun st2 ws2 k2 n2 => wq nL ini tc ft ty RT RF RZ RS SX EN V r (pc + wq_il an (.bastore)) lv st2 ws2 k2 n2))
  | .lastore => (match an.1 with
    | 1 => (match st, ws[an.2.1]? with
      | .long v :: .int x :: .ref a :: t, some (b, .inl (cA, N, .inr (.inl f))) => a = b ∧ cA = tc 2 ∧ vp_in x N ∧ wq nL ini tc ft ty RT RF RZ RS SX EN V r (pc + 1) lv t (ws.set an.2.1 (b, .inl (cA, N, .inr (.inl (vp_updL f x.toNatClampNeg v))))) k n
      | _, _ => V pc lv st ws k n)
    | _ => SX (.lastore) (wq_il an (.lastore)) st ws k n (fun st2 ws2 k2 n2 => wq nL ini tc ft ty RT RF RZ RS SX EN V r (pc + wq_il an (.lastore)) lv st2 ws2 k2 n2))
  | .arraylength => (match an.1 with
    | 1 => (match st, ws[an.2.1]? with
      | .ref a :: t, some (b, .inl (cA, N, g)) => a = b ∧ (∃ y : Nat, y < 4 ∧ cA = tc y) ∧ wq nL ini tc ft ty RT RF RZ RS SX EN V r (pc + 1) lv (.int (nI N) :: t) ws k n
      | _, _ => V pc lv st ws k n)
    | 2 => (match st with
      | .ref a :: t => ∃ (y : Nat) (N : Nat) (f : Nat → Value), RT y a N f ∧ wq nL ini tc ft ty RT RF RZ RS SX EN V r (pc + 1) lv (.int (nI N) :: t) ws k n
      | _ => V pc lv st ws k n)
    | _ => SX (.arraylength) (wq_il an (.arraylength)) st ws k n (fun st2 ws2 k2 n2 => wq nL ini tc ft ty RT RF RZ RS SX EN V r (pc + wq_il an (.arraylength)) lv st2 ws2 k2 n2))
  | .ireturn => (match st with
    | [.int v] => EN (some (.int v)) ws k n
    | _ => V pc lv st ws k n)
  | .lreturn => (match st with
    | [.long v] => EN (some (.long v)) ws k n
    | _ => V pc lv st ws k n)
  | .return_ => (match st with
    | [] => EN none ws k n
    | _ => V pc lv st ws k n)
  | .areturn => (match st with
    | [.ref v] => EN (some (.ref v)) ws k n
    | [.null] => EN (some .null) ws k n
    | _ => V pc lv st ws k n)
  | .tableswitch _ _ _ _ => V pc lv st ws k n
  | .lookupswitch _ _ => V pc lv st ws k n
  | ins => SX ins (wq_il an ins) st ws k n (fun st2 ws2 k2 n2 => wq nL ini tc ft ty RT RF RZ RS SX EN V r (pc + wq_il an ins) lv st2 ws2 k2 n2)
