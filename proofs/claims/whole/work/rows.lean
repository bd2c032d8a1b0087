section
-- ===== PART A: goes FIRST, ahead of the names: the tables' words, and 'selects' of the private methods out of them =====
/-- a private method of a class that the tables say can be made, by its rows of tables_1 -/
def lw_okq (q : MethodName × Nat) : Prop := (q.1.cls ≠ "java/lang/invoke/MethodHandle" ∧ q.1.cls ≠ "java/lang/invoke/VarHandle") ∧ Cond.instantiable q.1.cls q.2 ∈ tables_1 ∧ Cond.privateMethod q.1 ∈ tables_1 ∧ Cond.instanceMethod q.1 ∈ tables_1
theorem lw_p0 : lw_okq (⟨"OriginDesk", "codeWithoutChoice", "()I"⟩, 9) := sorry
theorem lw_p1 : lw_okq (⟨"OriginDesk", "choose", "()LOriginDesk$Representation;"⟩, 9) := sorry
theorem lw_p2 : lw_okq (⟨"OriginDesk", "scoreOf", "(LOriginDesk$Representation;)I"⟩, 9) := sorry
theorem lw_p3 : lw_okq (⟨"OriginDesk$Accept", "readTokens", "(LOriginDesk$MediaType;)Z"⟩, 10) := sorry
theorem lw_p4 : lw_okq (⟨"OriginDesk$Accept", "readParameters", "(LOriginDesk$MediaType;)Z"⟩, 10) := sorry
theorem lw_p5 : lw_okq (⟨"OriginDesk$Accept", "weigh", "()V"⟩, 10) := sorry
theorem lw_p6 : lw_okq (⟨"OriginDesk$Languages", "readRange", "(LOriginDesk$Language;)Z"⟩, 7) := sorry
theorem lw_p7 : lw_okq (⟨"OriginDesk$Languages", "fitOf", "(LOriginDesk$Language;)I"⟩, 7) := sorry
theorem lw_p8 : lw_okq (⟨"OriginDesk", "codeFor", "(LOriginDesk$Representation;)I"⟩, 9) := sorry
theorem lw_p9 : lw_okq (⟨"OriginDesk", "isRefused", "(LOriginDesk$Representation;)Z"⟩, 9) := sorry
theorem lw_p10 : lw_okq (⟨"OriginDesk$Tags", "begin", "(LOriginDesk$Request;I)V"⟩, 8) := sorry
theorem lw_p11 : lw_okq (⟨"OriginDesk$Tags", "readTag", "(Ljava/lang/String;)Z"⟩, 8) := sorry
theorem lw_p12 : lw_okq (⟨"OriginDesk$Dates", "takeCommaForm", "()Z"⟩, 10) := sorry
theorem lw_p13 : lw_okq (⟨"OriginDesk$Dates", "takeDay", "()Z"⟩, 10) := sorry
theorem lw_p14 : lw_okq (⟨"OriginDesk$Dates", "takeMonth", "()Z"⟩, 10) := sorry
theorem lw_p15 : lw_okq (⟨"OriginDesk$Dates", "takeYear", "()Z"⟩, 10) := sorry
def lw_privs_1 : List (MethodName × Nat) := [(⟨"OriginDesk", "codeWithoutChoice", "()I"⟩, 9), (⟨"OriginDesk", "choose", "()LOriginDesk$Representation;"⟩, 9), (⟨"OriginDesk", "scoreOf", "(LOriginDesk$Representation;)I"⟩, 9), (⟨"OriginDesk$Accept", "readTokens", "(LOriginDesk$MediaType;)Z"⟩, 10), (⟨"OriginDesk$Accept", "readParameters", "(LOriginDesk$MediaType;)Z"⟩, 10), (⟨"OriginDesk$Accept", "weigh", "()V"⟩, 10), (⟨"OriginDesk$Languages", "readRange", "(LOriginDesk$Language;)Z"⟩, 7), (⟨"OriginDesk$Languages", "fitOf", "(LOriginDesk$Language;)I"⟩, 7), (⟨"OriginDesk", "codeFor", "(LOriginDesk$Representation;)I"⟩, 9), (⟨"OriginDesk", "isRefused", "(LOriginDesk$Representation;)Z"⟩, 9), (⟨"OriginDesk$Tags", "begin", "(LOriginDesk$Request;I)V"⟩, 8), (⟨"OriginDesk$Tags", "readTag", "(Ljava/lang/String;)Z"⟩, 8), (⟨"OriginDesk$Dates", "takeCommaForm", "()Z"⟩, 10), (⟨"OriginDesk$Dates", "takeDay", "()Z"⟩, 10), (⟨"OriginDesk$Dates", "takeMonth", "()Z"⟩, 10), (⟨"OriginDesk$Dates", "takeYear", "()Z"⟩, 10)]
theorem lw_r1 : ∀ q ∈ lw_privs_1, lw_okq q := sorry
theorem lw_p16 : lw_okq (⟨"OriginDesk$Dates", "takeClock", "()Z"⟩, 10) := sorry
theorem lw_p17 : lw_okq (⟨"OriginDesk$Dates", "takeSpaceForm", "()Z"⟩, 10) := sorry
theorem lw_p18 : lw_okq (⟨"OriginDesk$Dates", "takeSpacedDay", "()Z"⟩, 10) := sorry
theorem lw_p19 : lw_okq (⟨"OriginDesk$Dates", "takeDashForm", "()Z"⟩, 10) := sorry
theorem lw_p20 : lw_okq (⟨"OriginDesk$Dates", "takeShortYear", "()Z"⟩, 10) := sorry
theorem lw_p21 : lw_okq (⟨"OriginDesk$Dates", "isInCalendar", "()Z"⟩, 10) := sorry
theorem lw_p22 : lw_okq (⟨"OriginDesk$Dates", "time", "()J"⟩, 10) := sorry
theorem lw_p23 : lw_okq (⟨"OriginDesk", "isUnchanged", "(LOriginDesk$Representation;)Z"⟩, 9) := sorry
theorem lw_p24 : lw_okq (⟨"OriginDesk$Ranges", "readSpec", "(I)Z"⟩, 9) := sorry
theorem lw_p25 : lw_okq (⟨"OriginDesk$Ranges", "keep", "(II)V"⟩, 9) := sorry
theorem lw_p26 : lw_okq (⟨"OriginDesk", "isRangeWanted", "(LOriginDesk$Representation;)Z"⟩, 9) := sorry
theorem lw_p27 : lw_okq (⟨"OriginDesk$Response", "measure", "()I"⟩, 8) := sorry
theorem lw_p28 : lw_okq (⟨"OriginDesk$Response", "partSize", "(I)I"⟩, 8) := sorry
theorem lw_p29 : lw_okq (⟨"OriginDesk$Response", "writeHeading", "(II)V"⟩, 8) := sorry
theorem lw_p30 : lw_okq (⟨"OriginDesk$Response", "byteAmongParts", "(LOriginDesk$Representation;I)I"⟩, 8) := sorry
theorem lw_p31 : lw_okq (⟨"OriginDeskModel", "decide", "()I"⟩, 31) := sorry
def lw_privs_2 : List (MethodName × Nat) := [(⟨"OriginDesk$Dates", "takeClock", "()Z"⟩, 10), (⟨"OriginDesk$Dates", "takeSpaceForm", "()Z"⟩, 10), (⟨"OriginDesk$Dates", "takeSpacedDay", "()Z"⟩, 10), (⟨"OriginDesk$Dates", "takeDashForm", "()Z"⟩, 10), (⟨"OriginDesk$Dates", "takeShortYear", "()Z"⟩, 10), (⟨"OriginDesk$Dates", "isInCalendar", "()Z"⟩, 10), (⟨"OriginDesk$Dates", "time", "()J"⟩, 10), (⟨"OriginDesk", "isUnchanged", "(LOriginDesk$Representation;)Z"⟩, 9), (⟨"OriginDesk$Ranges", "readSpec", "(I)Z"⟩, 9), (⟨"OriginDesk$Ranges", "keep", "(II)V"⟩, 9), (⟨"OriginDesk", "isRangeWanted", "(LOriginDesk$Representation;)Z"⟩, 9), (⟨"OriginDesk$Response", "measure", "()I"⟩, 8), (⟨"OriginDesk$Response", "partSize", "(I)I"⟩, 8), (⟨"OriginDesk$Response", "writeHeading", "(II)V"⟩, 8), (⟨"OriginDesk$Response", "byteAmongParts", "(LOriginDesk$Representation;I)I"⟩, 8), (⟨"OriginDeskModel", "decide", "()I"⟩, 31)]
theorem lw_r2 : ∀ q ∈ lw_privs_2, lw_okq q := sorry
theorem lw_p32 : lw_okq (⟨"OriginDeskModel", "chosenOne", "()I"⟩, 31) := sorry
theorem lw_p33 : lw_okq (⟨"OriginDeskModel", "scoreOf", "(I)I"⟩, 31) := sorry
theorem lw_p34 : lw_okq (⟨"OriginDeskModel", "there", "(I)Z"⟩, 31) := sorry
theorem lw_p35 : lw_okq (⟨"OriginDeskModel", "accepted", "(I)I"⟩, 31) := sorry
theorem lw_p36 : lw_okq (⟨"OriginDeskModel", "open", "(I)V"⟩, 31) := sorry
theorem lw_p37 : lw_okq (⟨"OriginDeskModel", "element", "()Z"⟩, 31) := sorry
theorem lw_p38 : lw_okq (⟨"OriginDeskModel", "gap", "()V"⟩, 31) := sorry
theorem lw_p39 : lw_okq (⟨"OriginDeskModel", "next", "()I"⟩, 31) := sorry
theorem lw_p40 : lw_okq (⟨"OriginDeskModel", "charAt", "(I)I"⟩, 31) := sorry
theorem lw_p41 : lw_okq (⟨"OriginDeskModel", "take", "(I)Z"⟩, 31) := sorry
theorem lw_p42 : lw_okq (⟨"OriginDeskModel", "ended", "()Z"⟩, 31) := sorry
theorem lw_p43 : lw_okq (⟨"OriginDeskModel", "mediaRange", "(I)I"⟩, 31) := sorry
theorem lw_p44 : lw_okq (⟨"OriginDeskModel", "token", "()Z"⟩, 31) := sorry
theorem lw_p45 : lw_okq (⟨"OriginDeskModel", "starred", "(II)Z"⟩, 31) := sorry
theorem lw_p46 : lw_okq (⟨"OriginDeskModel", "isMain", "(III)Z"⟩, 31) := sorry
theorem lw_p47 : lw_okq (⟨"OriginDeskModel", "says", "(IJ)Z"⟩, 31) := sorry
def lw_privs_3 : List (MethodName × Nat) := [(⟨"OriginDeskModel", "chosenOne", "()I"⟩, 31), (⟨"OriginDeskModel", "scoreOf", "(I)I"⟩, 31), (⟨"OriginDeskModel", "there", "(I)Z"⟩, 31), (⟨"OriginDeskModel", "accepted", "(I)I"⟩, 31), (⟨"OriginDeskModel", "open", "(I)V"⟩, 31), (⟨"OriginDeskModel", "element", "()Z"⟩, 31), (⟨"OriginDeskModel", "gap", "()V"⟩, 31), (⟨"OriginDeskModel", "next", "()I"⟩, 31), (⟨"OriginDeskModel", "charAt", "(I)I"⟩, 31), (⟨"OriginDeskModel", "take", "(I)Z"⟩, 31), (⟨"OriginDeskModel", "ended", "()Z"⟩, 31), (⟨"OriginDeskModel", "mediaRange", "(I)I"⟩, 31), (⟨"OriginDeskModel", "token", "()Z"⟩, 31), (⟨"OriginDeskModel", "starred", "(II)Z"⟩, 31), (⟨"OriginDeskModel", "isMain", "(III)Z"⟩, 31), (⟨"OriginDeskModel", "says", "(IJ)Z"⟩, 31)]
theorem lw_r3 : ∀ q ∈ lw_privs_3, lw_okq q := sorry
theorem lw_p48 : lw_okq (⟨"OriginDeskModel", "isWord", "(IIJ)Z"⟩, 31) := sorry
theorem lw_p49 : lw_okq (⟨"OriginDeskModel", "isSub", "(III)Z"⟩, 31) := sorry
theorem lw_p50 : lw_okq (⟨"OriginDeskModel", "semicolon", "()Z"⟩, 31) := sorry
theorem lw_p51 : lw_okq (⟨"OriginDeskModel", "weight", "()Z"⟩, 31) := sorry
theorem lw_p52 : lw_okq (⟨"OriginDeskModel", "assigned", "()Z"⟩, 31) := sorry
theorem lw_p53 : lw_okq (⟨"OriginDeskModel", "quoted", "()Z"⟩, 31) := sorry
theorem lw_p54 : lw_okq (⟨"OriginDeskModel", "separator", "()I"⟩, 31) := sorry
theorem lw_p55 : lw_okq (⟨"OriginDeskModel", "spoken", "(I)I"⟩, 31) := sorry
theorem lw_p56 : lw_okq (⟨"OriginDeskModel", "tongue", "()Z"⟩, 31) := sorry
theorem lw_p57 : lw_okq (⟨"OriginDeskModel", "speaks", "(I)Z"⟩, 31) := sorry
theorem lw_p58 : lw_okq (⟨"OriginDeskModel", "weightIfAny", "()Z"⟩, 31) := sorry
theorem lw_p59 : lw_okq (⟨"OriginDeskModel", "conditions", "(I)I"⟩, 31) := sorry
theorem lw_p60 : lw_okq (⟨"OriginDeskModel", "tags", "(IIZ)I"⟩, 31) := sorry
theorem lw_p61 : lw_okq (⟨"OriginDeskModel", "tagText", "()Z"⟩, 31) := sorry
theorem lw_p62 : lw_okq (⟨"OriginDeskModel", "isTagOf", "(I)Z"⟩, 31) := sorry
theorem lw_p63 : lw_okq (⟨"OriginDeskModel", "dateOf", "(I)J"⟩, 31) := sorry
def lw_privs_4 : List (MethodName × Nat) := [(⟨"OriginDeskModel", "isWord", "(IIJ)Z"⟩, 31), (⟨"OriginDeskModel", "isSub", "(III)Z"⟩, 31), (⟨"OriginDeskModel", "semicolon", "()Z"⟩, 31), (⟨"OriginDeskModel", "weight", "()Z"⟩, 31), (⟨"OriginDeskModel", "assigned", "()Z"⟩, 31), (⟨"OriginDeskModel", "quoted", "()Z"⟩, 31), (⟨"OriginDeskModel", "separator", "()I"⟩, 31), (⟨"OriginDeskModel", "spoken", "(I)I"⟩, 31), (⟨"OriginDeskModel", "tongue", "()Z"⟩, 31), (⟨"OriginDeskModel", "speaks", "(I)Z"⟩, 31), (⟨"OriginDeskModel", "weightIfAny", "()Z"⟩, 31), (⟨"OriginDeskModel", "conditions", "(I)I"⟩, 31), (⟨"OriginDeskModel", "tags", "(IIZ)I"⟩, 31), (⟨"OriginDeskModel", "tagText", "()Z"⟩, 31), (⟨"OriginDeskModel", "isTagOf", "(I)Z"⟩, 31), (⟨"OriginDeskModel", "dateOf", "(I)J"⟩, 31)]
theorem lw_r4 : ∀ q ∈ lw_privs_4, lw_okq q := sorry
theorem lw_p64 : lw_okq (⟨"OriginDeskModel", "dayName", "()I"⟩, 31) := sorry
theorem lw_p65 : lw_okq (⟨"OriginDeskModel", "three", "()I"⟩, 31) := sorry
theorem lw_p66 : lw_okq (⟨"OriginDeskModel", "dateBehind", "(I)J"⟩, 31) := sorry
theorem lw_p67 : lw_okq (⟨"OriginDeskModel", "monthName", "()I"⟩, 31) := sorry
theorem lw_p68 : lw_okq (⟨"OriginDeskModel", "paddedDay", "()I"⟩, 31) := sorry
theorem lw_p69 : lw_okq (⟨"OriginDeskModel", "digits", "(I)I"⟩, 31) := sorry
theorem lw_p70 : lw_okq (⟨"OriginDeskModel", "time", "()I"⟩, 31) := sorry
theorem lw_p71 : lw_okq (⟨"OriginDeskModel", "restOf", "(I)Z"⟩, 31) := sorry
theorem lw_p72 : lw_okq (⟨"OriginDeskModel", "shortYear", "(I)I"⟩, 31) := sorry
theorem lw_p73 : lw_okq (⟨"OriginDeskModel", "zone", "()Z"⟩, 31) := sorry
theorem lw_p74 : lw_okq (⟨"OriginDeskModel", "ranged", "(I)I"⟩, 31) := sorry
theorem lw_p75 : lw_okq (⟨"OriginDeskModel", "ifRange", "(I)Z"⟩, 31) := sorry
theorem lw_p76 : lw_okq (⟨"OriginDeskModel", "ranges", "()Z"⟩, 31) := sorry
theorem lw_p77 : lw_okq (⟨"OriginDeskModel", "spec", "()Z"⟩, 31) := sorry
theorem lw_p78 : lw_okq (⟨"OriginDeskModel", "many", "()I"⟩, 31) := sorry
theorem lw_p79 : lw_okq (⟨"OriginDeskModel", "resolve", "(II)V"⟩, 31) := sorry
def lw_privs_5 : List (MethodName × Nat) := [(⟨"OriginDeskModel", "dayName", "()I"⟩, 31), (⟨"OriginDeskModel", "three", "()I"⟩, 31), (⟨"OriginDeskModel", "dateBehind", "(I)J"⟩, 31), (⟨"OriginDeskModel", "monthName", "()I"⟩, 31), (⟨"OriginDeskModel", "paddedDay", "()I"⟩, 31), (⟨"OriginDeskModel", "digits", "(I)I"⟩, 31), (⟨"OriginDeskModel", "time", "()I"⟩, 31), (⟨"OriginDeskModel", "restOf", "(I)Z"⟩, 31), (⟨"OriginDeskModel", "shortYear", "(I)I"⟩, 31), (⟨"OriginDeskModel", "zone", "()Z"⟩, 31), (⟨"OriginDeskModel", "ranged", "(I)I"⟩, 31), (⟨"OriginDeskModel", "ifRange", "(I)Z"⟩, 31), (⟨"OriginDeskModel", "ranges", "()Z"⟩, 31), (⟨"OriginDeskModel", "spec", "()Z"⟩, 31), (⟨"OriginDeskModel", "many", "()I"⟩, 31), (⟨"OriginDeskModel", "resolve", "(II)V"⟩, 31)]
theorem lw_r5 : ∀ q ∈ lw_privs_5, lw_okq q := sorry
theorem lw_p80 : lw_okq (⟨"OriginDeskModel", "overlap", "()Z"⟩, 31) := sorry
theorem lw_p81 : lw_okq (⟨"OriginDeskModel", "partSize", "(I)I"⟩, 31) := sorry
theorem lw_p82 : lw_okq (⟨"OriginDeskModel", "headOf", "(I)I"⟩, 31) := sorry
theorem lw_p83 : lw_okq (⟨"OriginDeskModel", "byteAt", "(I)I"⟩, 31) := sorry
theorem lw_p84 : lw_okq (⟨"OriginDeskModel", "partByte", "(II)I"⟩, 31) := sorry
theorem lw_p85 : lw_okq (⟨"OriginDeskModel", "figures", "(III)I"⟩, 31) := sorry
theorem lw_p86 : lw_okq (⟨"OriginDeskModel", "loneTag", "()Z"⟩, 31) := sorry
def lw_privs_6 : List (MethodName × Nat) := [(⟨"OriginDeskModel", "overlap", "()Z"⟩, 31), (⟨"OriginDeskModel", "partSize", "(I)I"⟩, 31), (⟨"OriginDeskModel", "headOf", "(I)I"⟩, 31), (⟨"OriginDeskModel", "byteAt", "(I)I"⟩, 31), (⟨"OriginDeskModel", "partByte", "(II)I"⟩, 31), (⟨"OriginDeskModel", "figures", "(III)I"⟩, 31), (⟨"OriginDeskModel", "loneTag", "()Z"⟩, 31)]
theorem lw_r6 : ∀ q ∈ lw_privs_6, lw_okq q := sorry
def lw_privs : List (MethodName × Nat) := lw_privs_1 ++ (lw_privs_2 ++ (lw_privs_3 ++ (lw_privs_4 ++ (lw_privs_5 ++ (lw_privs_6)))))
def lw_tbl : List Cond := k2_sels lw_privs ++ tables_1
theorem lw_privs_ok : ∀ q ∈ lw_privs, lw_okq q := sorry
/-! STRAIGHT STRETCHES: 'wq' reads a list of instructions and says what is left to be shown; 'wq_sound' says that it is enough. -/
abbrev wq_L : Type := List (Nat × Value)
/-- an annotation: flag, place, slot, an int, a long -/
abbrev wq_A : Type := Nat × Nat × Nat × Int32 × Int64
abbrev wq_J : Type := List (Jvm.ClassFile.Instr × wq_A)
def wq_lk (lv : wq_L) (i : Nat) : Option Value := (lv.find? (fun q => q.1 == i)).map (fun q => q.2)
def wq_s1 (lv : wq_L) (i : Nat) (v : Value) : wq_L := (i, v) :: lv.filter (fun q => !(q.1 == i) && !(q.1 + 1 == i && q.2.category == 2))
def wq_s2 (lv : wq_L) (i : Nat) (v : Value) : wq_L := (i, v) :: lv.filter (fun q => !(q.1 == i) && (!(q.1 == i + 1) && !(q.1 + 1 == i && q.2.category == 2)))
def wq_ok (ft : List (Nat × Nat × Nat × Nat)) (idx ci k : Nat) : Bool := ft.any (fun q => Nat.beq q.1 idx && (Nat.beq q.2.1 ci && Nat.beq q.2.2.1 k))
def wq_om (ft : List (Nat × Nat × Nat × Nat)) (idx ci k md : Nat) : Bool := ft.any (fun q => (Nat.beq q.1 idx && (Nat.beq q.2.1 ci && Nat.beq q.2.2.1 k)) && Nat.beq q.2.2.2 md)
/-- the length of an instruction (of a switch: its annotation) -/
def wq_il (a : wq_A) : Jvm.ClassFile.Instr → Nat
  | .bipush _ => 2
  | .sipush _ => 3
  | .iload _ => 2
  | .lload _ => 2
  | .aload _ => 2
  | .istore _ => 2
  | .lstore _ => 2
  | .astore _ => 2
  | .ldc _ => 2
  | .ldc2_w _ => 3
  | .ldc_w _ => 3
  | .iinc _ _ => 3
  | .ifCond _ _ => 3
  | .if_icmp _ _ => 3
  | .if_acmp _ _ => 3
  | .ifnull _ => 3
  | .ifnonnull _ => 3
  | .goto _ => 3
  | .getfield _ => 3
  | .putfield _ => 3
  | .getstatic _ => 3
  | .putstatic _ => 3
  | .invokevirtual _ => 3
  | .invokespecial _ => 3
  | .invokestatic _ => 3
  | .invokeinterface _ _ => 5
  | .new _ => 3
  | .newarray _ => 2
  | .anewarray _ => 3
  | .checkcast _ => 3
  | .instanceof _ => 3
  | .multianewarray _ _ => 4
  | .tableswitch _ _ _ _ => a.2.1
  | .lookupswitch _ _ => a.2.1
  | _ => 1

/-- what of an instruction is decided once: its constant, its target, its local -/
def wq_k (nL : Nat) (an : wq_A) (pc : Nat) : Jvm.ClassFile.Instr → Bool
  | .iconst i => decide (Int32.ofInt i = an.2.2.2.1)
  | .bipush i => decide ((Int8.ofInt i).toInt32 = an.2.2.2.1)
  | .sipush i => decide ((Int16.ofInt i).toInt32 = an.2.2.2.1)
  | .lconst i => decide (Int64.ofNat (i : Nat) = an.2.2.2.2)
  | .iinc i d => decide (Int32.ofInt d = an.2.2.2.1) && decide (i < nL)
  | .istore_n i => decide ((i : Nat) < nL)
  | .istore i => decide (i < nL)
  | .astore_n i => decide ((i : Nat) < nL)
  | .astore i => decide (i < nL)
  | .lstore_n i => decide ((i : Nat) + 1 < nL)
  | .lstore i => decide (i + 1 < nL)
  | .ifCond _ off => decide ((pc : Int) + off = (an.2.1 : Nat))
  | .if_icmp _ off => decide ((pc : Int) + off = (an.2.1 : Nat))
  | .if_acmp _ off => decide ((pc : Int) + off = (an.2.1 : Nat))
  | .ifnull off => decide ((pc : Int) + off = (an.2.1 : Nat))
  | .ifnonnull off => decide ((pc : Int) + off = (an.2.1 : Nat))
  | .goto off => decide ((pc : Int) + off = (an.2.1 : Nat))
  | _ => true

def wq (nL : Nat) (ini : Bool) (tc : Nat → ClassId) (ft : List (Nat × Nat × Nat × Nat)) (ty : Nat → Nat → FieldType) (RT : Nat → Nat → Nat → (Nat → Value) → Prop) (RF : Nat → Nat → Value → Prop) (RZ : Nat → Value → Prop) (RS : Nat → Value → Prop) (SX : Jvm.ClassFile.Instr → Nat → List Value → va_W → Nat → Nat → (List Value → va_W → Nat → Nat → Prop) → Prop) (EN : Option Value → va_W → Nat → Nat → Prop) (V : Nat → wq_L → List Value → va_W → Nat → Nat → Prop) : wq_J → Nat → wq_L → List Value → va_W → Nat → Nat → Prop
  | [], pc, lv, st, ws, k, n => V pc lv st ws k n
  | (ins, an) :: r, pc, lv, st, ws, k, n => match ins with
  | .iconst _ => (wq nL ini tc ft ty RT RF RZ RS SX EN V r (pc + 1) lv (.int an.2.2.2.1 :: st) ws k n)
  | .bipush _ => (wq nL ini tc ft ty RT RF RZ RS SX EN V r (pc + 2) lv (.int an.2.2.2.1 :: st) ws k n)
  | .sipush _ => (wq nL ini tc ft ty RT RF RZ RS SX EN V r (pc + 3) lv (.int an.2.2.2.1 :: st) ws k n)
  | .lconst _ => (wq nL ini tc ft ty RT RF RZ RS SX EN V r (pc + 1) lv (.long an.2.2.2.2 :: st) ws k n)
  | .aconst_null => (wq nL ini tc ft ty RT RF RZ RS SX EN V r (pc + 1) lv (.null :: st) ws k n)
  | .iload_n i => (match wq_lk lv i with
    | some (.int x) => wq nL ini tc ft ty RT RF RZ RS SX EN V r (pc + 1) lv (.int x :: st) ws k n
    | _ => V pc lv st ws k n)
  | .iload i => (match wq_lk lv i with
    | some (.int x) => wq nL ini tc ft ty RT RF RZ RS SX EN V r (pc + 2) lv (.int x :: st) ws k n
    | _ => V pc lv st ws k n)
  | .lload_n i => (match wq_lk lv i with
    | some (.long x) => wq nL ini tc ft ty RT RF RZ RS SX EN V r (pc + 1) lv (.long x :: st) ws k n
    | _ => V pc lv st ws k n)
  | .lload i => (match wq_lk lv i with
    | some (.long x) => wq nL ini tc ft ty RT RF RZ RS SX EN V r (pc + 2) lv (.long x :: st) ws k n
    | _ => V pc lv st ws k n)
  | .aload_n i => (match wq_lk lv i with
    | some (.ref x) => wq nL ini tc ft ty RT RF RZ RS SX EN V r (pc + 1) lv (.ref x :: st) ws k n
    | some .null => wq nL ini tc ft ty RT RF RZ RS SX EN V r (pc + 1) lv (.null :: st) ws k n
    | _ => V pc lv st ws k n)
  | .aload i => (match wq_lk lv i with
    | some (.ref x) => wq nL ini tc ft ty RT RF RZ RS SX EN V r (pc + 2) lv (.ref x :: st) ws k n
    | some .null => wq nL ini tc ft ty RT RF RZ RS SX EN V r (pc + 2) lv (.null :: st) ws k n
    | _ => V pc lv st ws k n)
  | .istore_n i => (match st with
    | .int x :: t => wq nL ini tc ft ty RT RF RZ RS SX EN V r (pc + 1) (wq_s1 lv i (.int x)) t ws k n
    | _ => V pc lv st ws k n)
  | .istore i => (match st with
    | .int x :: t => wq nL ini tc ft ty RT RF RZ RS SX EN V r (pc + 2) (wq_s1 lv i (.int x)) t ws k n
    | _ => V pc lv st ws k n)
  | .lstore_n i => (match st with
    | .long x :: t => wq nL ini tc ft ty RT RF RZ RS SX EN V r (pc + 1) (wq_s2 lv i (.long x)) t ws k n
    | _ => V pc lv st ws k n)
  | .lstore i => (match st with
    | .long x :: t => wq nL ini tc ft ty RT RF RZ RS SX EN V r (pc + 2) (wq_s2 lv i (.long x)) t ws k n
    | _ => V pc lv st ws k n)
  | .astore_n i => (match st with
    | .ref x :: t => wq nL ini tc ft ty RT RF RZ RS SX EN V r (pc + 1) (wq_s1 lv i (.ref x)) t ws k n
    | .null :: t => wq nL ini tc ft ty RT RF RZ RS SX EN V r (pc + 1) (wq_s1 lv i .null) t ws k n
    | _ => V pc lv st ws k n)
  | .astore i => (match st with
    | .ref x :: t => wq nL ini tc ft ty RT RF RZ RS SX EN V r (pc + 2) (wq_s1 lv i (.ref x)) t ws k n
    | .null :: t => wq nL ini tc ft ty RT RF RZ RS SX EN V r (pc + 2) (wq_s1 lv i .null) t ws k n
    | _ => V pc lv st ws k n)
  | .iinc i _ => (match wq_lk lv i with
    | some (.int x) => wq nL ini tc ft ty RT RF RZ RS SX EN V r (pc + 3) (wq_s1 lv i (.int (x + an.2.2.2.1))) st ws k n
    | _ => V pc lv st ws k n)
  | .iadd => (match st with
    | .int y :: .int x :: t => wq nL ini tc ft ty RT RF RZ RS SX EN V r (pc + 1) lv (.int (x + y) :: t) ws k n
    | _ => V pc lv st ws k n)
  | .isub => (match st with
    | .int y :: .int x :: t => wq nL ini tc ft ty RT RF RZ RS SX EN V r (pc + 1) lv (.int (x - y) :: t) ws k n
    | _ => V pc lv st ws k n)
  | .imul => (match st with
    | .int y :: .int x :: t => wq nL ini tc ft ty RT RF RZ RS SX EN V r (pc + 1) lv (.int (x * y) :: t) ws k n
    | _ => V pc lv st ws k n)
  | .iand => (match st with
    | .int y :: .int x :: t => wq nL ini tc ft ty RT RF RZ RS SX EN V r (pc + 1) lv (.int (x &&& y) :: t) ws k n
    | _ => V pc lv st ws k n)
  | .ior => (match st with
    | .int y :: .int x :: t => wq nL ini tc ft ty RT RF RZ RS SX EN V r (pc + 1) lv (.int (x ||| y) :: t) ws k n
    | _ => V pc lv st ws k n)
  | .ixor => (match st with
    | .int y :: .int x :: t => wq nL ini tc ft ty RT RF RZ RS SX EN V r (pc + 1) lv (.int (x ^^^ y) :: t) ws k n
    | _ => V pc lv st ws k n)
  | .ishl => (match st with
    | .int y :: .int x :: t => wq nL ini tc ft ty RT RF RZ RS SX EN V r (pc + 1) lv (.int (x <<< (y &&& 31)) :: t) ws k n
    | _ => V pc lv st ws k n)
  | .ishr => (match st with
    | .int y :: .int x :: t => wq nL ini tc ft ty RT RF RZ RS SX EN V r (pc + 1) lv (.int (x >>> (y &&& 31)) :: t) ws k n
    | _ => V pc lv st ws k n)
  | .iushr => (match st with
    | .int y :: .int x :: t => wq nL ini tc ft ty RT RF RZ RS SX EN V r (pc + 1) lv (.int ((x.toUInt32 >>> (y.toUInt32 &&& Int32.toUInt32 31)).toInt32) :: t) ws k n
    | _ => V pc lv st ws k n)
  | .ladd => (match st with
    | .long y :: .long x :: t => wq nL ini tc ft ty RT RF RZ RS SX EN V r (pc + 1) lv (.long (x + y) :: t) ws k n
    | _ => V pc lv st ws k n)
  | .lsub => (match st with
    | .long y :: .long x :: t => wq nL ini tc ft ty RT RF RZ RS SX EN V r (pc + 1) lv (.long (x - y) :: t) ws k n
    | _ => V pc lv st ws k n)
  | .lmul => (match st with
    | .long y :: .long x :: t => wq nL ini tc ft ty RT RF RZ RS SX EN V r (pc + 1) lv (.long (x * y) :: t) ws k n
    | _ => V pc lv st ws k n)
  | .land => (match st with
    | .long y :: .long x :: t => wq nL ini tc ft ty RT RF RZ RS SX EN V r (pc + 1) lv (.long (x &&& y) :: t) ws k n
    | _ => V pc lv st ws k n)
  | .lor => (match st with
    | .long y :: .long x :: t => wq nL ini tc ft ty RT RF RZ RS SX EN V r (pc + 1) lv (.long (x ||| y) :: t) ws k n
    | _ => V pc lv st ws k n)
  | .lxor => (match st with
    | .long y :: .long x :: t => wq nL ini tc ft ty RT RF RZ RS SX EN V r (pc + 1) lv (.long (x ^^^ y) :: t) ws k n
    | _ => V pc lv st ws k n)
  | .lshl => (match st with
    | .int y :: .long x :: t => wq nL ini tc ft ty RT RF RZ RS SX EN V r (pc + 1) lv (.long (x <<< (y.toInt64 &&& 63)) :: t) ws k n
    | _ => V pc lv st ws k n)
  | .lshr => (match st with
    | .int y :: .long x :: t => wq nL ini tc ft ty RT RF RZ RS SX EN V r (pc + 1) lv (.long (x >>> (y.toInt64 &&& 63)) :: t) ws k n
    | _ => V pc lv st ws k n)
  | .lushr => (match st with
    | .int y :: .long x :: t => wq nL ini tc ft ty RT RF RZ RS SX EN V r (pc + 1) lv (.long ((x.toUInt64 >>> (y.toInt64.toUInt64 &&& Int64.toUInt64 63)).toInt64) :: t) ws k n
    | _ => V pc lv st ws k n)
  | .idiv => (match st with
    | .int y :: .int x :: t => ¬ y = 0 ∧ wq nL ini tc ft ty RT RF RZ RS SX EN V r (pc + 1) lv (.int (x / y) :: t) ws k n
    | _ => V pc lv st ws k n)
  | .irem => (match st with
    | .int y :: .int x :: t => ¬ y = 0 ∧ wq nL ini tc ft ty RT RF RZ RS SX EN V r (pc + 1) lv (.int (x - x / y * y) :: t) ws k n
    | _ => V pc lv st ws k n)
  | .ldiv => (match st with
    | .long y :: .long x :: t => ¬ y = 0 ∧ wq nL ini tc ft ty RT RF RZ RS SX EN V r (pc + 1) lv (.long (x / y) :: t) ws k n
    | _ => V pc lv st ws k n)
  | .lrem => (match st with
    | .long y :: .long x :: t => ¬ y = 0 ∧ wq nL ini tc ft ty RT RF RZ RS SX EN V r (pc + 1) lv (.long (x - x / y * y) :: t) ws k n
    | _ => V pc lv st ws k n)
  | .ineg => (match st with
    | .int x :: t => wq nL ini tc ft ty RT RF RZ RS SX EN V r (pc + 1) lv (.int (-x) :: t) ws k n
    | _ => V pc lv st ws k n)
  | .lneg => (match st with
    | .long x :: t => wq nL ini tc ft ty RT RF RZ RS SX EN V r (pc + 1) lv (.long (-x) :: t) ws k n
    | _ => V pc lv st ws k n)
  | .i2l => (match st with
    | .int x :: t => wq nL ini tc ft ty RT RF RZ RS SX EN V r (pc + 1) lv (.long x.toInt64 :: t) ws k n
    | _ => V pc lv st ws k n)
  | .l2i => (match st with
    | .long x :: t => wq nL ini tc ft ty RT RF RZ RS SX EN V r (pc + 1) lv (.int x.toInt32 :: t) ws k n
    | _ => V pc lv st ws k n)
  | .i2b => (match st with
    | .int x :: t => wq nL ini tc ft ty RT RF RZ RS SX EN V r (pc + 1) lv (.int x.toInt8.toInt32 :: t) ws k n
    | _ => V pc lv st ws k n)
  | .i2s => (match st with
    | .int x :: t => wq nL ini tc ft ty RT RF RZ RS SX EN V r (pc + 1) lv (.int x.toInt16.toInt32 :: t) ws k n
    | _ => V pc lv st ws k n)
  | .i2c => (match st with
    | .int x :: t => wq nL ini tc ft ty RT RF RZ RS SX EN V r (pc + 1) lv (.int (x.toUInt32 % 65536).toInt32 :: t) ws k n
    | _ => V pc lv st ws k n)
  | .lcmp => (match st with
    | .long y :: .long x :: t => wq nL ini tc ft ty RT RF RZ RS SX EN V r (pc + 1) lv (.int (lg_cmp x y) :: t) ws k n
    | _ => V pc lv st ws k n)
  | .dup => (match st with
    | va :: t => va.category = 1 ∧ wq nL ini tc ft ty RT RF RZ RS SX EN V r (pc + 1) lv (va :: va :: t) ws k n
    | _ => V pc lv st ws k n)
  | .pop => (match st with
    | va :: t => va.category = 1 ∧ wq nL ini tc ft ty RT RF RZ RS SX EN V r (pc + 1) lv t ws k n
    | _ => V pc lv st ws k n)
  | .dup_x1 => (match st with
    | va :: vb :: t => va.category = 1 ∧ vb.category = 1 ∧ wq nL ini tc ft ty RT RF RZ RS SX EN V r (pc + 1) lv (va :: vb :: va :: t) ws k n
    | _ => V pc lv st ws k n)
  | .dup2 => (match st with
    | .long x :: t => wq nL ini tc ft ty RT RF RZ RS SX EN V r (pc + 1) lv (.long x :: .long x :: t) ws k n
    | va :: vb :: t => va.category = 1 ∧ vb.category = 1 ∧ wq nL ini tc ft ty RT RF RZ RS SX EN V r (pc + 1) lv (va :: vb :: va :: vb :: t) ws k n
    | _ => V pc lv st ws k n)
  | .ifCond .eq _ => (match st with
    | .int x :: t => (x = 0 → V (an.2.1) lv t ws k n) ∧ (¬ x = 0 → wq nL ini tc ft ty RT RF RZ RS SX EN V r (pc + 3) lv t ws k n)
    | _ => V pc lv st ws k n)
  | .ifCond .ne _ => (match st with
    | .int x :: t => (¬ x = 0 → V (an.2.1) lv t ws k n) ∧ (x = 0 → wq nL ini tc ft ty RT RF RZ RS SX EN V r (pc + 3) lv t ws k n)
    | _ => V pc lv st ws k n)
  | .ifCond .lt _ => (match st with
    | .int x :: t => (x < 0 → V (an.2.1) lv t ws k n) ∧ (¬ x < 0 → wq nL ini tc ft ty RT RF RZ RS SX EN V r (pc + 3) lv t ws k n)
    | _ => V pc lv st ws k n)
  | .ifCond .ge _ => (match st with
    | .int x :: t => (0 ≤ x → V (an.2.1) lv t ws k n) ∧ (¬ 0 ≤ x → wq nL ini tc ft ty RT RF RZ RS SX EN V r (pc + 3) lv t ws k n)
    | _ => V pc lv st ws k n)
  | .ifCond .gt _ => (match st with
    | .int x :: t => (0 < x → V (an.2.1) lv t ws k n) ∧ (¬ 0 < x → wq nL ini tc ft ty RT RF RZ RS SX EN V r (pc + 3) lv t ws k n)
    | _ => V pc lv st ws k n)
  | .ifCond .le _ => (match st with
    | .int x :: t => (x ≤ 0 → V (an.2.1) lv t ws k n) ∧ (¬ x ≤ 0 → wq nL ini tc ft ty RT RF RZ RS SX EN V r (pc + 3) lv t ws k n)
    | _ => V pc lv st ws k n)
  | .if_icmp .eq _ => (match st with
    | .int y :: .int x :: t => (x = y → V (an.2.1) lv t ws k n) ∧ (¬ x = y → wq nL ini tc ft ty RT RF RZ RS SX EN V r (pc + 3) lv t ws k n)
    | _ => V pc lv st ws k n)
  | .if_icmp .ne _ => (match st with
    | .int y :: .int x :: t => (¬ x = y → V (an.2.1) lv t ws k n) ∧ (x = y → wq nL ini tc ft ty RT RF RZ RS SX EN V r (pc + 3) lv t ws k n)
    | _ => V pc lv st ws k n)
  | .if_icmp .lt _ => (match st with
    | .int y :: .int x :: t => (x < y → V (an.2.1) lv t ws k n) ∧ (¬ x < y → wq nL ini tc ft ty RT RF RZ RS SX EN V r (pc + 3) lv t ws k n)
    | _ => V pc lv st ws k n)
  | .if_icmp .ge _ => (match st with
    | .int y :: .int x :: t => (y ≤ x → V (an.2.1) lv t ws k n) ∧ (¬ y ≤ x → wq nL ini tc ft ty RT RF RZ RS SX EN V r (pc + 3) lv t ws k n)
    | _ => V pc lv st ws k n)
  | .if_icmp .gt _ => (match st with
    | .int y :: .int x :: t => (y < x → V (an.2.1) lv t ws k n) ∧ (¬ y < x → wq nL ini tc ft ty RT RF RZ RS SX EN V r (pc + 3) lv t ws k n)
    | _ => V pc lv st ws k n)
  | .if_icmp .le _ => (match st with
    | .int y :: .int x :: t => (x ≤ y → V (an.2.1) lv t ws k n) ∧ (¬ x ≤ y → wq nL ini tc ft ty RT RF RZ RS SX EN V r (pc + 3) lv t ws k n)
    | _ => V pc lv st ws k n)
  | .ifnull _ => (match st with
    | .ref _ :: t => wq nL ini tc ft ty RT RF RZ RS SX EN V r (pc + 3) lv t ws k n
    | .null :: t => V (an.2.1) lv t ws k n
    | _ => V pc lv st ws k n)
  | .ifnonnull _ => (match st with
    | .ref _ :: t => V (an.2.1) lv t ws k n
    | .null :: t => wq nL ini tc ft ty RT RF RZ RS SX EN V r (pc + 3) lv t ws k n
    | _ => V pc lv st ws k n)
  | .goto _ => (V (an.2.1) lv st ws k n)
  | .getfield idx => (match an.1 with
    | 1 => (match st, ws[an.2.1]? with
      | .ref a :: t, some (b, .inr (ci, fs)) => (match wq_ok ft idx ci an.2.2.1, fs[an.2.2.1]? with
        | true, some v => a = b ∧ wq nL ini tc ft ty RT RF RZ RS SX EN V r (pc + 3) lv (v :: t) ws k n
        | _, _ => V pc lv st ws k n)
      | _, _ => V pc lv st ws k n)
    | 2 => (match st with
      | .ref a :: t => ∃ v, RF idx a v ∧ wq nL ini tc ft ty RT RF RZ RS SX EN V r (pc + 3) lv (v :: t) ws k n
      | _ => V pc lv st ws k n)
    | _ => SX (.getfield idx) (wq_il an (.getfield idx)) st ws k n (fun st2 ws2 k2 n2 => wq nL ini tc ft ty RT RF RZ RS SX EN V r (pc + wq_il an (.getfield idx)) lv st2 ws2 k2 n2))
  | .putfield idx => (match an.1 with
    | 1 => (match st, ws[an.2.1]? with
      | v :: .ref a :: t, some (b, .inr (ci, fs)) => (match wq_om ft idx ci an.2.2.1 0, Nat.blt an.2.2.1 fs.length with
        | true, true => a = b ∧ (narrow (ty ci an.2.2.1) v = v ∧ fits (ty ci an.2.2.1) v = true) ∧ wq nL ini tc ft ty RT RF RZ RS SX EN V r (pc + 3) lv t (ws.set an.2.1 (b, .inr (ci, fs.set an.2.2.1 v))) k n
        | _, _ => V pc lv st ws k n)
      | _, _ => V pc lv st ws k n)
    | 3 => (match st, ws[an.2.1]? with
      | v :: .ref a :: t, some (b, .inr (ci, fs)) => (match wq_om ft idx ci an.2.2.1 1, Nat.blt an.2.2.1 fs.length, ini with
        | true, true, true => a = b ∧ (narrow (ty ci an.2.2.1) v = v ∧ fits (ty ci an.2.2.1) v = true) ∧ wq nL ini tc ft ty RT RF RZ RS SX EN V r (pc + 3) lv t (ws.set an.2.1 (b, .inr (ci, fs.set an.2.2.1 v))) k n
        | _, _, _ => V pc lv st ws k n)
      | _, _ => V pc lv st ws k n)
    | _ => SX (.putfield idx) (wq_il an (.putfield idx)) st ws k n (fun st2 ws2 k2 n2 => wq nL ini tc ft ty RT RF RZ RS SX EN V r (pc + wq_il an (.putfield idx)) lv st2 ws2 k2 n2))
  | .getstatic idx => (match an.1 with
    | 2 => ∃ v, RZ idx v ∧ wq nL ini tc ft ty RT RF RZ RS SX EN V r (pc + 3) lv (v :: st) ws k n
    | _ => SX (.getstatic idx) (wq_il an (.getstatic idx)) st ws k n (fun st2 ws2 k2 n2 => wq nL ini tc ft ty RT RF RZ RS SX EN V r (pc + wq_il an (.getstatic idx)) lv st2 ws2 k2 n2))
  | .ldc idx => (match an.1 with
    | 1 => RS idx (.int an.2.2.2.1) ∧ wq nL ini tc ft ty RT RF RZ RS SX EN V r (pc + 2) lv (.int an.2.2.2.1 :: st) ws k n
    | 2 => ∃ q : Nat, RS idx (.ref q) ∧ wq nL ini tc ft ty RT RF RZ RS SX EN V r (pc + 2) lv (.ref q :: st) ws k n
    | _ => SX (.ldc idx) (wq_il an (.ldc idx)) st ws k n (fun st2 ws2 k2 n2 => wq nL ini tc ft ty RT RF RZ RS SX EN V r (pc + wq_il an (.ldc idx)) lv st2 ws2 k2 n2))
  | .ldc2_w idx => (match an.1 with
    | 1 => RS idx (.long an.2.2.2.2) ∧ wq nL ini tc ft ty RT RF RZ RS SX EN V r (pc + 3) lv (.long an.2.2.2.2 :: st) ws k n
    | _ => SX (.ldc2_w idx) (wq_il an (.ldc2_w idx)) st ws k n (fun st2 ws2 k2 n2 => wq nL ini tc ft ty RT RF RZ RS SX EN V r (pc + wq_il an (.ldc2_w idx)) lv st2 ws2 k2 n2))
  | .iaload => (match an.1 with
    | 1 => (match st, ws[an.2.1]? with
      | .int x :: .ref a :: t, some (b, .inl (cA, N, .inl f)) => a = b ∧ cA = tc 0 ∧ vp_in x N ∧ wq nL ini tc ft ty RT RF RZ RS SX EN V r (pc + 1) lv (.int (f x.toNatClampNeg) :: t) ws k n
      | _, _ => V pc lv st ws k n)
    | 2 => (match st with
      | .int x :: .ref a :: t => ∃ (N : Nat) (f : Nat → Value), RT 0 a N f ∧ vp_in x N ∧ wq nL ini tc ft ty RT RF RZ RS SX EN V r (pc + 1) lv (f x.toNatClampNeg :: t) ws k n
      | _ => V pc lv st ws k n)
    | _ => SX (.iaload) (wq_il an (.iaload)) st ws k n (fun st2 ws2 k2 n2 => wq nL ini tc ft ty RT RF RZ RS SX EN V r (pc + wq_il an (.iaload)) lv st2 ws2 k2 n2))
  | .baload => (match an.1 with
    | 1 => (match st, ws[an.2.1]? with
      | .int x :: .ref a :: t, some (b, .inl (cA, N, .inl f)) => a = b ∧ cA = tc 1 ∧ vp_in x N ∧ wq nL ini tc ft ty RT RF RZ RS SX EN V r (pc + 1) lv (.int (f x.toNatClampNeg) :: t) ws k n
      | _, _ => V pc lv st ws k n)
    | 4 => (match st, ws[an.2.1]? with
      | .int x :: .ref a :: t, some (b, .inl (cA, N, .inl f)) => a = b ∧ cA = tc 3 ∧ vp_in x N ∧ wq nL ini tc ft ty RT RF RZ RS SX EN V r (pc + 1) lv (.int (f x.toNatClampNeg) :: t) ws k n
      | _, _ => V pc lv st ws k n)
    | 2 => (match st with
      | .int x :: .ref a :: t => ∃ (N : Nat) (f : Nat → Value), RT 1 a N f ∧ vp_in x N ∧ wq nL ini tc ft ty RT RF RZ RS SX EN V r (pc + 1) lv (f x.toNatClampNeg :: t) ws k n
      | _ => V pc lv st ws k n)
    | _ => SX (.baload) (wq_il an (.baload)) st ws k n (fun st2 ws2 k2 n2 => wq nL ini tc ft ty RT RF RZ RS SX EN V r (pc + wq_il an (.baload)) lv st2 ws2 k2 n2))
  | .laload => (match an.1 with
    | 1 => (match st, ws[an.2.1]? with
      | .int x :: .ref a :: t, some (b, .inl (cA, N, .inr (.inl f))) => a = b ∧ cA = tc 2 ∧ vp_in x N ∧ wq nL ini tc ft ty RT RF RZ RS SX EN V r (pc + 1) lv (.long (f x.toNatClampNeg) :: t) ws k n
      | _, _ => V pc lv st ws k n)
    | 2 => (match st with
      | .int x :: .ref a :: t => ∃ (N : Nat) (f : Nat → Value), RT 2 a N f ∧ vp_in x N ∧ wq nL ini tc ft ty RT RF RZ RS SX EN V r (pc + 1) lv (f x.toNatClampNeg :: t) ws k n
      | _ => V pc lv st ws k n)
    | _ => SX (.laload) (wq_il an (.laload)) st ws k n (fun st2 ws2 k2 n2 => wq nL ini tc ft ty RT RF RZ RS SX EN V r (pc + wq_il an (.laload)) lv st2 ws2 k2 n2))
  | .iastore => (match an.1 with
    | 1 => (match st, ws[an.2.1]? with
      | .int v :: .int x :: .ref a :: t, some (b, .inl (cA, N, .inl f)) => a = b ∧ cA = tc 0 ∧ vp_in x N ∧ wq nL ini tc ft ty RT RF RZ RS SX EN V r (pc + 1) lv t (ws.set an.2.1 (b, .inl (cA, N, .inl (upd f x.toNatClampNeg v)))) k n
      | _, _ => V pc lv st ws k n)
    | _ => SX (.iastore) (wq_il an (.iastore)) st ws k n (fun st2 ws2 k2 n2 => wq nL ini tc ft ty RT RF RZ RS SX EN V r (pc + wq_il an (.iastore)) lv st2 ws2 k2 n2))
  | .bastore => (match an.1 with
    | 1 => (match st, ws[an.2.1]? with
      | .int v :: .int x :: .ref a :: t, some (b, .inl (cA, N, .inl f)) => a = b ∧ cA = tc 1 ∧ vp_in x N ∧ wq nL ini tc ft ty RT RF RZ RS SX EN V r (pc + 1) lv t (ws.set an.2.1 (b, .inl (cA, N, .inl (upd f x.toNatClampNeg (vp_nar .byte v))))) k n
      | _, _ => V pc lv st ws k n)
    | 4 => (match st, ws[an.2.1]? with
      | .int v :: .int x :: .ref a :: t, some (b, .inl (cA, N, .inl f)) => a = b ∧ cA = tc 3 ∧ vp_in x N ∧ wq nL ini tc ft ty RT RF RZ RS SX EN V r (pc + 1) lv t (ws.set an.2.1 (b, .inl (cA, N, .inl (upd f x.toNatClampNeg (vp_nar .boolean v))))) k n
      | _, _ => V pc lv st ws k n)
    | _ => SX (.bastore) (wq_il an (.bastore)) st ws k n (fun st2 ws2 k2 n2 => wq nL ini tc ft ty RT RF RZ RS SX EN V r (pc + wq_il an (.bastore)) lv st2 ws2 k2 n2))
  | .lastore => (match an.1 with
    | 1 => (match st, ws[an.2.1]? with
      | .long v :: .int x :: .ref a :: t, some (b, .inl (cA, N, .inr (.inl f))) => a = b ∧ cA = tc 2 ∧ vp_in x N ∧ wq nL ini tc ft ty RT RF RZ RS SX EN V r (pc + 1) lv t (ws.set an.2.1 (b, .inl (cA, N, .inr (.inl (vp_updL f x.toNatClampNeg v))))) k n
      | _, _ => V pc lv st ws k n)
    | _ => SX (.lastore) (wq_il an (.lastore)) st ws k n (fun st2 ws2 k2 n2 => wq nL ini tc ft ty RT RF RZ RS SX EN V r (pc + wq_il an (.lastore)) lv st2 ws2 k2 n2))
  | .arraylength => (match an.1 with
    | 1 => (match st, ws[an.2.1]? with
      | .ref a :: t, some (b, .inl (cA, N, g)) => a = b ∧ (∃ y : Nat, y < 4 ∧ cA = tc y) ∧ wq nL ini tc ft ty RT RF RZ RS SX EN V r (pc + 1) lv (.int (nI N) :: t) ws k n
      | _, _ => V pc lv st ws k n)
    | 2 => (match st with
      | .ref a :: t => ∃ (y : Nat) (N : Nat) (f : Nat → Value), RT y a N f ∧ wq nL ini tc ft ty RT RF RZ RS SX EN V r (pc + 1) lv (.int (nI N) :: t) ws k n
      | _ => V pc lv st ws k n)
    | _ => SX (.arraylength) (wq_il an (.arraylength)) st ws k n (fun st2 ws2 k2 n2 => wq nL ini tc ft ty RT RF RZ RS SX EN V r (pc + wq_il an (.arraylength)) lv st2 ws2 k2 n2))
  | .ireturn => (match st with
    | [.int v] => EN (some (.int v)) ws k n
    | _ => V pc lv st ws k n)
  | .lreturn => (match st with
    | [.long v] => EN (some (.long v)) ws k n
    | _ => V pc lv st ws k n)
  | .return_ => (match st with
    | [] => EN none ws k n
    | _ => V pc lv st ws k n)
  | .areturn => (match st with
    | [.ref v] => EN (some (.ref v)) ws k n
    | [.null] => EN (some .null) ws k n
    | _ => V pc lv st ws k n)
  | .tableswitch _ _ _ _ => V pc lv st ws k n
  | .lookupswitch _ _ => V pc lv st ws k n
  | ins => SX ins (wq_il an ins) st ws k n (fun st2 ws2 k2 n2 => wq nL ini tc ft ty RT RF RZ RS SX EN V r (pc + wq_il an ins) lv st2 ws2 k2 n2)

/-! THE STRETCHES ARE SOUND -/
theorem wq_at {ls : Array Slot} {nL : Nat} {lv : wq_L} {i : Nat} {v : Value} (h : lv_has ls nL lv) (e : wq_lk lv i = some v) : ls[i]? = some (.val v) := sorry
theorem wq_ix {lv : wq_L} {i : Nat} {v : Value} (e : wq_lk lv i = some v) : ∃ k : Nat, lv[k]? = some (i, v) := sorry
theorem wq_ok_spec {ft : List (Nat × Nat × Nat × Nat)} {idx ci k : Nat} (h : wq_ok ft idx ci k = true) : ∃ q ∈ ft, q.1 = idx ∧ q.2.1 = ci ∧ q.2.2.1 = k := sorry
theorem wq_om_spec {ft : List (Nat × Nat × Nat × Nat)} {idx ci k md : Nat} (h : wq_om ft idx ci k md = true) : ∃ q ∈ ft, q.1 = idx ∧ q.2.1 = ci ∧ q.2.2.1 = k ∧ q.2.2.2 = md := sorry
/-- the machine at pc with these locals, stack and cells comes to Q -/
def Vx (p : Program) (l : Launch) (e : Env) (R : Room) (s : State) (m : MethodId) (args : Array Value) (below : List Frame) (meth : Method) (c : Code) (nL : Nat) (D : va_G) (cl : List vw_C) (A : Nat → Prop) (Q : State → Prop) (pc : Nat) (lv : wq_L) (st : List Value) (ws : va_W) (k n : Nat) : Prop :=
  ∀ (H : Heap) (locs : List Loc) (ls : Array Slot), va_P D cl ws H → va_D A ws → va_S A s.heap H locs → lv_has ls nL lv → W p l e R s m args below meth c H locs k n Q (F0 m pc ls st)
def vx_ty (y : Nat) : FieldType := match y with
  | 0 => .int
  | 1 => .byte
  | 2 => .long
  | _ => .boolean
/-- what stays over a method's body -/
def Cx (p : Program) (s : State) (m : MethodId) (args : Array Value) (c : Code) (cc : ByteArray) (nL : Nat) (own : String) (Ts : List Cond) (D : va_G) (cl : List vw_C) (tys : List (ClassId × FieldType)) (A : Nat → Prop) (tc : Nat → ClassId) : Prop :=
  p.tables.exec = Jvm.exec ∧ c.code = cc ∧ c.maxLocals = nL ∧ s.vm.findClass own = some m.cls ∧ (∀ w ∈ Ts, w.before args s = true) ∧ va_K D cl tys s ∧ (∀ q : Nat, s.heap.size ≤ q → A q) ∧ ∀ i : Nat, i < 4 → tys[i]? = some (tc i, vx_ty i)
def vx_RT (A : Nat → Prop) (s : State) (y a N : Nat) (f : Nat → Value) : Prop := va_T (vx_ty y) a N f A s s.heap
def vx_RF (own : String) (args : Array Value) (A : Nat → Prop) (s : State) (idx a : Nat) (v : Value) : Prop := ∃ o n d ref : String, va_OF o n d v a A s s.heap ∧ ((Cond.fieldLink own idx ref n d).before args s = true ∨ ∃ host, (Cond.fieldLinkNest own idx ref n d host).before args s = true) ∧ ∀ x, s.fieldFound? o n d = some x → s.fieldFound? ref n d = some x
def vx_RZ (own : String) (args : Array Value) (A : Nat → Prop) (s : State) (idx : Nat) (v : Value) : Prop := ∃ C n d ref : String, va_Z C n d v A s s.heap ∧ ((Cond.fieldLink own idx ref n d).before args s = true ∨ ∃ host, (Cond.fieldLinkNest own idx ref n d host).before args s = true) ∧ ∀ x, s.fieldFound? C n d = some x → s.fieldFound? ref n d = some x
def vx_RS (own : String) (args : Array Value) (s : State) (idx : Nat) (v : Value) : Prop := (∃ x : Int32, v = .int x ∧ (Jvm.Cond.constant own idx x).before args s = true) ∨ (∃ x : Int64, v = .long x ∧ (Jvm.Cond.constantLong own idx x).before args s = true) ∨ ∃ (tx : String) (q : Nat), v = .ref q ∧ vk_R own idx tx q s
/-- a table of fields: (index, class, slot, 0 or 1 where it is final) -/
def vx_Ft (own : String) (Ts : List Cond) (cl : List vw_C) (ty : Nat → Nat → FieldType) (ft : List (Nat × Nat × Nat × Nat)) : Prop := ∀ q ∈ ft, ∃ (C : String) (T : u_T) (N : Nat), cl[q.2.1]? = some (C, T, N) ∧ q.2.2.1 < N ∧ (∀ w ∈ u_ws C T N, w ∈ Ts) ∧ (∀ j, j < N → parseFieldDescriptor (T j).2.2.1 = some (ty q.2.1 j)) ∧ (∀ a, a < N → ∀ b, b < N → a ≠ b → (T a).2.1 ≠ (T b).2.1) ∧
  (Cond.fieldLink own q.1 (T q.2.2.1).1 (T q.2.2.1).2.1 (T q.2.2.1).2.2.1 ∈ Ts ∨ ∃ host, Cond.fieldLinkNest own q.1 (T q.2.2.1).1 (T q.2.2.1).2.1 (T q.2.2.1).2.2.1 host ∈ Ts) ∧ (q.2.2.2 = 0 → (T q.2.2.1).2.2.2 = false) ∧ (q.2.2.2 = 1 → (T q.2.2.1).2.2.2 = true ∧ (T q.2.2.1).1 = own ∧ Cond.fieldLink own q.1 (T q.2.2.1).1 (T q.2.2.1).2.1 (T q.2.2.1).2.2.1 ∈ Ts)
/-- an instruction by itself: what comes behind it is enough -/
def vx_SX (cc : ByteArray) (V : Nat → wq_L → List Value → va_W → Nat → Nat → Prop) (ins : Jvm.ClassFile.Instr) (len : Nat) (st : List Value) (ws : va_W) (k n : Nat) (K : List Value → va_W → Nat → Nat → Prop) : Prop := ∀ (pc : Nat) (lv : wq_L), decode cc pc = .ok (ins, len) → (∀ (st2 : List Value) (ws2 : va_W) (k2 n2 : Nat), K st2 ws2 k2 n2 → V (pc + len) lv st2 ws2 k2 n2) → V pc lv st ws k n
/-- a method's ends -/
def vx_EN (cc : ByteArray) (EN : Option Value → va_W → Nat → Nat → Prop) (V : Nat → wq_L → List Value → va_W → Nat → Nat → Prop) : Prop := ∀ (r : Option Value) (ws : va_W) (k n pc : Nat) (lv : wq_L), EN r ws k n → (match r with
  | none => decode cc pc = .ok (.return_, 1)
  | some (.int _) => decode cc pc = .ok (.ireturn, 1)
  | some (.long _) => decode cc pc = .ok (.lreturn, 1)
  | some _ => decode cc pc = .ok (.areturn, 1)) → V pc lv r.toList ws k n
def wq_c (cc : ByteArray) (nL : Nat) : wq_J → Nat → Bool
  | [], _ => true
  | (ins, an) :: r, pc => (decide (decode cc pc = .ok (ins, wq_il an ins)) && wq_k nL an pc ins) && wq_c cc nL r (pc + wq_il an ins)
set_option maxHeartbeats 4000000 in
set_option maxRecDepth 100000 in
theorem wq_sound {p : Program} {l : Launch} {e : Env} {R : Room} {s : State} {m : MethodId} {args : Array Value} {below : List Frame} {meth : Method} {c : Code} {cc : ByteArray} {nL : Nat} {own : String} {Ts : List Cond} {D : va_G} {cl : List vw_C} {tys : List (ClassId × FieldType)} {A : Nat → Prop} {tc : Nat → ClassId} {Q : State → Prop} {ini : Bool} {EN : Option Value → va_W → Nat → Nat → Prop} {ft : List (Nat × Nat × Nat × Nat)} {ty : Nat → Nat → FieldType}
    (hC : Cx p s m args c cc nL own Ts D cl tys A tc) (hF : vx_Ft own Ts cl ty ft) (hini : ini = true → meth.name = "<init>") (hE : vx_EN cc EN (Vx p l e R s m args below meth c nL D cl A Q)) :
    ∀ (jc : wq_J) (pc : Nat) (lv : wq_L) (st : List Value) (ws : va_W) (k n : Nat), wq_c cc nL jc pc = true →
      wq nL ini tc ft ty (vx_RT A s) (vx_RF own args A s) (vx_RZ own args A s) (vx_RS own args s) (vx_SX cc (Vx p l e R s m args below meth c nL D cl A Q)) EN (Vx p l e R s m args below meth c nL D cl A Q) jc pc lv st ws k n → Vx p l e R s m args below meth c nL D cl A Q pc lv st ws k n := sorry
/-! CONTRACTS over cells, and calls by them -/
def Qp (D : va_G) (cl : List vw_C) (A : Nat → Prop) (post : Option Value → va_W → Prop) : Array Value → State → Outcome → State → Prop := fun _ st oc t => (∃ (r : Option Value) (w1 : va_W), oc = .returned r ∧ post r w1 ∧ va_P D cl w1 t.heap ∧ va_D A w1) ∧ va_F A st t
/-- facts about cells that are only read: they don't mind frames, writes elsewhere, fewer writes -/
def RO (F : (Nat → Prop) → State → Heap → Prop) : Prop := (∀ (A : Nat → Prop) (u U : State) (H : Heap), u.WarmedH U.vm → F A u H → F A U H) ∧ (∀ (A : Nat → Prop) (U : State) (H H1 : Heap), (∀ a : Nat, a < H.size → ¬ A a → H1[a]? = H[a]?) → F A U H → F A U H1) ∧ (∀ (A B : Nat → Prop) (U : State) (H : Heap), (∀ q, B q → A q) → F A U H → F B U H)
def Kp (D : va_G) (cl : List vw_C) (tys : List (ClassId × FieldType)) (F : (Nat → Prop) → State → Heap → Prop) (ar : List Value) (ws : va_W) (sz : Nat) : Array Value → State → Prop := va_Pc ar (fun U => U.heap.size = sz ∧ va_P D cl ws U.heap ∧ va_K D cl tys U ∧ va_D (fun _ => True) ws ∧ F (va_A ws sz) U U.heap)
/-- a method's contract: from the cells ws and the read facts F it answers by post, at most mc cells of ms slots are new -/
def Kt (l : Launch) (y : MethodName) (wds : List Cond) (fr lo mc ms : Nat) (D : va_G) (cl : List vw_C) (tys : List (ClassId × FieldType)) (F : (Nat → Prop) → State → Heap → Prop) (ar : List Value) (ws : va_W) (post : Option Value → va_W → Prop) : Prop :=
  RO F ∧ ∀ sz : Nat, Met l y wds { frames := fr, cells := mc, slots := ms, locals := lo } (Kp D cl tys F ar ws sz) (Qp D cl (va_A ws sz) post) mc ms (va_A ws sz)
theorem Kp.blind {D : va_G} {cl : List vw_C} {tys : List (ClassId × FieldType)} {F : (Nat → Prop) → State → Heap → Prop} {ar : List Value} {ws : va_W} {sz : Nat} (hF : RO F) : FrameBlind (Kp D cl tys F ar ws sz) := sorry
set_option maxHeartbeats 1000000 in
/-- a contract out of a walk -/
theorem Kt.of {l : Launch} {y : MethodName} {wds ws' : List Cond} {fr lo mc ms : Nat} {D : va_G} {cl : List vw_C} {tys : List (ClassId × FieldType)} {F : (Nat → Prop) → State → Heap → Prop} {ar : List Value} {ws : va_W} {post : Option Value → va_W → Prop} {cc : ByteArray} {nL : Nat} {ret : Option FieldType} {tc : Nat → ClassId}
    (hF : RO F) (hy : plainName y.cls = true) (hw : wds = Cond.code y cc nL ret :: ws') (hty : ∀ i : Nat, i < 4 → tys[i]? = some (tc i, vx_ty i)) (hlen : (lg_sl ar).length ≤ nL)
    (body : ∀ (p : Program) (e : Env) (s : State) (m : MethodId) (args : Array Value) (below : List Frame) (meth : Method) (c : Code) (A : Nat → Prop), Cx p s m args c cc nL y.cls wds D cl tys A tc → meth.sig.returnType = ret → meth.locks = false → meth.name = y.name → F A s s.heap →
      Vx p l e { frames := fr, cells := mc, slots := ms, locals := lo } s m args below meth c nL D cl A (MQ below (Qp D cl A post) args s mc ms A) 0 (lv_args 0 ar) [] ws 0 0) :
    Kt l y wds fr lo mc ms D cl tys F ar ws post := sorry
section
variable {p : Program} {l : Launch} {e : Env} {R : Room} {s : State} {m : MethodId} {args : Array Value} {below : List Frame} {meth : Method} {c : Code} {cc : ByteArray} {nL : Nat} {own : String} {Ts : List Cond} {D : va_G} {cl : List vw_C} {tys : List (ClassId × FieldType)} {A : Nat → Prop} {tc : Nat → ClassId} {Q : State → Prop} {pc : Nat} {lv lv' : wq_L} {st rest : List Value} {ws wc wr ws2 : va_W} {k n mc ms : Nat} {post : Option Value → va_W → Prop} {F : (Nat → Prop) → State → Heap → Prop}
/-- fewer locals and cells, in another order -/
theorem Vx.sub (is : List Nat) (hl : lv_pick lv is = lv') (js : List Nat) (hn : va_nd js = true) (hw : js.map (fun i => ws[i]?) = ws2.map some) (h : Vx p l e R s m args below meth c nL D cl A Q pc lv' st ws2 k n) : Vx p l e R s m args below meth c nL D cl A Q pc lv st ws k n := sorry
theorem Vx.subL (is : List Nat) (hl : lv_pick lv is = lv') (h : Vx p l e R s m args below meth c nL D cl A Q pc lv' st ws k n) : Vx p l e R s m args below meth c nL D cl A Q pc lv st ws k n := sorry
theorem Vx.wide {k2 n2 : Nat} (h1 : k ≤ k2) (h2 : n ≤ n2) (h : Vx p l e R s m args below meth c nL D cl A Q pc lv st ws k2 n2) : Vx p l e R s m args below meth c nL D cl A Q pc lv st ws k n := sorry
theorem Vx.eqs {lv2 : wq_L} {st2 : List Value} {w2 : va_W} {pc2 : Nat} (h0 : pc = pc2) (h1 : lv = lv2) (h2 : st = st2) (h3 : ws = w2) (h : Vx p l e R s m args below meth c nL D cl A Q pc2 lv2 st2 w2 k n) : Vx p l e R s m args below meth c nL D cl A Q pc lv st ws k n := sorry
theorem vx_iret (hC : Cx p s m args c cc nL own Ts D cl tys A tc) (hr : meth.sig.returnType = some .int) (hlk : meth.locks = false) {v : Int32} (hp : post (some (.int v)) ws) (hk : k ≤ mc) (hn : n ≤ ms) (hdg : decode cc pc = .ok (.ireturn, 1)) :
    Vx p l e R s m args below meth c nL D cl A (MQ below (Qp D cl A post) args s mc ms A) pc lv [.int v] ws k n := sorry
theorem vx_zret {ty : FieldType} (hC : Cx p s m args c cc nL own Ts D cl tys A tc) (hr : meth.sig.returnType = some ty) (hlk : meth.locks = false) {v : Int32} (hv : narrow ty (.int v) = .int v) (hp : post (some (.int v)) ws) (hk : k ≤ mc) (hn : n ≤ ms) (hdg : decode cc pc = .ok (.ireturn, 1)) :
    Vx p l e R s m args below meth c nL D cl A (MQ below (Qp D cl A post) args s mc ms A) pc lv [.int v] ws k n := sorry
theorem vx_lret (hC : Cx p s m args c cc nL own Ts D cl tys A tc) (hr : meth.sig.returnType = some .long) (hlk : meth.locks = false) {v : Int64} (hp : post (some (.long v)) ws) (hk : k ≤ mc) (hn : n ≤ ms) (hdg : decode cc pc = .ok (.lreturn, 1)) :
    Vx p l e R s m args below meth c nL D cl A (MQ below (Qp D cl A post) args s mc ms A) pc lv [.long v] ws k n := sorry
theorem vx_vret (hC : Cx p s m args c cc nL own Ts D cl tys A tc) (hr : meth.sig.returnType = none) (hlk : meth.locks = false) (hp : post none ws) (hk : k ≤ mc) (hn : n ≤ ms) (hdg : decode cc pc = .ok (.return_, 1)) :
    Vx p l e R s m args below meth c nL D cl A (MQ below (Qp D cl A post) args s mc ms A) pc lv [] ws k n := sorry
theorem vx_aret {rt : FieldType} (hC : Cx p s m args c cc nL own Ts D cl tys A tc) (hr : meth.sig.returnType = some rt) (hrt : (∃ n, rt = .object n) ∨ ∃ t, rt = .array t) (hlk : meth.locks = false) {v : Value} (hv : v = .null ∨ ∃ a, v = .ref a) (hp : post (some v) ws) (hk : k ≤ mc) (hn : n ≤ ms) (hdg : decode cc pc = .ok (.areturn, 1)) :
    Vx p l e R s m args below meth c nL D cl A (MQ below (Qp D cl A post) args s mc ms A) pc lv [v] ws k n := sorry
set_option maxHeartbeats 1000000 in
/-- the frame rule at a call -/
theorem vx_call (hA : ∀ q : Nat, s.heap.size ≤ q → A q) {a : Array Value}
    (hrun : ∀ (H : Heap) (locs : List Loc) (ls : Array Slot), va_P D cl ws H → va_D A ws → va_S A s.heap H locs → lv_has ls nL lv → va_Run p l e R s m args below meth c H locs k n mc ms (F0 m pc ls st) rest (Qp D cl (va_A wc H.size) post a) (va_A wc H.size))
    (isC isR : List Nat) (hC : isC.map (fun i => ws[i]?) = wc.map some) (hR : isR.map (fun i => ws[i]?) = wr.map some) (hn : va_nd isR = true) (hdis : ∀ i ∈ isR, i ∉ isC)
    (kk : ∀ (r : Option Value) (w1 : va_W), post r w1 → Vx p l e R s m args below meth c nL D cl A Q (pc + 3) lv (r.toList ++ rest) (wr ++ w1) (k + mc) (n + ms)) :
    Vx p l e R s m args below meth c nL D cl A Q pc lv st ws k n := sorry
/-- read facts at a call: what held at the method's start holds for the callee -/
theorem vx_ro (hF : RO F) (hA : ∀ q : Nat, s.heap.size ≤ q → A q) (h : F A s s.heap) (isC : List Nat) (hC : isC.map (fun i => ws[i]?) = wc.map some) : ∀ (H : Heap) (locs : List Loc), va_P D cl ws H → va_D A ws → va_S A s.heap H locs → F (va_A wc H.size) s H := sorry
variable {y : MethodName} {bytes : ByteArray} {maxL index nA fr lo : Nat} {ret : Option FieldType} {wds : List Cond} {C : String} {b : Nat} {As : List Value}
set_option maxHeartbeats 1000000 in
theorem vx_callV (hC : Cx p s m args c cc nL own Ts D cl tys A tc) (hk : Kt l y wds fr lo mc ms D cl tys F (.ref b :: As) wc post) (cw : CallW R s args own C index y bytes maxL ret wds { frames := fr, cells := mc, slots := ms, locals := lo } mc ms nA)
    (isC isR : List Nat) (hc : isC.map (fun i => ws[i]?) = wc.map some) (hr : isR.map (fun i => ws[i]?) = wr.map some) (hnC : va_nd isC = true) (hn : va_nd isR = true) (hdis : ∀ i ∈ isR, i ∉ isC)
    {q0 ci : Nat} {fs : List Value} {rc : vw_C} (hq : wc[q0]? = some (b, .inr (ci, fs))) (hci : cl[ci]? = some rc) (hrc : rc.1 = C) (hF : ∀ (H : Heap) (locs : List Loc), va_P D cl ws H → va_D A ws → va_S A s.heap H locs → F (va_A wc H.size) s H)
    (hlen : As.length = nA) (hst : st = As.reverse ++ .ref b :: rest) (hW : (rest.map fun v => v.category).sum ≤ 8) (hdg : decode cc pc = .ok (.invokevirtual index, 3)) (hf : k + mc ≤ R.cells ∧ n + ms ≤ R.slots)
    (kk : ∀ (r : Option Value) (w1 : va_W), post r w1 → Vx p l e R s m args below meth c nL D cl A Q (pc + 3) lv (r.toList ++ rest) (wr ++ w1) (k + mc) (n + ms)) :
    Vx p l e R s m args below meth c nL D cl A Q pc lv st ws k n := sorry
end

/-! ENDS, the middle of a method, calls as steps -/
def vx_rt (ret : Option FieldType) (r : Option Value) : Prop := match ret, r with
  | none, none => True
  | some .int, some (.int _) => True
  | some .boolean, some (.int v) => narrow .boolean (.int v) = .int v
  | some .char, some (.int v) => narrow .char (.int v) = .int v
  | some .byte, some (.int v) => narrow .byte (.int v) = .int v
  | some .long, some (.long _) => True
  | some (.object _), some (.ref _) => True
  | some (.object _), some .null => True
  | some (.array _), some (.ref _) => True
  | _, _ => False
def vx_E (ret : Option FieldType) (post : Option Value → va_W → Prop) (mc ms : Nat) : Option Value → va_W → Nat → Nat → Prop := fun r ws k n => vx_rt ret r ∧ post r ws ∧ k ≤ mc ∧ n ≤ ms
def wq_pc : wq_J → Nat → Nat
  | _, 0 => 0
  | [], _ + 1 => 0
  | (ins, an) :: r, i + 1 => wq_il an ins + wq_pc r i
theorem wq_c_drop {cc : ByteArray} {nL : Nat} : ∀ (i : Nat) (j : wq_J) (b : Nat), i ≤ j.length → wq_c cc nL j b = true → wq_c cc nL (j.drop i) (b + wq_pc j i) = true:= sorry
section
variable {p : Program} {l : Launch} {e : Env} {R : Room} {s : State} {m : MethodId} {args : Array Value} {below : List Frame} {meth : Method} {c : Code} {cc : ByteArray} {nL : Nat} {own : String} {Ts : List Cond} {D : va_G} {cl : List vw_C} {tys : List (ClassId × FieldType)} {A : Nat → Prop} {tc : Nat → ClassId} {Q : State → Prop} {st rest : List Value} {ws wc wr : va_W} {k n mc ms : Nat} {post : Option Value → va_W → Prop} {F : (Nat → Prop) → State → Heap → Prop} {ret : Option FieldType} {ini : Bool} {EN : Option Value → va_W → Nat → Nat → Prop} {ft : List (Nat × Nat × Nat × Nat)} {ty : Nat → Nat → FieldType} {K : List Value → va_W → Nat → Nat → Prop}
theorem vx_ends (hC : Cx p s m args c cc nL own Ts D cl tys A tc) (hr : meth.sig.returnType = ret) (hlk : meth.locks = false) : vx_EN cc (vx_E ret post mc ms) (Vx p l e R s m args below meth c nL D cl A (MQ below (Qp D cl A post) args s mc ms A)) := sorry
/-- from any place of a method's list on -/
theorem vx_go {j : wq_J} (hC : Cx p s m args c cc nL own Ts D cl tys A tc) (hF : vx_Ft own Ts cl ty ft) (hini : ini = true → meth.name = "<init>") (hE : vx_EN cc EN (Vx p l e R s m args below meth c nL D cl A Q)) (hj : wq_c cc nL j 0 = true) (i : Nat) {pc : Nat} (hi : i ≤ j.length) (hpc : wq_pc j i = pc) {lv : wq_L}
    (h : wq nL ini tc ft ty (vx_RT A s) (vx_RF own args A s) (vx_RZ own args A s) (vx_RS own args s) (vx_SX cc (Vx p l e R s m args below meth c nL D cl A Q)) EN (Vx p l e R s m args below meth c nL D cl A Q) (j.drop i) pc lv st ws k n) : Vx p l e R s m args below meth c nL D cl A Q pc lv st ws k n := sorry
variable {y x : MethodName} {bytes : ByteArray} {maxL index nA fr lo : Nat} {wds : List Cond} {C owner : String} {b : Nat} {As : List Value}
theorem va_P.sub2 {H : Heap} {isC : List Nat} (hc : isC.map (fun i => ws[i]?) = wc.map some) (hP : va_P D cl ws H) : va_P D cl wc H := sorry
theorem sx_callV (hC : Cx p s m args c cc nL own Ts D cl tys A tc) (hk : Kt l y wds fr lo mc ms D cl tys F (.ref b :: As) wc post) (cw : CallW R s args own C index y bytes maxL ret wds { frames := fr, cells := mc, slots := ms, locals := lo } mc ms nA)
    (isC isR : List Nat) (hc : isC.map (fun i => ws[i]?) = wc.map some) (hr : isR.map (fun i => ws[i]?) = wr.map some) (hnC : va_nd isC = true) (hn : va_nd isR = true) (hdis : ∀ i ∈ isR, i ∉ isC)
    {q0 ci : Nat} {fs : List Value} {rc : vw_C} (hq : wc[q0]? = some (b, .inr (ci, fs))) (hci : cl[ci]? = some rc) (hrc : rc.1 = C) (hF : ∀ (H : Heap) (locs : List Loc), va_P D cl ws H → va_D A ws → va_S A s.heap H locs → F (va_A wc H.size) s H)
    (hlen : As.length = nA) (hst : st = As.reverse ++ .ref b :: rest) (hW : (rest.map fun v => v.category).sum ≤ 8) (hf : k + mc ≤ R.cells ∧ n + ms ≤ R.slots)
    (kk : ∀ (r : Option Value) (w1 : va_W), post r w1 → K (r.toList ++ rest) (wr ++ w1) (k + mc) (n + ms)) :
    vx_SX cc (Vx p l e R s m args below meth c nL D cl A Q) (.invokevirtual index) 3 st ws k n K := sorry
set_option maxHeartbeats 1000000 in
theorem sx_callU (hC : Cx p s m args c cc nL own Ts D cl tys A tc) (hk : Kt l y wds fr lo mc ms D cl tys F (.ref b :: As) wc post) (cw : va_CU R s args own C owner index x y bytes maxL ret wds { frames := fr, cells := mc, slots := ms, locals := lo } mc ms nA)
    (isC isR : List Nat) (hc : isC.map (fun i => ws[i]?) = wc.map some) (hr : isR.map (fun i => ws[i]?) = wr.map some) (hnC : va_nd isC = true) (hn : va_nd isR = true) (hdis : ∀ i ∈ isR, i ∉ isC)
    {q0 ci : Nat} {fs : List Value} {rc : vw_C} (hq : wc[q0]? = some (b, .inr (ci, fs))) (hci : cl[ci]? = some rc) (hrc : rc.1 = C) (hF : ∀ (H : Heap) (locs : List Loc), va_P D cl ws H → va_D A ws → va_S A s.heap H locs → F (va_A wc H.size) s H)
    (hlen : As.length = nA) (hst : st = As.reverse ++ .ref b :: rest) (hW : (rest.map fun v => v.category).sum ≤ 8) (hf : k + mc ≤ R.cells ∧ n + ms ≤ R.slots)
    (kk : ∀ (r : Option Value) (w1 : va_W), post r w1 → K (r.toList ++ rest) (wr ++ w1) (k + mc) (n + ms)) :
    vx_SX cc (Vx p l e R s m args below meth c nL D cl A Q) (.invokevirtual index) 3 st ws k n K := sorry
set_option maxHeartbeats 1000000 in
theorem sx_callS (hC : Cx p s m args c cc nL own Ts D cl tys A tc) (hk : Kt l y wds fr lo mc ms D cl tys F As wc post) (cw : CallB R s args own index y bytes maxL ret wds { frames := fr, cells := mc, slots := ms, locals := lo } mc ms nA ∧ (Cond.static y).before args s = true)
    (isC isR : List Nat) (hc : isC.map (fun i => ws[i]?) = wc.map some) (hr : isR.map (fun i => ws[i]?) = wr.map some) (hnC : va_nd isC = true) (hn : va_nd isR = true) (hdis : ∀ i ∈ isR, i ∉ isC)
    (hF : ∀ (H : Heap) (locs : List Loc), va_P D cl ws H → va_D A ws → va_S A s.heap H locs → F (va_A wc H.size) s H)
    (hlen : As.length = nA) (hst : st = As.reverse ++ rest) (hW : (rest.map fun v => v.category).sum ≤ 8) (hf : k + mc ≤ R.cells ∧ n + ms ≤ R.slots)
    (kk : ∀ (r : Option Value) (w1 : va_W), post r w1 → K (r.toList ++ rest) (wr ++ w1) (k + mc) (n + ms)) :
    vx_SX cc (Vx p l e R s m args below meth c nL D cl A Q) (.invokestatic index) 3 st ws k n K := sorry
set_option maxHeartbeats 1000000 in
theorem sx_callI (hC : Cx p s m args c cc nL own Ts D cl tys A tc) (hk : Kt l y wds fr lo mc ms D cl tys F (.ref b :: As) wc post) (cw : CallB R s args own index y bytes maxL none wds { frames := fr, cells := mc, slots := ms, locals := lo } mc ms nA ∧ y.name = "<init>" ∧ (Cond.instanceMethod y).before args s = true)
    (isC isR : List Nat) (hc : isC.map (fun i => ws[i]?) = wc.map some) (hr : isR.map (fun i => ws[i]?) = wr.map some) (hnC : va_nd isC = true) (hn : va_nd isR = true) (hdis : ∀ i ∈ isR, i ∉ isC)
    (hF : ∀ (H : Heap) (locs : List Loc), va_P D cl ws H → va_D A ws → va_S A s.heap H locs → F (va_A wc H.size) s H)
    (hlen : As.length = nA) (hst : st = As.reverse ++ .ref b :: rest) (hW : (rest.map fun v => v.category).sum ≤ 8) (hf : k + mc ≤ R.cells ∧ n + ms ≤ R.slots)
    (kk : ∀ (r : Option Value) (w1 : va_W), post r w1 → K (r.toList ++ rest) (wr ++ w1) (k + mc) (n + ms)) :
    vx_SX cc (Vx p l e R s m args below meth c nL D cl A Q) (.invokespecial index) 3 st ws k n K := sorry
end

/-! NAMES, by program: classes and fields, methods, code lists -/
/-- Reader.say is private, its callers are objects of the five subclasses: these five words are shown at the law -/
def sayS : List Cond := [.selects "OriginDesk$Accept" ⟨"OriginDesk$Reader", "say", "(I)V"⟩ ⟨"OriginDesk$Reader", "say", "(I)V"⟩, .selects "OriginDesk$Languages" ⟨"OriginDesk$Reader", "say", "(I)V"⟩ ⟨"OriginDesk$Reader", "say", "(I)V"⟩, .selects "OriginDesk$Tags" ⟨"OriginDesk$Reader", "say", "(I)V"⟩ ⟨"OriginDesk$Reader", "say", "(I)V"⟩, .selects "OriginDesk$Dates" ⟨"OriginDesk$Reader", "say", "(I)V"⟩ ⟨"OriginDesk$Reader", "say", "(I)V"⟩, .selects "OriginDesk$Ranges" ⟨"OriginDesk$Reader", "say", "(I)V"⟩ ⟨"OriginDesk$Reader", "say", "(I)V"⟩, .selects "java/lang/StringBuilder" ⟨"java/lang/AbstractStringBuilder", "ensureCapacityInternal", "(I)V"⟩ ⟨"java/lang/AbstractStringBuilder", "ensureCapacityInternal", "(I)V"⟩, .selects "java/lang/StringBuilder" ⟨"java/lang/AbstractStringBuilder", "newCapacity", "(I)I"⟩ ⟨"java/lang/AbstractStringBuilder", "newCapacity", "(I)I"⟩, .selects "java/lang/StringBuilder" ⟨"java/lang/AbstractStringBuilder", "putStringAt", "(ILjava/lang/String;)V"⟩ ⟨"java/lang/AbstractStringBuilder", "putStringAt", "(ILjava/lang/String;)V"⟩, .selects "java/lang/StringBuilder" ⟨"java/lang/AbstractStringBuilder", "inflateIfNeededFor", "(Ljava/lang/String;)V"⟩ ⟨"java/lang/AbstractStringBuilder", "inflateIfNeededFor", "(Ljava/lang/String;)V"⟩]
def gw : List Cond := (sayS ++ lw_tbl).filter goodWord
theorem gw_of {w : Cond} (h : w ∈ lw_tbl) (g : goodWord w = true) : w ∈ gw := sorry
theorem gw_say {w : Cond} (h : w ∈ sayS) (g : goodWord w = true) : w ∈ gw := sorry
theorem gw_i (i : Nat) {w : Cond} (h : tables_1[i]? = some w) (g : goodWord w = true) : w ∈ gw := sorry
theorem gw_sub {ws : List Cond} (ps : List Nat) (hp : ws = ps.filterMap (fun i => tables_1[i]?)) (h : ws.all goodWord = true) : ∀ w ∈ ws, w ∈ gw := sorry
theorem gw_good : GoodIn gw gw := sorry
def R_Ac : String := "OriginDesk$Accept"
def F_Ac : u_T := fun k => match k with
  | 0 => ("OriginDesk$Reader", "row", "[I", false)
  | 1 => ("OriginDesk$Reader", "size", "I", false)
  | 2 => ("OriginDesk$Reader", "at", "I", false)
  | 3 => ("OriginDesk$Reader", "said", "[I", true)
  | 4 => ("OriginDesk$Reader", "saidSize", "I", false)
  | 5 => ("OriginDesk$Accept", "quality", "I", false)
  | 6 => ("OriginDesk$Accept", "mostTold", "I", false)
  | 7 => ("OriginDesk$Accept", "fits", "Z", false)
  | 8 => ("OriginDesk$Accept", "told", "I", false)
  | _ => ("OriginDesk$Accept", "weight", "I", false)
def t_Ac : Nat → FieldType := fun k => match k with
  | 0 => .array (.int)
  | 1 => .int
  | 2 => .int
  | 3 => .array (.int)
  | 4 => .int
  | 5 => .int
  | 6 => .int
  | 7 => .boolean
  | 8 => .int
  | _ => .int
def R_La : String := "OriginDesk$Languages"
def F_La : u_T := fun k => match k with
  | 0 => ("OriginDesk$Reader", "row", "[I", false)
  | 1 => ("OriginDesk$Reader", "size", "I", false)
  | 2 => ("OriginDesk$Reader", "at", "I", false)
  | 3 => ("OriginDesk$Reader", "said", "[I", true)
  | 4 => ("OriginDesk$Reader", "saidSize", "I", false)
  | 5 => ("OriginDesk$Languages", "quality", "I", false)
  | _ => ("OriginDesk$Languages", "longest", "I", false)
def t_La : Nat → FieldType := fun k => match k with
  | 0 => .array (.int)
  | 1 => .int
  | 2 => .int
  | 3 => .array (.int)
  | 4 => .int
  | 5 => .int
  | _ => .int
def R_Tg : String := "OriginDesk$Tags"
def F_Tg : u_T := fun k => match k with
  | 0 => ("OriginDesk$Reader", "row", "[I", false)
  | 1 => ("OriginDesk$Reader", "size", "I", false)
  | 2 => ("OriginDesk$Reader", "at", "I", false)
  | 3 => ("OriginDesk$Reader", "said", "[I", true)
  | 4 => ("OriginDesk$Reader", "saidSize", "I", false)
  | 5 => ("OriginDesk$Tags", "star", "Z", false)
  | 6 => ("OriginDesk$Tags", "same", "Z", false)
  | _ => ("OriginDesk$Tags", "strong", "Z", false)
def t_Tg : Nat → FieldType := fun k => match k with
  | 0 => .array (.int)
  | 1 => .int
  | 2 => .int
  | 3 => .array (.int)
  | 4 => .int
  | 5 => .boolean
  | 6 => .boolean
  | _ => .boolean
def R_Da : String := "OriginDesk$Dates"
def F_Da : u_T := fun k => match k with
  | 0 => ("OriginDesk$Reader", "row", "[I", false)
  | 1 => ("OriginDesk$Reader", "size", "I", false)
  | 2 => ("OriginDesk$Reader", "at", "I", false)
  | 3 => ("OriginDesk$Reader", "said", "[I", true)
  | 4 => ("OriginDesk$Reader", "saidSize", "I", false)
  | 5 => ("OriginDesk$Dates", "latestYear", "I", true)
  | 6 => ("OriginDesk$Dates", "year", "I", false)
  | 7 => ("OriginDesk$Dates", "month", "I", false)
  | 8 => ("OriginDesk$Dates", "day", "I", false)
  | _ => ("OriginDesk$Dates", "second", "I", false)
def t_Da : Nat → FieldType := fun k => match k with
  | 0 => .array (.int)
  | 1 => .int
  | 2 => .int
  | 3 => .array (.int)
  | 4 => .int
  | 5 => .int
  | 6 => .int
  | 7 => .int
  | 8 => .int
  | _ => .int
def R_Ra : String := "OriginDesk$Ranges"
def F_Ra : u_T := fun k => match k with
  | 0 => ("OriginDesk$Reader", "row", "[I", false)
  | 1 => ("OriginDesk$Reader", "size", "I", false)
  | 2 => ("OriginDesk$Reader", "at", "I", false)
  | 3 => ("OriginDesk$Reader", "said", "[I", true)
  | 4 => ("OriginDesk$Reader", "saidSize", "I", false)
  | 5 => ("OriginDesk$Ranges", "firsts", "[I", true)
  | 6 => ("OriginDesk$Ranges", "lasts", "[I", true)
  | 7 => ("OriginDesk$Ranges", "specs", "I", false)
  | _ => ("OriginDesk$Ranges", "kept", "I", false)
def t_Ra : Nat → FieldType := fun k => match k with
  | 0 => .array (.int)
  | 1 => .int
  | 2 => .int
  | 3 => .array (.int)
  | 4 => .int
  | 5 => .array (.int)
  | 6 => .array (.int)
  | 7 => .int
  | _ => .int
def R_Rq : String := "OriginDesk$Request"
def F_Rq : u_T := fun k => match k with
  | 0 => ("OriginDesk$Request", "method", "I", false)
  | 1 => ("OriginDesk$Request", "texts", "[[I", true)
  | _ => ("OriginDesk$Request", "sizes", "[I", true)
def t_Rq : Nat → FieldType := fun k => match k with
  | 0 => .int
  | 1 => .array (.array (.int))
  | _ => .array (.int)
def R_Rs : String := "OriginDesk$Response"
def F_Rs : u_T := fun k => match k with
  | 0 => ("OriginDesk$Response", "code", "I", false)
  | 1 => ("OriginDesk$Response", "subject", "LOriginDesk$Representation;", false)
  | 2 => ("OriginDesk$Response", "bodySize", "I", false)
  | 3 => ("OriginDesk$Response", "partCount", "I", false)
  | 4 => ("OriginDesk$Response", "firsts", "[I", true)
  | 5 => ("OriginDesk$Response", "lasts", "[I", true)
  | 6 => ("OriginDesk$Response", "bodyless", "Z", false)
  | _ => ("OriginDesk$Response", "heading", "Ljava/lang/StringBuilder;", true)
def t_Rs : Nat → FieldType := fun k => match k with
  | 0 => .int
  | 1 => .object "OriginDesk$Representation"
  | 2 => .int
  | 3 => .int
  | 4 => .array (.int)
  | 5 => .array (.int)
  | 6 => .boolean
  | _ => .object "java/lang/StringBuilder"
def R_Rp : String := "OriginDesk$Representation"
def F_Rp : u_T := fun k => match k with
  | 0 => ("OriginDesk$Representation", "number", "I", true)
  | 1 => ("OriginDesk$Representation", "type", "LOriginDesk$MediaType;", true)
  | 2 => ("OriginDesk$Representation", "language", "LOriginDesk$Language;", true)
  | 3 => ("OriginDesk$Representation", "size", "I", true)
  | 4 => ("OriginDesk$Representation", "tagText", "Ljava/lang/String;", true)
  | 5 => ("OriginDesk$Representation", "weak", "Z", true)
  | _ => ("OriginDesk$Representation", "change", "J", true)
def t_Rp : Nat → FieldType := fun k => match k with
  | 0 => .int
  | 1 => .object "OriginDesk$MediaType"
  | 2 => .object "OriginDesk$Language"
  | 3 => .int
  | 4 => .object "java/lang/String"
  | 5 => .boolean
  | _ => .long
def R_Dk : String := "OriginDesk"
def F_Dk : u_T := fun k => match k with
  | 0 => ("OriginDesk", "shelf", "[LOriginDesk$Representation;", true)
  | 1 => ("OriginDesk", "count", "I", false)
  | 2 => ("OriginDesk", "asked", "LOriginDesk$Request;", true)
  | 3 => ("OriginDesk", "accept", "LOriginDesk$Accept;", true)
  | 4 => ("OriginDesk", "languages", "LOriginDesk$Languages;", true)
  | 5 => ("OriginDesk", "tags", "LOriginDesk$Tags;", true)
  | 6 => ("OriginDesk", "dates", "LOriginDesk$Dates;", true)
  | 7 => ("OriginDesk", "ranges", "LOriginDesk$Ranges;", true)
  | _ => ("OriginDesk", "response", "LOriginDesk$Response;", true)
def t_Dk : Nat → FieldType := fun k => match k with
  | 0 => .array (.object "OriginDesk$Representation")
  | 1 => .int
  | 2 => .object "OriginDesk$Request"
  | 3 => .object "OriginDesk$Accept"
  | 4 => .object "OriginDesk$Languages"
  | 5 => .object "OriginDesk$Tags"
  | 6 => .object "OriginDesk$Dates"
  | 7 => .object "OriginDesk$Ranges"
  | _ => .object "OriginDesk$Response"
def R_Mo : String := "OriginDeskModel"
def F_Mo : u_T := fun k => match k with
  | 0 => ("OriginDeskModel", "now", "J", true)
  | 1 => ("OriginDeskModel", "count", "I", false)
  | 2 => ("OriginDeskModel", "type", "[I", true)
  | 3 => ("OriginDeskModel", "language", "[I", true)
  | 4 => ("OriginDeskModel", "size", "[I", true)
  | 5 => ("OriginDeskModel", "tag", "[I", true)
  | 6 => ("OriginDeskModel", "weak", "[Z", true)
  | 7 => ("OriginDeskModel", "change", "[J", true)
  | 8 => ("OriginDeskModel", "method", "I", false)
  | 9 => ("OriginDeskModel", "text", "[I", true)
  | 10 => ("OriginDeskModel", "length", "[I", true)
  | 11 => ("OriginDeskModel", "f", "I", false)
  | 12 => ("OriginDeskModel", "at", "I", false)
  | 13 => ("OriginDeskModel", "from", "I", false)
  | 14 => ("OriginDeskModel", "to", "I", false)
  | 15 => ("OriginDeskModel", "tagWeak", "Z", false)
  | 16 => ("OriginDeskModel", "value", "I", false)
  | 17 => ("OriginDeskModel", "nameFrom", "I", false)
  | 18 => ("OriginDeskModel", "nameTo", "I", false)
  | 19 => ("OriginDeskModel", "isOne", "Z", false)
  | 20 => ("OriginDeskModel", "specs", "I", false)
  | 21 => ("OriginDeskModel", "specFirst", "[I", true)
  | 22 => ("OriginDeskModel", "specLast", "[I", true)
  | 23 => ("OriginDeskModel", "status", "I", false)
  | 24 => ("OriginDeskModel", "answered", "I", false)
  | 25 => ("OriginDeskModel", "bytes", "I", false)
  | 26 => ("OriginDeskModel", "headOnly", "Z", false)
  | 27 => ("OriginDeskModel", "partCount", "I", false)
  | 28 => ("OriginDeskModel", "partFirst", "[I", true)
  | 29 => ("OriginDeskModel", "partLast", "[I", true)
  | _ => ("OriginDeskModel", "word", "[J", true)
def t_Mo : Nat → FieldType := fun k => match k with
  | 0 => .long
  | 1 => .int
  | 2 => .array (.int)
  | 3 => .array (.int)
  | 4 => .array (.int)
  | 5 => .array (.int)
  | 6 => .array (.boolean)
  | 7 => .array (.long)
  | 8 => .int
  | 9 => .array (.int)
  | 10 => .array (.int)
  | 11 => .int
  | 12 => .int
  | 13 => .int
  | 14 => .int
  | 15 => .boolean
  | 16 => .int
  | 17 => .int
  | 18 => .int
  | 19 => .boolean
  | 20 => .int
  | 21 => .array (.int)
  | 22 => .array (.int)
  | 23 => .int
  | 24 => .int
  | 25 => .int
  | 26 => .boolean
  | 27 => .int
  | 28 => .array (.int)
  | 29 => .array (.int)
  | _ => .array (.long)
def R_St : String := "java/lang/String"
def F_St : u_T := fun k => match k with
  | 0 => ("java/lang/String", "value", "[B", true)
  | 1 => ("java/lang/String", "coder", "B", true)
  | 2 => ("java/lang/String", "hash", "I", false)
  | _ => ("java/lang/String", "hashIsZero", "Z", false)
def t_St : Nat → FieldType := fun k => match k with
  | 0 => .array (.byte)
  | 1 => .byte
  | 2 => .int
  | _ => .boolean
def R_Sb : String := "java/lang/StringBuilder"
def F_Sb : u_T := fun k => match k with
  | 0 => ("java/lang/AbstractStringBuilder", "value", "[B", false)
  | 1 => ("java/lang/AbstractStringBuilder", "coder", "B", false)
  | 2 => ("java/lang/AbstractStringBuilder", "maybeLatin1", "Z", false)
  | _ => ("java/lang/AbstractStringBuilder", "count", "I", false)
def t_Sb : Nat → FieldType := fun k => match k with
  | 0 => .array (.byte)
  | 1 => .byte
  | 2 => .boolean
  | _ => .int
def R_Rd : String := "OriginDesk$Reader"
abbrev cls : List vw_C := [(R_Ac, F_Ac, 10), (R_La, F_La, 7), (R_Tg, F_Tg, 8), (R_Da, F_Da, 10), (R_Ra, F_Ra, 9), (R_Rq, F_Rq, 3), (R_Rs, F_Rs, 8), (R_Rp, F_Rp, 7), (R_Dk, F_Dk, 9), (R_Mo, F_Mo, 31), (R_St, F_St, 4), (R_Sb, F_Sb, 4)]
def cty (ci : Nat) : Nat → FieldType := match ci with
  | 0 => t_Ac
  | 1 => t_La
  | 2 => t_Tg
  | 3 => t_Da
  | 4 => t_Ra
  | 5 => t_Rq
  | 6 => t_Rs
  | 7 => t_Rp
  | 8 => t_Dk
  | 9 => t_Mo
  | 10 => t_St
  | _ => t_Sb
theorem u_Ac : ∀ w ∈ u_ws R_Ac F_Ac 10, w ∈ gw := sorry
theorem u_La : ∀ w ∈ u_ws R_La F_La 7, w ∈ gw := sorry
theorem u_Tg : ∀ w ∈ u_ws R_Tg F_Tg 8, w ∈ gw := sorry
theorem u_Da : ∀ w ∈ u_ws R_Da F_Da 10, w ∈ gw := sorry
theorem u_Ra : ∀ w ∈ u_ws R_Ra F_Ra 9, w ∈ gw := sorry
theorem u_Rq : ∀ w ∈ u_ws R_Rq F_Rq 3, w ∈ gw := sorry
theorem u_Rs : ∀ w ∈ u_ws R_Rs F_Rs 8, w ∈ gw := sorry
theorem u_Rp : ∀ w ∈ u_ws R_Rp F_Rp 7, w ∈ gw := sorry
theorem u_Dk : ∀ w ∈ u_ws R_Dk F_Dk 9, w ∈ gw := sorry
theorem u_Mo : ∀ w ∈ u_ws R_Mo F_Mo 31, w ∈ gw := sorry
theorem u_St : ∀ w ∈ u_ws R_St F_St 4, w ∈ gw := sorry
theorem u_Sb : ∀ w ∈ u_ws R_Sb F_Sb 4, w ∈ gw := sorry
def cl_ok (q : vw_C) (ci : Nat) : Prop := (∀ w ∈ u_ws q.1 q.2.1 q.2.2, w ∈ gw) ∧ (∀ j, j < q.2.2 → parseFieldDescriptor (q.2.1 j).2.2.1 = some (cty ci j)) ∧ (∀ a, a < q.2.2 → ∀ b, b < q.2.2 → a ≠ b → (q.2.1 a).2.1 ≠ (q.2.1 b).2.1)
theorem k_Ac : cl_ok (R_Ac, F_Ac, 10) 0 := sorry
theorem k_La : cl_ok (R_La, F_La, 7) 1 := sorry
theorem k_Tg : cl_ok (R_Tg, F_Tg, 8) 2 := sorry
theorem k_Da : cl_ok (R_Da, F_Da, 10) 3 := sorry
theorem k_Ra : cl_ok (R_Ra, F_Ra, 9) 4 := sorry
theorem k_Rq : cl_ok (R_Rq, F_Rq, 3) 5 := sorry
theorem k_Rs : cl_ok (R_Rs, F_Rs, 8) 6 := sorry
theorem k_Rp : cl_ok (R_Rp, F_Rp, 7) 7 := sorry
theorem k_Dk : cl_ok (R_Dk, F_Dk, 9) 8 := sorry
theorem k_Mo : cl_ok (R_Mo, F_Mo, 31) 9 := sorry
theorem k_St : cl_ok (R_St, F_St, 4) 10 := sorry
theorem k_Sb : cl_ok (R_Sb, F_Sb, 4) 11 := sorry
theorem cls_ok : ∀ (ci : Nat) (q : vw_C), cls[ci]? = some q → cl_ok q ci := sorry
/-- one row of a table of fields, checked -/
def ft_b (own : String) (lk : List Cond) (q : Nat × Nat × Nat × Nat) : Bool := match cls[q.2.1]? with
  | none => false
  | some r => Nat.blt q.2.2.1 r.2.2 && (decide (Cond.fieldLink own q.1 (r.2.1 q.2.2.1).1 (r.2.1 q.2.2.1).2.1 (r.2.1 q.2.2.1).2.2.1 ∈ lk) && (match q.2.2.2 with
    | 0 => !(r.2.1 q.2.2.1).2.2.2
    | 1 => (r.2.1 q.2.2.1).2.2.2 && decide ((r.2.1 q.2.2.1).1 = own)
    | _ => true))
theorem ft_of {own : String} {lk Ts : List Cond} {ft : List (Nat × Nat × Nat × Nat)} (hs : ∀ w ∈ gw, w ∈ Ts) (hl : ∀ w ∈ lk, w ∈ gw) (h : ft.all (ft_b own lk) = true) : vx_Ft own Ts cls cty ft := sorry
def fl_Dk : List Cond := [.fieldLink "OriginDesk" 113 "OriginDesk$Request" "method" "I", .fieldLink "OriginDesk" 194 "OriginDesk$Accept" "quality" "I", .fieldLink "OriginDesk" 203 "OriginDesk$Languages" "quality" "I", .fieldLink "OriginDesk" 234 "OriginDesk$Tags" "star" "Z", .fieldLink "OriginDesk" 248 "OriginDesk$Tags" "same" "Z", .fieldLink "OriginDesk" 238 "OriginDesk$Tags" "strong" "Z", .fieldLink "OriginDesk" 217 "OriginDesk$Ranges" "specs" "I", .fieldLink "OriginDesk" 224 "OriginDesk$Ranges" "kept" "I", .fieldLink "OriginDesk" 120 "OriginDesk$Response" "code" "I", .fieldLink "OriginDesk" 123 "OriginDesk$Response" "subject" "LOriginDesk$Representation;", .fieldLink "OriginDesk" 130 "OriginDesk$Response" "bodySize" "I", .fieldLink "OriginDesk" 137 "OriginDesk$Response" "partCount" "I", .fieldLink "OriginDesk" 144 "OriginDesk$Response" "firsts" "[I", .fieldLink "OriginDesk" 148 "OriginDesk$Response" "lasts" "[I", .fieldLink "OriginDesk" 11 "OriginDesk" "shelf" "[LOriginDesk$Representation;", .fieldLink "OriginDesk" 86 "OriginDesk" "count" "I", .fieldLink "OriginDesk" 18 "OriginDesk" "asked" "LOriginDesk$Request;", .fieldLink "OriginDesk" 25 "OriginDesk" "accept" "LOriginDesk$Accept;", .fieldLink "OriginDesk" 32 "OriginDesk" "languages" "LOriginDesk$Languages;", .fieldLink "OriginDesk" 39 "OriginDesk" "tags" "LOriginDesk$Tags;", .fieldLink "OriginDesk" 66 "OriginDesk" "dates" "LOriginDesk$Dates;", .fieldLink "OriginDesk" 46 "OriginDesk" "ranges" "LOriginDesk$Ranges;", .fieldLink "OriginDesk" 53 "OriginDesk" "response" "LOriginDesk$Response;", .fieldLink "OriginDesk" 70 "OriginDesk" "TYPES" "[LOriginDesk$MediaType;", .fieldLink "OriginDesk" 78 "OriginDesk" "TONGUES" "[LOriginDesk$Language;", .fieldLink "OriginDesk" 127 "OriginDesk$Representation" "number" "I", .fieldLink "OriginDesk" 191 "OriginDesk$Representation" "type" "LOriginDesk$MediaType;", .fieldLink "OriginDesk" 197 "OriginDesk$Representation" "language" "LOriginDesk$Language;", .fieldLink "OriginDesk" 211 "OriginDesk$Representation" "size" "I", .fieldLink "OriginDesk" 230 "OriginDesk$Representation" "tagText" "Ljava/lang/String;", .fieldLink "OriginDesk" 241 "OriginDesk$Representation" "weak" "Z", .fieldLink "OriginDesk" 244 "OriginDesk$Representation" "change" "J", .fieldLink "OriginDesk" 200 "OriginDesk$Language" "NONE" "LOriginDesk$Language;", .fieldLink "OriginDesk" 154 "OriginDesk$MediaType" "HTML" "LOriginDesk$MediaType;", .fieldLink "OriginDesk" 164 "OriginDesk$Language" "EN" "LOriginDesk$Language;"]
theorem fl_Dk_in : ∀ w ∈ fl_Dk, w ∈ gw := sorry
def ft_Dk : List (Nat × Nat × Nat × Nat) := [(113, 5, 0, 0), (194, 0, 5, 0), (203, 1, 5, 0), (234, 2, 5, 0), (248, 2, 6, 0), (238, 2, 7, 0), (217, 4, 7, 0), (224, 4, 8, 0), (120, 6, 0, 0), (123, 6, 1, 0), (130, 6, 2, 0), (137, 6, 3, 0), (144, 6, 4, 2), (148, 6, 5, 2), (11, 8, 0, 1), (86, 8, 1, 0), (18, 8, 2, 1), (25, 8, 3, 1), (32, 8, 4, 1), (39, 8, 5, 1), (66, 8, 6, 1), (46, 8, 7, 1), (53, 8, 8, 1), (127, 7, 0, 2), (191, 7, 1, 2), (197, 7, 2, 2), (211, 7, 3, 2), (230, 7, 4, 2), (241, 7, 5, 2), (244, 7, 6, 2)]
theorem ft_Dk_b : ft_Dk.all (ft_b "OriginDesk" fl_Dk) = true := sorry
def fl_Ac : List Cond := [.fieldLink "OriginDesk$Accept" 15 "OriginDesk$Accept" "quality" "I", .fieldLink "OriginDesk$Accept" 19 "OriginDesk$Accept" "mostTold" "I", .fieldLink "OriginDesk$Accept" 67 "OriginDesk$Accept" "fits" "Z", .fieldLink "OriginDesk$Accept" 71 "OriginDesk$Accept" "told" "I", .fieldLink "OriginDesk$Accept" 74 "OriginDesk$Accept" "weight" "I", .fieldLink "OriginDesk$Accept" 48 "OriginDesk$MediaType" "main" "Ljava/lang/String;", .fieldLink "OriginDesk$Accept" 64 "OriginDesk$MediaType" "sub" "Ljava/lang/String;", .fieldLink "OriginDesk$Accept" 86 "OriginDesk$MediaType" "parameter" "Ljava/lang/String;", .fieldLink "OriginDesk$Accept" 95 "OriginDesk$MediaType" "value" "Ljava/lang/String;"]
theorem fl_Ac_in : ∀ w ∈ fl_Ac, w ∈ gw := sorry
def ft_Ac : List (Nat × Nat × Nat × Nat) := [(15, 0, 5, 0), (19, 0, 6, 0), (67, 0, 7, 0), (71, 0, 8, 0), (74, 0, 9, 0)]
theorem ft_Ac_b : ft_Ac.all (ft_b "OriginDesk$Accept" fl_Ac) = true := sorry
def fl_La : List Cond := [.fieldLink "OriginDesk$Languages" 15 "OriginDesk$Languages" "quality" "I", .fieldLink "OriginDesk$Languages" 19 "OriginDesk$Languages" "longest" "I", .fieldLink "OriginDesk$Languages" 57 "OriginDesk$Language" "code" "Ljava/lang/String;", .fieldLink "OriginDesk$Languages" 66 "OriginDesk$Language" "beginning" "Ljava/lang/String;"]
theorem fl_La_in : ∀ w ∈ fl_La, w ∈ gw := sorry
def ft_La : List (Nat × Nat × Nat × Nat) := [(15, 1, 5, 0), (19, 1, 6, 0)]
theorem ft_La_b : ft_La.all (ft_b "OriginDesk$Languages" fl_La) = true := sorry
def fl_Tg : List Cond := [.fieldLink "OriginDesk$Tags" 19 "OriginDesk$Tags" "star" "Z", .fieldLink "OriginDesk$Tags" 43 "OriginDesk$Tags" "same" "Z", .fieldLink "OriginDesk$Tags" 46 "OriginDesk$Tags" "strong" "Z"]
theorem fl_Tg_in : ∀ w ∈ fl_Tg, w ∈ gw := sorry
def ft_Tg : List (Nat × Nat × Nat × Nat) := [(19, 2, 5, 0), (43, 2, 6, 0), (46, 2, 7, 0)]
theorem ft_Tg_b : ft_Tg.all (ft_b "OriginDesk$Tags" fl_Tg) = true := sorry
def fl_Da : List Cond := [.fieldLink "OriginDesk$Dates" 15 "OriginDesk$Dates" "latestYear" "I", .fieldLink "OriginDesk$Dates" 109 "OriginDesk$Dates" "year" "I", .fieldLink "OriginDesk$Dates" 106 "OriginDesk$Dates" "month" "I", .fieldLink "OriginDesk$Dates" 102 "OriginDesk$Dates" "day" "I", .fieldLink "OriginDesk$Dates" 112 "OriginDesk$Dates" "second" "I", .fieldLink "OriginDesk$Dates" 124 "OriginDesk$Dates" "MONTH_DAYS" "[I"]
theorem fl_Da_in : ∀ w ∈ fl_Da, w ∈ gw := sorry
def ft_Da : List (Nat × Nat × Nat × Nat) := [(15, 3, 5, 1), (109, 3, 6, 0), (106, 3, 7, 0), (102, 3, 8, 0), (112, 3, 9, 0)]
theorem ft_Da_b : ft_Da.all (ft_b "OriginDesk$Dates" fl_Da) = true := sorry
def fl_Ra : List Cond := [.fieldLink "OriginDesk$Ranges" 9 "OriginDesk$Ranges" "firsts" "[I", .fieldLink "OriginDesk$Ranges" 15 "OriginDesk$Ranges" "lasts" "[I", .fieldLink "OriginDesk$Ranges" 22 "OriginDesk$Ranges" "specs" "I", .fieldLink "OriginDesk$Ranges" 26 "OriginDesk$Ranges" "kept" "I"]
theorem fl_Ra_in : ∀ w ∈ fl_Ra, w ∈ gw := sorry
def ft_Ra : List (Nat × Nat × Nat × Nat) := [(9, 4, 5, 1), (15, 4, 6, 1), (22, 4, 7, 0), (26, 4, 8, 0)]
theorem ft_Ra_b : ft_Ra.all (ft_b "OriginDesk$Ranges" fl_Ra) = true := sorry
def fl_Rd : List Cond := [.fieldLink "OriginDesk$Reader" 9 "OriginDesk$Reader" "row" "[I", .fieldLink "OriginDesk$Reader" 22 "OriginDesk$Reader" "size" "I", .fieldLink "OriginDesk$Reader" 18 "OriginDesk$Reader" "at" "I", .fieldLink "OriginDesk$Reader" 15 "OriginDesk$Reader" "said" "[I", .fieldLink "OriginDesk$Reader" 59 "OriginDesk$Reader" "saidSize" "I"]
theorem fl_Rd_in : ∀ w ∈ fl_Rd, w ∈ gw := sorry
def ft_Rd : List (Nat × Nat × Nat × Nat) := [(9, 0, 0, 0), (9, 1, 0, 0), (9, 2, 0, 0), (9, 3, 0, 0), (9, 4, 0, 0), (22, 0, 1, 0), (22, 1, 1, 0), (22, 2, 1, 0), (22, 3, 1, 0), (22, 4, 1, 0), (18, 0, 2, 0), (18, 1, 2, 0), (18, 2, 2, 0), (18, 3, 2, 0), (18, 4, 2, 0), (15, 0, 3, 1), (15, 1, 3, 1), (15, 2, 3, 1), (15, 3, 3, 1), (15, 4, 3, 1), (59, 0, 4, 0), (59, 1, 4, 0), (59, 2, 4, 0), (59, 3, 4, 0), (59, 4, 4, 0)]
theorem ft_Rd_b : ft_Rd.all (ft_b "OriginDesk$Reader" fl_Rd) = true := sorry
def fl_Rq : List Cond := [.fieldLink "OriginDesk$Request" 9 "OriginDesk$Request" "method" "I", .fieldLink "OriginDesk$Request" 17 "OriginDesk$Request" "texts" "[[I", .fieldLink "OriginDesk$Request" 20 "OriginDesk$Request" "sizes" "[I"]
theorem fl_Rq_in : ∀ w ∈ fl_Rq, w ∈ gw := sorry
def ft_Rq : List (Nat × Nat × Nat × Nat) := [(9, 5, 0, 0), (17, 5, 1, 1), (20, 5, 2, 1)]
theorem ft_Rq_b : ft_Rq.all (ft_b "OriginDesk$Request" fl_Rq) = true := sorry
def fl_Rs : List Cond := [.fieldLink "OriginDesk$Response" 45 "OriginDesk$Ranges" "firsts" "[I", .fieldLink "OriginDesk$Response" 46 "OriginDesk$Ranges" "lasts" "[I", .fieldLink "OriginDesk$Response" 37 "OriginDesk$Ranges" "kept" "I", .fieldLink "OriginDesk$Response" 9 "OriginDesk$Response" "code" "I", .fieldLink "OriginDesk$Response" 29 "OriginDesk$Response" "subject" "LOriginDesk$Representation;", .fieldLink "OriginDesk$Response" 51 "OriginDesk$Response" "bodySize" "I", .fieldLink "OriginDesk$Response" 42 "OriginDesk$Response" "partCount" "I", .fieldLink "OriginDesk$Response" 15 "OriginDesk$Response" "firsts" "[I", .fieldLink "OriginDesk$Response" 19 "OriginDesk$Response" "lasts" "[I", .fieldLink "OriginDesk$Response" 33 "OriginDesk$Response" "bodyless" "Z", .fieldLink "OriginDesk$Response" 25 "OriginDesk$Response" "heading" "Ljava/lang/StringBuilder;", .fieldLink "OriginDesk$Response" 64 "OriginDesk$Representation" "size" "I"]
theorem fl_Rs_in : ∀ w ∈ fl_Rs, w ∈ gw := sorry
def ft_Rs : List (Nat × Nat × Nat × Nat) := [(45, 4, 5, 2), (46, 4, 6, 2), (37, 4, 8, 0), (9, 6, 0, 0), (29, 6, 1, 0), (51, 6, 2, 0), (42, 6, 3, 0), (15, 6, 4, 1), (19, 6, 5, 1), (33, 6, 6, 0), (25, 6, 7, 1), (64, 7, 3, 2)]
theorem ft_Rs_b : ft_Rs.all (ft_b "OriginDesk$Response" fl_Rs) = true := sorry
def fl_Rp : List Cond := [.fieldLink "OriginDesk$Representation" 7 "OriginDesk$Representation" "number" "I", .fieldLink "OriginDesk$Representation" 13 "OriginDesk$Representation" "type" "LOriginDesk$MediaType;", .fieldLink "OriginDesk$Representation" 17 "OriginDesk$Representation" "language" "LOriginDesk$Language;", .fieldLink "OriginDesk$Representation" 21 "OriginDesk$Representation" "size" "I", .fieldLink "OriginDesk$Representation" 38 "OriginDesk$Representation" "tagText" "Ljava/lang/String;", .fieldLink "OriginDesk$Representation" 42 "OriginDesk$Representation" "weak" "Z", .fieldLink "OriginDesk$Representation" 46 "OriginDesk$Representation" "change" "J"]
theorem fl_Rp_in : ∀ w ∈ fl_Rp, w ∈ gw := sorry
def ft_Rp : List (Nat × Nat × Nat × Nat) := [(7, 7, 0, 1), (13, 7, 1, 1), (17, 7, 2, 1), (21, 7, 3, 1), (38, 7, 4, 1), (42, 7, 5, 1), (46, 7, 6, 1)]
theorem ft_Rp_b : ft_Rp.all (ft_b "OriginDesk$Representation" fl_Rp) = true := sorry
def fl_Mo : List Cond := [.fieldLink "OriginDeskModel" 62 "OriginDeskModel" "now" "J", .fieldLink "OriginDeskModel" 97 "OriginDeskModel" "count" "I", .fieldLink "OriginDeskModel" 7 "OriginDeskModel" "type" "[I", .fieldLink "OriginDeskModel" 13 "OriginDeskModel" "language" "[I", .fieldLink "OriginDeskModel" 16 "OriginDeskModel" "size" "[I", .fieldLink "OriginDeskModel" 19 "OriginDeskModel" "tag" "[I", .fieldLink "OriginDeskModel" 22 "OriginDeskModel" "weak" "[Z", .fieldLink "OriginDeskModel" 26 "OriginDeskModel" "change" "[J", .fieldLink "OriginDeskModel" 100 "OriginDeskModel" "method" "I", .fieldLink "OriginDeskModel" 30 "OriginDeskModel" "text" "[I", .fieldLink "OriginDeskModel" 33 "OriginDeskModel" "length" "[I", .fieldLink "OriginDeskModel" 105 "OriginDeskModel" "f" "I", .fieldLink "OriginDeskModel" 108 "OriginDeskModel" "at" "I", .fieldLink "OriginDeskModel" 126 "OriginDeskModel" "from" "I", .fieldLink "OriginDeskModel" 132 "OriginDeskModel" "to" "I", .fieldLink "OriginDeskModel" 232 "OriginDeskModel" "tagWeak" "Z", .fieldLink "OriginDeskModel" 150 "OriginDeskModel" "value" "I", .fieldLink "OriginDeskModel" 190 "OriginDeskModel" "nameFrom" "I", .fieldLink "OriginDeskModel" 193 "OriginDeskModel" "nameTo" "I", .fieldLink "OriginDeskModel" 169 "OriginDeskModel" "isOne" "Z", .fieldLink "OriginDeskModel" 305 "OriginDeskModel" "specs" "I", .fieldLink "OriginDeskModel" 36 "OriginDeskModel" "specFirst" "[I", .fieldLink "OriginDeskModel" 39 "OriginDeskModel" "specLast" "[I", .fieldLink "OriginDeskModel" 42 "OriginDeskModel" "status" "I", .fieldLink "OriginDeskModel" 46 "OriginDeskModel" "answered" "I", .fieldLink "OriginDeskModel" 342 "OriginDeskModel" "bytes" "I", .fieldLink "OriginDeskModel" 351 "OriginDeskModel" "headOnly" "Z", .fieldLink "OriginDeskModel" 313 "OriginDeskModel" "partCount" "I", .fieldLink "OriginDeskModel" 49 "OriginDeskModel" "partFirst" "[I", .fieldLink "OriginDeskModel" 52 "OriginDeskModel" "partLast" "[I", .fieldLink "OriginDeskModel" 55 "OriginDeskModel" "word" "[J"]
theorem fl_Mo_in : ∀ w ∈ fl_Mo, w ∈ gw := sorry
def ft_Mo : List (Nat × Nat × Nat × Nat) := [(62, 9, 0, 1), (97, 9, 1, 0), (7, 9, 2, 1), (13, 9, 3, 1), (16, 9, 4, 1), (19, 9, 5, 1), (22, 9, 6, 1), (26, 9, 7, 1), (100, 9, 8, 0), (30, 9, 9, 1), (33, 9, 10, 1), (105, 9, 11, 0), (108, 9, 12, 0), (126, 9, 13, 0), (132, 9, 14, 0), (232, 9, 15, 0), (150, 9, 16, 0), (190, 9, 17, 0), (193, 9, 18, 0), (169, 9, 19, 0), (305, 9, 20, 0), (36, 9, 21, 1), (39, 9, 22, 1), (42, 9, 23, 0), (46, 9, 24, 0), (342, 9, 25, 0), (351, 9, 26, 0), (313, 9, 27, 0), (49, 9, 28, 1), (52, 9, 29, 1), (55, 9, 30, 1)]
theorem ft_Mo_b : ft_Mo.all (ft_b "OriginDeskModel" fl_Mo) = true := sorry
abbrev b_Dk_init : ByteArray := prog_1_method_1_code
def y_Dk_init : MethodName := ⟨"OriginDesk", "<init>", "(I)V"⟩
abbrev b_Dk_add : ByteArray := prog_1_method_2_code
def y_Dk_add : MethodName := ⟨"OriginDesk", "add", "(IIIIZJ)I"⟩
abbrev b_Dk_clear : ByteArray := prog_1_method_3_code
def y_Dk_clear : MethodName := ⟨"OriginDesk", "clear", "()V"⟩
abbrev b_Dk_request : ByteArray := prog_1_method_4_code
def y_Dk_request : MethodName := ⟨"OriginDesk", "request", "(I)V"⟩
abbrev b_Dk_feed : ByteArray := prog_1_method_5_code
def y_Dk_feed : MethodName := ⟨"OriginDesk", "feed", "(IJ)I"⟩
abbrev b_Dk_respond : ByteArray := prog_1_method_6_code
def y_Dk_respond : MethodName := ⟨"OriginDesk", "respond", "()I"⟩
abbrev b_Dk_status : ByteArray := prog_1_method_7_code
def y_Dk_status : MethodName := ⟨"OriginDesk", "status", "()I"⟩
abbrev b_Dk_chosen : ByteArray := prog_1_method_8_code
def y_Dk_chosen : MethodName := ⟨"OriginDesk", "chosen", "()I"⟩
abbrev b_Dk_length : ByteArray := prog_1_method_9_code
def y_Dk_length : MethodName := ⟨"OriginDesk", "length", "()J"⟩
abbrev b_Dk_body : ByteArray := prog_1_method_10_code
def y_Dk_body : MethodName := ⟨"OriginDesk", "body", "(I)I"⟩
abbrev b_Dk_parts : ByteArray := prog_1_method_11_code
def y_Dk_parts : MethodName := ⟨"OriginDesk", "parts", "()I"⟩
abbrev b_Dk_first : ByteArray := prog_1_method_12_code
def y_Dk_first : MethodName := ⟨"OriginDesk", "first", "(I)I"⟩
abbrev b_Dk_last : ByteArray := prog_1_method_13_code
def y_Dk_last : MethodName := ⟨"OriginDesk", "last", "(I)I"⟩
abbrev b_Dk_score : ByteArray := prog_1_method_14_code
def y_Dk_score : MethodName := ⟨"OriginDesk", "score", "(I)I"⟩
abbrev b_Dk_formed : ByteArray := prog_1_method_15_code
def y_Dk_formed : MethodName := ⟨"OriginDesk", "formed", "(I)Z"⟩
abbrev b_Dk_date : ByteArray := prog_1_method_16_code
def y_Dk_date : MethodName := ⟨"OriginDesk", "date", "(I)J"⟩
abbrev b_Dk_isWithin : ByteArray := prog_1_method_17_code
def y_Dk_isWithin : MethodName := ⟨"OriginDesk", "isWithin", "(JJ)Z"⟩
abbrev b_Dk_codeWithoutChoice : ByteArray := prog_1_method_18_code
def y_Dk_codeWithoutChoice : MethodName := ⟨"OriginDesk", "codeWithoutChoice", "()I"⟩
abbrev b_Dk_choose : ByteArray := prog_1_method_19_code
def y_Dk_choose : MethodName := ⟨"OriginDesk", "choose", "()LOriginDesk$Representation;"⟩
abbrev b_Dk_scoreOf : ByteArray := prog_1_method_20_code
def y_Dk_scoreOf : MethodName := ⟨"OriginDesk", "scoreOf", "(LOriginDesk$Representation;)I"⟩
abbrev b_Dk_codeFor : ByteArray := prog_1_method_21_code
def y_Dk_codeFor : MethodName := ⟨"OriginDesk", "codeFor", "(LOriginDesk$Representation;)I"⟩
abbrev b_Dk_isRefused : ByteArray := prog_1_method_22_code
def y_Dk_isRefused : MethodName := ⟨"OriginDesk", "isRefused", "(LOriginDesk$Representation;)Z"⟩
abbrev b_Dk_isUnchanged : ByteArray := prog_1_method_23_code
def y_Dk_isUnchanged : MethodName := ⟨"OriginDesk", "isUnchanged", "(LOriginDesk$Representation;)Z"⟩
abbrev b_Dk_isRangeWanted : ByteArray := prog_1_method_24_code
def y_Dk_isRangeWanted : MethodName := ⟨"OriginDesk", "isRangeWanted", "(LOriginDesk$Representation;)Z"⟩
abbrev b_Mo_init : ByteArray := prog_14_method_1_code
def y_Mo_init : MethodName := ⟨"OriginDeskModel", "<init>", "(I)V"⟩
abbrev b_Mo_add : ByteArray := prog_14_method_2_code
def y_Mo_add : MethodName := ⟨"OriginDeskModel", "add", "(IIIIZJ)I"⟩
abbrev b_Mo_clear : ByteArray := prog_14_method_3_code
def y_Mo_clear : MethodName := ⟨"OriginDeskModel", "clear", "()V"⟩
abbrev b_Mo_request : ByteArray := prog_14_method_4_code
def y_Mo_request : MethodName := ⟨"OriginDeskModel", "request", "(I)V"⟩
abbrev b_Mo_feed : ByteArray := prog_14_method_5_code
def y_Mo_feed : MethodName := ⟨"OriginDeskModel", "feed", "(IJ)I"⟩
abbrev b_Mo_open : ByteArray := prog_14_method_6_code
def y_Mo_open : MethodName := ⟨"OriginDeskModel", "open", "(I)V"⟩
abbrev b_Mo_there : ByteArray := prog_14_method_7_code
def y_Mo_there : MethodName := ⟨"OriginDeskModel", "there", "(I)Z"⟩
abbrev b_Mo_charAt : ByteArray := prog_14_method_8_code
def y_Mo_charAt : MethodName := ⟨"OriginDeskModel", "charAt", "(I)I"⟩
abbrev b_Mo_next : ByteArray := prog_14_method_9_code
def y_Mo_next : MethodName := ⟨"OriginDeskModel", "next", "()I"⟩
abbrev b_Mo_ended : ByteArray := prog_14_method_10_code
def y_Mo_ended : MethodName := ⟨"OriginDeskModel", "ended", "()Z"⟩
abbrev b_Mo_gap : ByteArray := prog_14_method_11_code
def y_Mo_gap : MethodName := ⟨"OriginDeskModel", "gap", "()V"⟩
abbrev b_Mo_take : ByteArray := prog_14_method_12_code
def y_Mo_take : MethodName := ⟨"OriginDeskModel", "take", "(I)Z"⟩
abbrev b_Mo_isDigit : ByteArray := prog_14_method_13_code
def y_Mo_isDigit : MethodName := ⟨"OriginDeskModel", "isDigit", "(I)Z"⟩
abbrev b_Mo_isLetter : ByteArray := prog_14_method_14_code
def y_Mo_isLetter : MethodName := ⟨"OriginDeskModel", "isLetter", "(I)Z"⟩
abbrev b_Mo_lower : ByteArray := prog_14_method_15_code
def y_Mo_lower : MethodName := ⟨"OriginDeskModel", "lower", "(I)I"⟩
abbrev b_Mo_isToken : ByteArray := prog_14_method_16_code
def y_Mo_isToken : MethodName := ⟨"OriginDeskModel", "isToken", "(I)Z"⟩
abbrev b_Mo_token : ByteArray := prog_14_method_17_code
def y_Mo_token : MethodName := ⟨"OriginDeskModel", "token", "()Z"⟩
abbrev b_Mo_lengthOf : ByteArray := prog_14_method_18_code
def y_Mo_lengthOf : MethodName := ⟨"OriginDeskModel", "lengthOf", "(J)I"⟩
abbrev b_Mo_says : ByteArray := prog_14_method_19_code
def y_Mo_says : MethodName := ⟨"OriginDeskModel", "says", "(IJ)Z"⟩
abbrev b_Mo_isWord : ByteArray := prog_14_method_20_code
def y_Mo_isWord : MethodName := ⟨"OriginDeskModel", "isWord", "(IIJ)Z"⟩
abbrev b_Mo_isMain : ByteArray := prog_14_method_21_code
def y_Mo_isMain : MethodName := ⟨"OriginDeskModel", "isMain", "(III)Z"⟩
abbrev b_Mo_isSub : ByteArray := prog_14_method_22_code
def y_Mo_isSub : MethodName := ⟨"OriginDeskModel", "isSub", "(III)Z"⟩
abbrev b_Mo_weight : ByteArray := prog_14_method_23_code
def y_Mo_weight : MethodName := ⟨"OriginDeskModel", "weight", "()Z"⟩
abbrev b_Mo_semicolon : ByteArray := prog_14_method_24_code
def y_Mo_semicolon : MethodName := ⟨"OriginDeskModel", "semicolon", "()Z"⟩
abbrev b_Mo_weightIfAny : ByteArray := prog_14_method_25_code
def y_Mo_weightIfAny : MethodName := ⟨"OriginDeskModel", "weightIfAny", "()Z"⟩
abbrev b_Mo_separator : ByteArray := prog_14_method_26_code
def y_Mo_separator : MethodName := ⟨"OriginDeskModel", "separator", "()I"⟩
abbrev b_Mo_element : ByteArray := prog_14_method_27_code
def y_Mo_element : MethodName := ⟨"OriginDeskModel", "element", "()Z"⟩
abbrev b_Mo_quoted : ByteArray := prog_14_method_28_code
def y_Mo_quoted : MethodName := ⟨"OriginDeskModel", "quoted", "()Z"⟩
abbrev b_Mo_assigned : ByteArray := prog_14_method_29_code
def y_Mo_assigned : MethodName := ⟨"OriginDeskModel", "assigned", "()Z"⟩
abbrev b_Mo_starred : ByteArray := prog_14_method_30_code
def y_Mo_starred : MethodName := ⟨"OriginDeskModel", "starred", "(II)Z"⟩
abbrev b_Mo_mediaRange : ByteArray := prog_14_method_31_code
def y_Mo_mediaRange : MethodName := ⟨"OriginDeskModel", "mediaRange", "(I)I"⟩
abbrev b_Mo_accepted : ByteArray := prog_14_method_32_code
def y_Mo_accepted : MethodName := ⟨"OriginDeskModel", "accepted", "(I)I"⟩
abbrev b_Mo_tongue : ByteArray := prog_14_method_33_code
def y_Mo_tongue : MethodName := ⟨"OriginDeskModel", "tongue", "()Z"⟩
abbrev b_Mo_speaks : ByteArray := prog_14_method_34_code
def y_Mo_speaks : MethodName := ⟨"OriginDeskModel", "speaks", "(I)Z"⟩
abbrev b_Mo_spoken : ByteArray := prog_14_method_35_code
def y_Mo_spoken : MethodName := ⟨"OriginDeskModel", "spoken", "(I)I"⟩
abbrev b_Mo_scoreOf : ByteArray := prog_14_method_36_code
def y_Mo_scoreOf : MethodName := ⟨"OriginDeskModel", "scoreOf", "(I)I"⟩
abbrev b_Mo_tagText : ByteArray := prog_14_method_37_code
def y_Mo_tagText : MethodName := ⟨"OriginDeskModel", "tagText", "()Z"⟩
abbrev b_Mo_isTagOf : ByteArray := prog_14_method_38_code
def y_Mo_isTagOf : MethodName := ⟨"OriginDeskModel", "isTagOf", "(I)Z"⟩
abbrev b_Mo_tags : ByteArray := prog_14_method_39_code
def y_Mo_tags : MethodName := ⟨"OriginDeskModel", "tags", "(IIZ)I"⟩
abbrev b_Mo_digits : ByteArray := prog_14_method_40_code
def y_Mo_digits : MethodName := ⟨"OriginDeskModel", "digits", "(I)I"⟩
abbrev b_Mo_three : ByteArray := prog_14_method_41_code
def y_Mo_three : MethodName := ⟨"OriginDeskModel", "three", "()I"⟩
abbrev b_Mo_dayName : ByteArray := prog_14_method_42_code
def y_Mo_dayName : MethodName := ⟨"OriginDeskModel", "dayName", "()I"⟩
abbrev b_Mo_monthName : ByteArray := prog_14_method_43_code
def y_Mo_monthName : MethodName := ⟨"OriginDeskModel", "monthName", "()I"⟩
abbrev b_Mo_restOf : ByteArray := prog_14_method_44_code
def y_Mo_restOf : MethodName := ⟨"OriginDeskModel", "restOf", "(I)Z"⟩
abbrev b_Mo_time : ByteArray := prog_14_method_45_code
def y_Mo_time : MethodName := ⟨"OriginDeskModel", "time", "()I"⟩
abbrev b_Mo_daysOf : ByteArray := prog_14_method_46_code
def y_Mo_daysOf : MethodName := ⟨"OriginDeskModel", "daysOf", "(II)I"⟩
abbrev b_Mo_yearOf : ByteArray := prog_14_method_47_code
def y_Mo_yearOf : MethodName := ⟨"OriginDeskModel", "yearOf", "(J)I"⟩
abbrev b_Mo_secondsOf : ByteArray := prog_14_method_48_code
def y_Mo_secondsOf : MethodName := ⟨"OriginDeskModel", "secondsOf", "(IIII)J"⟩
abbrev b_Mo_shortYear : ByteArray := prog_14_method_49_code
def y_Mo_shortYear : MethodName := ⟨"OriginDeskModel", "shortYear", "(I)I"⟩
abbrev b_Mo_zone : ByteArray := prog_14_method_50_code
def y_Mo_zone : MethodName := ⟨"OriginDeskModel", "zone", "()Z"⟩
abbrev b_Mo_paddedDay : ByteArray := prog_14_method_51_code
def y_Mo_paddedDay : MethodName := ⟨"OriginDeskModel", "paddedDay", "()I"⟩
abbrev b_Mo_dateBehind : ByteArray := prog_14_method_52_code
def y_Mo_dateBehind : MethodName := ⟨"OriginDeskModel", "dateBehind", "(I)J"⟩
abbrev b_Mo_dateOf : ByteArray := prog_14_method_53_code
def y_Mo_dateOf : MethodName := ⟨"OriginDeskModel", "dateOf", "(I)J"⟩
abbrev b_Mo_many : ByteArray := prog_14_method_54_code
def y_Mo_many : MethodName := ⟨"OriginDeskModel", "many", "()I"⟩
abbrev b_Mo_spec : ByteArray := prog_14_method_55_code
def y_Mo_spec : MethodName := ⟨"OriginDeskModel", "spec", "()Z"⟩
abbrev b_Mo_ranges : ByteArray := prog_14_method_56_code
def y_Mo_ranges : MethodName := ⟨"OriginDeskModel", "ranges", "()Z"⟩
abbrev b_Mo_resolve : ByteArray := prog_14_method_57_code
def y_Mo_resolve : MethodName := ⟨"OriginDeskModel", "resolve", "(II)V"⟩
abbrev b_Mo_overlap : ByteArray := prog_14_method_58_code
def y_Mo_overlap : MethodName := ⟨"OriginDeskModel", "overlap", "()Z"⟩
abbrev b_Mo_ifRange : ByteArray := prog_14_method_59_code
def y_Mo_ifRange : MethodName := ⟨"OriginDeskModel", "ifRange", "(I)Z"⟩
abbrev b_Mo_chosenOne : ByteArray := prog_14_method_60_code
def y_Mo_chosenOne : MethodName := ⟨"OriginDeskModel", "chosenOne", "()I"⟩
abbrev b_Mo_conditions : ByteArray := prog_14_method_61_code
def y_Mo_conditions : MethodName := ⟨"OriginDeskModel", "conditions", "(I)I"⟩
abbrev b_Mo_ranged : ByteArray := prog_14_method_62_code
def y_Mo_ranged : MethodName := ⟨"OriginDeskModel", "ranged", "(I)I"⟩
abbrev b_Mo_decide : ByteArray := prog_14_method_63_code
def y_Mo_decide : MethodName := ⟨"OriginDeskModel", "decide", "()I"⟩
abbrev b_Mo_respond : ByteArray := prog_14_method_64_code
def y_Mo_respond : MethodName := ⟨"OriginDeskModel", "respond", "()I"⟩
abbrev b_Mo_status : ByteArray := prog_14_method_65_code
def y_Mo_status : MethodName := ⟨"OriginDeskModel", "status", "()I"⟩
abbrev b_Mo_chosen : ByteArray := prog_14_method_66_code
def y_Mo_chosen : MethodName := ⟨"OriginDeskModel", "chosen", "()I"⟩
abbrev b_Mo_digitsOf : ByteArray := prog_14_method_67_code
def y_Mo_digitsOf : MethodName := ⟨"OriginDeskModel", "digitsOf", "(I)I"⟩
abbrev b_Mo_byteAt : ByteArray := prog_14_method_68_code
def y_Mo_byteAt : MethodName := ⟨"OriginDeskModel", "byteAt", "(I)I"⟩
abbrev b_Mo_headOf : ByteArray := prog_14_method_69_code
def y_Mo_headOf : MethodName := ⟨"OriginDeskModel", "headOf", "(I)I"⟩
abbrev b_Mo_partSize : ByteArray := prog_14_method_70_code
def y_Mo_partSize : MethodName := ⟨"OriginDeskModel", "partSize", "(I)I"⟩
abbrev b_Mo_length : ByteArray := prog_14_method_71_code
def y_Mo_length : MethodName := ⟨"OriginDeskModel", "length", "()J"⟩
abbrev b_Mo_digitOf : ByteArray := prog_14_method_72_code
def y_Mo_digitOf : MethodName := ⟨"OriginDeskModel", "digitOf", "(II)I"⟩
abbrev b_Mo_figures : ByteArray := prog_14_method_73_code
def y_Mo_figures : MethodName := ⟨"OriginDeskModel", "figures", "(III)I"⟩
abbrev b_Mo_crlf : ByteArray := prog_14_method_74_code
def y_Mo_crlf : MethodName := ⟨"OriginDeskModel", "crlf", "(I)I"⟩
abbrev b_Mo_partByte : ByteArray := prog_14_method_75_code
def y_Mo_partByte : MethodName := ⟨"OriginDeskModel", "partByte", "(II)I"⟩
abbrev b_Mo_body : ByteArray := prog_14_method_76_code
def y_Mo_body : MethodName := ⟨"OriginDeskModel", "body", "(I)I"⟩
abbrev b_Mo_parts : ByteArray := prog_14_method_77_code
def y_Mo_parts : MethodName := ⟨"OriginDeskModel", "parts", "()I"⟩
abbrev b_Mo_first : ByteArray := prog_14_method_78_code
def y_Mo_first : MethodName := ⟨"OriginDeskModel", "first", "(I)I"⟩
abbrev b_Mo_last : ByteArray := prog_14_method_79_code
def y_Mo_last : MethodName := ⟨"OriginDeskModel", "last", "(I)I"⟩
abbrev b_Mo_score : ByteArray := prog_14_method_80_code
def y_Mo_score : MethodName := ⟨"OriginDeskModel", "score", "(I)I"⟩
abbrev b_Mo_formed : ByteArray := prog_14_method_81_code
def y_Mo_formed : MethodName := ⟨"OriginDeskModel", "formed", "(I)Z"⟩
abbrev b_Mo_loneTag : ByteArray := prog_14_method_82_code
def y_Mo_loneTag : MethodName := ⟨"OriginDeskModel", "loneTag", "()Z"⟩
abbrev b_Mo_date : ByteArray := prog_14_method_83_code
def y_Mo_date : MethodName := ⟨"OriginDeskModel", "date", "(I)J"⟩
abbrev b_Ac_init : ByteArray := prog_2_method_1_code
def y_Ac_init : MethodName := ⟨"OriginDesk$Accept", "<init>", "()V"⟩
abbrev b_Ac_read : ByteArray := prog_2_method_2_code
def y_Ac_read : MethodName := ⟨"OriginDesk$Accept", "read", "(LOriginDesk$Request;LOriginDesk$MediaType;)Z"⟩
abbrev b_Ac_readTokens : ByteArray := prog_2_method_3_code
def y_Ac_readTokens : MethodName := ⟨"OriginDesk$Accept", "readTokens", "(LOriginDesk$MediaType;)Z"⟩
abbrev b_Ac_readParameters : ByteArray := prog_2_method_4_code
def y_Ac_readParameters : MethodName := ⟨"OriginDesk$Accept", "readParameters", "(LOriginDesk$MediaType;)Z"⟩
abbrev b_Ac_weigh : ByteArray := prog_2_method_5_code
def y_Ac_weigh : MethodName := ⟨"OriginDesk$Accept", "weigh", "()V"⟩
abbrev b_Da_init : ByteArray := prog_3_method_1_code
def y_Da_init : MethodName := ⟨"OriginDesk$Dates", "<init>", "(J)V"⟩
abbrev b_Da_timeOf : ByteArray := prog_3_method_2_code
def y_Da_timeOf : MethodName := ⟨"OriginDesk$Dates", "timeOf", "(LOriginDesk$Request;I)J"⟩
abbrev b_Da_takeCommaForm : ByteArray := prog_3_method_3_code
def y_Da_takeCommaForm : MethodName := ⟨"OriginDesk$Dates", "takeCommaForm", "()Z"⟩
abbrev b_Da_takeDashForm : ByteArray := prog_3_method_4_code
def y_Da_takeDashForm : MethodName := ⟨"OriginDesk$Dates", "takeDashForm", "()Z"⟩
abbrev b_Da_takeSpaceForm : ByteArray := prog_3_method_5_code
def y_Da_takeSpaceForm : MethodName := ⟨"OriginDesk$Dates", "takeSpaceForm", "()Z"⟩
abbrev b_Da_restOfName : ByteArray := prog_3_method_6_code
def y_Da_restOfName : MethodName := ⟨"OriginDesk$Dates", "restOfName", "(I)Ljava/lang/String;"⟩
abbrev b_Da_takeDay : ByteArray := prog_3_method_7_code
def y_Da_takeDay : MethodName := ⟨"OriginDesk$Dates", "takeDay", "()Z"⟩
abbrev b_Da_takeSpacedDay : ByteArray := prog_3_method_8_code
def y_Da_takeSpacedDay : MethodName := ⟨"OriginDesk$Dates", "takeSpacedDay", "()Z"⟩
abbrev b_Da_takeMonth : ByteArray := prog_3_method_9_code
def y_Da_takeMonth : MethodName := ⟨"OriginDesk$Dates", "takeMonth", "()Z"⟩
abbrev b_Da_takeYear : ByteArray := prog_3_method_10_code
def y_Da_takeYear : MethodName := ⟨"OriginDesk$Dates", "takeYear", "()Z"⟩
abbrev b_Da_takeShortYear : ByteArray := prog_3_method_11_code
def y_Da_takeShortYear : MethodName := ⟨"OriginDesk$Dates", "takeShortYear", "()Z"⟩
abbrev b_Da_takeClock : ByteArray := prog_3_method_12_code
def y_Da_takeClock : MethodName := ⟨"OriginDesk$Dates", "takeClock", "()Z"⟩
abbrev b_Da_isInCalendar : ByteArray := prog_3_method_13_code
def y_Da_isInCalendar : MethodName := ⟨"OriginDesk$Dates", "isInCalendar", "()Z"⟩
abbrev b_Da_time : ByteArray := prog_3_method_14_code
def y_Da_time : MethodName := ⟨"OriginDesk$Dates", "time", "()J"⟩
abbrev b_Da_daysOf : ByteArray := prog_3_method_15_code
def y_Da_daysOf : MethodName := ⟨"OriginDesk$Dates", "daysOf", "(II)I"⟩
abbrev b_Da_daysBefore : ByteArray := prog_3_method_16_code
def y_Da_daysBefore : MethodName := ⟨"OriginDesk$Dates", "daysBefore", "(I)I"⟩
abbrev b_Da_yearOf : ByteArray := prog_3_method_17_code
def y_Da_yearOf : MethodName := ⟨"OriginDesk$Dates", "yearOf", "(J)I"⟩
abbrev b_La_init : ByteArray := prog_5_method_1_code
def y_La_init : MethodName := ⟨"OriginDesk$Languages", "<init>", "()V"⟩
abbrev b_La_read : ByteArray := prog_5_method_2_code
def y_La_read : MethodName := ⟨"OriginDesk$Languages", "read", "(LOriginDesk$Request;LOriginDesk$Language;)Z"⟩
abbrev b_La_readRange : ByteArray := prog_5_method_3_code
def y_La_readRange : MethodName := ⟨"OriginDesk$Languages", "readRange", "(LOriginDesk$Language;)Z"⟩
abbrev b_La_fitOf : ByteArray := prog_5_method_4_code
def y_La_fitOf : MethodName := ⟨"OriginDesk$Languages", "fitOf", "(LOriginDesk$Language;)I"⟩
abbrev b_Ra_init : ByteArray := prog_7_method_1_code
def y_Ra_init : MethodName := ⟨"OriginDesk$Ranges", "<init>", "()V"⟩
abbrev b_Ra_read : ByteArray := prog_7_method_2_code
def y_Ra_read : MethodName := ⟨"OriginDesk$Ranges", "read", "(LOriginDesk$Request;I)Z"⟩
abbrev b_Ra_overlap : ByteArray := prog_7_method_3_code
def y_Ra_overlap : MethodName := ⟨"OriginDesk$Ranges", "overlap", "()Z"⟩
abbrev b_Ra_readSpec : ByteArray := prog_7_method_4_code
def y_Ra_readSpec : MethodName := ⟨"OriginDesk$Ranges", "readSpec", "(I)Z"⟩
abbrev b_Ra_keep : ByteArray := prog_7_method_5_code
def y_Ra_keep : MethodName := ⟨"OriginDesk$Ranges", "keep", "(II)V"⟩
abbrev b_Rd_init : ByteArray := prog_8_method_1_code
def y_Rd_init : MethodName := ⟨"OriginDesk$Reader", "<init>", "()V"⟩
abbrev b_Rd_open : ByteArray := prog_8_method_2_code
def y_Rd_open : MethodName := ⟨"OriginDesk$Reader", "open", "(LOriginDesk$Request;I)V"⟩
abbrev b_Rd_isEnded : ByteArray := prog_8_method_3_code
def y_Rd_isEnded : MethodName := ⟨"OriginDesk$Reader", "isEnded", "()Z"⟩
abbrev b_Rd_isNext : ByteArray := prog_8_method_4_code
def y_Rd_isNext : MethodName := ⟨"OriginDesk$Reader", "isNext", "(C)Z"⟩
abbrev b_Rd_take : ByteArray := prog_8_method_5_code
def y_Rd_take : MethodName := ⟨"OriginDesk$Reader", "take", "(C)Z"⟩
abbrev b_Rd_skipGap : ByteArray := prog_8_method_6_code
def y_Rd_skipGap : MethodName := ⟨"OriginDesk$Reader", "skipGap", "()V"⟩
abbrev b_Rd_findElement : ByteArray := prog_8_method_7_code
def y_Rd_findElement : MethodName := ⟨"OriginDesk$Reader", "findElement", "()Z"⟩
abbrev b_Rd_endsElement : ByteArray := prog_8_method_8_code
def y_Rd_endsElement : MethodName := ⟨"OriginDesk$Reader", "endsElement", "()Z"⟩
abbrev b_Rd_takeSemicolon : ByteArray := prog_8_method_9_code
def y_Rd_takeSemicolon : MethodName := ⟨"OriginDesk$Reader", "takeSemicolon", "()Z"⟩
abbrev b_Rd_takeText : ByteArray := prog_8_method_10_code
def y_Rd_takeText : MethodName := ⟨"OriginDesk$Reader", "takeText", "(Ljava/lang/String;)Z"⟩
abbrev b_Rd_takeAlike : ByteArray := prog_8_method_11_code
def y_Rd_takeAlike : MethodName := ⟨"OriginDesk$Reader", "takeAlike", "(Ljava/lang/String;)Z"⟩
abbrev b_Rd_takeToken : ByteArray := prog_8_method_12_code
def y_Rd_takeToken : MethodName := ⟨"OriginDesk$Reader", "takeToken", "()Z"⟩
abbrev b_Rd_takeQuotedText : ByteArray := prog_8_method_13_code
def y_Rd_takeQuotedText : MethodName := ⟨"OriginDesk$Reader", "takeQuotedText", "()Z"⟩
abbrev b_Rd_takeOpaque : ByteArray := prog_8_method_14_code
def y_Rd_takeOpaque : MethodName := ⟨"OriginDesk$Reader", "takeOpaque", "()Z"⟩
abbrev b_Rd_takeLanguage : ByteArray := prog_8_method_15_code
def y_Rd_takeLanguage : MethodName := ⟨"OriginDesk$Reader", "takeLanguage", "()Z"⟩
abbrev b_Rd_takeWeight : ByteArray := prog_8_method_16_code
def y_Rd_takeWeight : MethodName := ⟨"OriginDesk$Reader", "takeWeight", "()I"⟩
abbrev b_Rd_takeNumber : ByteArray := prog_8_method_17_code
def y_Rd_takeNumber : MethodName := ⟨"OriginDesk$Reader", "takeNumber", "()I"⟩
abbrev b_Rd_takeDigits : ByteArray := prog_8_method_18_code
def y_Rd_takeDigits : MethodName := ⟨"OriginDesk$Reader", "takeDigits", "(I)I"⟩
abbrev b_Rd_takeName : ByteArray := prog_8_method_19_code
def y_Rd_takeName : MethodName := ⟨"OriginDesk$Reader", "takeName", "(Ljava/lang/String;)I"⟩
abbrev b_Rd_saidSize : ByteArray := prog_8_method_20_code
def y_Rd_saidSize : MethodName := ⟨"OriginDesk$Reader", "saidSize", "()I"⟩
abbrev b_Rd_isSaid : ByteArray := prog_8_method_21_code
def y_Rd_isSaid : MethodName := ⟨"OriginDesk$Reader", "isSaid", "(Ljava/lang/String;)Z"⟩
abbrev b_Rd_isSaidAlike : ByteArray := prog_8_method_22_code
def y_Rd_isSaidAlike : MethodName := ⟨"OriginDesk$Reader", "isSaidAlike", "(Ljava/lang/String;)Z"⟩
abbrev b_Rd_saysStar : ByteArray := prog_8_method_23_code
def y_Rd_saysStar : MethodName := ⟨"OriginDesk$Reader", "saysStar", "()Z"⟩
abbrev b_Rd_say : ByteArray := prog_8_method_24_code
def y_Rd_say : MethodName := ⟨"OriginDesk$Reader", "say", "(I)V"⟩
abbrev b_Rd_isDigit : ByteArray := prog_8_method_25_code
def y_Rd_isDigit : MethodName := ⟨"OriginDesk$Reader", "isDigit", "(I)Z"⟩
abbrev b_Rd_isLetter : ByteArray := prog_8_method_26_code
def y_Rd_isLetter : MethodName := ⟨"OriginDesk$Reader", "isLetter", "(I)Z"⟩
abbrev b_Rd_lower : ByteArray := prog_8_method_27_code
def y_Rd_lower : MethodName := ⟨"OriginDesk$Reader", "lower", "(I)I"⟩
abbrev b_Rd_isQuotable : ByteArray := prog_8_method_28_code
def y_Rd_isQuotable : MethodName := ⟨"OriginDesk$Reader", "isQuotable", "(I)Z"⟩
abbrev b_Rp_init : ByteArray := prog_9_method_1_code
def y_Rp_init : MethodName := ⟨"OriginDesk$Representation", "<init>", "(ILOriginDesk$MediaType;LOriginDesk$Language;IIZJ)V"⟩
abbrev b_Rp_byteAt : ByteArray := prog_9_method_2_code
def y_Rp_byteAt : MethodName := ⟨"OriginDesk$Representation", "byteAt", "(I)I"⟩
abbrev b_Rq_init : ByteArray := prog_10_method_1_code
def y_Rq_init : MethodName := ⟨"OriginDesk$Request", "<init>", "()V"⟩
abbrev b_Rq_restart : ByteArray := prog_10_method_2_code
def y_Rq_restart : MethodName := ⟨"OriginDesk$Request", "restart", "(I)V"⟩
abbrev b_Rq_has : ByteArray := prog_10_method_3_code
def y_Rq_has : MethodName := ⟨"OriginDesk$Request", "has", "(I)Z"⟩
abbrev b_Rq_append : ByteArray := prog_10_method_4_code
def y_Rq_append : MethodName := ⟨"OriginDesk$Request", "append", "(IJ)I"⟩
abbrev b_Rq_countOf : ByteArray := prog_10_method_5_code
def y_Rq_countOf : MethodName := ⟨"OriginDesk$Request", "countOf", "(J)I"⟩
abbrev b_Rq_characterOf : ByteArray := prog_10_method_6_code
def y_Rq_characterOf : MethodName := ⟨"OriginDesk$Request", "characterOf", "(JI)I"⟩
abbrev b_Rs_init : ByteArray := prog_11_method_1_code
def y_Rs_init : MethodName := ⟨"OriginDesk$Response", "<init>", "()V"⟩
abbrev b_Rs_settle : ByteArray := prog_11_method_2_code
def y_Rs_settle : MethodName := ⟨"OriginDesk$Response", "settle", "(ILOriginDesk$Representation;ZLOriginDesk$Ranges;)V"⟩
abbrev b_Rs_hasPart : ByteArray := prog_11_method_3_code
def y_Rs_hasPart : MethodName := ⟨"OriginDesk$Response", "hasPart", "(I)Z"⟩
abbrev b_Rs_byteAt : ByteArray := prog_11_method_4_code
def y_Rs_byteAt : MethodName := ⟨"OriginDesk$Response", "byteAt", "(I)I"⟩
abbrev b_Rs_measure : ByteArray := prog_11_method_5_code
def y_Rs_measure : MethodName := ⟨"OriginDesk$Response", "measure", "()I"⟩
abbrev b_Rs_byteAmongParts : ByteArray := prog_11_method_6_code
def y_Rs_byteAmongParts : MethodName := ⟨"OriginDesk$Response", "byteAmongParts", "(LOriginDesk$Representation;I)I"⟩
abbrev b_Rs_writeHeading : ByteArray := prog_11_method_7_code
def y_Rs_writeHeading : MethodName := ⟨"OriginDesk$Response", "writeHeading", "(II)V"⟩
abbrev b_Rs_partSize : ByteArray := prog_11_method_8_code
def y_Rs_partSize : MethodName := ⟨"OriginDesk$Response", "partSize", "(I)I"⟩
abbrev b_Tg_init : ByteArray := prog_12_method_1_code
def y_Tg_init : MethodName := ⟨"OriginDesk$Tags", "<init>", "()V"⟩
abbrev b_Tg_readList : ByteArray := prog_12_method_2_code
def y_Tg_readList : MethodName := ⟨"OriginDesk$Tags", "readList", "(LOriginDesk$Request;ILjava/lang/String;)Z"⟩
abbrev b_Tg_readOne : ByteArray := prog_12_method_3_code
def y_Tg_readOne : MethodName := ⟨"OriginDesk$Tags", "readOne", "(LOriginDesk$Request;ILjava/lang/String;)Z"⟩
abbrev b_Tg_begin : ByteArray := prog_12_method_4_code
def y_Tg_begin : MethodName := ⟨"OriginDesk$Tags", "begin", "(LOriginDesk$Request;I)V"⟩
abbrev b_Tg_readTag : ByteArray := prog_12_method_5_code
def y_Tg_readTag : MethodName := ⟨"OriginDesk$Tags", "readTag", "(Ljava/lang/String;)Z"⟩

/-! CODE LISTS, by program -/
def j_Dk_init : wq_J := [(.aload_n 0, (0, 0, 0, 0, 0)), (.invokespecial 1, (0, 0, 0, 0, 0)), (.aload_n 0, (0, 0, 0, 0, 0)), (.iconst 4, (0, 0, 0, 4, 0)), (.anewarray 9, (0, 0, 0, 0, 0)), (.putfield 11, (3, 0, 0, 0, 0)), (.aload_n 0, (0, 0, 0, 0, 0)), (.new 15, (0, 0, 0, 0, 0)), (.dup, (0, 0, 0, 0, 0)), (.invokespecial 17, (0, 0, 0, 0, 0)), (.putfield 18, (3, 0, 2, 0, 0)), (.aload_n 0, (0, 0, 0, 0, 0)), (.new 22, (0, 0, 0, 0, 0)), (.dup, (0, 0, 0, 0, 0)), (.invokespecial 24, (0, 0, 0, 0, 0)), (.putfield 25, (3, 0, 3, 0, 0)), (.aload_n 0, (0, 0, 0, 0, 0)), (.new 29, (0, 0, 0, 0, 0)), (.dup, (0, 0, 0, 0, 0)), (.invokespecial 31, (0, 0, 0, 0, 0)), (.putfield 32, (3, 0, 4, 0, 0)), (.aload_n 0, (0, 0, 0, 0, 0)), (.new 36, (0, 0, 0, 0, 0)), (.dup, (0, 0, 0, 0, 0)), (.invokespecial 38, (0, 0, 0, 0, 0)), (.putfield 39, (3, 0, 5, 0, 0)), (.aload_n 0, (0, 0, 0, 0, 0)), (.new 43, (0, 0, 0, 0, 0)), (.dup, (0, 0, 0, 0, 0)), (.invokespecial 45, (0, 0, 0, 0, 0)), (.putfield 46, (3, 0, 7, 0, 0)), (.aload_n 0, (0, 0, 0, 0, 0)), (.new 50, (0, 0, 0, 0, 0)), (.dup, (0, 0, 0, 0, 0)), (.invokespecial 52, (0, 0, 0, 0, 0)), (.putfield 53, (3, 0, 8, 0, 0)), (.iload_n 1, (0, 0, 0, 0, 0)), (.i2l, (0, 0, 0, 0, 0)), (.ldc2_w 57, (1, 0, 0, 0, 4294967295)), (.land, (0, 0, 0, 0, 0)), (.lstore_n 2, (0, 0, 0, 0, 0)), (.aload_n 0, (0, 0, 0, 0, 0)), (.new 59, (0, 0, 0, 0, 0)), (.dup, (0, 0, 0, 0, 0)), (.lload_n 2, (0, 0, 0, 0, 0)), (.ldc2_w 61, (1, 0, 0, 0, 4102444799)), (.lcmp, (0, 0, 0, 0, 0)), (.ifCond .le 7, (0, 102, 0, 0, 0)), (.lconst 0, (0, 0, 0, 0, 0)), (.goto 4, (0, 103, 0, 0, 0)), (.lload_n 2, (0, 0, 0, 0, 0)), (.invokespecial 63, (0, 0, 0, 0, 0)), (.putfield 66, (3, 0, 6, 0, 0)), (.return_, (0, 0, 0, 0, 0))]
theorem jc_Dk_init : wq_c b_Dk_init 4 j_Dk_init 0 = true := sorry
def j_Dk_add : wq_J := [(.iload_n 1, (0, 0, 0, 0, 0)), (.i2l, (0, 0, 0, 0, 0)), (.getstatic 70, (2, 0, 0, 0, 0)), (.arraylength, (2, 0, 0, 0, 0)), (.iconst 1, (0, 0, 0, 1, 0)), (.isub, (0, 0, 0, 0, 0)), (.i2l, (0, 0, 0, 0, 0)), (.invokestatic 74, (0, 0, 0, 0, 0)), (.ifCond .eq 22, (0, 34, 0, 0, 0)), (.iload_n 2, (0, 0, 0, 0, 0)), (.i2l, (0, 0, 0, 0, 0)), (.getstatic 78, (2, 0, 0, 0, 0)), (.arraylength, (2, 0, 0, 0, 0)), (.iconst 1, (0, 0, 0, 1, 0)), (.isub, (0, 0, 0, 0, 0)), (.i2l, (0, 0, 0, 0, 0)), (.invokestatic 74, (0, 0, 0, 0, 0)), (.ifCond .eq 7, (0, 34, 0, 0, 0)), (.iconst 1, (0, 0, 0, 1, 0)), (.goto 4, (0, 35, 0, 0, 0)), (.iconst 0, (0, 0, 0, 0, 0)), (.istore 8, (0, 0, 0, 0, 0)), (.iload_n 3, (0, 0, 0, 0, 0)), (.i2l, (0, 0, 0, 0, 0)), (.ldc2_w 82, (1, 0, 0, 0, 100000)), (.invokestatic 74, (0, 0, 0, 0, 0)), (.ifCond .eq 30, (0, 75, 0, 0, 0)), (.iload 4, (0, 0, 0, 0, 0)), (.i2l, (0, 0, 0, 0, 0)), (.ldc2_w 84, (1, 0, 0, 0, 9999)), (.invokestatic 74, (0, 0, 0, 0, 0)), (.ifCond .eq 18, (0, 75, 0, 0, 0)), (.lload 6, (0, 0, 0, 0, 0)), (.ldc2_w 61, (1, 0, 0, 0, 4102444799)), (.invokestatic 74, (0, 0, 0, 0, 0)), (.ifCond .eq 7, (0, 75, 0, 0, 0)), (.iconst 1, (0, 0, 0, 1, 0)), (.goto 4, (0, 76, 0, 0, 0)), (.iconst 0, (0, 0, 0, 0, 0)), (.istore 9, (0, 0, 0, 0, 0)), (.iload 8, (0, 0, 0, 0, 0)), (.ifCond .eq 16, (0, 96, 0, 0, 0)), (.iload 9, (0, 0, 0, 0, 0)), (.ifCond .eq 11, (0, 96, 0, 0, 0)), (.aload_n 0, (0, 0, 0, 0, 0)), (.getfield 86, (1, 0, 1, 0, 0)), (.iconst 4, (0, 0, 0, 4, 0)), (.if_icmp .lt 5, (0, 98, 0, 0, 0)), (.iconst (-1), (0, 0, 0, (-1), 0)), (.ireturn, (0, 0, 0, 0, 0)), (.aload_n 0, (0, 0, 0, 0, 0)), (.getfield 86, (1, 0, 1, 0, 0)), (.istore 10, (0, 0, 0, 0, 0)), (.aload_n 0, (0, 0, 0, 0, 0)), (.getfield 11, (1, 0, 0, 0, 0)), (.iload 10, (0, 0, 0, 0, 0)), (.new 9, (0, 0, 0, 0, 0)), (.dup, (0, 0, 0, 0, 0)), (.iload 10, (0, 0, 0, 0, 0)), (.getstatic 70, (2, 0, 0, 0, 0)), (.iload_n 1, (0, 0, 0, 0, 0)), (.aaload, (0, 0, 0, 0, 0)), (.getstatic 78, (2, 0, 0, 0, 0)), (.iload_n 2, (0, 0, 0, 0, 0)), (.aaload, (0, 0, 0, 0, 0)), (.iload_n 3, (0, 0, 0, 0, 0)), (.iload 4, (0, 0, 0, 0, 0)), (.iload 5, (0, 0, 0, 0, 0)), (.lload 6, (0, 0, 0, 0, 0)), (.invokespecial 90, (0, 0, 0, 0, 0)), (.aastore, (0, 0, 0, 0, 0)), (.aload_n 0, (0, 0, 0, 0, 0)), (.dup, (0, 0, 0, 0, 0)), (.getfield 86, (1, 0, 1, 0, 0)), (.iconst 1, (0, 0, 0, 1, 0)), (.iadd, (0, 0, 0, 0, 0)), (.putfield 86, (1, 0, 1, 0, 0)), (.iload 10, (0, 0, 0, 0, 0)), (.ireturn, (0, 0, 0, 0, 0))]
theorem jc_Dk_add : wq_c b_Dk_add 11 j_Dk_add 0 = true := sorry
def j_Dk_clear : wq_J := [(.aload_n 0, (0, 0, 0, 0, 0)), (.iconst 0, (0, 0, 0, 0, 0)), (.putfield 86, (1, 0, 1, 0, 0)), (.return_, (0, 0, 0, 0, 0))]
theorem jc_Dk_clear : wq_c b_Dk_clear 1 j_Dk_clear 0 = true := sorry
def j_Dk_request : wq_J := [(.aload_n 0, (0, 0, 0, 0, 0)), (.getfield 18, (1, 0, 2, 0, 0)), (.iload_n 1, (0, 0, 0, 0, 0)), (.invokevirtual 93, (0, 0, 0, 0, 0)), (.return_, (0, 0, 0, 0, 0))]
theorem jc_Dk_request : wq_c b_Dk_request 2 j_Dk_request 0 = true := sorry
def j_Dk_feed : wq_J := [(.aload_n 0, (0, 0, 0, 0, 0)), (.getfield 18, (1, 0, 2, 0, 0)), (.iload_n 1, (0, 0, 0, 0, 0)), (.lload_n 2, (0, 0, 0, 0, 0)), (.invokevirtual 97, (0, 0, 0, 0, 0)), (.ireturn, (0, 0, 0, 0, 0))]
theorem jc_Dk_feed : wq_c b_Dk_feed 4 j_Dk_feed 0 = true := sorry
def j_Dk_respond : wq_J := [(.aconst_null, (0, 0, 0, 0, 0)), (.astore_n 1, (0, 0, 0, 0, 0)), (.aload_n 0, (0, 0, 0, 0, 0)), (.invokevirtual 101, (0, 0, 0, 0, 0)), (.istore_n 2, (0, 0, 0, 0, 0)), (.iload_n 2, (0, 0, 0, 0, 0)), (.sipush 200, (0, 0, 0, 200, 0)), (.if_icmp .ne 24, (0, 35, 0, 0, 0)), (.aload_n 0, (0, 0, 0, 0, 0)), (.invokevirtual 105, (0, 0, 0, 0, 0)), (.astore_n 1, (0, 0, 0, 0, 0)), (.aload_n 1, (0, 0, 0, 0, 0)), (.ifnonnull 9, (0, 29, 0, 0, 0)), (.sipush 406, (0, 0, 0, 406, 0)), (.goto 8, (0, 34, 0, 0, 0)), (.aload_n 0, (0, 0, 0, 0, 0)), (.aload_n 1, (0, 0, 0, 0, 0)), (.invokevirtual 109, (0, 0, 0, 0, 0)), (.istore_n 2, (0, 0, 0, 0, 0)), (.aload_n 0, (0, 0, 0, 0, 0)), (.getfield 53, (1, 0, 8, 0, 0)), (.iload_n 2, (0, 0, 0, 0, 0)), (.aload_n 1, (0, 0, 0, 0, 0)), (.aload_n 0, (0, 0, 0, 0, 0)), (.getfield 18, (1, 0, 2, 0, 0)), (.getfield 113, (2, 0, 0, 0, 0)), (.iconst 1, (0, 0, 0, 1, 0)), (.if_icmp .ne 7, (0, 56, 0, 0, 0)), (.iconst 1, (0, 0, 0, 1, 0)), (.goto 4, (0, 57, 0, 0, 0)), (.iconst 0, (0, 0, 0, 0, 0)), (.aload_n 0, (0, 0, 0, 0, 0)), (.getfield 46, (1, 0, 7, 0, 0)), (.invokevirtual 116, (0, 0, 0, 0, 0)), (.iload_n 2, (0, 0, 0, 0, 0)), (.ireturn, (0, 0, 0, 0, 0))]
theorem jc_Dk_respond : wq_c b_Dk_respond 3 j_Dk_respond 0 = true := sorry
def j_Dk_status : wq_J := [(.aload_n 0, (0, 0, 0, 0, 0)), (.getfield 53, (1, 0, 8, 0, 0)), (.getfield 120, (2, 0, 0, 0, 0)), (.ireturn, (0, 0, 0, 0, 0))]
theorem jc_Dk_status : wq_c b_Dk_status 1 j_Dk_status 0 = true := sorry
def j_Dk_chosen : wq_J := [(.aload_n 0, (0, 0, 0, 0, 0)), (.getfield 53, (1, 0, 8, 0, 0)), (.getfield 123, (2, 0, 0, 0, 0)), (.ifnonnull 7, (0, 14, 0, 0, 0)), (.iconst (-1), (0, 0, 0, (-1), 0)), (.goto 13, (0, 24, 0, 0, 0)), (.aload_n 0, (0, 0, 0, 0, 0)), (.getfield 53, (1, 0, 8, 0, 0)), (.getfield 123, (2, 0, 0, 0, 0)), (.getfield 127, (2, 0, 0, 0, 0)), (.ireturn, (0, 0, 0, 0, 0))]
theorem jc_Dk_chosen : wq_c b_Dk_chosen 1 j_Dk_chosen 0 = true := sorry
def j_Dk_length : wq_J := [(.aload_n 0, (0, 0, 0, 0, 0)), (.getfield 53, (1, 0, 8, 0, 0)), (.getfield 130, (2, 0, 0, 0, 0)), (.i2l, (0, 0, 0, 0, 0)), (.lreturn, (0, 0, 0, 0, 0))]
theorem jc_Dk_length : wq_c b_Dk_length 1 j_Dk_length 0 = true := sorry
def j_Dk_body : wq_J := [(.aload_n 0, (0, 0, 0, 0, 0)), (.getfield 53, (1, 0, 8, 0, 0)), (.iload_n 1, (0, 0, 0, 0, 0)), (.invokevirtual 133, (0, 0, 0, 0, 0)), (.ireturn, (0, 0, 0, 0, 0))]
theorem jc_Dk_body : wq_c b_Dk_body 2 j_Dk_body 0 = true := sorry
def j_Dk_parts : wq_J := [(.aload_n 0, (0, 0, 0, 0, 0)), (.getfield 53, (1, 0, 8, 0, 0)), (.getfield 137, (2, 0, 0, 0, 0)), (.ireturn, (0, 0, 0, 0, 0))]
theorem jc_Dk_parts : wq_c b_Dk_parts 1 j_Dk_parts 0 = true := sorry
def j_Dk_first : wq_J := [(.aload_n 0, (0, 0, 0, 0, 0)), (.getfield 53, (1, 0, 8, 0, 0)), (.iload_n 1, (0, 0, 0, 0, 0)), (.invokevirtual 140, (0, 0, 0, 0, 0)), (.ifCond .eq 15, (0, 23, 0, 0, 0)), (.aload_n 0, (0, 0, 0, 0, 0)), (.getfield 53, (1, 0, 8, 0, 0)), (.getfield 144, (2, 0, 0, 0, 0)), (.iload_n 1, (0, 0, 0, 0, 0)), (.iaload, (2, 0, 0, 0, 0)), (.goto 4, (0, 24, 0, 0, 0)), (.iconst (-1), (0, 0, 0, (-1), 0)), (.ireturn, (0, 0, 0, 0, 0))]
theorem jc_Dk_first : wq_c b_Dk_first 2 j_Dk_first 0 = true := sorry
def j_Dk_last : wq_J := [(.aload_n 0, (0, 0, 0, 0, 0)), (.getfield 53, (1, 0, 8, 0, 0)), (.iload_n 1, (0, 0, 0, 0, 0)), (.invokevirtual 140, (0, 0, 0, 0, 0)), (.ifCond .eq 15, (0, 23, 0, 0, 0)), (.aload_n 0, (0, 0, 0, 0, 0)), (.getfield 53, (1, 0, 8, 0, 0)), (.getfield 148, (2, 0, 0, 0, 0)), (.iload_n 1, (0, 0, 0, 0, 0)), (.iaload, (2, 0, 0, 0, 0)), (.goto 4, (0, 24, 0, 0, 0)), (.iconst (-1), (0, 0, 0, (-1), 0)), (.ireturn, (0, 0, 0, 0, 0))]
theorem jc_Dk_last : wq_c b_Dk_last 2 j_Dk_last 0 = true := sorry
def j_Dk_score : wq_J := [(.iload_n 1, (0, 0, 0, 0, 0)), (.ifCond .lt 20, (0, 21, 0, 0, 0)), (.iload_n 1, (0, 0, 0, 0, 0)), (.aload_n 0, (0, 0, 0, 0, 0)), (.getfield 86, (1, 0, 1, 0, 0)), (.if_icmp .ge 12, (0, 21, 0, 0, 0)), (.aload_n 0, (0, 0, 0, 0, 0)), (.getfield 11, (1, 0, 0, 0, 0)), (.iload_n 1, (0, 0, 0, 0, 0)), (.aaload, (0, 0, 0, 0, 0)), (.ifnonnull 5, (0, 23, 0, 0, 0)), (.iconst (-1), (0, 0, 0, (-1), 0)), (.ireturn, (0, 0, 0, 0, 0)), (.aload_n 0, (0, 0, 0, 0, 0)), (.aload_n 0, (0, 0, 0, 0, 0)), (.getfield 11, (1, 0, 0, 0, 0)), (.iload_n 1, (0, 0, 0, 0, 0)), (.aaload, (0, 0, 0, 0, 0)), (.invokevirtual 151, (0, 0, 0, 0, 0)), (.ireturn, (0, 0, 0, 0, 0))]
theorem jc_Dk_score : wq_c b_Dk_score 2 j_Dk_score 0 = true := sorry
def j_Dk_formed : wq_J := [(.iload_n 1, (0, 0, 0, 0, 0)), (.tableswitch 172 0 7 #[47, 62, 77, 77, 92, 92, 117, 159], (0, 47, 0, 0, 0)), (.aload_n 0, (0, 0, 0, 0, 0)), (.getfield 25, (1, 0, 3, 0, 0)), (.aload_n 0, (0, 0, 0, 0, 0)), (.getfield 18, (1, 0, 2, 0, 0)), (.getstatic 154, (2, 0, 0, 0, 0)), (.invokevirtual 160, (0, 0, 0, 0, 0)), (.ireturn, (0, 0, 0, 0, 0)), (.aload_n 0, (0, 0, 0, 0, 0)), (.getfield 32, (1, 0, 4, 0, 0)), (.aload_n 0, (0, 0, 0, 0, 0)), (.getfield 18, (1, 0, 2, 0, 0)), (.getstatic 164, (2, 0, 0, 0, 0)), (.invokevirtual 170, (0, 0, 0, 0, 0)), (.ireturn, (0, 0, 0, 0, 0)), (.aload_n 0, (0, 0, 0, 0, 0)), (.getfield 39, (1, 0, 5, 0, 0)), (.aload_n 0, (0, 0, 0, 0, 0)), (.getfield 18, (1, 0, 2, 0, 0)), (.iload_n 1, (0, 0, 0, 0, 0)), (.ldc 173, (2, 0, 0, 0, 0)), (.invokevirtual 175, (0, 0, 0, 0, 0)), (.ireturn, (0, 0, 0, 0, 0)), (.aload_n 0, (0, 0, 0, 0, 0)), (.getfield 66, (1, 0, 6, 0, 0)), (.aload_n 0, (0, 0, 0, 0, 0)), (.getfield 18, (1, 0, 2, 0, 0)), (.iload_n 1, (0, 0, 0, 0, 0)), (.invokevirtual 179, (0, 0, 0, 0, 0)), (.ldc2_w 183, (1, 0, 0, 0, (-1))), (.lcmp, (0, 0, 0, 0, 0)), (.ifCond .eq 7, (0, 116, 0, 0, 0)), (.iconst 1, (0, 0, 0, 1, 0)), (.goto 4, (0, 117, 0, 0, 0)), (.iconst 0, (0, 0, 0, 0, 0)), (.ireturn, (0, 0, 0, 0, 0)), (.aload_n 0, (0, 0, 0, 0, 0)), (.getfield 39, (1, 0, 5, 0, 0)), (.aload_n 0, (0, 0, 0, 0, 0)), (.getfield 18, (1, 0, 2, 0, 0)), (.iload_n 1, (0, 0, 0, 0, 0)), (.ldc 173, (2, 0, 0, 0, 0)), (.invokevirtual 185, (0, 0, 0, 0, 0)), (.ifCond .ne 22, (0, 154, 0, 0, 0)), (.aload_n 0, (0, 0, 0, 0, 0)), (.getfield 66, (1, 0, 6, 0, 0)), (.aload_n 0, (0, 0, 0, 0, 0)), (.getfield 18, (1, 0, 2, 0, 0)), (.iload_n 1, (0, 0, 0, 0, 0)), (.invokevirtual 179, (0, 0, 0, 0, 0)), (.ldc2_w 183, (1, 0, 0, 0, (-1))), (.lcmp, (0, 0, 0, 0, 0)), (.ifCond .eq 7, (0, 158, 0, 0, 0)), (.iconst 1, (0, 0, 0, 1, 0)), (.goto 4, (0, 159, 0, 0, 0)), (.iconst 0, (0, 0, 0, 0, 0)), (.ireturn, (0, 0, 0, 0, 0)), (.aload_n 0, (0, 0, 0, 0, 0)), (.getfield 46, (1, 0, 7, 0, 0)), (.aload_n 0, (0, 0, 0, 0, 0)), (.getfield 18, (1, 0, 2, 0, 0)), (.iconst 0, (0, 0, 0, 0, 0)), (.invokevirtual 188, (0, 0, 0, 0, 0)), (.ireturn, (0, 0, 0, 0, 0)), (.iconst 0, (0, 0, 0, 0, 0)), (.ireturn, (0, 0, 0, 0, 0))]
theorem jc_Dk_formed : wq_c b_Dk_formed 2 j_Dk_formed 0 = true := sorry
def j_Dk_date : wq_J := [(.iload_n 1, (0, 0, 0, 0, 0)), (.iconst 4, (0, 0, 0, 4, 0)), (.if_icmp .lt 24, (0, 26, 0, 0, 0)), (.iload_n 1, (0, 0, 0, 0, 0)), (.bipush 6, (0, 0, 0, 6, 0)), (.if_icmp .gt 18, (0, 26, 0, 0, 0)), (.aload_n 0, (0, 0, 0, 0, 0)), (.getfield 66, (1, 0, 6, 0, 0)), (.aload_n 0, (0, 0, 0, 0, 0)), (.getfield 18, (1, 0, 2, 0, 0)), (.iload_n 1, (0, 0, 0, 0, 0)), (.invokevirtual 179, (0, 0, 0, 0, 0)), (.goto 6, (0, 29, 0, 0, 0)), (.ldc2_w 183, (1, 0, 0, 0, (-1))), (.lreturn, (0, 0, 0, 0, 0))]
theorem jc_Dk_date : wq_c b_Dk_date 2 j_Dk_date 0 = true := sorry
def j_Dk_isWithin : wq_J := [(.lload_n 0, (0, 0, 0, 0, 0)), (.lconst 0, (0, 0, 0, 0, 0)), (.lcmp, (0, 0, 0, 0, 0)), (.ifCond .lt 13, (0, 16, 0, 0, 0)), (.lload_n 0, (0, 0, 0, 0, 0)), (.lload_n 2, (0, 0, 0, 0, 0)), (.lcmp, (0, 0, 0, 0, 0)), (.ifCond .gt 7, (0, 16, 0, 0, 0)), (.iconst 1, (0, 0, 0, 1, 0)), (.goto 4, (0, 17, 0, 0, 0)), (.iconst 0, (0, 0, 0, 0, 0)), (.ireturn, (0, 0, 0, 0, 0))]
theorem jc_Dk_isWithin : wq_c b_Dk_isWithin 4 j_Dk_isWithin 0 = true := sorry
def j_Dk_codeWithoutChoice : wq_J := [(.aload_n 0, (0, 0, 0, 0, 0)), (.getfield 18, (1, 0, 2, 0, 0)), (.getfield 113, (2, 0, 0, 0, 0)), (.ifCond .eq 29, (0, 36, 0, 0, 0)), (.aload_n 0, (0, 0, 0, 0, 0)), (.getfield 18, (1, 0, 2, 0, 0)), (.getfield 113, (2, 0, 0, 0, 0)), (.iconst 1, (0, 0, 0, 1, 0)), (.if_icmp .eq 18, (0, 36, 0, 0, 0)), (.aload_n 0, (0, 0, 0, 0, 0)), (.getfield 18, (1, 0, 2, 0, 0)), (.getfield 113, (2, 0, 0, 0, 0)), (.iconst 2, (0, 0, 0, 2, 0)), (.if_icmp .eq 7, (0, 36, 0, 0, 0)), (.sipush 501, (0, 0, 0, 501, 0)), (.ireturn, (0, 0, 0, 0, 0)), (.aload_n 0, (0, 0, 0, 0, 0)), (.getfield 86, (1, 0, 1, 0, 0)), (.ifCond .ne 7, (0, 47, 0, 0, 0)), (.sipush 404, (0, 0, 0, 404, 0)), (.ireturn, (0, 0, 0, 0, 0)), (.aload_n 0, (0, 0, 0, 0, 0)), (.getfield 18, (1, 0, 2, 0, 0)), (.getfield 113, (2, 0, 0, 0, 0)), (.iconst 2, (0, 0, 0, 2, 0)), (.if_icmp .ne 9, (0, 64, 0, 0, 0)), (.sipush 204, (0, 0, 0, 204, 0)), (.goto 6, (0, 67, 0, 0, 0)), (.sipush 200, (0, 0, 0, 200, 0)), (.ireturn, (0, 0, 0, 0, 0))]
theorem jc_Dk_codeWithoutChoice : wq_c b_Dk_codeWithoutChoice 1 j_Dk_codeWithoutChoice 0 = true := sorry
def j_Dk_choose : wq_J := [(.aconst_null, (0, 0, 0, 0, 0)), (.astore_n 1, (0, 0, 0, 0, 0)), (.iconst 0, (0, 0, 0, 0, 0)), (.istore_n 2, (0, 0, 0, 0, 0)), (.iconst 0, (0, 0, 0, 0, 0)), (.istore_n 3, (0, 0, 0, 0, 0)), (.iload_n 3, (0, 0, 0, 0, 0)), (.aload_n 0, (0, 0, 0, 0, 0)), (.getfield 86, (1, 0, 1, 0, 0)), (.if_icmp .ge 46, (0, 57, 0, 0, 0)), (.aload_n 0, (0, 0, 0, 0, 0)), (.getfield 11, (1, 0, 0, 0, 0)), (.iload_n 3, (0, 0, 0, 0, 0)), (.aaload, (0, 0, 0, 0, 0)), (.astore 4, (0, 0, 0, 0, 0)), (.aload 4, (0, 0, 0, 0, 0)), (.ifnonnull 7, (0, 31, 0, 0, 0)), (.iconst 0, (0, 0, 0, 0, 0)), (.goto 9, (0, 37, 0, 0, 0)), (.aload_n 0, (0, 0, 0, 0, 0)), (.aload 4, (0, 0, 0, 0, 0)), (.invokevirtual 151, (0, 0, 0, 0, 0)), (.istore 5, (0, 0, 0, 0, 0)), (.iload 5, (0, 0, 0, 0, 0)), (.iload_n 2, (0, 0, 0, 0, 0)), (.if_icmp .le 9, (0, 51, 0, 0, 0)), (.aload 4, (0, 0, 0, 0, 0)), (.astore_n 1, (0, 0, 0, 0, 0)), (.iload 5, (0, 0, 0, 0, 0)), (.istore_n 2, (0, 0, 0, 0, 0)), (.iinc 3 1, (0, 0, 0, 1, 0)), (.goto (-48), (0, 6, 0, 0, 0)), (.aload_n 1, (0, 0, 0, 0, 0)), (.areturn, (0, 0, 0, 0, 0))]
theorem jc_Dk_choose : wq_c b_Dk_choose 6 j_Dk_choose 0 = true := sorry
def j_Dk_scoreOf : wq_J := [(.aload_n 0, (0, 0, 0, 0, 0)), (.getfield 25, (1, 0, 3, 0, 0)), (.aload_n 0, (0, 0, 0, 0, 0)), (.getfield 18, (1, 0, 2, 0, 0)), (.aload_n 1, (0, 0, 0, 0, 0)), (.getfield 191, (2, 0, 0, 0, 0)), (.invokevirtual 160, (0, 0, 0, 0, 0)), (.ifCond .eq 13, (0, 28, 0, 0, 0)), (.aload_n 0, (0, 0, 0, 0, 0)), (.getfield 25, (1, 0, 3, 0, 0)), (.getfield 194, (2, 0, 0, 0, 0)), (.goto 6, (0, 31, 0, 0, 0)), (.sipush 1000, (0, 0, 0, 1000, 0)), (.istore_n 2, (0, 0, 0, 0, 0)), (.aload_n 1, (0, 0, 0, 0, 0)), (.getfield 197, (2, 0, 0, 0, 0)), (.getstatic 200, (2, 0, 0, 0, 0)), (.if_acmp .eq 25, (0, 64, 0, 0, 0)), (.aload_n 0, (0, 0, 0, 0, 0)), (.getfield 32, (1, 0, 4, 0, 0)), (.aload_n 0, (0, 0, 0, 0, 0)), (.getfield 18, (1, 0, 2, 0, 0)), (.aload_n 1, (0, 0, 0, 0, 0)), (.getfield 197, (2, 0, 0, 0, 0)), (.invokevirtual 170, (0, 0, 0, 0, 0)), (.ifCond .eq 7, (0, 64, 0, 0, 0)), (.iconst 1, (0, 0, 0, 1, 0)), (.goto 4, (0, 65, 0, 0, 0)), (.iconst 0, (0, 0, 0, 0, 0)), (.istore_n 3, (0, 0, 0, 0, 0)), (.iload_n 2, (0, 0, 0, 0, 0)), (.iload_n 3, (0, 0, 0, 0, 0)), (.ifCond .eq 13, (0, 81, 0, 0, 0)), (.aload_n 0, (0, 0, 0, 0, 0)), (.getfield 32, (1, 0, 4, 0, 0)), (.getfield 203, (2, 0, 0, 0, 0)), (.goto 6, (0, 84, 0, 0, 0)), (.sipush 1000, (0, 0, 0, 1000, 0)), (.imul, (0, 0, 0, 0, 0)), (.ireturn, (0, 0, 0, 0, 0))]
theorem jc_Dk_scoreOf : wq_c b_Dk_scoreOf 4 j_Dk_scoreOf 0 = true := sorry
def j_Dk_codeFor : wq_J := [(.aload_n 0, (0, 0, 0, 0, 0)), (.aload_n 1, (0, 0, 0, 0, 0)), (.invokevirtual 204, (0, 0, 0, 0, 0)), (.ifCond .eq 7, (0, 12, 0, 0, 0)), (.sipush 412, (0, 0, 0, 412, 0)), (.ireturn, (0, 0, 0, 0, 0)), (.aload_n 0, (0, 0, 0, 0, 0)), (.aload_n 1, (0, 0, 0, 0, 0)), (.invokevirtual 208, (0, 0, 0, 0, 0)), (.ifCond .eq 7, (0, 24, 0, 0, 0)), (.sipush 304, (0, 0, 0, 304, 0)), (.ireturn, (0, 0, 0, 0, 0)), (.aload_n 0, (0, 0, 0, 0, 0)), (.getfield 18, (1, 0, 2, 0, 0)), (.getfield 113, (2, 0, 0, 0, 0)), (.ifCond .ne 29, (0, 60, 0, 0, 0)), (.aload_n 0, (0, 0, 0, 0, 0)), (.getfield 46, (1, 0, 7, 0, 0)), (.aload_n 0, (0, 0, 0, 0, 0)), (.getfield 18, (1, 0, 2, 0, 0)), (.aload_n 1, (0, 0, 0, 0, 0)), (.getfield 211, (2, 0, 0, 0, 0)), (.invokevirtual 188, (0, 0, 0, 0, 0)), (.ifCond .eq 11, (0, 60, 0, 0, 0)), (.aload_n 0, (0, 0, 0, 0, 0)), (.aload_n 1, (0, 0, 0, 0, 0)), (.invokevirtual 214, (0, 0, 0, 0, 0)), (.ifCond .ne 7, (0, 64, 0, 0, 0)), (.sipush 200, (0, 0, 0, 200, 0)), (.ireturn, (0, 0, 0, 0, 0)), (.aload_n 0, (0, 0, 0, 0, 0)), (.getfield 46, (1, 0, 7, 0, 0)), (.getfield 217, (2, 0, 0, 0, 0)), (.iconst 4, (0, 0, 0, 4, 0)), (.if_icmp .gt 13, (0, 85, 0, 0, 0)), (.aload_n 0, (0, 0, 0, 0, 0)), (.getfield 46, (1, 0, 7, 0, 0)), (.invokevirtual 220, (0, 0, 0, 0, 0)), (.ifCond .eq 7, (0, 89, 0, 0, 0)), (.sipush 200, (0, 0, 0, 200, 0)), (.ireturn, (0, 0, 0, 0, 0)), (.aload_n 0, (0, 0, 0, 0, 0)), (.getfield 46, (1, 0, 7, 0, 0)), (.getfield 224, (2, 0, 0, 0, 0)), (.ifCond .ne 9, (0, 105, 0, 0, 0)), (.sipush 416, (0, 0, 0, 416, 0)), (.goto 6, (0, 108, 0, 0, 0)), (.sipush 206, (0, 0, 0, 206, 0)), (.ireturn, (0, 0, 0, 0, 0))]
theorem jc_Dk_codeFor : wq_c b_Dk_codeFor 2 j_Dk_codeFor 0 = true := sorry
def j_Dk_isRefused : wq_J := [(.aload_n 0, (0, 0, 0, 0, 0)), (.getfield 18, (1, 0, 2, 0, 0)), (.iconst 2, (0, 0, 0, 2, 0)), (.invokevirtual 227, (0, 0, 0, 0, 0)), (.ifCond .eq 57, (0, 65, 0, 0, 0)), (.aload_n 0, (0, 0, 0, 0, 0)), (.getfield 39, (1, 0, 5, 0, 0)), (.aload_n 0, (0, 0, 0, 0, 0)), (.getfield 18, (1, 0, 2, 0, 0)), (.iconst 2, (0, 0, 0, 2, 0)), (.aload_n 1, (0, 0, 0, 0, 0)), (.getfield 230, (2, 0, 0, 0, 0)), (.invokevirtual 175, (0, 0, 0, 0, 0)), (.istore_n 2, (0, 0, 0, 0, 0)), (.iload_n 2, (0, 0, 0, 0, 0)), (.ifCond .eq 30, (0, 59, 0, 0, 0)), (.aload_n 0, (0, 0, 0, 0, 0)), (.getfield 39, (1, 0, 5, 0, 0)), (.getfield 234, (2, 0, 0, 0, 0)), (.ifCond .ne 24, (0, 63, 0, 0, 0)), (.aload_n 0, (0, 0, 0, 0, 0)), (.getfield 39, (1, 0, 5, 0, 0)), (.getfield 238, (2, 0, 0, 0, 0)), (.ifCond .eq 10, (0, 59, 0, 0, 0)), (.aload_n 1, (0, 0, 0, 0, 0)), (.getfield 241, (2, 0, 0, 0, 0)), (.ifCond .eq 7, (0, 63, 0, 0, 0)), (.iconst 1, (0, 0, 0, 1, 0)), (.goto 4, (0, 64, 0, 0, 0)), (.iconst 0, (0, 0, 0, 0, 0)), (.ireturn, (0, 0, 0, 0, 0)), (.aload_n 0, (0, 0, 0, 0, 0)), (.getfield 66, (1, 0, 6, 0, 0)), (.aload_n 0, (0, 0, 0, 0, 0)), (.getfield 18, (1, 0, 2, 0, 0)), (.iconst 5, (0, 0, 0, 5, 0)), (.invokevirtual 179, (0, 0, 0, 0, 0)), (.lstore_n 2, (0, 0, 0, 0, 0)), (.lload_n 2, (0, 0, 0, 0, 0)), (.ldc2_w 183, (1, 0, 0, 0, (-1))), (.lcmp, (0, 0, 0, 0, 0)), (.ifCond .eq 16, (0, 99, 0, 0, 0)), (.lload_n 2, (0, 0, 0, 0, 0)), (.aload_n 1, (0, 0, 0, 0, 0)), (.getfield 244, (2, 0, 0, 0, 0)), (.lcmp, (0, 0, 0, 0, 0)), (.ifCond .ge 7, (0, 99, 0, 0, 0)), (.iconst 1, (0, 0, 0, 1, 0)), (.goto 4, (0, 100, 0, 0, 0)), (.iconst 0, (0, 0, 0, 0, 0)), (.ireturn, (0, 0, 0, 0, 0))]
theorem jc_Dk_isRefused : wq_c b_Dk_isRefused 4 j_Dk_isRefused 0 = true := sorry
def j_Dk_isUnchanged : wq_J := [(.aload_n 0, (0, 0, 0, 0, 0)), (.getfield 18, (1, 0, 2, 0, 0)), (.iconst 3, (0, 0, 0, 3, 0)), (.invokevirtual 227, (0, 0, 0, 0, 0)), (.ifCond .eq 48, (0, 56, 0, 0, 0)), (.aload_n 0, (0, 0, 0, 0, 0)), (.getfield 39, (1, 0, 5, 0, 0)), (.aload_n 0, (0, 0, 0, 0, 0)), (.getfield 18, (1, 0, 2, 0, 0)), (.iconst 3, (0, 0, 0, 3, 0)), (.aload_n 1, (0, 0, 0, 0, 0)), (.getfield 230, (2, 0, 0, 0, 0)), (.invokevirtual 175, (0, 0, 0, 0, 0)), (.ifCond .eq 27, (0, 54, 0, 0, 0)), (.aload_n 0, (0, 0, 0, 0, 0)), (.getfield 39, (1, 0, 5, 0, 0)), (.getfield 234, (2, 0, 0, 0, 0)), (.ifCond .ne 13, (0, 50, 0, 0, 0)), (.aload_n 0, (0, 0, 0, 0, 0)), (.getfield 39, (1, 0, 5, 0, 0)), (.getfield 248, (2, 0, 0, 0, 0)), (.ifCond .eq 7, (0, 54, 0, 0, 0)), (.iconst 1, (0, 0, 0, 1, 0)), (.goto 4, (0, 55, 0, 0, 0)), (.iconst 0, (0, 0, 0, 0, 0)), (.ireturn, (0, 0, 0, 0, 0)), (.aload_n 0, (0, 0, 0, 0, 0)), (.getfield 66, (1, 0, 6, 0, 0)), (.aload_n 0, (0, 0, 0, 0, 0)), (.getfield 18, (1, 0, 2, 0, 0)), (.iconst 4, (0, 0, 0, 4, 0)), (.invokevirtual 179, (0, 0, 0, 0, 0)), (.lstore_n 2, (0, 0, 0, 0, 0)), (.lload_n 2, (0, 0, 0, 0, 0)), (.ldc2_w 183, (1, 0, 0, 0, (-1))), (.lcmp, (0, 0, 0, 0, 0)), (.ifCond .eq 16, (0, 90, 0, 0, 0)), (.lload_n 2, (0, 0, 0, 0, 0)), (.aload_n 1, (0, 0, 0, 0, 0)), (.getfield 244, (2, 0, 0, 0, 0)), (.lcmp, (0, 0, 0, 0, 0)), (.ifCond .lt 7, (0, 90, 0, 0, 0)), (.iconst 1, (0, 0, 0, 1, 0)), (.goto 4, (0, 91, 0, 0, 0)), (.iconst 0, (0, 0, 0, 0, 0)), (.ireturn, (0, 0, 0, 0, 0))]
theorem jc_Dk_isUnchanged : wq_c b_Dk_isUnchanged 4 j_Dk_isUnchanged 0 = true := sorry
def j_Dk_isRangeWanted : wq_J := [(.aload_n 0, (0, 0, 0, 0, 0)), (.getfield 18, (1, 0, 2, 0, 0)), (.bipush 6, (0, 0, 0, 6, 0)), (.invokevirtual 227, (0, 0, 0, 0, 0)), (.ifCond .ne 5, (0, 14, 0, 0, 0)), (.iconst 1, (0, 0, 0, 1, 0)), (.ireturn, (0, 0, 0, 0, 0)), (.aload_n 0, (0, 0, 0, 0, 0)), (.getfield 39, (1, 0, 5, 0, 0)), (.aload_n 0, (0, 0, 0, 0, 0)), (.getfield 18, (1, 0, 2, 0, 0)), (.bipush 6, (0, 0, 0, 6, 0)), (.aload_n 1, (0, 0, 0, 0, 0)), (.getfield 230, (2, 0, 0, 0, 0)), (.invokevirtual 185, (0, 0, 0, 0, 0)), (.ifCond .eq 26, (0, 57, 0, 0, 0)), (.aload_n 0, (0, 0, 0, 0, 0)), (.getfield 39, (1, 0, 5, 0, 0)), (.getfield 238, (2, 0, 0, 0, 0)), (.ifCond .eq 14, (0, 55, 0, 0, 0)), (.aload_n 1, (0, 0, 0, 0, 0)), (.getfield 241, (2, 0, 0, 0, 0)), (.ifCond .ne 7, (0, 55, 0, 0, 0)), (.iconst 1, (0, 0, 0, 1, 0)), (.goto 4, (0, 56, 0, 0, 0)), (.iconst 0, (0, 0, 0, 0, 0)), (.ireturn, (0, 0, 0, 0, 0)), (.aload_n 0, (0, 0, 0, 0, 0)), (.getfield 66, (1, 0, 6, 0, 0)), (.aload_n 0, (0, 0, 0, 0, 0)), (.getfield 18, (1, 0, 2, 0, 0)), (.bipush 6, (0, 0, 0, 6, 0)), (.invokevirtual 179, (0, 0, 0, 0, 0)), (.aload_n 1, (0, 0, 0, 0, 0)), (.getfield 244, (2, 0, 0, 0, 0)), (.lcmp, (0, 0, 0, 0, 0)), (.ifCond .ne 7, (0, 82, 0, 0, 0)), (.iconst 1, (0, 0, 0, 1, 0)), (.goto 4, (0, 83, 0, 0, 0)), (.iconst 0, (0, 0, 0, 0, 0)), (.ireturn, (0, 0, 0, 0, 0))]
theorem jc_Dk_isRangeWanted : wq_c b_Dk_isRangeWanted 2 j_Dk_isRangeWanted 0 = true := sorry
def j_Mo_init : wq_J := [(.aload_n 0, (0, 0, 0, 0, 0)), (.invokespecial 1, (0, 0, 0, 0, 0)), (.aload_n 0, (0, 0, 0, 0, 0)), (.iconst 4, (0, 0, 0, 4, 0)), (.newarray .int, (0, 0, 0, 0, 0)), (.putfield 7, (3, 0, 2, 0, 0)), (.aload_n 0, (0, 0, 0, 0, 0)), (.iconst 4, (0, 0, 0, 4, 0)), (.newarray .int, (0, 0, 0, 0, 0)), (.putfield 13, (3, 0, 3, 0, 0)), (.aload_n 0, (0, 0, 0, 0, 0)), (.iconst 4, (0, 0, 0, 4, 0)), (.newarray .int, (0, 0, 0, 0, 0)), (.putfield 16, (3, 0, 4, 0, 0)), (.aload_n 0, (0, 0, 0, 0, 0)), (.iconst 4, (0, 0, 0, 4, 0)), (.newarray .int, (0, 0, 0, 0, 0)), (.putfield 19, (3, 0, 5, 0, 0)), (.aload_n 0, (0, 0, 0, 0, 0)), (.iconst 4, (0, 0, 0, 4, 0)), (.newarray .boolean, (0, 0, 0, 0, 0)), (.putfield 22, (3, 0, 6, 0, 0)), (.aload_n 0, (0, 0, 0, 0, 0)), (.iconst 4, (0, 0, 0, 4, 0)), (.newarray .long, (0, 0, 0, 0, 0)), (.putfield 26, (3, 0, 7, 0, 0)), (.aload_n 0, (0, 0, 0, 0, 0)), (.sipush 768, (0, 0, 0, 768, 0)), (.newarray .int, (0, 0, 0, 0, 0)), (.putfield 30, (3, 0, 9, 0, 0)), (.aload_n 0, (0, 0, 0, 0, 0)), (.bipush 8, (0, 0, 0, 8, 0)), (.newarray .int, (0, 0, 0, 0, 0)), (.putfield 33, (3, 0, 10, 0, 0)), (.aload_n 0, (0, 0, 0, 0, 0)), (.bipush 96, (0, 0, 0, 96, 0)), (.newarray .int, (0, 0, 0, 0, 0)), (.putfield 36, (3, 0, 21, 0, 0)), (.aload_n 0, (0, 0, 0, 0, 0)), (.bipush 96, (0, 0, 0, 96, 0)), (.newarray .int, (0, 0, 0, 0, 0)), (.putfield 39, (3, 0, 22, 0, 0)), (.aload_n 0, (0, 0, 0, 0, 0)), (.iconst (-1), (0, 0, 0, (-1), 0)), (.putfield 42, (1, 0, 23, 0, 0)), (.aload_n 0, (0, 0, 0, 0, 0)), (.iconst (-1), (0, 0, 0, (-1), 0)), (.putfield 46, (1, 0, 24, 0, 0)), (.aload_n 0, (0, 0, 0, 0, 0)), (.iconst 4, (0, 0, 0, 4, 0)), (.newarray .int, (0, 0, 0, 0, 0)), (.putfield 49, (3, 0, 28, 0, 0)), (.aload_n 0, (0, 0, 0, 0, 0)), (.iconst 4, (0, 0, 0, 4, 0)), (.newarray .int, (0, 0, 0, 0, 0)), (.putfield 52, (3, 0, 29, 0, 0)), (.aload_n 0, (0, 0, 0, 0, 0)), (.bipush 15, (0, 0, 0, 15, 0)), (.newarray .long, (0, 0, 0, 0, 0)), (.putfield 55, (3, 0, 30, 0, 0)), (.iload_n 1, (0, 0, 0, 0, 0)), (.i2l, (0, 0, 0, 0, 0)), (.ldc2_w 58, (1, 0, 0, 0, 4294967295)), (.land, (0, 0, 0, 0, 0)), (.lstore_n 2, (0, 0, 0, 0, 0)), (.aload_n 0, (0, 0, 0, 0, 0)), (.lload_n 2, (0, 0, 0, 0, 0)), (.ldc2_w 60, (1, 0, 0, 0, 4102444799)), (.lcmp, (0, 0, 0, 0, 0)), (.ifCond .le 7, (0, 131, 0, 0, 0)), (.lconst 0, (0, 0, 0, 0, 0)), (.goto 4, (0, 132, 0, 0, 0)), (.lload_n 2, (0, 0, 0, 0, 0)), (.putfield 62, (3, 0, 0, 0, 0)), (.aload_n 0, (0, 0, 0, 0, 0)), (.getfield 55, (1, 0, 30, 0, 0)), (.iconst 0, (0, 0, 0, 0, 0)), (.ldc2_w 66, (1, 0, 0, 0, 1954047348)), (.lastore, (1, 13, 0, 0, 0)), (.aload_n 0, (0, 0, 0, 0, 0)), (.getfield 55, (1, 0, 30, 0, 0)), (.iconst 1, (0, 0, 0, 1, 0)), (.ldc2_w 68, (1, 0, 0, 0, 1819112552)), (.lastore, (1, 13, 0, 0, 0)), (.aload_n 0, (0, 0, 0, 0, 0)), (.getfield 55, (1, 0, 30, 0, 0)), (.iconst 2, (0, 0, 0, 2, 0)), (.ldc2_w 70, (1, 0, 0, 0, 474214394992)), (.lastore, (1, 13, 0, 0, 0)), (.aload_n 0, (0, 0, 0, 0, 0)), (.getfield 55, (1, 0, 30, 0, 0)), (.iconst 3, (0, 0, 0, 3, 0)), (.ldc2_w 72, (1, 0, 0, 0, 1852797802)), (.lastore, (1, 13, 0, 0, 0)), (.aload_n 0, (0, 0, 0, 0, 0)), (.getfield 55, (1, 0, 30, 0, 0)), (.iconst 4, (0, 0, 0, 4, 0)), (.ldc2_w 74, (1, 0, 0, 0, 435526135145)), (.lastore, (1, 13, 0, 0, 0)), (.aload_n 0, (0, 0, 0, 0, 0)), (.getfield 55, (1, 0, 30, 0, 0)), (.iconst 5, (0, 0, 0, 5, 0)), (.ldc2_w 76, (1, 0, 0, 0, 6778480)), (.lastore, (1, 13, 0, 0, 0)), (.aload_n 0, (0, 0, 0, 0, 0)), (.getfield 55, (1, 0, 30, 0, 0)), (.bipush 6, (0, 0, 0, 6, 0)), (.ldc2_w 78, (1, 0, 0, 0, 30519660376454771)), (.lastore, (1, 13, 0, 0, 0)), (.aload_n 0, (0, 0, 0, 0, 0)), (.getfield 55, (1, 0, 30, 0, 0)), (.bipush 7, (0, 0, 0, 7, 0)), (.ldc2_w 80, (1, 0, 0, 0, 465558725996)), (.lastore, (1, 13, 0, 0, 0)), (.aload_n 0, (0, 0, 0, 0, 0)), (.getfield 55, (1, 0, 30, 0, 0)), (.bipush 8, (0, 0, 0, 8, 0)), (.ldc2_w 82, (1, 0, 0, 0, 8386093285582598241)), (.lastore, (1, 13, 0, 0, 0)), (.aload_n 0, (0, 0, 0, 0, 0)), (.getfield 55, (1, 0, 30, 0, 0)), (.bipush 9, (0, 0, 0, 9, 0)), (.ldc2_w 84, (1, 0, 0, 0, 7237481)), (.lastore, (1, 13, 0, 0, 0)), (.aload_n 0, (0, 0, 0, 0, 0)), (.getfield 55, (1, 0, 30, 0, 0)), (.bipush 10, (0, 0, 0, 10, 0)), (.ldc2_w 86, (1, 0, 0, 0, 28261)), (.lastore, (1, 13, 0, 0, 0)), (.aload_n 0, (0, 0, 0, 0, 0)), (.getfield 55, (1, 0, 30, 0, 0)), (.bipush 11, (0, 0, 0, 11, 0)), (.ldc2_w 88, (1, 0, 0, 0, 495887150693)), (.lastore, (1, 13, 0, 0, 0)), (.aload_n 0, (0, 0, 0, 0, 0)), (.getfield 55, (1, 0, 30, 0, 0)), (.bipush 12, (0, 0, 0, 12, 0)), (.ldc2_w 90, (1, 0, 0, 0, 25956)), (.lastore, (1, 13, 0, 0, 0)), (.aload_n 0, (0, 0, 0, 0, 0)), (.getfield 55, (1, 0, 30, 0, 0)), (.bipush 13, (0, 0, 0, 13, 0)), (.ldc2_w 92, (1, 0, 0, 0, 499846571364)), (.lastore, (1, 13, 0, 0, 0)), (.aload_n 0, (0, 0, 0, 0, 0)), (.getfield 55, (1, 0, 30, 0, 0)), (.bipush 14, (0, 0, 0, 14, 0)), (.ldc2_w 94, (1, 0, 0, 0, 29286)), (.lastore, (1, 13, 0, 0, 0)), (.return_, (0, 0, 0, 0, 0))]
theorem jc_Mo_init : wq_c b_Mo_init 4 j_Mo_init 0 = true := sorry
def j_Mo_add : wq_J := [(.iload_n 1, (0, 0, 0, 0, 0)), (.ifCond .lt 60, (0, 61, 0, 0, 0)), (.iload_n 1, (0, 0, 0, 0, 0)), (.iconst 5, (0, 0, 0, 5, 0)), (.if_icmp .gt 55, (0, 61, 0, 0, 0)), (.iload_n 2, (0, 0, 0, 0, 0)), (.ifCond .lt 51, (0, 61, 0, 0, 0)), (.iload_n 2, (0, 0, 0, 0, 0)), (.iconst 5, (0, 0, 0, 5, 0)), (.if_icmp .gt 46, (0, 61, 0, 0, 0)), (.iload_n 3, (0, 0, 0, 0, 0)), (.ifCond .lt 42, (0, 61, 0, 0, 0)), (.iload_n 3, (0, 0, 0, 0, 0)), (.ldc 96, (1, 0, 0, 100000, 0)), (.if_icmp .gt 36, (0, 61, 0, 0, 0)), (.iload 4, (0, 0, 0, 0, 0)), (.ifCond .lt 31, (0, 61, 0, 0, 0)), (.iload 4, (0, 0, 0, 0, 0)), (.sipush 9999, (0, 0, 0, 9999, 0)), (.if_icmp .gt 23, (0, 61, 0, 0, 0)), (.lload 6, (0, 0, 0, 0, 0)), (.lconst 0, (0, 0, 0, 0, 0)), (.lcmp, (0, 0, 0, 0, 0)), (.ifCond .lt 16, (0, 61, 0, 0, 0)), (.lload 6, (0, 0, 0, 0, 0)), (.ldc2_w 60, (1, 0, 0, 0, 4102444799)), (.lcmp, (0, 0, 0, 0, 0)), (.ifCond .gt 7, (0, 61, 0, 0, 0)), (.iconst 1, (0, 0, 0, 1, 0)), (.goto 4, (0, 62, 0, 0, 0)), (.iconst 0, (0, 0, 0, 0, 0)), (.istore 8, (0, 0, 0, 0, 0)), (.iload 8, (0, 0, 0, 0, 0)), (.ifCond .eq 11, (0, 77, 0, 0, 0)), (.aload_n 0, (0, 0, 0, 0, 0)), (.getfield 97, (1, 0, 1, 0, 0)), (.iconst 4, (0, 0, 0, 4, 0)), (.if_icmp .ne 5, (0, 79, 0, 0, 0)), (.iconst (-1), (0, 0, 0, (-1), 0)), (.ireturn, (0, 0, 0, 0, 0)), (.aload_n 0, (0, 0, 0, 0, 0)), (.getfield 7, (1, 0, 2, 0, 0)), (.aload_n 0, (0, 0, 0, 0, 0)), (.getfield 97, (1, 0, 1, 0, 0)), (.iload_n 1, (0, 0, 0, 0, 0)), (.iastore, (1, 1, 0, 0, 0)), (.aload_n 0, (0, 0, 0, 0, 0)), (.getfield 13, (1, 0, 3, 0, 0)), (.aload_n 0, (0, 0, 0, 0, 0)), (.getfield 97, (1, 0, 1, 0, 0)), (.iload_n 2, (0, 0, 0, 0, 0)), (.iastore, (1, 2, 0, 0, 0)), (.aload_n 0, (0, 0, 0, 0, 0)), (.getfield 16, (1, 0, 4, 0, 0)), (.aload_n 0, (0, 0, 0, 0, 0)), (.getfield 97, (1, 0, 1, 0, 0)), (.iload_n 3, (0, 0, 0, 0, 0)), (.iastore, (1, 3, 0, 0, 0)), (.aload_n 0, (0, 0, 0, 0, 0)), (.getfield 19, (1, 0, 5, 0, 0)), (.aload_n 0, (0, 0, 0, 0, 0)), (.getfield 97, (1, 0, 1, 0, 0)), (.iload 4, (0, 0, 0, 0, 0)), (.iastore, (1, 4, 0, 0, 0)), (.aload_n 0, (0, 0, 0, 0, 0)), (.getfield 22, (1, 0, 6, 0, 0)), (.aload_n 0, (0, 0, 0, 0, 0)), (.getfield 97, (1, 0, 1, 0, 0)), (.iload 5, (0, 0, 0, 0, 0)), (.bastore, (4, 5, 0, 0, 0)), (.aload_n 0, (0, 0, 0, 0, 0)), (.getfield 26, (1, 0, 7, 0, 0)), (.aload_n 0, (0, 0, 0, 0, 0)), (.getfield 97, (1, 0, 1, 0, 0)), (.lload 6, (0, 0, 0, 0, 0)), (.lastore, (1, 6, 0, 0, 0)), (.aload_n 0, (0, 0, 0, 0, 0)), (.dup, (0, 0, 0, 0, 0)), (.getfield 97, (1, 0, 1, 0, 0)), (.iconst 1, (0, 0, 0, 1, 0)), (.iadd, (0, 0, 0, 0, 0)), (.putfield 97, (1, 0, 1, 0, 0)), (.aload_n 0, (0, 0, 0, 0, 0)), (.getfield 97, (1, 0, 1, 0, 0)), (.iconst 1, (0, 0, 0, 1, 0)), (.isub, (0, 0, 0, 0, 0)), (.ireturn, (0, 0, 0, 0, 0))]
theorem jc_Mo_add : wq_c b_Mo_add 9 j_Mo_add 0 = true := sorry
def j_Mo_clear : wq_J := [(.aload_n 0, (0, 0, 0, 0, 0)), (.iconst 0, (0, 0, 0, 0, 0)), (.putfield 97, (1, 0, 1, 0, 0)), (.return_, (0, 0, 0, 0, 0))]
theorem jc_Mo_clear : wq_c b_Mo_clear 1 j_Mo_clear 0 = true := sorry
def j_Mo_request : wq_J := [(.aload_n 0, (0, 0, 0, 0, 0)), (.iload_n 1, (0, 0, 0, 0, 0)), (.putfield 100, (1, 0, 8, 0, 0)), (.iconst 0, (0, 0, 0, 0, 0)), (.istore_n 2, (0, 0, 0, 0, 0)), (.iload_n 2, (0, 0, 0, 0, 0)), (.bipush 8, (0, 0, 0, 8, 0)), (.if_icmp .ge 16, (0, 26, 0, 0, 0)), (.aload_n 0, (0, 0, 0, 0, 0)), (.getfield 33, (1, 0, 10, 0, 0)), (.iload_n 2, (0, 0, 0, 0, 0)), (.iconst 0, (0, 0, 0, 0, 0)), (.iastore, (1, 8, 0, 0, 0)), (.iinc 2 1, (0, 0, 0, 1, 0)), (.goto (-16), (0, 7, 0, 0, 0)), (.return_, (0, 0, 0, 0, 0))]
theorem jc_Mo_request : wq_c b_Mo_request 3 j_Mo_request 0 = true := sorry
def j_Mo_feed : wq_J := [(.iload_n 1, (0, 0, 0, 0, 0)), (.ifCond .lt 9, (0, 10, 0, 0, 0)), (.iload_n 1, (0, 0, 0, 0, 0)), (.bipush 7, (0, 0, 0, 7, 0)), (.if_icmp .le 5, (0, 12, 0, 0, 0)), (.iconst (-1), (0, 0, 0, (-1), 0)), (.ireturn, (0, 0, 0, 0, 0)), (.iconst 0, (0, 0, 0, 0, 0)), (.istore 4, (0, 0, 0, 0, 0)), (.iload 4, (0, 0, 0, 0, 0)), (.bipush 8, (0, 0, 0, 8, 0)), (.if_icmp .ge 25, (0, 44, 0, 0, 0)), (.lload_n 2, (0, 0, 0, 0, 0)), (.bipush 8, (0, 0, 0, 8, 0)), (.iload 4, (0, 0, 0, 0, 0)), (.imul, (0, 0, 0, 0, 0)), (.lshr, (0, 0, 0, 0, 0)), (.ldc2_w 103, (1, 0, 0, 0, 255)), (.land, (0, 0, 0, 0, 0)), (.lconst 0, (0, 0, 0, 0, 0)), (.lcmp, (0, 0, 0, 0, 0)), (.ifCond .eq 9, (0, 44, 0, 0, 0)), (.iinc 4 1, (0, 0, 0, 1, 0)), (.goto (-26), (0, 15, 0, 0, 0)), (.aload_n 0, (0, 0, 0, 0, 0)), (.getfield 33, (1, 0, 10, 0, 0)), (.iload_n 1, (0, 0, 0, 0, 0)), (.iaload, (1, 8, 0, 0, 0)), (.iload 4, (0, 0, 0, 0, 0)), (.iadd, (0, 0, 0, 0, 0)), (.bipush 96, (0, 0, 0, 96, 0)), (.if_icmp .le 5, (0, 60, 0, 0, 0)), (.iconst (-1), (0, 0, 0, (-1), 0)), (.ireturn, (0, 0, 0, 0, 0)), (.iconst 0, (0, 0, 0, 0, 0)), (.istore 5, (0, 0, 0, 0, 0)), (.iload 5, (0, 0, 0, 0, 0)), (.iload 4, (0, 0, 0, 0, 0)), (.if_icmp .ge 40, (0, 107, 0, 0, 0)), (.aload_n 0, (0, 0, 0, 0, 0)), (.getfield 30, (1, 0, 9, 0, 0)), (.bipush 96, (0, 0, 0, 96, 0)), (.iload_n 1, (0, 0, 0, 0, 0)), (.imul, (0, 0, 0, 0, 0)), (.aload_n 0, (0, 0, 0, 0, 0)), (.getfield 33, (1, 0, 10, 0, 0)), (.iload_n 1, (0, 0, 0, 0, 0)), (.iaload, (1, 8, 0, 0, 0)), (.iadd, (0, 0, 0, 0, 0)), (.iload 5, (0, 0, 0, 0, 0)), (.iadd, (0, 0, 0, 0, 0)), (.lload_n 2, (0, 0, 0, 0, 0)), (.bipush 8, (0, 0, 0, 8, 0)), (.iload 5, (0, 0, 0, 0, 0)), (.imul, (0, 0, 0, 0, 0)), (.lshr, (0, 0, 0, 0, 0)), (.ldc2_w 103, (1, 0, 0, 0, 255)), (.land, (0, 0, 0, 0, 0)), (.l2i, (0, 0, 0, 0, 0)), (.iastore, (1, 7, 0, 0, 0)), (.iinc 5 1, (0, 0, 0, 1, 0)), (.goto (-41), (0, 63, 0, 0, 0)), (.aload_n 0, (0, 0, 0, 0, 0)), (.getfield 33, (1, 0, 10, 0, 0)), (.iload_n 1, (0, 0, 0, 0, 0)), (.dup2, (0, 0, 0, 0, 0)), (.iaload, (1, 8, 0, 0, 0)), (.iload 4, (0, 0, 0, 0, 0)), (.iadd, (0, 0, 0, 0, 0)), (.iastore, (1, 8, 0, 0, 0)), (.aload_n 0, (0, 0, 0, 0, 0)), (.getfield 33, (1, 0, 10, 0, 0)), (.iload_n 1, (0, 0, 0, 0, 0)), (.iaload, (1, 8, 0, 0, 0)), (.ireturn, (0, 0, 0, 0, 0))]
theorem jc_Mo_feed : wq_c b_Mo_feed 6 j_Mo_feed 0 = true := sorry
def j_Mo_open : wq_J := [(.aload_n 0, (0, 0, 0, 0, 0)), (.iload_n 1, (0, 0, 0, 0, 0)), (.putfield 105, (1, 0, 11, 0, 0)), (.aload_n 0, (0, 0, 0, 0, 0)), (.iconst 0, (0, 0, 0, 0, 0)), (.putfield 108, (1, 0, 12, 0, 0)), (.return_, (0, 0, 0, 0, 0))]
theorem jc_Mo_open : wq_c b_Mo_open 2 j_Mo_open 0 = true := sorry
def j_Mo_there : wq_J := [(.aload_n 0, (0, 0, 0, 0, 0)), (.getfield 33, (1, 0, 10, 0, 0)), (.iload_n 1, (0, 0, 0, 0, 0)), (.iaload, (1, 8, 0, 0, 0)), (.ifCond .le 7, (0, 13, 0, 0, 0)), (.iconst 1, (0, 0, 0, 1, 0)), (.goto 4, (0, 14, 0, 0, 0)), (.iconst 0, (0, 0, 0, 0, 0)), (.ireturn, (0, 0, 0, 0, 0))]
theorem jc_Mo_there : wq_c b_Mo_there 2 j_Mo_there 0 = true := sorry
def j_Mo_charAt : wq_J := [(.iload_n 1, (0, 0, 0, 0, 0)), (.aload_n 0, (0, 0, 0, 0, 0)), (.getfield 33, (1, 0, 10, 0, 0)), (.aload_n 0, (0, 0, 0, 0, 0)), (.getfield 105, (1, 0, 11, 0, 0)), (.iaload, (1, 8, 0, 0, 0)), (.if_icmp .ge 20, (0, 30, 0, 0, 0)), (.aload_n 0, (0, 0, 0, 0, 0)), (.getfield 30, (1, 0, 9, 0, 0)), (.bipush 96, (0, 0, 0, 96, 0)), (.aload_n 0, (0, 0, 0, 0, 0)), (.getfield 105, (1, 0, 11, 0, 0)), (.imul, (0, 0, 0, 0, 0)), (.iload_n 1, (0, 0, 0, 0, 0)), (.iadd, (0, 0, 0, 0, 0)), (.iaload, (1, 7, 0, 0, 0)), (.goto 4, (0, 31, 0, 0, 0)), (.iconst 0, (0, 0, 0, 0, 0)), (.ireturn, (0, 0, 0, 0, 0))]
theorem jc_Mo_charAt : wq_c b_Mo_charAt 2 j_Mo_charAt 0 = true := sorry
def j_Mo_next : wq_J := [(.aload_n 0, (0, 0, 0, 0, 0)), (.aload_n 0, (0, 0, 0, 0, 0)), (.getfield 108, (1, 0, 12, 0, 0)), (.invokevirtual 111, (0, 0, 0, 0, 0)), (.ireturn, (0, 0, 0, 0, 0))]
theorem jc_Mo_next : wq_c b_Mo_next 1 j_Mo_next 0 = true := sorry
def j_Mo_ended : wq_J := [(.aload_n 0, (0, 0, 0, 0, 0)), (.getfield 108, (1, 0, 12, 0, 0)), (.aload_n 0, (0, 0, 0, 0, 0)), (.getfield 33, (1, 0, 10, 0, 0)), (.aload_n 0, (0, 0, 0, 0, 0)), (.getfield 105, (1, 0, 11, 0, 0)), (.iaload, (1, 8, 0, 0, 0)), (.if_icmp .lt 7, (0, 20, 0, 0, 0)), (.iconst 1, (0, 0, 0, 1, 0)), (.goto 4, (0, 21, 0, 0, 0)), (.iconst 0, (0, 0, 0, 0, 0)), (.ireturn, (0, 0, 0, 0, 0))]
theorem jc_Mo_ended : wq_c b_Mo_ended 1 j_Mo_ended 0 = true := sorry
def j_Mo_gap : wq_J := [(.aload_n 0, (0, 0, 0, 0, 0)), (.invokevirtual 115, (0, 0, 0, 0, 0)), (.bipush 32, (0, 0, 0, 32, 0)), (.if_icmp .eq 12, (0, 18, 0, 0, 0)), (.aload_n 0, (0, 0, 0, 0, 0)), (.invokevirtual 115, (0, 0, 0, 0, 0)), (.bipush 9, (0, 0, 0, 9, 0)), (.if_icmp .ne 16, (0, 31, 0, 0, 0)), (.aload_n 0, (0, 0, 0, 0, 0)), (.dup, (0, 0, 0, 0, 0)), (.getfield 108, (1, 0, 12, 0, 0)), (.iconst 1, (0, 0, 0, 1, 0)), (.iadd, (0, 0, 0, 0, 0)), (.putfield 108, (1, 0, 12, 0, 0)), (.goto (-28), (0, 0, 0, 0, 0)), (.return_, (0, 0, 0, 0, 0))]
theorem jc_Mo_gap : wq_c b_Mo_gap 1 j_Mo_gap 0 = true := sorry
def j_Mo_take : wq_J := [(.aload_n 0, (0, 0, 0, 0, 0)), (.invokevirtual 115, (0, 0, 0, 0, 0)), (.iload_n 1, (0, 0, 0, 0, 0)), (.if_icmp .ne 7, (0, 12, 0, 0, 0)), (.iconst 1, (0, 0, 0, 1, 0)), (.goto 4, (0, 13, 0, 0, 0)), (.iconst 0, (0, 0, 0, 0, 0)), (.istore_n 2, (0, 0, 0, 0, 0)), (.aload_n 0, (0, 0, 0, 0, 0)), (.iload_n 2, (0, 0, 0, 0, 0)), (.ifCond .eq 12, (0, 28, 0, 0, 0)), (.aload_n 0, (0, 0, 0, 0, 0)), (.getfield 108, (1, 0, 12, 0, 0)), (.iconst 1, (0, 0, 0, 1, 0)), (.iadd, (0, 0, 0, 0, 0)), (.goto 7, (0, 32, 0, 0, 0)), (.aload_n 0, (0, 0, 0, 0, 0)), (.getfield 108, (1, 0, 12, 0, 0)), (.putfield 108, (1, 0, 12, 0, 0)), (.iload_n 2, (0, 0, 0, 0, 0)), (.ireturn, (0, 0, 0, 0, 0))]
theorem jc_Mo_take : wq_c b_Mo_take 3 j_Mo_take 0 = true := sorry
def j_Mo_isDigit : wq_J := [(.iload_n 0, (0, 0, 0, 0, 0)), (.bipush 48, (0, 0, 0, 48, 0)), (.if_icmp .lt 13, (0, 16, 0, 0, 0)), (.iload_n 0, (0, 0, 0, 0, 0)), (.bipush 57, (0, 0, 0, 57, 0)), (.if_icmp .gt 7, (0, 16, 0, 0, 0)), (.iconst 1, (0, 0, 0, 1, 0)), (.goto 4, (0, 17, 0, 0, 0)), (.iconst 0, (0, 0, 0, 0, 0)), (.ireturn, (0, 0, 0, 0, 0))]
theorem jc_Mo_isDigit : wq_c b_Mo_isDigit 1 j_Mo_isDigit 0 = true := sorry
def j_Mo_isLetter : wq_J := [(.iload_n 0, (0, 0, 0, 0, 0)), (.bipush 65, (0, 0, 0, 65, 0)), (.if_icmp .lt 9, (0, 12, 0, 0, 0)), (.iload_n 0, (0, 0, 0, 0, 0)), (.bipush 90, (0, 0, 0, 90, 0)), (.if_icmp .le 15, (0, 24, 0, 0, 0)), (.iload_n 0, (0, 0, 0, 0, 0)), (.bipush 97, (0, 0, 0, 97, 0)), (.if_icmp .lt 13, (0, 28, 0, 0, 0)), (.iload_n 0, (0, 0, 0, 0, 0)), (.bipush 122, (0, 0, 0, 122, 0)), (.if_icmp .gt 7, (0, 28, 0, 0, 0)), (.iconst 1, (0, 0, 0, 1, 0)), (.goto 4, (0, 29, 0, 0, 0)), (.iconst 0, (0, 0, 0, 0, 0)), (.ireturn, (0, 0, 0, 0, 0))]
theorem jc_Mo_isLetter : wq_c b_Mo_isLetter 1 j_Mo_isLetter 0 = true := sorry
def j_Mo_lower : wq_J := [(.iload_n 0, (0, 0, 0, 0, 0)), (.bipush 65, (0, 0, 0, 65, 0)), (.if_icmp .lt 16, (0, 19, 0, 0, 0)), (.iload_n 0, (0, 0, 0, 0, 0)), (.bipush 90, (0, 0, 0, 90, 0)), (.if_icmp .gt 10, (0, 19, 0, 0, 0)), (.iload_n 0, (0, 0, 0, 0, 0)), (.bipush 32, (0, 0, 0, 32, 0)), (.iadd, (0, 0, 0, 0, 0)), (.goto 4, (0, 20, 0, 0, 0)), (.iload_n 0, (0, 0, 0, 0, 0)), (.ireturn, (0, 0, 0, 0, 0))]
theorem jc_Mo_lower : wq_c b_Mo_lower 1 j_Mo_lower 0 = true := sorry
def j_Mo_isToken : wq_J := [(.iload_n 0, (0, 0, 0, 0, 0)), (.bipush 33, (0, 0, 0, 33, 0)), (.if_icmp .eq 69, (0, 72, 0, 0, 0)), (.iload_n 0, (0, 0, 0, 0, 0)), (.bipush 35, (0, 0, 0, 35, 0)), (.if_icmp .lt 9, (0, 18, 0, 0, 0)), (.iload_n 0, (0, 0, 0, 0, 0)), (.bipush 39, (0, 0, 0, 39, 0)), (.if_icmp .le 57, (0, 72, 0, 0, 0)), (.iload_n 0, (0, 0, 0, 0, 0)), (.bipush 42, (0, 0, 0, 42, 0)), (.if_icmp .eq 51, (0, 72, 0, 0, 0)), (.iload_n 0, (0, 0, 0, 0, 0)), (.bipush 43, (0, 0, 0, 43, 0)), (.if_icmp .eq 45, (0, 72, 0, 0, 0)), (.iload_n 0, (0, 0, 0, 0, 0)), (.bipush 45, (0, 0, 0, 45, 0)), (.if_icmp .eq 39, (0, 72, 0, 0, 0)), (.iload_n 0, (0, 0, 0, 0, 0)), (.bipush 46, (0, 0, 0, 46, 0)), (.if_icmp .eq 33, (0, 72, 0, 0, 0)), (.iload_n 0, (0, 0, 0, 0, 0)), (.bipush 94, (0, 0, 0, 94, 0)), (.if_icmp .eq 27, (0, 72, 0, 0, 0)), (.iload_n 0, (0, 0, 0, 0, 0)), (.bipush 95, (0, 0, 0, 95, 0)), (.if_icmp .eq 21, (0, 72, 0, 0, 0)), (.iload_n 0, (0, 0, 0, 0, 0)), (.bipush 96, (0, 0, 0, 96, 0)), (.if_icmp .eq 15, (0, 72, 0, 0, 0)), (.iload_n 0, (0, 0, 0, 0, 0)), (.bipush 124, (0, 0, 0, 124, 0)), (.if_icmp .eq 9, (0, 72, 0, 0, 0)), (.iload_n 0, (0, 0, 0, 0, 0)), (.bipush 126, (0, 0, 0, 126, 0)), (.if_icmp .ne 7, (0, 76, 0, 0, 0)), (.iconst 1, (0, 0, 0, 1, 0)), (.goto 4, (0, 77, 0, 0, 0)), (.iconst 0, (0, 0, 0, 0, 0)), (.istore_n 1, (0, 0, 0, 0, 0)), (.iload_n 0, (0, 0, 0, 0, 0)), (.invokestatic 119, (0, 0, 0, 0, 0)), (.ifCond .ne 14, (0, 96, 0, 0, 0)), (.iload_n 0, (0, 0, 0, 0, 0)), (.invokestatic 123, (0, 0, 0, 0, 0)), (.ifCond .ne 7, (0, 96, 0, 0, 0)), (.iload_n 1, (0, 0, 0, 0, 0)), (.ifCond .eq 7, (0, 100, 0, 0, 0)), (.iconst 1, (0, 0, 0, 1, 0)), (.goto 4, (0, 101, 0, 0, 0)), (.iconst 0, (0, 0, 0, 0, 0)), (.ireturn, (0, 0, 0, 0, 0))]
theorem jc_Mo_isToken : wq_c b_Mo_isToken 2 j_Mo_isToken 0 = true := sorry
def j_Mo_token : wq_J := [(.aload_n 0, (0, 0, 0, 0, 0)), (.aload_n 0, (0, 0, 0, 0, 0)), (.getfield 108, (1, 0, 12, 0, 0)), (.putfield 126, (1, 0, 13, 0, 0)), (.aload_n 0, (0, 0, 0, 0, 0)), (.invokevirtual 115, (0, 0, 0, 0, 0)), (.invokestatic 129, (0, 0, 0, 0, 0)), (.ifCond .eq 16, (0, 31, 0, 0, 0)), (.aload_n 0, (0, 0, 0, 0, 0)), (.dup, (0, 0, 0, 0, 0)), (.getfield 108, (1, 0, 12, 0, 0)), (.iconst 1, (0, 0, 0, 1, 0)), (.iadd, (0, 0, 0, 0, 0)), (.putfield 108, (1, 0, 12, 0, 0)), (.goto (-20), (0, 8, 0, 0, 0)), (.aload_n 0, (0, 0, 0, 0, 0)), (.aload_n 0, (0, 0, 0, 0, 0)), (.getfield 108, (1, 0, 12, 0, 0)), (.putfield 132, (1, 0, 14, 0, 0)), (.aload_n 0, (0, 0, 0, 0, 0)), (.getfield 132, (1, 0, 14, 0, 0)), (.aload_n 0, (0, 0, 0, 0, 0)), (.getfield 126, (1, 0, 13, 0, 0)), (.if_icmp .le 7, (0, 54, 0, 0, 0)), (.iconst 1, (0, 0, 0, 1, 0)), (.goto 4, (0, 55, 0, 0, 0)), (.iconst 0, (0, 0, 0, 0, 0)), (.ireturn, (0, 0, 0, 0, 0))]
theorem jc_Mo_token : wq_c b_Mo_token 1 j_Mo_token 0 = true := sorry
def j_Mo_lengthOf : wq_J := [(.iconst 0, (0, 0, 0, 0, 0)), (.istore_n 2, (0, 0, 0, 0, 0)), (.iload_n 2, (0, 0, 0, 0, 0)), (.bipush 8, (0, 0, 0, 8, 0)), (.if_icmp .ge 24, (0, 29, 0, 0, 0)), (.lload_n 0, (0, 0, 0, 0, 0)), (.bipush 8, (0, 0, 0, 8, 0)), (.iload_n 2, (0, 0, 0, 0, 0)), (.imul, (0, 0, 0, 0, 0)), (.lshr, (0, 0, 0, 0, 0)), (.ldc2_w 103, (1, 0, 0, 0, 255)), (.land, (0, 0, 0, 0, 0)), (.lconst 0, (0, 0, 0, 0, 0)), (.lcmp, (0, 0, 0, 0, 0)), (.ifCond .eq 9, (0, 29, 0, 0, 0)), (.iinc 2 1, (0, 0, 0, 1, 0)), (.goto (-24), (0, 2, 0, 0, 0)), (.iload_n 2, (0, 0, 0, 0, 0)), (.ireturn, (0, 0, 0, 0, 0))]
theorem jc_Mo_lengthOf : wq_c b_Mo_lengthOf 3 j_Mo_lengthOf 0 = true := sorry
def j_Mo_says : wq_J := [(.lload_n 2, (0, 0, 0, 0, 0)), (.invokestatic 135, (0, 0, 0, 0, 0)), (.istore 4, (0, 0, 0, 0, 0)), (.iconst 1, (0, 0, 0, 1, 0)), (.istore 5, (0, 0, 0, 0, 0)), (.iconst 0, (0, 0, 0, 0, 0)), (.istore 6, (0, 0, 0, 0, 0)), (.iload 6, (0, 0, 0, 0, 0)), (.iload 4, (0, 0, 0, 0, 0)), (.if_icmp .ge 47, (0, 63, 0, 0, 0)), (.iload 5, (0, 0, 0, 0, 0)), (.ifCond .eq 33, (0, 54, 0, 0, 0)), (.aload_n 0, (0, 0, 0, 0, 0)), (.iload_n 1, (0, 0, 0, 0, 0)), (.iload 6, (0, 0, 0, 0, 0)), (.iadd, (0, 0, 0, 0, 0)), (.invokevirtual 111, (0, 0, 0, 0, 0)), (.invokestatic 139, (0, 0, 0, 0, 0)), (.lload_n 2, (0, 0, 0, 0, 0)), (.bipush 8, (0, 0, 0, 8, 0)), (.iload 6, (0, 0, 0, 0, 0)), (.imul, (0, 0, 0, 0, 0)), (.lshr, (0, 0, 0, 0, 0)), (.ldc2_w 103, (1, 0, 0, 0, 255)), (.land, (0, 0, 0, 0, 0)), (.l2i, (0, 0, 0, 0, 0)), (.if_icmp .ne 7, (0, 54, 0, 0, 0)), (.iconst 1, (0, 0, 0, 1, 0)), (.goto 4, (0, 55, 0, 0, 0)), (.iconst 0, (0, 0, 0, 0, 0)), (.istore 5, (0, 0, 0, 0, 0)), (.iinc 6 1, (0, 0, 0, 1, 0)), (.goto (-48), (0, 12, 0, 0, 0)), (.iload 5, (0, 0, 0, 0, 0)), (.ireturn, (0, 0, 0, 0, 0))]
theorem jc_Mo_says : wq_c b_Mo_says 7 j_Mo_says 0 = true := sorry
def j_Mo_isWord : wq_J := [(.iload_n 2, (0, 0, 0, 0, 0)), (.iload_n 1, (0, 0, 0, 0, 0)), (.isub, (0, 0, 0, 0, 0)), (.lload_n 3, (0, 0, 0, 0, 0)), (.invokestatic 135, (0, 0, 0, 0, 0)), (.if_icmp .ne 16, (0, 23, 0, 0, 0)), (.aload_n 0, (0, 0, 0, 0, 0)), (.iload_n 1, (0, 0, 0, 0, 0)), (.lload_n 3, (0, 0, 0, 0, 0)), (.invokevirtual 142, (0, 0, 0, 0, 0)), (.ifCond .eq 7, (0, 23, 0, 0, 0)), (.iconst 1, (0, 0, 0, 1, 0)), (.goto 4, (0, 24, 0, 0, 0)), (.iconst 0, (0, 0, 0, 0, 0)), (.ireturn, (0, 0, 0, 0, 0))]
theorem jc_Mo_isWord : wq_c b_Mo_isWord 5 j_Mo_isWord 0 = true := sorry
def j_Mo_isMain : wq_J := [(.iload_n 3, (0, 0, 0, 0, 0)), (.iconst 2, (0, 0, 0, 2, 0)), (.if_icmp .ne 50, (0, 52, 0, 0, 0)), (.iload_n 2, (0, 0, 0, 0, 0)), (.iload_n 1, (0, 0, 0, 0, 0)), (.isub, (0, 0, 0, 0, 0)), (.bipush 11, (0, 0, 0, 11, 0)), (.if_icmp .ne 40, (0, 50, 0, 0, 0)), (.aload_n 0, (0, 0, 0, 0, 0)), (.iload_n 1, (0, 0, 0, 0, 0)), (.aload_n 0, (0, 0, 0, 0, 0)), (.getfield 55, (1, 0, 30, 0, 0)), (.bipush 8, (0, 0, 0, 8, 0)), (.laload, (1, 13, 0, 0, 0)), (.invokevirtual 142, (0, 0, 0, 0, 0)), (.ifCond .eq 25, (0, 50, 0, 0, 0)), (.aload_n 0, (0, 0, 0, 0, 0)), (.iload_n 1, (0, 0, 0, 0, 0)), (.bipush 8, (0, 0, 0, 8, 0)), (.iadd, (0, 0, 0, 0, 0)), (.aload_n 0, (0, 0, 0, 0, 0)), (.getfield 55, (1, 0, 30, 0, 0)), (.bipush 9, (0, 0, 0, 9, 0)), (.laload, (1, 13, 0, 0, 0)), (.invokevirtual 142, (0, 0, 0, 0, 0)), (.ifCond .eq 7, (0, 50, 0, 0, 0)), (.iconst 1, (0, 0, 0, 1, 0)), (.goto 4, (0, 51, 0, 0, 0)), (.iconst 0, (0, 0, 0, 0, 0)), (.ireturn, (0, 0, 0, 0, 0)), (.aload_n 0, (0, 0, 0, 0, 0)), (.iload_n 1, (0, 0, 0, 0, 0)), (.iload_n 2, (0, 0, 0, 0, 0)), (.iload_n 3, (0, 0, 0, 0, 0)), (.iconst 3, (0, 0, 0, 3, 0)), (.if_icmp .eq 8, (0, 65, 0, 0, 0)), (.iload_n 3, (0, 0, 0, 0, 0)), (.iconst 5, (0, 0, 0, 5, 0)), (.if_icmp .ne 12, (0, 74, 0, 0, 0)), (.aload_n 0, (0, 0, 0, 0, 0)), (.getfield 55, (1, 0, 30, 0, 0)), (.iconst 4, (0, 0, 0, 4, 0)), (.laload, (1, 13, 0, 0, 0)), (.goto 9, (0, 80, 0, 0, 0)), (.aload_n 0, (0, 0, 0, 0, 0)), (.getfield 55, (1, 0, 30, 0, 0)), (.iconst 0, (0, 0, 0, 0, 0)), (.laload, (1, 13, 0, 0, 0)), (.invokevirtual 146, (0, 0, 0, 0, 0)), (.ireturn, (0, 0, 0, 0, 0))]
theorem jc_Mo_isMain : wq_c b_Mo_isMain 4 j_Mo_isMain 0 = true := sorry
def j_Mo_isSub : wq_J := [(.iload_n 3, (0, 0, 0, 0, 0)), (.ifCond .eq 8, (0, 9, 0, 0, 0)), (.iload_n 3, (0, 0, 0, 0, 0)), (.iconst 4, (0, 0, 0, 4, 0)), (.if_icmp .ne 7, (0, 13, 0, 0, 0)), (.iconst 1, (0, 0, 0, 1, 0)), (.goto 32, (0, 42, 0, 0, 0)), (.iload_n 3, (0, 0, 0, 0, 0)), (.iconst 1, (0, 0, 0, 1, 0)), (.if_icmp .ne 7, (0, 22, 0, 0, 0)), (.iconst 2, (0, 0, 0, 2, 0)), (.goto 23, (0, 42, 0, 0, 0)), (.iload_n 3, (0, 0, 0, 0, 0)), (.iconst 2, (0, 0, 0, 2, 0)), (.if_icmp .ne 7, (0, 31, 0, 0, 0)), (.iconst 3, (0, 0, 0, 3, 0)), (.goto 14, (0, 42, 0, 0, 0)), (.iload_n 3, (0, 0, 0, 0, 0)), (.iconst 3, (0, 0, 0, 3, 0)), (.if_icmp .ne 7, (0, 40, 0, 0, 0)), (.iconst 5, (0, 0, 0, 5, 0)), (.goto 5, (0, 42, 0, 0, 0)), (.bipush 6, (0, 0, 0, 6, 0)), (.istore 4, (0, 0, 0, 0, 0)), (.aload_n 0, (0, 0, 0, 0, 0)), (.iload_n 1, (0, 0, 0, 0, 0)), (.iload_n 2, (0, 0, 0, 0, 0)), (.aload_n 0, (0, 0, 0, 0, 0)), (.getfield 55, (1, 0, 30, 0, 0)), (.iload 4, (0, 0, 0, 0, 0)), (.laload, (1, 13, 0, 0, 0)), (.invokevirtual 146, (0, 0, 0, 0, 0)), (.ireturn, (0, 0, 0, 0, 0))]
theorem jc_Mo_isSub : wq_c b_Mo_isSub 5 j_Mo_isSub 0 = true := sorry
def j_Mo_weight : wq_J := [(.aload_n 0, (0, 0, 0, 0, 0)), (.invokevirtual 115, (0, 0, 0, 0, 0)), (.istore_n 1, (0, 0, 0, 0, 0)), (.iload_n 1, (0, 0, 0, 0, 0)), (.bipush 48, (0, 0, 0, 48, 0)), (.if_icmp .eq 11, (0, 19, 0, 0, 0)), (.iload_n 1, (0, 0, 0, 0, 0)), (.bipush 49, (0, 0, 0, 49, 0)), (.if_icmp .eq 5, (0, 19, 0, 0, 0)), (.iconst 0, (0, 0, 0, 0, 0)), (.ireturn, (0, 0, 0, 0, 0)), (.aload_n 0, (0, 0, 0, 0, 0)), (.dup, (0, 0, 0, 0, 0)), (.getfield 108, (1, 0, 12, 0, 0)), (.iconst 1, (0, 0, 0, 1, 0)), (.iadd, (0, 0, 0, 0, 0)), (.putfield 108, (1, 0, 12, 0, 0)), (.aload_n 0, (0, 0, 0, 0, 0)), (.sipush 1000, (0, 0, 0, 1000, 0)), (.iload_n 1, (0, 0, 0, 0, 0)), (.bipush 48, (0, 0, 0, 48, 0)), (.isub, (0, 0, 0, 0, 0)), (.imul, (0, 0, 0, 0, 0)), (.putfield 150, (1, 0, 16, 0, 0)), (.aload_n 0, (0, 0, 0, 0, 0)), (.bipush 46, (0, 0, 0, 46, 0)), (.invokevirtual 153, (0, 0, 0, 0, 0)), (.ifCond .eq 70, (0, 117, 0, 0, 0)), (.bipush 100, (0, 0, 0, 100, 0)), (.istore_n 2, (0, 0, 0, 0, 0)), (.iload_n 2, (0, 0, 0, 0, 0)), (.ifCond .le 63, (0, 117, 0, 0, 0)), (.aload_n 0, (0, 0, 0, 0, 0)), (.invokevirtual 115, (0, 0, 0, 0, 0)), (.invokestatic 119, (0, 0, 0, 0, 0)), (.ifCond .eq 53, (0, 117, 0, 0, 0)), (.aload_n 0, (0, 0, 0, 0, 0)), (.invokevirtual 115, (0, 0, 0, 0, 0)), (.bipush 48, (0, 0, 0, 48, 0)), (.isub, (0, 0, 0, 0, 0)), (.istore_n 3, (0, 0, 0, 0, 0)), (.iload_n 1, (0, 0, 0, 0, 0)), (.bipush 49, (0, 0, 0, 49, 0)), (.if_icmp .ne 9, (0, 87, 0, 0, 0)), (.iload_n 3, (0, 0, 0, 0, 0)), (.ifCond .le 5, (0, 87, 0, 0, 0)), (.iconst 0, (0, 0, 0, 0, 0)), (.ireturn, (0, 0, 0, 0, 0)), (.aload_n 0, (0, 0, 0, 0, 0)), (.dup, (0, 0, 0, 0, 0)), (.getfield 150, (1, 0, 16, 0, 0)), (.iload_n 2, (0, 0, 0, 0, 0)), (.iload_n 3, (0, 0, 0, 0, 0)), (.imul, (0, 0, 0, 0, 0)), (.iadd, (0, 0, 0, 0, 0)), (.putfield 150, (1, 0, 16, 0, 0)), (.iload_n 2, (0, 0, 0, 0, 0)), (.bipush 10, (0, 0, 0, 10, 0)), (.idiv, (0, 0, 0, 0, 0)), (.istore_n 2, (0, 0, 0, 0, 0)), (.aload_n 0, (0, 0, 0, 0, 0)), (.dup, (0, 0, 0, 0, 0)), (.getfield 108, (1, 0, 12, 0, 0)), (.iconst 1, (0, 0, 0, 1, 0)), (.iadd, (0, 0, 0, 0, 0)), (.putfield 108, (1, 0, 12, 0, 0)), (.goto (-61), (0, 53, 0, 0, 0)), (.iconst 1, (0, 0, 0, 1, 0)), (.ireturn, (0, 0, 0, 0, 0))]
theorem jc_Mo_weight : wq_c b_Mo_weight 4 j_Mo_weight 0 = true := sorry
def j_Mo_semicolon : wq_J := [(.aload_n 0, (0, 0, 0, 0, 0)), (.getfield 108, (1, 0, 12, 0, 0)), (.istore_n 1, (0, 0, 0, 0, 0)), (.aload_n 0, (0, 0, 0, 0, 0)), (.invokevirtual 156, (0, 0, 0, 0, 0)), (.aload_n 0, (0, 0, 0, 0, 0)), (.bipush 59, (0, 0, 0, 59, 0)), (.invokevirtual 153, (0, 0, 0, 0, 0)), (.ifCond .eq 9, (0, 24, 0, 0, 0)), (.aload_n 0, (0, 0, 0, 0, 0)), (.invokevirtual 156, (0, 0, 0, 0, 0)), (.iconst 1, (0, 0, 0, 1, 0)), (.ireturn, (0, 0, 0, 0, 0)), (.aload_n 0, (0, 0, 0, 0, 0)), (.iload_n 1, (0, 0, 0, 0, 0)), (.putfield 108, (1, 0, 12, 0, 0)), (.iconst 0, (0, 0, 0, 0, 0)), (.ireturn, (0, 0, 0, 0, 0))]
theorem jc_Mo_semicolon : wq_c b_Mo_semicolon 2 j_Mo_semicolon 0 = true := sorry
def j_Mo_weightIfAny : wq_J := [(.aload_n 0, (0, 0, 0, 0, 0)), (.sipush 1000, (0, 0, 0, 1000, 0)), (.putfield 150, (1, 0, 16, 0, 0)), (.aload_n 0, (0, 0, 0, 0, 0)), (.invokevirtual 159, (0, 0, 0, 0, 0)), (.ifCond .ne 5, (0, 16, 0, 0, 0)), (.iconst 1, (0, 0, 0, 1, 0)), (.ireturn, (0, 0, 0, 0, 0)), (.aload_n 0, (0, 0, 0, 0, 0)), (.invokevirtual 115, (0, 0, 0, 0, 0)), (.invokestatic 139, (0, 0, 0, 0, 0)), (.bipush 113, (0, 0, 0, 113, 0)), (.if_icmp .eq 5, (0, 30, 0, 0, 0)), (.iconst 0, (0, 0, 0, 0, 0)), (.ireturn, (0, 0, 0, 0, 0)), (.aload_n 0, (0, 0, 0, 0, 0)), (.dup, (0, 0, 0, 0, 0)), (.getfield 108, (1, 0, 12, 0, 0)), (.iconst 1, (0, 0, 0, 1, 0)), (.iadd, (0, 0, 0, 0, 0)), (.putfield 108, (1, 0, 12, 0, 0)), (.aload_n 0, (0, 0, 0, 0, 0)), (.bipush 61, (0, 0, 0, 61, 0)), (.invokevirtual 153, (0, 0, 0, 0, 0)), (.ifCond .eq 14, (0, 60, 0, 0, 0)), (.aload_n 0, (0, 0, 0, 0, 0)), (.invokevirtual 163, (0, 0, 0, 0, 0)), (.ifCond .eq 7, (0, 60, 0, 0, 0)), (.iconst 1, (0, 0, 0, 1, 0)), (.goto 4, (0, 61, 0, 0, 0)), (.iconst 0, (0, 0, 0, 0, 0)), (.ireturn, (0, 0, 0, 0, 0))]
theorem jc_Mo_weightIfAny : wq_c b_Mo_weightIfAny 1 j_Mo_weightIfAny 0 = true := sorry
def j_Mo_separator : wq_J := [(.aload_n 0, (0, 0, 0, 0, 0)), (.invokevirtual 156, (0, 0, 0, 0, 0)), (.aload_n 0, (0, 0, 0, 0, 0)), (.invokevirtual 166, (0, 0, 0, 0, 0)), (.ifCond .eq 5, (0, 13, 0, 0, 0)), (.iconst 0, (0, 0, 0, 0, 0)), (.ireturn, (0, 0, 0, 0, 0)), (.aload_n 0, (0, 0, 0, 0, 0)), (.bipush 44, (0, 0, 0, 44, 0)), (.invokevirtual 153, (0, 0, 0, 0, 0)), (.ifCond .eq 7, (0, 26, 0, 0, 0)), (.iconst 1, (0, 0, 0, 1, 0)), (.goto 4, (0, 27, 0, 0, 0)), (.iconst (-1), (0, 0, 0, (-1), 0)), (.ireturn, (0, 0, 0, 0, 0))]
theorem jc_Mo_separator : wq_c b_Mo_separator 1 j_Mo_separator 0 = true := sorry
def j_Mo_element : wq_J := [(.aload_n 0, (0, 0, 0, 0, 0)), (.invokevirtual 156, (0, 0, 0, 0, 0)), (.aload_n 0, (0, 0, 0, 0, 0)), (.bipush 44, (0, 0, 0, 44, 0)), (.invokevirtual 153, (0, 0, 0, 0, 0)), (.ifCond .eq 10, (0, 20, 0, 0, 0)), (.aload_n 0, (0, 0, 0, 0, 0)), (.invokevirtual 156, (0, 0, 0, 0, 0)), (.goto (-13), (0, 4, 0, 0, 0)), (.aload_n 0, (0, 0, 0, 0, 0)), (.invokevirtual 166, (0, 0, 0, 0, 0)), (.ifCond .ne 7, (0, 31, 0, 0, 0)), (.iconst 1, (0, 0, 0, 1, 0)), (.goto 4, (0, 32, 0, 0, 0)), (.iconst 0, (0, 0, 0, 0, 0)), (.ireturn, (0, 0, 0, 0, 0))]
theorem jc_Mo_element : wq_c b_Mo_element 1 j_Mo_element 0 = true := sorry
def j_Mo_quoted : wq_J := [(.aload_n 0, (0, 0, 0, 0, 0)), (.dup, (0, 0, 0, 0, 0)), (.getfield 108, (1, 0, 12, 0, 0)), (.iconst 1, (0, 0, 0, 1, 0)), (.iadd, (0, 0, 0, 0, 0)), (.putfield 108, (1, 0, 12, 0, 0)), (.iconst 0, (0, 0, 0, 0, 0)), (.istore_n 1, (0, 0, 0, 0, 0)), (.iconst 0, (0, 0, 0, 0, 0)), (.istore_n 2, (0, 0, 0, 0, 0)), (.aload_n 0, (0, 0, 0, 0, 0)), (.invokevirtual 115, (0, 0, 0, 0, 0)), (.bipush 34, (0, 0, 0, 34, 0)), (.if_icmp .eq 79, (0, 99, 0, 0, 0)), (.aload_n 0, (0, 0, 0, 0, 0)), (.bipush 92, (0, 0, 0, 92, 0)), (.invokevirtual 153, (0, 0, 0, 0, 0)), (.ifCond .eq 12, (0, 41, 0, 0, 0)), (.aload_n 0, (0, 0, 0, 0, 0)), (.invokevirtual 166, (0, 0, 0, 0, 0)), (.ifCond .eq 5, (0, 41, 0, 0, 0)), (.iconst 0, (0, 0, 0, 0, 0)), (.ireturn, (0, 0, 0, 0, 0)), (.aload_n 0, (0, 0, 0, 0, 0)), (.invokevirtual 115, (0, 0, 0, 0, 0)), (.istore_n 3, (0, 0, 0, 0, 0)), (.iload_n 3, (0, 0, 0, 0, 0)), (.bipush 9, (0, 0, 0, 9, 0)), (.if_icmp .eq 17, (0, 66, 0, 0, 0)), (.iload_n 3, (0, 0, 0, 0, 0)), (.bipush 32, (0, 0, 0, 32, 0)), (.if_icmp .lt 9, (0, 64, 0, 0, 0)), (.iload_n 3, (0, 0, 0, 0, 0)), (.bipush 127, (0, 0, 0, 127, 0)), (.if_icmp .ne 5, (0, 66, 0, 0, 0)), (.iconst 0, (0, 0, 0, 0, 0)), (.ireturn, (0, 0, 0, 0, 0)), (.iinc 1 1, (0, 0, 0, 1, 0)), (.iload_n 1, (0, 0, 0, 0, 0)), (.iconst 1, (0, 0, 0, 1, 0)), (.if_icmp .ne 13, (0, 84, 0, 0, 0)), (.iload_n 3, (0, 0, 0, 0, 0)), (.bipush 49, (0, 0, 0, 49, 0)), (.if_icmp .ne 7, (0, 84, 0, 0, 0)), (.iconst 1, (0, 0, 0, 1, 0)), (.goto 4, (0, 85, 0, 0, 0)), (.iconst 0, (0, 0, 0, 0, 0)), (.istore_n 2, (0, 0, 0, 0, 0)), (.aload_n 0, (0, 0, 0, 0, 0)), (.dup, (0, 0, 0, 0, 0)), (.getfield 108, (1, 0, 12, 0, 0)), (.iconst 1, (0, 0, 0, 1, 0)), (.iadd, (0, 0, 0, 0, 0)), (.putfield 108, (1, 0, 12, 0, 0)), (.goto (-82), (0, 14, 0, 0, 0)), (.aload_n 0, (0, 0, 0, 0, 0)), (.iload_n 2, (0, 0, 0, 0, 0)), (.putfield 169, (1, 0, 19, 0, 0)), (.aload_n 0, (0, 0, 0, 0, 0)), (.bipush 34, (0, 0, 0, 34, 0)), (.invokevirtual 153, (0, 0, 0, 0, 0)), (.ireturn, (0, 0, 0, 0, 0))]
theorem jc_Mo_quoted : wq_c b_Mo_quoted 4 j_Mo_quoted 0 = true := sorry
def j_Mo_assigned : wq_J := [(.aload_n 0, (0, 0, 0, 0, 0)), (.bipush 61, (0, 0, 0, 61, 0)), (.invokevirtual 153, (0, 0, 0, 0, 0)), (.ifCond .ne 5, (0, 11, 0, 0, 0)), (.iconst 0, (0, 0, 0, 0, 0)), (.ireturn, (0, 0, 0, 0, 0)), (.aload_n 0, (0, 0, 0, 0, 0)), (.invokevirtual 115, (0, 0, 0, 0, 0)), (.bipush 34, (0, 0, 0, 34, 0)), (.if_icmp .ne 8, (0, 25, 0, 0, 0)), (.aload_n 0, (0, 0, 0, 0, 0)), (.invokevirtual 173, (0, 0, 0, 0, 0)), (.ireturn, (0, 0, 0, 0, 0)), (.aload_n 0, (0, 0, 0, 0, 0)), (.invokevirtual 176, (0, 0, 0, 0, 0)), (.ifCond .ne 5, (0, 34, 0, 0, 0)), (.iconst 0, (0, 0, 0, 0, 0)), (.ireturn, (0, 0, 0, 0, 0)), (.aload_n 0, (0, 0, 0, 0, 0)), (.aload_n 0, (0, 0, 0, 0, 0)), (.getfield 132, (1, 0, 14, 0, 0)), (.aload_n 0, (0, 0, 0, 0, 0)), (.getfield 126, (1, 0, 13, 0, 0)), (.isub, (0, 0, 0, 0, 0)), (.iconst 1, (0, 0, 0, 1, 0)), (.if_icmp .ne 20, (0, 65, 0, 0, 0)), (.aload_n 0, (0, 0, 0, 0, 0)), (.aload_n 0, (0, 0, 0, 0, 0)), (.getfield 126, (1, 0, 13, 0, 0)), (.invokevirtual 111, (0, 0, 0, 0, 0)), (.bipush 49, (0, 0, 0, 49, 0)), (.if_icmp .ne 7, (0, 65, 0, 0, 0)), (.iconst 1, (0, 0, 0, 1, 0)), (.goto 4, (0, 66, 0, 0, 0)), (.iconst 0, (0, 0, 0, 0, 0)), (.putfield 169, (1, 0, 19, 0, 0)), (.iconst 1, (0, 0, 0, 1, 0)), (.ireturn, (0, 0, 0, 0, 0))]
theorem jc_Mo_assigned : wq_c b_Mo_assigned 1 j_Mo_assigned 0 = true := sorry
def j_Mo_starred : wq_J := [(.iconst 0, (0, 0, 0, 0, 0)), (.istore_n 3, (0, 0, 0, 0, 0)), (.iload_n 1, (0, 0, 0, 0, 0)), (.istore 4, (0, 0, 0, 0, 0)), (.iload 4, (0, 0, 0, 0, 0)), (.iload_n 2, (0, 0, 0, 0, 0)), (.if_icmp .ge 30, (0, 38, 0, 0, 0)), (.iload_n 3, (0, 0, 0, 0, 0)), (.ifCond .ne 14, (0, 26, 0, 0, 0)), (.aload_n 0, (0, 0, 0, 0, 0)), (.iload 4, (0, 0, 0, 0, 0)), (.invokevirtual 111, (0, 0, 0, 0, 0)), (.bipush 42, (0, 0, 0, 42, 0)), (.if_icmp .ne 7, (0, 30, 0, 0, 0)), (.iconst 1, (0, 0, 0, 1, 0)), (.goto 4, (0, 31, 0, 0, 0)), (.iconst 0, (0, 0, 0, 0, 0)), (.istore_n 3, (0, 0, 0, 0, 0)), (.iinc 4 1, (0, 0, 0, 1, 0)), (.goto (-30), (0, 5, 0, 0, 0)), (.iload_n 3, (0, 0, 0, 0, 0)), (.ireturn, (0, 0, 0, 0, 0))]
theorem jc_Mo_starred : wq_c b_Mo_starred 5 j_Mo_starred 0 = true := sorry
def j_Mo_mediaRange : wq_J := [(.aload_n 0, (0, 0, 0, 0, 0)), (.invokevirtual 176, (0, 0, 0, 0, 0)), (.ifCond .ne 5, (0, 9, 0, 0, 0)), (.iconst (-1), (0, 0, 0, (-1), 0)), (.ireturn, (0, 0, 0, 0, 0)), (.aload_n 0, (0, 0, 0, 0, 0)), (.getfield 126, (1, 0, 13, 0, 0)), (.istore_n 2, (0, 0, 0, 0, 0)), (.aload_n 0, (0, 0, 0, 0, 0)), (.getfield 132, (1, 0, 14, 0, 0)), (.istore_n 3, (0, 0, 0, 0, 0)), (.aload_n 0, (0, 0, 0, 0, 0)), (.bipush 47, (0, 0, 0, 47, 0)), (.invokevirtual 153, (0, 0, 0, 0, 0)), (.ifCond .eq 10, (0, 35, 0, 0, 0)), (.aload_n 0, (0, 0, 0, 0, 0)), (.invokevirtual 176, (0, 0, 0, 0, 0)), (.ifCond .ne 5, (0, 37, 0, 0, 0)), (.iconst (-1), (0, 0, 0, (-1), 0)), (.ireturn, (0, 0, 0, 0, 0)), (.iload_n 3, (0, 0, 0, 0, 0)), (.iload_n 2, (0, 0, 0, 0, 0)), (.isub, (0, 0, 0, 0, 0)), (.iconst 1, (0, 0, 0, 1, 0)), (.if_icmp .ne 17, (0, 58, 0, 0, 0)), (.aload_n 0, (0, 0, 0, 0, 0)), (.iload_n 2, (0, 0, 0, 0, 0)), (.invokevirtual 111, (0, 0, 0, 0, 0)), (.bipush 42, (0, 0, 0, 42, 0)), (.if_icmp .ne 7, (0, 58, 0, 0, 0)), (.iconst 1, (0, 0, 0, 1, 0)), (.goto 4, (0, 59, 0, 0, 0)), (.iconst 0, (0, 0, 0, 0, 0)), (.istore 4, (0, 0, 0, 0, 0)), (.aload_n 0, (0, 0, 0, 0, 0)), (.getfield 132, (1, 0, 14, 0, 0)), (.aload_n 0, (0, 0, 0, 0, 0)), (.getfield 126, (1, 0, 13, 0, 0)), (.isub, (0, 0, 0, 0, 0)), (.iconst 1, (0, 0, 0, 1, 0)), (.if_icmp .ne 20, (0, 91, 0, 0, 0)), (.aload_n 0, (0, 0, 0, 0, 0)), (.aload_n 0, (0, 0, 0, 0, 0)), (.getfield 126, (1, 0, 13, 0, 0)), (.invokevirtual 111, (0, 0, 0, 0, 0)), (.bipush 42, (0, 0, 0, 42, 0)), (.if_icmp .ne 7, (0, 91, 0, 0, 0)), (.iconst 1, (0, 0, 0, 1, 0)), (.goto 4, (0, 92, 0, 0, 0)), (.iconst 0, (0, 0, 0, 0, 0)), (.istore 5, (0, 0, 0, 0, 0)), (.iload 4, (0, 0, 0, 0, 0)), (.ifCond .eq 8, (0, 104, 0, 0, 0)), (.iload 5, (0, 0, 0, 0, 0)), (.ifCond .eq 37, (0, 138, 0, 0, 0)), (.iload 4, (0, 0, 0, 0, 0)), (.ifCond .ne 12, (0, 118, 0, 0, 0)), (.aload_n 0, (0, 0, 0, 0, 0)), (.iload_n 2, (0, 0, 0, 0, 0)), (.iload_n 3, (0, 0, 0, 0, 0)), (.invokevirtual 179, (0, 0, 0, 0, 0)), (.ifCond .ne 23, (0, 138, 0, 0, 0)), (.iload 5, (0, 0, 0, 0, 0)), (.ifCond .ne 20, (0, 140, 0, 0, 0)), (.aload_n 0, (0, 0, 0, 0, 0)), (.aload_n 0, (0, 0, 0, 0, 0)), (.getfield 126, (1, 0, 13, 0, 0)), (.aload_n 0, (0, 0, 0, 0, 0)), (.getfield 132, (1, 0, 14, 0, 0)), (.invokevirtual 179, (0, 0, 0, 0, 0)), (.ifCond .eq 5, (0, 140, 0, 0, 0)), (.iconst (-1), (0, 0, 0, (-1), 0)), (.ireturn, (0, 0, 0, 0, 0)), (.iload 4, (0, 0, 0, 0, 0)), (.ifCond .ne 13, (0, 155, 0, 0, 0)), (.aload_n 0, (0, 0, 0, 0, 0)), (.iload_n 2, (0, 0, 0, 0, 0)), (.iload_n 3, (0, 0, 0, 0, 0)), (.iload_n 1, (0, 0, 0, 0, 0)), (.invokevirtual 183, (0, 0, 0, 0, 0)), (.ifCond .eq 28, (0, 180, 0, 0, 0)), (.iload 5, (0, 0, 0, 0, 0)), (.ifCond .ne 19, (0, 176, 0, 0, 0)), (.aload_n 0, (0, 0, 0, 0, 0)), (.aload_n 0, (0, 0, 0, 0, 0)), (.getfield 126, (1, 0, 13, 0, 0)), (.aload_n 0, (0, 0, 0, 0, 0)), (.getfield 132, (1, 0, 14, 0, 0)), (.iload_n 1, (0, 0, 0, 0, 0)), (.invokevirtual 187, (0, 0, 0, 0, 0)), (.ifCond .eq 7, (0, 180, 0, 0, 0)), (.iconst 1, (0, 0, 0, 1, 0)), (.goto 4, (0, 181, 0, 0, 0)), (.iconst 0, (0, 0, 0, 0, 0)), (.istore 6, (0, 0, 0, 0, 0)), (.iload 4, (0, 0, 0, 0, 0)), (.ifCond .eq 7, (0, 192, 0, 0, 0)), (.iconst 0, (0, 0, 0, 0, 0)), (.goto 13, (0, 202, 0, 0, 0)), (.iload 5, (0, 0, 0, 0, 0)), (.ifCond .eq 7, (0, 201, 0, 0, 0)), (.iconst 1, (0, 0, 0, 1, 0)), (.goto 4, (0, 202, 0, 0, 0)), (.iconst 2, (0, 0, 0, 2, 0)), (.istore 7, (0, 0, 0, 0, 0)), (.aload_n 0, (0, 0, 0, 0, 0)), (.sipush 1000, (0, 0, 0, 1000, 0)), (.putfield 150, (1, 0, 16, 0, 0)), (.aload_n 0, (0, 0, 0, 0, 0)), (.invokevirtual 159, (0, 0, 0, 0, 0)), (.ifCond .eq 155, (0, 370, 0, 0, 0)), (.aload_n 0, (0, 0, 0, 0, 0)), (.invokevirtual 176, (0, 0, 0, 0, 0)), (.ifCond .ne 5, (0, 227, 0, 0, 0)), (.iconst (-1), (0, 0, 0, (-1), 0)), (.ireturn, (0, 0, 0, 0, 0)), (.aload_n 0, (0, 0, 0, 0, 0)), (.aload_n 0, (0, 0, 0, 0, 0)), (.getfield 126, (1, 0, 13, 0, 0)), (.putfield 190, (1, 0, 17, 0, 0)), (.aload_n 0, (0, 0, 0, 0, 0)), (.aload_n 0, (0, 0, 0, 0, 0)), (.getfield 132, (1, 0, 14, 0, 0)), (.putfield 193, (1, 0, 18, 0, 0)), (.aload_n 0, (0, 0, 0, 0, 0)), (.getfield 132, (1, 0, 14, 0, 0)), (.aload_n 0, (0, 0, 0, 0, 0)), (.getfield 126, (1, 0, 13, 0, 0)), (.isub, (0, 0, 0, 0, 0)), (.iconst 1, (0, 0, 0, 1, 0)), (.if_icmp .ne 56, (0, 309, 0, 0, 0)), (.aload_n 0, (0, 0, 0, 0, 0)), (.aload_n 0, (0, 0, 0, 0, 0)), (.getfield 126, (1, 0, 13, 0, 0)), (.invokevirtual 111, (0, 0, 0, 0, 0)), (.invokestatic 139, (0, 0, 0, 0, 0)), (.bipush 113, (0, 0, 0, 113, 0)), (.if_icmp .ne 40, (0, 309, 0, 0, 0)), (.aload_n 0, (0, 0, 0, 0, 0)), (.bipush 61, (0, 0, 0, 61, 0)), (.invokevirtual 153, (0, 0, 0, 0, 0)), (.ifCond .eq 29, (0, 307, 0, 0, 0)), (.aload_n 0, (0, 0, 0, 0, 0)), (.invokevirtual 163, (0, 0, 0, 0, 0)), (.ifCond .eq 22, (0, 307, 0, 0, 0)), (.bipush 8, (0, 0, 0, 8, 0)), (.iload 7, (0, 0, 0, 0, 0)), (.imul, (0, 0, 0, 0, 0)), (.iload 6, (0, 0, 0, 0, 0)), (.ifCond .eq 7, (0, 302, 0, 0, 0)), (.iconst 1, (0, 0, 0, 1, 0)), (.goto 4, (0, 303, 0, 0, 0)), (.iconst 0, (0, 0, 0, 0, 0)), (.iadd, (0, 0, 0, 0, 0)), (.goto 4, (0, 308, 0, 0, 0)), (.iconst (-1), (0, 0, 0, (-1), 0)), (.ireturn, (0, 0, 0, 0, 0)), (.aload_n 0, (0, 0, 0, 0, 0)), (.invokevirtual 196, (0, 0, 0, 0, 0)), (.ifCond .ne 5, (0, 318, 0, 0, 0)), (.iconst (-1), (0, 0, 0, (-1), 0)), (.ireturn, (0, 0, 0, 0, 0)), (.iload 6, (0, 0, 0, 0, 0)), (.ifCond .eq 41, (0, 361, 0, 0, 0)), (.iload_n 1, (0, 0, 0, 0, 0)), (.iconst 4, (0, 0, 0, 4, 0)), (.if_icmp .ne 36, (0, 361, 0, 0, 0)), (.aload_n 0, (0, 0, 0, 0, 0)), (.getfield 169, (1, 0, 19, 0, 0)), (.ifCond .eq 29, (0, 361, 0, 0, 0)), (.aload_n 0, (0, 0, 0, 0, 0)), (.aload_n 0, (0, 0, 0, 0, 0)), (.getfield 190, (1, 0, 17, 0, 0)), (.aload_n 0, (0, 0, 0, 0, 0)), (.getfield 193, (1, 0, 18, 0, 0)), (.aload_n 0, (0, 0, 0, 0, 0)), (.getfield 55, (1, 0, 30, 0, 0)), (.bipush 7, (0, 0, 0, 7, 0)), (.laload, (1, 13, 0, 0, 0)), (.invokevirtual 146, (0, 0, 0, 0, 0)), (.ifCond .eq 7, (0, 361, 0, 0, 0)), (.iconst 1, (0, 0, 0, 1, 0)), (.goto 4, (0, 362, 0, 0, 0)), (.iconst 0, (0, 0, 0, 0, 0)), (.istore 6, (0, 0, 0, 0, 0)), (.iinc 7 1, (0, 0, 0, 1, 0)), (.goto (-156), (0, 211, 0, 0, 0)), (.bipush 8, (0, 0, 0, 8, 0)), (.iload 7, (0, 0, 0, 0, 0)), (.imul, (0, 0, 0, 0, 0)), (.iload 6, (0, 0, 0, 0, 0)), (.ifCond .eq 7, (0, 384, 0, 0, 0)), (.iconst 1, (0, 0, 0, 1, 0)), (.goto 4, (0, 385, 0, 0, 0)), (.iconst 0, (0, 0, 0, 0, 0)), (.iadd, (0, 0, 0, 0, 0)), (.ireturn, (0, 0, 0, 0, 0))]
theorem jc_Mo_mediaRange : wq_c b_Mo_mediaRange 8 j_Mo_mediaRange 0 = true := sorry
def j_Mo_accepted : wq_J := [(.aload_n 0, (0, 0, 0, 0, 0)), (.iconst 0, (0, 0, 0, 0, 0)), (.invokevirtual 199, (0, 0, 0, 0, 0)), (.iconst (-1), (0, 0, 0, (-1), 0)), (.istore_n 2, (0, 0, 0, 0, 0)), (.iconst 0, (0, 0, 0, 0, 0)), (.istore_n 3, (0, 0, 0, 0, 0)), (.iconst 0, (0, 0, 0, 0, 0)), (.istore 4, (0, 0, 0, 0, 0)), (.iconst 1, (0, 0, 0, 1, 0)), (.istore 5, (0, 0, 0, 0, 0)), (.iload 5, (0, 0, 0, 0, 0)), (.iconst 1, (0, 0, 0, 1, 0)), (.if_icmp .ne 65, (0, 83, 0, 0, 0)), (.aload_n 0, (0, 0, 0, 0, 0)), (.invokevirtual 203, (0, 0, 0, 0, 0)), (.ifCond .eq 58, (0, 83, 0, 0, 0)), (.aload_n 0, (0, 0, 0, 0, 0)), (.iload_n 1, (0, 0, 0, 0, 0)), (.invokevirtual 206, (0, 0, 0, 0, 0)), (.istore 6, (0, 0, 0, 0, 0)), (.iload 6, (0, 0, 0, 0, 0)), (.ifCond .ge 5, (0, 42, 0, 0, 0)), (.iconst (-1), (0, 0, 0, (-1), 0)), (.ireturn, (0, 0, 0, 0, 0)), (.iinc 4 1, (0, 0, 0, 1, 0)), (.iload 6, (0, 0, 0, 0, 0)), (.iconst 2, (0, 0, 0, 2, 0)), (.irem, (0, 0, 0, 0, 0)), (.iconst 1, (0, 0, 0, 1, 0)), (.if_icmp .ne 17, (0, 67, 0, 0, 0)), (.iload 6, (0, 0, 0, 0, 0)), (.iload_n 2, (0, 0, 0, 0, 0)), (.if_icmp .le 11, (0, 67, 0, 0, 0)), (.iload 6, (0, 0, 0, 0, 0)), (.istore_n 2, (0, 0, 0, 0, 0)), (.aload_n 0, (0, 0, 0, 0, 0)), (.getfield 150, (1, 0, 16, 0, 0)), (.istore_n 3, (0, 0, 0, 0, 0)), (.aload_n 0, (0, 0, 0, 0, 0)), (.invokevirtual 209, (0, 0, 0, 0, 0)), (.istore 5, (0, 0, 0, 0, 0)), (.iload 5, (0, 0, 0, 0, 0)), (.ifCond .ge 5, (0, 80, 0, 0, 0)), (.iconst (-1), (0, 0, 0, (-1), 0)), (.ireturn, (0, 0, 0, 0, 0)), (.goto (-65), (0, 15, 0, 0, 0)), (.iload 4, (0, 0, 0, 0, 0)), (.ifCond .ne 7, (0, 92, 0, 0, 0)), (.iconst (-1), (0, 0, 0, (-1), 0)), (.goto 4, (0, 93, 0, 0, 0)), (.iload_n 3, (0, 0, 0, 0, 0)), (.ireturn, (0, 0, 0, 0, 0))]
theorem jc_Mo_accepted : wq_c b_Mo_accepted 7 j_Mo_accepted 0 = true := sorry
def j_Mo_tongue : wq_J := [(.aload_n 0, (0, 0, 0, 0, 0)), (.getfield 108, (1, 0, 12, 0, 0)), (.istore_n 1, (0, 0, 0, 0, 0)), (.iconst 0, (0, 0, 0, 0, 0)), (.istore_n 2, (0, 0, 0, 0, 0)), (.iconst 1, (0, 0, 0, 1, 0)), (.istore_n 3, (0, 0, 0, 0, 0)), (.iconst 1, (0, 0, 0, 1, 0)), (.istore 4, (0, 0, 0, 0, 0)), (.iload_n 3, (0, 0, 0, 0, 0)), (.ifCond .eq 93, (0, 106, 0, 0, 0)), (.aload_n 0, (0, 0, 0, 0, 0)), (.invokevirtual 115, (0, 0, 0, 0, 0)), (.invokestatic 123, (0, 0, 0, 0, 0)), (.ifCond .ne 27, (0, 50, 0, 0, 0)), (.iload 4, (0, 0, 0, 0, 0)), (.ifCond .ne 13, (0, 41, 0, 0, 0)), (.aload_n 0, (0, 0, 0, 0, 0)), (.invokevirtual 115, (0, 0, 0, 0, 0)), (.invokestatic 119, (0, 0, 0, 0, 0)), (.ifCond .ne 12, (0, 50, 0, 0, 0)), (.aload_n 0, (0, 0, 0, 0, 0)), (.invokevirtual 115, (0, 0, 0, 0, 0)), (.bipush 45, (0, 0, 0, 45, 0)), (.if_icmp .ne 59, (0, 106, 0, 0, 0)), (.aload_n 0, (0, 0, 0, 0, 0)), (.invokevirtual 115, (0, 0, 0, 0, 0)), (.bipush 45, (0, 0, 0, 45, 0)), (.if_icmp .ne 22, (0, 78, 0, 0, 0)), (.iload_n 2, (0, 0, 0, 0, 0)), (.iconst 1, (0, 0, 0, 1, 0)), (.if_icmp .lt 7, (0, 68, 0, 0, 0)), (.iconst 1, (0, 0, 0, 1, 0)), (.goto 4, (0, 69, 0, 0, 0)), (.iconst 0, (0, 0, 0, 0, 0)), (.istore_n 3, (0, 0, 0, 0, 0)), (.iconst 0, (0, 0, 0, 0, 0)), (.istore_n 2, (0, 0, 0, 0, 0)), (.iconst 0, (0, 0, 0, 0, 0)), (.istore 4, (0, 0, 0, 0, 0)), (.goto 18, (0, 93, 0, 0, 0)), (.iinc 2 1, (0, 0, 0, 1, 0)), (.iload_n 2, (0, 0, 0, 0, 0)), (.bipush 8, (0, 0, 0, 8, 0)), (.if_icmp .gt 7, (0, 91, 0, 0, 0)), (.iconst 1, (0, 0, 0, 1, 0)), (.goto 4, (0, 92, 0, 0, 0)), (.iconst 0, (0, 0, 0, 0, 0)), (.istore_n 3, (0, 0, 0, 0, 0)), (.aload_n 0, (0, 0, 0, 0, 0)), (.dup, (0, 0, 0, 0, 0)), (.getfield 108, (1, 0, 12, 0, 0)), (.iconst 1, (0, 0, 0, 1, 0)), (.iadd, (0, 0, 0, 0, 0)), (.putfield 108, (1, 0, 12, 0, 0)), (.goto (-91), (0, 12, 0, 0, 0)), (.aload_n 0, (0, 0, 0, 0, 0)), (.iload_n 1, (0, 0, 0, 0, 0)), (.putfield 126, (1, 0, 13, 0, 0)), (.aload_n 0, (0, 0, 0, 0, 0)), (.aload_n 0, (0, 0, 0, 0, 0)), (.getfield 108, (1, 0, 12, 0, 0)), (.putfield 132, (1, 0, 14, 0, 0)), (.iload_n 3, (0, 0, 0, 0, 0)), (.ifCond .eq 12, (0, 132, 0, 0, 0)), (.iload_n 2, (0, 0, 0, 0, 0)), (.iconst 1, (0, 0, 0, 1, 0)), (.if_icmp .lt 7, (0, 132, 0, 0, 0)), (.iconst 1, (0, 0, 0, 1, 0)), (.goto 4, (0, 133, 0, 0, 0)), (.iconst 0, (0, 0, 0, 0, 0)), (.ireturn, (0, 0, 0, 0, 0))]
theorem jc_Mo_tongue : wq_c b_Mo_tongue 5 j_Mo_tongue 0 = true := sorry
def j_Mo_speaks : wq_J := [(.aload_n 0, (0, 0, 0, 0, 0)), (.getfield 55, (1, 0, 30, 0, 0)), (.bipush 10, (0, 0, 0, 10, 0)), (.iload_n 1, (0, 0, 0, 0, 0)), (.iadd, (0, 0, 0, 0, 0)), (.laload, (1, 13, 0, 0, 0)), (.lstore_n 2, (0, 0, 0, 0, 0)), (.aload_n 0, (0, 0, 0, 0, 0)), (.getfield 132, (1, 0, 14, 0, 0)), (.aload_n 0, (0, 0, 0, 0, 0)), (.getfield 126, (1, 0, 13, 0, 0)), (.isub, (0, 0, 0, 0, 0)), (.istore 4, (0, 0, 0, 0, 0)), (.iload 4, (0, 0, 0, 0, 0)), (.lload_n 2, (0, 0, 0, 0, 0)), (.invokestatic 135, (0, 0, 0, 0, 0)), (.if_icmp .le 5, (0, 32, 0, 0, 0)), (.iconst 0, (0, 0, 0, 0, 0)), (.ireturn, (0, 0, 0, 0, 0)), (.iconst 0, (0, 0, 0, 0, 0)), (.istore 5, (0, 0, 0, 0, 0)), (.iload 5, (0, 0, 0, 0, 0)), (.iload 4, (0, 0, 0, 0, 0)), (.if_icmp .ge 40, (0, 79, 0, 0, 0)), (.aload_n 0, (0, 0, 0, 0, 0)), (.aload_n 0, (0, 0, 0, 0, 0)), (.getfield 126, (1, 0, 13, 0, 0)), (.iload 5, (0, 0, 0, 0, 0)), (.iadd, (0, 0, 0, 0, 0)), (.invokevirtual 111, (0, 0, 0, 0, 0)), (.invokestatic 139, (0, 0, 0, 0, 0)), (.lload_n 2, (0, 0, 0, 0, 0)), (.bipush 8, (0, 0, 0, 8, 0)), (.iload 5, (0, 0, 0, 0, 0)), (.imul, (0, 0, 0, 0, 0)), (.lshr, (0, 0, 0, 0, 0)), (.ldc2_w 103, (1, 0, 0, 0, 255)), (.land, (0, 0, 0, 0, 0)), (.l2i, (0, 0, 0, 0, 0)), (.if_icmp .eq 5, (0, 73, 0, 0, 0)), (.iconst 0, (0, 0, 0, 0, 0)), (.ireturn, (0, 0, 0, 0, 0)), (.iinc 5 1, (0, 0, 0, 1, 0)), (.goto (-41), (0, 35, 0, 0, 0)), (.iload 4, (0, 0, 0, 0, 0)), (.lload_n 2, (0, 0, 0, 0, 0)), (.invokestatic 135, (0, 0, 0, 0, 0)), (.if_icmp .eq 21, (0, 106, 0, 0, 0)), (.lload_n 2, (0, 0, 0, 0, 0)), (.bipush 8, (0, 0, 0, 8, 0)), (.iload 4, (0, 0, 0, 0, 0)), (.imul, (0, 0, 0, 0, 0)), (.lshr, (0, 0, 0, 0, 0)), (.ldc2_w 103, (1, 0, 0, 0, 255)), (.land, (0, 0, 0, 0, 0)), (.ldc2_w 212, (1, 0, 0, 0, 45)), (.lcmp, (0, 0, 0, 0, 0)), (.ifCond .ne 7, (0, 110, 0, 0, 0)), (.iconst 1, (0, 0, 0, 1, 0)), (.goto 4, (0, 111, 0, 0, 0)), (.iconst 0, (0, 0, 0, 0, 0)), (.ireturn, (0, 0, 0, 0, 0))]
theorem jc_Mo_speaks : wq_c b_Mo_speaks 6 j_Mo_speaks 0 = true := sorry
def j_Mo_spoken : wq_J := [(.aload_n 0, (0, 0, 0, 0, 0)), (.iconst 1, (0, 0, 0, 1, 0)), (.invokevirtual 199, (0, 0, 0, 0, 0)), (.iconst 0, (0, 0, 0, 0, 0)), (.istore_n 2, (0, 0, 0, 0, 0)), (.iconst 0, (0, 0, 0, 0, 0)), (.istore_n 3, (0, 0, 0, 0, 0)), (.iconst (-1), (0, 0, 0, (-1), 0)), (.istore 4, (0, 0, 0, 0, 0)), (.iconst 0, (0, 0, 0, 0, 0)), (.istore 5, (0, 0, 0, 0, 0)), (.iconst 1, (0, 0, 0, 1, 0)), (.istore 6, (0, 0, 0, 0, 0)), (.iload 6, (0, 0, 0, 0, 0)), (.iconst 1, (0, 0, 0, 1, 0)), (.if_icmp .ne 145, (0, 166, 0, 0, 0)), (.aload_n 0, (0, 0, 0, 0, 0)), (.invokevirtual 203, (0, 0, 0, 0, 0)), (.ifCond .eq 138, (0, 166, 0, 0, 0)), (.aload_n 0, (0, 0, 0, 0, 0)), (.bipush 42, (0, 0, 0, 42, 0)), (.invokevirtual 153, (0, 0, 0, 0, 0)), (.istore 7, (0, 0, 0, 0, 0)), (.iload 7, (0, 0, 0, 0, 0)), (.ifCond .ne 12, (0, 53, 0, 0, 0)), (.aload_n 0, (0, 0, 0, 0, 0)), (.invokevirtual 214, (0, 0, 0, 0, 0)), (.ifCond .ne 5, (0, 53, 0, 0, 0)), (.iconst (-1), (0, 0, 0, (-1), 0)), (.ireturn, (0, 0, 0, 0, 0)), (.iload 7, (0, 0, 0, 0, 0)), (.ifCond .eq 7, (0, 62, 0, 0, 0)), (.iconst 0, (0, 0, 0, 0, 0)), (.goto 12, (0, 71, 0, 0, 0)), (.aload_n 0, (0, 0, 0, 0, 0)), (.getfield 132, (1, 0, 14, 0, 0)), (.aload_n 0, (0, 0, 0, 0, 0)), (.getfield 126, (1, 0, 13, 0, 0)), (.isub, (0, 0, 0, 0, 0)), (.istore 8, (0, 0, 0, 0, 0)), (.iload 7, (0, 0, 0, 0, 0)), (.ifCond .ne 20, (0, 95, 0, 0, 0)), (.iload_n 1, (0, 0, 0, 0, 0)), (.iconst 5, (0, 0, 0, 5, 0)), (.if_icmp .ge 15, (0, 95, 0, 0, 0)), (.aload_n 0, (0, 0, 0, 0, 0)), (.iload_n 1, (0, 0, 0, 0, 0)), (.invokevirtual 217, (0, 0, 0, 0, 0)), (.ifCond .eq 7, (0, 95, 0, 0, 0)), (.iconst 1, (0, 0, 0, 1, 0)), (.goto 4, (0, 96, 0, 0, 0)), (.iconst 0, (0, 0, 0, 0, 0)), (.istore 9, (0, 0, 0, 0, 0)), (.aload_n 0, (0, 0, 0, 0, 0)), (.invokevirtual 220, (0, 0, 0, 0, 0)), (.ifCond .ne 5, (0, 107, 0, 0, 0)), (.iconst (-1), (0, 0, 0, (-1), 0)), (.ireturn, (0, 0, 0, 0, 0)), (.iinc 5 1, (0, 0, 0, 1, 0)), (.iload 7, (0, 0, 0, 0, 0)), (.ifCond .eq 15, (0, 127, 0, 0, 0)), (.iload 4, (0, 0, 0, 0, 0)), (.ifCond .ge 10, (0, 127, 0, 0, 0)), (.aload_n 0, (0, 0, 0, 0, 0)), (.getfield 150, (1, 0, 16, 0, 0)), (.goto 5, (0, 129, 0, 0, 0)), (.iload 4, (0, 0, 0, 0, 0)), (.istore 4, (0, 0, 0, 0, 0)), (.iload 9, (0, 0, 0, 0, 0)), (.ifCond .eq 17, (0, 150, 0, 0, 0)), (.iload 8, (0, 0, 0, 0, 0)), (.iload_n 2, (0, 0, 0, 0, 0)), (.if_icmp .le 11, (0, 150, 0, 0, 0)), (.iload 8, (0, 0, 0, 0, 0)), (.istore_n 2, (0, 0, 0, 0, 0)), (.aload_n 0, (0, 0, 0, 0, 0)), (.getfield 150, (1, 0, 16, 0, 0)), (.istore_n 3, (0, 0, 0, 0, 0)), (.aload_n 0, (0, 0, 0, 0, 0)), (.invokevirtual 209, (0, 0, 0, 0, 0)), (.istore 6, (0, 0, 0, 0, 0)), (.iload 6, (0, 0, 0, 0, 0)), (.ifCond .ge 5, (0, 163, 0, 0, 0)), (.iconst (-1), (0, 0, 0, (-1), 0)), (.ireturn, (0, 0, 0, 0, 0)), (.goto (-145), (0, 18, 0, 0, 0)), (.iload 5, (0, 0, 0, 0, 0)), (.ifCond .ne 7, (0, 175, 0, 0, 0)), (.iconst (-1), (0, 0, 0, (-1), 0)), (.goto 22, (0, 194, 0, 0, 0)), (.iload_n 2, (0, 0, 0, 0, 0)), (.ifCond .le 7, (0, 183, 0, 0, 0)), (.iload_n 3, (0, 0, 0, 0, 0)), (.goto 14, (0, 194, 0, 0, 0)), (.iload 4, (0, 0, 0, 0, 0)), (.ifCond .ge 7, (0, 192, 0, 0, 0)), (.iconst 0, (0, 0, 0, 0, 0)), (.goto 5, (0, 194, 0, 0, 0)), (.iload 4, (0, 0, 0, 0, 0)), (.ireturn, (0, 0, 0, 0, 0))]
theorem jc_Mo_spoken : wq_c b_Mo_spoken 10 j_Mo_spoken 0 = true := sorry
def j_Mo_scoreOf : wq_J := [(.aload_n 0, (0, 0, 0, 0, 0)), (.iconst 0, (0, 0, 0, 0, 0)), (.invokevirtual 223, (0, 0, 0, 0, 0)), (.ifCond .eq 16, (0, 21, 0, 0, 0)), (.aload_n 0, (0, 0, 0, 0, 0)), (.aload_n 0, (0, 0, 0, 0, 0)), (.getfield 7, (1, 0, 2, 0, 0)), (.iload_n 1, (0, 0, 0, 0, 0)), (.iaload, (1, 1, 0, 0, 0)), (.invokevirtual 226, (0, 0, 0, 0, 0)), (.goto 4, (0, 22, 0, 0, 0)), (.iconst (-1), (0, 0, 0, (-1), 0)), (.istore_n 2, (0, 0, 0, 0, 0)), (.aload_n 0, (0, 0, 0, 0, 0)), (.iconst 1, (0, 0, 0, 1, 0)), (.invokevirtual 223, (0, 0, 0, 0, 0)), (.ifCond .eq 16, (0, 44, 0, 0, 0)), (.aload_n 0, (0, 0, 0, 0, 0)), (.aload_n 0, (0, 0, 0, 0, 0)), (.getfield 13, (1, 0, 3, 0, 0)), (.iload_n 1, (0, 0, 0, 0, 0)), (.iaload, (1, 2, 0, 0, 0)), (.invokevirtual 229, (0, 0, 0, 0, 0)), (.goto 4, (0, 45, 0, 0, 0)), (.iconst (-1), (0, 0, 0, (-1), 0)), (.istore_n 3, (0, 0, 0, 0, 0)), (.iload_n 2, (0, 0, 0, 0, 0)), (.ifCond .ge 9, (0, 56, 0, 0, 0)), (.sipush 1000, (0, 0, 0, 1000, 0)), (.goto 4, (0, 57, 0, 0, 0)), (.iload_n 2, (0, 0, 0, 0, 0)), (.istore_n 2, (0, 0, 0, 0, 0)), (.iload_n 3, (0, 0, 0, 0, 0)), (.ifCond .lt 13, (0, 72, 0, 0, 0)), (.aload_n 0, (0, 0, 0, 0, 0)), (.getfield 13, (1, 0, 3, 0, 0)), (.iload_n 1, (0, 0, 0, 0, 0)), (.iaload, (1, 2, 0, 0, 0)), (.iconst 5, (0, 0, 0, 5, 0)), (.if_icmp .ne 9, (0, 78, 0, 0, 0)), (.sipush 1000, (0, 0, 0, 1000, 0)), (.goto 4, (0, 79, 0, 0, 0)), (.iload_n 3, (0, 0, 0, 0, 0)), (.istore_n 3, (0, 0, 0, 0, 0)), (.iload_n 2, (0, 0, 0, 0, 0)), (.iload_n 3, (0, 0, 0, 0, 0)), (.imul, (0, 0, 0, 0, 0)), (.ireturn, (0, 0, 0, 0, 0))]
theorem jc_Mo_scoreOf : wq_c b_Mo_scoreOf 4 j_Mo_scoreOf 0 = true := sorry
def j_Mo_tagText : wq_J := [(.aload_n 0, (0, 0, 0, 0, 0)), (.aload_n 0, (0, 0, 0, 0, 0)), (.invokevirtual 115, (0, 0, 0, 0, 0)), (.bipush 87, (0, 0, 0, 87, 0)), (.if_icmp .ne 22, (0, 29, 0, 0, 0)), (.aload_n 0, (0, 0, 0, 0, 0)), (.aload_n 0, (0, 0, 0, 0, 0)), (.getfield 108, (1, 0, 12, 0, 0)), (.iconst 1, (0, 0, 0, 1, 0)), (.iadd, (0, 0, 0, 0, 0)), (.invokevirtual 111, (0, 0, 0, 0, 0)), (.bipush 47, (0, 0, 0, 47, 0)), (.if_icmp .ne 7, (0, 29, 0, 0, 0)), (.iconst 1, (0, 0, 0, 1, 0)), (.goto 4, (0, 30, 0, 0, 0)), (.iconst 0, (0, 0, 0, 0, 0)), (.putfield 232, (1, 0, 15, 0, 0)), (.aload_n 0, (0, 0, 0, 0, 0)), (.aload_n 0, (0, 0, 0, 0, 0)), (.getfield 232, (1, 0, 15, 0, 0)), (.ifCond .eq 12, (0, 50, 0, 0, 0)), (.aload_n 0, (0, 0, 0, 0, 0)), (.getfield 108, (1, 0, 12, 0, 0)), (.iconst 2, (0, 0, 0, 2, 0)), (.iadd, (0, 0, 0, 0, 0)), (.goto 7, (0, 54, 0, 0, 0)), (.aload_n 0, (0, 0, 0, 0, 0)), (.getfield 108, (1, 0, 12, 0, 0)), (.putfield 108, (1, 0, 12, 0, 0)), (.aload_n 0, (0, 0, 0, 0, 0)), (.bipush 34, (0, 0, 0, 34, 0)), (.invokevirtual 153, (0, 0, 0, 0, 0)), (.ifCond .ne 5, (0, 68, 0, 0, 0)), (.iconst 0, (0, 0, 0, 0, 0)), (.ireturn, (0, 0, 0, 0, 0)), (.aload_n 0, (0, 0, 0, 0, 0)), (.aload_n 0, (0, 0, 0, 0, 0)), (.getfield 108, (1, 0, 12, 0, 0)), (.putfield 126, (1, 0, 13, 0, 0)), (.aload_n 0, (0, 0, 0, 0, 0)), (.invokevirtual 115, (0, 0, 0, 0, 0)), (.bipush 33, (0, 0, 0, 33, 0)), (.if_icmp .eq 31, (0, 113, 0, 0, 0)), (.aload_n 0, (0, 0, 0, 0, 0)), (.invokevirtual 115, (0, 0, 0, 0, 0)), (.bipush 35, (0, 0, 0, 35, 0)), (.if_icmp .lt 12, (0, 103, 0, 0, 0)), (.aload_n 0, (0, 0, 0, 0, 0)), (.invokevirtual 115, (0, 0, 0, 0, 0)), (.bipush 126, (0, 0, 0, 126, 0)), (.if_icmp .le 13, (0, 113, 0, 0, 0)), (.aload_n 0, (0, 0, 0, 0, 0)), (.invokevirtual 115, (0, 0, 0, 0, 0)), (.sipush 128, (0, 0, 0, 128, 0)), (.if_icmp .lt 16, (0, 126, 0, 0, 0)), (.aload_n 0, (0, 0, 0, 0, 0)), (.dup, (0, 0, 0, 0, 0)), (.getfield 108, (1, 0, 12, 0, 0)), (.iconst 1, (0, 0, 0, 1, 0)), (.iadd, (0, 0, 0, 0, 0)), (.putfield 108, (1, 0, 12, 0, 0)), (.goto (-47), (0, 76, 0, 0, 0)), (.aload_n 0, (0, 0, 0, 0, 0)), (.aload_n 0, (0, 0, 0, 0, 0)), (.getfield 108, (1, 0, 12, 0, 0)), (.putfield 132, (1, 0, 14, 0, 0)), (.aload_n 0, (0, 0, 0, 0, 0)), (.bipush 34, (0, 0, 0, 34, 0)), (.invokevirtual 153, (0, 0, 0, 0, 0)), (.ireturn, (0, 0, 0, 0, 0))]
theorem jc_Mo_tagText : wq_c b_Mo_tagText 1 j_Mo_tagText 0 = true := sorry
def j_Mo_isTagOf : wq_J := [(.aload_n 0, (0, 0, 0, 0, 0)), (.getfield 19, (1, 0, 5, 0, 0)), (.iload_n 1, (0, 0, 0, 0, 0)), (.iaload, (1, 4, 0, 0, 0)), (.bipush 10, (0, 0, 0, 10, 0)), (.if_icmp .ge 7, (0, 15, 0, 0, 0)), (.iconst 1, (0, 0, 0, 1, 0)), (.goto 35, (0, 47, 0, 0, 0)), (.aload_n 0, (0, 0, 0, 0, 0)), (.getfield 19, (1, 0, 5, 0, 0)), (.iload_n 1, (0, 0, 0, 0, 0)), (.iaload, (1, 4, 0, 0, 0)), (.bipush 100, (0, 0, 0, 100, 0)), (.if_icmp .ge 7, (0, 30, 0, 0, 0)), (.iconst 2, (0, 0, 0, 2, 0)), (.goto 20, (0, 47, 0, 0, 0)), (.aload_n 0, (0, 0, 0, 0, 0)), (.getfield 19, (1, 0, 5, 0, 0)), (.iload_n 1, (0, 0, 0, 0, 0)), (.iaload, (1, 4, 0, 0, 0)), (.sipush 1000, (0, 0, 0, 1000, 0)), (.if_icmp .ge 7, (0, 46, 0, 0, 0)), (.iconst 3, (0, 0, 0, 3, 0)), (.goto 4, (0, 47, 0, 0, 0)), (.iconst 4, (0, 0, 0, 4, 0)), (.istore_n 2, (0, 0, 0, 0, 0)), (.aload_n 0, (0, 0, 0, 0, 0)), (.getfield 132, (1, 0, 14, 0, 0)), (.aload_n 0, (0, 0, 0, 0, 0)), (.getfield 126, (1, 0, 13, 0, 0)), (.isub, (0, 0, 0, 0, 0)), (.iload_n 2, (0, 0, 0, 0, 0)), (.iconst 1, (0, 0, 0, 1, 0)), (.iadd, (0, 0, 0, 0, 0)), (.if_icmp .ne 20, (0, 80, 0, 0, 0)), (.aload_n 0, (0, 0, 0, 0, 0)), (.aload_n 0, (0, 0, 0, 0, 0)), (.getfield 126, (1, 0, 13, 0, 0)), (.invokevirtual 111, (0, 0, 0, 0, 0)), (.bipush 118, (0, 0, 0, 118, 0)), (.if_icmp .ne 7, (0, 80, 0, 0, 0)), (.iconst 1, (0, 0, 0, 1, 0)), (.goto 4, (0, 81, 0, 0, 0)), (.iconst 0, (0, 0, 0, 0, 0)), (.istore_n 3, (0, 0, 0, 0, 0)), (.aload_n 0, (0, 0, 0, 0, 0)), (.getfield 19, (1, 0, 5, 0, 0)), (.iload_n 1, (0, 0, 0, 0, 0)), (.iaload, (1, 4, 0, 0, 0)), (.istore 4, (0, 0, 0, 0, 0)), (.iload_n 2, (0, 0, 0, 0, 0)), (.istore 5, (0, 0, 0, 0, 0)), (.iload 5, (0, 0, 0, 0, 0)), (.ifCond .le 48, (0, 143, 0, 0, 0)), (.iload_n 3, (0, 0, 0, 0, 0)), (.ifCond .eq 29, (0, 128, 0, 0, 0)), (.aload_n 0, (0, 0, 0, 0, 0)), (.aload_n 0, (0, 0, 0, 0, 0)), (.getfield 126, (1, 0, 13, 0, 0)), (.iload 5, (0, 0, 0, 0, 0)), (.iadd, (0, 0, 0, 0, 0)), (.invokevirtual 111, (0, 0, 0, 0, 0)), (.bipush 48, (0, 0, 0, 48, 0)), (.iload 4, (0, 0, 0, 0, 0)), (.bipush 10, (0, 0, 0, 10, 0)), (.irem, (0, 0, 0, 0, 0)), (.iadd, (0, 0, 0, 0, 0)), (.if_icmp .ne 7, (0, 128, 0, 0, 0)), (.iconst 1, (0, 0, 0, 1, 0)), (.goto 4, (0, 129, 0, 0, 0)), (.iconst 0, (0, 0, 0, 0, 0)), (.istore_n 3, (0, 0, 0, 0, 0)), (.iload 4, (0, 0, 0, 0, 0)), (.bipush 10, (0, 0, 0, 10, 0)), (.idiv, (0, 0, 0, 0, 0)), (.istore 4, (0, 0, 0, 0, 0)), (.iinc 5 (-1), (0, 0, 0, (-1), 0)), (.goto (-47), (0, 93, 0, 0, 0)), (.iload_n 3, (0, 0, 0, 0, 0)), (.ireturn, (0, 0, 0, 0, 0))]
theorem jc_Mo_isTagOf : wq_c b_Mo_isTagOf 6 j_Mo_isTagOf 0 = true := sorry
def j_Mo_tags : wq_J := [(.aload_n 0, (0, 0, 0, 0, 0)), (.iload_n 1, (0, 0, 0, 0, 0)), (.invokevirtual 199, (0, 0, 0, 0, 0)), (.aload_n 0, (0, 0, 0, 0, 0)), (.invokevirtual 156, (0, 0, 0, 0, 0)), (.aload_n 0, (0, 0, 0, 0, 0)), (.bipush 42, (0, 0, 0, 42, 0)), (.invokevirtual 153, (0, 0, 0, 0, 0)), (.ifCond .eq 20, (0, 35, 0, 0, 0)), (.aload_n 0, (0, 0, 0, 0, 0)), (.invokevirtual 156, (0, 0, 0, 0, 0)), (.aload_n 0, (0, 0, 0, 0, 0)), (.invokevirtual 166, (0, 0, 0, 0, 0)), (.ifCond .eq 7, (0, 33, 0, 0, 0)), (.iconst 1, (0, 0, 0, 1, 0)), (.goto 4, (0, 34, 0, 0, 0)), (.iconst (-1), (0, 0, 0, (-1), 0)), (.ireturn, (0, 0, 0, 0, 0)), (.iconst 0, (0, 0, 0, 0, 0)), (.istore 4, (0, 0, 0, 0, 0)), (.iconst 0, (0, 0, 0, 0, 0)), (.istore 5, (0, 0, 0, 0, 0)), (.iconst 1, (0, 0, 0, 1, 0)), (.istore 6, (0, 0, 0, 0, 0)), (.iload 6, (0, 0, 0, 0, 0)), (.iconst 1, (0, 0, 0, 1, 0)), (.if_icmp .ne 90, (0, 137, 0, 0, 0)), (.aload_n 0, (0, 0, 0, 0, 0)), (.invokevirtual 203, (0, 0, 0, 0, 0)), (.ifCond .eq 83, (0, 137, 0, 0, 0)), (.aload_n 0, (0, 0, 0, 0, 0)), (.invokevirtual 235, (0, 0, 0, 0, 0)), (.ifCond .ne 5, (0, 66, 0, 0, 0)), (.iconst (-1), (0, 0, 0, (-1), 0)), (.ireturn, (0, 0, 0, 0, 0)), (.iinc 5 1, (0, 0, 0, 1, 0)), (.iload_n 2, (0, 0, 0, 0, 0)), (.ifCond .lt 35, (0, 105, 0, 0, 0)), (.aload_n 0, (0, 0, 0, 0, 0)), (.iload_n 2, (0, 0, 0, 0, 0)), (.invokevirtual 238, (0, 0, 0, 0, 0)), (.ifCond .eq 27, (0, 105, 0, 0, 0)), (.iload_n 3, (0, 0, 0, 0, 0)), (.ifCond .eq 19, (0, 101, 0, 0, 0)), (.aload_n 0, (0, 0, 0, 0, 0)), (.getfield 232, (1, 0, 15, 0, 0)), (.ifCond .ne 16, (0, 105, 0, 0, 0)), (.aload_n 0, (0, 0, 0, 0, 0)), (.getfield 22, (1, 0, 6, 0, 0)), (.iload_n 2, (0, 0, 0, 0, 0)), (.baload, (4, 5, 0, 0, 0)), (.ifCond .ne 7, (0, 105, 0, 0, 0)), (.iconst 1, (0, 0, 0, 1, 0)), (.goto 4, (0, 106, 0, 0, 0)), (.iconst 0, (0, 0, 0, 0, 0)), (.istore 7, (0, 0, 0, 0, 0)), (.iload 7, (0, 0, 0, 0, 0)), (.ifCond .eq 7, (0, 117, 0, 0, 0)), (.iconst 1, (0, 0, 0, 1, 0)), (.goto 5, (0, 119, 0, 0, 0)), (.iload 4, (0, 0, 0, 0, 0)), (.istore 4, (0, 0, 0, 0, 0)), (.aload_n 0, (0, 0, 0, 0, 0)), (.invokevirtual 209, (0, 0, 0, 0, 0)), (.istore 6, (0, 0, 0, 0, 0)), (.iload 6, (0, 0, 0, 0, 0)), (.ifCond .ge 5, (0, 134, 0, 0, 0)), (.iconst (-1), (0, 0, 0, (-1), 0)), (.ireturn, (0, 0, 0, 0, 0)), (.goto (-90), (0, 44, 0, 0, 0)), (.iload 5, (0, 0, 0, 0, 0)), (.ifCond .ne 7, (0, 146, 0, 0, 0)), (.iconst (-1), (0, 0, 0, (-1), 0)), (.goto 5, (0, 148, 0, 0, 0)), (.iload 4, (0, 0, 0, 0, 0)), (.ireturn, (0, 0, 0, 0, 0))]
theorem jc_Mo_tags : wq_c b_Mo_tags 8 j_Mo_tags 0 = true := sorry
def j_Mo_digits : wq_J := [(.iconst 0, (0, 0, 0, 0, 0)), (.istore_n 2, (0, 0, 0, 0, 0)), (.iconst 0, (0, 0, 0, 0, 0)), (.istore_n 3, (0, 0, 0, 0, 0)), (.iload_n 3, (0, 0, 0, 0, 0)), (.iload_n 1, (0, 0, 0, 0, 0)), (.if_icmp .ge 44, (0, 50, 0, 0, 0)), (.aload_n 0, (0, 0, 0, 0, 0)), (.invokevirtual 115, (0, 0, 0, 0, 0)), (.invokestatic 119, (0, 0, 0, 0, 0)), (.ifCond .ne 5, (0, 21, 0, 0, 0)), (.iconst (-1), (0, 0, 0, (-1), 0)), (.ireturn, (0, 0, 0, 0, 0)), (.bipush 10, (0, 0, 0, 10, 0)), (.iload_n 2, (0, 0, 0, 0, 0)), (.imul, (0, 0, 0, 0, 0)), (.aload_n 0, (0, 0, 0, 0, 0)), (.invokevirtual 115, (0, 0, 0, 0, 0)), (.iadd, (0, 0, 0, 0, 0)), (.bipush 48, (0, 0, 0, 48, 0)), (.isub, (0, 0, 0, 0, 0)), (.istore_n 2, (0, 0, 0, 0, 0)), (.aload_n 0, (0, 0, 0, 0, 0)), (.dup, (0, 0, 0, 0, 0)), (.getfield 108, (1, 0, 12, 0, 0)), (.iconst 1, (0, 0, 0, 1, 0)), (.iadd, (0, 0, 0, 0, 0)), (.putfield 108, (1, 0, 12, 0, 0)), (.iinc 3 1, (0, 0, 0, 1, 0)), (.goto (-43), (0, 4, 0, 0, 0)), (.iload_n 2, (0, 0, 0, 0, 0)), (.ireturn, (0, 0, 0, 0, 0))]
theorem jc_Mo_digits : wq_c b_Mo_digits 4 j_Mo_digits 0 = true := sorry
def j_Mo_three : wq_J := [(.aload_n 0, (0, 0, 0, 0, 0)), (.aload_n 0, (0, 0, 0, 0, 0)), (.getfield 108, (1, 0, 12, 0, 0)), (.invokevirtual 111, (0, 0, 0, 0, 0)), (.aload_n 0, (0, 0, 0, 0, 0)), (.aload_n 0, (0, 0, 0, 0, 0)), (.getfield 108, (1, 0, 12, 0, 0)), (.iconst 1, (0, 0, 0, 1, 0)), (.iadd, (0, 0, 0, 0, 0)), (.invokevirtual 111, (0, 0, 0, 0, 0)), (.bipush 8, (0, 0, 0, 8, 0)), (.ishl, (0, 0, 0, 0, 0)), (.ior, (0, 0, 0, 0, 0)), (.aload_n 0, (0, 0, 0, 0, 0)), (.aload_n 0, (0, 0, 0, 0, 0)), (.getfield 108, (1, 0, 12, 0, 0)), (.iconst 2, (0, 0, 0, 2, 0)), (.iadd, (0, 0, 0, 0, 0)), (.invokevirtual 111, (0, 0, 0, 0, 0)), (.bipush 16, (0, 0, 0, 16, 0)), (.ishl, (0, 0, 0, 0, 0)), (.ior, (0, 0, 0, 0, 0)), (.istore_n 1, (0, 0, 0, 0, 0)), (.aload_n 0, (0, 0, 0, 0, 0)), (.dup, (0, 0, 0, 0, 0)), (.getfield 108, (1, 0, 12, 0, 0)), (.iconst 3, (0, 0, 0, 3, 0)), (.iadd, (0, 0, 0, 0, 0)), (.putfield 108, (1, 0, 12, 0, 0)), (.iload_n 1, (0, 0, 0, 0, 0)), (.ireturn, (0, 0, 0, 0, 0))]
theorem jc_Mo_three : wq_c b_Mo_three 2 j_Mo_three 0 = true := sorry
def j_Mo_dayName : wq_J := [(.aload_n 0, (0, 0, 0, 0, 0)), (.invokevirtual 241, (0, 0, 0, 0, 0)), (.lookupswitch 83 #[(6579543, 74), (6649172, 72), (6910534, 78), (7237453, 70), (7238995, 68), (7627091, 80), (7694420, 76)], (0, 68, 0, 0, 0)), (.iconst 0, (0, 0, 0, 0, 0)), (.ireturn, (0, 0, 0, 0, 0)), (.iconst 1, (0, 0, 0, 1, 0)), (.ireturn, (0, 0, 0, 0, 0)), (.iconst 2, (0, 0, 0, 2, 0)), (.ireturn, (0, 0, 0, 0, 0)), (.iconst 3, (0, 0, 0, 3, 0)), (.ireturn, (0, 0, 0, 0, 0)), (.iconst 4, (0, 0, 0, 4, 0)), (.ireturn, (0, 0, 0, 0, 0)), (.iconst 5, (0, 0, 0, 5, 0)), (.ireturn, (0, 0, 0, 0, 0)), (.bipush 6, (0, 0, 0, 6, 0)), (.ireturn, (0, 0, 0, 0, 0)), (.iconst (-1), (0, 0, 0, (-1), 0)), (.ireturn, (0, 0, 0, 0, 0))]
theorem jc_Mo_dayName : wq_c b_Mo_dayName 1 j_Mo_dayName 0 = true := sorry
def j_Mo_monthName : wq_J := [(.aload_n 0, (0, 0, 0, 0, 0)), (.invokevirtual 241, (0, 0, 0, 0, 0)), (.lookupswitch 139 #[(6448454, 110), (6513988, 136), (6780225, 124), (7107914, 121), (7233866, 108), (7238986, 118), (7365971, 127), (7496013, 112), (7499841, 114), (7627599, 130), (7761742, 133), (7954765, 116)], (0, 108, 0, 0, 0)), (.iconst 1, (0, 0, 0, 1, 0)), (.ireturn, (0, 0, 0, 0, 0)), (.iconst 2, (0, 0, 0, 2, 0)), (.ireturn, (0, 0, 0, 0, 0)), (.iconst 3, (0, 0, 0, 3, 0)), (.ireturn, (0, 0, 0, 0, 0)), (.iconst 4, (0, 0, 0, 4, 0)), (.ireturn, (0, 0, 0, 0, 0)), (.iconst 5, (0, 0, 0, 5, 0)), (.ireturn, (0, 0, 0, 0, 0)), (.bipush 6, (0, 0, 0, 6, 0)), (.ireturn, (0, 0, 0, 0, 0)), (.bipush 7, (0, 0, 0, 7, 0)), (.ireturn, (0, 0, 0, 0, 0)), (.bipush 8, (0, 0, 0, 8, 0)), (.ireturn, (0, 0, 0, 0, 0)), (.bipush 9, (0, 0, 0, 9, 0)), (.ireturn, (0, 0, 0, 0, 0)), (.bipush 10, (0, 0, 0, 10, 0)), (.ireturn, (0, 0, 0, 0, 0)), (.bipush 11, (0, 0, 0, 11, 0)), (.ireturn, (0, 0, 0, 0, 0)), (.bipush 12, (0, 0, 0, 12, 0)), (.ireturn, (0, 0, 0, 0, 0)), (.iconst (-1), (0, 0, 0, (-1), 0)), (.ireturn, (0, 0, 0, 0, 0))]
theorem jc_Mo_monthName : wq_c b_Mo_monthName 1 j_Mo_monthName 0 = true := sorry
def j_Mo_restOf : wq_J := [(.iload_n 1, (0, 0, 0, 0, 0)), (.iconst 2, (0, 0, 0, 2, 0)), (.if_icmp .ne 9, (0, 11, 0, 0, 0)), (.ldc2_w 244, (1, 0, 0, 0, 2036425843)), (.goto 40, (0, 48, 0, 0, 0)), (.iload_n 1, (0, 0, 0, 0, 0)), (.iconst 3, (0, 0, 0, 3, 0)), (.if_icmp .ne 9, (0, 22, 0, 0, 0)), (.ldc2_w 246, (1, 0, 0, 0, 133459204072814)), (.goto 29, (0, 48, 0, 0, 0)), (.iload_n 1, (0, 0, 0, 0, 0)), (.iconst 4, (0, 0, 0, 4, 0)), (.if_icmp .ne 9, (0, 33, 0, 0, 0)), (.ldc2_w 248, (1, 0, 0, 0, 521325015922)), (.goto 18, (0, 48, 0, 0, 0)), (.iload_n 1, (0, 0, 0, 0, 0)), (.bipush 6, (0, 0, 0, 6, 0)), (.if_icmp .ne 9, (0, 45, 0, 0, 0)), (.ldc2_w 250, (1, 0, 0, 0, 521325015669)), (.goto 6, (0, 48, 0, 0, 0)), (.ldc2_w 252, (1, 0, 0, 0, 7954788)), (.lstore_n 2, (0, 0, 0, 0, 0)), (.iconst 1, (0, 0, 0, 1, 0)), (.istore 4, (0, 0, 0, 0, 0)), (.iconst 0, (0, 0, 0, 0, 0)), (.istore 5, (0, 0, 0, 0, 0)), (.iload 5, (0, 0, 0, 0, 0)), (.lload_n 2, (0, 0, 0, 0, 0)), (.invokestatic 135, (0, 0, 0, 0, 0)), (.if_icmp .ge 40, (0, 101, 0, 0, 0)), (.iload 4, (0, 0, 0, 0, 0)), (.ifCond .eq 26, (0, 92, 0, 0, 0)), (.aload_n 0, (0, 0, 0, 0, 0)), (.lload_n 2, (0, 0, 0, 0, 0)), (.bipush 8, (0, 0, 0, 8, 0)), (.iload 5, (0, 0, 0, 0, 0)), (.imul, (0, 0, 0, 0, 0)), (.lshr, (0, 0, 0, 0, 0)), (.ldc2_w 103, (1, 0, 0, 0, 255)), (.land, (0, 0, 0, 0, 0)), (.l2i, (0, 0, 0, 0, 0)), (.invokevirtual 153, (0, 0, 0, 0, 0)), (.ifCond .eq 7, (0, 92, 0, 0, 0)), (.iconst 1, (0, 0, 0, 1, 0)), (.goto 4, (0, 93, 0, 0, 0)), (.iconst 0, (0, 0, 0, 0, 0)), (.istore 4, (0, 0, 0, 0, 0)), (.iinc 5 1, (0, 0, 0, 1, 0)), (.goto (-43), (0, 55, 0, 0, 0)), (.iload 4, (0, 0, 0, 0, 0)), (.ireturn, (0, 0, 0, 0, 0))]
theorem jc_Mo_restOf : wq_c b_Mo_restOf 6 j_Mo_restOf 0 = true := sorry
def j_Mo_time : wq_J := [(.aload_n 0, (0, 0, 0, 0, 0)), (.iconst 2, (0, 0, 0, 2, 0)), (.invokevirtual 254, (0, 0, 0, 0, 0)), (.istore_n 1, (0, 0, 0, 0, 0)), (.aload_n 0, (0, 0, 0, 0, 0)), (.bipush 58, (0, 0, 0, 58, 0)), (.invokevirtual 153, (0, 0, 0, 0, 0)), (.istore_n 2, (0, 0, 0, 0, 0)), (.aload_n 0, (0, 0, 0, 0, 0)), (.iconst 2, (0, 0, 0, 2, 0)), (.invokevirtual 254, (0, 0, 0, 0, 0)), (.istore_n 3, (0, 0, 0, 0, 0)), (.aload_n 0, (0, 0, 0, 0, 0)), (.bipush 58, (0, 0, 0, 58, 0)), (.invokevirtual 153, (0, 0, 0, 0, 0)), (.ifCond .eq 11, (0, 36, 0, 0, 0)), (.iload_n 2, (0, 0, 0, 0, 0)), (.ifCond .eq 7, (0, 36, 0, 0, 0)), (.iconst 1, (0, 0, 0, 1, 0)), (.goto 4, (0, 37, 0, 0, 0)), (.iconst 0, (0, 0, 0, 0, 0)), (.istore_n 2, (0, 0, 0, 0, 0)), (.aload_n 0, (0, 0, 0, 0, 0)), (.iconst 2, (0, 0, 0, 2, 0)), (.invokevirtual 254, (0, 0, 0, 0, 0)), (.istore 4, (0, 0, 0, 0, 0)), (.iload_n 2, (0, 0, 0, 0, 0)), (.ifCond .eq 51, (0, 97, 0, 0, 0)), (.iload_n 1, (0, 0, 0, 0, 0)), (.ifCond .lt 47, (0, 97, 0, 0, 0)), (.iload_n 1, (0, 0, 0, 0, 0)), (.bipush 23, (0, 0, 0, 23, 0)), (.if_icmp .gt 41, (0, 97, 0, 0, 0)), (.iload_n 3, (0, 0, 0, 0, 0)), (.ifCond .lt 37, (0, 97, 0, 0, 0)), (.iload_n 3, (0, 0, 0, 0, 0)), (.bipush 59, (0, 0, 0, 59, 0)), (.if_icmp .gt 31, (0, 97, 0, 0, 0)), (.iload 4, (0, 0, 0, 0, 0)), (.ifCond .lt 26, (0, 97, 0, 0, 0)), (.iload 4, (0, 0, 0, 0, 0)), (.bipush 59, (0, 0, 0, 59, 0)), (.if_icmp .gt 19, (0, 97, 0, 0, 0)), (.sipush 3600, (0, 0, 0, 3600, 0)), (.iload_n 1, (0, 0, 0, 0, 0)), (.imul, (0, 0, 0, 0, 0)), (.bipush 60, (0, 0, 0, 60, 0)), (.iload_n 3, (0, 0, 0, 0, 0)), (.imul, (0, 0, 0, 0, 0)), (.iadd, (0, 0, 0, 0, 0)), (.iload 4, (0, 0, 0, 0, 0)), (.iadd, (0, 0, 0, 0, 0)), (.goto 4, (0, 98, 0, 0, 0)), (.iconst (-1), (0, 0, 0, (-1), 0)), (.ireturn, (0, 0, 0, 0, 0))]
theorem jc_Mo_time : wq_c b_Mo_time 5 j_Mo_time 0 = true := sorry
def j_Mo_daysOf : wq_J := [(.iload_n 0, (0, 0, 0, 0, 0)), (.iconst 2, (0, 0, 0, 2, 0)), (.if_icmp .ne 19, (0, 21, 0, 0, 0)), (.iload_n 1, (0, 0, 0, 0, 0)), (.iconst 4, (0, 0, 0, 4, 0)), (.irem, (0, 0, 0, 0, 0)), (.ifCond .ne 8, (0, 16, 0, 0, 0)), (.bipush 29, (0, 0, 0, 29, 0)), (.goto 38, (0, 51, 0, 0, 0)), (.bipush 28, (0, 0, 0, 28, 0)), (.goto 33, (0, 51, 0, 0, 0)), (.iload_n 0, (0, 0, 0, 0, 0)), (.iconst 4, (0, 0, 0, 4, 0)), (.if_icmp .eq 21, (0, 44, 0, 0, 0)), (.iload_n 0, (0, 0, 0, 0, 0)), (.bipush 6, (0, 0, 0, 6, 0)), (.if_icmp .eq 15, (0, 44, 0, 0, 0)), (.iload_n 0, (0, 0, 0, 0, 0)), (.bipush 9, (0, 0, 0, 9, 0)), (.if_icmp .eq 9, (0, 44, 0, 0, 0)), (.iload_n 0, (0, 0, 0, 0, 0)), (.bipush 11, (0, 0, 0, 11, 0)), (.if_icmp .ne 8, (0, 49, 0, 0, 0)), (.bipush 30, (0, 0, 0, 30, 0)), (.goto 5, (0, 51, 0, 0, 0)), (.bipush 31, (0, 0, 0, 31, 0)), (.ireturn, (0, 0, 0, 0, 0))]
theorem jc_Mo_daysOf : wq_c b_Mo_daysOf 2 j_Mo_daysOf 0 = true := sorry
def j_Mo_yearOf : wq_J := [(.sipush 1970, (0, 0, 0, 1970, 0)), (.istore_n 2, (0, 0, 0, 0, 0)), (.lload_n 0, (0, 0, 0, 0, 0)), (.ldc2_w 257, (1, 0, 0, 0, 86400)), (.ldiv, (0, 0, 0, 0, 0)), (.lstore_n 3, (0, 0, 0, 0, 0)), (.lload_n 3, (0, 0, 0, 0, 0)), (.iload_n 2, (0, 0, 0, 0, 0)), (.iconst 4, (0, 0, 0, 4, 0)), (.irem, (0, 0, 0, 0, 0)), (.ifCond .ne 9, (0, 23, 0, 0, 0)), (.sipush 366, (0, 0, 0, 366, 0)), (.goto 6, (0, 26, 0, 0, 0)), (.sipush 365, (0, 0, 0, 365, 0)), (.i2l, (0, 0, 0, 0, 0)), (.lcmp, (0, 0, 0, 0, 0)), (.ifCond .lt 27, (0, 55, 0, 0, 0)), (.lload_n 3, (0, 0, 0, 0, 0)), (.iload_n 2, (0, 0, 0, 0, 0)), (.iconst 4, (0, 0, 0, 4, 0)), (.irem, (0, 0, 0, 0, 0)), (.ifCond .ne 9, (0, 44, 0, 0, 0)), (.ldc2_w 259, (1, 0, 0, 0, 366)), (.goto 6, (0, 47, 0, 0, 0)), (.ldc2_w 261, (1, 0, 0, 0, 365)), (.lsub, (0, 0, 0, 0, 0)), (.lstore_n 3, (0, 0, 0, 0, 0)), (.iinc 2 1, (0, 0, 0, 1, 0)), (.goto (-42), (0, 10, 0, 0, 0)), (.iload_n 2, (0, 0, 0, 0, 0)), (.ireturn, (0, 0, 0, 0, 0))]
theorem jc_Mo_yearOf : wq_c b_Mo_yearOf 5 j_Mo_yearOf 0 = true := sorry
def j_Mo_secondsOf : wq_J := [(.iload_n 0, (0, 0, 0, 0, 0)), (.sipush 1970, (0, 0, 0, 1970, 0)), (.if_icmp .lt 33, (0, 37, 0, 0, 0)), (.iload_n 0, (0, 0, 0, 0, 0)), (.sipush 2099, (0, 0, 0, 2099, 0)), (.if_icmp .gt 26, (0, 37, 0, 0, 0)), (.iload_n 1, (0, 0, 0, 0, 0)), (.iconst 1, (0, 0, 0, 1, 0)), (.if_icmp .lt 21, (0, 37, 0, 0, 0)), (.iload_n 2, (0, 0, 0, 0, 0)), (.iconst 1, (0, 0, 0, 1, 0)), (.if_icmp .lt 16, (0, 37, 0, 0, 0)), (.iload_n 2, (0, 0, 0, 0, 0)), (.iload_n 1, (0, 0, 0, 0, 0)), (.iload_n 0, (0, 0, 0, 0, 0)), (.invokestatic 263, (0, 0, 0, 0, 0)), (.if_icmp .gt 7, (0, 37, 0, 0, 0)), (.iload_n 3, (0, 0, 0, 0, 0)), (.ifCond .ge 7, (0, 41, 0, 0, 0)), (.ldc2_w 267, (1, 0, 0, 0, (-1))), (.lreturn, (0, 0, 0, 0, 0)), (.iload_n 2, (0, 0, 0, 0, 0)), (.iconst 1, (0, 0, 0, 1, 0)), (.isub, (0, 0, 0, 0, 0)), (.i2l, (0, 0, 0, 0, 0)), (.lstore 4, (0, 0, 0, 0, 0)), (.sipush 1970, (0, 0, 0, 1970, 0)), (.istore 6, (0, 0, 0, 0, 0)), (.iload 6, (0, 0, 0, 0, 0)), (.iload_n 0, (0, 0, 0, 0, 0)), (.if_icmp .ge 30, (0, 85, 0, 0, 0)), (.lload 4, (0, 0, 0, 0, 0)), (.iload 6, (0, 0, 0, 0, 0)), (.iconst 4, (0, 0, 0, 4, 0)), (.irem, (0, 0, 0, 0, 0)), (.ifCond .ne 9, (0, 73, 0, 0, 0)), (.ldc2_w 259, (1, 0, 0, 0, 366)), (.goto 6, (0, 76, 0, 0, 0)), (.ldc2_w 261, (1, 0, 0, 0, 365)), (.ladd, (0, 0, 0, 0, 0)), (.lstore 4, (0, 0, 0, 0, 0)), (.iinc 6 1, (0, 0, 0, 1, 0)), (.goto (-30), (0, 52, 0, 0, 0)), (.iconst 1, (0, 0, 0, 1, 0)), (.istore 6, (0, 0, 0, 0, 0)), (.iload 6, (0, 0, 0, 0, 0)), (.iload_n 1, (0, 0, 0, 0, 0)), (.if_icmp .ge 21, (0, 112, 0, 0, 0)), (.lload 4, (0, 0, 0, 0, 0)), (.iload 6, (0, 0, 0, 0, 0)), (.iload_n 0, (0, 0, 0, 0, 0)), (.invokestatic 263, (0, 0, 0, 0, 0)), (.i2l, (0, 0, 0, 0, 0)), (.ladd, (0, 0, 0, 0, 0)), (.lstore 4, (0, 0, 0, 0, 0)), (.iinc 6 1, (0, 0, 0, 1, 0)), (.goto (-21), (0, 88, 0, 0, 0)), (.ldc2_w 257, (1, 0, 0, 0, 86400)), (.lload 4, (0, 0, 0, 0, 0)), (.lmul, (0, 0, 0, 0, 0)), (.iload_n 3, (0, 0, 0, 0, 0)), (.i2l, (0, 0, 0, 0, 0)), (.ladd, (0, 0, 0, 0, 0)), (.lreturn, (0, 0, 0, 0, 0))]
theorem jc_Mo_secondsOf : wq_c b_Mo_secondsOf 7 j_Mo_secondsOf 0 = true := sorry
def j_Mo_shortYear : wq_J := [(.aload_n 0, (0, 0, 0, 0, 0)), (.getfield 62, (1, 0, 0, 0, 0)), (.invokestatic 269, (0, 0, 0, 0, 0)), (.bipush 50, (0, 0, 0, 50, 0)), (.iadd, (0, 0, 0, 0, 0)), (.sipush 2099, (0, 0, 0, 2099, 0)), (.if_icmp .le 9, (0, 22, 0, 0, 0)), (.sipush 2099, (0, 0, 0, 2099, 0)), (.goto 13, (0, 32, 0, 0, 0)), (.aload_n 0, (0, 0, 0, 0, 0)), (.getfield 62, (1, 0, 0, 0, 0)), (.invokestatic 269, (0, 0, 0, 0, 0)), (.bipush 50, (0, 0, 0, 50, 0)), (.iadd, (0, 0, 0, 0, 0)), (.istore_n 2, (0, 0, 0, 0, 0)), (.iload_n 2, (0, 0, 0, 0, 0)), (.sipush 1970, (0, 0, 0, 1970, 0)), (.if_icmp .lt 17, (0, 54, 0, 0, 0)), (.iload_n 2, (0, 0, 0, 0, 0)), (.bipush 100, (0, 0, 0, 100, 0)), (.irem, (0, 0, 0, 0, 0)), (.iload_n 1, (0, 0, 0, 0, 0)), (.if_icmp .eq 9, (0, 54, 0, 0, 0)), (.iinc 2 (-1), (0, 0, 0, (-1), 0)), (.goto (-18), (0, 33, 0, 0, 0)), (.iload_n 1, (0, 0, 0, 0, 0)), (.ifCond .lt 10, (0, 65, 0, 0, 0)), (.iload_n 2, (0, 0, 0, 0, 0)), (.sipush 1970, (0, 0, 0, 1970, 0)), (.if_icmp .ge 7, (0, 69, 0, 0, 0)), (.iconst (-1), (0, 0, 0, (-1), 0)), (.goto 4, (0, 70, 0, 0, 0)), (.iload_n 2, (0, 0, 0, 0, 0)), (.ireturn, (0, 0, 0, 0, 0))]
theorem jc_Mo_shortYear : wq_c b_Mo_shortYear 3 j_Mo_shortYear 0 = true := sorry
def j_Mo_zone : wq_J := [(.aload_n 0, (0, 0, 0, 0, 0)), (.bipush 32, (0, 0, 0, 32, 0)), (.invokevirtual 153, (0, 0, 0, 0, 0)), (.ifCond .eq 34, (0, 40, 0, 0, 0)), (.aload_n 0, (0, 0, 0, 0, 0)), (.bipush 71, (0, 0, 0, 71, 0)), (.invokevirtual 153, (0, 0, 0, 0, 0)), (.ifCond .eq 25, (0, 40, 0, 0, 0)), (.aload_n 0, (0, 0, 0, 0, 0)), (.bipush 77, (0, 0, 0, 77, 0)), (.invokevirtual 153, (0, 0, 0, 0, 0)), (.ifCond .eq 16, (0, 40, 0, 0, 0)), (.aload_n 0, (0, 0, 0, 0, 0)), (.bipush 84, (0, 0, 0, 84, 0)), (.invokevirtual 153, (0, 0, 0, 0, 0)), (.ifCond .eq 7, (0, 40, 0, 0, 0)), (.iconst 1, (0, 0, 0, 1, 0)), (.goto 4, (0, 41, 0, 0, 0)), (.iconst 0, (0, 0, 0, 0, 0)), (.ireturn, (0, 0, 0, 0, 0))]
theorem jc_Mo_zone : wq_c b_Mo_zone 1 j_Mo_zone 0 = true := sorry
def j_Mo_paddedDay : wq_J := [(.aload_n 0, (0, 0, 0, 0, 0)), (.bipush 32, (0, 0, 0, 32, 0)), (.invokevirtual 153, (0, 0, 0, 0, 0)), (.ifCond .eq 9, (0, 15, 0, 0, 0)), (.aload_n 0, (0, 0, 0, 0, 0)), (.iconst 1, (0, 0, 0, 1, 0)), (.invokevirtual 254, (0, 0, 0, 0, 0)), (.ireturn, (0, 0, 0, 0, 0)), (.aload_n 0, (0, 0, 0, 0, 0)), (.iconst 2, (0, 0, 0, 2, 0)), (.invokevirtual 254, (0, 0, 0, 0, 0)), (.istore_n 1, (0, 0, 0, 0, 0)), (.iload_n 1, (0, 0, 0, 0, 0)), (.bipush 10, (0, 0, 0, 10, 0)), (.if_icmp .ge 7, (0, 31, 0, 0, 0)), (.iconst (-1), (0, 0, 0, (-1), 0)), (.goto 4, (0, 32, 0, 0, 0)), (.iload_n 1, (0, 0, 0, 0, 0)), (.ireturn, (0, 0, 0, 0, 0))]
theorem jc_Mo_paddedDay : wq_c b_Mo_paddedDay 2 j_Mo_paddedDay 0 = true := sorry
def j_Mo_dateBehind : wq_J := [(.iconst 1, (0, 0, 0, 1, 0)), (.istore_n 2, (0, 0, 0, 0, 0)), (.aload_n 0, (0, 0, 0, 0, 0)), (.invokevirtual 115, (0, 0, 0, 0, 0)), (.bipush 32, (0, 0, 0, 32, 0)), (.if_icmp .ne 85, (0, 93, 0, 0, 0)), (.aload_n 0, (0, 0, 0, 0, 0)), (.dup, (0, 0, 0, 0, 0)), (.getfield 108, (1, 0, 12, 0, 0)), (.iconst 1, (0, 0, 0, 1, 0)), (.iadd, (0, 0, 0, 0, 0)), (.putfield 108, (1, 0, 12, 0, 0)), (.aload_n 0, (0, 0, 0, 0, 0)), (.invokevirtual 272, (0, 0, 0, 0, 0)), (.istore 4, (0, 0, 0, 0, 0)), (.aload_n 0, (0, 0, 0, 0, 0)), (.bipush 32, (0, 0, 0, 32, 0)), (.invokevirtual 153, (0, 0, 0, 0, 0)), (.istore_n 2, (0, 0, 0, 0, 0)), (.aload_n 0, (0, 0, 0, 0, 0)), (.invokevirtual 275, (0, 0, 0, 0, 0)), (.istore_n 3, (0, 0, 0, 0, 0)), (.aload_n 0, (0, 0, 0, 0, 0)), (.bipush 32, (0, 0, 0, 32, 0)), (.invokevirtual 153, (0, 0, 0, 0, 0)), (.ifCond .eq 11, (0, 56, 0, 0, 0)), (.iload_n 2, (0, 0, 0, 0, 0)), (.ifCond .eq 7, (0, 56, 0, 0, 0)), (.iconst 1, (0, 0, 0, 1, 0)), (.goto 4, (0, 57, 0, 0, 0)), (.iconst 0, (0, 0, 0, 0, 0)), (.istore_n 2, (0, 0, 0, 0, 0)), (.aload_n 0, (0, 0, 0, 0, 0)), (.invokevirtual 278, (0, 0, 0, 0, 0)), (.istore 6, (0, 0, 0, 0, 0)), (.aload_n 0, (0, 0, 0, 0, 0)), (.bipush 32, (0, 0, 0, 32, 0)), (.invokevirtual 153, (0, 0, 0, 0, 0)), (.ifCond .eq 11, (0, 81, 0, 0, 0)), (.iload_n 2, (0, 0, 0, 0, 0)), (.ifCond .eq 7, (0, 81, 0, 0, 0)), (.iconst 1, (0, 0, 0, 1, 0)), (.goto 4, (0, 82, 0, 0, 0)), (.iconst 0, (0, 0, 0, 0, 0)), (.istore_n 2, (0, 0, 0, 0, 0)), (.aload_n 0, (0, 0, 0, 0, 0)), (.iconst 4, (0, 0, 0, 4, 0)), (.invokevirtual 254, (0, 0, 0, 0, 0)), (.istore 5, (0, 0, 0, 0, 0)), (.goto 192, (0, 282, 0, 0, 0)), (.aload_n 0, (0, 0, 0, 0, 0)), (.invokevirtual 115, (0, 0, 0, 0, 0)), (.bipush 44, (0, 0, 0, 44, 0)), (.if_icmp .eq 7, (0, 106, 0, 0, 0)), (.iconst 1, (0, 0, 0, 1, 0)), (.goto 4, (0, 107, 0, 0, 0)), (.iconst 0, (0, 0, 0, 0, 0)), (.istore 7, (0, 0, 0, 0, 0)), (.iload 7, (0, 0, 0, 0, 0)), (.ifCond .eq 11, (0, 122, 0, 0, 0)), (.aload_n 0, (0, 0, 0, 0, 0)), (.iload_n 1, (0, 0, 0, 0, 0)), (.invokevirtual 281, (0, 0, 0, 0, 0)), (.ifCond .eq 25, (0, 144, 0, 0, 0)), (.aload_n 0, (0, 0, 0, 0, 0)), (.bipush 44, (0, 0, 0, 44, 0)), (.invokevirtual 153, (0, 0, 0, 0, 0)), (.ifCond .eq 16, (0, 144, 0, 0, 0)), (.aload_n 0, (0, 0, 0, 0, 0)), (.bipush 32, (0, 0, 0, 32, 0)), (.invokevirtual 153, (0, 0, 0, 0, 0)), (.ifCond .eq 7, (0, 144, 0, 0, 0)), (.iconst 1, (0, 0, 0, 1, 0)), (.goto 4, (0, 145, 0, 0, 0)), (.iconst 0, (0, 0, 0, 0, 0)), (.istore_n 2, (0, 0, 0, 0, 0)), (.aload_n 0, (0, 0, 0, 0, 0)), (.iconst 2, (0, 0, 0, 2, 0)), (.invokevirtual 254, (0, 0, 0, 0, 0)), (.istore_n 3, (0, 0, 0, 0, 0)), (.aload_n 0, (0, 0, 0, 0, 0)), (.iload 7, (0, 0, 0, 0, 0)), (.ifCond .eq 8, (0, 163, 0, 0, 0)), (.bipush 45, (0, 0, 0, 45, 0)), (.goto 5, (0, 165, 0, 0, 0)), (.bipush 32, (0, 0, 0, 32, 0)), (.invokevirtual 153, (0, 0, 0, 0, 0)), (.ifCond .eq 11, (0, 179, 0, 0, 0)), (.iload_n 2, (0, 0, 0, 0, 0)), (.ifCond .eq 7, (0, 179, 0, 0, 0)), (.iconst 1, (0, 0, 0, 1, 0)), (.goto 4, (0, 180, 0, 0, 0)), (.iconst 0, (0, 0, 0, 0, 0)), (.istore_n 2, (0, 0, 0, 0, 0)), (.aload_n 0, (0, 0, 0, 0, 0)), (.invokevirtual 272, (0, 0, 0, 0, 0)), (.istore 4, (0, 0, 0, 0, 0)), (.aload_n 0, (0, 0, 0, 0, 0)), (.iload 7, (0, 0, 0, 0, 0)), (.ifCond .eq 8, (0, 198, 0, 0, 0)), (.bipush 45, (0, 0, 0, 45, 0)), (.goto 5, (0, 200, 0, 0, 0)), (.bipush 32, (0, 0, 0, 32, 0)), (.invokevirtual 153, (0, 0, 0, 0, 0)), (.ifCond .eq 11, (0, 214, 0, 0, 0)), (.iload_n 2, (0, 0, 0, 0, 0)), (.ifCond .eq 7, (0, 214, 0, 0, 0)), (.iconst 1, (0, 0, 0, 1, 0)), (.goto 4, (0, 215, 0, 0, 0)), (.iconst 0, (0, 0, 0, 0, 0)), (.istore_n 2, (0, 0, 0, 0, 0)), (.iload 7, (0, 0, 0, 0, 0)), (.ifCond .eq 15, (0, 233, 0, 0, 0)), (.aload_n 0, (0, 0, 0, 0, 0)), (.aload_n 0, (0, 0, 0, 0, 0)), (.iconst 2, (0, 0, 0, 2, 0)), (.invokevirtual 254, (0, 0, 0, 0, 0)), (.invokevirtual 284, (0, 0, 0, 0, 0)), (.goto 8, (0, 238, 0, 0, 0)), (.aload_n 0, (0, 0, 0, 0, 0)), (.iconst 4, (0, 0, 0, 4, 0)), (.invokevirtual 254, (0, 0, 0, 0, 0)), (.istore 5, (0, 0, 0, 0, 0)), (.aload_n 0, (0, 0, 0, 0, 0)), (.bipush 32, (0, 0, 0, 32, 0)), (.invokevirtual 153, (0, 0, 0, 0, 0)), (.ifCond .eq 11, (0, 257, 0, 0, 0)), (.iload_n 2, (0, 0, 0, 0, 0)), (.ifCond .eq 7, (0, 257, 0, 0, 0)), (.iconst 1, (0, 0, 0, 1, 0)), (.goto 4, (0, 258, 0, 0, 0)), (.iconst 0, (0, 0, 0, 0, 0)), (.istore_n 2, (0, 0, 0, 0, 0)), (.aload_n 0, (0, 0, 0, 0, 0)), (.invokevirtual 278, (0, 0, 0, 0, 0)), (.istore 6, (0, 0, 0, 0, 0)), (.aload_n 0, (0, 0, 0, 0, 0)), (.invokevirtual 287, (0, 0, 0, 0, 0)), (.ifCond .eq 11, (0, 280, 0, 0, 0)), (.iload_n 2, (0, 0, 0, 0, 0)), (.ifCond .eq 7, (0, 280, 0, 0, 0)), (.iconst 1, (0, 0, 0, 1, 0)), (.goto 4, (0, 281, 0, 0, 0)), (.iconst 0, (0, 0, 0, 0, 0)), (.istore_n 2, (0, 0, 0, 0, 0)), (.iload_n 2, (0, 0, 0, 0, 0)), (.ifCond .eq 16, (0, 299, 0, 0, 0)), (.iload 5, (0, 0, 0, 0, 0)), (.iload 4, (0, 0, 0, 0, 0)), (.iload_n 3, (0, 0, 0, 0, 0)), (.iload 6, (0, 0, 0, 0, 0)), (.invokestatic 290, (0, 0, 0, 0, 0)), (.goto 6, (0, 302, 0, 0, 0)), (.ldc2_w 267, (1, 0, 0, 0, (-1))), (.lreturn, (0, 0, 0, 0, 0))]
theorem jc_Mo_dateBehind : wq_c b_Mo_dateBehind 8 j_Mo_dateBehind 0 = true := sorry
def j_Mo_dateOf : wq_J := [(.aload_n 0, (0, 0, 0, 0, 0)), (.iload_n 1, (0, 0, 0, 0, 0)), (.invokevirtual 199, (0, 0, 0, 0, 0)), (.aload_n 0, (0, 0, 0, 0, 0)), (.invokevirtual 156, (0, 0, 0, 0, 0)), (.aload_n 0, (0, 0, 0, 0, 0)), (.invokevirtual 294, (0, 0, 0, 0, 0)), (.istore_n 2, (0, 0, 0, 0, 0)), (.iload_n 2, (0, 0, 0, 0, 0)), (.ifCond .ge 7, (0, 22, 0, 0, 0)), (.ldc2_w 267, (1, 0, 0, 0, (-1))), (.lreturn, (0, 0, 0, 0, 0)), (.aload_n 0, (0, 0, 0, 0, 0)), (.iload_n 2, (0, 0, 0, 0, 0)), (.invokevirtual 297, (0, 0, 0, 0, 0)), (.lstore_n 3, (0, 0, 0, 0, 0)), (.aload_n 0, (0, 0, 0, 0, 0)), (.invokevirtual 156, (0, 0, 0, 0, 0)), (.aload_n 0, (0, 0, 0, 0, 0)), (.invokevirtual 166, (0, 0, 0, 0, 0)), (.ifCond .eq 23, (0, 59, 0, 0, 0)), (.aload_n 0, (0, 0, 0, 0, 0)), (.getfield 108, (1, 0, 12, 0, 0)), (.aload_n 0, (0, 0, 0, 0, 0)), (.getfield 33, (1, 0, 10, 0, 0)), (.aload_n 0, (0, 0, 0, 0, 0)), (.getfield 105, (1, 0, 11, 0, 0)), (.iaload, (1, 8, 0, 0, 0)), (.if_icmp .ne 7, (0, 59, 0, 0, 0)), (.lload_n 3, (0, 0, 0, 0, 0)), (.goto 6, (0, 62, 0, 0, 0)), (.ldc2_w 267, (1, 0, 0, 0, (-1))), (.lreturn, (0, 0, 0, 0, 0))]
theorem jc_Mo_dateOf : wq_c b_Mo_dateOf 5 j_Mo_dateOf 0 = true := sorry
def j_Mo_many : wq_J := [(.aload_n 0, (0, 0, 0, 0, 0)), (.getfield 108, (1, 0, 12, 0, 0)), (.istore_n 1, (0, 0, 0, 0, 0)), (.iconst 0, (0, 0, 0, 0, 0)), (.istore_n 2, (0, 0, 0, 0, 0)), (.aload_n 0, (0, 0, 0, 0, 0)), (.invokevirtual 115, (0, 0, 0, 0, 0)), (.invokestatic 119, (0, 0, 0, 0, 0)), (.ifCond .eq 46, (0, 60, 0, 0, 0)), (.aload_n 0, (0, 0, 0, 0, 0)), (.getfield 108, (1, 0, 12, 0, 0)), (.iload_n 1, (0, 0, 0, 0, 0)), (.isub, (0, 0, 0, 0, 0)), (.bipush 9, (0, 0, 0, 9, 0)), (.if_icmp .ge 18, (0, 43, 0, 0, 0)), (.bipush 10, (0, 0, 0, 10, 0)), (.iload_n 2, (0, 0, 0, 0, 0)), (.imul, (0, 0, 0, 0, 0)), (.aload_n 0, (0, 0, 0, 0, 0)), (.invokevirtual 115, (0, 0, 0, 0, 0)), (.iadd, (0, 0, 0, 0, 0)), (.bipush 48, (0, 0, 0, 48, 0)), (.isub, (0, 0, 0, 0, 0)), (.goto 6, (0, 46, 0, 0, 0)), (.ldc_w 301, (1, 0, 0, 999999999, 0)), (.istore_n 2, (0, 0, 0, 0, 0)), (.aload_n 0, (0, 0, 0, 0, 0)), (.dup, (0, 0, 0, 0, 0)), (.getfield 108, (1, 0, 12, 0, 0)), (.iconst 1, (0, 0, 0, 1, 0)), (.iadd, (0, 0, 0, 0, 0)), (.putfield 108, (1, 0, 12, 0, 0)), (.goto (-50), (0, 7, 0, 0, 0)), (.aload_n 0, (0, 0, 0, 0, 0)), (.getfield 108, (1, 0, 12, 0, 0)), (.iload_n 1, (0, 0, 0, 0, 0)), (.if_icmp .ne 7, (0, 72, 0, 0, 0)), (.iconst (-1), (0, 0, 0, (-1), 0)), (.goto 4, (0, 73, 0, 0, 0)), (.iload_n 2, (0, 0, 0, 0, 0)), (.ireturn, (0, 0, 0, 0, 0))]
theorem jc_Mo_many : wq_c b_Mo_many 3 j_Mo_many 0 = true := sorry
def j_Mo_spec : wq_J := [(.aload_n 0, (0, 0, 0, 0, 0)), (.invokevirtual 302, (0, 0, 0, 0, 0)), (.istore_n 1, (0, 0, 0, 0, 0)), (.aload_n 0, (0, 0, 0, 0, 0)), (.bipush 45, (0, 0, 0, 45, 0)), (.invokevirtual 153, (0, 0, 0, 0, 0)), (.ifCond .ne 5, (0, 16, 0, 0, 0)), (.iconst 0, (0, 0, 0, 0, 0)), (.ireturn, (0, 0, 0, 0, 0)), (.aload_n 0, (0, 0, 0, 0, 0)), (.invokevirtual 302, (0, 0, 0, 0, 0)), (.istore_n 2, (0, 0, 0, 0, 0)), (.iload_n 1, (0, 0, 0, 0, 0)), (.ifCond .ge 10, (0, 32, 0, 0, 0)), (.iload_n 2, (0, 0, 0, 0, 0)), (.ifCond .ge 17, (0, 43, 0, 0, 0)), (.goto 12, (0, 41, 0, 0, 0)), (.iload_n 2, (0, 0, 0, 0, 0)), (.ifCond .lt 10, (0, 43, 0, 0, 0)), (.iload_n 2, (0, 0, 0, 0, 0)), (.iload_n 1, (0, 0, 0, 0, 0)), (.if_icmp .ge 5, (0, 43, 0, 0, 0)), (.iconst 0, (0, 0, 0, 0, 0)), (.ireturn, (0, 0, 0, 0, 0)), (.aload_n 0, (0, 0, 0, 0, 0)), (.getfield 36, (1, 0, 21, 0, 0)), (.aload_n 0, (0, 0, 0, 0, 0)), (.getfield 305, (1, 0, 20, 0, 0)), (.iload_n 1, (0, 0, 0, 0, 0)), (.iastore, (1, 9, 0, 0, 0)), (.aload_n 0, (0, 0, 0, 0, 0)), (.getfield 39, (1, 0, 22, 0, 0)), (.aload_n 0, (0, 0, 0, 0, 0)), (.getfield 305, (1, 0, 20, 0, 0)), (.iload_n 2, (0, 0, 0, 0, 0)), (.iastore, (1, 10, 0, 0, 0)), (.aload_n 0, (0, 0, 0, 0, 0)), (.dup, (0, 0, 0, 0, 0)), (.getfield 305, (1, 0, 20, 0, 0)), (.iconst 1, (0, 0, 0, 1, 0)), (.iadd, (0, 0, 0, 0, 0)), (.putfield 305, (1, 0, 20, 0, 0)), (.iconst 1, (0, 0, 0, 1, 0)), (.ireturn, (0, 0, 0, 0, 0))]
theorem jc_Mo_spec : wq_c b_Mo_spec 3 j_Mo_spec 0 = true := sorry
def j_Mo_ranges : wq_J := [(.aload_n 0, (0, 0, 0, 0, 0)), (.bipush 7, (0, 0, 0, 7, 0)), (.invokevirtual 199, (0, 0, 0, 0, 0)), (.aload_n 0, (0, 0, 0, 0, 0)), (.iconst 0, (0, 0, 0, 0, 0)), (.putfield 305, (1, 0, 20, 0, 0)), (.aload_n 0, (0, 0, 0, 0, 0)), (.invokevirtual 156, (0, 0, 0, 0, 0)), (.aload_n 0, (0, 0, 0, 0, 0)), (.aload_n 0, (0, 0, 0, 0, 0)), (.getfield 108, (1, 0, 12, 0, 0)), (.ldc2_w 308, (1, 0, 0, 0, 495623371106)), (.invokevirtual 142, (0, 0, 0, 0, 0)), (.ifCond .ne 5, (0, 31, 0, 0, 0)), (.iconst 0, (0, 0, 0, 0, 0)), (.ireturn, (0, 0, 0, 0, 0)), (.aload_n 0, (0, 0, 0, 0, 0)), (.dup, (0, 0, 0, 0, 0)), (.getfield 108, (1, 0, 12, 0, 0)), (.iconst 5, (0, 0, 0, 5, 0)), (.iadd, (0, 0, 0, 0, 0)), (.putfield 108, (1, 0, 12, 0, 0)), (.aload_n 0, (0, 0, 0, 0, 0)), (.bipush 61, (0, 0, 0, 61, 0)), (.invokevirtual 153, (0, 0, 0, 0, 0)), (.ifCond .ne 5, (0, 52, 0, 0, 0)), (.iconst 0, (0, 0, 0, 0, 0)), (.ireturn, (0, 0, 0, 0, 0)), (.iconst 1, (0, 0, 0, 1, 0)), (.istore_n 1, (0, 0, 0, 0, 0)), (.iload_n 1, (0, 0, 0, 0, 0)), (.iconst 1, (0, 0, 0, 1, 0)), (.if_icmp .ne 30, (0, 86, 0, 0, 0)), (.aload_n 0, (0, 0, 0, 0, 0)), (.invokevirtual 203, (0, 0, 0, 0, 0)), (.ifCond .eq 23, (0, 86, 0, 0, 0)), (.aload_n 0, (0, 0, 0, 0, 0)), (.invokevirtual 310, (0, 0, 0, 0, 0)), (.ifCond .ne 5, (0, 75, 0, 0, 0)), (.iconst 0, (0, 0, 0, 0, 0)), (.ireturn, (0, 0, 0, 0, 0)), (.aload_n 0, (0, 0, 0, 0, 0)), (.invokevirtual 209, (0, 0, 0, 0, 0)), (.istore_n 1, (0, 0, 0, 0, 0)), (.iload_n 1, (0, 0, 0, 0, 0)), (.ifCond .ge (-27), (0, 54, 0, 0, 0)), (.iconst 0, (0, 0, 0, 0, 0)), (.ireturn, (0, 0, 0, 0, 0)), (.aload_n 0, (0, 0, 0, 0, 0)), (.getfield 305, (1, 0, 20, 0, 0)), (.ifCond .le 7, (0, 97, 0, 0, 0)), (.iconst 1, (0, 0, 0, 1, 0)), (.goto 4, (0, 98, 0, 0, 0)), (.iconst 0, (0, 0, 0, 0, 0)), (.ireturn, (0, 0, 0, 0, 0))]
theorem jc_Mo_ranges : wq_c b_Mo_ranges 2 j_Mo_ranges 0 = true := sorry
def j_Mo_resolve : wq_J := [(.aload_n 0, (0, 0, 0, 0, 0)), (.getfield 36, (1, 0, 21, 0, 0)), (.iload_n 1, (0, 0, 0, 0, 0)), (.iaload, (1, 9, 0, 0, 0)), (.istore_n 3, (0, 0, 0, 0, 0)), (.aload_n 0, (0, 0, 0, 0, 0)), (.getfield 39, (1, 0, 22, 0, 0)), (.iload_n 1, (0, 0, 0, 0, 0)), (.iaload, (1, 10, 0, 0, 0)), (.istore 4, (0, 0, 0, 0, 0)), (.iload_n 3, (0, 0, 0, 0, 0)), (.ifCond .lt 7, (0, 23, 0, 0, 0)), (.iload_n 3, (0, 0, 0, 0, 0)), (.goto 17, (0, 37, 0, 0, 0)), (.iload_n 2, (0, 0, 0, 0, 0)), (.iload 4, (0, 0, 0, 0, 0)), (.if_icmp .le 10, (0, 36, 0, 0, 0)), (.iload_n 2, (0, 0, 0, 0, 0)), (.iload 4, (0, 0, 0, 0, 0)), (.isub, (0, 0, 0, 0, 0)), (.goto 4, (0, 37, 0, 0, 0)), (.iconst 0, (0, 0, 0, 0, 0)), (.istore 5, (0, 0, 0, 0, 0)), (.iload_n 3, (0, 0, 0, 0, 0)), (.ifCond .lt 21, (0, 61, 0, 0, 0)), (.iload 4, (0, 0, 0, 0, 0)), (.ifCond .lt 16, (0, 61, 0, 0, 0)), (.iload 4, (0, 0, 0, 0, 0)), (.iload_n 2, (0, 0, 0, 0, 0)), (.iconst 1, (0, 0, 0, 1, 0)), (.isub, (0, 0, 0, 0, 0)), (.if_icmp .ge 8, (0, 61, 0, 0, 0)), (.iload 4, (0, 0, 0, 0, 0)), (.goto 6, (0, 64, 0, 0, 0)), (.iload_n 2, (0, 0, 0, 0, 0)), (.iconst 1, (0, 0, 0, 1, 0)), (.isub, (0, 0, 0, 0, 0)), (.istore 6, (0, 0, 0, 0, 0)), (.iload 5, (0, 0, 0, 0, 0)), (.iload 6, (0, 0, 0, 0, 0)), (.if_icmp .gt 35, (0, 105, 0, 0, 0)), (.aload_n 0, (0, 0, 0, 0, 0)), (.getfield 49, (1, 0, 28, 0, 0)), (.aload_n 0, (0, 0, 0, 0, 0)), (.getfield 313, (1, 0, 27, 0, 0)), (.iload 5, (0, 0, 0, 0, 0)), (.iastore, (1, 11, 0, 0, 0)), (.aload_n 0, (0, 0, 0, 0, 0)), (.getfield 52, (1, 0, 29, 0, 0)), (.aload_n 0, (0, 0, 0, 0, 0)), (.getfield 313, (1, 0, 27, 0, 0)), (.iload 6, (0, 0, 0, 0, 0)), (.iastore, (1, 12, 0, 0, 0)), (.aload_n 0, (0, 0, 0, 0, 0)), (.dup, (0, 0, 0, 0, 0)), (.getfield 313, (1, 0, 27, 0, 0)), (.iconst 1, (0, 0, 0, 1, 0)), (.iadd, (0, 0, 0, 0, 0)), (.putfield 313, (1, 0, 27, 0, 0)), (.return_, (0, 0, 0, 0, 0))]
theorem jc_Mo_resolve : wq_c b_Mo_resolve 7 j_Mo_resolve 0 = true := sorry
def j_Mo_overlap : wq_J := [(.iconst 0, (0, 0, 0, 0, 0)), (.istore_n 1, (0, 0, 0, 0, 0)), (.iconst 0, (0, 0, 0, 0, 0)), (.istore_n 2, (0, 0, 0, 0, 0)), (.iload_n 2, (0, 0, 0, 0, 0)), (.aload_n 0, (0, 0, 0, 0, 0)), (.getfield 313, (1, 0, 27, 0, 0)), (.if_icmp .ge 62, (0, 71, 0, 0, 0)), (.iconst 0, (0, 0, 0, 0, 0)), (.istore_n 3, (0, 0, 0, 0, 0)), (.iload_n 3, (0, 0, 0, 0, 0)), (.iload_n 2, (0, 0, 0, 0, 0)), (.if_icmp .ge 49, (0, 65, 0, 0, 0)), (.iload_n 1, (0, 0, 0, 0, 0)), (.ifCond .ne 33, (0, 53, 0, 0, 0)), (.aload_n 0, (0, 0, 0, 0, 0)), (.getfield 49, (1, 0, 28, 0, 0)), (.iload_n 2, (0, 0, 0, 0, 0)), (.iaload, (1, 11, 0, 0, 0)), (.aload_n 0, (0, 0, 0, 0, 0)), (.getfield 52, (1, 0, 29, 0, 0)), (.iload_n 3, (0, 0, 0, 0, 0)), (.iaload, (1, 12, 0, 0, 0)), (.if_icmp .gt 22, (0, 57, 0, 0, 0)), (.aload_n 0, (0, 0, 0, 0, 0)), (.getfield 49, (1, 0, 28, 0, 0)), (.iload_n 3, (0, 0, 0, 0, 0)), (.iaload, (1, 11, 0, 0, 0)), (.aload_n 0, (0, 0, 0, 0, 0)), (.getfield 52, (1, 0, 29, 0, 0)), (.iload_n 2, (0, 0, 0, 0, 0)), (.iaload, (1, 12, 0, 0, 0)), (.if_icmp .gt 7, (0, 57, 0, 0, 0)), (.iconst 1, (0, 0, 0, 1, 0)), (.goto 4, (0, 58, 0, 0, 0)), (.iconst 0, (0, 0, 0, 0, 0)), (.istore_n 1, (0, 0, 0, 0, 0)), (.iinc 3 1, (0, 0, 0, 1, 0)), (.goto (-48), (0, 14, 0, 0, 0)), (.iinc 2 1, (0, 0, 0, 1, 0)), (.goto (-64), (0, 4, 0, 0, 0)), (.iload_n 1, (0, 0, 0, 0, 0)), (.ireturn, (0, 0, 0, 0, 0))]
theorem jc_Mo_overlap : wq_c b_Mo_overlap 4 j_Mo_overlap 0 = true := sorry
def j_Mo_ifRange : wq_J := [(.aload_n 0, (0, 0, 0, 0, 0)), (.bipush 6, (0, 0, 0, 6, 0)), (.invokevirtual 223, (0, 0, 0, 0, 0)), (.ifCond .ne 5, (0, 11, 0, 0, 0)), (.iconst 1, (0, 0, 0, 1, 0)), (.ireturn, (0, 0, 0, 0, 0)), (.aload_n 0, (0, 0, 0, 0, 0)), (.bipush 6, (0, 0, 0, 6, 0)), (.invokevirtual 199, (0, 0, 0, 0, 0)), (.aload_n 0, (0, 0, 0, 0, 0)), (.invokevirtual 156, (0, 0, 0, 0, 0)), (.aload_n 0, (0, 0, 0, 0, 0)), (.invokevirtual 115, (0, 0, 0, 0, 0)), (.bipush 34, (0, 0, 0, 34, 0)), (.if_icmp .eq 27, (0, 54, 0, 0, 0)), (.aload_n 0, (0, 0, 0, 0, 0)), (.invokevirtual 115, (0, 0, 0, 0, 0)), (.bipush 87, (0, 0, 0, 87, 0)), (.if_icmp .ne 78, (0, 114, 0, 0, 0)), (.aload_n 0, (0, 0, 0, 0, 0)), (.aload_n 0, (0, 0, 0, 0, 0)), (.getfield 108, (1, 0, 12, 0, 0)), (.iconst 1, (0, 0, 0, 1, 0)), (.iadd, (0, 0, 0, 0, 0)), (.invokevirtual 111, (0, 0, 0, 0, 0)), (.bipush 47, (0, 0, 0, 47, 0)), (.if_icmp .ne 63, (0, 114, 0, 0, 0)), (.aload_n 0, (0, 0, 0, 0, 0)), (.invokevirtual 235, (0, 0, 0, 0, 0)), (.istore_n 2, (0, 0, 0, 0, 0)), (.iload_n 2, (0, 0, 0, 0, 0)), (.ifCond .eq 31, (0, 91, 0, 0, 0)), (.aload_n 0, (0, 0, 0, 0, 0)), (.getfield 232, (1, 0, 15, 0, 0)), (.ifCond .ne 24, (0, 91, 0, 0, 0)), (.aload_n 0, (0, 0, 0, 0, 0)), (.getfield 22, (1, 0, 6, 0, 0)), (.iload_n 1, (0, 0, 0, 0, 0)), (.baload, (4, 5, 0, 0, 0)), (.ifCond .ne 15, (0, 91, 0, 0, 0)), (.aload_n 0, (0, 0, 0, 0, 0)), (.iload_n 1, (0, 0, 0, 0, 0)), (.invokevirtual 238, (0, 0, 0, 0, 0)), (.ifCond .eq 7, (0, 91, 0, 0, 0)), (.iconst 1, (0, 0, 0, 1, 0)), (.goto 4, (0, 92, 0, 0, 0)), (.iconst 0, (0, 0, 0, 0, 0)), (.istore_n 3, (0, 0, 0, 0, 0)), (.aload_n 0, (0, 0, 0, 0, 0)), (.invokevirtual 156, (0, 0, 0, 0, 0)), (.iload_n 3, (0, 0, 0, 0, 0)), (.ifCond .eq 14, (0, 112, 0, 0, 0)), (.aload_n 0, (0, 0, 0, 0, 0)), (.invokevirtual 166, (0, 0, 0, 0, 0)), (.ifCond .eq 7, (0, 112, 0, 0, 0)), (.iconst 1, (0, 0, 0, 1, 0)), (.goto 4, (0, 113, 0, 0, 0)), (.iconst 0, (0, 0, 0, 0, 0)), (.ireturn, (0, 0, 0, 0, 0)), (.aload_n 0, (0, 0, 0, 0, 0)), (.bipush 6, (0, 0, 0, 6, 0)), (.invokevirtual 316, (0, 0, 0, 0, 0)), (.aload_n 0, (0, 0, 0, 0, 0)), (.getfield 26, (1, 0, 7, 0, 0)), (.iload_n 1, (0, 0, 0, 0, 0)), (.laload, (1, 6, 0, 0, 0)), (.lcmp, (0, 0, 0, 0, 0)), (.ifCond .ne 7, (0, 134, 0, 0, 0)), (.iconst 1, (0, 0, 0, 1, 0)), (.goto 4, (0, 135, 0, 0, 0)), (.iconst 0, (0, 0, 0, 0, 0)), (.ireturn, (0, 0, 0, 0, 0))]
theorem jc_Mo_ifRange : wq_c b_Mo_ifRange 4 j_Mo_ifRange 0 = true := sorry
def j_Mo_chosenOne : wq_J := [(.iconst (-1), (0, 0, 0, (-1), 0)), (.istore_n 1, (0, 0, 0, 0, 0)), (.iconst 0, (0, 0, 0, 0, 0)), (.istore_n 2, (0, 0, 0, 0, 0)), (.iconst 0, (0, 0, 0, 0, 0)), (.istore_n 3, (0, 0, 0, 0, 0)), (.iload_n 3, (0, 0, 0, 0, 0)), (.aload_n 0, (0, 0, 0, 0, 0)), (.getfield 97, (1, 0, 1, 0, 0)), (.if_icmp .ge 27, (0, 38, 0, 0, 0)), (.aload_n 0, (0, 0, 0, 0, 0)), (.iload_n 3, (0, 0, 0, 0, 0)), (.invokevirtual 319, (0, 0, 0, 0, 0)), (.istore 4, (0, 0, 0, 0, 0)), (.iload 4, (0, 0, 0, 0, 0)), (.iload_n 2, (0, 0, 0, 0, 0)), (.if_icmp .le 8, (0, 32, 0, 0, 0)), (.iload 4, (0, 0, 0, 0, 0)), (.istore_n 2, (0, 0, 0, 0, 0)), (.iload_n 3, (0, 0, 0, 0, 0)), (.istore_n 1, (0, 0, 0, 0, 0)), (.iinc 3 1, (0, 0, 0, 1, 0)), (.goto (-29), (0, 6, 0, 0, 0)), (.iload_n 1, (0, 0, 0, 0, 0)), (.ireturn, (0, 0, 0, 0, 0))]
theorem jc_Mo_chosenOne : wq_c b_Mo_chosenOne 5 j_Mo_chosenOne 0 = true := sorry
def j_Mo_conditions : wq_J := [(.aload_n 0, (0, 0, 0, 0, 0)), (.iconst 2, (0, 0, 0, 2, 0)), (.invokevirtual 223, (0, 0, 0, 0, 0)), (.ifCond .eq 18, (0, 23, 0, 0, 0)), (.aload_n 0, (0, 0, 0, 0, 0)), (.iconst 2, (0, 0, 0, 2, 0)), (.iload_n 1, (0, 0, 0, 0, 0)), (.iconst 1, (0, 0, 0, 1, 0)), (.invokevirtual 322, (0, 0, 0, 0, 0)), (.iconst 1, (0, 0, 0, 1, 0)), (.if_icmp .eq 34, (0, 50, 0, 0, 0)), (.sipush 412, (0, 0, 0, 412, 0)), (.ireturn, (0, 0, 0, 0, 0)), (.aload_n 0, (0, 0, 0, 0, 0)), (.iconst 5, (0, 0, 0, 5, 0)), (.invokevirtual 316, (0, 0, 0, 0, 0)), (.lstore_n 2, (0, 0, 0, 0, 0)), (.lload_n 2, (0, 0, 0, 0, 0)), (.lconst 0, (0, 0, 0, 0, 0)), (.lcmp, (0, 0, 0, 0, 0)), (.ifCond .lt 18, (0, 50, 0, 0, 0)), (.lload_n 2, (0, 0, 0, 0, 0)), (.aload_n 0, (0, 0, 0, 0, 0)), (.getfield 26, (1, 0, 7, 0, 0)), (.iload_n 1, (0, 0, 0, 0, 0)), (.laload, (1, 6, 0, 0, 0)), (.lcmp, (0, 0, 0, 0, 0)), (.ifCond .ge 7, (0, 50, 0, 0, 0)), (.sipush 412, (0, 0, 0, 412, 0)), (.ireturn, (0, 0, 0, 0, 0)), (.aload_n 0, (0, 0, 0, 0, 0)), (.iconst 3, (0, 0, 0, 3, 0)), (.invokevirtual 223, (0, 0, 0, 0, 0)), (.ifCond .eq 22, (0, 77, 0, 0, 0)), (.aload_n 0, (0, 0, 0, 0, 0)), (.iconst 3, (0, 0, 0, 3, 0)), (.iload_n 1, (0, 0, 0, 0, 0)), (.iconst 0, (0, 0, 0, 0, 0)), (.invokevirtual 322, (0, 0, 0, 0, 0)), (.iconst 1, (0, 0, 0, 1, 0)), (.if_icmp .ne 9, (0, 75, 0, 0, 0)), (.sipush 304, (0, 0, 0, 304, 0)), (.goto 4, (0, 76, 0, 0, 0)), (.iconst 0, (0, 0, 0, 0, 0)), (.ireturn, (0, 0, 0, 0, 0)), (.aload_n 0, (0, 0, 0, 0, 0)), (.iconst 4, (0, 0, 0, 4, 0)), (.invokevirtual 316, (0, 0, 0, 0, 0)), (.lstore_n 2, (0, 0, 0, 0, 0)), (.lload_n 2, (0, 0, 0, 0, 0)), (.aload_n 0, (0, 0, 0, 0, 0)), (.getfield 26, (1, 0, 7, 0, 0)), (.iload_n 1, (0, 0, 0, 0, 0)), (.laload, (1, 6, 0, 0, 0)), (.lcmp, (0, 0, 0, 0, 0)), (.ifCond .lt 15, (0, 106, 0, 0, 0)), (.lload_n 2, (0, 0, 0, 0, 0)), (.lconst 0, (0, 0, 0, 0, 0)), (.lcmp, (0, 0, 0, 0, 0)), (.ifCond .lt 9, (0, 106, 0, 0, 0)), (.sipush 304, (0, 0, 0, 304, 0)), (.goto 4, (0, 107, 0, 0, 0)), (.iconst 0, (0, 0, 0, 0, 0)), (.ireturn, (0, 0, 0, 0, 0))]
theorem jc_Mo_conditions : wq_c b_Mo_conditions 4 j_Mo_conditions 0 = true := sorry
def j_Mo_ranged : wq_J := [(.aload_n 0, (0, 0, 0, 0, 0)), (.getfield 100, (1, 0, 8, 0, 0)), (.ifCond .ne 35, (0, 39, 0, 0, 0)), (.aload_n 0, (0, 0, 0, 0, 0)), (.bipush 7, (0, 0, 0, 7, 0)), (.invokevirtual 223, (0, 0, 0, 0, 0)), (.ifCond .eq 26, (0, 39, 0, 0, 0)), (.aload_n 0, (0, 0, 0, 0, 0)), (.iload_n 1, (0, 0, 0, 0, 0)), (.invokevirtual 326, (0, 0, 0, 0, 0)), (.ifCond .eq 18, (0, 39, 0, 0, 0)), (.aload_n 0, (0, 0, 0, 0, 0)), (.invokevirtual 329, (0, 0, 0, 0, 0)), (.ifCond .eq 11, (0, 39, 0, 0, 0)), (.aload_n 0, (0, 0, 0, 0, 0)), (.getfield 305, (1, 0, 20, 0, 0)), (.iconst 4, (0, 0, 0, 4, 0)), (.if_icmp .le 7, (0, 43, 0, 0, 0)), (.sipush 200, (0, 0, 0, 200, 0)), (.ireturn, (0, 0, 0, 0, 0)), (.iconst 0, (0, 0, 0, 0, 0)), (.istore_n 2, (0, 0, 0, 0, 0)), (.iload_n 2, (0, 0, 0, 0, 0)), (.aload_n 0, (0, 0, 0, 0, 0)), (.getfield 305, (1, 0, 20, 0, 0)), (.if_icmp .ge 20, (0, 70, 0, 0, 0)), (.aload_n 0, (0, 0, 0, 0, 0)), (.iload_n 2, (0, 0, 0, 0, 0)), (.aload_n 0, (0, 0, 0, 0, 0)), (.getfield 16, (1, 0, 4, 0, 0)), (.iload_n 1, (0, 0, 0, 0, 0)), (.iaload, (1, 3, 0, 0, 0)), (.invokevirtual 332, (0, 0, 0, 0, 0)), (.iinc 2 1, (0, 0, 0, 1, 0)), (.goto (-22), (0, 45, 0, 0, 0)), (.aload_n 0, (0, 0, 0, 0, 0)), (.invokevirtual 336, (0, 0, 0, 0, 0)), (.ifCond .eq 12, (0, 86, 0, 0, 0)), (.aload_n 0, (0, 0, 0, 0, 0)), (.iconst 0, (0, 0, 0, 0, 0)), (.putfield 313, (1, 0, 27, 0, 0)), (.sipush 200, (0, 0, 0, 200, 0)), (.ireturn, (0, 0, 0, 0, 0)), (.aload_n 0, (0, 0, 0, 0, 0)), (.getfield 313, (1, 0, 27, 0, 0)), (.ifCond .ne 9, (0, 99, 0, 0, 0)), (.sipush 416, (0, 0, 0, 416, 0)), (.goto 6, (0, 102, 0, 0, 0)), (.sipush 206, (0, 0, 0, 206, 0)), (.ireturn, (0, 0, 0, 0, 0))]
theorem jc_Mo_ranged : wq_c b_Mo_ranged 3 j_Mo_ranged 0 = true := sorry
def j_Mo_decide : wq_J := [(.aload_n 0, (0, 0, 0, 0, 0)), (.getfield 100, (1, 0, 8, 0, 0)), (.ifCond .lt 11, (0, 15, 0, 0, 0)), (.aload_n 0, (0, 0, 0, 0, 0)), (.getfield 100, (1, 0, 8, 0, 0)), (.iconst 2, (0, 0, 0, 2, 0)), (.if_icmp .le 7, (0, 19, 0, 0, 0)), (.sipush 501, (0, 0, 0, 501, 0)), (.ireturn, (0, 0, 0, 0, 0)), (.aload_n 0, (0, 0, 0, 0, 0)), (.getfield 97, (1, 0, 1, 0, 0)), (.ifCond .ne 7, (0, 30, 0, 0, 0)), (.sipush 404, (0, 0, 0, 404, 0)), (.ireturn, (0, 0, 0, 0, 0)), (.aload_n 0, (0, 0, 0, 0, 0)), (.getfield 100, (1, 0, 8, 0, 0)), (.iconst 2, (0, 0, 0, 2, 0)), (.if_icmp .ne 7, (0, 42, 0, 0, 0)), (.sipush 204, (0, 0, 0, 204, 0)), (.ireturn, (0, 0, 0, 0, 0)), (.aload_n 0, (0, 0, 0, 0, 0)), (.invokevirtual 339, (0, 0, 0, 0, 0)), (.istore_n 1, (0, 0, 0, 0, 0)), (.iload_n 1, (0, 0, 0, 0, 0)), (.ifCond .ge 7, (0, 55, 0, 0, 0)), (.sipush 406, (0, 0, 0, 406, 0)), (.ireturn, (0, 0, 0, 0, 0)), (.aload_n 0, (0, 0, 0, 0, 0)), (.iload_n 1, (0, 0, 0, 0, 0)), (.putfield 46, (1, 0, 24, 0, 0)), (.aload_n 0, (0, 0, 0, 0, 0)), (.aload_n 0, (0, 0, 0, 0, 0)), (.getfield 16, (1, 0, 4, 0, 0)), (.iload_n 1, (0, 0, 0, 0, 0)), (.iaload, (1, 3, 0, 0, 0)), (.putfield 342, (1, 0, 25, 0, 0)), (.aload_n 0, (0, 0, 0, 0, 0)), (.iload_n 1, (0, 0, 0, 0, 0)), (.invokevirtual 345, (0, 0, 0, 0, 0)), (.istore_n 2, (0, 0, 0, 0, 0)), (.iload_n 2, (0, 0, 0, 0, 0)), (.ifCond .le 7, (0, 84, 0, 0, 0)), (.iload_n 2, (0, 0, 0, 0, 0)), (.goto 8, (0, 89, 0, 0, 0)), (.aload_n 0, (0, 0, 0, 0, 0)), (.iload_n 1, (0, 0, 0, 0, 0)), (.invokevirtual 348, (0, 0, 0, 0, 0)), (.ireturn, (0, 0, 0, 0, 0))]
theorem jc_Mo_decide : wq_c b_Mo_decide 3 j_Mo_decide 0 = true := sorry
def j_Mo_respond : wq_J := [(.aload_n 0, (0, 0, 0, 0, 0)), (.iconst (-1), (0, 0, 0, (-1), 0)), (.putfield 46, (1, 0, 24, 0, 0)), (.aload_n 0, (0, 0, 0, 0, 0)), (.iconst 0, (0, 0, 0, 0, 0)), (.putfield 342, (1, 0, 25, 0, 0)), (.aload_n 0, (0, 0, 0, 0, 0)), (.iconst 0, (0, 0, 0, 0, 0)), (.putfield 313, (1, 0, 27, 0, 0)), (.aload_n 0, (0, 0, 0, 0, 0)), (.aload_n 0, (0, 0, 0, 0, 0)), (.getfield 100, (1, 0, 8, 0, 0)), (.iconst 1, (0, 0, 0, 1, 0)), (.if_icmp .ne 7, (0, 28, 0, 0, 0)), (.iconst 1, (0, 0, 0, 1, 0)), (.goto 4, (0, 29, 0, 0, 0)), (.iconst 0, (0, 0, 0, 0, 0)), (.putfield 351, (1, 0, 26, 0, 0)), (.aload_n 0, (0, 0, 0, 0, 0)), (.aload_n 0, (0, 0, 0, 0, 0)), (.invokevirtual 354, (0, 0, 0, 0, 0)), (.putfield 42, (1, 0, 23, 0, 0)), (.aload_n 0, (0, 0, 0, 0, 0)), (.getfield 42, (1, 0, 23, 0, 0)), (.ireturn, (0, 0, 0, 0, 0))]
theorem jc_Mo_respond : wq_c b_Mo_respond 1 j_Mo_respond 0 = true := sorry
def j_Mo_status : wq_J := [(.aload_n 0, (0, 0, 0, 0, 0)), (.getfield 42, (1, 0, 23, 0, 0)), (.ireturn, (0, 0, 0, 0, 0))]
theorem jc_Mo_status : wq_c b_Mo_status 1 j_Mo_status 0 = true := sorry
def j_Mo_chosen : wq_J := [(.aload_n 0, (0, 0, 0, 0, 0)), (.getfield 46, (1, 0, 24, 0, 0)), (.ireturn, (0, 0, 0, 0, 0))]
theorem jc_Mo_chosen : wq_c b_Mo_chosen 1 j_Mo_chosen 0 = true := sorry
def j_Mo_digitsOf : wq_J := [(.iconst 1, (0, 0, 0, 1, 0)), (.istore_n 1, (0, 0, 0, 0, 0)), (.iload_n 0, (0, 0, 0, 0, 0)), (.bipush 10, (0, 0, 0, 10, 0)), (.idiv, (0, 0, 0, 0, 0)), (.istore_n 2, (0, 0, 0, 0, 0)), (.iload_n 2, (0, 0, 0, 0, 0)), (.ifCond .le 14, (0, 22, 0, 0, 0)), (.iinc 1 1, (0, 0, 0, 1, 0)), (.iload_n 2, (0, 0, 0, 0, 0)), (.bipush 10, (0, 0, 0, 10, 0)), (.idiv, (0, 0, 0, 0, 0)), (.istore_n 2, (0, 0, 0, 0, 0)), (.goto (-12), (0, 7, 0, 0, 0)), (.iload_n 1, (0, 0, 0, 0, 0)), (.ireturn, (0, 0, 0, 0, 0))]
theorem jc_Mo_digitsOf : wq_c b_Mo_digitsOf 3 j_Mo_digitsOf 0 = true := sorry
def j_Mo_byteAt : wq_J := [(.bipush 7, (0, 0, 0, 7, 0)), (.iload_n 1, (0, 0, 0, 0, 0)), (.imul, (0, 0, 0, 0, 0)), (.bipush 13, (0, 0, 0, 13, 0)), (.aload_n 0, (0, 0, 0, 0, 0)), (.getfield 46, (1, 0, 24, 0, 0)), (.imul, (0, 0, 0, 0, 0)), (.iadd, (0, 0, 0, 0, 0)), (.iconst 1, (0, 0, 0, 1, 0)), (.iadd, (0, 0, 0, 0, 0)), (.sipush 251, (0, 0, 0, 251, 0)), (.irem, (0, 0, 0, 0, 0)), (.ireturn, (0, 0, 0, 0, 0))]
theorem jc_Mo_byteAt : wq_c b_Mo_byteAt 2 j_Mo_byteAt 0 = true := sorry
def j_Mo_headOf : wq_J := [(.bipush 15, (0, 0, 0, 15, 0)), (.aload_n 0, (0, 0, 0, 0, 0)), (.getfield 49, (1, 0, 28, 0, 0)), (.iload_n 1, (0, 0, 0, 0, 0)), (.iaload, (1, 11, 0, 0, 0)), (.invokestatic 357, (0, 0, 0, 0, 0)), (.iadd, (0, 0, 0, 0, 0)), (.iconst 1, (0, 0, 0, 1, 0)), (.iadd, (0, 0, 0, 0, 0)), (.aload_n 0, (0, 0, 0, 0, 0)), (.getfield 52, (1, 0, 29, 0, 0)), (.iload_n 1, (0, 0, 0, 0, 0)), (.iaload, (1, 12, 0, 0, 0)), (.invokestatic 357, (0, 0, 0, 0, 0)), (.iadd, (0, 0, 0, 0, 0)), (.iconst 1, (0, 0, 0, 1, 0)), (.iadd, (0, 0, 0, 0, 0)), (.aload_n 0, (0, 0, 0, 0, 0)), (.getfield 342, (1, 0, 25, 0, 0)), (.invokestatic 357, (0, 0, 0, 0, 0)), (.iadd, (0, 0, 0, 0, 0)), (.iconst 4, (0, 0, 0, 4, 0)), (.iadd, (0, 0, 0, 0, 0)), (.ireturn, (0, 0, 0, 0, 0))]
theorem jc_Mo_headOf : wq_c b_Mo_headOf 2 j_Mo_headOf 0 = true := sorry
def j_Mo_partSize : wq_J := [(.aload_n 0, (0, 0, 0, 0, 0)), (.iload_n 1, (0, 0, 0, 0, 0)), (.invokevirtual 360, (0, 0, 0, 0, 0)), (.aload_n 0, (0, 0, 0, 0, 0)), (.getfield 52, (1, 0, 29, 0, 0)), (.iload_n 1, (0, 0, 0, 0, 0)), (.iaload, (1, 12, 0, 0, 0)), (.iadd, (0, 0, 0, 0, 0)), (.aload_n 0, (0, 0, 0, 0, 0)), (.getfield 49, (1, 0, 28, 0, 0)), (.iload_n 1, (0, 0, 0, 0, 0)), (.iaload, (1, 11, 0, 0, 0)), (.isub, (0, 0, 0, 0, 0)), (.iconst 1, (0, 0, 0, 1, 0)), (.iadd, (0, 0, 0, 0, 0)), (.iconst 2, (0, 0, 0, 2, 0)), (.iadd, (0, 0, 0, 0, 0)), (.ireturn, (0, 0, 0, 0, 0))]
theorem jc_Mo_partSize : wq_c b_Mo_partSize 2 j_Mo_partSize 0 = true := sorry
def j_Mo_length : wq_J := [(.aload_n 0, (0, 0, 0, 0, 0)), (.getfield 42, (1, 0, 23, 0, 0)), (.sipush 200, (0, 0, 0, 200, 0)), (.if_icmp .ne 9, (0, 16, 0, 0, 0)), (.aload_n 0, (0, 0, 0, 0, 0)), (.getfield 342, (1, 0, 25, 0, 0)), (.i2l, (0, 0, 0, 0, 0)), (.lreturn, (0, 0, 0, 0, 0)), (.aload_n 0, (0, 0, 0, 0, 0)), (.getfield 42, (1, 0, 23, 0, 0)), (.sipush 206, (0, 0, 0, 206, 0)), (.if_icmp .eq 5, (0, 28, 0, 0, 0)), (.lconst 0, (0, 0, 0, 0, 0)), (.lreturn, (0, 0, 0, 0, 0)), (.aload_n 0, (0, 0, 0, 0, 0)), (.getfield 313, (1, 0, 27, 0, 0)), (.iconst 1, (0, 0, 0, 1, 0)), (.if_icmp .ne 20, (0, 53, 0, 0, 0)), (.aload_n 0, (0, 0, 0, 0, 0)), (.getfield 52, (1, 0, 29, 0, 0)), (.iconst 0, (0, 0, 0, 0, 0)), (.iaload, (1, 12, 0, 0, 0)), (.aload_n 0, (0, 0, 0, 0, 0)), (.getfield 49, (1, 0, 28, 0, 0)), (.iconst 0, (0, 0, 0, 0, 0)), (.iaload, (1, 11, 0, 0, 0)), (.isub, (0, 0, 0, 0, 0)), (.iconst 1, (0, 0, 0, 1, 0)), (.iadd, (0, 0, 0, 0, 0)), (.i2l, (0, 0, 0, 0, 0)), (.lreturn, (0, 0, 0, 0, 0)), (.ldc2_w 363, (1, 0, 0, 0, 10)), (.lstore_n 1, (0, 0, 0, 0, 0)), (.iconst 0, (0, 0, 0, 0, 0)), (.istore_n 3, (0, 0, 0, 0, 0)), (.iload_n 3, (0, 0, 0, 0, 0)), (.aload_n 0, (0, 0, 0, 0, 0)), (.getfield 313, (1, 0, 27, 0, 0)), (.if_icmp .ge 18, (0, 82, 0, 0, 0)), (.lload_n 1, (0, 0, 0, 0, 0)), (.aload_n 0, (0, 0, 0, 0, 0)), (.iload_n 3, (0, 0, 0, 0, 0)), (.invokevirtual 365, (0, 0, 0, 0, 0)), (.i2l, (0, 0, 0, 0, 0)), (.ladd, (0, 0, 0, 0, 0)), (.lstore_n 1, (0, 0, 0, 0, 0)), (.iinc 3 1, (0, 0, 0, 1, 0)), (.goto (-20), (0, 59, 0, 0, 0)), (.lload_n 1, (0, 0, 0, 0, 0)), (.lreturn, (0, 0, 0, 0, 0))]
theorem jc_Mo_length : wq_c b_Mo_length 4 j_Mo_length 0 = true := sorry
def j_Mo_digitOf : wq_J := [(.iload_n 0, (0, 0, 0, 0, 0)), (.istore_n 2, (0, 0, 0, 0, 0)), (.iload_n 0, (0, 0, 0, 0, 0)), (.invokestatic 357, (0, 0, 0, 0, 0)), (.iconst 1, (0, 0, 0, 1, 0)), (.isub, (0, 0, 0, 0, 0)), (.istore_n 3, (0, 0, 0, 0, 0)), (.iload_n 3, (0, 0, 0, 0, 0)), (.iload_n 1, (0, 0, 0, 0, 0)), (.if_icmp .le 14, (0, 25, 0, 0, 0)), (.iload_n 2, (0, 0, 0, 0, 0)), (.bipush 10, (0, 0, 0, 10, 0)), (.idiv, (0, 0, 0, 0, 0)), (.istore_n 2, (0, 0, 0, 0, 0)), (.iinc 3 (-1), (0, 0, 0, (-1), 0)), (.goto (-13), (0, 9, 0, 0, 0)), (.bipush 48, (0, 0, 0, 48, 0)), (.iload_n 2, (0, 0, 0, 0, 0)), (.bipush 10, (0, 0, 0, 10, 0)), (.irem, (0, 0, 0, 0, 0)), (.iadd, (0, 0, 0, 0, 0)), (.ireturn, (0, 0, 0, 0, 0))]
theorem jc_Mo_digitOf : wq_c b_Mo_digitOf 4 j_Mo_digitOf 0 = true := sorry
def j_Mo_figures : wq_J := [(.iload_n 1, (0, 0, 0, 0, 0)), (.invokestatic 357, (0, 0, 0, 0, 0)), (.istore 4, (0, 0, 0, 0, 0)), (.iload_n 2, (0, 0, 0, 0, 0)), (.invokestatic 357, (0, 0, 0, 0, 0)), (.istore 5, (0, 0, 0, 0, 0)), (.iload_n 3, (0, 0, 0, 0, 0)), (.iload 4, (0, 0, 0, 0, 0)), (.if_icmp .ge 9, (0, 24, 0, 0, 0)), (.iload_n 1, (0, 0, 0, 0, 0)), (.iload_n 3, (0, 0, 0, 0, 0)), (.invokestatic 368, (0, 0, 0, 0, 0)), (.ireturn, (0, 0, 0, 0, 0)), (.iload_n 3, (0, 0, 0, 0, 0)), (.iload 4, (0, 0, 0, 0, 0)), (.if_icmp .ne 6, (0, 33, 0, 0, 0)), (.bipush 45, (0, 0, 0, 45, 0)), (.ireturn, (0, 0, 0, 0, 0)), (.iload_n 3, (0, 0, 0, 0, 0)), (.iload 4, (0, 0, 0, 0, 0)), (.iconst 1, (0, 0, 0, 1, 0)), (.iadd, (0, 0, 0, 0, 0)), (.iload 5, (0, 0, 0, 0, 0)), (.iadd, (0, 0, 0, 0, 0)), (.if_icmp .ge 14, (0, 55, 0, 0, 0)), (.iload_n 2, (0, 0, 0, 0, 0)), (.iload_n 3, (0, 0, 0, 0, 0)), (.iload 4, (0, 0, 0, 0, 0)), (.isub, (0, 0, 0, 0, 0)), (.iconst 1, (0, 0, 0, 1, 0)), (.isub, (0, 0, 0, 0, 0)), (.invokestatic 368, (0, 0, 0, 0, 0)), (.ireturn, (0, 0, 0, 0, 0)), (.iload_n 3, (0, 0, 0, 0, 0)), (.iload 4, (0, 0, 0, 0, 0)), (.iconst 1, (0, 0, 0, 1, 0)), (.iadd, (0, 0, 0, 0, 0)), (.iload 5, (0, 0, 0, 0, 0)), (.iadd, (0, 0, 0, 0, 0)), (.if_icmp .ne 8, (0, 71, 0, 0, 0)), (.bipush 47, (0, 0, 0, 47, 0)), (.goto 19, (0, 87, 0, 0, 0)), (.aload_n 0, (0, 0, 0, 0, 0)), (.getfield 342, (1, 0, 25, 0, 0)), (.iload_n 3, (0, 0, 0, 0, 0)), (.iload 4, (0, 0, 0, 0, 0)), (.isub, (0, 0, 0, 0, 0)), (.iload 5, (0, 0, 0, 0, 0)), (.isub, (0, 0, 0, 0, 0)), (.iconst 2, (0, 0, 0, 2, 0)), (.isub, (0, 0, 0, 0, 0)), (.invokestatic 368, (0, 0, 0, 0, 0)), (.ireturn, (0, 0, 0, 0, 0))]
theorem jc_Mo_figures : wq_c b_Mo_figures 6 j_Mo_figures 0 = true := sorry
def j_Mo_crlf : wq_J := [(.iload_n 0, (0, 0, 0, 0, 0)), (.iconst 2, (0, 0, 0, 2, 0)), (.irem, (0, 0, 0, 0, 0)), (.ifCond .ne 8, (0, 11, 0, 0, 0)), (.bipush 13, (0, 0, 0, 13, 0)), (.goto 5, (0, 13, 0, 0, 0)), (.bipush 10, (0, 0, 0, 10, 0)), (.ireturn, (0, 0, 0, 0, 0))]
theorem jc_Mo_crlf : wq_c b_Mo_crlf 1 j_Mo_crlf 0 = true := sorry
def j_Mo_partByte : wq_J := [(.aload_n 0, (0, 0, 0, 0, 0)), (.iload_n 1, (0, 0, 0, 0, 0)), (.invokevirtual 360, (0, 0, 0, 0, 0)), (.istore_n 3, (0, 0, 0, 0, 0)), (.iload_n 2, (0, 0, 0, 0, 0)), (.bipush 8, (0, 0, 0, 8, 0)), (.if_icmp .ge 17, (0, 26, 0, 0, 0)), (.ldc2_w 371, (1, 0, 0, 0, 724327827336342829)), (.bipush 8, (0, 0, 0, 8, 0)), (.iload_n 2, (0, 0, 0, 0, 0)), (.imul, (0, 0, 0, 0, 0)), (.lshr, (0, 0, 0, 0, 0)), (.ldc2_w 103, (1, 0, 0, 0, 255)), (.land, (0, 0, 0, 0, 0)), (.l2i, (0, 0, 0, 0, 0)), (.ireturn, (0, 0, 0, 0, 0)), (.iload_n 2, (0, 0, 0, 0, 0)), (.bipush 15, (0, 0, 0, 15, 0)), (.if_icmp .ge 20, (0, 49, 0, 0, 0)), (.ldc2_w 373, (1, 0, 0, 0, 9071406456136018)), (.bipush 8, (0, 0, 0, 8, 0)), (.iload_n 2, (0, 0, 0, 0, 0)), (.bipush 8, (0, 0, 0, 8, 0)), (.isub, (0, 0, 0, 0, 0)), (.imul, (0, 0, 0, 0, 0)), (.lshr, (0, 0, 0, 0, 0)), (.ldc2_w 103, (1, 0, 0, 0, 255)), (.land, (0, 0, 0, 0, 0)), (.l2i, (0, 0, 0, 0, 0)), (.ireturn, (0, 0, 0, 0, 0)), (.iload_n 2, (0, 0, 0, 0, 0)), (.iload_n 3, (0, 0, 0, 0, 0)), (.iconst 4, (0, 0, 0, 4, 0)), (.isub, (0, 0, 0, 0, 0)), (.if_icmp .ge 24, (0, 77, 0, 0, 0)), (.aload_n 0, (0, 0, 0, 0, 0)), (.aload_n 0, (0, 0, 0, 0, 0)), (.getfield 49, (1, 0, 28, 0, 0)), (.iload_n 1, (0, 0, 0, 0, 0)), (.iaload, (1, 11, 0, 0, 0)), (.aload_n 0, (0, 0, 0, 0, 0)), (.getfield 52, (1, 0, 29, 0, 0)), (.iload_n 1, (0, 0, 0, 0, 0)), (.iaload, (1, 12, 0, 0, 0)), (.iload_n 2, (0, 0, 0, 0, 0)), (.bipush 15, (0, 0, 0, 15, 0)), (.isub, (0, 0, 0, 0, 0)), (.invokevirtual 375, (0, 0, 0, 0, 0)), (.ireturn, (0, 0, 0, 0, 0)), (.iload_n 2, (0, 0, 0, 0, 0)), (.iload_n 3, (0, 0, 0, 0, 0)), (.if_icmp .ge 12, (0, 91, 0, 0, 0)), (.iload_n 2, (0, 0, 0, 0, 0)), (.iload_n 3, (0, 0, 0, 0, 0)), (.isub, (0, 0, 0, 0, 0)), (.iconst 4, (0, 0, 0, 4, 0)), (.iadd, (0, 0, 0, 0, 0)), (.invokestatic 379, (0, 0, 0, 0, 0)), (.ireturn, (0, 0, 0, 0, 0)), (.aload_n 0, (0, 0, 0, 0, 0)), (.getfield 49, (1, 0, 28, 0, 0)), (.iload_n 1, (0, 0, 0, 0, 0)), (.iaload, (1, 11, 0, 0, 0)), (.iload_n 2, (0, 0, 0, 0, 0)), (.iadd, (0, 0, 0, 0, 0)), (.iload_n 3, (0, 0, 0, 0, 0)), (.isub, (0, 0, 0, 0, 0)), (.istore 4, (0, 0, 0, 0, 0)), (.iload 4, (0, 0, 0, 0, 0)), (.aload_n 0, (0, 0, 0, 0, 0)), (.getfield 52, (1, 0, 29, 0, 0)), (.iload_n 1, (0, 0, 0, 0, 0)), (.iaload, (1, 12, 0, 0, 0)), (.if_icmp .gt 12, (0, 123, 0, 0, 0)), (.aload_n 0, (0, 0, 0, 0, 0)), (.iload 4, (0, 0, 0, 0, 0)), (.invokevirtual 382, (0, 0, 0, 0, 0)), (.goto 17, (0, 137, 0, 0, 0)), (.iload 4, (0, 0, 0, 0, 0)), (.aload_n 0, (0, 0, 0, 0, 0)), (.getfield 52, (1, 0, 29, 0, 0)), (.iload_n 1, (0, 0, 0, 0, 0)), (.iaload, (1, 12, 0, 0, 0)), (.isub, (0, 0, 0, 0, 0)), (.iconst 1, (0, 0, 0, 1, 0)), (.isub, (0, 0, 0, 0, 0)), (.invokestatic 379, (0, 0, 0, 0, 0)), (.ireturn, (0, 0, 0, 0, 0))]
theorem jc_Mo_partByte : wq_c b_Mo_partByte 5 j_Mo_partByte 0 = true := sorry
def j_Mo_body : wq_J := [(.iload_n 1, (0, 0, 0, 0, 0)), (.ifCond .lt 20, (0, 21, 0, 0, 0)), (.iload_n 1, (0, 0, 0, 0, 0)), (.i2l, (0, 0, 0, 0, 0)), (.aload_n 0, (0, 0, 0, 0, 0)), (.invokevirtual 385, (0, 0, 0, 0, 0)), (.lcmp, (0, 0, 0, 0, 0)), (.ifCond .ge 10, (0, 21, 0, 0, 0)), (.aload_n 0, (0, 0, 0, 0, 0)), (.getfield 351, (1, 0, 26, 0, 0)), (.ifCond .eq 5, (0, 23, 0, 0, 0)), (.iconst (-1), (0, 0, 0, (-1), 0)), (.ireturn, (0, 0, 0, 0, 0)), (.aload_n 0, (0, 0, 0, 0, 0)), (.getfield 42, (1, 0, 23, 0, 0)), (.sipush 200, (0, 0, 0, 200, 0)), (.if_icmp .ne 9, (0, 39, 0, 0, 0)), (.aload_n 0, (0, 0, 0, 0, 0)), (.iload_n 1, (0, 0, 0, 0, 0)), (.invokevirtual 382, (0, 0, 0, 0, 0)), (.ireturn, (0, 0, 0, 0, 0)), (.aload_n 0, (0, 0, 0, 0, 0)), (.getfield 313, (1, 0, 27, 0, 0)), (.iconst 1, (0, 0, 0, 1, 0)), (.if_icmp .ne 16, (0, 60, 0, 0, 0)), (.aload_n 0, (0, 0, 0, 0, 0)), (.aload_n 0, (0, 0, 0, 0, 0)), (.getfield 49, (1, 0, 28, 0, 0)), (.iconst 0, (0, 0, 0, 0, 0)), (.iaload, (1, 11, 0, 0, 0)), (.iload_n 1, (0, 0, 0, 0, 0)), (.iadd, (0, 0, 0, 0, 0)), (.invokevirtual 382, (0, 0, 0, 0, 0)), (.ireturn, (0, 0, 0, 0, 0)), (.iload_n 1, (0, 0, 0, 0, 0)), (.istore_n 2, (0, 0, 0, 0, 0)), (.iconst 0, (0, 0, 0, 0, 0)), (.istore_n 3, (0, 0, 0, 0, 0)), (.iload_n 3, (0, 0, 0, 0, 0)), (.aload_n 0, (0, 0, 0, 0, 0)), (.getfield 313, (1, 0, 27, 0, 0)), (.if_icmp .ge 33, (0, 102, 0, 0, 0)), (.iload_n 2, (0, 0, 0, 0, 0)), (.aload_n 0, (0, 0, 0, 0, 0)), (.iload_n 3, (0, 0, 0, 0, 0)), (.invokevirtual 365, (0, 0, 0, 0, 0)), (.if_icmp .ge 10, (0, 88, 0, 0, 0)), (.aload_n 0, (0, 0, 0, 0, 0)), (.iload_n 3, (0, 0, 0, 0, 0)), (.iload_n 2, (0, 0, 0, 0, 0)), (.invokevirtual 388, (0, 0, 0, 0, 0)), (.ireturn, (0, 0, 0, 0, 0)), (.iload_n 2, (0, 0, 0, 0, 0)), (.aload_n 0, (0, 0, 0, 0, 0)), (.iload_n 3, (0, 0, 0, 0, 0)), (.invokevirtual 365, (0, 0, 0, 0, 0)), (.isub, (0, 0, 0, 0, 0)), (.istore_n 2, (0, 0, 0, 0, 0)), (.iinc 3 1, (0, 0, 0, 1, 0)), (.goto (-35), (0, 64, 0, 0, 0)), (.iload_n 2, (0, 0, 0, 0, 0)), (.bipush 8, (0, 0, 0, 8, 0)), (.if_icmp .ge 19, (0, 124, 0, 0, 0)), (.ldc2_w 391, (1, 0, 0, 0, 3255350817918561581)), (.bipush 8, (0, 0, 0, 8, 0)), (.iload_n 2, (0, 0, 0, 0, 0)), (.imul, (0, 0, 0, 0, 0)), (.lshr, (0, 0, 0, 0, 0)), (.ldc2_w 103, (1, 0, 0, 0, 255)), (.land, (0, 0, 0, 0, 0)), (.l2i, (0, 0, 0, 0, 0)), (.goto 7, (0, 128, 0, 0, 0)), (.iload_n 2, (0, 0, 0, 0, 0)), (.invokestatic 379, (0, 0, 0, 0, 0)), (.ireturn, (0, 0, 0, 0, 0))]
theorem jc_Mo_body : wq_c b_Mo_body 4 j_Mo_body 0 = true := sorry
def j_Mo_parts : wq_J := [(.aload_n 0, (0, 0, 0, 0, 0)), (.getfield 42, (1, 0, 23, 0, 0)), (.sipush 206, (0, 0, 0, 206, 0)), (.if_icmp .ne 10, (0, 17, 0, 0, 0)), (.aload_n 0, (0, 0, 0, 0, 0)), (.getfield 313, (1, 0, 27, 0, 0)), (.goto 4, (0, 18, 0, 0, 0)), (.iconst 0, (0, 0, 0, 0, 0)), (.ireturn, (0, 0, 0, 0, 0))]
theorem jc_Mo_parts : wq_c b_Mo_parts 1 j_Mo_parts 0 = true := sorry
def j_Mo_first : wq_J := [(.iload_n 1, (0, 0, 0, 0, 0)), (.ifCond .lt 20, (0, 21, 0, 0, 0)), (.iload_n 1, (0, 0, 0, 0, 0)), (.aload_n 0, (0, 0, 0, 0, 0)), (.invokevirtual 393, (0, 0, 0, 0, 0)), (.if_icmp .ge 12, (0, 21, 0, 0, 0)), (.aload_n 0, (0, 0, 0, 0, 0)), (.getfield 49, (1, 0, 28, 0, 0)), (.iload_n 1, (0, 0, 0, 0, 0)), (.iaload, (1, 11, 0, 0, 0)), (.goto 4, (0, 22, 0, 0, 0)), (.iconst (-1), (0, 0, 0, (-1), 0)), (.ireturn, (0, 0, 0, 0, 0))]
theorem jc_Mo_first : wq_c b_Mo_first 2 j_Mo_first 0 = true := sorry
def j_Mo_last : wq_J := [(.iload_n 1, (0, 0, 0, 0, 0)), (.ifCond .lt 20, (0, 21, 0, 0, 0)), (.iload_n 1, (0, 0, 0, 0, 0)), (.aload_n 0, (0, 0, 0, 0, 0)), (.invokevirtual 393, (0, 0, 0, 0, 0)), (.if_icmp .ge 12, (0, 21, 0, 0, 0)), (.aload_n 0, (0, 0, 0, 0, 0)), (.getfield 52, (1, 0, 29, 0, 0)), (.iload_n 1, (0, 0, 0, 0, 0)), (.iaload, (1, 12, 0, 0, 0)), (.goto 4, (0, 22, 0, 0, 0)), (.iconst (-1), (0, 0, 0, (-1), 0)), (.ireturn, (0, 0, 0, 0, 0))]
theorem jc_Mo_last : wq_c b_Mo_last 2 j_Mo_last 0 = true := sorry
def j_Mo_score : wq_J := [(.iload_n 1, (0, 0, 0, 0, 0)), (.ifCond .lt 19, (0, 20, 0, 0, 0)), (.iload_n 1, (0, 0, 0, 0, 0)), (.aload_n 0, (0, 0, 0, 0, 0)), (.getfield 97, (1, 0, 1, 0, 0)), (.if_icmp .ge 11, (0, 20, 0, 0, 0)), (.aload_n 0, (0, 0, 0, 0, 0)), (.iload_n 1, (0, 0, 0, 0, 0)), (.invokevirtual 319, (0, 0, 0, 0, 0)), (.goto 4, (0, 21, 0, 0, 0)), (.iconst (-1), (0, 0, 0, (-1), 0)), (.ireturn, (0, 0, 0, 0, 0))]
theorem jc_Mo_score : wq_c b_Mo_score 2 j_Mo_score 0 = true := sorry
def j_Mo_formed : wq_J := [(.iload_n 1, (0, 0, 0, 0, 0)), (.ifCond .lt 17, (0, 18, 0, 0, 0)), (.iload_n 1, (0, 0, 0, 0, 0)), (.bipush 7, (0, 0, 0, 7, 0)), (.if_icmp .gt 11, (0, 18, 0, 0, 0)), (.aload_n 0, (0, 0, 0, 0, 0)), (.iload_n 1, (0, 0, 0, 0, 0)), (.invokevirtual 223, (0, 0, 0, 0, 0)), (.ifCond .ne 5, (0, 20, 0, 0, 0)), (.iconst 0, (0, 0, 0, 0, 0)), (.ireturn, (0, 0, 0, 0, 0)), (.iload_n 1, (0, 0, 0, 0, 0)), (.tableswitch 112 0 7 #[47, 61, 75, 91, 112, 112, 112, 107], (0, 47, 0, 0, 0)), (.aload_n 0, (0, 0, 0, 0, 0)), (.iconst 0, (0, 0, 0, 0, 0)), (.invokevirtual 226, (0, 0, 0, 0, 0)), (.ifCond .lt 7, (0, 80, 0, 0, 0)), (.iconst 1, (0, 0, 0, 1, 0)), (.goto 4, (0, 81, 0, 0, 0)), (.iconst 0, (0, 0, 0, 0, 0)), (.ireturn, (0, 0, 0, 0, 0)), (.aload_n 0, (0, 0, 0, 0, 0)), (.iconst 0, (0, 0, 0, 0, 0)), (.invokevirtual 229, (0, 0, 0, 0, 0)), (.ifCond .lt 7, (0, 94, 0, 0, 0)), (.iconst 1, (0, 0, 0, 1, 0)), (.goto 4, (0, 95, 0, 0, 0)), (.iconst 0, (0, 0, 0, 0, 0)), (.ireturn, (0, 0, 0, 0, 0)), (.aload_n 0, (0, 0, 0, 0, 0)), (.iconst 2, (0, 0, 0, 2, 0)), (.iconst (-1), (0, 0, 0, (-1), 0)), (.iconst 1, (0, 0, 0, 1, 0)), (.invokevirtual 322, (0, 0, 0, 0, 0)), (.ifCond .lt 7, (0, 110, 0, 0, 0)), (.iconst 1, (0, 0, 0, 1, 0)), (.goto 4, (0, 111, 0, 0, 0)), (.iconst 0, (0, 0, 0, 0, 0)), (.ireturn, (0, 0, 0, 0, 0)), (.aload_n 0, (0, 0, 0, 0, 0)), (.iconst 3, (0, 0, 0, 3, 0)), (.iconst (-1), (0, 0, 0, (-1), 0)), (.iconst 0, (0, 0, 0, 0, 0)), (.invokevirtual 322, (0, 0, 0, 0, 0)), (.ifCond .lt 7, (0, 126, 0, 0, 0)), (.iconst 1, (0, 0, 0, 1, 0)), (.goto 4, (0, 127, 0, 0, 0)), (.iconst 0, (0, 0, 0, 0, 0)), (.ireturn, (0, 0, 0, 0, 0)), (.aload_n 0, (0, 0, 0, 0, 0)), (.invokevirtual 329, (0, 0, 0, 0, 0)), (.ireturn, (0, 0, 0, 0, 0)), (.aload_n 0, (0, 0, 0, 0, 0)), (.iload_n 1, (0, 0, 0, 0, 0)), (.invokevirtual 316, (0, 0, 0, 0, 0)), (.lconst 0, (0, 0, 0, 0, 0)), (.lcmp, (0, 0, 0, 0, 0)), (.ifCond .ge 16, (0, 156, 0, 0, 0)), (.iload_n 1, (0, 0, 0, 0, 0)), (.bipush 6, (0, 0, 0, 6, 0)), (.if_icmp .ne 14, (0, 160, 0, 0, 0)), (.aload_n 0, (0, 0, 0, 0, 0)), (.invokevirtual 396, (0, 0, 0, 0, 0)), (.ifCond .eq 7, (0, 160, 0, 0, 0)), (.iconst 1, (0, 0, 0, 1, 0)), (.goto 4, (0, 161, 0, 0, 0)), (.iconst 0, (0, 0, 0, 0, 0)), (.ireturn, (0, 0, 0, 0, 0))]
theorem jc_Mo_formed : wq_c b_Mo_formed 2 j_Mo_formed 0 = true := sorry
def j_Mo_loneTag : wq_J := [(.aload_n 0, (0, 0, 0, 0, 0)), (.bipush 6, (0, 0, 0, 6, 0)), (.invokevirtual 199, (0, 0, 0, 0, 0)), (.aload_n 0, (0, 0, 0, 0, 0)), (.invokevirtual 156, (0, 0, 0, 0, 0)), (.aload_n 0, (0, 0, 0, 0, 0)), (.invokevirtual 235, (0, 0, 0, 0, 0)), (.istore_n 1, (0, 0, 0, 0, 0)), (.aload_n 0, (0, 0, 0, 0, 0)), (.invokevirtual 156, (0, 0, 0, 0, 0)), (.iload_n 1, (0, 0, 0, 0, 0)), (.ifCond .eq 14, (0, 34, 0, 0, 0)), (.aload_n 0, (0, 0, 0, 0, 0)), (.invokevirtual 166, (0, 0, 0, 0, 0)), (.ifCond .eq 7, (0, 34, 0, 0, 0)), (.iconst 1, (0, 0, 0, 1, 0)), (.goto 4, (0, 35, 0, 0, 0)), (.iconst 0, (0, 0, 0, 0, 0)), (.ireturn, (0, 0, 0, 0, 0))]
theorem jc_Mo_loneTag : wq_c b_Mo_loneTag 2 j_Mo_loneTag 0 = true := sorry
def j_Mo_date : wq_J := [(.iload_n 1, (0, 0, 0, 0, 0)), (.iconst 4, (0, 0, 0, 4, 0)), (.if_icmp .lt 17, (0, 19, 0, 0, 0)), (.iload_n 1, (0, 0, 0, 0, 0)), (.bipush 6, (0, 0, 0, 6, 0)), (.if_icmp .gt 11, (0, 19, 0, 0, 0)), (.aload_n 0, (0, 0, 0, 0, 0)), (.iload_n 1, (0, 0, 0, 0, 0)), (.invokevirtual 316, (0, 0, 0, 0, 0)), (.goto 6, (0, 22, 0, 0, 0)), (.ldc2_w 267, (1, 0, 0, 0, (-1))), (.lreturn, (0, 0, 0, 0, 0))]
theorem jc_Mo_date : wq_c b_Mo_date 2 j_Mo_date 0 = true := sorry
def j_Ac_init : wq_J := [(.aload_n 0, (0, 0, 0, 0, 0)), (.invokespecial 3, (0, 0, 0, 0, 0)), (.return_, (0, 0, 0, 0, 0))]
theorem jc_Ac_init : wq_c b_Ac_init 1 j_Ac_init 0 = true := sorry
def j_Ac_read : wq_J := [(.aload_n 0, (0, 0, 0, 0, 0)), (.aload_n 1, (0, 0, 0, 0, 0)), (.iconst 0, (0, 0, 0, 0, 0)), (.invokevirtual 9, (0, 0, 0, 0, 0)), (.aload_n 0, (0, 0, 0, 0, 0)), (.iconst 0, (0, 0, 0, 0, 0)), (.putfield 15, (1, 0, 5, 0, 0)), (.aload_n 0, (0, 0, 0, 0, 0)), (.iconst (-1), (0, 0, 0, (-1), 0)), (.putfield 19, (1, 0, 6, 0, 0)), (.iconst 0, (0, 0, 0, 0, 0)), (.istore_n 3, (0, 0, 0, 0, 0)), (.iload_n 3, (0, 0, 0, 0, 0)), (.bipush 96, (0, 0, 0, 96, 0)), (.if_icmp .ge 45, (0, 66, 0, 0, 0)), (.aload_n 0, (0, 0, 0, 0, 0)), (.invokevirtual 22, (0, 0, 0, 0, 0)), (.ifCond .eq 38, (0, 66, 0, 0, 0)), (.aload_n 0, (0, 0, 0, 0, 0)), (.aload_n 2, (0, 0, 0, 0, 0)), (.invokevirtual 26, (0, 0, 0, 0, 0)), (.ifCond .eq 18, (0, 54, 0, 0, 0)), (.aload_n 0, (0, 0, 0, 0, 0)), (.aload_n 2, (0, 0, 0, 0, 0)), (.invokevirtual 30, (0, 0, 0, 0, 0)), (.ifCond .eq 10, (0, 54, 0, 0, 0)), (.aload_n 0, (0, 0, 0, 0, 0)), (.invokevirtual 33, (0, 0, 0, 0, 0)), (.ifCond .ne 5, (0, 56, 0, 0, 0)), (.iconst 0, (0, 0, 0, 0, 0)), (.ireturn, (0, 0, 0, 0, 0)), (.aload_n 0, (0, 0, 0, 0, 0)), (.invokevirtual 36, (0, 0, 0, 0, 0)), (.iinc 3 1, (0, 0, 0, 1, 0)), (.goto (-45), (0, 18, 0, 0, 0)), (.iload_n 3, (0, 0, 0, 0, 0)), (.ifCond .le 7, (0, 74, 0, 0, 0)), (.iconst 1, (0, 0, 0, 1, 0)), (.goto 4, (0, 75, 0, 0, 0)), (.iconst 0, (0, 0, 0, 0, 0)), (.ireturn, (0, 0, 0, 0, 0))]
theorem jc_Ac_read : wq_c b_Ac_read 4 j_Ac_read 0 = true := sorry
def j_Ac_readTokens : wq_J := [(.aload_n 0, (0, 0, 0, 0, 0)), (.invokevirtual 39, (0, 0, 0, 0, 0)), (.ifCond .ne 5, (0, 9, 0, 0, 0)), (.iconst 0, (0, 0, 0, 0, 0)), (.ireturn, (0, 0, 0, 0, 0)), (.aload_n 0, (0, 0, 0, 0, 0)), (.ldc 42, (2, 0, 0, 0, 0)), (.invokevirtual 44, (0, 0, 0, 0, 0)), (.istore_n 2, (0, 0, 0, 0, 0)), (.iload_n 2, (0, 0, 0, 0, 0)), (.ifCond .ne 14, (0, 31, 0, 0, 0)), (.aload_n 0, (0, 0, 0, 0, 0)), (.aload_n 1, (0, 0, 0, 0, 0)), (.getfield 48, (2, 0, 0, 0, 0)), (.invokevirtual 54, (0, 0, 0, 0, 0)), (.ifCond .eq 7, (0, 35, 0, 0, 0)), (.iconst 1, (0, 0, 0, 1, 0)), (.goto 4, (0, 36, 0, 0, 0)), (.iconst 0, (0, 0, 0, 0, 0)), (.istore_n 3, (0, 0, 0, 0, 0)), (.aload_n 0, (0, 0, 0, 0, 0)), (.invokevirtual 57, (0, 0, 0, 0, 0)), (.ifCond .eq 7, (0, 48, 0, 0, 0)), (.iload_n 2, (0, 0, 0, 0, 0)), (.ifCond .eq 19, (0, 64, 0, 0, 0)), (.aload_n 0, (0, 0, 0, 0, 0)), (.bipush 47, (0, 0, 0, 47, 0)), (.invokevirtual 60, (0, 0, 0, 0, 0)), (.ifCond .eq 10, (0, 64, 0, 0, 0)), (.aload_n 0, (0, 0, 0, 0, 0)), (.invokevirtual 39, (0, 0, 0, 0, 0)), (.ifCond .ne 5, (0, 66, 0, 0, 0)), (.iconst 0, (0, 0, 0, 0, 0)), (.ireturn, (0, 0, 0, 0, 0)), (.aload_n 0, (0, 0, 0, 0, 0)), (.ldc 42, (2, 0, 0, 0, 0)), (.invokevirtual 44, (0, 0, 0, 0, 0)), (.istore 4, (0, 0, 0, 0, 0)), (.iload 4, (0, 0, 0, 0, 0)), (.ifCond .ne 16, (0, 92, 0, 0, 0)), (.iload_n 2, (0, 0, 0, 0, 0)), (.ifCond .ne 10, (0, 90, 0, 0, 0)), (.aload_n 0, (0, 0, 0, 0, 0)), (.invokevirtual 57, (0, 0, 0, 0, 0)), (.ifCond .eq 5, (0, 92, 0, 0, 0)), (.iconst 0, (0, 0, 0, 0, 0)), (.ireturn, (0, 0, 0, 0, 0)), (.aload_n 0, (0, 0, 0, 0, 0)), (.iload_n 3, (0, 0, 0, 0, 0)), (.ifCond .eq 23, (0, 117, 0, 0, 0)), (.iload 4, (0, 0, 0, 0, 0)), (.ifCond .ne 14, (0, 113, 0, 0, 0)), (.aload_n 0, (0, 0, 0, 0, 0)), (.aload_n 1, (0, 0, 0, 0, 0)), (.getfield 64, (2, 0, 0, 0, 0)), (.invokevirtual 54, (0, 0, 0, 0, 0)), (.ifCond .eq 7, (0, 117, 0, 0, 0)), (.iconst 1, (0, 0, 0, 1, 0)), (.goto 4, (0, 118, 0, 0, 0)), (.iconst 0, (0, 0, 0, 0, 0)), (.putfield 67, (1, 0, 7, 0, 0)), (.aload_n 0, (0, 0, 0, 0, 0)), (.iload_n 2, (0, 0, 0, 0, 0)), (.ifCond .eq 7, (0, 130, 0, 0, 0)), (.iconst 0, (0, 0, 0, 0, 0)), (.goto 4, (0, 131, 0, 0, 0)), (.iconst 1, (0, 0, 0, 1, 0)), (.iload 4, (0, 0, 0, 0, 0)), (.ifCond .eq 7, (0, 140, 0, 0, 0)), (.iconst 0, (0, 0, 0, 0, 0)), (.goto 4, (0, 141, 0, 0, 0)), (.iconst 1, (0, 0, 0, 1, 0)), (.iadd, (0, 0, 0, 0, 0)), (.putfield 71, (1, 0, 8, 0, 0)), (.iconst 1, (0, 0, 0, 1, 0)), (.ireturn, (0, 0, 0, 0, 0))]
theorem jc_Ac_readTokens : wq_c b_Ac_readTokens 5 j_Ac_readTokens 0 = true := sorry
def j_Ac_readParameters : wq_J := [(.aload_n 0, (0, 0, 0, 0, 0)), (.sipush 1000, (0, 0, 0, 1000, 0)), (.putfield 74, (1, 0, 9, 0, 0)), (.iconst 0, (0, 0, 0, 0, 0)), (.istore_n 2, (0, 0, 0, 0, 0)), (.iload_n 2, (0, 0, 0, 0, 0)), (.bipush 96, (0, 0, 0, 96, 0)), (.if_icmp .ge 143, (0, 155, 0, 0, 0)), (.aload_n 0, (0, 0, 0, 0, 0)), (.invokevirtual 77, (0, 0, 0, 0, 0)), (.ifCond .eq 136, (0, 155, 0, 0, 0)), (.aload_n 0, (0, 0, 0, 0, 0)), (.invokevirtual 39, (0, 0, 0, 0, 0)), (.ifCond .ne 5, (0, 31, 0, 0, 0)), (.iconst 0, (0, 0, 0, 0, 0)), (.ireturn, (0, 0, 0, 0, 0)), (.aload_n 0, (0, 0, 0, 0, 0)), (.ldc 80, (2, 0, 0, 0, 0)), (.invokevirtual 54, (0, 0, 0, 0, 0)), (.ifCond .eq 25, (0, 62, 0, 0, 0)), (.aload_n 0, (0, 0, 0, 0, 0)), (.aload_n 0, (0, 0, 0, 0, 0)), (.invokevirtual 82, (0, 0, 0, 0, 0)), (.putfield 74, (1, 0, 9, 0, 0)), (.aload_n 0, (0, 0, 0, 0, 0)), (.getfield 74, (1, 0, 9, 0, 0)), (.iconst (-1), (0, 0, 0, (-1), 0)), (.if_icmp .eq 7, (0, 60, 0, 0, 0)), (.iconst 1, (0, 0, 0, 1, 0)), (.goto 4, (0, 61, 0, 0, 0)), (.iconst 0, (0, 0, 0, 0, 0)), (.ireturn, (0, 0, 0, 0, 0)), (.aload_n 0, (0, 0, 0, 0, 0)), (.aload_n 1, (0, 0, 0, 0, 0)), (.getfield 86, (2, 0, 0, 0, 0)), (.invokevirtual 54, (0, 0, 0, 0, 0)), (.istore_n 3, (0, 0, 0, 0, 0)), (.aload_n 0, (0, 0, 0, 0, 0)), (.bipush 61, (0, 0, 0, 61, 0)), (.invokevirtual 60, (0, 0, 0, 0, 0)), (.ifCond .eq 29, (0, 106, 0, 0, 0)), (.aload_n 0, (0, 0, 0, 0, 0)), (.bipush 34, (0, 0, 0, 34, 0)), (.invokevirtual 89, (0, 0, 0, 0, 0)), (.ifCond .eq 13, (0, 99, 0, 0, 0)), (.aload_n 0, (0, 0, 0, 0, 0)), (.invokevirtual 92, (0, 0, 0, 0, 0)), (.ifCond .eq 13, (0, 106, 0, 0, 0)), (.goto 12, (0, 108, 0, 0, 0)), (.aload_n 0, (0, 0, 0, 0, 0)), (.invokevirtual 39, (0, 0, 0, 0, 0)), (.ifCond .ne 5, (0, 108, 0, 0, 0)), (.iconst 0, (0, 0, 0, 0, 0)), (.ireturn, (0, 0, 0, 0, 0)), (.aload_n 0, (0, 0, 0, 0, 0)), (.aload_n 0, (0, 0, 0, 0, 0)), (.getfield 67, (1, 0, 7, 0, 0)), (.ifCond .eq 22, (0, 135, 0, 0, 0)), (.iload_n 3, (0, 0, 0, 0, 0)), (.ifCond .eq 18, (0, 135, 0, 0, 0)), (.aload_n 0, (0, 0, 0, 0, 0)), (.aload_n 1, (0, 0, 0, 0, 0)), (.getfield 95, (2, 0, 0, 0, 0)), (.invokevirtual 44, (0, 0, 0, 0, 0)), (.ifCond .eq 7, (0, 135, 0, 0, 0)), (.iconst 1, (0, 0, 0, 1, 0)), (.goto 4, (0, 136, 0, 0, 0)), (.iconst 0, (0, 0, 0, 0, 0)), (.putfield 67, (1, 0, 7, 0, 0)), (.aload_n 0, (0, 0, 0, 0, 0)), (.dup, (0, 0, 0, 0, 0)), (.getfield 71, (1, 0, 8, 0, 0)), (.iconst 1, (0, 0, 0, 1, 0)), (.iadd, (0, 0, 0, 0, 0)), (.putfield 71, (1, 0, 8, 0, 0)), (.iinc 2 1, (0, 0, 0, 1, 0)), (.goto (-143), (0, 9, 0, 0, 0)), (.iconst 1, (0, 0, 0, 1, 0)), (.ireturn, (0, 0, 0, 0, 0))]
theorem jc_Ac_readParameters : wq_c b_Ac_readParameters 4 j_Ac_readParameters 0 = true := sorry
def j_Ac_weigh : wq_J := [(.aload_n 0, (0, 0, 0, 0, 0)), (.getfield 67, (1, 0, 7, 0, 0)), (.ifCond .eq 30, (0, 34, 0, 0, 0)), (.aload_n 0, (0, 0, 0, 0, 0)), (.getfield 71, (1, 0, 8, 0, 0)), (.aload_n 0, (0, 0, 0, 0, 0)), (.getfield 19, (1, 0, 6, 0, 0)), (.if_icmp .le 19, (0, 34, 0, 0, 0)), (.aload_n 0, (0, 0, 0, 0, 0)), (.aload_n 0, (0, 0, 0, 0, 0)), (.getfield 71, (1, 0, 8, 0, 0)), (.putfield 19, (1, 0, 6, 0, 0)), (.aload_n 0, (0, 0, 0, 0, 0)), (.aload_n 0, (0, 0, 0, 0, 0)), (.getfield 74, (1, 0, 9, 0, 0)), (.putfield 15, (1, 0, 5, 0, 0)), (.return_, (0, 0, 0, 0, 0))]
theorem jc_Ac_weigh : wq_c b_Ac_weigh 1 j_Ac_weigh 0 = true := sorry
def j_Da_init : wq_J := [(.aload_n 0, (0, 0, 0, 0, 0)), (.invokespecial 3, (0, 0, 0, 0, 0)), (.aload_n 0, (0, 0, 0, 0, 0)), (.lload_n 1, (0, 0, 0, 0, 0)), (.invokestatic 9, (0, 0, 0, 0, 0)), (.bipush 50, (0, 0, 0, 50, 0)), (.iadd, (0, 0, 0, 0, 0)), (.putfield 15, (3, 0, 5, 0, 0)), (.return_, (0, 0, 0, 0, 0))]
theorem jc_Da_init : wq_c b_Da_init 3 j_Da_init 0 = true := sorry
def j_Da_timeOf : wq_J := [(.aload_n 0, (0, 0, 0, 0, 0)), (.aload_n 1, (0, 0, 0, 0, 0)), (.iload_n 2, (0, 0, 0, 0, 0)), (.invokevirtual 19, (0, 0, 0, 0, 0)), (.aload_n 0, (0, 0, 0, 0, 0)), (.invokevirtual 23, (0, 0, 0, 0, 0)), (.aload_n 0, (0, 0, 0, 0, 0)), (.ldc 26, (2, 0, 0, 0, 0)), (.invokevirtual 28, (0, 0, 0, 0, 0)), (.istore_n 3, (0, 0, 0, 0, 0)), (.iload_n 3, (0, 0, 0, 0, 0)), (.iconst (-1), (0, 0, 0, (-1), 0)), (.if_icmp .ne 7, (0, 26, 0, 0, 0)), (.ldc2_w 32, (1, 0, 0, 0, (-1))), (.lreturn, (0, 0, 0, 0, 0)), (.aload_n 0, (0, 0, 0, 0, 0)), (.bipush 44, (0, 0, 0, 44, 0)), (.invokevirtual 34, (0, 0, 0, 0, 0)), (.ifCond .eq 12, (0, 44, 0, 0, 0)), (.aload_n 0, (0, 0, 0, 0, 0)), (.invokevirtual 38, (0, 0, 0, 0, 0)), (.istore 4, (0, 0, 0, 0, 0)), (.goto 46, (0, 87, 0, 0, 0)), (.aload_n 0, (0, 0, 0, 0, 0)), (.bipush 32, (0, 0, 0, 32, 0)), (.invokevirtual 34, (0, 0, 0, 0, 0)), (.ifCond .eq 12, (0, 62, 0, 0, 0)), (.aload_n 0, (0, 0, 0, 0, 0)), (.invokevirtual 42, (0, 0, 0, 0, 0)), (.istore 4, (0, 0, 0, 0, 0)), (.goto 28, (0, 87, 0, 0, 0)), (.aload_n 0, (0, 0, 0, 0, 0)), (.iload_n 3, (0, 0, 0, 0, 0)), (.invokestatic 45, (0, 0, 0, 0, 0)), (.invokevirtual 49, (0, 0, 0, 0, 0)), (.ifCond .eq 14, (0, 84, 0, 0, 0)), (.aload_n 0, (0, 0, 0, 0, 0)), (.invokevirtual 53, (0, 0, 0, 0, 0)), (.ifCond .eq 7, (0, 84, 0, 0, 0)), (.iconst 1, (0, 0, 0, 1, 0)), (.goto 4, (0, 85, 0, 0, 0)), (.iconst 0, (0, 0, 0, 0, 0)), (.istore 4, (0, 0, 0, 0, 0)), (.aload_n 0, (0, 0, 0, 0, 0)), (.invokevirtual 23, (0, 0, 0, 0, 0)), (.iload 4, (0, 0, 0, 0, 0)), (.ifCond .eq 24, (0, 117, 0, 0, 0)), (.aload_n 0, (0, 0, 0, 0, 0)), (.invokevirtual 56, (0, 0, 0, 0, 0)), (.ifCond .eq 17, (0, 117, 0, 0, 0)), (.aload_n 0, (0, 0, 0, 0, 0)), (.invokevirtual 59, (0, 0, 0, 0, 0)), (.ifCond .eq 10, (0, 117, 0, 0, 0)), (.aload_n 0, (0, 0, 0, 0, 0)), (.invokevirtual 62, (0, 0, 0, 0, 0)), (.goto 6, (0, 120, 0, 0, 0)), (.ldc2_w 32, (1, 0, 0, 0, (-1))), (.lreturn, (0, 0, 0, 0, 0))]
theorem jc_Da_timeOf : wq_c b_Da_timeOf 5 j_Da_timeOf 0 = true := sorry
def j_Da_takeCommaForm : wq_J := [(.aload_n 0, (0, 0, 0, 0, 0)), (.bipush 32, (0, 0, 0, 32, 0)), (.invokevirtual 34, (0, 0, 0, 0, 0)), (.ifCond .eq 46, (0, 52, 0, 0, 0)), (.aload_n 0, (0, 0, 0, 0, 0)), (.invokevirtual 66, (0, 0, 0, 0, 0)), (.ifCond .eq 39, (0, 52, 0, 0, 0)), (.aload_n 0, (0, 0, 0, 0, 0)), (.bipush 32, (0, 0, 0, 32, 0)), (.invokevirtual 34, (0, 0, 0, 0, 0)), (.ifCond .eq 30, (0, 52, 0, 0, 0)), (.aload_n 0, (0, 0, 0, 0, 0)), (.invokevirtual 69, (0, 0, 0, 0, 0)), (.ifCond .eq 23, (0, 52, 0, 0, 0)), (.aload_n 0, (0, 0, 0, 0, 0)), (.bipush 32, (0, 0, 0, 32, 0)), (.invokevirtual 34, (0, 0, 0, 0, 0)), (.ifCond .eq 14, (0, 52, 0, 0, 0)), (.aload_n 0, (0, 0, 0, 0, 0)), (.invokevirtual 72, (0, 0, 0, 0, 0)), (.ifCond .eq 7, (0, 52, 0, 0, 0)), (.iconst 1, (0, 0, 0, 1, 0)), (.goto 4, (0, 53, 0, 0, 0)), (.iconst 0, (0, 0, 0, 0, 0)), (.istore_n 1, (0, 0, 0, 0, 0)), (.iload_n 1, (0, 0, 0, 0, 0)), (.ifCond .eq 32, (0, 87, 0, 0, 0)), (.aload_n 0, (0, 0, 0, 0, 0)), (.bipush 32, (0, 0, 0, 32, 0)), (.invokevirtual 34, (0, 0, 0, 0, 0)), (.ifCond .eq 23, (0, 87, 0, 0, 0)), (.aload_n 0, (0, 0, 0, 0, 0)), (.invokevirtual 75, (0, 0, 0, 0, 0)), (.ifCond .eq 16, (0, 87, 0, 0, 0)), (.aload_n 0, (0, 0, 0, 0, 0)), (.ldc 78, (2, 0, 0, 0, 0)), (.invokevirtual 49, (0, 0, 0, 0, 0)), (.ifCond .eq 7, (0, 87, 0, 0, 0)), (.iconst 1, (0, 0, 0, 1, 0)), (.goto 4, (0, 88, 0, 0, 0)), (.iconst 0, (0, 0, 0, 0, 0)), (.ireturn, (0, 0, 0, 0, 0))]
theorem jc_Da_takeCommaForm : wq_c b_Da_takeCommaForm 2 j_Da_takeCommaForm 0 = true := sorry
def j_Da_takeDashForm : wq_J := [(.aload_n 0, (0, 0, 0, 0, 0)), (.ldc 80, (2, 0, 0, 0, 0)), (.invokevirtual 49, (0, 0, 0, 0, 0)), (.ifCond .eq 46, (0, 52, 0, 0, 0)), (.aload_n 0, (0, 0, 0, 0, 0)), (.invokevirtual 66, (0, 0, 0, 0, 0)), (.ifCond .eq 39, (0, 52, 0, 0, 0)), (.aload_n 0, (0, 0, 0, 0, 0)), (.bipush 45, (0, 0, 0, 45, 0)), (.invokevirtual 34, (0, 0, 0, 0, 0)), (.ifCond .eq 30, (0, 52, 0, 0, 0)), (.aload_n 0, (0, 0, 0, 0, 0)), (.invokevirtual 69, (0, 0, 0, 0, 0)), (.ifCond .eq 23, (0, 52, 0, 0, 0)), (.aload_n 0, (0, 0, 0, 0, 0)), (.bipush 45, (0, 0, 0, 45, 0)), (.invokevirtual 34, (0, 0, 0, 0, 0)), (.ifCond .eq 14, (0, 52, 0, 0, 0)), (.aload_n 0, (0, 0, 0, 0, 0)), (.invokevirtual 82, (0, 0, 0, 0, 0)), (.ifCond .eq 7, (0, 52, 0, 0, 0)), (.iconst 1, (0, 0, 0, 1, 0)), (.goto 4, (0, 53, 0, 0, 0)), (.iconst 0, (0, 0, 0, 0, 0)), (.istore_n 1, (0, 0, 0, 0, 0)), (.iload_n 1, (0, 0, 0, 0, 0)), (.ifCond .eq 32, (0, 87, 0, 0, 0)), (.aload_n 0, (0, 0, 0, 0, 0)), (.bipush 32, (0, 0, 0, 32, 0)), (.invokevirtual 34, (0, 0, 0, 0, 0)), (.ifCond .eq 23, (0, 87, 0, 0, 0)), (.aload_n 0, (0, 0, 0, 0, 0)), (.invokevirtual 75, (0, 0, 0, 0, 0)), (.ifCond .eq 16, (0, 87, 0, 0, 0)), (.aload_n 0, (0, 0, 0, 0, 0)), (.ldc 78, (2, 0, 0, 0, 0)), (.invokevirtual 49, (0, 0, 0, 0, 0)), (.ifCond .eq 7, (0, 87, 0, 0, 0)), (.iconst 1, (0, 0, 0, 1, 0)), (.goto 4, (0, 88, 0, 0, 0)), (.iconst 0, (0, 0, 0, 0, 0)), (.ireturn, (0, 0, 0, 0, 0))]
theorem jc_Da_takeDashForm : wq_c b_Da_takeDashForm 2 j_Da_takeDashForm 0 = true := sorry
def j_Da_takeSpaceForm : wq_J := [(.aload_n 0, (0, 0, 0, 0, 0)), (.invokevirtual 69, (0, 0, 0, 0, 0)), (.ifCond .eq 32, (0, 36, 0, 0, 0)), (.aload_n 0, (0, 0, 0, 0, 0)), (.bipush 32, (0, 0, 0, 32, 0)), (.invokevirtual 34, (0, 0, 0, 0, 0)), (.ifCond .eq 23, (0, 36, 0, 0, 0)), (.aload_n 0, (0, 0, 0, 0, 0)), (.invokevirtual 85, (0, 0, 0, 0, 0)), (.ifCond .eq 16, (0, 36, 0, 0, 0)), (.aload_n 0, (0, 0, 0, 0, 0)), (.bipush 32, (0, 0, 0, 32, 0)), (.invokevirtual 34, (0, 0, 0, 0, 0)), (.ifCond .eq 7, (0, 36, 0, 0, 0)), (.iconst 1, (0, 0, 0, 1, 0)), (.goto 4, (0, 37, 0, 0, 0)), (.iconst 0, (0, 0, 0, 0, 0)), (.istore_n 1, (0, 0, 0, 0, 0)), (.iload_n 1, (0, 0, 0, 0, 0)), (.ifCond .eq 30, (0, 69, 0, 0, 0)), (.aload_n 0, (0, 0, 0, 0, 0)), (.invokevirtual 75, (0, 0, 0, 0, 0)), (.ifCond .eq 23, (0, 69, 0, 0, 0)), (.aload_n 0, (0, 0, 0, 0, 0)), (.bipush 32, (0, 0, 0, 32, 0)), (.invokevirtual 34, (0, 0, 0, 0, 0)), (.ifCond .eq 14, (0, 69, 0, 0, 0)), (.aload_n 0, (0, 0, 0, 0, 0)), (.invokevirtual 72, (0, 0, 0, 0, 0)), (.ifCond .eq 7, (0, 69, 0, 0, 0)), (.iconst 1, (0, 0, 0, 1, 0)), (.goto 4, (0, 70, 0, 0, 0)), (.iconst 0, (0, 0, 0, 0, 0)), (.ireturn, (0, 0, 0, 0, 0))]
theorem jc_Da_takeSpaceForm : wq_c b_Da_takeSpaceForm 2 j_Da_takeSpaceForm 0 = true := sorry
def j_Da_restOfName : wq_J := [(.iload_n 0, (0, 0, 0, 0, 0)), (.tableswitch 47 2 6 #[35, 38, 41, 47, 44], (0, 35, 0, 0, 0)), (.ldc 88, (2, 0, 0, 0, 0)), (.areturn, (0, 0, 0, 0, 0)), (.ldc 90, (2, 0, 0, 0, 0)), (.areturn, (0, 0, 0, 0, 0)), (.ldc 92, (2, 0, 0, 0, 0)), (.areturn, (0, 0, 0, 0, 0)), (.ldc 94, (2, 0, 0, 0, 0)), (.areturn, (0, 0, 0, 0, 0)), (.ldc 96, (2, 0, 0, 0, 0)), (.areturn, (0, 0, 0, 0, 0))]
theorem jc_Da_restOfName : wq_c b_Da_restOfName 1 j_Da_restOfName 0 = true := sorry
def j_Da_takeDay : wq_J := [(.aload_n 0, (0, 0, 0, 0, 0)), (.aload_n 0, (0, 0, 0, 0, 0)), (.iconst 2, (0, 0, 0, 2, 0)), (.invokevirtual 98, (0, 0, 0, 0, 0)), (.putfield 102, (1, 0, 8, 0, 0)), (.aload_n 0, (0, 0, 0, 0, 0)), (.getfield 102, (1, 0, 8, 0, 0)), (.iconst (-1), (0, 0, 0, (-1), 0)), (.if_icmp .eq 7, (0, 21, 0, 0, 0)), (.iconst 1, (0, 0, 0, 1, 0)), (.goto 4, (0, 22, 0, 0, 0)), (.iconst 0, (0, 0, 0, 0, 0)), (.ireturn, (0, 0, 0, 0, 0))]
theorem jc_Da_takeDay : wq_c b_Da_takeDay 1 j_Da_takeDay 0 = true := sorry
def j_Da_takeSpacedDay : wq_J := [(.aload_n 0, (0, 0, 0, 0, 0)), (.bipush 32, (0, 0, 0, 32, 0)), (.invokevirtual 34, (0, 0, 0, 0, 0)), (.istore_n 1, (0, 0, 0, 0, 0)), (.aload_n 0, (0, 0, 0, 0, 0)), (.aload_n 0, (0, 0, 0, 0, 0)), (.iload_n 1, (0, 0, 0, 0, 0)), (.ifCond .eq 7, (0, 17, 0, 0, 0)), (.iconst 1, (0, 0, 0, 1, 0)), (.goto 4, (0, 18, 0, 0, 0)), (.iconst 2, (0, 0, 0, 2, 0)), (.invokevirtual 98, (0, 0, 0, 0, 0)), (.putfield 102, (1, 0, 8, 0, 0)), (.iload_n 1, (0, 0, 0, 0, 0)), (.ifCond .eq 19, (0, 44, 0, 0, 0)), (.aload_n 0, (0, 0, 0, 0, 0)), (.getfield 102, (1, 0, 8, 0, 0)), (.iconst (-1), (0, 0, 0, (-1), 0)), (.if_icmp .eq 7, (0, 40, 0, 0, 0)), (.iconst 1, (0, 0, 0, 1, 0)), (.goto 21, (0, 58, 0, 0, 0)), (.iconst 0, (0, 0, 0, 0, 0)), (.goto 17, (0, 58, 0, 0, 0)), (.aload_n 0, (0, 0, 0, 0, 0)), (.getfield 102, (1, 0, 8, 0, 0)), (.bipush 10, (0, 0, 0, 10, 0)), (.if_icmp .lt 7, (0, 57, 0, 0, 0)), (.iconst 1, (0, 0, 0, 1, 0)), (.goto 4, (0, 58, 0, 0, 0)), (.iconst 0, (0, 0, 0, 0, 0)), (.ireturn, (0, 0, 0, 0, 0))]
theorem jc_Da_takeSpacedDay : wq_c b_Da_takeSpacedDay 2 j_Da_takeSpacedDay 0 = true := sorry
def j_Da_takeMonth : wq_J := [(.aload_n 0, (0, 0, 0, 0, 0)), (.aload_n 0, (0, 0, 0, 0, 0)), (.ldc 104, (2, 0, 0, 0, 0)), (.invokevirtual 28, (0, 0, 0, 0, 0)), (.putfield 106, (1, 0, 7, 0, 0)), (.aload_n 0, (0, 0, 0, 0, 0)), (.getfield 106, (1, 0, 7, 0, 0)), (.iconst (-1), (0, 0, 0, (-1), 0)), (.if_icmp .eq 7, (0, 22, 0, 0, 0)), (.iconst 1, (0, 0, 0, 1, 0)), (.goto 4, (0, 23, 0, 0, 0)), (.iconst 0, (0, 0, 0, 0, 0)), (.ireturn, (0, 0, 0, 0, 0))]
theorem jc_Da_takeMonth : wq_c b_Da_takeMonth 1 j_Da_takeMonth 0 = true := sorry
def j_Da_takeYear : wq_J := [(.aload_n 0, (0, 0, 0, 0, 0)), (.aload_n 0, (0, 0, 0, 0, 0)), (.iconst 4, (0, 0, 0, 4, 0)), (.invokevirtual 98, (0, 0, 0, 0, 0)), (.putfield 109, (1, 0, 6, 0, 0)), (.aload_n 0, (0, 0, 0, 0, 0)), (.getfield 109, (1, 0, 6, 0, 0)), (.iconst (-1), (0, 0, 0, (-1), 0)), (.if_icmp .eq 7, (0, 21, 0, 0, 0)), (.iconst 1, (0, 0, 0, 1, 0)), (.goto 4, (0, 22, 0, 0, 0)), (.iconst 0, (0, 0, 0, 0, 0)), (.ireturn, (0, 0, 0, 0, 0))]
theorem jc_Da_takeYear : wq_c b_Da_takeYear 1 j_Da_takeYear 0 = true := sorry
def j_Da_takeShortYear : wq_J := [(.aload_n 0, (0, 0, 0, 0, 0)), (.iconst 2, (0, 0, 0, 2, 0)), (.invokevirtual 98, (0, 0, 0, 0, 0)), (.istore_n 1, (0, 0, 0, 0, 0)), (.aload_n 0, (0, 0, 0, 0, 0)), (.sipush 2000, (0, 0, 0, 2000, 0)), (.iload_n 1, (0, 0, 0, 0, 0)), (.iadd, (0, 0, 0, 0, 0)), (.aload_n 0, (0, 0, 0, 0, 0)), (.getfield 15, (1, 0, 5, 0, 0)), (.if_icmp .le 11, (0, 27, 0, 0, 0)), (.sipush 1900, (0, 0, 0, 1900, 0)), (.iload_n 1, (0, 0, 0, 0, 0)), (.iadd, (0, 0, 0, 0, 0)), (.goto 8, (0, 32, 0, 0, 0)), (.sipush 2000, (0, 0, 0, 2000, 0)), (.iload_n 1, (0, 0, 0, 0, 0)), (.iadd, (0, 0, 0, 0, 0)), (.putfield 109, (1, 0, 6, 0, 0)), (.iload_n 1, (0, 0, 0, 0, 0)), (.iconst (-1), (0, 0, 0, (-1), 0)), (.if_icmp .eq 7, (0, 44, 0, 0, 0)), (.iconst 1, (0, 0, 0, 1, 0)), (.goto 4, (0, 45, 0, 0, 0)), (.iconst 0, (0, 0, 0, 0, 0)), (.ireturn, (0, 0, 0, 0, 0))]
theorem jc_Da_takeShortYear : wq_c b_Da_takeShortYear 2 j_Da_takeShortYear 0 = true := sorry
def j_Da_takeClock : wq_J := [(.aload_n 0, (0, 0, 0, 0, 0)), (.iconst 2, (0, 0, 0, 2, 0)), (.invokevirtual 98, (0, 0, 0, 0, 0)), (.istore_n 1, (0, 0, 0, 0, 0)), (.iload_n 1, (0, 0, 0, 0, 0)), (.iconst (-1), (0, 0, 0, (-1), 0)), (.if_icmp .eq 18, (0, 26, 0, 0, 0)), (.iload_n 1, (0, 0, 0, 0, 0)), (.bipush 23, (0, 0, 0, 23, 0)), (.if_icmp .gt 12, (0, 26, 0, 0, 0)), (.aload_n 0, (0, 0, 0, 0, 0)), (.bipush 58, (0, 0, 0, 58, 0)), (.invokevirtual 34, (0, 0, 0, 0, 0)), (.ifCond .ne 5, (0, 28, 0, 0, 0)), (.iconst 0, (0, 0, 0, 0, 0)), (.ireturn, (0, 0, 0, 0, 0)), (.aload_n 0, (0, 0, 0, 0, 0)), (.iconst 2, (0, 0, 0, 2, 0)), (.invokevirtual 98, (0, 0, 0, 0, 0)), (.istore_n 2, (0, 0, 0, 0, 0)), (.iload_n 2, (0, 0, 0, 0, 0)), (.iconst (-1), (0, 0, 0, (-1), 0)), (.if_icmp .eq 18, (0, 54, 0, 0, 0)), (.iload_n 2, (0, 0, 0, 0, 0)), (.bipush 59, (0, 0, 0, 59, 0)), (.if_icmp .gt 12, (0, 54, 0, 0, 0)), (.aload_n 0, (0, 0, 0, 0, 0)), (.bipush 58, (0, 0, 0, 58, 0)), (.invokevirtual 34, (0, 0, 0, 0, 0)), (.ifCond .ne 5, (0, 56, 0, 0, 0)), (.iconst 0, (0, 0, 0, 0, 0)), (.ireturn, (0, 0, 0, 0, 0)), (.aload_n 0, (0, 0, 0, 0, 0)), (.iconst 2, (0, 0, 0, 2, 0)), (.invokevirtual 98, (0, 0, 0, 0, 0)), (.istore_n 3, (0, 0, 0, 0, 0)), (.aload_n 0, (0, 0, 0, 0, 0)), (.sipush 3600, (0, 0, 0, 3600, 0)), (.iload_n 1, (0, 0, 0, 0, 0)), (.imul, (0, 0, 0, 0, 0)), (.bipush 60, (0, 0, 0, 60, 0)), (.iload_n 2, (0, 0, 0, 0, 0)), (.imul, (0, 0, 0, 0, 0)), (.iadd, (0, 0, 0, 0, 0)), (.iload_n 3, (0, 0, 0, 0, 0)), (.iadd, (0, 0, 0, 0, 0)), (.putfield 112, (1, 0, 9, 0, 0)), (.iload_n 3, (0, 0, 0, 0, 0)), (.iconst (-1), (0, 0, 0, (-1), 0)), (.if_icmp .eq 13, (0, 93, 0, 0, 0)), (.iload_n 3, (0, 0, 0, 0, 0)), (.bipush 59, (0, 0, 0, 59, 0)), (.if_icmp .gt 7, (0, 93, 0, 0, 0)), (.iconst 1, (0, 0, 0, 1, 0)), (.goto 4, (0, 94, 0, 0, 0)), (.iconst 0, (0, 0, 0, 0, 0)), (.ireturn, (0, 0, 0, 0, 0))]
theorem jc_Da_takeClock : wq_c b_Da_takeClock 4 j_Da_takeClock 0 = true := sorry
def j_Da_isInCalendar : wq_J := [(.aload_n 0, (0, 0, 0, 0, 0)), (.getfield 109, (1, 0, 6, 0, 0)), (.sipush 1970, (0, 0, 0, 1970, 0)), (.if_icmp .lt 43, (0, 50, 0, 0, 0)), (.aload_n 0, (0, 0, 0, 0, 0)), (.getfield 109, (1, 0, 6, 0, 0)), (.sipush 2099, (0, 0, 0, 2099, 0)), (.if_icmp .gt 33, (0, 50, 0, 0, 0)), (.aload_n 0, (0, 0, 0, 0, 0)), (.getfield 102, (1, 0, 8, 0, 0)), (.iconst 1, (0, 0, 0, 1, 0)), (.if_icmp .lt 25, (0, 50, 0, 0, 0)), (.aload_n 0, (0, 0, 0, 0, 0)), (.getfield 102, (1, 0, 8, 0, 0)), (.aload_n 0, (0, 0, 0, 0, 0)), (.getfield 106, (1, 0, 7, 0, 0)), (.aload_n 0, (0, 0, 0, 0, 0)), (.getfield 109, (1, 0, 6, 0, 0)), (.invokestatic 115, (0, 0, 0, 0, 0)), (.if_icmp .gt 7, (0, 50, 0, 0, 0)), (.iconst 1, (0, 0, 0, 1, 0)), (.goto 4, (0, 51, 0, 0, 0)), (.iconst 0, (0, 0, 0, 0, 0)), (.ireturn, (0, 0, 0, 0, 0))]
theorem jc_Da_isInCalendar : wq_c b_Da_isInCalendar 1 j_Da_isInCalendar 0 = true := sorry
def j_Da_time : wq_J := [(.aload_n 0, (0, 0, 0, 0, 0)), (.getfield 109, (1, 0, 6, 0, 0)), (.invokestatic 119, (0, 0, 0, 0, 0)), (.aload_n 0, (0, 0, 0, 0, 0)), (.getfield 102, (1, 0, 8, 0, 0)), (.iadd, (0, 0, 0, 0, 0)), (.iconst 1, (0, 0, 0, 1, 0)), (.isub, (0, 0, 0, 0, 0)), (.i2l, (0, 0, 0, 0, 0)), (.lstore_n 1, (0, 0, 0, 0, 0)), (.iconst 0, (0, 0, 0, 0, 0)), (.istore_n 3, (0, 0, 0, 0, 0)), (.iload_n 3, (0, 0, 0, 0, 0)), (.aload_n 0, (0, 0, 0, 0, 0)), (.getfield 106, (1, 0, 7, 0, 0)), (.if_icmp .ge 21, (0, 44, 0, 0, 0)), (.lload_n 1, (0, 0, 0, 0, 0)), (.iload_n 3, (0, 0, 0, 0, 0)), (.aload_n 0, (0, 0, 0, 0, 0)), (.getfield 109, (1, 0, 6, 0, 0)), (.invokestatic 115, (0, 0, 0, 0, 0)), (.i2l, (0, 0, 0, 0, 0)), (.ladd, (0, 0, 0, 0, 0)), (.lstore_n 1, (0, 0, 0, 0, 0)), (.iinc 3 1, (0, 0, 0, 1, 0)), (.goto (-23), (0, 18, 0, 0, 0)), (.ldc2_w 122, (1, 0, 0, 0, 86400)), (.lload_n 1, (0, 0, 0, 0, 0)), (.lmul, (0, 0, 0, 0, 0)), (.aload_n 0, (0, 0, 0, 0, 0)), (.getfield 112, (1, 0, 9, 0, 0)), (.i2l, (0, 0, 0, 0, 0)), (.ladd, (0, 0, 0, 0, 0)), (.lreturn, (0, 0, 0, 0, 0))]
theorem jc_Da_time : wq_c b_Da_time 4 j_Da_time 0 = true := sorry
def j_Da_daysOf : wq_J := [(.iload_n 0, (0, 0, 0, 0, 0)), (.ifCond .lt 11, (0, 12, 0, 0, 0)), (.iload_n 0, (0, 0, 0, 0, 0)), (.getstatic 124, (2, 0, 0, 0, 0)), (.arraylength, (2, 0, 0, 0, 0)), (.if_icmp .lt 5, (0, 14, 0, 0, 0)), (.iconst 0, (0, 0, 0, 0, 0)), (.ireturn, (0, 0, 0, 0, 0)), (.iload_n 0, (0, 0, 0, 0, 0)), (.iconst 1, (0, 0, 0, 1, 0)), (.if_icmp .ne 14, (0, 30, 0, 0, 0)), (.iload_n 1, (0, 0, 0, 0, 0)), (.iconst 4, (0, 0, 0, 4, 0)), (.irem, (0, 0, 0, 0, 0)), (.ifCond .ne 8, (0, 30, 0, 0, 0)), (.bipush 29, (0, 0, 0, 29, 0)), (.goto 8, (0, 35, 0, 0, 0)), (.getstatic 124, (2, 0, 0, 0, 0)), (.iload_n 0, (0, 0, 0, 0, 0)), (.iaload, (2, 0, 0, 0, 0)), (.ireturn, (0, 0, 0, 0, 0))]
theorem jc_Da_daysOf : wq_c b_Da_daysOf 2 j_Da_daysOf 0 = true := sorry
def j_Da_daysBefore : wq_J := [(.sipush 365, (0, 0, 0, 365, 0)), (.iload_n 0, (0, 0, 0, 0, 0)), (.sipush 1970, (0, 0, 0, 1970, 0)), (.isub, (0, 0, 0, 0, 0)), (.imul, (0, 0, 0, 0, 0)), (.iload_n 0, (0, 0, 0, 0, 0)), (.sipush 1970, (0, 0, 0, 1970, 0)), (.isub, (0, 0, 0, 0, 0)), (.iconst 1, (0, 0, 0, 1, 0)), (.iadd, (0, 0, 0, 0, 0)), (.iconst 4, (0, 0, 0, 4, 0)), (.idiv, (0, 0, 0, 0, 0)), (.iadd, (0, 0, 0, 0, 0)), (.ireturn, (0, 0, 0, 0, 0))]
theorem jc_Da_daysBefore : wq_c b_Da_daysBefore 1 j_Da_daysBefore 0 = true := sorry
def j_Da_yearOf : wq_J := [(.lload_n 0, (0, 0, 0, 0, 0)), (.ldc2_w 122, (1, 0, 0, 0, 86400)), (.ldiv, (0, 0, 0, 0, 0)), (.lstore_n 2, (0, 0, 0, 0, 0)), (.sipush 1970, (0, 0, 0, 1970, 0)), (.istore 4, (0, 0, 0, 0, 0)), (.iload 4, (0, 0, 0, 0, 0)), (.sipush 2099, (0, 0, 0, 2099, 0)), (.if_icmp .ge 22, (0, 38, 0, 0, 0)), (.iload 4, (0, 0, 0, 0, 0)), (.iconst 1, (0, 0, 0, 1, 0)), (.iadd, (0, 0, 0, 0, 0)), (.invokestatic 119, (0, 0, 0, 0, 0)), (.i2l, (0, 0, 0, 0, 0)), (.lload_n 2, (0, 0, 0, 0, 0)), (.lcmp, (0, 0, 0, 0, 0)), (.ifCond .gt 9, (0, 38, 0, 0, 0)), (.iinc 4 1, (0, 0, 0, 1, 0)), (.goto (-24), (0, 11, 0, 0, 0)), (.iload 4, (0, 0, 0, 0, 0)), (.ireturn, (0, 0, 0, 0, 0))]
theorem jc_Da_yearOf : wq_c b_Da_yearOf 5 j_Da_yearOf 0 = true := sorry
def j_La_init : wq_J := [(.aload_n 0, (0, 0, 0, 0, 0)), (.invokespecial 3, (0, 0, 0, 0, 0)), (.return_, (0, 0, 0, 0, 0))]
theorem jc_La_init : wq_c b_La_init 1 j_La_init 0 = true := sorry
def j_La_read : wq_J := [(.aload_n 0, (0, 0, 0, 0, 0)), (.aload_n 1, (0, 0, 0, 0, 0)), (.iconst 1, (0, 0, 0, 1, 0)), (.invokevirtual 9, (0, 0, 0, 0, 0)), (.aload_n 0, (0, 0, 0, 0, 0)), (.iconst 0, (0, 0, 0, 0, 0)), (.putfield 15, (1, 0, 5, 0, 0)), (.aload_n 0, (0, 0, 0, 0, 0)), (.iconst (-1), (0, 0, 0, (-1), 0)), (.putfield 19, (1, 0, 6, 0, 0)), (.iconst 0, (0, 0, 0, 0, 0)), (.istore_n 3, (0, 0, 0, 0, 0)), (.iload_n 3, (0, 0, 0, 0, 0)), (.bipush 96, (0, 0, 0, 96, 0)), (.if_icmp .ge 33, (0, 54, 0, 0, 0)), (.aload_n 0, (0, 0, 0, 0, 0)), (.invokevirtual 22, (0, 0, 0, 0, 0)), (.ifCond .eq 26, (0, 54, 0, 0, 0)), (.aload_n 0, (0, 0, 0, 0, 0)), (.aload_n 2, (0, 0, 0, 0, 0)), (.invokevirtual 26, (0, 0, 0, 0, 0)), (.ifCond .eq 10, (0, 46, 0, 0, 0)), (.aload_n 0, (0, 0, 0, 0, 0)), (.invokevirtual 30, (0, 0, 0, 0, 0)), (.ifCond .ne 5, (0, 48, 0, 0, 0)), (.iconst 0, (0, 0, 0, 0, 0)), (.ireturn, (0, 0, 0, 0, 0)), (.iinc 3 1, (0, 0, 0, 1, 0)), (.goto (-33), (0, 18, 0, 0, 0)), (.iload_n 3, (0, 0, 0, 0, 0)), (.ifCond .le 7, (0, 62, 0, 0, 0)), (.iconst 1, (0, 0, 0, 1, 0)), (.goto 4, (0, 63, 0, 0, 0)), (.iconst 0, (0, 0, 0, 0, 0)), (.ireturn, (0, 0, 0, 0, 0))]
theorem jc_La_read : wq_c b_La_read 4 j_La_read 0 = true := sorry
def j_La_readRange : wq_J := [(.aload_n 0, (0, 0, 0, 0, 0)), (.invokevirtual 33, (0, 0, 0, 0, 0)), (.ifCond .ne 5, (0, 9, 0, 0, 0)), (.iconst 0, (0, 0, 0, 0, 0)), (.ireturn, (0, 0, 0, 0, 0)), (.sipush 1000, (0, 0, 0, 1000, 0)), (.istore_n 2, (0, 0, 0, 0, 0)), (.aload_n 0, (0, 0, 0, 0, 0)), (.invokevirtual 36, (0, 0, 0, 0, 0)), (.ifCond .eq 30, (0, 47, 0, 0, 0)), (.aload_n 0, (0, 0, 0, 0, 0)), (.bipush 113, (0, 0, 0, 113, 0)), (.invokevirtual 39, (0, 0, 0, 0, 0)), (.ifCond .ne 12, (0, 38, 0, 0, 0)), (.aload_n 0, (0, 0, 0, 0, 0)), (.bipush 81, (0, 0, 0, 81, 0)), (.invokevirtual 39, (0, 0, 0, 0, 0)), (.ifCond .eq 10, (0, 45, 0, 0, 0)), (.aload_n 0, (0, 0, 0, 0, 0)), (.invokevirtual 43, (0, 0, 0, 0, 0)), (.goto 4, (0, 46, 0, 0, 0)), (.iconst (-1), (0, 0, 0, (-1), 0)), (.istore_n 2, (0, 0, 0, 0, 0)), (.aload_n 0, (0, 0, 0, 0, 0)), (.aload_n 1, (0, 0, 0, 0, 0)), (.invokevirtual 47, (0, 0, 0, 0, 0)), (.istore_n 3, (0, 0, 0, 0, 0)), (.iload_n 3, (0, 0, 0, 0, 0)), (.aload_n 0, (0, 0, 0, 0, 0)), (.getfield 19, (1, 0, 6, 0, 0)), (.if_icmp .le 13, (0, 71, 0, 0, 0)), (.aload_n 0, (0, 0, 0, 0, 0)), (.iload_n 3, (0, 0, 0, 0, 0)), (.putfield 19, (1, 0, 6, 0, 0)), (.aload_n 0, (0, 0, 0, 0, 0)), (.iload_n 2, (0, 0, 0, 0, 0)), (.putfield 15, (1, 0, 5, 0, 0)), (.iload_n 2, (0, 0, 0, 0, 0)), (.iconst (-1), (0, 0, 0, (-1), 0)), (.if_icmp .eq 7, (0, 80, 0, 0, 0)), (.iconst 1, (0, 0, 0, 1, 0)), (.goto 4, (0, 81, 0, 0, 0)), (.iconst 0, (0, 0, 0, 0, 0)), (.ireturn, (0, 0, 0, 0, 0))]
theorem jc_La_readRange : wq_c b_La_readRange 4 j_La_readRange 0 = true := sorry
def j_La_fitOf : wq_J := [(.aload_n 0, (0, 0, 0, 0, 0)), (.ldc 51, (2, 0, 0, 0, 0)), (.invokevirtual 53, (0, 0, 0, 0, 0)), (.ifCond .eq 5, (0, 11, 0, 0, 0)), (.iconst 0, (0, 0, 0, 0, 0)), (.ireturn, (0, 0, 0, 0, 0)), (.aload_n 0, (0, 0, 0, 0, 0)), (.aload_n 1, (0, 0, 0, 0, 0)), (.getfield 57, (2, 0, 0, 0, 0)), (.invokevirtual 63, (0, 0, 0, 0, 0)), (.ifCond .ne 14, (0, 33, 0, 0, 0)), (.aload_n 0, (0, 0, 0, 0, 0)), (.aload_n 1, (0, 0, 0, 0, 0)), (.getfield 66, (2, 0, 0, 0, 0)), (.invokevirtual 63, (0, 0, 0, 0, 0)), (.ifCond .eq 10, (0, 40, 0, 0, 0)), (.aload_n 0, (0, 0, 0, 0, 0)), (.invokevirtual 69, (0, 0, 0, 0, 0)), (.goto 4, (0, 41, 0, 0, 0)), (.iconst (-1), (0, 0, 0, (-1), 0)), (.ireturn, (0, 0, 0, 0, 0))]
theorem jc_La_fitOf : wq_c b_La_fitOf 2 j_La_fitOf 0 = true := sorry
def j_Ra_init : wq_J := [(.aload_n 0, (0, 0, 0, 0, 0)), (.invokespecial 3, (0, 0, 0, 0, 0)), (.aload_n 0, (0, 0, 0, 0, 0)), (.iconst 4, (0, 0, 0, 4, 0)), (.newarray .int, (0, 0, 0, 0, 0)), (.putfield 9, (3, 0, 5, 0, 0)), (.aload_n 0, (0, 0, 0, 0, 0)), (.iconst 4, (0, 0, 0, 4, 0)), (.newarray .int, (0, 0, 0, 0, 0)), (.putfield 15, (3, 0, 6, 0, 0)), (.return_, (0, 0, 0, 0, 0))]
theorem jc_Ra_init : wq_c b_Ra_init 1 j_Ra_init 0 = true := sorry
def j_Ra_read : wq_J := [(.aload_n 0, (0, 0, 0, 0, 0)), (.aload_n 1, (0, 0, 0, 0, 0)), (.bipush 7, (0, 0, 0, 7, 0)), (.invokevirtual 18, (0, 0, 0, 0, 0)), (.aload_n 0, (0, 0, 0, 0, 0)), (.iconst 0, (0, 0, 0, 0, 0)), (.putfield 22, (1, 0, 7, 0, 0)), (.aload_n 0, (0, 0, 0, 0, 0)), (.iconst 0, (0, 0, 0, 0, 0)), (.putfield 26, (1, 0, 8, 0, 0)), (.aload_n 0, (0, 0, 0, 0, 0)), (.invokevirtual 29, (0, 0, 0, 0, 0)), (.aload_n 0, (0, 0, 0, 0, 0)), (.ldc 32, (2, 0, 0, 0, 0)), (.invokevirtual 34, (0, 0, 0, 0, 0)), (.ifCond .eq 12, (0, 39, 0, 0, 0)), (.aload_n 0, (0, 0, 0, 0, 0)), (.bipush 61, (0, 0, 0, 61, 0)), (.invokevirtual 38, (0, 0, 0, 0, 0)), (.ifCond .ne 5, (0, 41, 0, 0, 0)), (.iconst 0, (0, 0, 0, 0, 0)), (.ireturn, (0, 0, 0, 0, 0)), (.aload_n 0, (0, 0, 0, 0, 0)), (.getfield 22, (1, 0, 7, 0, 0)), (.bipush 96, (0, 0, 0, 96, 0)), (.if_icmp .ge 40, (0, 87, 0, 0, 0)), (.aload_n 0, (0, 0, 0, 0, 0)), (.invokevirtual 42, (0, 0, 0, 0, 0)), (.ifCond .eq 33, (0, 87, 0, 0, 0)), (.aload_n 0, (0, 0, 0, 0, 0)), (.iload_n 2, (0, 0, 0, 0, 0)), (.invokevirtual 46, (0, 0, 0, 0, 0)), (.ifCond .eq 10, (0, 72, 0, 0, 0)), (.aload_n 0, (0, 0, 0, 0, 0)), (.invokevirtual 50, (0, 0, 0, 0, 0)), (.ifCond .ne 5, (0, 74, 0, 0, 0)), (.iconst 0, (0, 0, 0, 0, 0)), (.ireturn, (0, 0, 0, 0, 0)), (.aload_n 0, (0, 0, 0, 0, 0)), (.dup, (0, 0, 0, 0, 0)), (.getfield 22, (1, 0, 7, 0, 0)), (.iconst 1, (0, 0, 0, 1, 0)), (.iadd, (0, 0, 0, 0, 0)), (.putfield 22, (1, 0, 7, 0, 0)), (.goto (-43), (0, 41, 0, 0, 0)), (.aload_n 0, (0, 0, 0, 0, 0)), (.getfield 22, (1, 0, 7, 0, 0)), (.ifCond .le 7, (0, 98, 0, 0, 0)), (.iconst 1, (0, 0, 0, 1, 0)), (.goto 4, (0, 99, 0, 0, 0)), (.iconst 0, (0, 0, 0, 0, 0)), (.ireturn, (0, 0, 0, 0, 0))]
theorem jc_Ra_read : wq_c b_Ra_read 3 j_Ra_read 0 = true := sorry
def j_Ra_overlap : wq_J := [(.iconst 1, (0, 0, 0, 1, 0)), (.istore_n 1, (0, 0, 0, 0, 0)), (.iload_n 1, (0, 0, 0, 0, 0)), (.aload_n 0, (0, 0, 0, 0, 0)), (.getfield 26, (1, 0, 8, 0, 0)), (.if_icmp .ge 54, (0, 61, 0, 0, 0)), (.iconst 0, (0, 0, 0, 0, 0)), (.istore_n 2, (0, 0, 0, 0, 0)), (.iload_n 2, (0, 0, 0, 0, 0)), (.iload_n 1, (0, 0, 0, 0, 0)), (.if_icmp .ge 41, (0, 55, 0, 0, 0)), (.aload_n 0, (0, 0, 0, 0, 0)), (.getfield 9, (1, 0, 5, 0, 0)), (.iload_n 1, (0, 0, 0, 0, 0)), (.iaload, (1, 2, 0, 0, 0)), (.aload_n 0, (0, 0, 0, 0, 0)), (.getfield 15, (1, 0, 6, 0, 0)), (.iload_n 2, (0, 0, 0, 0, 0)), (.iaload, (1, 3, 0, 0, 0)), (.if_icmp .gt 20, (0, 49, 0, 0, 0)), (.aload_n 0, (0, 0, 0, 0, 0)), (.getfield 9, (1, 0, 5, 0, 0)), (.iload_n 2, (0, 0, 0, 0, 0)), (.iaload, (1, 2, 0, 0, 0)), (.aload_n 0, (0, 0, 0, 0, 0)), (.getfield 15, (1, 0, 6, 0, 0)), (.iload_n 1, (0, 0, 0, 0, 0)), (.iaload, (1, 3, 0, 0, 0)), (.if_icmp .gt 5, (0, 49, 0, 0, 0)), (.iconst 1, (0, 0, 0, 1, 0)), (.ireturn, (0, 0, 0, 0, 0)), (.iinc 2 1, (0, 0, 0, 1, 0)), (.goto (-40), (0, 12, 0, 0, 0)), (.iinc 1 1, (0, 0, 0, 1, 0)), (.goto (-56), (0, 2, 0, 0, 0)), (.iconst 0, (0, 0, 0, 0, 0)), (.ireturn, (0, 0, 0, 0, 0))]
theorem jc_Ra_overlap : wq_c b_Ra_overlap 3 j_Ra_overlap 0 = true := sorry
def j_Ra_readSpec : wq_J := [(.aload_n 0, (0, 0, 0, 0, 0)), (.invokevirtual 53, (0, 0, 0, 0, 0)), (.istore_n 2, (0, 0, 0, 0, 0)), (.aload_n 0, (0, 0, 0, 0, 0)), (.bipush 45, (0, 0, 0, 45, 0)), (.invokevirtual 38, (0, 0, 0, 0, 0)), (.ifCond .ne 5, (0, 16, 0, 0, 0)), (.iconst 0, (0, 0, 0, 0, 0)), (.ireturn, (0, 0, 0, 0, 0)), (.aload_n 0, (0, 0, 0, 0, 0)), (.invokevirtual 53, (0, 0, 0, 0, 0)), (.istore_n 3, (0, 0, 0, 0, 0)), (.iload_n 2, (0, 0, 0, 0, 0)), (.iconst (-1), (0, 0, 0, (-1), 0)), (.if_icmp .ne 28, (0, 51, 0, 0, 0)), (.aload_n 0, (0, 0, 0, 0, 0)), (.iconst 0, (0, 0, 0, 0, 0)), (.iload_n 1, (0, 0, 0, 0, 0)), (.iload_n 3, (0, 0, 0, 0, 0)), (.isub, (0, 0, 0, 0, 0)), (.invokestatic 57, (0, 0, 0, 0, 0)), (.iload_n 1, (0, 0, 0, 0, 0)), (.iconst 1, (0, 0, 0, 1, 0)), (.isub, (0, 0, 0, 0, 0)), (.invokevirtual 63, (0, 0, 0, 0, 0)), (.iload_n 3, (0, 0, 0, 0, 0)), (.iconst (-1), (0, 0, 0, (-1), 0)), (.if_icmp .eq 7, (0, 49, 0, 0, 0)), (.iconst 1, (0, 0, 0, 1, 0)), (.goto 4, (0, 50, 0, 0, 0)), (.iconst 0, (0, 0, 0, 0, 0)), (.ireturn, (0, 0, 0, 0, 0)), (.aload_n 0, (0, 0, 0, 0, 0)), (.iload_n 2, (0, 0, 0, 0, 0)), (.iload_n 3, (0, 0, 0, 0, 0)), (.iconst (-1), (0, 0, 0, (-1), 0)), (.if_icmp .ne 9, (0, 64, 0, 0, 0)), (.iload_n 1, (0, 0, 0, 0, 0)), (.iconst 1, (0, 0, 0, 1, 0)), (.isub, (0, 0, 0, 0, 0)), (.goto 10, (0, 71, 0, 0, 0)), (.iload_n 3, (0, 0, 0, 0, 0)), (.iload_n 1, (0, 0, 0, 0, 0)), (.iconst 1, (0, 0, 0, 1, 0)), (.isub, (0, 0, 0, 0, 0)), (.invokestatic 67, (0, 0, 0, 0, 0)), (.invokevirtual 63, (0, 0, 0, 0, 0)), (.iload_n 3, (0, 0, 0, 0, 0)), (.iconst (-1), (0, 0, 0, (-1), 0)), (.if_icmp .eq 8, (0, 84, 0, 0, 0)), (.iload_n 3, (0, 0, 0, 0, 0)), (.iload_n 2, (0, 0, 0, 0, 0)), (.if_icmp .lt 7, (0, 88, 0, 0, 0)), (.iconst 1, (0, 0, 0, 1, 0)), (.goto 4, (0, 89, 0, 0, 0)), (.iconst 0, (0, 0, 0, 0, 0)), (.ireturn, (0, 0, 0, 0, 0))]
theorem jc_Ra_readSpec : wq_c b_Ra_readSpec 4 j_Ra_readSpec 0 = true := sorry
def j_Ra_keep : wq_J := [(.iload_n 1, (0, 0, 0, 0, 0)), (.iload_n 2, (0, 0, 0, 0, 0)), (.if_icmp .gt 41, (0, 43, 0, 0, 0)), (.aload_n 0, (0, 0, 0, 0, 0)), (.getfield 26, (1, 0, 8, 0, 0)), (.iconst 4, (0, 0, 0, 4, 0)), (.if_icmp .ge 33, (0, 43, 0, 0, 0)), (.aload_n 0, (0, 0, 0, 0, 0)), (.getfield 9, (1, 0, 5, 0, 0)), (.aload_n 0, (0, 0, 0, 0, 0)), (.getfield 26, (1, 0, 8, 0, 0)), (.iload_n 1, (0, 0, 0, 0, 0)), (.iastore, (1, 2, 0, 0, 0)), (.aload_n 0, (0, 0, 0, 0, 0)), (.getfield 15, (1, 0, 6, 0, 0)), (.aload_n 0, (0, 0, 0, 0, 0)), (.getfield 26, (1, 0, 8, 0, 0)), (.iload_n 2, (0, 0, 0, 0, 0)), (.iastore, (1, 3, 0, 0, 0)), (.aload_n 0, (0, 0, 0, 0, 0)), (.dup, (0, 0, 0, 0, 0)), (.getfield 26, (1, 0, 8, 0, 0)), (.iconst 1, (0, 0, 0, 1, 0)), (.iadd, (0, 0, 0, 0, 0)), (.putfield 26, (1, 0, 8, 0, 0)), (.return_, (0, 0, 0, 0, 0))]
theorem jc_Ra_keep : wq_c b_Ra_keep 3 j_Ra_keep 0 = true := sorry
def j_Rd_init : wq_J := [(.aload_n 0, (0, 0, 0, 0, 0)), (.invokespecial 3, (0, 0, 0, 0, 0)), (.aload_n 0, (0, 0, 0, 0, 0)), (.iconst 0, (0, 0, 0, 0, 0)), (.newarray .int, (0, 0, 0, 0, 0)), (.putfield 9, (1, 0, 0, 0, 0)), (.aload_n 0, (0, 0, 0, 0, 0)), (.bipush 96, (0, 0, 0, 96, 0)), (.newarray .int, (0, 0, 0, 0, 0)), (.putfield 15, (3, 0, 3, 0, 0)), (.return_, (0, 0, 0, 0, 0))]
theorem jc_Rd_init : wq_c b_Rd_init 1 j_Rd_init 0 = true := sorry
def j_Rd_open : wq_J := [(.aload_n 0, (0, 0, 0, 0, 0)), (.iconst 0, (0, 0, 0, 0, 0)), (.putfield 18, (1, 0, 2, 0, 0)), (.aload_n 0, (0, 0, 0, 0, 0)), (.iconst 0, (0, 0, 0, 0, 0)), (.putfield 22, (1, 0, 1, 0, 0)), (.aload_n 1, (0, 0, 0, 0, 0)), (.iload_n 2, (0, 0, 0, 0, 0)), (.invokevirtual 25, (0, 0, 0, 0, 0)), (.ifCond .eq 23, (0, 38, 0, 0, 0)), (.aload_n 0, (0, 0, 0, 0, 0)), (.aload_n 1, (0, 0, 0, 0, 0)), (.getfield 31, (2, 0, 0, 0, 0)), (.iload_n 2, (0, 0, 0, 0, 0)), (.aaload, (0, 0, 0, 0, 0)), (.putfield 9, (1, 0, 0, 0, 0)), (.aload_n 0, (0, 0, 0, 0, 0)), (.aload_n 1, (0, 0, 0, 0, 0)), (.getfield 35, (2, 0, 0, 0, 0)), (.iload_n 2, (0, 0, 0, 0, 0)), (.iaload, (2, 0, 0, 0, 0)), (.putfield 22, (1, 0, 1, 0, 0)), (.return_, (0, 0, 0, 0, 0))]
theorem jc_Rd_open : wq_c b_Rd_open 3 j_Rd_open 0 = true := sorry
def j_Rd_isEnded : wq_J := [(.aload_n 0, (0, 0, 0, 0, 0)), (.getfield 18, (1, 0, 2, 0, 0)), (.aload_n 0, (0, 0, 0, 0, 0)), (.getfield 22, (1, 0, 1, 0, 0)), (.if_icmp .lt 7, (0, 15, 0, 0, 0)), (.iconst 1, (0, 0, 0, 1, 0)), (.goto 4, (0, 16, 0, 0, 0)), (.iconst 0, (0, 0, 0, 0, 0)), (.ireturn, (0, 0, 0, 0, 0))]
theorem jc_Rd_isEnded : wq_c b_Rd_isEnded 1 j_Rd_isEnded 0 = true := sorry
def j_Rd_isNext : wq_J := [(.aload_n 0, (0, 0, 0, 0, 0)), (.getfield 18, (1, 0, 2, 0, 0)), (.aload_n 0, (0, 0, 0, 0, 0)), (.getfield 22, (1, 0, 1, 0, 0)), (.if_icmp .ge 20, (0, 28, 0, 0, 0)), (.aload_n 0, (0, 0, 0, 0, 0)), (.getfield 9, (1, 0, 0, 0, 0)), (.aload_n 0, (0, 0, 0, 0, 0)), (.getfield 18, (1, 0, 2, 0, 0)), (.iaload, (2, 0, 0, 0, 0)), (.iload_n 1, (0, 0, 0, 0, 0)), (.if_icmp .ne 7, (0, 28, 0, 0, 0)), (.iconst 1, (0, 0, 0, 1, 0)), (.goto 4, (0, 29, 0, 0, 0)), (.iconst 0, (0, 0, 0, 0, 0)), (.ireturn, (0, 0, 0, 0, 0))]
theorem jc_Rd_isNext : wq_c b_Rd_isNext 2 j_Rd_isNext 0 = true := sorry
def j_Rd_take : wq_J := [(.aload_n 0, (0, 0, 0, 0, 0)), (.getfield 18, (1, 0, 2, 0, 0)), (.aload_n 0, (0, 0, 0, 0, 0)), (.getfield 22, (1, 0, 1, 0, 0)), (.if_icmp .ge 16, (0, 24, 0, 0, 0)), (.aload_n 0, (0, 0, 0, 0, 0)), (.getfield 9, (1, 0, 0, 0, 0)), (.aload_n 0, (0, 0, 0, 0, 0)), (.getfield 18, (1, 0, 2, 0, 0)), (.iaload, (2, 0, 0, 0, 0)), (.iload_n 1, (0, 0, 0, 0, 0)), (.if_icmp .eq 5, (0, 26, 0, 0, 0)), (.iconst 0, (0, 0, 0, 0, 0)), (.ireturn, (0, 0, 0, 0, 0)), (.aload_n 0, (0, 0, 0, 0, 0)), (.dup, (0, 0, 0, 0, 0)), (.getfield 18, (1, 0, 2, 0, 0)), (.iconst 1, (0, 0, 0, 1, 0)), (.iadd, (0, 0, 0, 0, 0)), (.putfield 18, (1, 0, 2, 0, 0)), (.iconst 1, (0, 0, 0, 1, 0)), (.ireturn, (0, 0, 0, 0, 0))]
theorem jc_Rd_take : wq_c b_Rd_take 2 j_Rd_take 0 = true := sorry
def j_Rd_skipGap : wq_J := [(.aload_n 0, (0, 0, 0, 0, 0)), (.getfield 18, (1, 0, 2, 0, 0)), (.aload_n 0, (0, 0, 0, 0, 0)), (.getfield 22, (1, 0, 1, 0, 0)), (.if_icmp .ge 44, (0, 52, 0, 0, 0)), (.aload_n 0, (0, 0, 0, 0, 0)), (.getfield 9, (1, 0, 0, 0, 0)), (.aload_n 0, (0, 0, 0, 0, 0)), (.getfield 18, (1, 0, 2, 0, 0)), (.iaload, (2, 0, 0, 0, 0)), (.bipush 32, (0, 0, 0, 32, 0)), (.if_icmp .eq 17, (0, 39, 0, 0, 0)), (.aload_n 0, (0, 0, 0, 0, 0)), (.getfield 9, (1, 0, 0, 0, 0)), (.aload_n 0, (0, 0, 0, 0, 0)), (.getfield 18, (1, 0, 2, 0, 0)), (.iaload, (2, 0, 0, 0, 0)), (.bipush 9, (0, 0, 0, 9, 0)), (.if_icmp .ne 16, (0, 52, 0, 0, 0)), (.aload_n 0, (0, 0, 0, 0, 0)), (.dup, (0, 0, 0, 0, 0)), (.getfield 18, (1, 0, 2, 0, 0)), (.iconst 1, (0, 0, 0, 1, 0)), (.iadd, (0, 0, 0, 0, 0)), (.putfield 18, (1, 0, 2, 0, 0)), (.goto (-49), (0, 0, 0, 0, 0)), (.return_, (0, 0, 0, 0, 0))]
theorem jc_Rd_skipGap : wq_c b_Rd_skipGap 1 j_Rd_skipGap 0 = true := sorry
def j_Rd_findElement : wq_J := [(.aload_n 0, (0, 0, 0, 0, 0)), (.getfield 18, (1, 0, 2, 0, 0)), (.aload_n 0, (0, 0, 0, 0, 0)), (.getfield 22, (1, 0, 1, 0, 0)), (.if_icmp .ge 58, (0, 66, 0, 0, 0)), (.aload_n 0, (0, 0, 0, 0, 0)), (.getfield 9, (1, 0, 0, 0, 0)), (.aload_n 0, (0, 0, 0, 0, 0)), (.getfield 18, (1, 0, 2, 0, 0)), (.iaload, (2, 0, 0, 0, 0)), (.bipush 32, (0, 0, 0, 32, 0)), (.if_icmp .eq 31, (0, 53, 0, 0, 0)), (.aload_n 0, (0, 0, 0, 0, 0)), (.getfield 9, (1, 0, 0, 0, 0)), (.aload_n 0, (0, 0, 0, 0, 0)), (.getfield 18, (1, 0, 2, 0, 0)), (.iaload, (2, 0, 0, 0, 0)), (.bipush 9, (0, 0, 0, 9, 0)), (.if_icmp .eq 17, (0, 53, 0, 0, 0)), (.aload_n 0, (0, 0, 0, 0, 0)), (.getfield 9, (1, 0, 0, 0, 0)), (.aload_n 0, (0, 0, 0, 0, 0)), (.getfield 18, (1, 0, 2, 0, 0)), (.iaload, (2, 0, 0, 0, 0)), (.bipush 44, (0, 0, 0, 44, 0)), (.if_icmp .ne 16, (0, 66, 0, 0, 0)), (.aload_n 0, (0, 0, 0, 0, 0)), (.dup, (0, 0, 0, 0, 0)), (.getfield 18, (1, 0, 2, 0, 0)), (.iconst 1, (0, 0, 0, 1, 0)), (.iadd, (0, 0, 0, 0, 0)), (.putfield 18, (1, 0, 2, 0, 0)), (.goto (-63), (0, 0, 0, 0, 0)), (.aload_n 0, (0, 0, 0, 0, 0)), (.getfield 18, (1, 0, 2, 0, 0)), (.aload_n 0, (0, 0, 0, 0, 0)), (.getfield 22, (1, 0, 1, 0, 0)), (.if_icmp .ge 7, (0, 81, 0, 0, 0)), (.iconst 1, (0, 0, 0, 1, 0)), (.goto 4, (0, 82, 0, 0, 0)), (.iconst 0, (0, 0, 0, 0, 0)), (.ireturn, (0, 0, 0, 0, 0))]
theorem jc_Rd_findElement : wq_c b_Rd_findElement 1 j_Rd_findElement 0 = true := sorry
def j_Rd_endsElement : wq_J := [(.aload_n 0, (0, 0, 0, 0, 0)), (.invokevirtual 38, (0, 0, 0, 0, 0)), (.aload_n 0, (0, 0, 0, 0, 0)), (.getfield 18, (1, 0, 2, 0, 0)), (.aload_n 0, (0, 0, 0, 0, 0)), (.getfield 22, (1, 0, 1, 0, 0)), (.if_icmp .ge 17, (0, 29, 0, 0, 0)), (.aload_n 0, (0, 0, 0, 0, 0)), (.getfield 9, (1, 0, 0, 0, 0)), (.aload_n 0, (0, 0, 0, 0, 0)), (.getfield 18, (1, 0, 2, 0, 0)), (.iaload, (2, 0, 0, 0, 0)), (.bipush 44, (0, 0, 0, 44, 0)), (.if_icmp .ne 7, (0, 33, 0, 0, 0)), (.iconst 1, (0, 0, 0, 1, 0)), (.goto 4, (0, 34, 0, 0, 0)), (.iconst 0, (0, 0, 0, 0, 0)), (.ireturn, (0, 0, 0, 0, 0))]
theorem jc_Rd_endsElement : wq_c b_Rd_endsElement 1 j_Rd_endsElement 0 = true := sorry
def j_Rd_takeSemicolon : wq_J := [(.aload_n 0, (0, 0, 0, 0, 0)), (.invokevirtual 38, (0, 0, 0, 0, 0)), (.aload_n 0, (0, 0, 0, 0, 0)), (.bipush 59, (0, 0, 0, 59, 0)), (.invokevirtual 41, (0, 0, 0, 0, 0)), (.ifCond .ne 5, (0, 15, 0, 0, 0)), (.iconst 0, (0, 0, 0, 0, 0)), (.ireturn, (0, 0, 0, 0, 0)), (.aload_n 0, (0, 0, 0, 0, 0)), (.invokevirtual 38, (0, 0, 0, 0, 0)), (.iconst 1, (0, 0, 0, 1, 0)), (.ireturn, (0, 0, 0, 0, 0))]
theorem jc_Rd_takeSemicolon : wq_c b_Rd_takeSemicolon 1 j_Rd_takeSemicolon 0 = true := sorry
def j_Rd_takeText : wq_J := [(.iconst 0, (0, 0, 0, 0, 0)), (.istore_n 2, (0, 0, 0, 0, 0)), (.iload_n 2, (0, 0, 0, 0, 0)), (.aload_n 1, (0, 0, 0, 0, 0)), (.invokevirtual 45, (0, 0, 0, 0, 0)), (.if_icmp .ge 23, (0, 30, 0, 0, 0)), (.aload_n 0, (0, 0, 0, 0, 0)), (.aload_n 1, (0, 0, 0, 0, 0)), (.iload_n 2, (0, 0, 0, 0, 0)), (.invokevirtual 51, (0, 0, 0, 0, 0)), (.invokevirtual 41, (0, 0, 0, 0, 0)), (.ifCond .ne 5, (0, 24, 0, 0, 0)), (.iconst 0, (0, 0, 0, 0, 0)), (.ireturn, (0, 0, 0, 0, 0)), (.iinc 2 1, (0, 0, 0, 1, 0)), (.goto (-25), (0, 2, 0, 0, 0)), (.iconst 1, (0, 0, 0, 1, 0)), (.ireturn, (0, 0, 0, 0, 0))]
theorem jc_Rd_takeText : wq_c b_Rd_takeText 3 j_Rd_takeText 0 = true := sorry
def j_Rd_takeAlike : wq_J := [(.iconst 0, (0, 0, 0, 0, 0)), (.istore_n 2, (0, 0, 0, 0, 0)), (.iload_n 2, (0, 0, 0, 0, 0)), (.aload_n 1, (0, 0, 0, 0, 0)), (.invokevirtual 45, (0, 0, 0, 0, 0)), (.if_icmp .ge 55, (0, 62, 0, 0, 0)), (.aload_n 0, (0, 0, 0, 0, 0)), (.getfield 18, (1, 0, 2, 0, 0)), (.aload_n 0, (0, 0, 0, 0, 0)), (.getfield 22, (1, 0, 1, 0, 0)), (.if_icmp .ge 26, (0, 44, 0, 0, 0)), (.aload_n 0, (0, 0, 0, 0, 0)), (.getfield 9, (1, 0, 0, 0, 0)), (.aload_n 0, (0, 0, 0, 0, 0)), (.getfield 18, (1, 0, 2, 0, 0)), (.iaload, (2, 0, 0, 0, 0)), (.invokestatic 55, (0, 0, 0, 0, 0)), (.aload_n 1, (0, 0, 0, 0, 0)), (.iload_n 2, (0, 0, 0, 0, 0)), (.invokevirtual 51, (0, 0, 0, 0, 0)), (.invokestatic 55, (0, 0, 0, 0, 0)), (.if_icmp .eq 5, (0, 46, 0, 0, 0)), (.iconst 0, (0, 0, 0, 0, 0)), (.ireturn, (0, 0, 0, 0, 0)), (.aload_n 0, (0, 0, 0, 0, 0)), (.dup, (0, 0, 0, 0, 0)), (.getfield 18, (1, 0, 2, 0, 0)), (.iconst 1, (0, 0, 0, 1, 0)), (.iadd, (0, 0, 0, 0, 0)), (.putfield 18, (1, 0, 2, 0, 0)), (.iinc 2 1, (0, 0, 0, 1, 0)), (.goto (-57), (0, 2, 0, 0, 0)), (.iconst 1, (0, 0, 0, 1, 0)), (.ireturn, (0, 0, 0, 0, 0))]
theorem jc_Rd_takeAlike : wq_c b_Rd_takeAlike 3 j_Rd_takeAlike 0 = true := sorry
def j_Rd_takeToken : wq_J := [(.aload_n 0, (0, 0, 0, 0, 0)), (.iconst 0, (0, 0, 0, 0, 0)), (.putfield 59, (1, 0, 4, 0, 0)), (.aload_n 0, (0, 0, 0, 0, 0)), (.getfield 18, (1, 0, 2, 0, 0)), (.aload_n 0, (0, 0, 0, 0, 0)), (.getfield 22, (1, 0, 1, 0, 0)), (.if_icmp .ge 47, (0, 60, 0, 0, 0)), (.ldc 62, (2, 0, 0, 0, 0)), (.aload_n 0, (0, 0, 0, 0, 0)), (.getfield 9, (1, 0, 0, 0, 0)), (.aload_n 0, (0, 0, 0, 0, 0)), (.getfield 18, (1, 0, 2, 0, 0)), (.iaload, (2, 0, 0, 0, 0)), (.i2c, (0, 0, 0, 0, 0)), (.invokevirtual 64, (0, 0, 0, 0, 0)), (.ifCond .lt 29, (0, 60, 0, 0, 0)), (.aload_n 0, (0, 0, 0, 0, 0)), (.aload_n 0, (0, 0, 0, 0, 0)), (.getfield 9, (1, 0, 0, 0, 0)), (.aload_n 0, (0, 0, 0, 0, 0)), (.getfield 18, (1, 0, 2, 0, 0)), (.iaload, (2, 0, 0, 0, 0)), (.invokevirtual 67, (0, 0, 0, 0, 0)), (.aload_n 0, (0, 0, 0, 0, 0)), (.dup, (0, 0, 0, 0, 0)), (.getfield 18, (1, 0, 2, 0, 0)), (.iconst 1, (0, 0, 0, 1, 0)), (.iadd, (0, 0, 0, 0, 0)), (.putfield 18, (1, 0, 2, 0, 0)), (.goto (-52), (0, 5, 0, 0, 0)), (.aload_n 0, (0, 0, 0, 0, 0)), (.getfield 59, (1, 0, 4, 0, 0)), (.ifCond .le 7, (0, 71, 0, 0, 0)), (.iconst 1, (0, 0, 0, 1, 0)), (.goto 4, (0, 72, 0, 0, 0)), (.iconst 0, (0, 0, 0, 0, 0)), (.ireturn, (0, 0, 0, 0, 0))]
theorem jc_Rd_takeToken : wq_c b_Rd_takeToken 1 j_Rd_takeToken 0 = true := sorry
def j_Rd_takeQuotedText : wq_J := [(.aload_n 0, (0, 0, 0, 0, 0)), (.iconst 0, (0, 0, 0, 0, 0)), (.putfield 59, (1, 0, 4, 0, 0)), (.aload_n 0, (0, 0, 0, 0, 0)), (.bipush 34, (0, 0, 0, 34, 0)), (.invokevirtual 41, (0, 0, 0, 0, 0)), (.ifCond .ne 5, (0, 16, 0, 0, 0)), (.iconst 0, (0, 0, 0, 0, 0)), (.ireturn, (0, 0, 0, 0, 0)), (.aload_n 0, (0, 0, 0, 0, 0)), (.getfield 18, (1, 0, 2, 0, 0)), (.aload_n 0, (0, 0, 0, 0, 0)), (.getfield 22, (1, 0, 1, 0, 0)), (.if_icmp .ge 95, (0, 119, 0, 0, 0)), (.aload_n 0, (0, 0, 0, 0, 0)), (.getfield 9, (1, 0, 0, 0, 0)), (.aload_n 0, (0, 0, 0, 0, 0)), (.getfield 18, (1, 0, 2, 0, 0)), (.iaload, (2, 0, 0, 0, 0)), (.bipush 34, (0, 0, 0, 34, 0)), (.if_icmp .eq 81, (0, 119, 0, 0, 0)), (.aload_n 0, (0, 0, 0, 0, 0)), (.getfield 9, (1, 0, 0, 0, 0)), (.aload_n 0, (0, 0, 0, 0, 0)), (.getfield 18, (1, 0, 2, 0, 0)), (.iaload, (2, 0, 0, 0, 0)), (.bipush 92, (0, 0, 0, 92, 0)), (.if_icmp .ne 13, (0, 65, 0, 0, 0)), (.aload_n 0, (0, 0, 0, 0, 0)), (.dup, (0, 0, 0, 0, 0)), (.getfield 18, (1, 0, 2, 0, 0)), (.iconst 1, (0, 0, 0, 1, 0)), (.iadd, (0, 0, 0, 0, 0)), (.putfield 18, (1, 0, 2, 0, 0)), (.aload_n 0, (0, 0, 0, 0, 0)), (.getfield 18, (1, 0, 2, 0, 0)), (.aload_n 0, (0, 0, 0, 0, 0)), (.getfield 22, (1, 0, 1, 0, 0)), (.if_icmp .ge 18, (0, 91, 0, 0, 0)), (.aload_n 0, (0, 0, 0, 0, 0)), (.getfield 9, (1, 0, 0, 0, 0)), (.aload_n 0, (0, 0, 0, 0, 0)), (.getfield 18, (1, 0, 2, 0, 0)), (.iaload, (2, 0, 0, 0, 0)), (.invokestatic 71, (0, 0, 0, 0, 0)), (.ifCond .ne 5, (0, 93, 0, 0, 0)), (.iconst 0, (0, 0, 0, 0, 0)), (.ireturn, (0, 0, 0, 0, 0)), (.aload_n 0, (0, 0, 0, 0, 0)), (.aload_n 0, (0, 0, 0, 0, 0)), (.getfield 9, (1, 0, 0, 0, 0)), (.aload_n 0, (0, 0, 0, 0, 0)), (.getfield 18, (1, 0, 2, 0, 0)), (.iaload, (2, 0, 0, 0, 0)), (.invokevirtual 67, (0, 0, 0, 0, 0)), (.aload_n 0, (0, 0, 0, 0, 0)), (.dup, (0, 0, 0, 0, 0)), (.getfield 18, (1, 0, 2, 0, 0)), (.iconst 1, (0, 0, 0, 1, 0)), (.iadd, (0, 0, 0, 0, 0)), (.putfield 18, (1, 0, 2, 0, 0)), (.goto (-100), (0, 16, 0, 0, 0)), (.aload_n 0, (0, 0, 0, 0, 0)), (.bipush 34, (0, 0, 0, 34, 0)), (.invokevirtual 41, (0, 0, 0, 0, 0)), (.ireturn, (0, 0, 0, 0, 0))]
theorem jc_Rd_takeQuotedText : wq_c b_Rd_takeQuotedText 1 j_Rd_takeQuotedText 0 = true := sorry
def j_Rd_takeOpaque : wq_J := [(.aload_n 0, (0, 0, 0, 0, 0)), (.iconst 0, (0, 0, 0, 0, 0)), (.putfield 59, (1, 0, 4, 0, 0)), (.aload_n 0, (0, 0, 0, 0, 0)), (.bipush 34, (0, 0, 0, 34, 0)), (.invokevirtual 41, (0, 0, 0, 0, 0)), (.ifCond .ne 5, (0, 16, 0, 0, 0)), (.iconst 0, (0, 0, 0, 0, 0)), (.ireturn, (0, 0, 0, 0, 0)), (.aload_n 0, (0, 0, 0, 0, 0)), (.getfield 18, (1, 0, 2, 0, 0)), (.aload_n 0, (0, 0, 0, 0, 0)), (.getfield 22, (1, 0, 1, 0, 0)), (.if_icmp .ge 71, (0, 95, 0, 0, 0)), (.aload_n 0, (0, 0, 0, 0, 0)), (.getfield 9, (1, 0, 0, 0, 0)), (.aload_n 0, (0, 0, 0, 0, 0)), (.getfield 18, (1, 0, 2, 0, 0)), (.iaload, (2, 0, 0, 0, 0)), (.bipush 32, (0, 0, 0, 32, 0)), (.if_icmp .le 57, (0, 95, 0, 0, 0)), (.aload_n 0, (0, 0, 0, 0, 0)), (.getfield 9, (1, 0, 0, 0, 0)), (.aload_n 0, (0, 0, 0, 0, 0)), (.getfield 18, (1, 0, 2, 0, 0)), (.iaload, (2, 0, 0, 0, 0)), (.bipush 34, (0, 0, 0, 34, 0)), (.if_icmp .eq 43, (0, 95, 0, 0, 0)), (.aload_n 0, (0, 0, 0, 0, 0)), (.getfield 9, (1, 0, 0, 0, 0)), (.aload_n 0, (0, 0, 0, 0, 0)), (.getfield 18, (1, 0, 2, 0, 0)), (.iaload, (2, 0, 0, 0, 0)), (.bipush 127, (0, 0, 0, 127, 0)), (.if_icmp .eq 29, (0, 95, 0, 0, 0)), (.aload_n 0, (0, 0, 0, 0, 0)), (.aload_n 0, (0, 0, 0, 0, 0)), (.getfield 9, (1, 0, 0, 0, 0)), (.aload_n 0, (0, 0, 0, 0, 0)), (.getfield 18, (1, 0, 2, 0, 0)), (.iaload, (2, 0, 0, 0, 0)), (.invokevirtual 67, (0, 0, 0, 0, 0)), (.aload_n 0, (0, 0, 0, 0, 0)), (.dup, (0, 0, 0, 0, 0)), (.getfield 18, (1, 0, 2, 0, 0)), (.iconst 1, (0, 0, 0, 1, 0)), (.iadd, (0, 0, 0, 0, 0)), (.putfield 18, (1, 0, 2, 0, 0)), (.goto (-76), (0, 16, 0, 0, 0)), (.aload_n 0, (0, 0, 0, 0, 0)), (.bipush 34, (0, 0, 0, 34, 0)), (.invokevirtual 41, (0, 0, 0, 0, 0)), (.ireturn, (0, 0, 0, 0, 0))]
theorem jc_Rd_takeOpaque : wq_c b_Rd_takeOpaque 1 j_Rd_takeOpaque 0 = true := sorry
def j_Rd_takeLanguage : wq_J := [(.aload_n 0, (0, 0, 0, 0, 0)), (.iconst 0, (0, 0, 0, 0, 0)), (.putfield 59, (1, 0, 4, 0, 0)), (.aload_n 0, (0, 0, 0, 0, 0)), (.bipush 42, (0, 0, 0, 42, 0)), (.invokevirtual 41, (0, 0, 0, 0, 0)), (.ifCond .eq 11, (0, 22, 0, 0, 0)), (.aload_n 0, (0, 0, 0, 0, 0)), (.bipush 42, (0, 0, 0, 42, 0)), (.invokevirtual 67, (0, 0, 0, 0, 0)), (.iconst 1, (0, 0, 0, 1, 0)), (.ireturn, (0, 0, 0, 0, 0)), (.iconst 0, (0, 0, 0, 0, 0)), (.istore_n 1, (0, 0, 0, 0, 0)), (.iconst 0, (0, 0, 0, 0, 0)), (.istore_n 2, (0, 0, 0, 0, 0)), (.aload_n 0, (0, 0, 0, 0, 0)), (.getfield 18, (1, 0, 2, 0, 0)), (.aload_n 0, (0, 0, 0, 0, 0)), (.getfield 22, (1, 0, 1, 0, 0)), (.if_icmp .ge 142, (0, 176, 0, 0, 0)), (.aload_n 0, (0, 0, 0, 0, 0)), (.getfield 9, (1, 0, 0, 0, 0)), (.aload_n 0, (0, 0, 0, 0, 0)), (.getfield 18, (1, 0, 2, 0, 0)), (.iaload, (2, 0, 0, 0, 0)), (.bipush 45, (0, 0, 0, 45, 0)), (.if_icmp .eq 37, (0, 85, 0, 0, 0)), (.aload_n 0, (0, 0, 0, 0, 0)), (.getfield 9, (1, 0, 0, 0, 0)), (.aload_n 0, (0, 0, 0, 0, 0)), (.getfield 18, (1, 0, 2, 0, 0)), (.iaload, (2, 0, 0, 0, 0)), (.invokestatic 74, (0, 0, 0, 0, 0)), (.ifCond .ne 22, (0, 85, 0, 0, 0)), (.iload_n 2, (0, 0, 0, 0, 0)), (.ifCond .eq 109, (0, 176, 0, 0, 0)), (.aload_n 0, (0, 0, 0, 0, 0)), (.getfield 9, (1, 0, 0, 0, 0)), (.aload_n 0, (0, 0, 0, 0, 0)), (.getfield 18, (1, 0, 2, 0, 0)), (.iaload, (2, 0, 0, 0, 0)), (.invokestatic 77, (0, 0, 0, 0, 0)), (.ifCond .eq 94, (0, 176, 0, 0, 0)), (.aload_n 0, (0, 0, 0, 0, 0)), (.getfield 9, (1, 0, 0, 0, 0)), (.aload_n 0, (0, 0, 0, 0, 0)), (.getfield 18, (1, 0, 2, 0, 0)), (.iaload, (2, 0, 0, 0, 0)), (.bipush 45, (0, 0, 0, 45, 0)), (.if_icmp .ne 7, (0, 103, 0, 0, 0)), (.iconst 1, (0, 0, 0, 1, 0)), (.goto 4, (0, 104, 0, 0, 0)), (.iconst 0, (0, 0, 0, 0, 0)), (.istore_n 3, (0, 0, 0, 0, 0)), (.iload_n 3, (0, 0, 0, 0, 0)), (.ifCond .eq 10, (0, 116, 0, 0, 0)), (.iload_n 1, (0, 0, 0, 0, 0)), (.ifCond .ne 14, (0, 124, 0, 0, 0)), (.goto 9, (0, 122, 0, 0, 0)), (.iload_n 1, (0, 0, 0, 0, 0)), (.bipush 8, (0, 0, 0, 8, 0)), (.if_icmp .ne 5, (0, 124, 0, 0, 0)), (.iconst 0, (0, 0, 0, 0, 0)), (.ireturn, (0, 0, 0, 0, 0)), (.iload_n 3, (0, 0, 0, 0, 0)), (.ifCond .eq 7, (0, 132, 0, 0, 0)), (.iconst 0, (0, 0, 0, 0, 0)), (.goto 6, (0, 135, 0, 0, 0)), (.iload_n 1, (0, 0, 0, 0, 0)), (.iconst 1, (0, 0, 0, 1, 0)), (.iadd, (0, 0, 0, 0, 0)), (.istore_n 1, (0, 0, 0, 0, 0)), (.iload_n 2, (0, 0, 0, 0, 0)), (.ifCond .ne 7, (0, 144, 0, 0, 0)), (.iload_n 3, (0, 0, 0, 0, 0)), (.ifCond .eq 7, (0, 148, 0, 0, 0)), (.iconst 1, (0, 0, 0, 1, 0)), (.goto 4, (0, 149, 0, 0, 0)), (.iconst 0, (0, 0, 0, 0, 0)), (.istore_n 2, (0, 0, 0, 0, 0)), (.aload_n 0, (0, 0, 0, 0, 0)), (.aload_n 0, (0, 0, 0, 0, 0)), (.getfield 9, (1, 0, 0, 0, 0)), (.aload_n 0, (0, 0, 0, 0, 0)), (.getfield 18, (1, 0, 2, 0, 0)), (.iaload, (2, 0, 0, 0, 0)), (.invokevirtual 67, (0, 0, 0, 0, 0)), (.aload_n 0, (0, 0, 0, 0, 0)), (.dup, (0, 0, 0, 0, 0)), (.getfield 18, (1, 0, 2, 0, 0)), (.iconst 1, (0, 0, 0, 1, 0)), (.iadd, (0, 0, 0, 0, 0)), (.putfield 18, (1, 0, 2, 0, 0)), (.goto (-147), (0, 26, 0, 0, 0)), (.iload_n 1, (0, 0, 0, 0, 0)), (.ifCond .le 7, (0, 184, 0, 0, 0)), (.iconst 1, (0, 0, 0, 1, 0)), (.goto 4, (0, 185, 0, 0, 0)), (.iconst 0, (0, 0, 0, 0, 0)), (.ireturn, (0, 0, 0, 0, 0))]
theorem jc_Rd_takeLanguage : wq_c b_Rd_takeLanguage 4 j_Rd_takeLanguage 0 = true := sorry
def j_Rd_takeWeight : wq_J := [(.aload_n 0, (0, 0, 0, 0, 0)), (.bipush 61, (0, 0, 0, 61, 0)), (.invokevirtual 41, (0, 0, 0, 0, 0)), (.ifCond .ne 5, (0, 11, 0, 0, 0)), (.iconst (-1), (0, 0, 0, (-1), 0)), (.ireturn, (0, 0, 0, 0, 0)), (.aload_n 0, (0, 0, 0, 0, 0)), (.bipush 49, (0, 0, 0, 49, 0)), (.invokevirtual 41, (0, 0, 0, 0, 0)), (.istore_n 1, (0, 0, 0, 0, 0)), (.iload_n 1, (0, 0, 0, 0, 0)), (.ifCond .ne 14, (0, 33, 0, 0, 0)), (.aload_n 0, (0, 0, 0, 0, 0)), (.bipush 48, (0, 0, 0, 48, 0)), (.invokevirtual 41, (0, 0, 0, 0, 0)), (.ifCond .ne 5, (0, 33, 0, 0, 0)), (.iconst (-1), (0, 0, 0, (-1), 0)), (.ireturn, (0, 0, 0, 0, 0)), (.iload_n 1, (0, 0, 0, 0, 0)), (.ifCond .eq 9, (0, 43, 0, 0, 0)), (.sipush 1000, (0, 0, 0, 1000, 0)), (.goto 4, (0, 44, 0, 0, 0)), (.iconst 0, (0, 0, 0, 0, 0)), (.istore_n 2, (0, 0, 0, 0, 0)), (.aload_n 0, (0, 0, 0, 0, 0)), (.bipush 46, (0, 0, 0, 46, 0)), (.invokevirtual 41, (0, 0, 0, 0, 0)), (.ifCond .ne 5, (0, 56, 0, 0, 0)), (.iload_n 2, (0, 0, 0, 0, 0)), (.ireturn, (0, 0, 0, 0, 0)), (.bipush 100, (0, 0, 0, 100, 0)), (.istore_n 3, (0, 0, 0, 0, 0)), (.iload_n 3, (0, 0, 0, 0, 0)), (.ifCond .le 64, (0, 124, 0, 0, 0)), (.aload_n 0, (0, 0, 0, 0, 0)), (.getfield 18, (1, 0, 2, 0, 0)), (.aload_n 0, (0, 0, 0, 0, 0)), (.getfield 22, (1, 0, 1, 0, 0)), (.if_icmp .ge 53, (0, 124, 0, 0, 0)), (.aload_n 0, (0, 0, 0, 0, 0)), (.getfield 9, (1, 0, 0, 0, 0)), (.aload_n 0, (0, 0, 0, 0, 0)), (.getfield 18, (1, 0, 2, 0, 0)), (.iaload, (2, 0, 0, 0, 0)), (.invokestatic 77, (0, 0, 0, 0, 0)), (.ifCond .eq 38, (0, 124, 0, 0, 0)), (.iload_n 2, (0, 0, 0, 0, 0)), (.iload_n 3, (0, 0, 0, 0, 0)), (.aload_n 0, (0, 0, 0, 0, 0)), (.getfield 9, (1, 0, 0, 0, 0)), (.aload_n 0, (0, 0, 0, 0, 0)), (.getfield 18, (1, 0, 2, 0, 0)), (.iaload, (2, 0, 0, 0, 0)), (.bipush 48, (0, 0, 0, 48, 0)), (.isub, (0, 0, 0, 0, 0)), (.imul, (0, 0, 0, 0, 0)), (.iadd, (0, 0, 0, 0, 0)), (.istore_n 2, (0, 0, 0, 0, 0)), (.aload_n 0, (0, 0, 0, 0, 0)), (.dup, (0, 0, 0, 0, 0)), (.getfield 18, (1, 0, 2, 0, 0)), (.iconst 1, (0, 0, 0, 1, 0)), (.iadd, (0, 0, 0, 0, 0)), (.putfield 18, (1, 0, 2, 0, 0)), (.iload_n 3, (0, 0, 0, 0, 0)), (.bipush 10, (0, 0, 0, 10, 0)), (.idiv, (0, 0, 0, 0, 0)), (.istore_n 3, (0, 0, 0, 0, 0)), (.goto (-62), (0, 59, 0, 0, 0)), (.iload_n 2, (0, 0, 0, 0, 0)), (.sipush 1000, (0, 0, 0, 1000, 0)), (.if_icmp .le 7, (0, 135, 0, 0, 0)), (.iconst (-1), (0, 0, 0, (-1), 0)), (.goto 4, (0, 136, 0, 0, 0)), (.iload_n 2, (0, 0, 0, 0, 0)), (.ireturn, (0, 0, 0, 0, 0))]
theorem jc_Rd_takeWeight : wq_c b_Rd_takeWeight 4 j_Rd_takeWeight 0 = true := sorry
def j_Rd_takeNumber : wq_J := [(.iconst 0, (0, 0, 0, 0, 0)), (.istore_n 1, (0, 0, 0, 0, 0)), (.iconst 0, (0, 0, 0, 0, 0)), (.istore_n 2, (0, 0, 0, 0, 0)), (.aload_n 0, (0, 0, 0, 0, 0)), (.getfield 18, (1, 0, 2, 0, 0)), (.aload_n 0, (0, 0, 0, 0, 0)), (.getfield 22, (1, 0, 1, 0, 0)), (.if_icmp .ge 62, (0, 74, 0, 0, 0)), (.aload_n 0, (0, 0, 0, 0, 0)), (.getfield 9, (1, 0, 0, 0, 0)), (.aload_n 0, (0, 0, 0, 0, 0)), (.getfield 18, (1, 0, 2, 0, 0)), (.iaload, (2, 0, 0, 0, 0)), (.invokestatic 77, (0, 0, 0, 0, 0)), (.ifCond .eq 47, (0, 74, 0, 0, 0)), (.iload_n 1, (0, 0, 0, 0, 0)), (.bipush 9, (0, 0, 0, 9, 0)), (.if_icmp .ge 23, (0, 56, 0, 0, 0)), (.bipush 10, (0, 0, 0, 10, 0)), (.iload_n 2, (0, 0, 0, 0, 0)), (.imul, (0, 0, 0, 0, 0)), (.aload_n 0, (0, 0, 0, 0, 0)), (.getfield 9, (1, 0, 0, 0, 0)), (.aload_n 0, (0, 0, 0, 0, 0)), (.getfield 18, (1, 0, 2, 0, 0)), (.iaload, (2, 0, 0, 0, 0)), (.iadd, (0, 0, 0, 0, 0)), (.bipush 48, (0, 0, 0, 48, 0)), (.isub, (0, 0, 0, 0, 0)), (.goto 4, (0, 57, 0, 0, 0)), (.iload_n 2, (0, 0, 0, 0, 0)), (.istore_n 2, (0, 0, 0, 0, 0)), (.iinc 1 1, (0, 0, 0, 1, 0)), (.aload_n 0, (0, 0, 0, 0, 0)), (.dup, (0, 0, 0, 0, 0)), (.getfield 18, (1, 0, 2, 0, 0)), (.iconst 1, (0, 0, 0, 1, 0)), (.iadd, (0, 0, 0, 0, 0)), (.putfield 18, (1, 0, 2, 0, 0)), (.goto (-67), (0, 4, 0, 0, 0)), (.iload_n 1, (0, 0, 0, 0, 0)), (.ifCond .ne 5, (0, 80, 0, 0, 0)), (.iconst (-1), (0, 0, 0, (-1), 0)), (.ireturn, (0, 0, 0, 0, 0)), (.iload_n 1, (0, 0, 0, 0, 0)), (.bipush 9, (0, 0, 0, 9, 0)), (.if_icmp .le 8, (0, 91, 0, 0, 0)), (.ldc 80, (1, 0, 0, 999999999, 0)), (.goto 4, (0, 92, 0, 0, 0)), (.iload_n 2, (0, 0, 0, 0, 0)), (.ireturn, (0, 0, 0, 0, 0))]
theorem jc_Rd_takeNumber : wq_c b_Rd_takeNumber 3 j_Rd_takeNumber 0 = true := sorry
def j_Rd_takeDigits : wq_J := [(.iconst 0, (0, 0, 0, 0, 0)), (.istore_n 2, (0, 0, 0, 0, 0)), (.iconst 0, (0, 0, 0, 0, 0)), (.istore_n 3, (0, 0, 0, 0, 0)), (.iload_n 3, (0, 0, 0, 0, 0)), (.iload_n 1, (0, 0, 0, 0, 0)), (.if_icmp .ge 78, (0, 84, 0, 0, 0)), (.aload_n 0, (0, 0, 0, 0, 0)), (.getfield 18, (1, 0, 2, 0, 0)), (.aload_n 0, (0, 0, 0, 0, 0)), (.getfield 22, (1, 0, 1, 0, 0)), (.if_icmp .ge 31, (0, 48, 0, 0, 0)), (.aload_n 0, (0, 0, 0, 0, 0)), (.getfield 9, (1, 0, 0, 0, 0)), (.aload_n 0, (0, 0, 0, 0, 0)), (.getfield 18, (1, 0, 2, 0, 0)), (.iaload, (2, 0, 0, 0, 0)), (.bipush 48, (0, 0, 0, 48, 0)), (.if_icmp .lt 17, (0, 48, 0, 0, 0)), (.aload_n 0, (0, 0, 0, 0, 0)), (.getfield 9, (1, 0, 0, 0, 0)), (.aload_n 0, (0, 0, 0, 0, 0)), (.getfield 18, (1, 0, 2, 0, 0)), (.iaload, (2, 0, 0, 0, 0)), (.bipush 57, (0, 0, 0, 57, 0)), (.if_icmp .le 5, (0, 50, 0, 0, 0)), (.iconst (-1), (0, 0, 0, (-1), 0)), (.ireturn, (0, 0, 0, 0, 0)), (.bipush 10, (0, 0, 0, 10, 0)), (.iload_n 2, (0, 0, 0, 0, 0)), (.imul, (0, 0, 0, 0, 0)), (.aload_n 0, (0, 0, 0, 0, 0)), (.getfield 9, (1, 0, 0, 0, 0)), (.aload_n 0, (0, 0, 0, 0, 0)), (.getfield 18, (1, 0, 2, 0, 0)), (.iaload, (2, 0, 0, 0, 0)), (.iadd, (0, 0, 0, 0, 0)), (.bipush 48, (0, 0, 0, 48, 0)), (.isub, (0, 0, 0, 0, 0)), (.istore_n 2, (0, 0, 0, 0, 0)), (.aload_n 0, (0, 0, 0, 0, 0)), (.dup, (0, 0, 0, 0, 0)), (.getfield 18, (1, 0, 2, 0, 0)), (.iconst 1, (0, 0, 0, 1, 0)), (.iadd, (0, 0, 0, 0, 0)), (.putfield 18, (1, 0, 2, 0, 0)), (.iinc 3 1, (0, 0, 0, 1, 0)), (.goto (-77), (0, 4, 0, 0, 0)), (.iload_n 2, (0, 0, 0, 0, 0)), (.ireturn, (0, 0, 0, 0, 0))]
theorem jc_Rd_takeDigits : wq_c b_Rd_takeDigits 4 j_Rd_takeDigits 0 = true := sorry
def j_Rd_takeName : wq_J := [(.aload_n 0, (0, 0, 0, 0, 0)), (.getfield 22, (1, 0, 1, 0, 0)), (.aload_n 0, (0, 0, 0, 0, 0)), (.getfield 18, (1, 0, 2, 0, 0)), (.isub, (0, 0, 0, 0, 0)), (.iconst 3, (0, 0, 0, 3, 0)), (.if_icmp .ge 5, (0, 15, 0, 0, 0)), (.iconst (-1), (0, 0, 0, (-1), 0)), (.ireturn, (0, 0, 0, 0, 0)), (.iconst 0, (0, 0, 0, 0, 0)), (.istore_n 2, (0, 0, 0, 0, 0)), (.iload_n 2, (0, 0, 0, 0, 0)), (.iconst 2, (0, 0, 0, 2, 0)), (.iadd, (0, 0, 0, 0, 0)), (.aload_n 1, (0, 0, 0, 0, 0)), (.invokevirtual 45, (0, 0, 0, 0, 0)), (.if_icmp .ge 92, (0, 116, 0, 0, 0)), (.aload_n 0, (0, 0, 0, 0, 0)), (.getfield 9, (1, 0, 0, 0, 0)), (.aload_n 0, (0, 0, 0, 0, 0)), (.getfield 18, (1, 0, 2, 0, 0)), (.iaload, (2, 0, 0, 0, 0)), (.aload_n 1, (0, 0, 0, 0, 0)), (.iload_n 2, (0, 0, 0, 0, 0)), (.invokevirtual 51, (0, 0, 0, 0, 0)), (.if_icmp .ne 28, (0, 69, 0, 0, 0)), (.aload_n 0, (0, 0, 0, 0, 0)), (.getfield 9, (1, 0, 0, 0, 0)), (.aload_n 0, (0, 0, 0, 0, 0)), (.getfield 18, (1, 0, 2, 0, 0)), (.iconst 1, (0, 0, 0, 1, 0)), (.iadd, (0, 0, 0, 0, 0)), (.iaload, (2, 0, 0, 0, 0)), (.aload_n 1, (0, 0, 0, 0, 0)), (.iload_n 2, (0, 0, 0, 0, 0)), (.iconst 1, (0, 0, 0, 1, 0)), (.iadd, (0, 0, 0, 0, 0)), (.invokevirtual 51, (0, 0, 0, 0, 0)), (.if_icmp .ne 7, (0, 69, 0, 0, 0)), (.iconst 1, (0, 0, 0, 1, 0)), (.goto 4, (0, 70, 0, 0, 0)), (.iconst 0, (0, 0, 0, 0, 0)), (.istore_n 3, (0, 0, 0, 0, 0)), (.iload_n 3, (0, 0, 0, 0, 0)), (.ifCond .eq 38, (0, 110, 0, 0, 0)), (.aload_n 0, (0, 0, 0, 0, 0)), (.getfield 9, (1, 0, 0, 0, 0)), (.aload_n 0, (0, 0, 0, 0, 0)), (.getfield 18, (1, 0, 2, 0, 0)), (.iconst 2, (0, 0, 0, 2, 0)), (.iadd, (0, 0, 0, 0, 0)), (.iaload, (2, 0, 0, 0, 0)), (.aload_n 1, (0, 0, 0, 0, 0)), (.iload_n 2, (0, 0, 0, 0, 0)), (.iconst 2, (0, 0, 0, 2, 0)), (.iadd, (0, 0, 0, 0, 0)), (.invokevirtual 51, (0, 0, 0, 0, 0)), (.if_icmp .ne 17, (0, 110, 0, 0, 0)), (.aload_n 0, (0, 0, 0, 0, 0)), (.dup, (0, 0, 0, 0, 0)), (.getfield 18, (1, 0, 2, 0, 0)), (.iconst 3, (0, 0, 0, 3, 0)), (.iadd, (0, 0, 0, 0, 0)), (.putfield 18, (1, 0, 2, 0, 0)), (.iload_n 2, (0, 0, 0, 0, 0)), (.iconst 3, (0, 0, 0, 3, 0)), (.idiv, (0, 0, 0, 0, 0)), (.ireturn, (0, 0, 0, 0, 0)), (.iinc 2 3, (0, 0, 0, 3, 0)), (.goto (-96), (0, 17, 0, 0, 0)), (.iconst (-1), (0, 0, 0, (-1), 0)), (.ireturn, (0, 0, 0, 0, 0))]
theorem jc_Rd_takeName : wq_c b_Rd_takeName 4 j_Rd_takeName 0 = true := sorry
def j_Rd_saidSize : wq_J := [(.aload_n 0, (0, 0, 0, 0, 0)), (.getfield 59, (1, 0, 4, 0, 0)), (.ireturn, (0, 0, 0, 0, 0))]
theorem jc_Rd_saidSize : wq_c b_Rd_saidSize 1 j_Rd_saidSize 0 = true := sorry
def j_Rd_isSaid : wq_J := [(.aload_n 0, (0, 0, 0, 0, 0)), (.getfield 59, (1, 0, 4, 0, 0)), (.aload_n 1, (0, 0, 0, 0, 0)), (.invokevirtual 45, (0, 0, 0, 0, 0)), (.if_icmp .eq 5, (0, 13, 0, 0, 0)), (.iconst 0, (0, 0, 0, 0, 0)), (.ireturn, (0, 0, 0, 0, 0)), (.iconst 0, (0, 0, 0, 0, 0)), (.istore_n 2, (0, 0, 0, 0, 0)), (.iload_n 2, (0, 0, 0, 0, 0)), (.aload_n 0, (0, 0, 0, 0, 0)), (.getfield 59, (1, 0, 4, 0, 0)), (.if_icmp .ge 25, (0, 45, 0, 0, 0)), (.aload_n 0, (0, 0, 0, 0, 0)), (.getfield 15, (1, 0, 3, 0, 0)), (.iload_n 2, (0, 0, 0, 0, 0)), (.iaload, (1, 1, 0, 0, 0)), (.aload_n 1, (0, 0, 0, 0, 0)), (.iload_n 2, (0, 0, 0, 0, 0)), (.invokevirtual 51, (0, 0, 0, 0, 0)), (.if_icmp .eq 5, (0, 39, 0, 0, 0)), (.iconst 0, (0, 0, 0, 0, 0)), (.ireturn, (0, 0, 0, 0, 0)), (.iinc 2 1, (0, 0, 0, 1, 0)), (.goto (-27), (0, 15, 0, 0, 0)), (.iconst 1, (0, 0, 0, 1, 0)), (.ireturn, (0, 0, 0, 0, 0))]
theorem jc_Rd_isSaid : wq_c b_Rd_isSaid 3 j_Rd_isSaid 0 = true := sorry
def j_Rd_isSaidAlike : wq_J := [(.aload_n 0, (0, 0, 0, 0, 0)), (.getfield 59, (1, 0, 4, 0, 0)), (.aload_n 1, (0, 0, 0, 0, 0)), (.invokevirtual 45, (0, 0, 0, 0, 0)), (.if_icmp .eq 5, (0, 13, 0, 0, 0)), (.iconst 0, (0, 0, 0, 0, 0)), (.ireturn, (0, 0, 0, 0, 0)), (.iconst 0, (0, 0, 0, 0, 0)), (.istore_n 2, (0, 0, 0, 0, 0)), (.iload_n 2, (0, 0, 0, 0, 0)), (.aload_n 0, (0, 0, 0, 0, 0)), (.getfield 59, (1, 0, 4, 0, 0)), (.if_icmp .ge 31, (0, 51, 0, 0, 0)), (.aload_n 0, (0, 0, 0, 0, 0)), (.getfield 15, (1, 0, 3, 0, 0)), (.iload_n 2, (0, 0, 0, 0, 0)), (.iaload, (1, 1, 0, 0, 0)), (.invokestatic 55, (0, 0, 0, 0, 0)), (.aload_n 1, (0, 0, 0, 0, 0)), (.iload_n 2, (0, 0, 0, 0, 0)), (.invokevirtual 51, (0, 0, 0, 0, 0)), (.invokestatic 55, (0, 0, 0, 0, 0)), (.if_icmp .eq 5, (0, 45, 0, 0, 0)), (.iconst 0, (0, 0, 0, 0, 0)), (.ireturn, (0, 0, 0, 0, 0)), (.iinc 2 1, (0, 0, 0, 1, 0)), (.goto (-33), (0, 15, 0, 0, 0)), (.iconst 1, (0, 0, 0, 1, 0)), (.ireturn, (0, 0, 0, 0, 0))]
theorem jc_Rd_isSaidAlike : wq_c b_Rd_isSaidAlike 3 j_Rd_isSaidAlike 0 = true := sorry
def j_Rd_saysStar : wq_J := [(.iconst 0, (0, 0, 0, 0, 0)), (.istore_n 1, (0, 0, 0, 0, 0)), (.iload_n 1, (0, 0, 0, 0, 0)), (.aload_n 0, (0, 0, 0, 0, 0)), (.getfield 59, (1, 0, 4, 0, 0)), (.if_icmp .ge 22, (0, 29, 0, 0, 0)), (.aload_n 0, (0, 0, 0, 0, 0)), (.getfield 15, (1, 0, 3, 0, 0)), (.iload_n 1, (0, 0, 0, 0, 0)), (.iaload, (1, 1, 0, 0, 0)), (.bipush 42, (0, 0, 0, 42, 0)), (.if_icmp .ne 5, (0, 23, 0, 0, 0)), (.iconst 1, (0, 0, 0, 1, 0)), (.ireturn, (0, 0, 0, 0, 0)), (.iinc 1 1, (0, 0, 0, 1, 0)), (.goto (-24), (0, 2, 0, 0, 0)), (.iconst 0, (0, 0, 0, 0, 0)), (.ireturn, (0, 0, 0, 0, 0))]
theorem jc_Rd_saysStar : wq_c b_Rd_saysStar 2 j_Rd_saysStar 0 = true := sorry
def j_Rd_say : wq_J := [(.aload_n 0, (0, 0, 0, 0, 0)), (.getfield 59, (1, 0, 4, 0, 0)), (.bipush 96, (0, 0, 0, 96, 0)), (.if_icmp .ge 23, (0, 29, 0, 0, 0)), (.aload_n 0, (0, 0, 0, 0, 0)), (.getfield 15, (1, 0, 3, 0, 0)), (.aload_n 0, (0, 0, 0, 0, 0)), (.getfield 59, (1, 0, 4, 0, 0)), (.iload_n 1, (0, 0, 0, 0, 0)), (.iastore, (1, 1, 0, 0, 0)), (.aload_n 0, (0, 0, 0, 0, 0)), (.dup, (0, 0, 0, 0, 0)), (.getfield 59, (1, 0, 4, 0, 0)), (.iconst 1, (0, 0, 0, 1, 0)), (.iadd, (0, 0, 0, 0, 0)), (.putfield 59, (1, 0, 4, 0, 0)), (.return_, (0, 0, 0, 0, 0))]
theorem jc_Rd_say : wq_c b_Rd_say 2 j_Rd_say 0 = true := sorry
def j_Rd_isDigit : wq_J := [(.iload_n 0, (0, 0, 0, 0, 0)), (.bipush 48, (0, 0, 0, 48, 0)), (.if_icmp .lt 13, (0, 16, 0, 0, 0)), (.iload_n 0, (0, 0, 0, 0, 0)), (.bipush 57, (0, 0, 0, 57, 0)), (.if_icmp .gt 7, (0, 16, 0, 0, 0)), (.iconst 1, (0, 0, 0, 1, 0)), (.goto 4, (0, 17, 0, 0, 0)), (.iconst 0, (0, 0, 0, 0, 0)), (.ireturn, (0, 0, 0, 0, 0))]
theorem jc_Rd_isDigit : wq_c b_Rd_isDigit 1 j_Rd_isDigit 0 = true := sorry
def j_Rd_isLetter : wq_J := [(.iload_n 0, (0, 0, 0, 0, 0)), (.bipush 32, (0, 0, 0, 32, 0)), (.ior, (0, 0, 0, 0, 0)), (.istore_n 1, (0, 0, 0, 0, 0)), (.iload_n 1, (0, 0, 0, 0, 0)), (.bipush 97, (0, 0, 0, 97, 0)), (.if_icmp .lt 13, (0, 21, 0, 0, 0)), (.iload_n 1, (0, 0, 0, 0, 0)), (.bipush 122, (0, 0, 0, 122, 0)), (.if_icmp .gt 7, (0, 21, 0, 0, 0)), (.iconst 1, (0, 0, 0, 1, 0)), (.goto 4, (0, 22, 0, 0, 0)), (.iconst 0, (0, 0, 0, 0, 0)), (.ireturn, (0, 0, 0, 0, 0))]
theorem jc_Rd_isLetter : wq_c b_Rd_isLetter 2 j_Rd_isLetter 0 = true := sorry
def j_Rd_lower : wq_J := [(.iload_n 0, (0, 0, 0, 0, 0)), (.bipush 65, (0, 0, 0, 65, 0)), (.if_icmp .lt 16, (0, 19, 0, 0, 0)), (.iload_n 0, (0, 0, 0, 0, 0)), (.bipush 90, (0, 0, 0, 90, 0)), (.if_icmp .gt 10, (0, 19, 0, 0, 0)), (.iload_n 0, (0, 0, 0, 0, 0)), (.bipush 32, (0, 0, 0, 32, 0)), (.iadd, (0, 0, 0, 0, 0)), (.goto 4, (0, 20, 0, 0, 0)), (.iload_n 0, (0, 0, 0, 0, 0)), (.ireturn, (0, 0, 0, 0, 0))]
theorem jc_Rd_lower : wq_c b_Rd_lower 1 j_Rd_lower 0 = true := sorry
def j_Rd_isQuotable : wq_J := [(.iload_n 0, (0, 0, 0, 0, 0)), (.bipush 9, (0, 0, 0, 9, 0)), (.if_icmp .eq 15, (0, 18, 0, 0, 0)), (.iload_n 0, (0, 0, 0, 0, 0)), (.bipush 32, (0, 0, 0, 32, 0)), (.if_icmp .lt 13, (0, 22, 0, 0, 0)), (.iload_n 0, (0, 0, 0, 0, 0)), (.bipush 127, (0, 0, 0, 127, 0)), (.if_icmp .eq 7, (0, 22, 0, 0, 0)), (.iconst 1, (0, 0, 0, 1, 0)), (.goto 4, (0, 23, 0, 0, 0)), (.iconst 0, (0, 0, 0, 0, 0)), (.ireturn, (0, 0, 0, 0, 0))]
theorem jc_Rd_isQuotable : wq_c b_Rd_isQuotable 1 j_Rd_isQuotable 0 = true := sorry
def j_Rp_init : wq_J := [(.aload_n 0, (0, 0, 0, 0, 0)), (.invokespecial 1, (0, 0, 0, 0, 0)), (.aload_n 0, (0, 0, 0, 0, 0)), (.iload_n 1, (0, 0, 0, 0, 0)), (.putfield 7, (3, 0, 0, 0, 0)), (.aload_n 0, (0, 0, 0, 0, 0)), (.aload_n 2, (0, 0, 0, 0, 0)), (.putfield 13, (3, 0, 1, 0, 0)), (.aload_n 0, (0, 0, 0, 0, 0)), (.aload_n 3, (0, 0, 0, 0, 0)), (.putfield 17, (3, 0, 2, 0, 0)), (.aload_n 0, (0, 0, 0, 0, 0)), (.iload 4, (0, 0, 0, 0, 0)), (.putfield 21, (3, 0, 3, 0, 0)), (.aload_n 0, (0, 0, 0, 0, 0)), (.new 24, (0, 0, 0, 0, 0)), (.dup, (0, 0, 0, 0, 0)), (.invokespecial 26, (0, 0, 0, 0, 0)), (.bipush 118, (0, 0, 0, 118, 0)), (.invokevirtual 27, (0, 0, 0, 0, 0)), (.iload 5, (0, 0, 0, 0, 0)), (.invokevirtual 31, (0, 0, 0, 0, 0)), (.invokevirtual 34, (0, 0, 0, 0, 0)), (.putfield 38, (3, 0, 4, 0, 0)), (.aload_n 0, (0, 0, 0, 0, 0)), (.iload 6, (0, 0, 0, 0, 0)), (.putfield 42, (3, 0, 5, 0, 0)), (.aload_n 0, (0, 0, 0, 0, 0)), (.lload 7, (0, 0, 0, 0, 0)), (.putfield 46, (3, 0, 6, 0, 0)), (.return_, (0, 0, 0, 0, 0))]
theorem jc_Rp_init : wq_c b_Rp_init 9 j_Rp_init 0 = true := sorry
def j_Rp_byteAt : wq_J := [(.bipush 7, (0, 0, 0, 7, 0)), (.iload_n 1, (0, 0, 0, 0, 0)), (.imul, (0, 0, 0, 0, 0)), (.bipush 13, (0, 0, 0, 13, 0)), (.aload_n 0, (0, 0, 0, 0, 0)), (.getfield 7, (1, 0, 0, 0, 0)), (.imul, (0, 0, 0, 0, 0)), (.iadd, (0, 0, 0, 0, 0)), (.iconst 1, (0, 0, 0, 1, 0)), (.iadd, (0, 0, 0, 0, 0)), (.sipush 251, (0, 0, 0, 251, 0)), (.irem, (0, 0, 0, 0, 0)), (.ireturn, (0, 0, 0, 0, 0))]
theorem jc_Rp_byteAt : wq_c b_Rp_byteAt 2 j_Rp_byteAt 0 = true := sorry
def j_Rq_init : wq_J := [(.aload_n 0, (0, 0, 0, 0, 0)), (.invokespecial 3, (0, 0, 0, 0, 0)), (.aload_n 0, (0, 0, 0, 0, 0)), (.iconst 0, (0, 0, 0, 0, 0)), (.putfield 9, (1, 0, 0, 0, 0)), (.aload_n 0, (0, 0, 0, 0, 0)), (.bipush 8, (0, 0, 0, 8, 0)), (.bipush 96, (0, 0, 0, 96, 0)), (.multianewarray 15 2, (0, 0, 0, 0, 0)), (.putfield 17, (3, 0, 1, 0, 0)), (.aload_n 0, (0, 0, 0, 0, 0)), (.bipush 8, (0, 0, 0, 8, 0)), (.newarray .int, (0, 0, 0, 0, 0)), (.putfield 20, (3, 0, 2, 0, 0)), (.return_, (0, 0, 0, 0, 0))]
theorem jc_Rq_init : wq_c b_Rq_init 1 j_Rq_init 0 = true := sorry
def j_Rq_restart : wq_J := [(.aload_n 0, (0, 0, 0, 0, 0)), (.iload_n 1, (0, 0, 0, 0, 0)), (.putfield 9, (1, 0, 0, 0, 0)), (.iconst 0, (0, 0, 0, 0, 0)), (.istore_n 2, (0, 0, 0, 0, 0)), (.iload_n 2, (0, 0, 0, 0, 0)), (.bipush 8, (0, 0, 0, 8, 0)), (.if_icmp .ge 16, (0, 26, 0, 0, 0)), (.aload_n 0, (0, 0, 0, 0, 0)), (.getfield 20, (1, 0, 2, 0, 0)), (.iload_n 2, (0, 0, 0, 0, 0)), (.iconst 0, (0, 0, 0, 0, 0)), (.iastore, (1, 1, 0, 0, 0)), (.iinc 2 1, (0, 0, 0, 1, 0)), (.goto (-16), (0, 7, 0, 0, 0)), (.return_, (0, 0, 0, 0, 0))]
theorem jc_Rq_restart : wq_c b_Rq_restart 3 j_Rq_restart 0 = true := sorry
def j_Rq_has : wq_J := [(.iload_n 1, (0, 0, 0, 0, 0)), (.ifCond .lt 22, (0, 23, 0, 0, 0)), (.iload_n 1, (0, 0, 0, 0, 0)), (.bipush 8, (0, 0, 0, 8, 0)), (.if_icmp .ge 16, (0, 23, 0, 0, 0)), (.aload_n 0, (0, 0, 0, 0, 0)), (.getfield 20, (1, 0, 2, 0, 0)), (.iload_n 1, (0, 0, 0, 0, 0)), (.iaload, (1, 1, 0, 0, 0)), (.ifCond .le 7, (0, 23, 0, 0, 0)), (.iconst 1, (0, 0, 0, 1, 0)), (.goto 4, (0, 24, 0, 0, 0)), (.iconst 0, (0, 0, 0, 0, 0)), (.ireturn, (0, 0, 0, 0, 0))]
theorem jc_Rq_has : wq_c b_Rq_has 2 j_Rq_has 0 = true := sorry
def j_Rq_append : wq_J := [(.iload_n 1, (0, 0, 0, 0, 0)), (.ifCond .lt 9, (0, 10, 0, 0, 0)), (.iload_n 1, (0, 0, 0, 0, 0)), (.bipush 8, (0, 0, 0, 8, 0)), (.if_icmp .lt 5, (0, 12, 0, 0, 0)), (.iconst (-1), (0, 0, 0, (-1), 0)), (.ireturn, (0, 0, 0, 0, 0)), (.lload_n 2, (0, 0, 0, 0, 0)), (.invokestatic 24, (0, 0, 0, 0, 0)), (.istore 4, (0, 0, 0, 0, 0)), (.aload_n 0, (0, 0, 0, 0, 0)), (.getfield 20, (1, 0, 2, 0, 0)), (.iload_n 1, (0, 0, 0, 0, 0)), (.iaload, (1, 1, 0, 0, 0)), (.istore 5, (0, 0, 0, 0, 0)), (.iload 5, (0, 0, 0, 0, 0)), (.iload 4, (0, 0, 0, 0, 0)), (.iadd, (0, 0, 0, 0, 0)), (.bipush 96, (0, 0, 0, 96, 0)), (.if_icmp .le 5, (0, 38, 0, 0, 0)), (.iconst (-1), (0, 0, 0, (-1), 0)), (.ireturn, (0, 0, 0, 0, 0)), (.iconst 0, (0, 0, 0, 0, 0)), (.istore 6, (0, 0, 0, 0, 0)), (.iload 6, (0, 0, 0, 0, 0)), (.iload 4, (0, 0, 0, 0, 0)), (.if_icmp .ge 27, (0, 72, 0, 0, 0)), (.aload_n 0, (0, 0, 0, 0, 0)), (.getfield 17, (1, 0, 1, 0, 0)), (.iload_n 1, (0, 0, 0, 0, 0)), (.aaload, (0, 0, 0, 0, 0)), (.iload 5, (0, 0, 0, 0, 0)), (.iload 6, (0, 0, 0, 0, 0)), (.iadd, (0, 0, 0, 0, 0)), (.lload_n 2, (0, 0, 0, 0, 0)), (.iload 6, (0, 0, 0, 0, 0)), (.invokestatic 28, (0, 0, 0, 0, 0)), (.iastore, (0, 0, 0, 0, 0)), (.iinc 6 1, (0, 0, 0, 1, 0)), (.goto (-28), (0, 41, 0, 0, 0)), (.aload_n 0, (0, 0, 0, 0, 0)), (.getfield 20, (1, 0, 2, 0, 0)), (.iload_n 1, (0, 0, 0, 0, 0)), (.iload 5, (0, 0, 0, 0, 0)), (.iload 4, (0, 0, 0, 0, 0)), (.iadd, (0, 0, 0, 0, 0)), (.iastore, (1, 1, 0, 0, 0)), (.iload 5, (0, 0, 0, 0, 0)), (.iload 4, (0, 0, 0, 0, 0)), (.iadd, (0, 0, 0, 0, 0)), (.ireturn, (0, 0, 0, 0, 0))]
theorem jc_Rq_append : wq_c b_Rq_append 7 j_Rq_append 0 = true := sorry
def j_Rq_countOf : wq_J := [(.iconst 0, (0, 0, 0, 0, 0)), (.istore_n 2, (0, 0, 0, 0, 0)), (.iload_n 2, (0, 0, 0, 0, 0)), (.bipush 8, (0, 0, 0, 8, 0)), (.if_icmp .ge 17, (0, 22, 0, 0, 0)), (.lload_n 0, (0, 0, 0, 0, 0)), (.iload_n 2, (0, 0, 0, 0, 0)), (.invokestatic 28, (0, 0, 0, 0, 0)), (.ifCond .eq 9, (0, 22, 0, 0, 0)), (.iinc 2 1, (0, 0, 0, 1, 0)), (.goto (-17), (0, 2, 0, 0, 0)), (.iload_n 2, (0, 0, 0, 0, 0)), (.ireturn, (0, 0, 0, 0, 0))]
theorem jc_Rq_countOf : wq_c b_Rq_countOf 3 j_Rq_countOf 0 = true := sorry
def j_Rq_characterOf : wq_J := [(.lload_n 0, (0, 0, 0, 0, 0)), (.bipush 8, (0, 0, 0, 8, 0)), (.iload_n 2, (0, 0, 0, 0, 0)), (.imul, (0, 0, 0, 0, 0)), (.lushr, (0, 0, 0, 0, 0)), (.l2i, (0, 0, 0, 0, 0)), (.sipush 255, (0, 0, 0, 255, 0)), (.iand, (0, 0, 0, 0, 0)), (.ireturn, (0, 0, 0, 0, 0))]
theorem jc_Rq_characterOf : wq_c b_Rq_characterOf 3 j_Rq_characterOf 0 = true := sorry
def j_Rs_init : wq_J := [(.aload_n 0, (0, 0, 0, 0, 0)), (.invokespecial 3, (0, 0, 0, 0, 0)), (.aload_n 0, (0, 0, 0, 0, 0)), (.iconst (-1), (0, 0, 0, (-1), 0)), (.putfield 9, (1, 0, 0, 0, 0)), (.aload_n 0, (0, 0, 0, 0, 0)), (.iconst 4, (0, 0, 0, 4, 0)), (.newarray .int, (0, 0, 0, 0, 0)), (.putfield 15, (3, 0, 4, 0, 0)), (.aload_n 0, (0, 0, 0, 0, 0)), (.iconst 4, (0, 0, 0, 4, 0)), (.newarray .int, (0, 0, 0, 0, 0)), (.putfield 19, (3, 0, 5, 0, 0)), (.aload_n 0, (0, 0, 0, 0, 0)), (.new 22, (0, 0, 0, 0, 0)), (.dup, (0, 0, 0, 0, 0)), (.invokespecial 24, (0, 0, 0, 0, 0)), (.putfield 25, (3, 0, 7, 0, 0)), (.return_, (0, 0, 0, 0, 0))]
theorem jc_Rs_init : wq_c b_Rs_init 1 j_Rs_init 0 = true := sorry
def j_Rs_settle : wq_J := [(.aload_n 0, (0, 0, 0, 0, 0)), (.iload_n 1, (0, 0, 0, 0, 0)), (.putfield 9, (1, 0, 0, 0, 0)), (.aload_n 0, (0, 0, 0, 0, 0)), (.aload_n 2, (0, 0, 0, 0, 0)), (.putfield 29, (1, 0, 1, 0, 0)), (.aload_n 0, (0, 0, 0, 0, 0)), (.iload_n 3, (0, 0, 0, 0, 0)), (.putfield 33, (1, 0, 6, 0, 0)), (.aload_n 0, (0, 0, 0, 0, 0)), (.aload_n 0, (0, 0, 0, 0, 0)), (.getfield 9, (1, 0, 0, 0, 0)), (.sipush 206, (0, 0, 0, 206, 0)), (.if_icmp .ne 11, (0, 34, 0, 0, 0)), (.aload 4, (0, 0, 0, 0, 0)), (.getfield 37, (2, 0, 0, 0, 0)), (.goto 4, (0, 35, 0, 0, 0)), (.iconst 0, (0, 0, 0, 0, 0)), (.putfield 42, (1, 0, 3, 0, 0)), (.iconst 0, (0, 0, 0, 0, 0)), (.istore 5, (0, 0, 0, 0, 0)), (.iload 5, (0, 0, 0, 0, 0)), (.aload_n 0, (0, 0, 0, 0, 0)), (.getfield 42, (1, 0, 3, 0, 0)), (.if_icmp .ge 45, (0, 92, 0, 0, 0)), (.iload 5, (0, 0, 0, 0, 0)), (.iconst 4, (0, 0, 0, 4, 0)), (.if_icmp .ge 39, (0, 92, 0, 0, 0)), (.aload_n 0, (0, 0, 0, 0, 0)), (.getfield 15, (1, 0, 4, 0, 0)), (.iload 5, (0, 0, 0, 0, 0)), (.aload 4, (0, 0, 0, 0, 0)), (.getfield 45, (2, 0, 0, 0, 0)), (.iload 5, (0, 0, 0, 0, 0)), (.iaload, (2, 0, 0, 0, 0)), (.iastore, (1, 1, 0, 0, 0)), (.aload_n 0, (0, 0, 0, 0, 0)), (.getfield 19, (1, 0, 5, 0, 0)), (.iload 5, (0, 0, 0, 0, 0)), (.aload 4, (0, 0, 0, 0, 0)), (.getfield 46, (2, 0, 0, 0, 0)), (.iload 5, (0, 0, 0, 0, 0)), (.iaload, (2, 0, 0, 0, 0)), (.iastore, (1, 2, 0, 0, 0)), (.iinc 5 1, (0, 0, 0, 1, 0)), (.goto (-48), (0, 41, 0, 0, 0)), (.aload_n 0, (0, 0, 0, 0, 0)), (.aload_n 0, (0, 0, 0, 0, 0)), (.invokevirtual 47, (0, 0, 0, 0, 0)), (.putfield 51, (1, 0, 2, 0, 0)), (.return_, (0, 0, 0, 0, 0))]
theorem jc_Rs_settle : wq_c b_Rs_settle 6 j_Rs_settle 0 = true := sorry
def j_Rs_hasPart : wq_J := [(.iload_n 1, (0, 0, 0, 0, 0)), (.ifCond .lt 20, (0, 21, 0, 0, 0)), (.iload_n 1, (0, 0, 0, 0, 0)), (.aload_n 0, (0, 0, 0, 0, 0)), (.getfield 42, (1, 0, 3, 0, 0)), (.if_icmp .ge 12, (0, 21, 0, 0, 0)), (.iload_n 1, (0, 0, 0, 0, 0)), (.iconst 4, (0, 0, 0, 4, 0)), (.if_icmp .ge 7, (0, 21, 0, 0, 0)), (.iconst 1, (0, 0, 0, 1, 0)), (.goto 4, (0, 22, 0, 0, 0)), (.iconst 0, (0, 0, 0, 0, 0)), (.ireturn, (0, 0, 0, 0, 0))]
theorem jc_Rs_hasPart : wq_c b_Rs_hasPart 2 j_Rs_hasPart 0 = true := sorry
def j_Rs_byteAt : wq_J := [(.aload_n 0, (0, 0, 0, 0, 0)), (.getfield 29, (1, 0, 1, 0, 0)), (.ifnull 22, (0, 26, 0, 0, 0)), (.aload_n 0, (0, 0, 0, 0, 0)), (.getfield 33, (1, 0, 6, 0, 0)), (.ifCond .ne 15, (0, 26, 0, 0, 0)), (.iload_n 1, (0, 0, 0, 0, 0)), (.ifCond .lt 11, (0, 26, 0, 0, 0)), (.iload_n 1, (0, 0, 0, 0, 0)), (.aload_n 0, (0, 0, 0, 0, 0)), (.getfield 51, (1, 0, 2, 0, 0)), (.if_icmp .lt 5, (0, 28, 0, 0, 0)), (.iconst (-1), (0, 0, 0, (-1), 0)), (.ireturn, (0, 0, 0, 0, 0)), (.aload_n 0, (0, 0, 0, 0, 0)), (.getfield 42, (1, 0, 3, 0, 0)), (.ifCond .ne 12, (0, 44, 0, 0, 0)), (.aload_n 0, (0, 0, 0, 0, 0)), (.getfield 29, (1, 0, 1, 0, 0)), (.iload_n 1, (0, 0, 0, 0, 0)), (.invokevirtual 54, (0, 0, 0, 0, 0)), (.ireturn, (0, 0, 0, 0, 0)), (.aload_n 0, (0, 0, 0, 0, 0)), (.getfield 42, (1, 0, 3, 0, 0)), (.iconst 1, (0, 0, 0, 1, 0)), (.if_icmp .ne 21, (0, 70, 0, 0, 0)), (.aload_n 0, (0, 0, 0, 0, 0)), (.getfield 29, (1, 0, 1, 0, 0)), (.aload_n 0, (0, 0, 0, 0, 0)), (.getfield 15, (1, 0, 4, 0, 0)), (.iconst 0, (0, 0, 0, 0, 0)), (.iaload, (1, 1, 0, 0, 0)), (.iload_n 1, (0, 0, 0, 0, 0)), (.iadd, (0, 0, 0, 0, 0)), (.invokevirtual 54, (0, 0, 0, 0, 0)), (.goto 12, (0, 79, 0, 0, 0)), (.aload_n 0, (0, 0, 0, 0, 0)), (.aload_n 0, (0, 0, 0, 0, 0)), (.getfield 29, (1, 0, 1, 0, 0)), (.iload_n 1, (0, 0, 0, 0, 0)), (.invokevirtual 60, (0, 0, 0, 0, 0)), (.ireturn, (0, 0, 0, 0, 0))]
theorem jc_Rs_byteAt : wq_c b_Rs_byteAt 2 j_Rs_byteAt 0 = true := sorry
def j_Rs_measure : wq_J := [(.aload_n 0, (0, 0, 0, 0, 0)), (.getfield 9, (1, 0, 0, 0, 0)), (.sipush 200, (0, 0, 0, 200, 0)), (.if_icmp .ne 18, (0, 25, 0, 0, 0)), (.aload_n 0, (0, 0, 0, 0, 0)), (.getfield 29, (1, 0, 1, 0, 0)), (.ifnull 11, (0, 25, 0, 0, 0)), (.aload_n 0, (0, 0, 0, 0, 0)), (.getfield 29, (1, 0, 1, 0, 0)), (.getfield 64, (2, 0, 0, 0, 0)), (.ireturn, (0, 0, 0, 0, 0)), (.aload_n 0, (0, 0, 0, 0, 0)), (.getfield 42, (1, 0, 3, 0, 0)), (.iconst 2, (0, 0, 0, 2, 0)), (.if_icmp .lt 10, (0, 40, 0, 0, 0)), (.aload_n 0, (0, 0, 0, 0, 0)), (.getfield 29, (1, 0, 1, 0, 0)), (.ifnonnull 20, (0, 57, 0, 0, 0)), (.aload_n 0, (0, 0, 0, 0, 0)), (.getfield 42, (1, 0, 3, 0, 0)), (.ifCond .ne 7, (0, 51, 0, 0, 0)), (.iconst 0, (0, 0, 0, 0, 0)), (.goto 8, (0, 56, 0, 0, 0)), (.aload_n 0, (0, 0, 0, 0, 0)), (.iconst 0, (0, 0, 0, 0, 0)), (.invokevirtual 67, (0, 0, 0, 0, 0)), (.ireturn, (0, 0, 0, 0, 0)), (.ldc 70, (2, 0, 0, 0, 0)), (.invokevirtual 72, (0, 0, 0, 0, 0)), (.istore_n 1, (0, 0, 0, 0, 0)), (.iconst 0, (0, 0, 0, 0, 0)), (.istore_n 2, (0, 0, 0, 0, 0)), (.iload_n 2, (0, 0, 0, 0, 0)), (.aload_n 0, (0, 0, 0, 0, 0)), (.getfield 42, (1, 0, 3, 0, 0)), (.if_icmp .ge 43, (0, 113, 0, 0, 0)), (.aload_n 0, (0, 0, 0, 0, 0)), (.iload_n 2, (0, 0, 0, 0, 0)), (.aload_n 0, (0, 0, 0, 0, 0)), (.getfield 29, (1, 0, 1, 0, 0)), (.getfield 64, (2, 0, 0, 0, 0)), (.invokevirtual 77, (0, 0, 0, 0, 0)), (.iload_n 1, (0, 0, 0, 0, 0)), (.aload_n 0, (0, 0, 0, 0, 0)), (.getfield 25, (1, 0, 7, 0, 0)), (.invokevirtual 81, (0, 0, 0, 0, 0)), (.aload_n 0, (0, 0, 0, 0, 0)), (.iload_n 2, (0, 0, 0, 0, 0)), (.invokevirtual 67, (0, 0, 0, 0, 0)), (.iadd, (0, 0, 0, 0, 0)), (.ldc 82, (2, 0, 0, 0, 0)), (.invokevirtual 72, (0, 0, 0, 0, 0)), (.iadd, (0, 0, 0, 0, 0)), (.iadd, (0, 0, 0, 0, 0)), (.istore_n 1, (0, 0, 0, 0, 0)), (.iinc 2 1, (0, 0, 0, 1, 0)), (.goto (-45), (0, 65, 0, 0, 0)), (.iload_n 1, (0, 0, 0, 0, 0)), (.ireturn, (0, 0, 0, 0, 0))]
theorem jc_Rs_measure : wq_c b_Rs_measure 3 j_Rs_measure 0 = true := sorry
def j_Rs_byteAmongParts : wq_J := [(.iload_n 2, (0, 0, 0, 0, 0)), (.istore_n 3, (0, 0, 0, 0, 0)), (.iconst 0, (0, 0, 0, 0, 0)), (.istore 4, (0, 0, 0, 0, 0)), (.iload 4, (0, 0, 0, 0, 0)), (.aload_n 0, (0, 0, 0, 0, 0)), (.getfield 42, (1, 0, 3, 0, 0)), (.if_icmp .ge 106, (0, 117, 0, 0, 0)), (.aload_n 0, (0, 0, 0, 0, 0)), (.iload 4, (0, 0, 0, 0, 0)), (.aload_n 1, (0, 0, 0, 0, 0)), (.getfield 64, (2, 0, 0, 0, 0)), (.invokevirtual 77, (0, 0, 0, 0, 0)), (.iload_n 3, (0, 0, 0, 0, 0)), (.aload_n 0, (0, 0, 0, 0, 0)), (.getfield 25, (1, 0, 7, 0, 0)), (.invokevirtual 81, (0, 0, 0, 0, 0)), (.if_icmp .ge 12, (0, 44, 0, 0, 0)), (.aload_n 0, (0, 0, 0, 0, 0)), (.getfield 25, (1, 0, 7, 0, 0)), (.iload_n 3, (0, 0, 0, 0, 0)), (.invokevirtual 84, (0, 0, 0, 0, 0)), (.ireturn, (0, 0, 0, 0, 0)), (.iload_n 3, (0, 0, 0, 0, 0)), (.aload_n 0, (0, 0, 0, 0, 0)), (.getfield 25, (1, 0, 7, 0, 0)), (.invokevirtual 81, (0, 0, 0, 0, 0)), (.isub, (0, 0, 0, 0, 0)), (.istore_n 3, (0, 0, 0, 0, 0)), (.iload_n 3, (0, 0, 0, 0, 0)), (.aload_n 0, (0, 0, 0, 0, 0)), (.iload 4, (0, 0, 0, 0, 0)), (.invokevirtual 67, (0, 0, 0, 0, 0)), (.if_icmp .ge 17, (0, 78, 0, 0, 0)), (.aload_n 1, (0, 0, 0, 0, 0)), (.aload_n 0, (0, 0, 0, 0, 0)), (.getfield 15, (1, 0, 4, 0, 0)), (.iload 4, (0, 0, 0, 0, 0)), (.iaload, (1, 1, 0, 0, 0)), (.iload_n 3, (0, 0, 0, 0, 0)), (.iadd, (0, 0, 0, 0, 0)), (.invokevirtual 54, (0, 0, 0, 0, 0)), (.ireturn, (0, 0, 0, 0, 0)), (.iload_n 3, (0, 0, 0, 0, 0)), (.aload_n 0, (0, 0, 0, 0, 0)), (.iload 4, (0, 0, 0, 0, 0)), (.invokevirtual 67, (0, 0, 0, 0, 0)), (.isub, (0, 0, 0, 0, 0)), (.istore_n 3, (0, 0, 0, 0, 0)), (.iload_n 3, (0, 0, 0, 0, 0)), (.ldc 82, (2, 0, 0, 0, 0)), (.invokevirtual 72, (0, 0, 0, 0, 0)), (.if_icmp .ge 10, (0, 103, 0, 0, 0)), (.ldc 82, (2, 0, 0, 0, 0)), (.iload_n 3, (0, 0, 0, 0, 0)), (.invokevirtual 88, (0, 0, 0, 0, 0)), (.ireturn, (0, 0, 0, 0, 0)), (.iload_n 3, (0, 0, 0, 0, 0)), (.ldc 82, (2, 0, 0, 0, 0)), (.invokevirtual 72, (0, 0, 0, 0, 0)), (.isub, (0, 0, 0, 0, 0)), (.istore_n 3, (0, 0, 0, 0, 0)), (.iinc 4 1, (0, 0, 0, 1, 0)), (.goto (-109), (0, 5, 0, 0, 0)), (.iload_n 3, (0, 0, 0, 0, 0)), (.ldc 70, (2, 0, 0, 0, 0)), (.invokevirtual 72, (0, 0, 0, 0, 0)), (.if_icmp .ge 12, (0, 135, 0, 0, 0)), (.ldc 70, (2, 0, 0, 0, 0)), (.iload_n 3, (0, 0, 0, 0, 0)), (.invokevirtual 88, (0, 0, 0, 0, 0)), (.goto 4, (0, 136, 0, 0, 0)), (.iconst (-1), (0, 0, 0, (-1), 0)), (.ireturn, (0, 0, 0, 0, 0))]
theorem jc_Rs_byteAmongParts : wq_c b_Rs_byteAmongParts 5 j_Rs_byteAmongParts 0 = true := sorry
def j_Rs_writeHeading : wq_J := [(.aload_n 0, (0, 0, 0, 0, 0)), (.getfield 25, (1, 0, 7, 0, 0)), (.iconst 0, (0, 0, 0, 0, 0)), (.invokevirtual 89, (0, 0, 0, 0, 0)), (.aload_n 0, (0, 0, 0, 0, 0)), (.getfield 25, (1, 0, 7, 0, 0)), (.ldc 93, (2, 0, 0, 0, 0)), (.invokevirtual 95, (0, 0, 0, 0, 0)), (.aload_n 0, (0, 0, 0, 0, 0)), (.getfield 15, (1, 0, 4, 0, 0)), (.iload_n 1, (0, 0, 0, 0, 0)), (.iaload, (1, 1, 0, 0, 0)), (.invokevirtual 99, (0, 0, 0, 0, 0)), (.bipush 45, (0, 0, 0, 45, 0)), (.invokevirtual 102, (0, 0, 0, 0, 0)), (.aload_n 0, (0, 0, 0, 0, 0)), (.getfield 19, (1, 0, 5, 0, 0)), (.iload_n 1, (0, 0, 0, 0, 0)), (.iaload, (1, 2, 0, 0, 0)), (.invokevirtual 99, (0, 0, 0, 0, 0)), (.pop, (0, 0, 0, 0, 0)), (.aload_n 0, (0, 0, 0, 0, 0)), (.getfield 25, (1, 0, 7, 0, 0)), (.bipush 47, (0, 0, 0, 47, 0)), (.invokevirtual 102, (0, 0, 0, 0, 0)), (.iload_n 2, (0, 0, 0, 0, 0)), (.invokevirtual 99, (0, 0, 0, 0, 0)), (.ldc 105, (2, 0, 0, 0, 0)), (.invokevirtual 95, (0, 0, 0, 0, 0)), (.pop, (0, 0, 0, 0, 0)), (.return_, (0, 0, 0, 0, 0))]
theorem jc_Rs_writeHeading : wq_c b_Rs_writeHeading 3 j_Rs_writeHeading 0 = true := sorry
def j_Rs_partSize : wq_J := [(.aload_n 0, (0, 0, 0, 0, 0)), (.getfield 19, (1, 0, 5, 0, 0)), (.iload_n 1, (0, 0, 0, 0, 0)), (.iaload, (1, 2, 0, 0, 0)), (.aload_n 0, (0, 0, 0, 0, 0)), (.getfield 15, (1, 0, 4, 0, 0)), (.iload_n 1, (0, 0, 0, 0, 0)), (.iaload, (1, 1, 0, 0, 0)), (.isub, (0, 0, 0, 0, 0)), (.iconst 1, (0, 0, 0, 1, 0)), (.iadd, (0, 0, 0, 0, 0)), (.ireturn, (0, 0, 0, 0, 0))]
theorem jc_Rs_partSize : wq_c b_Rs_partSize 2 j_Rs_partSize 0 = true := sorry
def j_Tg_init : wq_J := [(.aload_n 0, (0, 0, 0, 0, 0)), (.invokespecial 3, (0, 0, 0, 0, 0)), (.return_, (0, 0, 0, 0, 0))]
theorem jc_Tg_init : wq_c b_Tg_init 1 j_Tg_init 0 = true := sorry
def j_Tg_readList : wq_J := [(.aload_n 0, (0, 0, 0, 0, 0)), (.aload_n 1, (0, 0, 0, 0, 0)), (.iload_n 2, (0, 0, 0, 0, 0)), (.invokevirtual 9, (0, 0, 0, 0, 0)), (.aload_n 0, (0, 0, 0, 0, 0)), (.bipush 42, (0, 0, 0, 42, 0)), (.invokevirtual 15, (0, 0, 0, 0, 0)), (.ifCond .eq 17, (0, 29, 0, 0, 0)), (.aload_n 0, (0, 0, 0, 0, 0)), (.iconst 1, (0, 0, 0, 1, 0)), (.putfield 19, (1, 0, 5, 0, 0)), (.aload_n 0, (0, 0, 0, 0, 0)), (.invokevirtual 23, (0, 0, 0, 0, 0)), (.aload_n 0, (0, 0, 0, 0, 0)), (.invokevirtual 26, (0, 0, 0, 0, 0)), (.ireturn, (0, 0, 0, 0, 0)), (.iconst 0, (0, 0, 0, 0, 0)), (.istore 4, (0, 0, 0, 0, 0)), (.iload 4, (0, 0, 0, 0, 0)), (.bipush 96, (0, 0, 0, 96, 0)), (.if_icmp .ge 33, (0, 69, 0, 0, 0)), (.aload_n 0, (0, 0, 0, 0, 0)), (.invokevirtual 30, (0, 0, 0, 0, 0)), (.ifCond .eq 26, (0, 69, 0, 0, 0)), (.aload_n 0, (0, 0, 0, 0, 0)), (.aload_n 3, (0, 0, 0, 0, 0)), (.invokevirtual 33, (0, 0, 0, 0, 0)), (.ifCond .eq 10, (0, 61, 0, 0, 0)), (.aload_n 0, (0, 0, 0, 0, 0)), (.invokevirtual 37, (0, 0, 0, 0, 0)), (.ifCond .ne 5, (0, 63, 0, 0, 0)), (.iconst 0, (0, 0, 0, 0, 0)), (.ireturn, (0, 0, 0, 0, 0)), (.iinc 4 1, (0, 0, 0, 1, 0)), (.goto (-34), (0, 32, 0, 0, 0)), (.iload 4, (0, 0, 0, 0, 0)), (.ifCond .le 7, (0, 78, 0, 0, 0)), (.iconst 1, (0, 0, 0, 1, 0)), (.goto 4, (0, 79, 0, 0, 0)), (.iconst 0, (0, 0, 0, 0, 0)), (.ireturn, (0, 0, 0, 0, 0))]
theorem jc_Tg_readList : wq_c b_Tg_readList 5 j_Tg_readList 0 = true := sorry
def j_Tg_readOne : wq_J := [(.aload_n 0, (0, 0, 0, 0, 0)), (.aload_n 1, (0, 0, 0, 0, 0)), (.iload_n 2, (0, 0, 0, 0, 0)), (.invokevirtual 9, (0, 0, 0, 0, 0)), (.aload_n 0, (0, 0, 0, 0, 0)), (.aload_n 3, (0, 0, 0, 0, 0)), (.invokevirtual 33, (0, 0, 0, 0, 0)), (.ifCond .ne 5, (0, 16, 0, 0, 0)), (.iconst 0, (0, 0, 0, 0, 0)), (.ireturn, (0, 0, 0, 0, 0)), (.aload_n 0, (0, 0, 0, 0, 0)), (.invokevirtual 23, (0, 0, 0, 0, 0)), (.aload_n 0, (0, 0, 0, 0, 0)), (.invokevirtual 26, (0, 0, 0, 0, 0)), (.ireturn, (0, 0, 0, 0, 0))]
theorem jc_Tg_readOne : wq_c b_Tg_readOne 4 j_Tg_readOne 0 = true := sorry
def j_Tg_begin : wq_J := [(.aload_n 0, (0, 0, 0, 0, 0)), (.aload_n 1, (0, 0, 0, 0, 0)), (.iload_n 2, (0, 0, 0, 0, 0)), (.invokevirtual 40, (0, 0, 0, 0, 0)), (.aload_n 0, (0, 0, 0, 0, 0)), (.iconst 0, (0, 0, 0, 0, 0)), (.putfield 19, (1, 0, 5, 0, 0)), (.aload_n 0, (0, 0, 0, 0, 0)), (.iconst 0, (0, 0, 0, 0, 0)), (.putfield 43, (1, 0, 6, 0, 0)), (.aload_n 0, (0, 0, 0, 0, 0)), (.iconst 0, (0, 0, 0, 0, 0)), (.putfield 46, (1, 0, 7, 0, 0)), (.aload_n 0, (0, 0, 0, 0, 0)), (.invokevirtual 23, (0, 0, 0, 0, 0)), (.return_, (0, 0, 0, 0, 0))]
theorem jc_Tg_begin : wq_c b_Tg_begin 3 j_Tg_begin 0 = true := sorry
def j_Tg_readTag : wq_J := [(.aload_n 0, (0, 0, 0, 0, 0)), (.bipush 87, (0, 0, 0, 87, 0)), (.invokevirtual 49, (0, 0, 0, 0, 0)), (.istore_n 2, (0, 0, 0, 0, 0)), (.iload_n 2, (0, 0, 0, 0, 0)), (.ifCond .eq 12, (0, 20, 0, 0, 0)), (.aload_n 0, (0, 0, 0, 0, 0)), (.ldc 52, (2, 0, 0, 0, 0)), (.invokevirtual 54, (0, 0, 0, 0, 0)), (.ifCond .eq 10, (0, 27, 0, 0, 0)), (.aload_n 0, (0, 0, 0, 0, 0)), (.invokevirtual 57, (0, 0, 0, 0, 0)), (.ifCond .ne 5, (0, 29, 0, 0, 0)), (.iconst 0, (0, 0, 0, 0, 0)), (.ireturn, (0, 0, 0, 0, 0)), (.aload_n 0, (0, 0, 0, 0, 0)), (.aload_n 1, (0, 0, 0, 0, 0)), (.invokevirtual 60, (0, 0, 0, 0, 0)), (.istore_n 3, (0, 0, 0, 0, 0)), (.aload_n 0, (0, 0, 0, 0, 0)), (.aload_n 0, (0, 0, 0, 0, 0)), (.getfield 43, (1, 0, 6, 0, 0)), (.ifCond .ne 7, (0, 47, 0, 0, 0)), (.iload_n 3, (0, 0, 0, 0, 0)), (.ifCond .eq 7, (0, 51, 0, 0, 0)), (.iconst 1, (0, 0, 0, 1, 0)), (.goto 4, (0, 52, 0, 0, 0)), (.iconst 0, (0, 0, 0, 0, 0)), (.putfield 43, (1, 0, 6, 0, 0)), (.aload_n 0, (0, 0, 0, 0, 0)), (.aload_n 0, (0, 0, 0, 0, 0)), (.getfield 46, (1, 0, 7, 0, 0)), (.ifCond .ne 11, (0, 71, 0, 0, 0)), (.iload_n 3, (0, 0, 0, 0, 0)), (.ifCond .eq 11, (0, 75, 0, 0, 0)), (.iload_n 2, (0, 0, 0, 0, 0)), (.ifCond .ne 7, (0, 75, 0, 0, 0)), (.iconst 1, (0, 0, 0, 1, 0)), (.goto 4, (0, 76, 0, 0, 0)), (.iconst 0, (0, 0, 0, 0, 0)), (.putfield 46, (1, 0, 7, 0, 0)), (.iconst 1, (0, 0, 0, 1, 0)), (.ireturn, (0, 0, 0, 0, 0))]
theorem jc_Tg_readTag : wq_c b_Tg_readTag 4 j_Tg_readTag 0 = true := sorry
/-! THE WORDS OF CALLS -/
def yw (y : MethodName) (bytes : ByteArray) (maxL : Nat) (ret : Option FieldType) : List Cond := Cond.code y bytes maxL ret :: gw
/-- what is to know of a method that is called -/
def wm (y : MethodName) (bytes : ByteArray) (maxL : Nat) (ret : Option FieldType) (nA : Nat) : Prop := Cond.initialized y.cls ∈ gw ∧ Cond.code y bytes maxL ret ∈ gw ∧ (y.cls ≠ "java/lang/invoke/MethodHandle" ∧ y.cls ≠ "java/lang/invoke/VarHandle") ∧ (parseMethodDescriptor y.desc).map (fun d => d.parameters.length) = some nA
theorem yw_good {y y0 : MethodName} {bytes b0 : ByteArray} {maxL n0 nA : Nat} {ret r0 : Option FieldType} (h : wm y bytes maxL ret nA) : GoodIn (yw y0 b0 n0 r0) (yw y bytes maxL ret) := sorry
section
variable {R : Room} {s : State} {args : Array Value} {own C owner : String} {idx maxL n0 nA fr lo mc ms : Nat} {y y0 x : MethodName} {bytes b0 : ByteArray} {ret r0 : Option FieldType}
theorem cw_B (h : wm y bytes maxL ret nA) (hl : Cond.methodLink own idx y ∈ gw) (ht : ∀ w ∈ yw y0 b0 n0 r0, w.before args s = true) (hR : fr + 1 ≤ R.frames ∧ 8 + (maxL + 11) + lo ≤ R.locals) : CallB R s args own idx y bytes maxL ret (yw y bytes maxL ret) { frames := fr, cells := mc, slots := ms, locals := lo } mc ms nA := sorry
theorem cw_V (h : wm y bytes maxL ret nA) (hl : Cond.methodLink own idx y ∈ gw) (hi : Cond.instanceMethod y ∈ gw) (hs : Cond.selects C y y ∈ gw) (ht : ∀ w ∈ yw y0 b0 n0 r0, w.before args s = true) (hR : fr + 1 ≤ R.frames ∧ 8 + (maxL + 11) + lo ≤ R.locals) : CallW R s args own C idx y bytes maxL ret (yw y bytes maxL ret) { frames := fr, cells := mc, slots := ms, locals := lo } mc ms nA := sorry
theorem cw_S (h : wm y bytes maxL ret nA) (hl : Cond.methodLink own idx y ∈ gw) (hi : Cond.static y ∈ gw) (ht : ∀ w ∈ yw y0 b0 n0 r0, w.before args s = true) (hR : fr + 1 ≤ R.frames ∧ 8 + (maxL + 11) + lo ≤ R.locals) : CallB R s args own idx y bytes maxL ret (yw y bytes maxL ret) { frames := fr, cells := mc, slots := ms, locals := lo } mc ms nA ∧ (Cond.static y).before args s = true := sorry
theorem cw_I2 (h : wm y bytes maxL none nA) (hl : Cond.methodLink own idx y ∈ gw) (hi : Cond.instanceMethod y ∈ gw) (hn : y.name = "<init>") (ht : ∀ w ∈ yw y0 b0 n0 r0, w.before args s = true) (hR : fr + 1 ≤ R.frames ∧ 8 + (maxL + 11) + lo ≤ R.locals) : CallB R s args own idx y bytes maxL none (yw y bytes maxL none) { frames := fr, cells := mc, slots := ms, locals := lo } mc ms nA ∧ y.name = "<init>" ∧ (Cond.instanceMethod y).before args s = true := sorry
theorem cw_U (h : wm y bytes maxL ret nA) (hl : Cond.methodLink own idx x ∈ gw) (hsm : Cond.sameMethod x.cls owner x.name x.desc ∈ gw) (hi : Cond.instanceMethod y ∈ gw) (hs : Cond.selects C x y ∈ gw) (hyx : y = ⟨owner, x.name, x.desc⟩) (ht : ∀ w ∈ yw y0 b0 n0 r0, w.before args s = true) (hR : fr + 1 ≤ R.frames ∧ 8 + (maxL + 11) + lo ≤ R.locals) : va_CU R s args own C owner idx x y bytes maxL ret (yw y bytes maxL ret) { frames := fr, cells := mc, slots := ms, locals := lo } mc ms nA := sorry
end
theorem wm_Dk_init : wm y_Dk_init b_Dk_init 4 (none) 1 := sorry
theorem wi_Dk_init : Cond.instanceMethod y_Dk_init ∈ gw := sorry
theorem wm_Dk_add : wm y_Dk_add b_Dk_add 11 (some FieldType.int) 6 := sorry
theorem wi_Dk_add : Cond.instanceMethod y_Dk_add ∈ gw := sorry
theorem wm_Dk_clear : wm y_Dk_clear b_Dk_clear 1 (none) 0 := sorry
theorem wi_Dk_clear : Cond.instanceMethod y_Dk_clear ∈ gw := sorry
theorem wm_Dk_request : wm y_Dk_request b_Dk_request 2 (none) 1 := sorry
theorem wi_Dk_request : Cond.instanceMethod y_Dk_request ∈ gw := sorry
theorem wm_Dk_feed : wm y_Dk_feed b_Dk_feed 4 (some FieldType.int) 2 := sorry
theorem wi_Dk_feed : Cond.instanceMethod y_Dk_feed ∈ gw := sorry
theorem wm_Dk_respond : wm y_Dk_respond b_Dk_respond 3 (some FieldType.int) 0 := sorry
theorem wi_Dk_respond : Cond.instanceMethod y_Dk_respond ∈ gw := sorry
theorem wm_Dk_status : wm y_Dk_status b_Dk_status 1 (some FieldType.int) 0 := sorry
theorem wi_Dk_status : Cond.instanceMethod y_Dk_status ∈ gw := sorry
theorem wm_Dk_chosen : wm y_Dk_chosen b_Dk_chosen 1 (some FieldType.int) 0 := sorry
theorem wi_Dk_chosen : Cond.instanceMethod y_Dk_chosen ∈ gw := sorry
theorem wm_Dk_length : wm y_Dk_length b_Dk_length 1 (some FieldType.long) 0 := sorry
theorem wi_Dk_length : Cond.instanceMethod y_Dk_length ∈ gw := sorry
theorem wm_Dk_body : wm y_Dk_body b_Dk_body 2 (some FieldType.int) 1 := sorry
theorem wi_Dk_body : Cond.instanceMethod y_Dk_body ∈ gw := sorry
theorem wm_Dk_parts : wm y_Dk_parts b_Dk_parts 1 (some FieldType.int) 0 := sorry
theorem wi_Dk_parts : Cond.instanceMethod y_Dk_parts ∈ gw := sorry
theorem wm_Dk_first : wm y_Dk_first b_Dk_first 2 (some FieldType.int) 1 := sorry
theorem wi_Dk_first : Cond.instanceMethod y_Dk_first ∈ gw := sorry
theorem wm_Dk_last : wm y_Dk_last b_Dk_last 2 (some FieldType.int) 1 := sorry
theorem wi_Dk_last : Cond.instanceMethod y_Dk_last ∈ gw := sorry
theorem wm_Dk_score : wm y_Dk_score b_Dk_score 2 (some FieldType.int) 1 := sorry
theorem wi_Dk_score : Cond.instanceMethod y_Dk_score ∈ gw := sorry
theorem wm_Dk_formed : wm y_Dk_formed b_Dk_formed 2 (some FieldType.boolean) 1 := sorry
theorem wi_Dk_formed : Cond.instanceMethod y_Dk_formed ∈ gw := sorry
theorem wm_Dk_date : wm y_Dk_date b_Dk_date 2 (some FieldType.long) 1 := sorry
theorem wi_Dk_date : Cond.instanceMethod y_Dk_date ∈ gw := sorry
theorem wm_Dk_isWithin : wm y_Dk_isWithin b_Dk_isWithin 4 (some FieldType.boolean) 2 := sorry
theorem wt_Dk_isWithin : Cond.static y_Dk_isWithin ∈ gw := sorry
theorem wm_Dk_codeWithoutChoice : wm y_Dk_codeWithoutChoice b_Dk_codeWithoutChoice 1 (some FieldType.int) 0 := sorry
theorem wi_Dk_codeWithoutChoice : Cond.instanceMethod y_Dk_codeWithoutChoice ∈ gw := sorry
theorem wm_Dk_choose : wm y_Dk_choose b_Dk_choose 6 (some (FieldType.object "OriginDesk$Representation")) 0 := sorry
theorem wi_Dk_choose : Cond.instanceMethod y_Dk_choose ∈ gw := sorry
theorem wm_Dk_scoreOf : wm y_Dk_scoreOf b_Dk_scoreOf 4 (some FieldType.int) 1 := sorry
theorem wi_Dk_scoreOf : Cond.instanceMethod y_Dk_scoreOf ∈ gw := sorry
theorem wm_Dk_codeFor : wm y_Dk_codeFor b_Dk_codeFor 2 (some FieldType.int) 1 := sorry
theorem wi_Dk_codeFor : Cond.instanceMethod y_Dk_codeFor ∈ gw := sorry
theorem wm_Dk_isRefused : wm y_Dk_isRefused b_Dk_isRefused 4 (some FieldType.boolean) 1 := sorry
theorem wi_Dk_isRefused : Cond.instanceMethod y_Dk_isRefused ∈ gw := sorry
theorem wm_Dk_isUnchanged : wm y_Dk_isUnchanged b_Dk_isUnchanged 4 (some FieldType.boolean) 1 := sorry
theorem wi_Dk_isUnchanged : Cond.instanceMethod y_Dk_isUnchanged ∈ gw := sorry
theorem wm_Dk_isRangeWanted : wm y_Dk_isRangeWanted b_Dk_isRangeWanted 2 (some FieldType.boolean) 1 := sorry
theorem wi_Dk_isRangeWanted : Cond.instanceMethod y_Dk_isRangeWanted ∈ gw := sorry
theorem wm_Mo_init : wm y_Mo_init b_Mo_init 4 (none) 1 := sorry
theorem wi_Mo_init : Cond.instanceMethod y_Mo_init ∈ gw := sorry
theorem wm_Mo_add : wm y_Mo_add b_Mo_add 9 (some FieldType.int) 6 := sorry
theorem wi_Mo_add : Cond.instanceMethod y_Mo_add ∈ gw := sorry
theorem wm_Mo_clear : wm y_Mo_clear b_Mo_clear 1 (none) 0 := sorry
theorem wi_Mo_clear : Cond.instanceMethod y_Mo_clear ∈ gw := sorry
theorem wm_Mo_request : wm y_Mo_request b_Mo_request 3 (none) 1 := sorry
theorem wi_Mo_request : Cond.instanceMethod y_Mo_request ∈ gw := sorry
theorem wm_Mo_feed : wm y_Mo_feed b_Mo_feed 6 (some FieldType.int) 2 := sorry
theorem wi_Mo_feed : Cond.instanceMethod y_Mo_feed ∈ gw := sorry
theorem wm_Mo_open : wm y_Mo_open b_Mo_open 2 (none) 1 := sorry
theorem wi_Mo_open : Cond.instanceMethod y_Mo_open ∈ gw := sorry
theorem wm_Mo_there : wm y_Mo_there b_Mo_there 2 (some FieldType.boolean) 1 := sorry
theorem wi_Mo_there : Cond.instanceMethod y_Mo_there ∈ gw := sorry
theorem wm_Mo_charAt : wm y_Mo_charAt b_Mo_charAt 2 (some FieldType.int) 1 := sorry
theorem wi_Mo_charAt : Cond.instanceMethod y_Mo_charAt ∈ gw := sorry
theorem wm_Mo_next : wm y_Mo_next b_Mo_next 1 (some FieldType.int) 0 := sorry
theorem wi_Mo_next : Cond.instanceMethod y_Mo_next ∈ gw := sorry
theorem wm_Mo_ended : wm y_Mo_ended b_Mo_ended 1 (some FieldType.boolean) 0 := sorry
theorem wi_Mo_ended : Cond.instanceMethod y_Mo_ended ∈ gw := sorry
theorem wm_Mo_gap : wm y_Mo_gap b_Mo_gap 1 (none) 0 := sorry
theorem wi_Mo_gap : Cond.instanceMethod y_Mo_gap ∈ gw := sorry
theorem wm_Mo_take : wm y_Mo_take b_Mo_take 3 (some FieldType.boolean) 1 := sorry
theorem wi_Mo_take : Cond.instanceMethod y_Mo_take ∈ gw := sorry
theorem wm_Mo_isDigit : wm y_Mo_isDigit b_Mo_isDigit 1 (some FieldType.boolean) 1 := sorry
theorem wt_Mo_isDigit : Cond.static y_Mo_isDigit ∈ gw := sorry
theorem wm_Mo_isLetter : wm y_Mo_isLetter b_Mo_isLetter 1 (some FieldType.boolean) 1 := sorry
theorem wt_Mo_isLetter : Cond.static y_Mo_isLetter ∈ gw := sorry
theorem wm_Mo_lower : wm y_Mo_lower b_Mo_lower 1 (some FieldType.int) 1 := sorry
theorem wt_Mo_lower : Cond.static y_Mo_lower ∈ gw := sorry
theorem wm_Mo_isToken : wm y_Mo_isToken b_Mo_isToken 2 (some FieldType.boolean) 1 := sorry
theorem wt_Mo_isToken : Cond.static y_Mo_isToken ∈ gw := sorry
theorem wm_Mo_token : wm y_Mo_token b_Mo_token 1 (some FieldType.boolean) 0 := sorry
theorem wi_Mo_token : Cond.instanceMethod y_Mo_token ∈ gw := sorry
theorem wm_Mo_lengthOf : wm y_Mo_lengthOf b_Mo_lengthOf 3 (some FieldType.int) 1 := sorry
theorem wt_Mo_lengthOf : Cond.static y_Mo_lengthOf ∈ gw := sorry
theorem wm_Mo_says : wm y_Mo_says b_Mo_says 7 (some FieldType.boolean) 2 := sorry
theorem wi_Mo_says : Cond.instanceMethod y_Mo_says ∈ gw := sorry
theorem wm_Mo_isWord : wm y_Mo_isWord b_Mo_isWord 5 (some FieldType.boolean) 3 := sorry
theorem wi_Mo_isWord : Cond.instanceMethod y_Mo_isWord ∈ gw := sorry
theorem wm_Mo_isMain : wm y_Mo_isMain b_Mo_isMain 4 (some FieldType.boolean) 3 := sorry
theorem wi_Mo_isMain : Cond.instanceMethod y_Mo_isMain ∈ gw := sorry
theorem wm_Mo_isSub : wm y_Mo_isSub b_Mo_isSub 5 (some FieldType.boolean) 3 := sorry
theorem wi_Mo_isSub : Cond.instanceMethod y_Mo_isSub ∈ gw := sorry
theorem wm_Mo_weight : wm y_Mo_weight b_Mo_weight 4 (some FieldType.boolean) 0 := sorry
theorem wi_Mo_weight : Cond.instanceMethod y_Mo_weight ∈ gw := sorry
theorem wm_Mo_semicolon : wm y_Mo_semicolon b_Mo_semicolon 2 (some FieldType.boolean) 0 := sorry
theorem wi_Mo_semicolon : Cond.instanceMethod y_Mo_semicolon ∈ gw := sorry
theorem wm_Mo_weightIfAny : wm y_Mo_weightIfAny b_Mo_weightIfAny 1 (some FieldType.boolean) 0 := sorry
theorem wi_Mo_weightIfAny : Cond.instanceMethod y_Mo_weightIfAny ∈ gw := sorry
theorem wm_Mo_separator : wm y_Mo_separator b_Mo_separator 1 (some FieldType.int) 0 := sorry
theorem wi_Mo_separator : Cond.instanceMethod y_Mo_separator ∈ gw := sorry
theorem wm_Mo_element : wm y_Mo_element b_Mo_element 1 (some FieldType.boolean) 0 := sorry
theorem wi_Mo_element : Cond.instanceMethod y_Mo_element ∈ gw := sorry
theorem wm_Mo_quoted : wm y_Mo_quoted b_Mo_quoted 4 (some FieldType.boolean) 0 := sorry
theorem wi_Mo_quoted : Cond.instanceMethod y_Mo_quoted ∈ gw := sorry
theorem wm_Mo_assigned : wm y_Mo_assigned b_Mo_assigned 1 (some FieldType.boolean) 0 := sorry
theorem wi_Mo_assigned : Cond.instanceMethod y_Mo_assigned ∈ gw := sorry
theorem wm_Mo_starred : wm y_Mo_starred b_Mo_starred 5 (some FieldType.boolean) 2 := sorry
theorem wi_Mo_starred : Cond.instanceMethod y_Mo_starred ∈ gw := sorry
theorem wm_Mo_mediaRange : wm y_Mo_mediaRange b_Mo_mediaRange 8 (some FieldType.int) 1 := sorry
theorem wi_Mo_mediaRange : Cond.instanceMethod y_Mo_mediaRange ∈ gw := sorry
theorem wm_Mo_accepted : wm y_Mo_accepted b_Mo_accepted 7 (some FieldType.int) 1 := sorry
theorem wi_Mo_accepted : Cond.instanceMethod y_Mo_accepted ∈ gw := sorry
theorem wm_Mo_tongue : wm y_Mo_tongue b_Mo_tongue 5 (some FieldType.boolean) 0 := sorry
theorem wi_Mo_tongue : Cond.instanceMethod y_Mo_tongue ∈ gw := sorry
theorem wm_Mo_speaks : wm y_Mo_speaks b_Mo_speaks 6 (some FieldType.boolean) 1 := sorry
theorem wi_Mo_speaks : Cond.instanceMethod y_Mo_speaks ∈ gw := sorry
theorem wm_Mo_spoken : wm y_Mo_spoken b_Mo_spoken 10 (some FieldType.int) 1 := sorry
theorem wi_Mo_spoken : Cond.instanceMethod y_Mo_spoken ∈ gw := sorry
theorem wm_Mo_scoreOf : wm y_Mo_scoreOf b_Mo_scoreOf 4 (some FieldType.int) 1 := sorry
theorem wi_Mo_scoreOf : Cond.instanceMethod y_Mo_scoreOf ∈ gw := sorry
theorem wm_Mo_tagText : wm y_Mo_tagText b_Mo_tagText 1 (some FieldType.boolean) 0 := sorry
theorem wi_Mo_tagText : Cond.instanceMethod y_Mo_tagText ∈ gw := sorry
theorem wm_Mo_isTagOf : wm y_Mo_isTagOf b_Mo_isTagOf 6 (some FieldType.boolean) 1 := sorry
theorem wi_Mo_isTagOf : Cond.instanceMethod y_Mo_isTagOf ∈ gw := sorry
theorem wm_Mo_tags : wm y_Mo_tags b_Mo_tags 8 (some FieldType.int) 3 := sorry
theorem wi_Mo_tags : Cond.instanceMethod y_Mo_tags ∈ gw := sorry
theorem wm_Mo_digits : wm y_Mo_digits b_Mo_digits 4 (some FieldType.int) 1 := sorry
theorem wi_Mo_digits : Cond.instanceMethod y_Mo_digits ∈ gw := sorry
theorem wm_Mo_three : wm y_Mo_three b_Mo_three 2 (some FieldType.int) 0 := sorry
theorem wi_Mo_three : Cond.instanceMethod y_Mo_three ∈ gw := sorry
theorem wm_Mo_dayName : wm y_Mo_dayName b_Mo_dayName 1 (some FieldType.int) 0 := sorry
theorem wi_Mo_dayName : Cond.instanceMethod y_Mo_dayName ∈ gw := sorry
theorem wm_Mo_monthName : wm y_Mo_monthName b_Mo_monthName 1 (some FieldType.int) 0 := sorry
theorem wi_Mo_monthName : Cond.instanceMethod y_Mo_monthName ∈ gw := sorry
theorem wm_Mo_restOf : wm y_Mo_restOf b_Mo_restOf 6 (some FieldType.boolean) 1 := sorry
theorem wi_Mo_restOf : Cond.instanceMethod y_Mo_restOf ∈ gw := sorry
theorem wm_Mo_time : wm y_Mo_time b_Mo_time 5 (some FieldType.int) 0 := sorry
theorem wi_Mo_time : Cond.instanceMethod y_Mo_time ∈ gw := sorry
theorem wm_Mo_daysOf : wm y_Mo_daysOf b_Mo_daysOf 2 (some FieldType.int) 2 := sorry
theorem wt_Mo_daysOf : Cond.static y_Mo_daysOf ∈ gw := sorry
theorem wm_Mo_yearOf : wm y_Mo_yearOf b_Mo_yearOf 5 (some FieldType.int) 1 := sorry
theorem wt_Mo_yearOf : Cond.static y_Mo_yearOf ∈ gw := sorry
theorem wm_Mo_secondsOf : wm y_Mo_secondsOf b_Mo_secondsOf 7 (some FieldType.long) 4 := sorry
theorem wt_Mo_secondsOf : Cond.static y_Mo_secondsOf ∈ gw := sorry
theorem wm_Mo_shortYear : wm y_Mo_shortYear b_Mo_shortYear 3 (some FieldType.int) 1 := sorry
theorem wi_Mo_shortYear : Cond.instanceMethod y_Mo_shortYear ∈ gw := sorry
theorem wm_Mo_zone : wm y_Mo_zone b_Mo_zone 1 (some FieldType.boolean) 0 := sorry
theorem wi_Mo_zone : Cond.instanceMethod y_Mo_zone ∈ gw := sorry
theorem wm_Mo_paddedDay : wm y_Mo_paddedDay b_Mo_paddedDay 2 (some FieldType.int) 0 := sorry
theorem wi_Mo_paddedDay : Cond.instanceMethod y_Mo_paddedDay ∈ gw := sorry
theorem wm_Mo_dateBehind : wm y_Mo_dateBehind b_Mo_dateBehind 8 (some FieldType.long) 1 := sorry
theorem wi_Mo_dateBehind : Cond.instanceMethod y_Mo_dateBehind ∈ gw := sorry
theorem wm_Mo_dateOf : wm y_Mo_dateOf b_Mo_dateOf 5 (some FieldType.long) 1 := sorry
theorem wi_Mo_dateOf : Cond.instanceMethod y_Mo_dateOf ∈ gw := sorry
theorem wm_Mo_many : wm y_Mo_many b_Mo_many 3 (some FieldType.int) 0 := sorry
theorem wi_Mo_many : Cond.instanceMethod y_Mo_many ∈ gw := sorry
theorem wm_Mo_spec : wm y_Mo_spec b_Mo_spec 3 (some FieldType.boolean) 0 := sorry
theorem wi_Mo_spec : Cond.instanceMethod y_Mo_spec ∈ gw := sorry
theorem wm_Mo_ranges : wm y_Mo_ranges b_Mo_ranges 2 (some FieldType.boolean) 0 := sorry
theorem wi_Mo_ranges : Cond.instanceMethod y_Mo_ranges ∈ gw := sorry
theorem wm_Mo_resolve : wm y_Mo_resolve b_Mo_resolve 7 (none) 2 := sorry
theorem wi_Mo_resolve : Cond.instanceMethod y_Mo_resolve ∈ gw := sorry
theorem wm_Mo_overlap : wm y_Mo_overlap b_Mo_overlap 4 (some FieldType.boolean) 0 := sorry
theorem wi_Mo_overlap : Cond.instanceMethod y_Mo_overlap ∈ gw := sorry
theorem wm_Mo_ifRange : wm y_Mo_ifRange b_Mo_ifRange 4 (some FieldType.boolean) 1 := sorry
theorem wi_Mo_ifRange : Cond.instanceMethod y_Mo_ifRange ∈ gw := sorry
theorem wm_Mo_chosenOne : wm y_Mo_chosenOne b_Mo_chosenOne 5 (some FieldType.int) 0 := sorry
theorem wi_Mo_chosenOne : Cond.instanceMethod y_Mo_chosenOne ∈ gw := sorry
theorem wm_Mo_conditions : wm y_Mo_conditions b_Mo_conditions 4 (some FieldType.int) 1 := sorry
theorem wi_Mo_conditions : Cond.instanceMethod y_Mo_conditions ∈ gw := sorry
theorem wm_Mo_ranged : wm y_Mo_ranged b_Mo_ranged 3 (some FieldType.int) 1 := sorry
theorem wi_Mo_ranged : Cond.instanceMethod y_Mo_ranged ∈ gw := sorry
theorem wm_Mo_decide : wm y_Mo_decide b_Mo_decide 3 (some FieldType.int) 0 := sorry
theorem wi_Mo_decide : Cond.instanceMethod y_Mo_decide ∈ gw := sorry
theorem wm_Mo_respond : wm y_Mo_respond b_Mo_respond 1 (some FieldType.int) 0 := sorry
theorem wi_Mo_respond : Cond.instanceMethod y_Mo_respond ∈ gw := sorry
theorem wm_Mo_status : wm y_Mo_status b_Mo_status 1 (some FieldType.int) 0 := sorry
theorem wi_Mo_status : Cond.instanceMethod y_Mo_status ∈ gw := sorry
theorem wm_Mo_chosen : wm y_Mo_chosen b_Mo_chosen 1 (some FieldType.int) 0 := sorry
theorem wi_Mo_chosen : Cond.instanceMethod y_Mo_chosen ∈ gw := sorry
theorem wm_Mo_digitsOf : wm y_Mo_digitsOf b_Mo_digitsOf 3 (some FieldType.int) 1 := sorry
theorem wt_Mo_digitsOf : Cond.static y_Mo_digitsOf ∈ gw := sorry
theorem wm_Mo_byteAt : wm y_Mo_byteAt b_Mo_byteAt 2 (some FieldType.int) 1 := sorry
theorem wi_Mo_byteAt : Cond.instanceMethod y_Mo_byteAt ∈ gw := sorry
theorem wm_Mo_headOf : wm y_Mo_headOf b_Mo_headOf 2 (some FieldType.int) 1 := sorry
theorem wi_Mo_headOf : Cond.instanceMethod y_Mo_headOf ∈ gw := sorry
theorem wm_Mo_partSize : wm y_Mo_partSize b_Mo_partSize 2 (some FieldType.int) 1 := sorry
theorem wi_Mo_partSize : Cond.instanceMethod y_Mo_partSize ∈ gw := sorry
theorem wm_Mo_length : wm y_Mo_length b_Mo_length 4 (some FieldType.long) 0 := sorry
theorem wi_Mo_length : Cond.instanceMethod y_Mo_length ∈ gw := sorry
theorem wm_Mo_digitOf : wm y_Mo_digitOf b_Mo_digitOf 4 (some FieldType.int) 2 := sorry
theorem wt_Mo_digitOf : Cond.static y_Mo_digitOf ∈ gw := sorry
theorem wm_Mo_figures : wm y_Mo_figures b_Mo_figures 6 (some FieldType.int) 3 := sorry
theorem wi_Mo_figures : Cond.instanceMethod y_Mo_figures ∈ gw := sorry
theorem wm_Mo_crlf : wm y_Mo_crlf b_Mo_crlf 1 (some FieldType.int) 1 := sorry
theorem wt_Mo_crlf : Cond.static y_Mo_crlf ∈ gw := sorry
theorem wm_Mo_partByte : wm y_Mo_partByte b_Mo_partByte 5 (some FieldType.int) 2 := sorry
theorem wi_Mo_partByte : Cond.instanceMethod y_Mo_partByte ∈ gw := sorry
theorem wm_Mo_body : wm y_Mo_body b_Mo_body 4 (some FieldType.int) 1 := sorry
theorem wi_Mo_body : Cond.instanceMethod y_Mo_body ∈ gw := sorry
theorem wm_Mo_parts : wm y_Mo_parts b_Mo_parts 1 (some FieldType.int) 0 := sorry
theorem wi_Mo_parts : Cond.instanceMethod y_Mo_parts ∈ gw := sorry
theorem wm_Mo_first : wm y_Mo_first b_Mo_first 2 (some FieldType.int) 1 := sorry
theorem wi_Mo_first : Cond.instanceMethod y_Mo_first ∈ gw := sorry
theorem wm_Mo_last : wm y_Mo_last b_Mo_last 2 (some FieldType.int) 1 := sorry
theorem wi_Mo_last : Cond.instanceMethod y_Mo_last ∈ gw := sorry
theorem wm_Mo_score : wm y_Mo_score b_Mo_score 2 (some FieldType.int) 1 := sorry
theorem wi_Mo_score : Cond.instanceMethod y_Mo_score ∈ gw := sorry
theorem wm_Mo_formed : wm y_Mo_formed b_Mo_formed 2 (some FieldType.boolean) 1 := sorry
theorem wi_Mo_formed : Cond.instanceMethod y_Mo_formed ∈ gw := sorry
theorem wm_Mo_loneTag : wm y_Mo_loneTag b_Mo_loneTag 2 (some FieldType.boolean) 0 := sorry
theorem wi_Mo_loneTag : Cond.instanceMethod y_Mo_loneTag ∈ gw := sorry
theorem wm_Mo_date : wm y_Mo_date b_Mo_date 2 (some FieldType.long) 1 := sorry
theorem wi_Mo_date : Cond.instanceMethod y_Mo_date ∈ gw := sorry
theorem wm_Ac_init : wm y_Ac_init b_Ac_init 1 (none) 0 := sorry
theorem wi_Ac_init : Cond.instanceMethod y_Ac_init ∈ gw := sorry
theorem wm_Ac_read : wm y_Ac_read b_Ac_read 4 (some FieldType.boolean) 2 := sorry
theorem wi_Ac_read : Cond.instanceMethod y_Ac_read ∈ gw := sorry
theorem wm_Ac_readTokens : wm y_Ac_readTokens b_Ac_readTokens 5 (some FieldType.boolean) 1 := sorry
theorem wi_Ac_readTokens : Cond.instanceMethod y_Ac_readTokens ∈ gw := sorry
theorem wm_Ac_readParameters : wm y_Ac_readParameters b_Ac_readParameters 4 (some FieldType.boolean) 1 := sorry
theorem wi_Ac_readParameters : Cond.instanceMethod y_Ac_readParameters ∈ gw := sorry
theorem wm_Ac_weigh : wm y_Ac_weigh b_Ac_weigh 1 (none) 0 := sorry
theorem wi_Ac_weigh : Cond.instanceMethod y_Ac_weigh ∈ gw := sorry
theorem wm_Da_init : wm y_Da_init b_Da_init 3 (none) 1 := sorry
theorem wi_Da_init : Cond.instanceMethod y_Da_init ∈ gw := sorry
theorem wm_Da_timeOf : wm y_Da_timeOf b_Da_timeOf 5 (some FieldType.long) 2 := sorry
theorem wi_Da_timeOf : Cond.instanceMethod y_Da_timeOf ∈ gw := sorry
theorem wm_Da_takeCommaForm : wm y_Da_takeCommaForm b_Da_takeCommaForm 2 (some FieldType.boolean) 0 := sorry
theorem wi_Da_takeCommaForm : Cond.instanceMethod y_Da_takeCommaForm ∈ gw := sorry
theorem wm_Da_takeDashForm : wm y_Da_takeDashForm b_Da_takeDashForm 2 (some FieldType.boolean) 0 := sorry
theorem wi_Da_takeDashForm : Cond.instanceMethod y_Da_takeDashForm ∈ gw := sorry
theorem wm_Da_takeSpaceForm : wm y_Da_takeSpaceForm b_Da_takeSpaceForm 2 (some FieldType.boolean) 0 := sorry
theorem wi_Da_takeSpaceForm : Cond.instanceMethod y_Da_takeSpaceForm ∈ gw := sorry
theorem wm_Da_restOfName : wm y_Da_restOfName b_Da_restOfName 1 (some (FieldType.object "java/lang/String")) 1 := sorry
theorem wt_Da_restOfName : Cond.static y_Da_restOfName ∈ gw := sorry
theorem wm_Da_takeDay : wm y_Da_takeDay b_Da_takeDay 1 (some FieldType.boolean) 0 := sorry
theorem wi_Da_takeDay : Cond.instanceMethod y_Da_takeDay ∈ gw := sorry
theorem wm_Da_takeSpacedDay : wm y_Da_takeSpacedDay b_Da_takeSpacedDay 2 (some FieldType.boolean) 0 := sorry
theorem wi_Da_takeSpacedDay : Cond.instanceMethod y_Da_takeSpacedDay ∈ gw := sorry
theorem wm_Da_takeMonth : wm y_Da_takeMonth b_Da_takeMonth 1 (some FieldType.boolean) 0 := sorry
theorem wi_Da_takeMonth : Cond.instanceMethod y_Da_takeMonth ∈ gw := sorry
theorem wm_Da_takeYear : wm y_Da_takeYear b_Da_takeYear 1 (some FieldType.boolean) 0 := sorry
theorem wi_Da_takeYear : Cond.instanceMethod y_Da_takeYear ∈ gw := sorry
theorem wm_Da_takeShortYear : wm y_Da_takeShortYear b_Da_takeShortYear 2 (some FieldType.boolean) 0 := sorry
theorem wi_Da_takeShortYear : Cond.instanceMethod y_Da_takeShortYear ∈ gw := sorry
theorem wm_Da_takeClock : wm y_Da_takeClock b_Da_takeClock 4 (some FieldType.boolean) 0 := sorry
theorem wi_Da_takeClock : Cond.instanceMethod y_Da_takeClock ∈ gw := sorry
theorem wm_Da_isInCalendar : wm y_Da_isInCalendar b_Da_isInCalendar 1 (some FieldType.boolean) 0 := sorry
theorem wi_Da_isInCalendar : Cond.instanceMethod y_Da_isInCalendar ∈ gw := sorry
theorem wm_Da_time : wm y_Da_time b_Da_time 4 (some FieldType.long) 0 := sorry
theorem wi_Da_time : Cond.instanceMethod y_Da_time ∈ gw := sorry
theorem wm_Da_daysOf : wm y_Da_daysOf b_Da_daysOf 2 (some FieldType.int) 2 := sorry
theorem wt_Da_daysOf : Cond.static y_Da_daysOf ∈ gw := sorry
theorem wm_Da_daysBefore : wm y_Da_daysBefore b_Da_daysBefore 1 (some FieldType.int) 1 := sorry
theorem wt_Da_daysBefore : Cond.static y_Da_daysBefore ∈ gw := sorry
theorem wm_Da_yearOf : wm y_Da_yearOf b_Da_yearOf 5 (some FieldType.int) 1 := sorry
theorem wt_Da_yearOf : Cond.static y_Da_yearOf ∈ gw := sorry
theorem wm_La_init : wm y_La_init b_La_init 1 (none) 0 := sorry
theorem wi_La_init : Cond.instanceMethod y_La_init ∈ gw := sorry
theorem wm_La_read : wm y_La_read b_La_read 4 (some FieldType.boolean) 2 := sorry
theorem wi_La_read : Cond.instanceMethod y_La_read ∈ gw := sorry
theorem wm_La_readRange : wm y_La_readRange b_La_readRange 4 (some FieldType.boolean) 1 := sorry
theorem wi_La_readRange : Cond.instanceMethod y_La_readRange ∈ gw := sorry
theorem wm_La_fitOf : wm y_La_fitOf b_La_fitOf 2 (some FieldType.int) 1 := sorry
theorem wi_La_fitOf : Cond.instanceMethod y_La_fitOf ∈ gw := sorry
theorem wm_Ra_init : wm y_Ra_init b_Ra_init 1 (none) 0 := sorry
theorem wi_Ra_init : Cond.instanceMethod y_Ra_init ∈ gw := sorry
theorem wm_Ra_read : wm y_Ra_read b_Ra_read 3 (some FieldType.boolean) 2 := sorry
theorem wi_Ra_read : Cond.instanceMethod y_Ra_read ∈ gw := sorry
theorem wm_Ra_overlap : wm y_Ra_overlap b_Ra_overlap 3 (some FieldType.boolean) 0 := sorry
theorem wi_Ra_overlap : Cond.instanceMethod y_Ra_overlap ∈ gw := sorry
theorem wm_Ra_readSpec : wm y_Ra_readSpec b_Ra_readSpec 4 (some FieldType.boolean) 1 := sorry
theorem wi_Ra_readSpec : Cond.instanceMethod y_Ra_readSpec ∈ gw := sorry
theorem wm_Ra_keep : wm y_Ra_keep b_Ra_keep 3 (none) 2 := sorry
theorem wi_Ra_keep : Cond.instanceMethod y_Ra_keep ∈ gw := sorry
theorem wm_Rd_init : wm y_Rd_init b_Rd_init 1 (none) 0 := sorry
theorem wi_Rd_init : Cond.instanceMethod y_Rd_init ∈ gw := sorry
theorem wm_Rd_open : wm y_Rd_open b_Rd_open 3 (none) 2 := sorry
theorem wi_Rd_open : Cond.instanceMethod y_Rd_open ∈ gw := sorry
theorem wm_Rd_isEnded : wm y_Rd_isEnded b_Rd_isEnded 1 (some FieldType.boolean) 0 := sorry
theorem wi_Rd_isEnded : Cond.instanceMethod y_Rd_isEnded ∈ gw := sorry
theorem wm_Rd_isNext : wm y_Rd_isNext b_Rd_isNext 2 (some FieldType.boolean) 1 := sorry
theorem wi_Rd_isNext : Cond.instanceMethod y_Rd_isNext ∈ gw := sorry
theorem wm_Rd_take : wm y_Rd_take b_Rd_take 2 (some FieldType.boolean) 1 := sorry
theorem wi_Rd_take : Cond.instanceMethod y_Rd_take ∈ gw := sorry
theorem wm_Rd_skipGap : wm y_Rd_skipGap b_Rd_skipGap 1 (none) 0 := sorry
theorem wi_Rd_skipGap : Cond.instanceMethod y_Rd_skipGap ∈ gw := sorry
theorem wm_Rd_findElement : wm y_Rd_findElement b_Rd_findElement 1 (some FieldType.boolean) 0 := sorry
theorem wi_Rd_findElement : Cond.instanceMethod y_Rd_findElement ∈ gw := sorry
theorem wm_Rd_endsElement : wm y_Rd_endsElement b_Rd_endsElement 1 (some FieldType.boolean) 0 := sorry
theorem wi_Rd_endsElement : Cond.instanceMethod y_Rd_endsElement ∈ gw := sorry
theorem wm_Rd_takeSemicolon : wm y_Rd_takeSemicolon b_Rd_takeSemicolon 1 (some FieldType.boolean) 0 := sorry
theorem wi_Rd_takeSemicolon : Cond.instanceMethod y_Rd_takeSemicolon ∈ gw := sorry
theorem wm_Rd_takeText : wm y_Rd_takeText b_Rd_takeText 3 (some FieldType.boolean) 1 := sorry
theorem wi_Rd_takeText : Cond.instanceMethod y_Rd_takeText ∈ gw := sorry
theorem wm_Rd_takeAlike : wm y_Rd_takeAlike b_Rd_takeAlike 3 (some FieldType.boolean) 1 := sorry
theorem wi_Rd_takeAlike : Cond.instanceMethod y_Rd_takeAlike ∈ gw := sorry
theorem wm_Rd_takeToken : wm y_Rd_takeToken b_Rd_takeToken 1 (some FieldType.boolean) 0 := sorry
theorem wi_Rd_takeToken : Cond.instanceMethod y_Rd_takeToken ∈ gw := sorry
theorem wm_Rd_takeQuotedText : wm y_Rd_takeQuotedText b_Rd_takeQuotedText 1 (some FieldType.boolean) 0 := sorry
theorem wi_Rd_takeQuotedText : Cond.instanceMethod y_Rd_takeQuotedText ∈ gw := sorry
theorem wm_Rd_takeOpaque : wm y_Rd_takeOpaque b_Rd_takeOpaque 1 (some FieldType.boolean) 0 := sorry
theorem wi_Rd_takeOpaque : Cond.instanceMethod y_Rd_takeOpaque ∈ gw := sorry
theorem wm_Rd_takeLanguage : wm y_Rd_takeLanguage b_Rd_takeLanguage 4 (some FieldType.boolean) 0 := sorry
theorem wi_Rd_takeLanguage : Cond.instanceMethod y_Rd_takeLanguage ∈ gw := sorry
theorem wm_Rd_takeWeight : wm y_Rd_takeWeight b_Rd_takeWeight 4 (some FieldType.int) 0 := sorry
theorem wi_Rd_takeWeight : Cond.instanceMethod y_Rd_takeWeight ∈ gw := sorry
theorem wm_Rd_takeNumber : wm y_Rd_takeNumber b_Rd_takeNumber 3 (some FieldType.int) 0 := sorry
theorem wi_Rd_takeNumber : Cond.instanceMethod y_Rd_takeNumber ∈ gw := sorry
theorem wm_Rd_takeDigits : wm y_Rd_takeDigits b_Rd_takeDigits 4 (some FieldType.int) 1 := sorry
theorem wi_Rd_takeDigits : Cond.instanceMethod y_Rd_takeDigits ∈ gw := sorry
theorem wm_Rd_takeName : wm y_Rd_takeName b_Rd_takeName 4 (some FieldType.int) 1 := sorry
theorem wi_Rd_takeName : Cond.instanceMethod y_Rd_takeName ∈ gw := sorry
theorem wm_Rd_saidSize : wm y_Rd_saidSize b_Rd_saidSize 1 (some FieldType.int) 0 := sorry
theorem wi_Rd_saidSize : Cond.instanceMethod y_Rd_saidSize ∈ gw := sorry
theorem wm_Rd_isSaid : wm y_Rd_isSaid b_Rd_isSaid 3 (some FieldType.boolean) 1 := sorry
theorem wi_Rd_isSaid : Cond.instanceMethod y_Rd_isSaid ∈ gw := sorry
theorem wm_Rd_isSaidAlike : wm y_Rd_isSaidAlike b_Rd_isSaidAlike 3 (some FieldType.boolean) 1 := sorry
theorem wi_Rd_isSaidAlike : Cond.instanceMethod y_Rd_isSaidAlike ∈ gw := sorry
theorem wm_Rd_saysStar : wm y_Rd_saysStar b_Rd_saysStar 2 (some FieldType.boolean) 0 := sorry
theorem wi_Rd_saysStar : Cond.instanceMethod y_Rd_saysStar ∈ gw := sorry
theorem wm_Rd_say : wm y_Rd_say b_Rd_say 2 (none) 1 := sorry
theorem wi_Rd_say : Cond.instanceMethod y_Rd_say ∈ gw := sorry
theorem wm_Rd_isDigit : wm y_Rd_isDigit b_Rd_isDigit 1 (some FieldType.boolean) 1 := sorry
theorem wt_Rd_isDigit : Cond.static y_Rd_isDigit ∈ gw := sorry
theorem wm_Rd_isLetter : wm y_Rd_isLetter b_Rd_isLetter 2 (some FieldType.boolean) 1 := sorry
theorem wt_Rd_isLetter : Cond.static y_Rd_isLetter ∈ gw := sorry
theorem wm_Rd_lower : wm y_Rd_lower b_Rd_lower 1 (some FieldType.int) 1 := sorry
theorem wt_Rd_lower : Cond.static y_Rd_lower ∈ gw := sorry
theorem wm_Rd_isQuotable : wm y_Rd_isQuotable b_Rd_isQuotable 1 (some FieldType.boolean) 1 := sorry
theorem wt_Rd_isQuotable : Cond.static y_Rd_isQuotable ∈ gw := sorry
theorem wm_Rp_init : wm y_Rp_init b_Rp_init 9 (none) 7 := sorry
theorem wi_Rp_init : Cond.instanceMethod y_Rp_init ∈ gw := sorry
theorem wm_Rp_byteAt : wm y_Rp_byteAt b_Rp_byteAt 2 (some FieldType.int) 1 := sorry
theorem wi_Rp_byteAt : Cond.instanceMethod y_Rp_byteAt ∈ gw := sorry
theorem wm_Rq_init : wm y_Rq_init b_Rq_init 1 (none) 0 := sorry
theorem wi_Rq_init : Cond.instanceMethod y_Rq_init ∈ gw := sorry
theorem wm_Rq_restart : wm y_Rq_restart b_Rq_restart 3 (none) 1 := sorry
theorem wi_Rq_restart : Cond.instanceMethod y_Rq_restart ∈ gw := sorry
theorem wm_Rq_has : wm y_Rq_has b_Rq_has 2 (some FieldType.boolean) 1 := sorry
theorem wi_Rq_has : Cond.instanceMethod y_Rq_has ∈ gw := sorry
theorem wm_Rq_append : wm y_Rq_append b_Rq_append 7 (some FieldType.int) 2 := sorry
theorem wi_Rq_append : Cond.instanceMethod y_Rq_append ∈ gw := sorry
theorem wm_Rq_countOf : wm y_Rq_countOf b_Rq_countOf 3 (some FieldType.int) 1 := sorry
theorem wt_Rq_countOf : Cond.static y_Rq_countOf ∈ gw := sorry
theorem wm_Rq_characterOf : wm y_Rq_characterOf b_Rq_characterOf 3 (some FieldType.int) 2 := sorry
theorem wt_Rq_characterOf : Cond.static y_Rq_characterOf ∈ gw := sorry
theorem wm_Rs_init : wm y_Rs_init b_Rs_init 1 (none) 0 := sorry
theorem wi_Rs_init : Cond.instanceMethod y_Rs_init ∈ gw := sorry
theorem wm_Rs_settle : wm y_Rs_settle b_Rs_settle 6 (none) 4 := sorry
theorem wi_Rs_settle : Cond.instanceMethod y_Rs_settle ∈ gw := sorry
theorem wm_Rs_hasPart : wm y_Rs_hasPart b_Rs_hasPart 2 (some FieldType.boolean) 1 := sorry
theorem wi_Rs_hasPart : Cond.instanceMethod y_Rs_hasPart ∈ gw := sorry
theorem wm_Rs_byteAt : wm y_Rs_byteAt b_Rs_byteAt 2 (some FieldType.int) 1 := sorry
theorem wi_Rs_byteAt : Cond.instanceMethod y_Rs_byteAt ∈ gw := sorry
theorem wm_Rs_measure : wm y_Rs_measure b_Rs_measure 3 (some FieldType.int) 0 := sorry
theorem wi_Rs_measure : Cond.instanceMethod y_Rs_measure ∈ gw := sorry
theorem wm_Rs_byteAmongParts : wm y_Rs_byteAmongParts b_Rs_byteAmongParts 5 (some FieldType.int) 2 := sorry
theorem wi_Rs_byteAmongParts : Cond.instanceMethod y_Rs_byteAmongParts ∈ gw := sorry
theorem wm_Rs_writeHeading : wm y_Rs_writeHeading b_Rs_writeHeading 3 (none) 2 := sorry
theorem wi_Rs_writeHeading : Cond.instanceMethod y_Rs_writeHeading ∈ gw := sorry
theorem wm_Rs_partSize : wm y_Rs_partSize b_Rs_partSize 2 (some FieldType.int) 1 := sorry
theorem wi_Rs_partSize : Cond.instanceMethod y_Rs_partSize ∈ gw := sorry
theorem wm_Tg_init : wm y_Tg_init b_Tg_init 1 (none) 0 := sorry
theorem wi_Tg_init : Cond.instanceMethod y_Tg_init ∈ gw := sorry
theorem wm_Tg_readList : wm y_Tg_readList b_Tg_readList 5 (some FieldType.boolean) 3 := sorry
theorem wi_Tg_readList : Cond.instanceMethod y_Tg_readList ∈ gw := sorry
theorem wm_Tg_readOne : wm y_Tg_readOne b_Tg_readOne 4 (some FieldType.boolean) 3 := sorry
theorem wi_Tg_readOne : Cond.instanceMethod y_Tg_readOne ∈ gw := sorry
theorem wm_Tg_begin : wm y_Tg_begin b_Tg_begin 3 (none) 2 := sorry
theorem wi_Tg_begin : Cond.instanceMethod y_Tg_begin ∈ gw := sorry
theorem wm_Tg_readTag : wm y_Tg_readTag b_Tg_readTag 4 (some FieldType.boolean) 1 := sorry
theorem wi_Tg_readTag : Cond.instanceMethod y_Tg_readTag ∈ gw := sorry
theorem wl_Dk_63 : Cond.methodLink "OriginDesk" 63 ⟨"OriginDesk$Dates", "<init>", "(J)V"⟩ ∈ gw := sorry
theorem wl_Da_9 : Cond.methodLink "OriginDesk$Dates" 9 ⟨"OriginDesk$Dates", "yearOf", "(J)I"⟩ ∈ gw := sorry
theorem wl_Da_119 : Cond.methodLink "OriginDesk$Dates" 119 ⟨"OriginDesk$Dates", "daysBefore", "(I)I"⟩ ∈ gw := sorry
theorem wl_Dk_74 : Cond.methodLink "OriginDesk" 74 ⟨"OriginDesk", "isWithin", "(JJ)Z"⟩ ∈ gw := sorry
theorem wl_Dk_90 : Cond.methodLink "OriginDesk" 90 ⟨"OriginDesk$Representation", "<init>", "(ILOriginDesk$MediaType;LOriginDesk$Language;IIZJ)V"⟩ ∈ gw := sorry
theorem wl_Dk_93 : Cond.methodLink "OriginDesk" 93 ⟨"OriginDesk$Request", "restart", "(I)V"⟩ ∈ gw := sorry
theorem wl_Dk_97 : Cond.methodLink "OriginDesk" 97 ⟨"OriginDesk$Request", "append", "(IJ)I"⟩ ∈ gw := sorry
theorem wl_Rq_24 : Cond.methodLink "OriginDesk$Request" 24 ⟨"OriginDesk$Request", "countOf", "(J)I"⟩ ∈ gw := sorry
theorem wl_Rq_28 : Cond.methodLink "OriginDesk$Request" 28 ⟨"OriginDesk$Request", "characterOf", "(JI)I"⟩ ∈ gw := sorry
theorem wl_Dk_101 : Cond.methodLink "OriginDesk" 101 ⟨"OriginDesk", "codeWithoutChoice", "()I"⟩ ∈ gw := sorry
theorem wl_Dk_105 : Cond.methodLink "OriginDesk" 105 ⟨"OriginDesk", "choose", "()LOriginDesk$Representation;"⟩ ∈ gw := sorry
theorem wl_Dk_151 : Cond.methodLink "OriginDesk" 151 ⟨"OriginDesk", "scoreOf", "(LOriginDesk$Representation;)I"⟩ ∈ gw := sorry
theorem wl_Dk_160 : Cond.methodLink "OriginDesk" 160 ⟨"OriginDesk$Accept", "read", "(LOriginDesk$Request;LOriginDesk$MediaType;)Z"⟩ ∈ gw := sorry
theorem wl_Ac_9 : Cond.methodLink "OriginDesk$Accept" 9 ⟨"OriginDesk$Accept", "open", "(LOriginDesk$Request;I)V"⟩ ∈ gw := sorry
theorem wl_Rd_25 : Cond.methodLink "OriginDesk$Reader" 25 ⟨"OriginDesk$Request", "has", "(I)Z"⟩ ∈ gw := sorry
theorem wl_Ac_22 : Cond.methodLink "OriginDesk$Accept" 22 ⟨"OriginDesk$Accept", "findElement", "()Z"⟩ ∈ gw := sorry
theorem wl_Ac_26 : Cond.methodLink "OriginDesk$Accept" 26 ⟨"OriginDesk$Accept", "readTokens", "(LOriginDesk$MediaType;)Z"⟩ ∈ gw := sorry
theorem wl_Ac_39 : Cond.methodLink "OriginDesk$Accept" 39 ⟨"OriginDesk$Accept", "takeToken", "()Z"⟩ ∈ gw := sorry
theorem wl_Rd_67 : Cond.methodLink "OriginDesk$Reader" 67 ⟨"OriginDesk$Reader", "say", "(I)V"⟩ ∈ gw := sorry
theorem wl_Ac_44 : Cond.methodLink "OriginDesk$Accept" 44 ⟨"OriginDesk$Accept", "isSaid", "(Ljava/lang/String;)Z"⟩ ∈ gw := sorry
theorem wl_Ac_54 : Cond.methodLink "OriginDesk$Accept" 54 ⟨"OriginDesk$Accept", "isSaidAlike", "(Ljava/lang/String;)Z"⟩ ∈ gw := sorry
theorem wl_Rd_55 : Cond.methodLink "OriginDesk$Reader" 55 ⟨"OriginDesk$Reader", "lower", "(I)I"⟩ ∈ gw := sorry
theorem wl_Ac_57 : Cond.methodLink "OriginDesk$Accept" 57 ⟨"OriginDesk$Accept", "saysStar", "()Z"⟩ ∈ gw := sorry
theorem wl_Ac_60 : Cond.methodLink "OriginDesk$Accept" 60 ⟨"OriginDesk$Accept", "take", "(C)Z"⟩ ∈ gw := sorry
theorem wl_Ac_30 : Cond.methodLink "OriginDesk$Accept" 30 ⟨"OriginDesk$Accept", "readParameters", "(LOriginDesk$MediaType;)Z"⟩ ∈ gw := sorry
theorem wl_Ac_77 : Cond.methodLink "OriginDesk$Accept" 77 ⟨"OriginDesk$Accept", "takeSemicolon", "()Z"⟩ ∈ gw := sorry
theorem wl_Rd_38 : Cond.methodLink "OriginDesk$Reader" 38 ⟨"OriginDesk$Reader", "skipGap", "()V"⟩ ∈ gw := sorry
theorem wl_Rd_41 : Cond.methodLink "OriginDesk$Reader" 41 ⟨"OriginDesk$Reader", "take", "(C)Z"⟩ ∈ gw := sorry
theorem wl_Ac_82 : Cond.methodLink "OriginDesk$Accept" 82 ⟨"OriginDesk$Accept", "takeWeight", "()I"⟩ ∈ gw := sorry
theorem wl_Rd_77 : Cond.methodLink "OriginDesk$Reader" 77 ⟨"OriginDesk$Reader", "isDigit", "(I)Z"⟩ ∈ gw := sorry
theorem wl_Ac_89 : Cond.methodLink "OriginDesk$Accept" 89 ⟨"OriginDesk$Accept", "isNext", "(C)Z"⟩ ∈ gw := sorry
theorem wl_Ac_92 : Cond.methodLink "OriginDesk$Accept" 92 ⟨"OriginDesk$Accept", "takeQuotedText", "()Z"⟩ ∈ gw := sorry
theorem wl_Rd_71 : Cond.methodLink "OriginDesk$Reader" 71 ⟨"OriginDesk$Reader", "isQuotable", "(I)Z"⟩ ∈ gw := sorry
theorem wl_Ac_33 : Cond.methodLink "OriginDesk$Accept" 33 ⟨"OriginDesk$Accept", "endsElement", "()Z"⟩ ∈ gw := sorry
theorem wl_Ac_36 : Cond.methodLink "OriginDesk$Accept" 36 ⟨"OriginDesk$Accept", "weigh", "()V"⟩ ∈ gw := sorry
theorem wl_Dk_170 : Cond.methodLink "OriginDesk" 170 ⟨"OriginDesk$Languages", "read", "(LOriginDesk$Request;LOriginDesk$Language;)Z"⟩ ∈ gw := sorry
theorem wl_La_9 : Cond.methodLink "OriginDesk$Languages" 9 ⟨"OriginDesk$Languages", "open", "(LOriginDesk$Request;I)V"⟩ ∈ gw := sorry
theorem wl_La_22 : Cond.methodLink "OriginDesk$Languages" 22 ⟨"OriginDesk$Languages", "findElement", "()Z"⟩ ∈ gw := sorry
theorem wl_La_26 : Cond.methodLink "OriginDesk$Languages" 26 ⟨"OriginDesk$Languages", "readRange", "(LOriginDesk$Language;)Z"⟩ ∈ gw := sorry
theorem wl_La_33 : Cond.methodLink "OriginDesk$Languages" 33 ⟨"OriginDesk$Languages", "takeLanguage", "()Z"⟩ ∈ gw := sorry
theorem wl_Rd_74 : Cond.methodLink "OriginDesk$Reader" 74 ⟨"OriginDesk$Reader", "isLetter", "(I)Z"⟩ ∈ gw := sorry
theorem wl_La_36 : Cond.methodLink "OriginDesk$Languages" 36 ⟨"OriginDesk$Languages", "takeSemicolon", "()Z"⟩ ∈ gw := sorry
theorem wl_La_39 : Cond.methodLink "OriginDesk$Languages" 39 ⟨"OriginDesk$Languages", "take", "(C)Z"⟩ ∈ gw := sorry
theorem wl_La_43 : Cond.methodLink "OriginDesk$Languages" 43 ⟨"OriginDesk$Languages", "takeWeight", "()I"⟩ ∈ gw := sorry
theorem wl_La_47 : Cond.methodLink "OriginDesk$Languages" 47 ⟨"OriginDesk$Languages", "fitOf", "(LOriginDesk$Language;)I"⟩ ∈ gw := sorry
theorem wl_La_53 : Cond.methodLink "OriginDesk$Languages" 53 ⟨"OriginDesk$Languages", "isSaid", "(Ljava/lang/String;)Z"⟩ ∈ gw := sorry
theorem wl_La_63 : Cond.methodLink "OriginDesk$Languages" 63 ⟨"OriginDesk$Languages", "isSaidAlike", "(Ljava/lang/String;)Z"⟩ ∈ gw := sorry
theorem wl_La_69 : Cond.methodLink "OriginDesk$Languages" 69 ⟨"OriginDesk$Languages", "saidSize", "()I"⟩ ∈ gw := sorry
theorem wl_La_30 : Cond.methodLink "OriginDesk$Languages" 30 ⟨"OriginDesk$Languages", "endsElement", "()Z"⟩ ∈ gw := sorry
theorem wl_Dk_109 : Cond.methodLink "OriginDesk" 109 ⟨"OriginDesk", "codeFor", "(LOriginDesk$Representation;)I"⟩ ∈ gw := sorry
theorem wl_Dk_204 : Cond.methodLink "OriginDesk" 204 ⟨"OriginDesk", "isRefused", "(LOriginDesk$Representation;)Z"⟩ ∈ gw := sorry
theorem wl_Dk_227 : Cond.methodLink "OriginDesk" 227 ⟨"OriginDesk$Request", "has", "(I)Z"⟩ ∈ gw := sorry
theorem wl_Dk_175 : Cond.methodLink "OriginDesk" 175 ⟨"OriginDesk$Tags", "readList", "(LOriginDesk$Request;ILjava/lang/String;)Z"⟩ ∈ gw := sorry
theorem wl_Tg_9 : Cond.methodLink "OriginDesk$Tags" 9 ⟨"OriginDesk$Tags", "begin", "(LOriginDesk$Request;I)V"⟩ ∈ gw := sorry
theorem wl_Tg_40 : Cond.methodLink "OriginDesk$Tags" 40 ⟨"OriginDesk$Tags", "open", "(LOriginDesk$Request;I)V"⟩ ∈ gw := sorry
theorem wl_Tg_23 : Cond.methodLink "OriginDesk$Tags" 23 ⟨"OriginDesk$Tags", "skipGap", "()V"⟩ ∈ gw := sorry
theorem wl_Tg_15 : Cond.methodLink "OriginDesk$Tags" 15 ⟨"OriginDesk$Tags", "take", "(C)Z"⟩ ∈ gw := sorry
theorem wl_Tg_26 : Cond.methodLink "OriginDesk$Tags" 26 ⟨"OriginDesk$Tags", "isEnded", "()Z"⟩ ∈ gw := sorry
theorem wl_Tg_30 : Cond.methodLink "OriginDesk$Tags" 30 ⟨"OriginDesk$Tags", "findElement", "()Z"⟩ ∈ gw := sorry
theorem wl_Tg_33 : Cond.methodLink "OriginDesk$Tags" 33 ⟨"OriginDesk$Tags", "readTag", "(Ljava/lang/String;)Z"⟩ ∈ gw := sorry
theorem wl_Tg_49 : Cond.methodLink "OriginDesk$Tags" 49 ⟨"OriginDesk$Tags", "isNext", "(C)Z"⟩ ∈ gw := sorry
theorem wl_Tg_54 : Cond.methodLink "OriginDesk$Tags" 54 ⟨"OriginDesk$Tags", "takeText", "(Ljava/lang/String;)Z"⟩ ∈ gw := sorry
theorem wl_Tg_57 : Cond.methodLink "OriginDesk$Tags" 57 ⟨"OriginDesk$Tags", "takeOpaque", "()Z"⟩ ∈ gw := sorry
theorem wl_Tg_60 : Cond.methodLink "OriginDesk$Tags" 60 ⟨"OriginDesk$Tags", "isSaid", "(Ljava/lang/String;)Z"⟩ ∈ gw := sorry
theorem wl_Tg_37 : Cond.methodLink "OriginDesk$Tags" 37 ⟨"OriginDesk$Tags", "endsElement", "()Z"⟩ ∈ gw := sorry
theorem wl_Dk_179 : Cond.methodLink "OriginDesk" 179 ⟨"OriginDesk$Dates", "timeOf", "(LOriginDesk$Request;I)J"⟩ ∈ gw := sorry
theorem wl_Da_19 : Cond.methodLink "OriginDesk$Dates" 19 ⟨"OriginDesk$Dates", "open", "(LOriginDesk$Request;I)V"⟩ ∈ gw := sorry
theorem wl_Da_23 : Cond.methodLink "OriginDesk$Dates" 23 ⟨"OriginDesk$Dates", "skipGap", "()V"⟩ ∈ gw := sorry
theorem wl_Da_28 : Cond.methodLink "OriginDesk$Dates" 28 ⟨"OriginDesk$Dates", "takeName", "(Ljava/lang/String;)I"⟩ ∈ gw := sorry
theorem wl_Da_34 : Cond.methodLink "OriginDesk$Dates" 34 ⟨"OriginDesk$Dates", "take", "(C)Z"⟩ ∈ gw := sorry
theorem wl_Da_38 : Cond.methodLink "OriginDesk$Dates" 38 ⟨"OriginDesk$Dates", "takeCommaForm", "()Z"⟩ ∈ gw := sorry
theorem wl_Da_66 : Cond.methodLink "OriginDesk$Dates" 66 ⟨"OriginDesk$Dates", "takeDay", "()Z"⟩ ∈ gw := sorry
theorem wl_Da_98 : Cond.methodLink "OriginDesk$Dates" 98 ⟨"OriginDesk$Dates", "takeDigits", "(I)I"⟩ ∈ gw := sorry
theorem wl_Da_69 : Cond.methodLink "OriginDesk$Dates" 69 ⟨"OriginDesk$Dates", "takeMonth", "()Z"⟩ ∈ gw := sorry
theorem wl_Da_72 : Cond.methodLink "OriginDesk$Dates" 72 ⟨"OriginDesk$Dates", "takeYear", "()Z"⟩ ∈ gw := sorry
theorem wl_Da_75 : Cond.methodLink "OriginDesk$Dates" 75 ⟨"OriginDesk$Dates", "takeClock", "()Z"⟩ ∈ gw := sorry
theorem wl_Da_49 : Cond.methodLink "OriginDesk$Dates" 49 ⟨"OriginDesk$Dates", "takeText", "(Ljava/lang/String;)Z"⟩ ∈ gw := sorry
theorem wl_Da_42 : Cond.methodLink "OriginDesk$Dates" 42 ⟨"OriginDesk$Dates", "takeSpaceForm", "()Z"⟩ ∈ gw := sorry
theorem wl_Da_85 : Cond.methodLink "OriginDesk$Dates" 85 ⟨"OriginDesk$Dates", "takeSpacedDay", "()Z"⟩ ∈ gw := sorry
theorem wl_Da_45 : Cond.methodLink "OriginDesk$Dates" 45 ⟨"OriginDesk$Dates", "restOfName", "(I)Ljava/lang/String;"⟩ ∈ gw := sorry
theorem wl_Da_53 : Cond.methodLink "OriginDesk$Dates" 53 ⟨"OriginDesk$Dates", "takeDashForm", "()Z"⟩ ∈ gw := sorry
theorem wl_Da_82 : Cond.methodLink "OriginDesk$Dates" 82 ⟨"OriginDesk$Dates", "takeShortYear", "()Z"⟩ ∈ gw := sorry
theorem wl_Da_56 : Cond.methodLink "OriginDesk$Dates" 56 ⟨"OriginDesk$Dates", "isEnded", "()Z"⟩ ∈ gw := sorry
theorem wl_Da_59 : Cond.methodLink "OriginDesk$Dates" 59 ⟨"OriginDesk$Dates", "isInCalendar", "()Z"⟩ ∈ gw := sorry
theorem wl_Da_115 : Cond.methodLink "OriginDesk$Dates" 115 ⟨"OriginDesk$Dates", "daysOf", "(II)I"⟩ ∈ gw := sorry
theorem wl_Da_62 : Cond.methodLink "OriginDesk$Dates" 62 ⟨"OriginDesk$Dates", "time", "()J"⟩ ∈ gw := sorry
theorem wl_Dk_208 : Cond.methodLink "OriginDesk" 208 ⟨"OriginDesk", "isUnchanged", "(LOriginDesk$Representation;)Z"⟩ ∈ gw := sorry
theorem wl_Dk_188 : Cond.methodLink "OriginDesk" 188 ⟨"OriginDesk$Ranges", "read", "(LOriginDesk$Request;I)Z"⟩ ∈ gw := sorry
theorem wl_Ra_18 : Cond.methodLink "OriginDesk$Ranges" 18 ⟨"OriginDesk$Ranges", "open", "(LOriginDesk$Request;I)V"⟩ ∈ gw := sorry
theorem wl_Ra_29 : Cond.methodLink "OriginDesk$Ranges" 29 ⟨"OriginDesk$Ranges", "skipGap", "()V"⟩ ∈ gw := sorry
theorem wl_Ra_34 : Cond.methodLink "OriginDesk$Ranges" 34 ⟨"OriginDesk$Ranges", "takeAlike", "(Ljava/lang/String;)Z"⟩ ∈ gw := sorry
theorem wl_Ra_38 : Cond.methodLink "OriginDesk$Ranges" 38 ⟨"OriginDesk$Ranges", "take", "(C)Z"⟩ ∈ gw := sorry
theorem wl_Ra_42 : Cond.methodLink "OriginDesk$Ranges" 42 ⟨"OriginDesk$Ranges", "findElement", "()Z"⟩ ∈ gw := sorry
theorem wl_Ra_46 : Cond.methodLink "OriginDesk$Ranges" 46 ⟨"OriginDesk$Ranges", "readSpec", "(I)Z"⟩ ∈ gw := sorry
theorem wl_Ra_53 : Cond.methodLink "OriginDesk$Ranges" 53 ⟨"OriginDesk$Ranges", "takeNumber", "()I"⟩ ∈ gw := sorry
theorem wl_Ra_63 : Cond.methodLink "OriginDesk$Ranges" 63 ⟨"OriginDesk$Ranges", "keep", "(II)V"⟩ ∈ gw := sorry
theorem wl_Ra_50 : Cond.methodLink "OriginDesk$Ranges" 50 ⟨"OriginDesk$Ranges", "endsElement", "()Z"⟩ ∈ gw := sorry
theorem wl_Dk_214 : Cond.methodLink "OriginDesk" 214 ⟨"OriginDesk", "isRangeWanted", "(LOriginDesk$Representation;)Z"⟩ ∈ gw := sorry
theorem wl_Dk_185 : Cond.methodLink "OriginDesk" 185 ⟨"OriginDesk$Tags", "readOne", "(LOriginDesk$Request;ILjava/lang/String;)Z"⟩ ∈ gw := sorry
theorem wl_Dk_220 : Cond.methodLink "OriginDesk" 220 ⟨"OriginDesk$Ranges", "overlap", "()Z"⟩ ∈ gw := sorry
theorem wl_Dk_116 : Cond.methodLink "OriginDesk" 116 ⟨"OriginDesk$Response", "settle", "(ILOriginDesk$Representation;ZLOriginDesk$Ranges;)V"⟩ ∈ gw := sorry
theorem wl_Rs_47 : Cond.methodLink "OriginDesk$Response" 47 ⟨"OriginDesk$Response", "measure", "()I"⟩ ∈ gw := sorry
theorem wl_Rs_67 : Cond.methodLink "OriginDesk$Response" 67 ⟨"OriginDesk$Response", "partSize", "(I)I"⟩ ∈ gw := sorry
theorem wl_Rs_77 : Cond.methodLink "OriginDesk$Response" 77 ⟨"OriginDesk$Response", "writeHeading", "(II)V"⟩ ∈ gw := sorry
theorem wl_Dk_133 : Cond.methodLink "OriginDesk" 133 ⟨"OriginDesk$Response", "byteAt", "(I)I"⟩ ∈ gw := sorry
theorem wl_Rs_54 : Cond.methodLink "OriginDesk$Response" 54 ⟨"OriginDesk$Representation", "byteAt", "(I)I"⟩ ∈ gw := sorry
theorem wl_Rs_60 : Cond.methodLink "OriginDesk$Response" 60 ⟨"OriginDesk$Response", "byteAmongParts", "(LOriginDesk$Representation;I)I"⟩ ∈ gw := sorry
theorem wl_Dk_140 : Cond.methodLink "OriginDesk" 140 ⟨"OriginDesk$Response", "hasPart", "(I)Z"⟩ ∈ gw := sorry
theorem wl_Mo_354 : Cond.methodLink "OriginDeskModel" 354 ⟨"OriginDeskModel", "decide", "()I"⟩ ∈ gw := sorry
theorem wl_Mo_339 : Cond.methodLink "OriginDeskModel" 339 ⟨"OriginDeskModel", "chosenOne", "()I"⟩ ∈ gw := sorry
theorem wl_Mo_319 : Cond.methodLink "OriginDeskModel" 319 ⟨"OriginDeskModel", "scoreOf", "(I)I"⟩ ∈ gw := sorry
theorem wl_Mo_223 : Cond.methodLink "OriginDeskModel" 223 ⟨"OriginDeskModel", "there", "(I)Z"⟩ ∈ gw := sorry
theorem wl_Mo_226 : Cond.methodLink "OriginDeskModel" 226 ⟨"OriginDeskModel", "accepted", "(I)I"⟩ ∈ gw := sorry
theorem wl_Mo_199 : Cond.methodLink "OriginDeskModel" 199 ⟨"OriginDeskModel", "open", "(I)V"⟩ ∈ gw := sorry
theorem wl_Mo_203 : Cond.methodLink "OriginDeskModel" 203 ⟨"OriginDeskModel", "element", "()Z"⟩ ∈ gw := sorry
theorem wl_Mo_156 : Cond.methodLink "OriginDeskModel" 156 ⟨"OriginDeskModel", "gap", "()V"⟩ ∈ gw := sorry
theorem wl_Mo_115 : Cond.methodLink "OriginDeskModel" 115 ⟨"OriginDeskModel", "next", "()I"⟩ ∈ gw := sorry
theorem wl_Mo_111 : Cond.methodLink "OriginDeskModel" 111 ⟨"OriginDeskModel", "charAt", "(I)I"⟩ ∈ gw := sorry
theorem wl_Mo_153 : Cond.methodLink "OriginDeskModel" 153 ⟨"OriginDeskModel", "take", "(I)Z"⟩ ∈ gw := sorry
theorem wl_Mo_166 : Cond.methodLink "OriginDeskModel" 166 ⟨"OriginDeskModel", "ended", "()Z"⟩ ∈ gw := sorry
theorem wl_Mo_206 : Cond.methodLink "OriginDeskModel" 206 ⟨"OriginDeskModel", "mediaRange", "(I)I"⟩ ∈ gw := sorry
theorem wl_Mo_176 : Cond.methodLink "OriginDeskModel" 176 ⟨"OriginDeskModel", "token", "()Z"⟩ ∈ gw := sorry
theorem wl_Mo_129 : Cond.methodLink "OriginDeskModel" 129 ⟨"OriginDeskModel", "isToken", "(I)Z"⟩ ∈ gw := sorry
theorem wl_Mo_119 : Cond.methodLink "OriginDeskModel" 119 ⟨"OriginDeskModel", "isDigit", "(I)Z"⟩ ∈ gw := sorry
theorem wl_Mo_123 : Cond.methodLink "OriginDeskModel" 123 ⟨"OriginDeskModel", "isLetter", "(I)Z"⟩ ∈ gw := sorry
theorem wl_Mo_179 : Cond.methodLink "OriginDeskModel" 179 ⟨"OriginDeskModel", "starred", "(II)Z"⟩ ∈ gw := sorry
theorem wl_Mo_183 : Cond.methodLink "OriginDeskModel" 183 ⟨"OriginDeskModel", "isMain", "(III)Z"⟩ ∈ gw := sorry
theorem wl_Mo_142 : Cond.methodLink "OriginDeskModel" 142 ⟨"OriginDeskModel", "says", "(IJ)Z"⟩ ∈ gw := sorry
theorem wl_Mo_135 : Cond.methodLink "OriginDeskModel" 135 ⟨"OriginDeskModel", "lengthOf", "(J)I"⟩ ∈ gw := sorry
theorem wl_Mo_139 : Cond.methodLink "OriginDeskModel" 139 ⟨"OriginDeskModel", "lower", "(I)I"⟩ ∈ gw := sorry
theorem wl_Mo_146 : Cond.methodLink "OriginDeskModel" 146 ⟨"OriginDeskModel", "isWord", "(IIJ)Z"⟩ ∈ gw := sorry
theorem wl_Mo_187 : Cond.methodLink "OriginDeskModel" 187 ⟨"OriginDeskModel", "isSub", "(III)Z"⟩ ∈ gw := sorry
theorem wl_Mo_159 : Cond.methodLink "OriginDeskModel" 159 ⟨"OriginDeskModel", "semicolon", "()Z"⟩ ∈ gw := sorry
theorem wl_Mo_163 : Cond.methodLink "OriginDeskModel" 163 ⟨"OriginDeskModel", "weight", "()Z"⟩ ∈ gw := sorry
theorem wl_Mo_196 : Cond.methodLink "OriginDeskModel" 196 ⟨"OriginDeskModel", "assigned", "()Z"⟩ ∈ gw := sorry
theorem wl_Mo_173 : Cond.methodLink "OriginDeskModel" 173 ⟨"OriginDeskModel", "quoted", "()Z"⟩ ∈ gw := sorry
theorem wl_Mo_209 : Cond.methodLink "OriginDeskModel" 209 ⟨"OriginDeskModel", "separator", "()I"⟩ ∈ gw := sorry
theorem wl_Mo_229 : Cond.methodLink "OriginDeskModel" 229 ⟨"OriginDeskModel", "spoken", "(I)I"⟩ ∈ gw := sorry
theorem wl_Mo_214 : Cond.methodLink "OriginDeskModel" 214 ⟨"OriginDeskModel", "tongue", "()Z"⟩ ∈ gw := sorry
theorem wl_Mo_217 : Cond.methodLink "OriginDeskModel" 217 ⟨"OriginDeskModel", "speaks", "(I)Z"⟩ ∈ gw := sorry
theorem wl_Mo_220 : Cond.methodLink "OriginDeskModel" 220 ⟨"OriginDeskModel", "weightIfAny", "()Z"⟩ ∈ gw := sorry
theorem wl_Mo_345 : Cond.methodLink "OriginDeskModel" 345 ⟨"OriginDeskModel", "conditions", "(I)I"⟩ ∈ gw := sorry
theorem wl_Mo_322 : Cond.methodLink "OriginDeskModel" 322 ⟨"OriginDeskModel", "tags", "(IIZ)I"⟩ ∈ gw := sorry
theorem wl_Mo_235 : Cond.methodLink "OriginDeskModel" 235 ⟨"OriginDeskModel", "tagText", "()Z"⟩ ∈ gw := sorry
theorem wl_Mo_238 : Cond.methodLink "OriginDeskModel" 238 ⟨"OriginDeskModel", "isTagOf", "(I)Z"⟩ ∈ gw := sorry
theorem wl_Mo_316 : Cond.methodLink "OriginDeskModel" 316 ⟨"OriginDeskModel", "dateOf", "(I)J"⟩ ∈ gw := sorry
theorem wl_Mo_294 : Cond.methodLink "OriginDeskModel" 294 ⟨"OriginDeskModel", "dayName", "()I"⟩ ∈ gw := sorry
theorem wl_Mo_241 : Cond.methodLink "OriginDeskModel" 241 ⟨"OriginDeskModel", "three", "()I"⟩ ∈ gw := sorry
theorem wl_Mo_297 : Cond.methodLink "OriginDeskModel" 297 ⟨"OriginDeskModel", "dateBehind", "(I)J"⟩ ∈ gw := sorry
theorem wl_Mo_272 : Cond.methodLink "OriginDeskModel" 272 ⟨"OriginDeskModel", "monthName", "()I"⟩ ∈ gw := sorry
theorem wl_Mo_275 : Cond.methodLink "OriginDeskModel" 275 ⟨"OriginDeskModel", "paddedDay", "()I"⟩ ∈ gw := sorry
theorem wl_Mo_254 : Cond.methodLink "OriginDeskModel" 254 ⟨"OriginDeskModel", "digits", "(I)I"⟩ ∈ gw := sorry
theorem wl_Mo_278 : Cond.methodLink "OriginDeskModel" 278 ⟨"OriginDeskModel", "time", "()I"⟩ ∈ gw := sorry
theorem wl_Mo_281 : Cond.methodLink "OriginDeskModel" 281 ⟨"OriginDeskModel", "restOf", "(I)Z"⟩ ∈ gw := sorry
theorem wl_Mo_284 : Cond.methodLink "OriginDeskModel" 284 ⟨"OriginDeskModel", "shortYear", "(I)I"⟩ ∈ gw := sorry
theorem wl_Mo_269 : Cond.methodLink "OriginDeskModel" 269 ⟨"OriginDeskModel", "yearOf", "(J)I"⟩ ∈ gw := sorry
theorem wl_Mo_287 : Cond.methodLink "OriginDeskModel" 287 ⟨"OriginDeskModel", "zone", "()Z"⟩ ∈ gw := sorry
theorem wl_Mo_290 : Cond.methodLink "OriginDeskModel" 290 ⟨"OriginDeskModel", "secondsOf", "(IIII)J"⟩ ∈ gw := sorry
theorem wl_Mo_263 : Cond.methodLink "OriginDeskModel" 263 ⟨"OriginDeskModel", "daysOf", "(II)I"⟩ ∈ gw := sorry
theorem wl_Mo_348 : Cond.methodLink "OriginDeskModel" 348 ⟨"OriginDeskModel", "ranged", "(I)I"⟩ ∈ gw := sorry
theorem wl_Mo_326 : Cond.methodLink "OriginDeskModel" 326 ⟨"OriginDeskModel", "ifRange", "(I)Z"⟩ ∈ gw := sorry
theorem wl_Mo_329 : Cond.methodLink "OriginDeskModel" 329 ⟨"OriginDeskModel", "ranges", "()Z"⟩ ∈ gw := sorry
theorem wl_Mo_310 : Cond.methodLink "OriginDeskModel" 310 ⟨"OriginDeskModel", "spec", "()Z"⟩ ∈ gw := sorry
theorem wl_Mo_302 : Cond.methodLink "OriginDeskModel" 302 ⟨"OriginDeskModel", "many", "()I"⟩ ∈ gw := sorry
theorem wl_Mo_332 : Cond.methodLink "OriginDeskModel" 332 ⟨"OriginDeskModel", "resolve", "(II)V"⟩ ∈ gw := sorry
theorem wl_Mo_336 : Cond.methodLink "OriginDeskModel" 336 ⟨"OriginDeskModel", "overlap", "()Z"⟩ ∈ gw := sorry
theorem wl_Mo_365 : Cond.methodLink "OriginDeskModel" 365 ⟨"OriginDeskModel", "partSize", "(I)I"⟩ ∈ gw := sorry
theorem wl_Mo_360 : Cond.methodLink "OriginDeskModel" 360 ⟨"OriginDeskModel", "headOf", "(I)I"⟩ ∈ gw := sorry
theorem wl_Mo_357 : Cond.methodLink "OriginDeskModel" 357 ⟨"OriginDeskModel", "digitsOf", "(I)I"⟩ ∈ gw := sorry
theorem wl_Mo_385 : Cond.methodLink "OriginDeskModel" 385 ⟨"OriginDeskModel", "length", "()J"⟩ ∈ gw := sorry
theorem wl_Mo_382 : Cond.methodLink "OriginDeskModel" 382 ⟨"OriginDeskModel", "byteAt", "(I)I"⟩ ∈ gw := sorry
theorem wl_Mo_388 : Cond.methodLink "OriginDeskModel" 388 ⟨"OriginDeskModel", "partByte", "(II)I"⟩ ∈ gw := sorry
theorem wl_Mo_375 : Cond.methodLink "OriginDeskModel" 375 ⟨"OriginDeskModel", "figures", "(III)I"⟩ ∈ gw := sorry
theorem wl_Mo_368 : Cond.methodLink "OriginDeskModel" 368 ⟨"OriginDeskModel", "digitOf", "(II)I"⟩ ∈ gw := sorry
theorem wl_Mo_379 : Cond.methodLink "OriginDeskModel" 379 ⟨"OriginDeskModel", "crlf", "(I)I"⟩ ∈ gw := sorry
theorem wl_Mo_393 : Cond.methodLink "OriginDeskModel" 393 ⟨"OriginDeskModel", "parts", "()I"⟩ ∈ gw := sorry
theorem wl_Mo_396 : Cond.methodLink "OriginDeskModel" 396 ⟨"OriginDeskModel", "loneTag", "()Z"⟩ ∈ gw := sorry
theorem ws_Dk_Dk_add : Cond.selects "OriginDesk" ⟨"OriginDesk", "add", "(IIIIZJ)I"⟩ y_Dk_add ∈ gw := sorry
theorem ws_Dk_Dk_clear : Cond.selects "OriginDesk" ⟨"OriginDesk", "clear", "()V"⟩ y_Dk_clear ∈ gw := sorry
theorem ws_Dk_Dk_request : Cond.selects "OriginDesk" ⟨"OriginDesk", "request", "(I)V"⟩ y_Dk_request ∈ gw := sorry
theorem ws_Rq_Rq_restart : Cond.selects "OriginDesk$Request" ⟨"OriginDesk$Request", "restart", "(I)V"⟩ y_Rq_restart ∈ gw := sorry
theorem ws_Dk_Dk_feed : Cond.selects "OriginDesk" ⟨"OriginDesk", "feed", "(IJ)I"⟩ y_Dk_feed ∈ gw := sorry
theorem ws_Rq_Rq_append : Cond.selects "OriginDesk$Request" ⟨"OriginDesk$Request", "append", "(IJ)I"⟩ y_Rq_append ∈ gw := sorry
theorem ws_Dk_Dk_respond : Cond.selects "OriginDesk" ⟨"OriginDesk", "respond", "()I"⟩ y_Dk_respond ∈ gw := sorry
theorem ws_Ac_Ac_read : Cond.selects "OriginDesk$Accept" ⟨"OriginDesk$Accept", "read", "(LOriginDesk$Request;LOriginDesk$MediaType;)Z"⟩ y_Ac_read ∈ gw := sorry
theorem ws_Ac_Ac_open : Cond.selects "OriginDesk$Accept" ⟨"OriginDesk$Accept", "open", "(LOriginDesk$Request;I)V"⟩ y_Rd_open ∈ gw := sorry
theorem wsm_Ac_open : Cond.sameMethod "OriginDesk$Accept" "OriginDesk$Reader" "open" "(LOriginDesk$Request;I)V" ∈ gw := sorry
theorem ws_Rq_Rq_has : Cond.selects "OriginDesk$Request" ⟨"OriginDesk$Request", "has", "(I)Z"⟩ y_Rq_has ∈ gw := sorry
theorem ws_Ac_Ac_findElement : Cond.selects "OriginDesk$Accept" ⟨"OriginDesk$Accept", "findElement", "()Z"⟩ y_Rd_findElement ∈ gw := sorry
theorem wsm_Ac_findElement : Cond.sameMethod "OriginDesk$Accept" "OriginDesk$Reader" "findElement" "()Z" ∈ gw := sorry
theorem ws_Ac_Ac_takeToken : Cond.selects "OriginDesk$Accept" ⟨"OriginDesk$Accept", "takeToken", "()Z"⟩ y_Rd_takeToken ∈ gw := sorry
theorem wsm_Ac_takeToken : Cond.sameMethod "OriginDesk$Accept" "OriginDesk$Reader" "takeToken" "()Z" ∈ gw := sorry
theorem ws_Ac_Ac_isSaid : Cond.selects "OriginDesk$Accept" ⟨"OriginDesk$Accept", "isSaid", "(Ljava/lang/String;)Z"⟩ y_Rd_isSaid ∈ gw := sorry
theorem wsm_Ac_isSaid : Cond.sameMethod "OriginDesk$Accept" "OriginDesk$Reader" "isSaid" "(Ljava/lang/String;)Z" ∈ gw := sorry
theorem ws_Ac_Ac_isSaidAlike : Cond.selects "OriginDesk$Accept" ⟨"OriginDesk$Accept", "isSaidAlike", "(Ljava/lang/String;)Z"⟩ y_Rd_isSaidAlike ∈ gw := sorry
theorem wsm_Ac_isSaidAlike : Cond.sameMethod "OriginDesk$Accept" "OriginDesk$Reader" "isSaidAlike" "(Ljava/lang/String;)Z" ∈ gw := sorry
theorem ws_Ac_Ac_saysStar : Cond.selects "OriginDesk$Accept" ⟨"OriginDesk$Accept", "saysStar", "()Z"⟩ y_Rd_saysStar ∈ gw := sorry
theorem wsm_Ac_saysStar : Cond.sameMethod "OriginDesk$Accept" "OriginDesk$Reader" "saysStar" "()Z" ∈ gw := sorry
theorem ws_Ac_Ac_take : Cond.selects "OriginDesk$Accept" ⟨"OriginDesk$Accept", "take", "(C)Z"⟩ y_Rd_take ∈ gw := sorry
theorem wsm_Ac_take : Cond.sameMethod "OriginDesk$Accept" "OriginDesk$Reader" "take" "(C)Z" ∈ gw := sorry
theorem ws_Ac_Ac_takeSemicolon : Cond.selects "OriginDesk$Accept" ⟨"OriginDesk$Accept", "takeSemicolon", "()Z"⟩ y_Rd_takeSemicolon ∈ gw := sorry
theorem wsm_Ac_takeSemicolon : Cond.sameMethod "OriginDesk$Accept" "OriginDesk$Reader" "takeSemicolon" "()Z" ∈ gw := sorry
theorem ws_Ac_Rd_skipGap : Cond.selects "OriginDesk$Accept" ⟨"OriginDesk$Reader", "skipGap", "()V"⟩ y_Rd_skipGap ∈ gw := sorry
theorem ws_Da_Rd_skipGap : Cond.selects "OriginDesk$Dates" ⟨"OriginDesk$Reader", "skipGap", "()V"⟩ y_Rd_skipGap ∈ gw := sorry
theorem ws_La_Rd_skipGap : Cond.selects "OriginDesk$Languages" ⟨"OriginDesk$Reader", "skipGap", "()V"⟩ y_Rd_skipGap ∈ gw := sorry
theorem ws_Ra_Rd_skipGap : Cond.selects "OriginDesk$Ranges" ⟨"OriginDesk$Reader", "skipGap", "()V"⟩ y_Rd_skipGap ∈ gw := sorry
theorem ws_Tg_Rd_skipGap : Cond.selects "OriginDesk$Tags" ⟨"OriginDesk$Reader", "skipGap", "()V"⟩ y_Rd_skipGap ∈ gw := sorry
theorem ws_Ac_Ac_takeWeight : Cond.selects "OriginDesk$Accept" ⟨"OriginDesk$Accept", "takeWeight", "()I"⟩ y_Rd_takeWeight ∈ gw := sorry
theorem wsm_Ac_takeWeight : Cond.sameMethod "OriginDesk$Accept" "OriginDesk$Reader" "takeWeight" "()I" ∈ gw := sorry
theorem ws_Ac_Ac_isNext : Cond.selects "OriginDesk$Accept" ⟨"OriginDesk$Accept", "isNext", "(C)Z"⟩ y_Rd_isNext ∈ gw := sorry
theorem wsm_Ac_isNext : Cond.sameMethod "OriginDesk$Accept" "OriginDesk$Reader" "isNext" "(C)Z" ∈ gw := sorry
theorem ws_Ac_Ac_takeQuotedText : Cond.selects "OriginDesk$Accept" ⟨"OriginDesk$Accept", "takeQuotedText", "()Z"⟩ y_Rd_takeQuotedText ∈ gw := sorry
theorem wsm_Ac_takeQuotedText : Cond.sameMethod "OriginDesk$Accept" "OriginDesk$Reader" "takeQuotedText" "()Z" ∈ gw := sorry
theorem ws_Ac_Ac_endsElement : Cond.selects "OriginDesk$Accept" ⟨"OriginDesk$Accept", "endsElement", "()Z"⟩ y_Rd_endsElement ∈ gw := sorry
theorem wsm_Ac_endsElement : Cond.sameMethod "OriginDesk$Accept" "OriginDesk$Reader" "endsElement" "()Z" ∈ gw := sorry
theorem ws_La_La_read : Cond.selects "OriginDesk$Languages" ⟨"OriginDesk$Languages", "read", "(LOriginDesk$Request;LOriginDesk$Language;)Z"⟩ y_La_read ∈ gw := sorry
theorem ws_La_La_open : Cond.selects "OriginDesk$Languages" ⟨"OriginDesk$Languages", "open", "(LOriginDesk$Request;I)V"⟩ y_Rd_open ∈ gw := sorry
theorem wsm_La_open : Cond.sameMethod "OriginDesk$Languages" "OriginDesk$Reader" "open" "(LOriginDesk$Request;I)V" ∈ gw := sorry
theorem ws_La_La_findElement : Cond.selects "OriginDesk$Languages" ⟨"OriginDesk$Languages", "findElement", "()Z"⟩ y_Rd_findElement ∈ gw := sorry
theorem wsm_La_findElement : Cond.sameMethod "OriginDesk$Languages" "OriginDesk$Reader" "findElement" "()Z" ∈ gw := sorry
theorem ws_La_La_takeLanguage : Cond.selects "OriginDesk$Languages" ⟨"OriginDesk$Languages", "takeLanguage", "()Z"⟩ y_Rd_takeLanguage ∈ gw := sorry
theorem wsm_La_takeLanguage : Cond.sameMethod "OriginDesk$Languages" "OriginDesk$Reader" "takeLanguage" "()Z" ∈ gw := sorry
theorem ws_La_La_takeSemicolon : Cond.selects "OriginDesk$Languages" ⟨"OriginDesk$Languages", "takeSemicolon", "()Z"⟩ y_Rd_takeSemicolon ∈ gw := sorry
theorem wsm_La_takeSemicolon : Cond.sameMethod "OriginDesk$Languages" "OriginDesk$Reader" "takeSemicolon" "()Z" ∈ gw := sorry
theorem ws_La_La_take : Cond.selects "OriginDesk$Languages" ⟨"OriginDesk$Languages", "take", "(C)Z"⟩ y_Rd_take ∈ gw := sorry
theorem wsm_La_take : Cond.sameMethod "OriginDesk$Languages" "OriginDesk$Reader" "take" "(C)Z" ∈ gw := sorry
theorem ws_La_La_takeWeight : Cond.selects "OriginDesk$Languages" ⟨"OriginDesk$Languages", "takeWeight", "()I"⟩ y_Rd_takeWeight ∈ gw := sorry
theorem wsm_La_takeWeight : Cond.sameMethod "OriginDesk$Languages" "OriginDesk$Reader" "takeWeight" "()I" ∈ gw := sorry
theorem ws_La_La_isSaid : Cond.selects "OriginDesk$Languages" ⟨"OriginDesk$Languages", "isSaid", "(Ljava/lang/String;)Z"⟩ y_Rd_isSaid ∈ gw := sorry
theorem wsm_La_isSaid : Cond.sameMethod "OriginDesk$Languages" "OriginDesk$Reader" "isSaid" "(Ljava/lang/String;)Z" ∈ gw := sorry
theorem ws_La_La_isSaidAlike : Cond.selects "OriginDesk$Languages" ⟨"OriginDesk$Languages", "isSaidAlike", "(Ljava/lang/String;)Z"⟩ y_Rd_isSaidAlike ∈ gw := sorry
theorem wsm_La_isSaidAlike : Cond.sameMethod "OriginDesk$Languages" "OriginDesk$Reader" "isSaidAlike" "(Ljava/lang/String;)Z" ∈ gw := sorry
theorem ws_La_La_saidSize : Cond.selects "OriginDesk$Languages" ⟨"OriginDesk$Languages", "saidSize", "()I"⟩ y_Rd_saidSize ∈ gw := sorry
theorem wsm_La_saidSize : Cond.sameMethod "OriginDesk$Languages" "OriginDesk$Reader" "saidSize" "()I" ∈ gw := sorry
theorem ws_La_La_endsElement : Cond.selects "OriginDesk$Languages" ⟨"OriginDesk$Languages", "endsElement", "()Z"⟩ y_Rd_endsElement ∈ gw := sorry
theorem wsm_La_endsElement : Cond.sameMethod "OriginDesk$Languages" "OriginDesk$Reader" "endsElement" "()Z" ∈ gw := sorry
theorem ws_Tg_Tg_readList : Cond.selects "OriginDesk$Tags" ⟨"OriginDesk$Tags", "readList", "(LOriginDesk$Request;ILjava/lang/String;)Z"⟩ y_Tg_readList ∈ gw := sorry
theorem ws_Tg_Tg_open : Cond.selects "OriginDesk$Tags" ⟨"OriginDesk$Tags", "open", "(LOriginDesk$Request;I)V"⟩ y_Rd_open ∈ gw := sorry
theorem wsm_Tg_open : Cond.sameMethod "OriginDesk$Tags" "OriginDesk$Reader" "open" "(LOriginDesk$Request;I)V" ∈ gw := sorry
theorem ws_Tg_Tg_skipGap : Cond.selects "OriginDesk$Tags" ⟨"OriginDesk$Tags", "skipGap", "()V"⟩ y_Rd_skipGap ∈ gw := sorry
theorem wsm_Tg_skipGap : Cond.sameMethod "OriginDesk$Tags" "OriginDesk$Reader" "skipGap" "()V" ∈ gw := sorry
theorem ws_Tg_Tg_take : Cond.selects "OriginDesk$Tags" ⟨"OriginDesk$Tags", "take", "(C)Z"⟩ y_Rd_take ∈ gw := sorry
theorem wsm_Tg_take : Cond.sameMethod "OriginDesk$Tags" "OriginDesk$Reader" "take" "(C)Z" ∈ gw := sorry
theorem ws_Tg_Tg_isEnded : Cond.selects "OriginDesk$Tags" ⟨"OriginDesk$Tags", "isEnded", "()Z"⟩ y_Rd_isEnded ∈ gw := sorry
theorem wsm_Tg_isEnded : Cond.sameMethod "OriginDesk$Tags" "OriginDesk$Reader" "isEnded" "()Z" ∈ gw := sorry
theorem ws_Tg_Tg_findElement : Cond.selects "OriginDesk$Tags" ⟨"OriginDesk$Tags", "findElement", "()Z"⟩ y_Rd_findElement ∈ gw := sorry
theorem wsm_Tg_findElement : Cond.sameMethod "OriginDesk$Tags" "OriginDesk$Reader" "findElement" "()Z" ∈ gw := sorry
theorem ws_Tg_Tg_isNext : Cond.selects "OriginDesk$Tags" ⟨"OriginDesk$Tags", "isNext", "(C)Z"⟩ y_Rd_isNext ∈ gw := sorry
theorem wsm_Tg_isNext : Cond.sameMethod "OriginDesk$Tags" "OriginDesk$Reader" "isNext" "(C)Z" ∈ gw := sorry
theorem ws_Tg_Tg_takeText : Cond.selects "OriginDesk$Tags" ⟨"OriginDesk$Tags", "takeText", "(Ljava/lang/String;)Z"⟩ y_Rd_takeText ∈ gw := sorry
theorem wsm_Tg_takeText : Cond.sameMethod "OriginDesk$Tags" "OriginDesk$Reader" "takeText" "(Ljava/lang/String;)Z" ∈ gw := sorry
theorem ws_Tg_Tg_takeOpaque : Cond.selects "OriginDesk$Tags" ⟨"OriginDesk$Tags", "takeOpaque", "()Z"⟩ y_Rd_takeOpaque ∈ gw := sorry
theorem wsm_Tg_takeOpaque : Cond.sameMethod "OriginDesk$Tags" "OriginDesk$Reader" "takeOpaque" "()Z" ∈ gw := sorry
theorem ws_Tg_Tg_isSaid : Cond.selects "OriginDesk$Tags" ⟨"OriginDesk$Tags", "isSaid", "(Ljava/lang/String;)Z"⟩ y_Rd_isSaid ∈ gw := sorry
theorem wsm_Tg_isSaid : Cond.sameMethod "OriginDesk$Tags" "OriginDesk$Reader" "isSaid" "(Ljava/lang/String;)Z" ∈ gw := sorry
theorem ws_Tg_Tg_endsElement : Cond.selects "OriginDesk$Tags" ⟨"OriginDesk$Tags", "endsElement", "()Z"⟩ y_Rd_endsElement ∈ gw := sorry
theorem wsm_Tg_endsElement : Cond.sameMethod "OriginDesk$Tags" "OriginDesk$Reader" "endsElement" "()Z" ∈ gw := sorry
theorem ws_Da_Da_timeOf : Cond.selects "OriginDesk$Dates" ⟨"OriginDesk$Dates", "timeOf", "(LOriginDesk$Request;I)J"⟩ y_Da_timeOf ∈ gw := sorry
theorem ws_Da_Da_open : Cond.selects "OriginDesk$Dates" ⟨"OriginDesk$Dates", "open", "(LOriginDesk$Request;I)V"⟩ y_Rd_open ∈ gw := sorry
theorem wsm_Da_open : Cond.sameMethod "OriginDesk$Dates" "OriginDesk$Reader" "open" "(LOriginDesk$Request;I)V" ∈ gw := sorry
theorem ws_Da_Da_skipGap : Cond.selects "OriginDesk$Dates" ⟨"OriginDesk$Dates", "skipGap", "()V"⟩ y_Rd_skipGap ∈ gw := sorry
theorem wsm_Da_skipGap : Cond.sameMethod "OriginDesk$Dates" "OriginDesk$Reader" "skipGap" "()V" ∈ gw := sorry
theorem ws_Da_Da_takeName : Cond.selects "OriginDesk$Dates" ⟨"OriginDesk$Dates", "takeName", "(Ljava/lang/String;)I"⟩ y_Rd_takeName ∈ gw := sorry
theorem wsm_Da_takeName : Cond.sameMethod "OriginDesk$Dates" "OriginDesk$Reader" "takeName" "(Ljava/lang/String;)I" ∈ gw := sorry
theorem ws_Da_Da_take : Cond.selects "OriginDesk$Dates" ⟨"OriginDesk$Dates", "take", "(C)Z"⟩ y_Rd_take ∈ gw := sorry
theorem wsm_Da_take : Cond.sameMethod "OriginDesk$Dates" "OriginDesk$Reader" "take" "(C)Z" ∈ gw := sorry
theorem ws_Da_Da_takeDigits : Cond.selects "OriginDesk$Dates" ⟨"OriginDesk$Dates", "takeDigits", "(I)I"⟩ y_Rd_takeDigits ∈ gw := sorry
theorem wsm_Da_takeDigits : Cond.sameMethod "OriginDesk$Dates" "OriginDesk$Reader" "takeDigits" "(I)I" ∈ gw := sorry
theorem ws_Da_Da_takeText : Cond.selects "OriginDesk$Dates" ⟨"OriginDesk$Dates", "takeText", "(Ljava/lang/String;)Z"⟩ y_Rd_takeText ∈ gw := sorry
theorem wsm_Da_takeText : Cond.sameMethod "OriginDesk$Dates" "OriginDesk$Reader" "takeText" "(Ljava/lang/String;)Z" ∈ gw := sorry
theorem ws_Da_Da_isEnded : Cond.selects "OriginDesk$Dates" ⟨"OriginDesk$Dates", "isEnded", "()Z"⟩ y_Rd_isEnded ∈ gw := sorry
theorem wsm_Da_isEnded : Cond.sameMethod "OriginDesk$Dates" "OriginDesk$Reader" "isEnded" "()Z" ∈ gw := sorry
theorem ws_Ra_Ra_read : Cond.selects "OriginDesk$Ranges" ⟨"OriginDesk$Ranges", "read", "(LOriginDesk$Request;I)Z"⟩ y_Ra_read ∈ gw := sorry
theorem ws_Ra_Ra_open : Cond.selects "OriginDesk$Ranges" ⟨"OriginDesk$Ranges", "open", "(LOriginDesk$Request;I)V"⟩ y_Rd_open ∈ gw := sorry
theorem wsm_Ra_open : Cond.sameMethod "OriginDesk$Ranges" "OriginDesk$Reader" "open" "(LOriginDesk$Request;I)V" ∈ gw := sorry
theorem ws_Ra_Ra_skipGap : Cond.selects "OriginDesk$Ranges" ⟨"OriginDesk$Ranges", "skipGap", "()V"⟩ y_Rd_skipGap ∈ gw := sorry
theorem wsm_Ra_skipGap : Cond.sameMethod "OriginDesk$Ranges" "OriginDesk$Reader" "skipGap" "()V" ∈ gw := sorry
theorem ws_Ra_Ra_takeAlike : Cond.selects "OriginDesk$Ranges" ⟨"OriginDesk$Ranges", "takeAlike", "(Ljava/lang/String;)Z"⟩ y_Rd_takeAlike ∈ gw := sorry
theorem wsm_Ra_takeAlike : Cond.sameMethod "OriginDesk$Ranges" "OriginDesk$Reader" "takeAlike" "(Ljava/lang/String;)Z" ∈ gw := sorry
theorem ws_Ra_Ra_take : Cond.selects "OriginDesk$Ranges" ⟨"OriginDesk$Ranges", "take", "(C)Z"⟩ y_Rd_take ∈ gw := sorry
theorem wsm_Ra_take : Cond.sameMethod "OriginDesk$Ranges" "OriginDesk$Reader" "take" "(C)Z" ∈ gw := sorry
theorem ws_Ra_Ra_findElement : Cond.selects "OriginDesk$Ranges" ⟨"OriginDesk$Ranges", "findElement", "()Z"⟩ y_Rd_findElement ∈ gw := sorry
theorem wsm_Ra_findElement : Cond.sameMethod "OriginDesk$Ranges" "OriginDesk$Reader" "findElement" "()Z" ∈ gw := sorry
theorem ws_Ra_Ra_takeNumber : Cond.selects "OriginDesk$Ranges" ⟨"OriginDesk$Ranges", "takeNumber", "()I"⟩ y_Rd_takeNumber ∈ gw := sorry
theorem wsm_Ra_takeNumber : Cond.sameMethod "OriginDesk$Ranges" "OriginDesk$Reader" "takeNumber" "()I" ∈ gw := sorry
theorem ws_Ra_Ra_endsElement : Cond.selects "OriginDesk$Ranges" ⟨"OriginDesk$Ranges", "endsElement", "()Z"⟩ y_Rd_endsElement ∈ gw := sorry
theorem wsm_Ra_endsElement : Cond.sameMethod "OriginDesk$Ranges" "OriginDesk$Reader" "endsElement" "()Z" ∈ gw := sorry
theorem ws_Tg_Tg_readOne : Cond.selects "OriginDesk$Tags" ⟨"OriginDesk$Tags", "readOne", "(LOriginDesk$Request;ILjava/lang/String;)Z"⟩ y_Tg_readOne ∈ gw := sorry
theorem ws_Ra_Ra_overlap : Cond.selects "OriginDesk$Ranges" ⟨"OriginDesk$Ranges", "overlap", "()Z"⟩ y_Ra_overlap ∈ gw := sorry
theorem ws_Rs_Rs_settle : Cond.selects "OriginDesk$Response" ⟨"OriginDesk$Response", "settle", "(ILOriginDesk$Representation;ZLOriginDesk$Ranges;)V"⟩ y_Rs_settle ∈ gw := sorry
theorem ws_Dk_Dk_status : Cond.selects "OriginDesk" ⟨"OriginDesk", "status", "()I"⟩ y_Dk_status ∈ gw := sorry
theorem ws_Dk_Dk_chosen : Cond.selects "OriginDesk" ⟨"OriginDesk", "chosen", "()I"⟩ y_Dk_chosen ∈ gw := sorry
theorem ws_Dk_Dk_length : Cond.selects "OriginDesk" ⟨"OriginDesk", "length", "()J"⟩ y_Dk_length ∈ gw := sorry
theorem ws_Dk_Dk_body : Cond.selects "OriginDesk" ⟨"OriginDesk", "body", "(I)I"⟩ y_Dk_body ∈ gw := sorry
theorem ws_Rs_Rs_byteAt : Cond.selects "OriginDesk$Response" ⟨"OriginDesk$Response", "byteAt", "(I)I"⟩ y_Rs_byteAt ∈ gw := sorry
theorem ws_Rp_Rp_byteAt : Cond.selects "OriginDesk$Representation" ⟨"OriginDesk$Representation", "byteAt", "(I)I"⟩ y_Rp_byteAt ∈ gw := sorry
theorem ws_Dk_Dk_parts : Cond.selects "OriginDesk" ⟨"OriginDesk", "parts", "()I"⟩ y_Dk_parts ∈ gw := sorry
theorem ws_Dk_Dk_first : Cond.selects "OriginDesk" ⟨"OriginDesk", "first", "(I)I"⟩ y_Dk_first ∈ gw := sorry
theorem ws_Rs_Rs_hasPart : Cond.selects "OriginDesk$Response" ⟨"OriginDesk$Response", "hasPart", "(I)Z"⟩ y_Rs_hasPart ∈ gw := sorry
theorem ws_Dk_Dk_last : Cond.selects "OriginDesk" ⟨"OriginDesk", "last", "(I)I"⟩ y_Dk_last ∈ gw := sorry
theorem ws_Dk_Dk_score : Cond.selects "OriginDesk" ⟨"OriginDesk", "score", "(I)I"⟩ y_Dk_score ∈ gw := sorry
theorem ws_Dk_Dk_formed : Cond.selects "OriginDesk" ⟨"OriginDesk", "formed", "(I)Z"⟩ y_Dk_formed ∈ gw := sorry
theorem ws_Dk_Dk_date : Cond.selects "OriginDesk" ⟨"OriginDesk", "date", "(I)J"⟩ y_Dk_date ∈ gw := sorry
theorem ws_Mo_Mo_add : Cond.selects "OriginDeskModel" ⟨"OriginDeskModel", "add", "(IIIIZJ)I"⟩ y_Mo_add ∈ gw := sorry
theorem ws_Mo_Mo_clear : Cond.selects "OriginDeskModel" ⟨"OriginDeskModel", "clear", "()V"⟩ y_Mo_clear ∈ gw := sorry
theorem ws_Mo_Mo_request : Cond.selects "OriginDeskModel" ⟨"OriginDeskModel", "request", "(I)V"⟩ y_Mo_request ∈ gw := sorry
theorem ws_Mo_Mo_feed : Cond.selects "OriginDeskModel" ⟨"OriginDeskModel", "feed", "(IJ)I"⟩ y_Mo_feed ∈ gw := sorry
theorem ws_Mo_Mo_respond : Cond.selects "OriginDeskModel" ⟨"OriginDeskModel", "respond", "()I"⟩ y_Mo_respond ∈ gw := sorry
theorem ws_Mo_Mo_status : Cond.selects "OriginDeskModel" ⟨"OriginDeskModel", "status", "()I"⟩ y_Mo_status ∈ gw := sorry
theorem ws_Mo_Mo_chosen : Cond.selects "OriginDeskModel" ⟨"OriginDeskModel", "chosen", "()I"⟩ y_Mo_chosen ∈ gw := sorry
theorem ws_Mo_Mo_length : Cond.selects "OriginDeskModel" ⟨"OriginDeskModel", "length", "()J"⟩ y_Mo_length ∈ gw := sorry
theorem ws_Mo_Mo_body : Cond.selects "OriginDeskModel" ⟨"OriginDeskModel", "body", "(I)I"⟩ y_Mo_body ∈ gw := sorry
theorem ws_Mo_Mo_parts : Cond.selects "OriginDeskModel" ⟨"OriginDeskModel", "parts", "()I"⟩ y_Mo_parts ∈ gw := sorry
theorem ws_Mo_Mo_first : Cond.selects "OriginDeskModel" ⟨"OriginDeskModel", "first", "(I)I"⟩ y_Mo_first ∈ gw := sorry
theorem ws_Mo_Mo_last : Cond.selects "OriginDeskModel" ⟨"OriginDeskModel", "last", "(I)I"⟩ y_Mo_last ∈ gw := sorry
theorem ws_Mo_Mo_score : Cond.selects "OriginDeskModel" ⟨"OriginDeskModel", "score", "(I)I"⟩ y_Mo_score ∈ gw := sorry
theorem ws_Mo_Mo_formed : Cond.selects "OriginDeskModel" ⟨"OriginDeskModel", "formed", "(I)Z"⟩ y_Mo_formed ∈ gw := sorry
theorem ws_Mo_Mo_date : Cond.selects "OriginDeskModel" ⟨"OriginDeskModel", "date", "(I)J"⟩ y_Mo_date ∈ gw := sorry
theorem ws_Ac_Rd_take : Cond.selects "OriginDesk$Accept" ⟨"OriginDesk$Reader", "take", "(C)Z"⟩ y_Rd_take ∈ gw := sorry
theorem ws_Da_Rd_take : Cond.selects "OriginDesk$Dates" ⟨"OriginDesk$Reader", "take", "(C)Z"⟩ y_Rd_take ∈ gw := sorry
theorem ws_La_Rd_take : Cond.selects "OriginDesk$Languages" ⟨"OriginDesk$Reader", "take", "(C)Z"⟩ y_Rd_take ∈ gw := sorry
theorem ws_Ra_Rd_take : Cond.selects "OriginDesk$Ranges" ⟨"OriginDesk$Reader", "take", "(C)Z"⟩ y_Rd_take ∈ gw := sorry
theorem ws_Tg_Rd_take : Cond.selects "OriginDesk$Tags" ⟨"OriginDesk$Reader", "take", "(C)Z"⟩ y_Rd_take ∈ gw := sorry
theorem ws_Dk_Dk_codeWithoutChoice : Cond.selects "OriginDesk" y_Dk_codeWithoutChoice y_Dk_codeWithoutChoice ∈ gw := sorry
theorem ws_Dk_Dk_choose : Cond.selects "OriginDesk" y_Dk_choose y_Dk_choose ∈ gw := sorry
theorem ws_Dk_Dk_scoreOf : Cond.selects "OriginDesk" y_Dk_scoreOf y_Dk_scoreOf ∈ gw := sorry
theorem ws_Dk_Dk_codeFor : Cond.selects "OriginDesk" y_Dk_codeFor y_Dk_codeFor ∈ gw := sorry
theorem ws_Dk_Dk_isRefused : Cond.selects "OriginDesk" y_Dk_isRefused y_Dk_isRefused ∈ gw := sorry
theorem ws_Dk_Dk_isUnchanged : Cond.selects "OriginDesk" y_Dk_isUnchanged y_Dk_isUnchanged ∈ gw := sorry
theorem ws_Dk_Dk_isRangeWanted : Cond.selects "OriginDesk" y_Dk_isRangeWanted y_Dk_isRangeWanted ∈ gw := sorry
theorem ws_Mo_Mo_open : Cond.selects "OriginDeskModel" y_Mo_open y_Mo_open ∈ gw := sorry
theorem ws_Mo_Mo_there : Cond.selects "OriginDeskModel" y_Mo_there y_Mo_there ∈ gw := sorry
theorem ws_Mo_Mo_charAt : Cond.selects "OriginDeskModel" y_Mo_charAt y_Mo_charAt ∈ gw := sorry
theorem ws_Mo_Mo_next : Cond.selects "OriginDeskModel" y_Mo_next y_Mo_next ∈ gw := sorry
theorem ws_Mo_Mo_ended : Cond.selects "OriginDeskModel" y_Mo_ended y_Mo_ended ∈ gw := sorry
theorem ws_Mo_Mo_gap : Cond.selects "OriginDeskModel" y_Mo_gap y_Mo_gap ∈ gw := sorry
theorem ws_Mo_Mo_take : Cond.selects "OriginDeskModel" y_Mo_take y_Mo_take ∈ gw := sorry
theorem ws_Mo_Mo_token : Cond.selects "OriginDeskModel" y_Mo_token y_Mo_token ∈ gw := sorry
theorem ws_Mo_Mo_says : Cond.selects "OriginDeskModel" y_Mo_says y_Mo_says ∈ gw := sorry
theorem ws_Mo_Mo_isWord : Cond.selects "OriginDeskModel" y_Mo_isWord y_Mo_isWord ∈ gw := sorry
theorem ws_Mo_Mo_isMain : Cond.selects "OriginDeskModel" y_Mo_isMain y_Mo_isMain ∈ gw := sorry
theorem ws_Mo_Mo_isSub : Cond.selects "OriginDeskModel" y_Mo_isSub y_Mo_isSub ∈ gw := sorry
theorem ws_Mo_Mo_weight : Cond.selects "OriginDeskModel" y_Mo_weight y_Mo_weight ∈ gw := sorry
theorem ws_Mo_Mo_semicolon : Cond.selects "OriginDeskModel" y_Mo_semicolon y_Mo_semicolon ∈ gw := sorry
theorem ws_Mo_Mo_weightIfAny : Cond.selects "OriginDeskModel" y_Mo_weightIfAny y_Mo_weightIfAny ∈ gw := sorry
theorem ws_Mo_Mo_separator : Cond.selects "OriginDeskModel" y_Mo_separator y_Mo_separator ∈ gw := sorry
theorem ws_Mo_Mo_element : Cond.selects "OriginDeskModel" y_Mo_element y_Mo_element ∈ gw := sorry
theorem ws_Mo_Mo_quoted : Cond.selects "OriginDeskModel" y_Mo_quoted y_Mo_quoted ∈ gw := sorry
theorem ws_Mo_Mo_assigned : Cond.selects "OriginDeskModel" y_Mo_assigned y_Mo_assigned ∈ gw := sorry
theorem ws_Mo_Mo_starred : Cond.selects "OriginDeskModel" y_Mo_starred y_Mo_starred ∈ gw := sorry
theorem ws_Mo_Mo_mediaRange : Cond.selects "OriginDeskModel" y_Mo_mediaRange y_Mo_mediaRange ∈ gw := sorry
theorem ws_Mo_Mo_accepted : Cond.selects "OriginDeskModel" y_Mo_accepted y_Mo_accepted ∈ gw := sorry
theorem ws_Mo_Mo_tongue : Cond.selects "OriginDeskModel" y_Mo_tongue y_Mo_tongue ∈ gw := sorry
theorem ws_Mo_Mo_speaks : Cond.selects "OriginDeskModel" y_Mo_speaks y_Mo_speaks ∈ gw := sorry
theorem ws_Mo_Mo_spoken : Cond.selects "OriginDeskModel" y_Mo_spoken y_Mo_spoken ∈ gw := sorry
theorem ws_Mo_Mo_scoreOf : Cond.selects "OriginDeskModel" y_Mo_scoreOf y_Mo_scoreOf ∈ gw := sorry
theorem ws_Mo_Mo_tagText : Cond.selects "OriginDeskModel" y_Mo_tagText y_Mo_tagText ∈ gw := sorry
theorem ws_Mo_Mo_isTagOf : Cond.selects "OriginDeskModel" y_Mo_isTagOf y_Mo_isTagOf ∈ gw := sorry
theorem ws_Mo_Mo_tags : Cond.selects "OriginDeskModel" y_Mo_tags y_Mo_tags ∈ gw := sorry
theorem ws_Mo_Mo_digits : Cond.selects "OriginDeskModel" y_Mo_digits y_Mo_digits ∈ gw := sorry
theorem ws_Mo_Mo_three : Cond.selects "OriginDeskModel" y_Mo_three y_Mo_three ∈ gw := sorry
theorem ws_Mo_Mo_dayName : Cond.selects "OriginDeskModel" y_Mo_dayName y_Mo_dayName ∈ gw := sorry
theorem ws_Mo_Mo_monthName : Cond.selects "OriginDeskModel" y_Mo_monthName y_Mo_monthName ∈ gw := sorry
theorem ws_Mo_Mo_restOf : Cond.selects "OriginDeskModel" y_Mo_restOf y_Mo_restOf ∈ gw := sorry
theorem ws_Mo_Mo_time : Cond.selects "OriginDeskModel" y_Mo_time y_Mo_time ∈ gw := sorry
theorem ws_Mo_Mo_shortYear : Cond.selects "OriginDeskModel" y_Mo_shortYear y_Mo_shortYear ∈ gw := sorry
theorem ws_Mo_Mo_zone : Cond.selects "OriginDeskModel" y_Mo_zone y_Mo_zone ∈ gw := sorry
theorem ws_Mo_Mo_paddedDay : Cond.selects "OriginDeskModel" y_Mo_paddedDay y_Mo_paddedDay ∈ gw := sorry
theorem ws_Mo_Mo_dateBehind : Cond.selects "OriginDeskModel" y_Mo_dateBehind y_Mo_dateBehind ∈ gw := sorry
theorem ws_Mo_Mo_dateOf : Cond.selects "OriginDeskModel" y_Mo_dateOf y_Mo_dateOf ∈ gw := sorry
theorem ws_Mo_Mo_many : Cond.selects "OriginDeskModel" y_Mo_many y_Mo_many ∈ gw := sorry
theorem ws_Mo_Mo_spec : Cond.selects "OriginDeskModel" y_Mo_spec y_Mo_spec ∈ gw := sorry
theorem ws_Mo_Mo_ranges : Cond.selects "OriginDeskModel" y_Mo_ranges y_Mo_ranges ∈ gw := sorry
theorem ws_Mo_Mo_resolve : Cond.selects "OriginDeskModel" y_Mo_resolve y_Mo_resolve ∈ gw := sorry
theorem ws_Mo_Mo_overlap : Cond.selects "OriginDeskModel" y_Mo_overlap y_Mo_overlap ∈ gw := sorry
theorem ws_Mo_Mo_ifRange : Cond.selects "OriginDeskModel" y_Mo_ifRange y_Mo_ifRange ∈ gw := sorry
theorem ws_Mo_Mo_chosenOne : Cond.selects "OriginDeskModel" y_Mo_chosenOne y_Mo_chosenOne ∈ gw := sorry
theorem ws_Mo_Mo_conditions : Cond.selects "OriginDeskModel" y_Mo_conditions y_Mo_conditions ∈ gw := sorry
theorem ws_Mo_Mo_ranged : Cond.selects "OriginDeskModel" y_Mo_ranged y_Mo_ranged ∈ gw := sorry
theorem ws_Mo_Mo_decide : Cond.selects "OriginDeskModel" y_Mo_decide y_Mo_decide ∈ gw := sorry
theorem ws_Mo_Mo_byteAt : Cond.selects "OriginDeskModel" y_Mo_byteAt y_Mo_byteAt ∈ gw := sorry
theorem ws_Mo_Mo_headOf : Cond.selects "OriginDeskModel" y_Mo_headOf y_Mo_headOf ∈ gw := sorry
theorem ws_Mo_Mo_partSize : Cond.selects "OriginDeskModel" y_Mo_partSize y_Mo_partSize ∈ gw := sorry
theorem ws_Mo_Mo_figures : Cond.selects "OriginDeskModel" y_Mo_figures y_Mo_figures ∈ gw := sorry
theorem ws_Mo_Mo_partByte : Cond.selects "OriginDeskModel" y_Mo_partByte y_Mo_partByte ∈ gw := sorry
theorem ws_Mo_Mo_loneTag : Cond.selects "OriginDeskModel" y_Mo_loneTag y_Mo_loneTag ∈ gw := sorry
theorem ws_Ac_Ac_readTokens : Cond.selects "OriginDesk$Accept" y_Ac_readTokens y_Ac_readTokens ∈ gw := sorry
theorem ws_Ac_Ac_readParameters : Cond.selects "OriginDesk$Accept" y_Ac_readParameters y_Ac_readParameters ∈ gw := sorry
theorem ws_Ac_Ac_weigh : Cond.selects "OriginDesk$Accept" y_Ac_weigh y_Ac_weigh ∈ gw := sorry
theorem ws_Da_Da_takeCommaForm : Cond.selects "OriginDesk$Dates" y_Da_takeCommaForm y_Da_takeCommaForm ∈ gw := sorry
theorem ws_Da_Da_takeDashForm : Cond.selects "OriginDesk$Dates" y_Da_takeDashForm y_Da_takeDashForm ∈ gw := sorry
theorem ws_Da_Da_takeSpaceForm : Cond.selects "OriginDesk$Dates" y_Da_takeSpaceForm y_Da_takeSpaceForm ∈ gw := sorry
theorem ws_Da_Da_takeDay : Cond.selects "OriginDesk$Dates" y_Da_takeDay y_Da_takeDay ∈ gw := sorry
theorem ws_Da_Da_takeSpacedDay : Cond.selects "OriginDesk$Dates" y_Da_takeSpacedDay y_Da_takeSpacedDay ∈ gw := sorry
theorem ws_Da_Da_takeMonth : Cond.selects "OriginDesk$Dates" y_Da_takeMonth y_Da_takeMonth ∈ gw := sorry
theorem ws_Da_Da_takeYear : Cond.selects "OriginDesk$Dates" y_Da_takeYear y_Da_takeYear ∈ gw := sorry
theorem ws_Da_Da_takeShortYear : Cond.selects "OriginDesk$Dates" y_Da_takeShortYear y_Da_takeShortYear ∈ gw := sorry
theorem ws_Da_Da_takeClock : Cond.selects "OriginDesk$Dates" y_Da_takeClock y_Da_takeClock ∈ gw := sorry
theorem ws_Da_Da_isInCalendar : Cond.selects "OriginDesk$Dates" y_Da_isInCalendar y_Da_isInCalendar ∈ gw := sorry
theorem ws_Da_Da_time : Cond.selects "OriginDesk$Dates" y_Da_time y_Da_time ∈ gw := sorry
theorem ws_La_La_readRange : Cond.selects "OriginDesk$Languages" y_La_readRange y_La_readRange ∈ gw := sorry
theorem ws_La_La_fitOf : Cond.selects "OriginDesk$Languages" y_La_fitOf y_La_fitOf ∈ gw := sorry
theorem ws_Ra_Ra_readSpec : Cond.selects "OriginDesk$Ranges" y_Ra_readSpec y_Ra_readSpec ∈ gw := sorry
theorem ws_Ra_Ra_keep : Cond.selects "OriginDesk$Ranges" y_Ra_keep y_Ra_keep ∈ gw := sorry
theorem ws_Rs_Rs_measure : Cond.selects "OriginDesk$Response" y_Rs_measure y_Rs_measure ∈ gw := sorry
theorem ws_Rs_Rs_byteAmongParts : Cond.selects "OriginDesk$Response" y_Rs_byteAmongParts y_Rs_byteAmongParts ∈ gw := sorry
theorem ws_Rs_Rs_writeHeading : Cond.selects "OriginDesk$Response" y_Rs_writeHeading y_Rs_writeHeading ∈ gw := sorry
theorem ws_Rs_Rs_partSize : Cond.selects "OriginDesk$Response" y_Rs_partSize y_Rs_partSize ∈ gw := sorry
theorem ws_Tg_Tg_begin : Cond.selects "OriginDesk$Tags" y_Tg_begin y_Tg_begin ∈ gw := sorry
theorem ws_Tg_Tg_readTag : Cond.selects "OriginDesk$Tags" y_Tg_readTag y_Tg_readTag ∈ gw := sorry
/-! CONSTANTS of the pools -/
theorem wc_Dk_57 : Jvm.Cond.constantLong "OriginDesk" 57 4294967295 ∈ gw := sorry
theorem wc_Dk_61 : Jvm.Cond.constantLong "OriginDesk" 61 4102444799 ∈ gw := sorry
theorem wc_Da_122 : Jvm.Cond.constantLong "OriginDesk$Dates" 122 86400 ∈ gw := sorry
theorem wc_Dk_82 : Jvm.Cond.constantLong "OriginDesk" 82 100000 ∈ gw := sorry
theorem wc_Dk_84 : Jvm.Cond.constantLong "OriginDesk" 84 9999 ∈ gw := sorry
theorem wc_Da_32 : Jvm.Cond.constantLong "OriginDesk$Dates" 32 (-1) ∈ gw := sorry
theorem wc_Dk_183 : Jvm.Cond.constantLong "OriginDesk" 183 (-1) ∈ gw := sorry
theorem wc_Rd_80 : Jvm.Cond.constant "OriginDesk$Reader" 80 999999999 ∈ gw := sorry
theorem wc_Mo_58 : Jvm.Cond.constantLong "OriginDeskModel" 58 4294967295 ∈ gw := sorry
theorem wc_Mo_60 : Jvm.Cond.constantLong "OriginDeskModel" 60 4102444799 ∈ gw := sorry
theorem wc_Mo_66 : Jvm.Cond.constantLong "OriginDeskModel" 66 1954047348 ∈ gw := sorry
theorem wc_Mo_68 : Jvm.Cond.constantLong "OriginDeskModel" 68 1819112552 ∈ gw := sorry
theorem wc_Mo_70 : Jvm.Cond.constantLong "OriginDeskModel" 70 474214394992 ∈ gw := sorry
theorem wc_Mo_72 : Jvm.Cond.constantLong "OriginDeskModel" 72 1852797802 ∈ gw := sorry
theorem wc_Mo_74 : Jvm.Cond.constantLong "OriginDeskModel" 74 435526135145 ∈ gw := sorry
theorem wc_Mo_76 : Jvm.Cond.constantLong "OriginDeskModel" 76 6778480 ∈ gw := sorry
theorem wc_Mo_78 : Jvm.Cond.constantLong "OriginDeskModel" 78 30519660376454771 ∈ gw := sorry
theorem wc_Mo_80 : Jvm.Cond.constantLong "OriginDeskModel" 80 465558725996 ∈ gw := sorry
theorem wc_Mo_82 : Jvm.Cond.constantLong "OriginDeskModel" 82 8386093285582598241 ∈ gw := sorry
theorem wc_Mo_84 : Jvm.Cond.constantLong "OriginDeskModel" 84 7237481 ∈ gw := sorry
theorem wc_Mo_86 : Jvm.Cond.constantLong "OriginDeskModel" 86 28261 ∈ gw := sorry
theorem wc_Mo_88 : Jvm.Cond.constantLong "OriginDeskModel" 88 495887150693 ∈ gw := sorry
theorem wc_Mo_90 : Jvm.Cond.constantLong "OriginDeskModel" 90 25956 ∈ gw := sorry
theorem wc_Mo_92 : Jvm.Cond.constantLong "OriginDeskModel" 92 499846571364 ∈ gw := sorry
theorem wc_Mo_94 : Jvm.Cond.constantLong "OriginDeskModel" 94 29286 ∈ gw := sorry
theorem wc_Mo_96 : Jvm.Cond.constant "OriginDeskModel" 96 100000 ∈ gw := sorry
theorem wc_Mo_103 : Jvm.Cond.constantLong "OriginDeskModel" 103 255 ∈ gw := sorry
theorem wc_Mo_212 : Jvm.Cond.constantLong "OriginDeskModel" 212 45 ∈ gw := sorry
theorem wc_Mo_267 : Jvm.Cond.constantLong "OriginDeskModel" 267 (-1) ∈ gw := sorry
theorem wc_Mo_244 : Jvm.Cond.constantLong "OriginDeskModel" 244 2036425843 ∈ gw := sorry
theorem wc_Mo_246 : Jvm.Cond.constantLong "OriginDeskModel" 246 133459204072814 ∈ gw := sorry
theorem wc_Mo_248 : Jvm.Cond.constantLong "OriginDeskModel" 248 521325015922 ∈ gw := sorry
theorem wc_Mo_250 : Jvm.Cond.constantLong "OriginDeskModel" 250 521325015669 ∈ gw := sorry
theorem wc_Mo_252 : Jvm.Cond.constantLong "OriginDeskModel" 252 7954788 ∈ gw := sorry
theorem wc_Mo_257 : Jvm.Cond.constantLong "OriginDeskModel" 257 86400 ∈ gw := sorry
theorem wc_Mo_259 : Jvm.Cond.constantLong "OriginDeskModel" 259 366 ∈ gw := sorry
theorem wc_Mo_261 : Jvm.Cond.constantLong "OriginDeskModel" 261 365 ∈ gw := sorry
theorem wc_Mo_308 : Jvm.Cond.constantLong "OriginDeskModel" 308 495623371106 ∈ gw := sorry
theorem wc_Mo_301 : Jvm.Cond.constant "OriginDeskModel" 301 999999999 ∈ gw := sorry
theorem wc_Mo_363 : Jvm.Cond.constantLong "OriginDeskModel" 363 10 ∈ gw := sorry
theorem wc_Mo_371 : Jvm.Cond.constantLong "OriginDeskModel" 371 724327827336342829 ∈ gw := sorry
theorem wc_Mo_373 : Jvm.Cond.constantLong "OriginDeskModel" 373 9071406456136018 ∈ gw := sorry
theorem wc_Mo_391 : Jvm.Cond.constantLong "OriginDeskModel" 391 3255350817918561581 ∈ gw := sorry
/-! a stretch that ends ahead of a loop's head -/
theorem wq_c_take {cc : ByteArray} {nL : Nat} : ∀ (n : Nat) (j : wq_J) (b : Nat), wq_c cc nL j b = true → wq_c cc nL (j.take n) b = true:= sorry
theorem vx_gon {p : Program} {l : Launch} {e : Env} {R : Room} {s : State} {m : MethodId} {args : Array Value} {below : List Frame} {meth : Method} {c : Code} {cc : ByteArray} {nL : Nat} {own : String} {Ts : List Cond} {D : va_G} {cl : List vw_C} {tys : List (ClassId × FieldType)} {A : Nat → Prop} {tc : Nat → ClassId} {Q : State → Prop} {st : List Value} {ws : va_W} {k n : Nat} {ini : Bool} {EN : Option Value → va_W → Nat → Nat → Prop} {ft : List (Nat × Nat × Nat × Nat)} {ty : Nat → Nat → FieldType}
    {j : wq_J} (hC : Cx p s m args c cc nL own Ts D cl tys A tc) (hF : vx_Ft own Ts cl ty ft) (hini : ini = true → meth.name = "<init>") (hE : vx_EN cc EN (Vx p l e R s m args below meth c nL D cl A Q)) (hj : wq_c cc nL j 0 = true) (i a : Nat) {pc : Nat} (hi : i ≤ j.length) (hpc : wq_pc j i = pc) {lv : wq_L}
    (h : wq nL ini tc ft ty (vx_RT A s) (vx_RF own args A s) (vx_RZ own args A s) (vx_RS own args s) (vx_SX cc (Vx p l e R s m args below meth c nL D cl A Q)) EN (Vx p l e R s m args below meth c nL D cl A Q) ((j.drop i).take a) pc lv st ws k n) : Vx p l e R s m args below meth c nL D cl A Q pc lv st ws k n := sorry
end
section
/-! THE READER: small helpers -/
def bI (b : Bool) : Int32 := match b with
  | true => 1
  | false => 0
theorem bI_narrow (b : Bool) : narrow .boolean (.int (bI b)) = .int (bI b) := sorry
theorem vx_E.mk {ret : Option FieldType} {post : Option Value → va_W → Prop} {mc ms k n : Nat} {r : Option Value} {ws : va_W} (h1 : vx_rt ret r) (h2 : post r ws) (h3 : k ≤ mc) (h4 : n ≤ ms) : vx_E ret post mc ms r ws k n := sorry
theorem ro_true : RO (fun _ _ _ => True) := sorry
def isDg (c : Nat) : Bool := decide (48 ≤ c ∧ c ≤ 57)
set_option maxRecDepth 100000 in
set_option maxHeartbeats 1000000 in
theorem c_Rd_isDigit (l : Launch) (D : va_G) (tys : List (ClassId × FieldType)) (tc : Nat → ClassId) (hty : ∀ i : Nat, i < 4 → tys[i]? = some (tc i, vx_ty i)) (c : Nat) (hc : c < 256) : Kt l y_Rd_isDigit (yw y_Rd_isDigit b_Rd_isDigit 1 (some .boolean)) 0 0 0 0 D cls tys (fun _ _ _ => True) [.int (nI c)] [] (fun r w => r = some (.int (bI (isDg c))) ∧ w = []) := sorry
/-! THE READER'S WORLD: its cell, the row of said characters; the field's text is only read -/
def rdW (tc : Nat → ClassId) (ci h ra sa : Nat) (ex : List Value) (T rs : List Nat) (sd : Nat → Int32) (ss : Nat) : va_W := [(h, .inr (ci, .ref ra :: .int (nI T.length) :: .int (nI (T.length - rs.length)) :: .ref sa :: .int (nI ss) :: ex)), (sa, .inl (tc 0, 96, .inl sd))]
/-- the text's row: only read -/
def rdF (ra : Nat) (T : List Nat) : (Nat → Prop) → State → Heap → Prop := fun A U H => ∃ (N : Nat) (f : Nat → Value), va_T .int ra N f A U H ∧ (T.length ≤ N ∧ N < 2 ^ 31) ∧ ∀ j, j < T.length → f j = .int (nI (T.getD j 0))
theorem rdF_ro (ra : Nat) (T : List Nat) : RO (rdF ra T) := sorry
/-- a text: at most 96 characters, each a byte -/
def isT (T : List Nat) : Prop := T.length ≤ 96 ∧ ∀ x ∈ T, 0 < x ∧ x < 256
theorem sfx_at {T rs : List Nat} {x : Nat} {r : List Nat} (h : rs <:+ T) (e : rs = x :: r) : T.length - rs.length < T.length ∧ T.getD (T.length - rs.length) 0 = x ∧ r <:+ T ∧ T.length - rs.length + 1 = T.length - r.length ∧ x ∈ T := sorry
theorem sfx_le {T rs : List Nat} (h : rs <:+ T) : rs.length ≤ T.length := sorry
/-- take: the next character, if it is c -/
def pk (c : Nat) (rs : List Nat) : Bool × List Nat := match rs with
  | [] => (false, [])
  | x :: r => if x = c then (true, r) else (false, x :: r)
theorem pk_sfx {c : Nat} {rs T : List Nat} (h : rs <:+ T) : (pk c rs).2 <:+ T := sorry
theorem rdT_lt {T : List Nat} (h : isT T) {a : Nat} : T.length - a < 2 ^ 31 := sorry
theorem nI_lit (a : Nat) : nI a = Int32.ofNat a := sorry
set_option maxRecDepth 100000 in
set_option maxHeartbeats 4000000 in
theorem c_Rd_take (l : Launch) (D : va_G) (tys : List (ClassId × FieldType)) (tc : Nat → ClassId) (hty : ∀ i : Nat, i < 4 → tys[i]? = some (tc i, vx_ty i)) (ci : Nat) (hci : ci < 5) (h ra sa : Nat) (ex : List Value) (T rs : List Nat) (sd : Nat → Int32) (ss c : Nat) (hT : isT T) (hs : rs <:+ T) (hc : c < 256) :
    Kt l y_Rd_take (yw y_Rd_take b_Rd_take 2 (some .boolean)) 0 0 0 0 D cls tys (rdF ra T) [.ref h, .int (nI c)] (rdW tc ci h ra sa ex T rs sd ss) (fun r w => r = some (.int (bI (pk c rs).1)) ∧ w = rdW tc ci h ra sa ex T (pk c rs).2 sd ss) := sorry
/-! THE READER'S SMALL METHODS, by program (wip/whole/gen/p10.py) -/
def lwr (c : Nat) : Nat := if 65 ≤ c ∧ c ≤ 90 then c + 32 else c
def isLt (c : Nat) : Bool := decide (65 ≤ c ∧ c ≤ 90 ∨ 97 ≤ c ∧ c ≤ 122)
def isQt (c : Nat) : Bool := decide (c = 9 ∨ 32 ≤ c ∧ c ≠ 127)
theorem lt_or32 : ∀ c, c < 256 → (nI c ||| (32 : Int32) = nI (c ||| 32)) ∧ ((97 ≤ c ||| 32 ∧ c ||| 32 ≤ 122) ↔ (65 ≤ c ∧ c ≤ 90 ∨ 97 ≤ c ∧ c ≤ 122)) ∧ c ||| 32 < 256 := sorry
set_option maxRecDepth 100000 in
set_option maxHeartbeats 4000000 in
theorem c_Rd_lower (l : Launch) (D : va_G) (tys : List (ClassId × FieldType)) (tc : Nat → ClassId) (hty : ∀ i : Nat, i < 4 → tys[i]? = some (tc i, vx_ty i)) (c : Nat) (hc : c < 256) : Kt l y_Rd_lower (yw y_Rd_lower b_Rd_lower 1 (some .int)) 0 0 0 0 D cls tys (fun _ _ _ => True) [.int (nI c)] [] (fun r w => r = some (.int (nI (lwr c))) ∧ w = []) := sorry
set_option maxRecDepth 100000 in
set_option maxHeartbeats 4000000 in
theorem c_Rd_isQuotable (l : Launch) (D : va_G) (tys : List (ClassId × FieldType)) (tc : Nat → ClassId) (hty : ∀ i : Nat, i < 4 → tys[i]? = some (tc i, vx_ty i)) (c : Nat) (hc : c < 256) : Kt l y_Rd_isQuotable (yw y_Rd_isQuotable b_Rd_isQuotable 1 (some .boolean)) 0 0 0 0 D cls tys (fun _ _ _ => True) [.int (nI c)] [] (fun r w => r = some (.int (bI (isQt c))) ∧ w = []) := sorry
set_option maxRecDepth 100000 in
set_option maxHeartbeats 4000000 in
theorem c_Rd_isLetter (l : Launch) (D : va_G) (tys : List (ClassId × FieldType)) (tc : Nat → ClassId) (hty : ∀ i : Nat, i < 4 → tys[i]? = some (tc i, vx_ty i)) (c : Nat) (hc : c < 256) : Kt l y_Rd_isLetter (yw y_Rd_isLetter b_Rd_isLetter 2 (some .boolean)) 0 0 0 0 D cls tys (fun _ _ _ => True) [.int (nI c)] [] (fun r w => r = some (.int (bI (isLt c))) ∧ w = []) := sorry
set_option maxRecDepth 100000 in
set_option maxHeartbeats 4000000 in
theorem c_Rd_isEnded (l : Launch) (D : va_G) (tys : List (ClassId × FieldType)) (tc : Nat → ClassId) (hty : ∀ i : Nat, i < 4 → tys[i]? = some (tc i, vx_ty i)) (ci : Nat) (hci : ci < 5) (h ra sa : Nat) (ex : List Value) (T rs : List Nat) (sd : Nat → Int32) (ss : Nat) (hT : isT T) (hs : rs <:+ T) : Kt l y_Rd_isEnded (yw y_Rd_isEnded b_Rd_isEnded 1 (some .boolean)) 0 0 0 0 D cls tys (rdF ra T) [.ref h] (rdW tc ci h ra sa ex T rs sd ss) (fun r w => r = some (.int (bI rs.isEmpty)) ∧ w = (rdW tc ci h ra sa ex T rs sd ss)) := sorry
set_option maxRecDepth 100000 in
set_option maxHeartbeats 4000000 in
theorem c_Rd_isNext (l : Launch) (D : va_G) (tys : List (ClassId × FieldType)) (tc : Nat → ClassId) (hty : ∀ i : Nat, i < 4 → tys[i]? = some (tc i, vx_ty i)) (ci : Nat) (hci : ci < 5) (h ra sa : Nat) (ex : List Value) (T rs : List Nat) (sd : Nat → Int32) (ss : Nat) (hT : isT T) (hs : rs <:+ T) (c : Nat) (hc : c < 256) : Kt l y_Rd_isNext (yw y_Rd_isNext b_Rd_isNext 2 (some .boolean)) 0 0 0 0 D cls tys (rdF ra T) [.ref h, .int (nI c)] (rdW tc ci h ra sa ex T rs sd ss) (fun r w => r = some (.int (bI (pk c rs).1)) ∧ w = (rdW tc ci h ra sa ex T rs sd ss)) := sorry
set_option maxRecDepth 100000 in
set_option maxHeartbeats 4000000 in
theorem c_Rd_saidSize (l : Launch) (D : va_G) (tys : List (ClassId × FieldType)) (tc : Nat → ClassId) (hty : ∀ i : Nat, i < 4 → tys[i]? = some (tc i, vx_ty i)) (ci : Nat) (hci : ci < 5) (h ra sa : Nat) (ex : List Value) (T rs : List Nat) (sd : Nat → Int32) (ss : Nat) (hT : isT T) (hs : rs <:+ T) : Kt l y_Rd_saidSize (yw y_Rd_saidSize b_Rd_saidSize 1 (some .int)) 0 0 0 0 D cls tys (rdF ra T) [.ref h] (rdW tc ci h ra sa ex T rs sd ss) (fun r w => r = some (.int (nI ss)) ∧ w = (rdW tc ci h ra sa ex T rs sd ss)) := sorry
/-- gaps -/
def isGp (x : Nat) : Bool := decide (x = 32 ∨ x = 9)
def gp (rs : List Nat) : List Nat := rs.dropWhile isGp
/-- gaps and commas -/
def isGc (x : Nat) : Bool := decide (x = 32 ∨ x = 9 ∨ x = 44)
def gc (rs : List Nat) : List Nat := rs.dropWhile isGc
theorem dw_sfx {q : Nat → Bool} {rs T : List Nat} (h : rs <:+ T) : rs.dropWhile q <:+ T := sorry
theorem dw_t {q : Nat → Bool} {x : Nat} {r : List Nat} (h : q x = true) : (x :: r).dropWhile q = r.dropWhile q := sorry
theorem dw_f {q : Nat → Bool} {x : Nat} {r : List Nat} (h : q x = false) : (x :: r).dropWhile q = x :: r := sorry
theorem rd_step {tc : Nat → ClassId} {ci h ra sa : Nat} {ex : List Value} {T r : List Nat} {x : Nat} {sd : Nat → Int32} {ss : Nat} (g4 : T.length - (x :: r).length + 1 = T.length - r.length) : [((h, .inr (ci, .ref ra :: .int (nI T.length) :: .int (nI (T.length - (x :: r).length) + 1) :: .ref sa :: .int (nI ss) :: ex)) : Nat × va_E), (sa, .inl (tc 0, 96, .inl sd))] = rdW tc ci h ra sa ex T r sd ss := sorry
set_option maxRecDepth 100000 in
set_option maxHeartbeats 4000000 in
theorem c_Rd_skipGap (l : Launch) (D : va_G) (tys : List (ClassId × FieldType)) (tc : Nat → ClassId) (hty : ∀ i : Nat, i < 4 → tys[i]? = some (tc i, vx_ty i)) (ci : Nat) (hci : ci < 5) (h ra sa : Nat) (ex : List Value) (T rs : List Nat) (sd : Nat → Int32) (ss : Nat) (hT : isT T) (hs : rs <:+ T) : Kt l y_Rd_skipGap (yw y_Rd_skipGap b_Rd_skipGap 1 none) 0 0 0 0 D cls tys (rdF ra T) [.ref h] (rdW tc ci h ra sa ex T rs sd ss) (fun r w => r = none ∧ w = rdW tc ci h ra sa ex T (gp rs) sd ss) := sorry
set_option maxRecDepth 100000 in
set_option maxHeartbeats 4000000 in
theorem c_Rd_findElement (l : Launch) (D : va_G) (tys : List (ClassId × FieldType)) (tc : Nat → ClassId) (hty : ∀ i : Nat, i < 4 → tys[i]? = some (tc i, vx_ty i)) (ci : Nat) (hci : ci < 5) (h ra sa : Nat) (ex : List Value) (T rs : List Nat) (sd : Nat → Int32) (ss : Nat) (hT : isT T) (hs : rs <:+ T) : Kt l y_Rd_findElement (yw y_Rd_findElement b_Rd_findElement 1 (some .boolean)) 0 0 0 0 D cls tys (rdF ra T) [.ref h] (rdW tc ci h ra sa ex T rs sd ss) (fun r w => r = some (.int (bI !(gc rs).isEmpty)) ∧ w = rdW tc ci h ra sa ex T (gc rs) sd ss) := sorry
/-! THE READER'S METHODS THAT CALL, by program (wip/whole/gen/p11.py) -/
def cn (ci : Nat) : String := match ci with
  | 0 => "OriginDesk$Accept"
  | 1 => "OriginDesk$Languages"
  | 2 => "OriginDesk$Tags"
  | 3 => "OriginDesk$Dates"
  | _ => "OriginDesk$Ranges"
theorem sel_take (ci : Nat) (h : ci < 5) : Cond.selects (cn ci) y_Rd_take y_Rd_take ∈ gw := sorry
theorem sel_skipGap (ci : Nat) (h : ci < 5) : Cond.selects (cn ci) y_Rd_skipGap y_Rd_skipGap ∈ gw := sorry
theorem cls_cn (ci : Nat) (h : ci < 5) : ∃ rc : vw_C, cls[ci]? = some rc ∧ rc.1 = cn ci := sorry
section
variable {p : Program} {l : Launch} {e : Env} {R : Room} {s : State} {m : MethodId} {args : Array Value} {below : List Frame} {meth : Method} {c : Code} {cc : ByteArray} {nL : Nat} {D : va_G} {tys : List (ClassId × FieldType)} {A : Nat → Prop} {tc : Nat → ClassId} {Q : State → Prop} {st rest : List Value} {k n : Nat} {post : Option Value → va_W → Prop} {F : (Nat → Prop) → State → Heap → Prop} {ret : Option FieldType} {K : List Value → va_W → Nat → Nat → Prop} {y y0 : MethodName} {bytes b0 : ByteArray} {maxL n0 index nA fr lo : Nat} {r0 : Option FieldType} {b : Nat} {As : List Value}
/-- a reader's method called on the reader itself, by a row of Reader -/
theorem rd_call {ci h ra sa : Nat} {ex : List Value} {T rs : List Nat} {sd : Nat → Int32} {ss : Nat} (hC : Cx p s m args c cc nL "OriginDesk$Reader" (yw y0 b0 n0 r0) D cls tys A tc) (hF : F A s s.heap) (hk : Kt l y (yw y bytes maxL ret) fr lo 0 0 D cls tys F (.ref h :: As) (rdW tc ci h ra sa ex T rs sd ss) post) (hwm : wm y bytes maxL ret nA) (hl : Cond.methodLink "OriginDesk$Reader" index y ∈ gw) (hi : Cond.instanceMethod y ∈ gw) (hsel : (Cond.selects (cn ci) y y).before args s = true) (hci : ci < 5) (hR : fr + 1 ≤ R.frames ∧ 8 + (maxL + 11) + lo ≤ R.locals) (hlen : As.length = nA) (hst : st = As.reverse ++ .ref h :: rest) (hW : (rest.map fun v => v.category).sum ≤ 8) (hkn : k ≤ R.cells ∧ n ≤ R.slots)
    (kk : ∀ (r : Option Value) (w1 : va_W), post r w1 → K (r.toList ++ rest) w1 k n) : vx_SX cc (Vx p l e R s m args below meth c nL D cls A Q) (.invokevirtual index) 3 st (rdW tc ci h ra sa ex T rs sd ss) k n K := sorry
/-- a static method of Reader called by a row of Reader -/
theorem rd_calls {ws : va_W} (hC : Cx p s m args c cc nL "OriginDesk$Reader" (yw y0 b0 n0 r0) D cls tys A tc) (hk : Kt l y (yw y bytes maxL ret) fr lo 0 0 D cls tys (fun _ _ _ => True) As [] (fun r w => post r w ∧ w = [])) (hwm : wm y bytes maxL ret nA) (hl : Cond.methodLink "OriginDesk$Reader" index y ∈ gw) (hi : Cond.static y ∈ gw) (hR : fr + 1 ≤ R.frames ∧ 8 + (maxL + 11) + lo ≤ R.locals) (hlen : As.length = nA) (hst : st = As.reverse ++ rest) (hW : (rest.map fun v => v.category).sum ≤ 8) (hkn : k ≤ R.cells ∧ n ≤ R.slots)
    (kk : ∀ (r : Option Value), post r [] → K (r.toList ++ rest) ws k n) : vx_SX cc (Vx p l e R s m args below meth c nL D cls A Q) (.invokestatic index) 3 st ws k n K := sorry
end
theorem sel_noif {C : String} {x y : MethodName} {s : State} {args : Array Value} (h : (Cond.selects C x y).before args s = true) : ∃ m, s.methodNamed? y = some m ∧ (s.vm.classes[m.cls]?).any (fun k => !k.isInterface) = true := sorry
theorem sel_private {C C1 : String} {y x1 y1 : MethodName} {s : State} {args : Array Value} {n : Nat} (hy : y.cls ≠ "java/lang/invoke/MethodHandle" ∧ y.cls ≠ "java/lang/invoke/VarHandle")
    (hins : (Cond.instantiable C n).before args s = true) (hpriv : (Cond.privateMethod y).before args s = true) (hinst : (Cond.instanceMethod y).before args s = true) (h1 : (Cond.selects C1 x1 y1).before args s = true) (hyy : y1.cls = y.cls) :
    (Cond.selects C y y).before args s = true := sorry
theorem sel_say (ci : Nat) (h : ci < 5) : Cond.selects (cn ci) y_Rd_say y_Rd_say ∈ gw := sorry
theorem bI_ne {b : Bool} (h : ¬ bI b = 0) : b = true := sorry
theorem bI_eq {b : Bool} (h : bI b = 0) : b = false := sorry
/-- what ends an element -/
def ee (q : List Nat) : Bool := match q with
  | [] => true
  | x :: _ => decide (x = 44)
/-- a semicolon behind a gap, and a gap; q is what stands behind the first gap -/
def sc (q : List Nat) : Bool × List Nat := match pk 59 q with
  | (true, r) => (true, gp r)
  | (false, r) => (false, r)
set_option maxRecDepth 100000 in
set_option maxHeartbeats 4000000 in
theorem c_Rd_endsElement (l : Launch) (D : va_G) (tys : List (ClassId × FieldType)) (tc : Nat → ClassId) (hty : ∀ i : Nat, i < 4 → tys[i]? = some (tc i, vx_ty i)) (ci : Nat) (hci : ci < 5) (h ra sa : Nat) (ex : List Value) (T rs : List Nat) (sd : Nat → Int32) (ss : Nat) (hT : isT T) (hs : rs <:+ T) : Kt l y_Rd_endsElement (yw y_Rd_endsElement b_Rd_endsElement 1 (some .boolean)) 1 20 0 0 D cls tys (rdF ra T) [.ref h] (rdW tc ci h ra sa ex T rs sd ss) (fun r w => r = some (.int (bI (ee (gp rs)))) ∧ w = rdW tc ci h ra sa ex T (gp rs) sd ss) := sorry
set_option maxRecDepth 100000 in
set_option maxHeartbeats 4000000 in
theorem c_Rd_takeSemicolon (l : Launch) (D : va_G) (tys : List (ClassId × FieldType)) (tc : Nat → ClassId) (hty : ∀ i : Nat, i < 4 → tys[i]? = some (tc i, vx_ty i)) (ci : Nat) (hci : ci < 5) (h ra sa : Nat) (ex : List Value) (T rs : List Nat) (sd : Nat → Int32) (ss : Nat) (hT : isT T) (hs : rs <:+ T) : Kt l y_Rd_takeSemicolon (yw y_Rd_takeSemicolon b_Rd_takeSemicolon 1 (some .boolean)) 1 21 0 0 D cls tys (rdF ra T) [.ref h] (rdW tc ci h ra sa ex T rs sd ss) (fun r w => r = some (.int (bI (sc (gp rs)).1)) ∧ w = rdW tc ci h ra sa ex T (sc (gp rs)).2 sd ss) := sorry
/-! THE READER: what is said, by program (wip/whole/gen/p12.py) -/
def sdIs (sd : Nat → Int32) (S : List Nat) : Prop := ∀ i, i < S.length → sd i = nI (S.getD i 0)
theorem sd_nil (sd : Nat → Int32) : sdIs sd [] := sorry
theorem sd_add {sd : Nat → Int32} {S : List Nat} {x : Nat} (h : sdIs sd S) : sdIs (upd sd S.length (nI x)) (S ++ [x]) := sorry
set_option maxRecDepth 100000 in
set_option maxHeartbeats 4000000 in
theorem c_Rd_say (l : Launch) (D : va_G) (tys : List (ClassId × FieldType)) (tc : Nat → ClassId) (hty : ∀ i : Nat, i < 4 → tys[i]? = some (tc i, vx_ty i)) (ci : Nat) (hci : ci < 5) (h ra sa : Nat) (ex : List Value) (T rs : List Nat) (sd : Nat → Int32) (ss : Nat) (hT : isT T) (hs : rs <:+ T) (S : List Nat) (hsd : sdIs sd S) (hss : ss = S.length) (hS : S.length < 96) (x : Nat) (hx : x < 256) : Kt l y_Rd_say (yw y_Rd_say b_Rd_say 2 none) 0 0 0 0 D cls tys (rdF ra T) [.ref h, .int (nI x)] (rdW tc ci h ra sa ex T rs sd ss) (fun r w => r = none ∧ ∃ sd2, sdIs sd2 (S ++ [x]) ∧ w = rdW tc ci h ra sa ex T rs sd2 (S.length + 1)) := sorry
/-- a star among the said -/
def ss_star (S : List Nat) : Bool := S.any (fun x => decide (x = 42))
theorem star_t {S : List Nat} {i : Nat} (h : i < S.length) (e : S.getD i 0 = 42) : ss_star S = true := sorry
theorem star_f {S : List Nat} (h : ∀ i, i < S.length → ¬ S.getD i 0 = 42) : ss_star S = false := sorry
/-- what stands between a tag's marks -/
def isOp (x : Nat) : Bool := decide (32 < x ∧ x ≠ 34 ∧ x ≠ 127)
def opq (rs : List Nat) : Bool × List Nat × List Nat := match pk 34 rs with
  | (false, r) => (false, r, [])
  | (true, r) => ((pk 34 (r.dropWhile isOp)).1, (pk 34 (r.dropWhile isOp)).2, r.takeWhile isOp)
theorem tw_t {q : Nat → Bool} {x : Nat} {r : List Nat} (h : q x = true) : (x :: r).takeWhile q = x :: r.takeWhile q := sorry
theorem tw_f {q : Nat → Bool} {x : Nat} {r : List Nat} (h : q x = false) : (x :: r).takeWhile q = [] := sorry
theorem rd_stepS {tc : Nat → ClassId} {ci h ra sa : Nat} {ex : List Value} {T r S : List Nat} {x y : Nat} {sd : Nat → Int32} (g4 : T.length - (x :: r).length + 1 = T.length - r.length) : [((h, .inr (ci, .ref ra :: .int (nI T.length) :: .int (nI (T.length - (x :: r).length) + 1) :: .ref sa :: .int (nI (S.length + 1)) :: ex)) : Nat × va_E), (sa, .inl (tc 0, 96, .inl sd))] = rdW tc ci h ra sa ex T r sd (S ++ [y]).length := sorry
set_option maxRecDepth 100000 in
set_option maxHeartbeats 4000000 in
theorem c_Rd_takeOpaque (l : Launch) (D : va_G) (tys : List (ClassId × FieldType)) (tc : Nat → ClassId) (hty : ∀ i : Nat, i < 4 → tys[i]? = some (tc i, vx_ty i)) (ci : Nat) (hci : ci < 5) (h ra sa : Nat) (ex : List Value) (T rs : List Nat) (sd : Nat → Int32) (ss : Nat) (hT : isT T) (hs : rs <:+ T) : Kt l y_Rd_takeOpaque (yw y_Rd_takeOpaque b_Rd_takeOpaque 1 (some .boolean)) 1 21 0 0 D cls tys (rdF ra T) [.ref h] (rdW tc ci h ra sa ex T rs sd ss) (fun r w => r = some (.int (bI (opq rs).1)) ∧ ∃ sd2, sdIs sd2 (opq rs).2.2 ∧ w = rdW tc ci h ra sa ex T (opq rs).2.1 sd2 (opq rs).2.2.length) := sorry
/-! THE READER: numbers, by program (wip/whole/gen/p13.py) -/
/-- a number that may be wanting -/
def iI (v : Option Nat) : Int32 := match v with
  | none => -1
  | some a => nI a
/-- k digits behind a -/
def dgs : Nat → Nat → List Nat → Option Nat × List Nat
  | 0, a, rs => (some a, rs)
  | _ + 1, _, [] => (none, [])
  | k + 1, a, x :: r => if isDg x then dgs k (10 * a + x - 48) r else (none, x :: r)
theorem dg_in {x : Nat} (h : isDg x = true) : 48 ≤ x ∧ x ≤ 57 := sorry
theorem dg_no {x : Nat} (h : ¬ (48 ≤ x ∧ x ≤ 57)) : isDg x = false := sorry
theorem dg_yes {x : Nat} (h : 48 ≤ x ∧ x ≤ 57) : isDg x = true := sorry
theorem ten_add {a x : Nat} (h : 48 ≤ x) : (10 : Int32) * nI a + nI x - 48 = nI (10 * a + x - 48) := sorry
set_option maxRecDepth 100000 in
set_option maxHeartbeats 4000000 in
theorem c_Rd_takeDigits (l : Launch) (D : va_G) (tys : List (ClassId × FieldType)) (tc : Nat → ClassId) (hty : ∀ i : Nat, i < 4 → tys[i]? = some (tc i, vx_ty i)) (ci : Nat) (hci : ci < 5) (h ra sa : Nat) (ex : List Value) (T rs : List Nat) (sd : Nat → Int32) (ss : Nat) (hT : isT T) (hs : rs <:+ T) (mn : Nat) (hmn : mn < 100) : Kt l y_Rd_takeDigits (yw y_Rd_takeDigits b_Rd_takeDigits 4 (some .int)) 0 0 0 0 D cls tys (rdF ra T) [.ref h, .int (nI mn)] (rdW tc ci h ra sa ex T rs sd ss) (fun r w => r = some (.int (iI (dgs mn 0 rs).1)) ∧ w = rdW tc ci h ra sa ex T (dgs mn 0 rs).2 sd ss) := sorry
/-- of a row of digits: the number; more than nine: 999999999 -/
def f9 (ds : List Nat) : Nat := (ds.take 9).foldl (fun a x => 10 * a + x - 48) 0
def nmv (ds : List Nat) : Option Nat := if ds = [] then none else if 9 < ds.length then some 999999999 else some (f9 ds)
theorem f9_lo {ds : List Nat} {x : Nat} (h : ds.length < 9) : f9 (ds ++ [x]) = 10 * f9 ds + x - 48 := sorry
theorem f9_hi {ds : List Nat} {x : Nat} (h : 9 ≤ ds.length) : f9 (ds ++ [x]) = f9 ds := sorry
set_option maxRecDepth 100000 in
set_option maxHeartbeats 4000000 in
theorem c_Rd_takeNumber (l : Launch) (D : va_G) (tys : List (ClassId × FieldType)) (tc : Nat → ClassId) (hty : ∀ i : Nat, i < 4 → tys[i]? = some (tc i, vx_ty i)) (ci : Nat) (hci : ci < 5) (h ra sa : Nat) (ex : List Value) (T rs : List Nat) (sd : Nat → Int32) (ss : Nat) (hT : isT T) (hs : rs <:+ T) : Kt l y_Rd_takeNumber (yw y_Rd_takeNumber b_Rd_takeNumber 3 (some .int)) 1 20 0 0 D cls tys (rdF ra T) [.ref h] (rdW tc ci h ra sa ex T rs sd ss) (fun r w => r = some (.int (iI (nmv (rs.takeWhile isDg)))) ∧ w = rdW tc ci h ra sa ex T (rs.dropWhile isDg) sd ss) := sorry
/-! THE READER: weights, languages, quoted texts, by program (wip/whole/gen/p14.py) -/
theorem bI_t : ¬ bI true = 0 := sorry
def wls : Nat → Nat → List Nat → Nat × List Nat
  | _, th, [] => (th, [])
  | s, th, x :: r => if 0 < s ∧ isDg x = true then wls (s / 10) (th + s * (x - 48)) r else (th, x :: r)
/-- what may follow the first digit of a weight -/
def wt2 (th : Nat) (rs : List Nat) : Option Nat × List Nat := match pk 46 rs with
  | (false, r) => (some th, r)
  | (true, r) => (if 1000 < (wls 100 th r).1 then none else some (wls 100 th r).1, (wls 100 th r).2)
/-- a weight from its = on -/
def wt (rs : List Nat) : Option Nat × List Nat := match pk 61 rs with
  | (false, r) => (none, r)
  | (true, r) => match pk 49 r with
    | (true, r) => wt2 1000 r
    | (false, r) => match pk 48 r with
      | (false, r) => (none, r)
      | (true, r) => wt2 0 r
theorem wls_no {s th x : Nat} {r : List Nat} (h : ¬ (0 < s ∧ isDg x = true)) : wls s th (x :: r) = (th, x :: r) := sorry
theorem wls_0 {th : Nat} (rs : List Nat) : wls 0 th rs = (th, rs) := sorry
theorem wls_go {s th x : Nat} {r : List Nat} (h : 0 < s) (h2 : isDg x = true) : wls s th (x :: r) = wls (s / 10) (th + s * (x - 48)) r := sorry
theorem wt_add {s th x : Nat} (h : 48 ≤ x) : nI th + nI s * (nI x - (48 : Int32)) = nI (th + s * (x - 48)) := sorry
theorem div10 {s : Nat} (h : s < 2 ^ 31) : nI s / (10 : Int32) = nI (s / 10) := sorry
set_option maxRecDepth 100000 in
set_option maxHeartbeats 4000000 in
theorem c_Rd_takeWeight (l : Launch) (D : va_G) (tys : List (ClassId × FieldType)) (tc : Nat → ClassId) (hty : ∀ i : Nat, i < 4 → tys[i]? = some (tc i, vx_ty i)) (ci : Nat) (hci : ci < 5) (h ra sa : Nat) (ex : List Value) (T rs : List Nat) (sd : Nat → Int32) (ss : Nat) (hT : isT T) (hs : rs <:+ T) : Kt l y_Rd_takeWeight (yw y_Rd_takeWeight b_Rd_takeWeight 4 (some .int)) 1 21 0 0 D cls tys (rdF ra T) [.ref h] (rdW tc ci h ra sa ex T rs sd ss) (fun r w => r = some (.int (iI (wt rs).1)) ∧ w = rdW tc ci h ra sa ex T (wt rs).2 sd ss) := sorry
set_option maxRecDepth 100000 in
set_option maxHeartbeats 4000000 in
theorem c_Rd_saysStar (l : Launch) (D : va_G) (tys : List (ClassId × FieldType)) (tc : Nat → ClassId) (hty : ∀ i : Nat, i < 4 → tys[i]? = some (tc i, vx_ty i)) (ci : Nat) (hci : ci < 5) (h ra sa : Nat) (ex : List Value) (T rs : List Nat) (sd : Nat → Int32) (ss : Nat) (hT : isT T) (hs : rs <:+ T) (S : List Nat) (hsd : sdIs sd S) (hss : ss = S.length) (hS : S.length ≤ 96) (hS2 : ∀ i, i < S.length → S.getD i 0 < 2 ^ 31) : Kt l y_Rd_saysStar (yw y_Rd_saysStar b_Rd_saysStar 2 (some .boolean)) 0 0 0 0 D cls tys (rdF ra T) [.ref h] (rdW tc ci h ra sa ex T rs sd ss) (fun r w => r = some (.int (bI (ss_star S))) ∧ w = (rdW tc ci h ra sa ex T rs sd ss)) := sorry
/-! THE READER: languages, quoted texts, by program (wip/whole/gen/p15.py) -/
theorem wq_ws {nL : Nat} {ini : Bool} {tc : Nat → ClassId} {ft : List (Nat × Nat × Nat × Nat)} {ty : Nat → Nat → FieldType} {RT : Nat → Nat → Nat → (Nat → Value) → Prop} {RF : Nat → Nat → Value → Prop} {RZ : Nat → Value → Prop} {RS : Nat → Value → Prop} {SX : Jvm.ClassFile.Instr → Nat → List Value → va_W → Nat → Nat → (List Value → va_W → Nat → Nat → Prop) → Prop} {EN : Option Value → va_W → Nat → Nat → Prop} {V : Nat → wq_L → List Value → va_W → Nat → Nat → Prop} {j : wq_J} {pc : Nat} {lv : wq_L} {st : List Value} {ws ws2 : va_W} {k n : Nat} (e : ws = ws2) (h : wq nL ini tc ft ty RT RF RZ RS SX EN V j pc lv st ws2 k n) : wq nL ini tc ft ty RT RF RZ RS SX EN V j pc lv st ws k n := sorry
/-- a quoted text behind its first mark -/
def qtx : List Nat → List Nat → Bool × List Nat × List Nat
  | [], S => (false, [], S)
  | x :: r, S => if x = 34 then (true, r, S) else if x = 92 then (match r with
      | [] => (false, [], S)
      | y :: r2 => if isQt y then qtx r2 (S ++ [y]) else (false, y :: r2, S)) else if isQt x then qtx r (S ++ [x]) else (false, x :: r, S)
def qtd (rs : List Nat) : Bool × List Nat × List Nat := match pk 34 rs with
  | (false, r) => (false, r, [])
  | (true, r) => qtx r []
theorem qtx_m {r S : List Nat} : qtx (34 :: r) S = (true, r, S) := sorry
theorem qtx_e {S : List Nat} : qtx [92] S = (false, [], S) := sorry
theorem qtx_eq {y : Nat} {r S : List Nat} (h : isQt y = true) : qtx (92 :: y :: r) S = qtx r (S ++ [y]) := sorry
theorem qtx_en {y : Nat} {r S : List Nat} (h : isQt y = false) : qtx (92 :: y :: r) S = (false, y :: r, S) := sorry
theorem qtx_q {x : Nat} {r S : List Nat} (h1 : ¬ x = 34) (h2 : ¬ x = 92) (h : isQt x = true) : qtx (x :: r) S = qtx r (S ++ [x]) := sorry
theorem qtx_n {x : Nat} {r S : List Nat} (h1 : ¬ x = 34) (h2 : ¬ x = 92) (h : isQt x = false) : qtx (x :: r) S = (false, x :: r, S) := sorry
/-- a language range: sub characters of a subtag are read, digits may come behind the first border -/
def lng : Nat → Bool → List Nat → List Nat → Bool × List Nat × List Nat
  | sub, _, [], S => (decide (0 < sub), [], S)
  | sub, dt, x :: r, S => if x = 45 then (if sub = 0 then (false, x :: r, S) else lng 0 true r (S ++ [x])) else if isLt x || (dt && isDg x) then (if sub = 8 then (false, x :: r, S) else lng (sub + 1) dt r (S ++ [x])) else (decide (0 < sub), x :: r, S)
def lgt (rs : List Nat) : Bool × List Nat × List Nat := match pk 42 rs with
  | (true, r) => (true, r, [42])
  | (false, r) => lng 0 false r []
set_option maxRecDepth 100000 in
set_option maxHeartbeats 4000000 in
theorem c_Rd_takeQuotedText (l : Launch) (D : va_G) (tys : List (ClassId × FieldType)) (tc : Nat → ClassId) (hty : ∀ i : Nat, i < 4 → tys[i]? = some (tc i, vx_ty i)) (ci : Nat) (hci : ci < 5) (h ra sa : Nat) (ex : List Value) (T rs : List Nat) (sd : Nat → Int32) (ss : Nat) (hT : isT T) (hs : rs <:+ T) : Kt l y_Rd_takeQuotedText (yw y_Rd_takeQuotedText b_Rd_takeQuotedText 1 (some .boolean)) 1 21 0 0 D cls tys (rdF ra T) [.ref h] (rdW tc ci h ra sa ex T rs sd ss) (fun r w => r = some (.int (bI (qtd rs).1)) ∧ ∃ sd2, sdIs sd2 (qtd rs).2.2 ∧ w = rdW tc ci h ra sa ex T (qtd rs).2.1 sd2 (qtd rs).2.2.length) := sorry
theorem lng_b0 {dt : Bool} {r S : List Nat} : lng 0 dt (45 :: r) S = (false, 45 :: r, S) := sorry
theorem lng_b {sub : Nat} {dt : Bool} {r S : List Nat} (h : ¬ sub = 0) : lng sub dt (45 :: r) S = lng 0 true r (S ++ [45]) := sorry
theorem lng_l8 {dt : Bool} {x : Nat} {r S : List Nat} (h1 : ¬ x = 45) (h2 : (isLt x || (dt && isDg x)) = true) : lng 8 dt (x :: r) S = (false, x :: r, S) := sorry
theorem lng_l {sub : Nat} {dt : Bool} {x : Nat} {r S : List Nat} (h1 : ¬ x = 45) (h2 : (isLt x || (dt && isDg x)) = true) (h3 : ¬ sub = 8) : lng sub dt (x :: r) S = lng (sub + 1) dt r (S ++ [x]) := sorry
theorem lng_e {sub : Nat} {dt : Bool} {x : Nat} {r S : List Nat} (h1 : ¬ x = 45) (h2 : (isLt x || (dt && isDg x)) = false) : lng sub dt (x :: r) S = (decide (0 < sub), x :: r, S) := sorry
set_option maxRecDepth 100000 in
set_option maxHeartbeats 4000000 in
theorem c_Rd_takeLanguage (l : Launch) (D : va_G) (tys : List (ClassId × FieldType)) (tc : Nat → ClassId) (hty : ∀ i : Nat, i < 4 → tys[i]? = some (tc i, vx_ty i)) (ci : Nat) (hci : ci < 5) (h ra sa : Nat) (ex : List Value) (T rs : List Nat) (sd : Nat → Int32) (ss : Nat) (hT : isT T) (hs : rs <:+ T) : Kt l y_Rd_takeLanguage (yw y_Rd_takeLanguage b_Rd_takeLanguage 4 (some .boolean)) 1 21 0 0 D cls tys (rdF ra T) [.ref h] (rdW tc ci h ra sa ex T rs sd ss) (fun r w => r = some (.int (bI (lgt rs).1)) ∧ ∃ sd2, sdIs sd2 (lgt rs).2.2 ∧ w = rdW tc ci h ra sa ex T (lgt rs).2.1 sd2 (lgt rs).2.2.length) := sorry
/-! THE JDK's METHODS, by program out of the Statement's bytes (wip/whole/gen/mkjdk.py) -/
abbrev b_St_checkIndex155 : ByteArray := prog_21_method_155_code
def y_St_checkIndex155 : MethodName := ⟨"java/lang/String", "checkIndex", "(II)V"⟩
def j_St_checkIndex155 : wq_J := [(.iload_n 0, (0, 0, 0, 0, 0)), (.iload_n 1, (0, 0, 0, 0, 0)), (.getstatic 1053, (2, 0, 0, 0, 0)), (.invokestatic 1059, (0, 0, 0, 0, 0)), (.pop, (0, 0, 0, 0, 0)), (.return_, (0, 0, 0, 0, 0))]
theorem jc_St_checkIndex155 : wq_c b_St_checkIndex155 2 j_St_checkIndex155 0 = true := sorry
theorem wm_St_checkIndex155 : wm y_St_checkIndex155 b_St_checkIndex155 2 none 2 := sorry
theorem wt_St_checkIndex155 : Cond.static y_St_checkIndex155 ∈ gw := sorry
abbrev b_Pr_checkIndex11 : ByteArray := prog_28_method_11_code
def y_Pr_checkIndex11 : MethodName := ⟨"jdk/internal/util/Preconditions", "checkIndex", "(IILjava/util/function/BiFunction;)I"⟩
def j_Pr_checkIndex11 : wq_J := [(.iload_n 0, (0, 0, 0, 0, 0)), (.ifCond .lt 8, (0, 9, 0, 0, 0)), (.iload_n 0, (0, 0, 0, 0, 0)), (.iload_n 1, (0, 0, 0, 0, 0)), (.if_icmp .lt 10, (0, 16, 0, 0, 0)), (.aload_n 2, (0, 0, 0, 0, 0)), (.iload_n 0, (0, 0, 0, 0, 0)), (.iload_n 1, (0, 0, 0, 0, 0)), (.invokestatic 95, (0, 0, 0, 0, 0)), (.athrow, (0, 0, 0, 0, 0)), (.iload_n 0, (0, 0, 0, 0, 0)), (.ireturn, (0, 0, 0, 0, 0))]
theorem jc_Pr_checkIndex11 : wq_c b_Pr_checkIndex11 3 j_Pr_checkIndex11 0 = true := sorry
theorem wm_Pr_checkIndex11 : wm y_Pr_checkIndex11 b_Pr_checkIndex11 3 (some .int) 3 := sorry
theorem wt_Pr_checkIndex11 : Cond.static y_Pr_checkIndex11 ∈ gw := sorry
abbrev b_St_indexOf79 : ByteArray := prog_21_method_79_code
def y_St_indexOf79 : MethodName := ⟨"java/lang/String", "indexOf", "(I)I"⟩
def j_St_indexOf79 : wq_J := [(.aload_n 0, (0, 0, 0, 0, 0)), (.iload_n 1, (0, 0, 0, 0, 0)), (.iconst 0, (0, 0, 0, 0, 0)), (.invokevirtual 633, (0, 0, 0, 0, 0)), (.ireturn, (0, 0, 0, 0, 0))]
theorem jc_St_indexOf79 : wq_c b_St_indexOf79 2 j_St_indexOf79 0 = true := sorry
theorem wm_St_indexOf79 : wm y_St_indexOf79 b_St_indexOf79 2 (some .int) 1 := sorry
theorem wi_St_indexOf79 : Cond.instanceMethod y_St_indexOf79 ∈ gw := sorry
theorem ws_St_St_indexOf79 : Cond.selects "java/lang/String" y_St_indexOf79 y_St_indexOf79 ∈ gw := sorry
abbrev b_St_indexOf80 : ByteArray := prog_21_method_80_code
def y_St_indexOf80 : MethodName := ⟨"java/lang/String", "indexOf", "(II)I"⟩
def j_St_indexOf80 : wq_J := [(.aload_n 0, (0, 0, 0, 0, 0)), (.invokevirtual 492, (0, 0, 0, 0, 0)), (.ifCond .eq 19, (0, 23, 0, 0, 0)), (.aload_n 0, (0, 0, 0, 0, 0)), (.getfield 9, (2, 0, 0, 0, 0)), (.iload_n 1, (0, 0, 0, 0, 0)), (.iload_n 2, (0, 0, 0, 0, 0)), (.aload_n 0, (0, 0, 0, 0, 0)), (.invokevirtual 505, (0, 0, 0, 0, 0)), (.invokestatic 637, (0, 0, 0, 0, 0)), (.goto 16, (0, 36, 0, 0, 0)), (.aload_n 0, (0, 0, 0, 0, 0)), (.getfield 9, (2, 0, 0, 0, 0)), (.iload_n 1, (0, 0, 0, 0, 0)), (.iload_n 2, (0, 0, 0, 0, 0)), (.aload_n 0, (0, 0, 0, 0, 0)), (.invokevirtual 505, (0, 0, 0, 0, 0)), (.invokestatic 640, (0, 0, 0, 0, 0)), (.ireturn, (0, 0, 0, 0, 0))]
theorem jc_St_indexOf80 : wq_c b_St_indexOf80 3 j_St_indexOf80 0 = true := sorry
theorem wm_St_indexOf80 : wm y_St_indexOf80 b_St_indexOf80 3 (some .int) 2 := sorry
theorem wi_St_indexOf80 : Cond.instanceMethod y_St_indexOf80 ∈ gw := sorry
theorem ws_St_St_indexOf80 : Cond.selects "java/lang/String" y_St_indexOf80 y_St_indexOf80 ∈ gw := sorry
abbrev b_St_isLatin1154 : ByteArray := prog_21_method_154_code
def y_St_isLatin1154 : MethodName := ⟨"java/lang/String", "isLatin1", "()Z"⟩
def j_St_isLatin1154 : wq_J := [(.getstatic 38, (2, 0, 0, 0, 0)), (.ifCond .eq 14, (0, 17, 0, 0, 0)), (.aload_n 0, (0, 0, 0, 0, 0)), (.getfield 15, (2, 0, 0, 0, 0)), (.ifCond .ne 7, (0, 17, 0, 0, 0)), (.iconst 1, (0, 0, 0, 1, 0)), (.goto 4, (0, 18, 0, 0, 0)), (.iconst 0, (0, 0, 0, 0, 0)), (.ireturn, (0, 0, 0, 0, 0))]
theorem jc_St_isLatin1154 : wq_c b_St_isLatin1154 1 j_St_isLatin1154 0 = true := sorry
theorem wm_St_isLatin1154 : wm y_St_isLatin1154 b_St_isLatin1154 1 (some .boolean) 0 := sorry
theorem wi_St_isLatin1154 : Cond.instanceMethod y_St_isLatin1154 ∈ gw := sorry
theorem ws_St_St_isLatin1154 : Cond.selects "java/lang/String" y_St_isLatin1154 y_St_isLatin1154 ∈ gw := sorry
abbrev b_St_length54 : ByteArray := prog_21_method_54_code
def y_St_length54 : MethodName := ⟨"java/lang/String", "length", "()I"⟩
def j_St_length54 : wq_J := [(.aload_n 0, (0, 0, 0, 0, 0)), (.getfield 9, (2, 0, 0, 0, 0)), (.arraylength, (2, 0, 0, 0, 0)), (.aload_n 0, (0, 0, 0, 0, 0)), (.invokevirtual 335, (0, 0, 0, 0, 0)), (.ishr, (0, 0, 0, 0, 0)), (.ireturn, (0, 0, 0, 0, 0))]
theorem jc_St_length54 : wq_c b_St_length54 1 j_St_length54 0 = true := sorry
theorem wm_St_length54 : wm y_St_length54 b_St_length54 1 (some .int) 0 := sorry
theorem wi_St_length54 : Cond.instanceMethod y_St_length54 ∈ gw := sorry
theorem ws_St_St_length54 : Cond.selects "java/lang/String" y_St_length54 y_St_length54 ∈ gw := sorry
abbrev b_St_coder152 : ByteArray := prog_21_method_152_code
def y_St_coder152 : MethodName := ⟨"java/lang/String", "coder", "()B"⟩
def j_St_coder152 : wq_J := [(.getstatic 38, (2, 0, 0, 0, 0)), (.ifCond .eq 10, (0, 13, 0, 0, 0)), (.aload_n 0, (0, 0, 0, 0, 0)), (.getfield 15, (2, 0, 0, 0, 0)), (.goto 4, (0, 14, 0, 0, 0)), (.iconst 1, (0, 0, 0, 1, 0)), (.ireturn, (0, 0, 0, 0, 0))]
theorem jc_St_coder152 : wq_c b_St_coder152 1 j_St_coder152 0 = true := sorry
theorem wm_St_coder152 : wm y_St_coder152 b_St_coder152 1 (some .byte) 0 := sorry
theorem wi_St_coder152 : Cond.instanceMethod y_St_coder152 ∈ gw := sorry
theorem ws_St_St_coder152 : Cond.selects "java/lang/String" y_St_coder152 y_St_coder152 ∈ gw := sorry
abbrev b_L1_indexOf22 : ByteArray := prog_23_method_22_code
def y_L1_indexOf22 : MethodName := ⟨"java/lang/StringLatin1", "indexOf", "([BIII)I"⟩
def j_L1_indexOf22 : wq_J := [(.iload_n 1, (0, 0, 0, 0, 0)), (.invokestatic 88, (0, 0, 0, 0, 0)), (.ifCond .ne 5, (0, 9, 0, 0, 0)), (.iconst (-1), (0, 0, 0, (-1), 0)), (.ireturn, (0, 0, 0, 0, 0)), (.iload_n 2, (0, 0, 0, 0, 0)), (.iconst 0, (0, 0, 0, 0, 0)), (.invokestatic 92, (0, 0, 0, 0, 0)), (.istore_n 2, (0, 0, 0, 0, 0)), (.iload_n 3, (0, 0, 0, 0, 0)), (.aload_n 0, (0, 0, 0, 0, 0)), (.arraylength, (2, 0, 0, 0, 0)), (.invokestatic 38, (0, 0, 0, 0, 0)), (.istore_n 3, (0, 0, 0, 0, 0)), (.iload_n 2, (0, 0, 0, 0, 0)), (.iload_n 3, (0, 0, 0, 0, 0)), (.if_icmp .lt 5, (0, 29, 0, 0, 0)), (.iconst (-1), (0, 0, 0, (-1), 0)), (.ireturn, (0, 0, 0, 0, 0)), (.aload_n 0, (0, 0, 0, 0, 0)), (.iload_n 1, (0, 0, 0, 0, 0)), (.iload_n 2, (0, 0, 0, 0, 0)), (.iload_n 3, (0, 0, 0, 0, 0)), (.invokestatic 95, (0, 0, 0, 0, 0)), (.ireturn, (0, 0, 0, 0, 0))]
theorem jc_L1_indexOf22 : wq_c b_L1_indexOf22 4 j_L1_indexOf22 0 = true := sorry
theorem wm_L1_indexOf22 : wm y_L1_indexOf22 b_L1_indexOf22 4 (some .int) 4 := sorry
theorem wt_L1_indexOf22 : Cond.static y_L1_indexOf22 ∈ gw := sorry
abbrev b_L1_canEncode4 : ByteArray := prog_23_method_4_code
def y_L1_canEncode4 : MethodName := ⟨"java/lang/StringLatin1", "canEncode", "(I)Z"⟩
def j_L1_canEncode4 : wq_J := [(.iload_n 0, (0, 0, 0, 0, 0)), (.ifCond .lt 14, (0, 15, 0, 0, 0)), (.iload_n 0, (0, 0, 0, 0, 0)), (.sipush 255, (0, 0, 0, 255, 0)), (.if_icmp .gt 7, (0, 15, 0, 0, 0)), (.iconst 1, (0, 0, 0, 1, 0)), (.goto 4, (0, 16, 0, 0, 0)), (.iconst 0, (0, 0, 0, 0, 0)), (.ireturn, (0, 0, 0, 0, 0))]
theorem jc_L1_canEncode4 : wq_c b_L1_canEncode4 1 j_L1_canEncode4 0 = true := sorry
theorem wm_L1_canEncode4 : wm y_L1_canEncode4 b_L1_canEncode4 1 (some .boolean) 1 := sorry
theorem wt_L1_canEncode4 : Cond.static y_L1_canEncode4 ∈ gw := sorry
abbrev b_L1_indexOfChar23 : ByteArray := prog_23_method_23_code
def y_L1_indexOfChar23 : MethodName := ⟨"java/lang/StringLatin1", "indexOfChar", "([BIII)I"⟩
def j_L1_indexOfChar23 : wq_J := [(.iload_n 1, (0, 0, 0, 0, 0)), (.i2b, (0, 0, 0, 0, 0)), (.istore 4, (0, 0, 0, 0, 0)), (.iload_n 2, (0, 0, 0, 0, 0)), (.istore 5, (0, 0, 0, 0, 0)), (.iload 5, (0, 0, 0, 0, 0)), (.iload_n 3, (0, 0, 0, 0, 0)), (.if_icmp .ge 21, (0, 31, 0, 0, 0)), (.aload_n 0, (0, 0, 0, 0, 0)), (.iload 5, (0, 0, 0, 0, 0)), (.baload, (2, 0, 0, 0, 0)), (.iload 4, (0, 0, 0, 0, 0)), (.if_icmp .ne 6, (0, 25, 0, 0, 0)), (.iload 5, (0, 0, 0, 0, 0)), (.ireturn, (0, 0, 0, 0, 0)), (.iinc 5 1, (0, 0, 0, 1, 0)), (.goto (-21), (0, 7, 0, 0, 0)), (.iconst (-1), (0, 0, 0, (-1), 0)), (.ireturn, (0, 0, 0, 0, 0))]
theorem jc_L1_indexOfChar23 : wq_c b_L1_indexOfChar23 6 j_L1_indexOfChar23 0 = true := sorry
theorem wm_L1_indexOfChar23 : wm y_L1_indexOfChar23 b_L1_indexOfChar23 6 (some .int) 4 := sorry
theorem wt_L1_indexOfChar23 : Cond.static y_L1_indexOfChar23 ∈ gw := sorry
abbrev b_St_charAt56 : ByteArray := prog_21_method_56_code
def y_St_charAt56 : MethodName := ⟨"java/lang/String", "charAt", "(I)C"⟩
def j_St_charAt56 : wq_J := [(.aload_n 0, (0, 0, 0, 0, 0)), (.invokevirtual 492, (0, 0, 0, 0, 0)), (.ifCond .eq 12, (0, 16, 0, 0, 0)), (.aload_n 0, (0, 0, 0, 0, 0)), (.getfield 9, (2, 0, 0, 0, 0)), (.iload_n 1, (0, 0, 0, 0, 0)), (.invokestatic 495, (0, 0, 0, 0, 0)), (.ireturn, (0, 0, 0, 0, 0)), (.aload_n 0, (0, 0, 0, 0, 0)), (.getfield 9, (2, 0, 0, 0, 0)), (.iload_n 1, (0, 0, 0, 0, 0)), (.invokestatic 498, (0, 0, 0, 0, 0)), (.ireturn, (0, 0, 0, 0, 0))]
theorem jc_St_charAt56 : wq_c b_St_charAt56 2 j_St_charAt56 0 = true := sorry
theorem wm_St_charAt56 : wm y_St_charAt56 b_St_charAt56 2 (some .char) 1 := sorry
theorem wi_St_charAt56 : Cond.instanceMethod y_St_charAt56 ∈ gw := sorry
theorem ws_St_St_charAt56 : Cond.selects "java/lang/String" y_St_charAt56 y_St_charAt56 ∈ gw := sorry
abbrev b_L1_charAt2 : ByteArray := prog_23_method_2_code
def y_L1_charAt2 : MethodName := ⟨"java/lang/StringLatin1", "charAt", "([BI)C"⟩
def j_L1_charAt2 : wq_J := [(.iload_n 1, (0, 0, 0, 0, 0)), (.aload_n 0, (0, 0, 0, 0, 0)), (.arraylength, (2, 0, 0, 0, 0)), (.invokestatic 9, (0, 0, 0, 0, 0)), (.aload_n 0, (0, 0, 0, 0, 0)), (.iload_n 1, (0, 0, 0, 0, 0)), (.baload, (2, 0, 0, 0, 0)), (.sipush 255, (0, 0, 0, 255, 0)), (.iand, (0, 0, 0, 0, 0)), (.i2c, (0, 0, 0, 0, 0)), (.ireturn, (0, 0, 0, 0, 0))]
theorem jc_L1_charAt2 : wq_c b_L1_charAt2 2 j_L1_charAt2 0 = true := sorry
theorem wm_L1_charAt2 : wm y_L1_charAt2 b_L1_charAt2 2 (some .char) 2 := sorry
theorem wt_L1_charAt2 : Cond.static y_L1_charAt2 ∈ gw := sorry
theorem wf_Ab_18 : Cond.fieldLink "java/lang/AbstractStringBuilder" 18 "java/lang/String" "COMPACT_STRINGS" "Z" ∈ gw := sorry
theorem wf_Ab_15 : Cond.fieldLink "java/lang/AbstractStringBuilder" 15 "java/lang/AbstractStringBuilder" "value" "[B" ∈ gw := sorry
theorem wf_Ab_22 : Cond.fieldLink "java/lang/AbstractStringBuilder" 22 "java/lang/AbstractStringBuilder" "coder" "B" ∈ gw := sorry
theorem wf_Ab_73 : Cond.fieldLink "java/lang/AbstractStringBuilder" 73 "java/lang/AbstractStringBuilder" "maybeLatin1" "Z" ∈ gw := sorry
theorem wf_St_1048 : Cond.fieldLink "java/lang/String" 1048 "java/lang/AbstractStringBuilder" "maybeLatin1" "Z" ∈ gw := sorry
theorem wf_Ab_79 : Cond.fieldLink "java/lang/AbstractStringBuilder" 79 "java/lang/AbstractStringBuilder" "count" "I" ∈ gw := sorry
theorem wf_St_1053 : Cond.fieldLink "java/lang/String" 1053 "jdk/internal/util/Preconditions" "SIOOBE_FORMATTER" "Ljava/util/function/BiFunction;" ∈ gw := sorry
theorem wf_U6_44 : Cond.fieldLink "java/lang/StringUTF16" 44 "java/lang/StringUTF16" "$assertionsDisabled" "Z" ∈ gw := sorry
theorem wf_U6_59 : Cond.fieldLink "java/lang/StringUTF16" 59 "java/lang/StringUTF16" "HI_BYTE_SHIFT" "I" ∈ gw := sorry
theorem wf_U6_63 : Cond.fieldLink "java/lang/StringUTF16" 63 "java/lang/StringUTF16" "LO_BYTE_SHIFT" "I" ∈ gw := sorry
theorem wl_U6_414 : Cond.methodLink "java/lang/StringUTF16" 414 y_St_checkIndex155 ∈ gw := sorry
theorem wl_St_1059 : Cond.methodLink "java/lang/String" 1059 y_Pr_checkIndex11 ∈ gw := sorry
theorem wf_In_83 : Cond.fieldLink "java/lang/Integer" 83 "java/lang/Integer" "DigitOnes" "[B" ∈ gw := sorry
theorem wf_In_87 : Cond.fieldLink "java/lang/Integer" 87 "java/lang/Integer" "DigitTens" "[B" ∈ gw := sorry
theorem wf_U6_403 : Cond.fieldLink "java/lang/StringUTF16" 403 "java/lang/Integer" "DigitOnes" "[B" ∈ gw := sorry
theorem wf_U6_407 : Cond.fieldLink "java/lang/StringUTF16" 407 "java/lang/Integer" "DigitTens" "[B" ∈ gw := sorry
theorem wf_St_38 : Cond.fieldLink "java/lang/String" 38 "java/lang/String" "COMPACT_STRINGS" "Z" ∈ gw := sorry
theorem wf_St_9 : Cond.fieldLink "java/lang/String" 9 "java/lang/String" "value" "[B" ∈ gw := sorry
theorem wf_St_15 : Cond.fieldLink "java/lang/String" 15 "java/lang/String" "coder" "B" ∈ gw := sorry
theorem wl_Rd_64 : Cond.methodLink "OriginDesk$Reader" 64 y_St_indexOf79 ∈ gw := sorry
theorem wl_St_633 : Cond.methodLink "java/lang/String" 633 y_St_indexOf80 ∈ gw := sorry
theorem wl_St_492 : Cond.methodLink "java/lang/String" 492 y_St_isLatin1154 ∈ gw := sorry
theorem wl_St_505 : Cond.methodLink "java/lang/String" 505 y_St_length54 ∈ gw := sorry
theorem wl_St_335 : Cond.methodLink "java/lang/String" 335 y_St_coder152 ∈ gw := sorry
theorem wl_St_637 : Cond.methodLink "java/lang/String" 637 y_L1_indexOf22 ∈ gw := sorry
theorem wl_L1_88 : Cond.methodLink "java/lang/StringLatin1" 88 y_L1_canEncode4 ∈ gw := sorry
theorem wl_L1_95 : Cond.methodLink "java/lang/StringLatin1" 95 y_L1_indexOfChar23 ∈ gw := sorry
theorem wl_Rd_45 : Cond.methodLink "OriginDesk$Reader" 45 y_St_length54 ∈ gw := sorry
theorem wl_Rd_51 : Cond.methodLink "OriginDesk$Reader" 51 y_St_charAt56 ∈ gw := sorry
theorem wl_St_495 : Cond.methodLink "java/lang/String" 495 y_L1_charAt2 ∈ gw := sorry
theorem wl_L1_9 : Cond.methodLink "java/lang/StringLatin1" 9 y_St_checkIndex155 ∈ gw := sorry
theorem wl_Rs_72 : Cond.methodLink "OriginDesk$Response" 72 y_St_length54 ∈ gw := sorry
theorem wl_Ab_32 : Cond.methodLink "java/lang/AbstractStringBuilder" 32 y_St_length54 ∈ gw := sorry
theorem wl_Ab_40 : Cond.methodLink "java/lang/AbstractStringBuilder" 40 y_St_coder152 ∈ gw := sorry
theorem wl_Ab_144 : Cond.methodLink "java/lang/AbstractStringBuilder" 144 y_St_checkIndex155 ∈ gw := sorry
theorem wl_Rs_88 : Cond.methodLink "OriginDesk$Response" 88 y_St_charAt56 ∈ gw := sorry
/-! STRINGS: what is only read of them, and the JDK's own methods, by program (wip/whole/gen/p16.py) -/
theorem ro_and {F G : (Nat → Prop) → State → Heap → Prop} (hF : RO F) (hG : RO G) : RO (fun A U H => F A U H ∧ G A U H) := sorry
def csF : (Nat → Prop) → State → Heap → Prop := fun A U H => va_Z "java/lang/String" "COMPACT_STRINGS" "Z" (.int 1) A U H ∧ va_Zq "jdk/internal/util/Preconditions" "SIOOBE_FORMATTER" "Ljava/util/function/BiFunction;" A U H
theorem csF_ro : RO csF := sorry
def isW (W : List Nat) : Prop := W.length < 2 ^ 31 ∧ ∀ x ∈ W, x < 256
/-- the bytes of a text -/
def bytF (v : Nat) (W : List Nat) : (Nat → Prop) → State → Heap → Prop := fun A U H => va_T .byte v W.length (fun j => .int (sb_b (W.getD j 0))) A U H
theorem bytF_ro (v : Nat) (W : List Nat) : RO (bytF v W) := sorry
/-- a text: a String with these characters -/
def strF (a : Nat) (W : List Nat) : (Nat → Prop) → State → Heap → Prop := fun A U H => va_O "java/lang/String" a A U H ∧ va_OF "java/lang/String" "coder" "B" (.int 0) a A U H ∧ ∃ v, va_OF "java/lang/String" "value" "[B" (.ref v) a A U H ∧ bytF v W A U H
theorem strF_ro (a : Nat) (W : List Nat) : RO (strF a W) := sorry
def tF (a : Nat) (W : List Nat) : (Nat → Prop) → State → Heap → Prop := fun A U H => csF A U H ∧ strF a W A U H
theorem tF_ro (a : Nat) (W : List Nat) : RO (tF a W) := sorry
theorem gd_lt {W : List Nat} (h : isW W) (k : Nat) : W.getD k 0 < 256 := sorry
section
variable {p : Program} {l : Launch} {e : Env} {R : Room} {s : State} {m : MethodId} {args : Array Value} {below : List Frame} {meth : Method} {c : Code} {cc : ByteArray} {nL : Nat} {D : va_G} {tys : List (ClassId × FieldType)} {A : Nat → Prop} {tc : Nat → ClassId} {Q : State → Prop} {st rest : List Value} {k n : Nat} {post : Option Value → Prop} {F : (Nat → Prop) → State → Heap → Prop} {ret : Option FieldType} {K : List Value → va_W → Nat → Nat → Prop} {y y0 : MethodName} {bytes b0 : ByteArray} {maxL n0 index nA fr lo : Nat} {r0 : Option FieldType} {b : Nat} {As : List Value} {own : String} {ws : va_W}
theorem idx_all (ws : va_W) : (List.range ws.length).map (fun i => ws[i]?) = ws.map some := sorry
theorem nd_range (n : Nat) : va_nd (List.range n) = true := sorry
/-- a static method that owns no cell -/
theorem calls0 (hC : Cx p s m args c cc nL own (yw y0 b0 n0 r0) D cls tys A tc) (hk : Kt l y (yw y bytes maxL ret) fr lo 0 0 D cls tys F As [] (fun r w => post r ∧ w = [])) (hFc : F A s s.heap) (hwm : wm y bytes maxL ret nA) (hl : Cond.methodLink own index y ∈ gw) (hi : Cond.static y ∈ gw) (hR : fr + 1 ≤ R.frames ∧ 8 + (maxL + 11) + lo ≤ R.locals) (hlen : As.length = nA) (hst : st = As.reverse ++ rest) (hW : (rest.map fun v => v.category).sum ≤ 8) (hkn : k ≤ R.cells ∧ n ≤ R.slots)
    (kk : ∀ (r : Option Value), post r → K (r.toList ++ rest) ws k n) : vx_SX cc (Vx p l e R s m args below meth c nL D cls A Q) (.invokestatic index) 3 st ws k n K := sorry
/-- a virtual method that owns no cell, on an object that is only read -/
theorem callv0 (hC : Cx p s m args c cc nL own (yw y0 b0 n0 r0) D cls tys A tc) (hk : Kt l y (yw y bytes maxL ret) fr lo 0 0 D cls tys F (.ref b :: As) [] (fun r w => post r ∧ w = [])) (hFc : F A s s.heap) (hO : va_O y.cls b A s s.heap) (hwm : wm y bytes maxL ret nA) (hl : Cond.methodLink own index y ∈ gw) (hi : Cond.instanceMethod y ∈ gw) (hs : Cond.selects y.cls y y ∈ gw) (hR : fr + 1 ≤ R.frames ∧ 8 + (maxL + 11) + lo ≤ R.locals) (hlen : As.length = nA) (hst : st = As.reverse ++ .ref b :: rest) (hW : (rest.map fun v => v.category).sum ≤ 8) (hkn : k ≤ R.cells ∧ n ≤ R.slots)
    (kk : ∀ (r : Option Value), post r → K (r.toList ++ rest) ws k n) : vx_SX cc (Vx p l e R s m args below meth c nL D cls A Q) (.invokevirtual index) 3 st ws k n K := sorry
end
set_option maxRecDepth 100000 in
set_option maxHeartbeats 4000000 in
theorem c_St_coder152 (l : Launch) (D : va_G) (tys : List (ClassId × FieldType)) (tc : Nat → ClassId) (hty : ∀ i : Nat, i < 4 → tys[i]? = some (tc i, vx_ty i)) (a : Nat) (W : List Nat) (hWW : isW W) : Kt l y_St_coder152 (yw y_St_coder152 b_St_coder152 1 (some .byte)) 0 0 0 0 D cls tys (tF a W) [.ref a] [] (fun r w => r = some (.int 0) ∧ w = []) := sorry
set_option maxRecDepth 100000 in
set_option maxHeartbeats 4000000 in
theorem c_St_isLatin1154 (l : Launch) (D : va_G) (tys : List (ClassId × FieldType)) (tc : Nat → ClassId) (hty : ∀ i : Nat, i < 4 → tys[i]? = some (tc i, vx_ty i)) (a : Nat) (W : List Nat) (hWW : isW W) : Kt l y_St_isLatin1154 (yw y_St_isLatin1154 b_St_isLatin1154 1 (some .boolean)) 0 0 0 0 D cls tys (tF a W) [.ref a] [] (fun r w => r = some (.int 1) ∧ w = []) := sorry
set_option maxRecDepth 100000 in
set_option maxHeartbeats 4000000 in
theorem c_St_length54 (l : Launch) (D : va_G) (tys : List (ClassId × FieldType)) (tc : Nat → ClassId) (hty : ∀ i : Nat, i < 4 → tys[i]? = some (tc i, vx_ty i)) (a : Nat) (W : List Nat) (hWW : isW W) : Kt l y_St_length54 (yw y_St_length54 b_St_length54 1 (some .int)) 1 20 0 0 D cls tys (tF a W) [.ref a] [] (fun r w => r = some (.int (nI W.length)) ∧ w = []) := sorry
set_option maxRecDepth 100000 in
set_option maxHeartbeats 4000000 in
theorem c_Pr_checkIndex11 (l : Launch) (D : va_G) (tys : List (ClassId × FieldType)) (tc : Nat → ClassId) (hty : ∀ i : Nat, i < 4 → tys[i]? = some (tc i, vx_ty i)) (i n : Nat) (g : Option Nat) (hi : i < n) (hn : n < 2 ^ 31) : Kt l y_Pr_checkIndex11 (yw y_Pr_checkIndex11 b_Pr_checkIndex11 3 (some .int)) 0 0 0 0 D cls tys (fun _ _ _ => True) [.int (nI i), .int (nI n), va_rf g] [] (fun r w => r = some (.int (nI i)) ∧ w = []) := sorry
set_option maxRecDepth 100000 in
set_option maxHeartbeats 4000000 in
theorem c_St_checkIndex155 (l : Launch) (D : va_G) (tys : List (ClassId × FieldType)) (tc : Nat → ClassId) (hty : ∀ i : Nat, i < 4 → tys[i]? = some (tc i, vx_ty i)) (i n : Nat) (hi : i < n) (hn : n < 2 ^ 31) : Kt l y_St_checkIndex155 (yw y_St_checkIndex155 b_St_checkIndex155 2 none) 1 22 0 0 D cls tys csF [.int (nI i), .int (nI n)] [] (fun r w => r = none ∧ w = []) := sorry
set_option maxRecDepth 100000 in
set_option maxHeartbeats 4000000 in
theorem c_L1_charAt2 (l : Launch) (D : va_G) (tys : List (ClassId × FieldType)) (tc : Nat → ClassId) (hty : ∀ i : Nat, i < 4 → tys[i]? = some (tc i, vx_ty i)) (v : Nat) (W : List Nat) (hWW : isW W) (k : Nat) (hk : k < W.length) : Kt l y_L1_charAt2 (yw y_L1_charAt2 b_L1_charAt2 2 (some .char)) 2 43 0 0 D cls tys (fun A U H => csF A U H ∧ bytF v W A U H) [.ref v, .int (nI k)] [] (fun r w => r = some (.int (nI (W.getD k 0))) ∧ w = []) := sorry
set_option maxRecDepth 100000 in
set_option maxHeartbeats 4000000 in
theorem c_St_charAt56 (l : Launch) (D : va_G) (tys : List (ClassId × FieldType)) (tc : Nat → ClassId) (hty : ∀ i : Nat, i < 4 → tys[i]? = some (tc i, vx_ty i)) (a : Nat) (W : List Nat) (hWW : isW W) (k : Nat) (hk : k < W.length) : Kt l y_St_charAt56 (yw y_St_charAt56 b_St_charAt56 2 (some .char)) 3 64 0 0 D cls tys (tF a W) [.ref a, .int (nI k)] [] (fun r w => r = some (.int (nI (W.getD k 0))) ∧ w = []) := sorry
/-! THE READER AND STRINGS, by program (wip/whole/gen/p17.py) -/
/-- the characters W come next -/
def tt : List Nat → List Nat → Bool × List Nat
  | [], rs => (true, rs)
  | c :: W, rs => match pk c rs with
    | (true, r) => tt W r
    | (false, r) => (false, r)
/-- they come next, letters alike -/
def ta : List Nat → List Nat → Bool × List Nat
  | [], rs => (true, rs)
  | _ :: _, [] => (false, [])
  | c :: W, x :: r => if lwr x = lwr c then ta W r else (false, x :: r)
theorem drop_get {W : List Nat} {i : Nat} (h : i < W.length) : W.drop i = W.getD i 0 :: W.drop (i + 1) := sorry
theorem drop_end {W : List Nat} {i : Nat} (h : W.length ≤ i) : W.drop i = [] := sorry
theorem lwr_lt {x : Nat} (h : x < 256) : lwr x < 512 := sorry
def sameL (S W : List Nat) : Bool := decide (S = W)
def alikeL (S W : List Nat) : Bool := decide (S.map lwr = W.map lwr)
theorem ext_get {S W : List Nat} (h : S.length = W.length) (h2 : ∀ i, i < S.length → S.getD i 0 = W.getD i 0) : S = W := sorry
theorem get_map {S : List Nat} {i : Nat} (h : i < S.length) : (S.map lwr).getD i 0 = lwr (S.getD i 0) := sorry
set_option maxRecDepth 100000 in
set_option maxHeartbeats 4000000 in
theorem c_Rd_takeText (l : Launch) (D : va_G) (tys : List (ClassId × FieldType)) (tc : Nat → ClassId) (hty : ∀ i : Nat, i < 4 → tys[i]? = some (tc i, vx_ty i)) (ci : Nat) (hci : ci < 5) (h ra sa : Nat) (ex : List Value) (T rs : List Nat) (sd : Nat → Int32) (ss : Nat) (hT : isT T) (hs : rs <:+ T) (a : Nat) (W : List Nat) (hWW : isW W) : Kt l y_Rd_takeText (yw y_Rd_takeText b_Rd_takeText 3 (some .boolean)) 4 85 0 0 D cls tys (fun A U H => rdF ra T A U H ∧ tF a W A U H) [.ref h, .ref a] (rdW tc ci h ra sa ex T rs sd ss) (fun r w => r = some (.int (bI (tt W rs).1)) ∧ w = rdW tc ci h ra sa ex T (tt W rs).2 sd ss) := sorry
set_option maxRecDepth 100000 in
set_option maxHeartbeats 4000000 in
theorem c_Rd_takeAlike (l : Launch) (D : va_G) (tys : List (ClassId × FieldType)) (tc : Nat → ClassId) (hty : ∀ i : Nat, i < 4 → tys[i]? = some (tc i, vx_ty i)) (ci : Nat) (hci : ci < 5) (h ra sa : Nat) (ex : List Value) (T rs : List Nat) (sd : Nat → Int32) (ss : Nat) (hT : isT T) (hs : rs <:+ T) (a : Nat) (W : List Nat) (hWW : isW W) : Kt l y_Rd_takeAlike (yw y_Rd_takeAlike b_Rd_takeAlike 3 (some .boolean)) 4 85 0 0 D cls tys (fun A U H => rdF ra T A U H ∧ tF a W A U H) [.ref h, .ref a] (rdW tc ci h ra sa ex T rs sd ss) (fun r w => r = some (.int (bI (ta W rs).1)) ∧ w = rdW tc ci h ra sa ex T (ta W rs).2 sd ss) := sorry
set_option maxRecDepth 100000 in
set_option maxHeartbeats 4000000 in
theorem c_Rd_isSaid (l : Launch) (D : va_G) (tys : List (ClassId × FieldType)) (tc : Nat → ClassId) (hty : ∀ i : Nat, i < 4 → tys[i]? = some (tc i, vx_ty i)) (ci : Nat) (hci : ci < 5) (h ra sa : Nat) (ex : List Value) (T rs : List Nat) (sd : Nat → Int32) (ss : Nat) (hT : isT T) (hs : rs <:+ T) (a : Nat) (W : List Nat) (hWW : isW W) (S : List Nat) (hsd : sdIs sd S) (hss : ss = S.length) (hS : S.length ≤ 96) (hS2 : ∀ i, i < S.length → S.getD i 0 < 256) : Kt l y_Rd_isSaid (yw y_Rd_isSaid b_Rd_isSaid 3 (some .boolean)) 4 85 0 0 D cls tys (tF a W) [.ref h, .ref a] (rdW tc ci h ra sa ex T rs sd ss) (fun r w => r = some (.int (bI (sameL S W))) ∧ w = (rdW tc ci h ra sa ex T rs sd ss)) := sorry
set_option maxRecDepth 100000 in
set_option maxHeartbeats 4000000 in
theorem c_Rd_isSaidAlike (l : Launch) (D : va_G) (tys : List (ClassId × FieldType)) (tc : Nat → ClassId) (hty : ∀ i : Nat, i < 4 → tys[i]? = some (tc i, vx_ty i)) (ci : Nat) (hci : ci < 5) (h ra sa : Nat) (ex : List Value) (T rs : List Nat) (sd : Nat → Int32) (ss : Nat) (hT : isT T) (hs : rs <:+ T) (a : Nat) (W : List Nat) (hWW : isW W) (S : List Nat) (hsd : sdIs sd S) (hss : ss = S.length) (hS : S.length ≤ 96) (hS2 : ∀ i, i < S.length → S.getD i 0 < 256) : Kt l y_Rd_isSaidAlike (yw y_Rd_isSaidAlike b_Rd_isSaidAlike 3 (some .boolean)) 4 85 0 0 D cls tys (tF a W) [.ref h, .ref a] (rdW tc ci h ra sa ex T rs sd ss) (fun r w => r = some (.int (bI (alikeL S W))) ∧ w = (rdW tc ci h ra sa ex T rs sd ss)) := sorry
/-! indexOf; tokens: by program (wip/whole/gen/p18.py) -/
theorem sb_inj {a b : Nat} (ha : a < 256) (hb : b < 256) : sb_b a = sb_b b ↔ a = b := sorry
section
variable {p : Program} {l : Launch} {e : Env} {R : Room} {s : State} {m : MethodId} {args : Array Value} {below : List Frame} {meth : Method} {c : Code} {cc : ByteArray} {nL : Nat} {D : va_G} {tys : List (ClassId × FieldType)} {A : Nat → Prop} {tc : Nat → ClassId} {Q : State → Prop} {rest : List Value} {k n : Nat} {K : List Value → va_W → Nat → Nat → Prop} {y0 : MethodName} {b0 : ByteArray} {n0 index : Nat} {r0 : Option FieldType} {own : String} {ws : va_W} {x y : Int32}
theorem wm_max : Cond.static Lib.Math.max.name ∈ gw ∧ Cond.initialized "java/lang/Math" ∈ gw ∧ Cond.code Lib.Math.max.name Lib.Math.max.code 2 (some .int) ∈ gw := sorry
theorem wm_min : Cond.static Lib.Math.min.name ∈ gw ∧ Cond.initialized "java/lang/Math" ∈ gw ∧ Cond.code Lib.Math.min.name Lib.Math.min.code 2 (some .int) ∈ gw := sorry
theorem sx_mmax (hC : Cx p s m args c cc nL own (yw y0 b0 n0 r0) D cls tys A tc) (hl : Cond.methodLink own index Lib.Math.max.name ∈ gw) (hfr : 1 ≤ R.frames) (hlo : (rest.map fun v => v.category).sum + 13 ≤ R.locals) (hkn : k ≤ R.cells ∧ n ≤ R.slots) (kk : K (.int (if x < y then y else x) :: rest) ws k n) : vx_SX cc (Vx p l e R s m args below meth c nL D cls A Q) (.invokestatic index) 3 (.int y :: .int x :: rest) ws k n K := sorry
theorem sx_mmin (hC : Cx p s m args c cc nL own (yw y0 b0 n0 r0) D cls tys A tc) (hl : Cond.methodLink own index Lib.Math.min.name ∈ gw) (hfr : 1 ≤ R.frames) (hlo : (rest.map fun v => v.category).sum + 13 ≤ R.locals) (hkn : k ≤ R.cells ∧ n ≤ R.slots) (kk : K (.int (if y < x then y else x) :: rest) ws k n) : vx_SX cc (Vx p l e R s m args below meth c nL D cls A Q) (.invokestatic index) 3 (.int y :: .int x :: rest) ws k n K := sorry
end
/-- an index that is below 0 just when x is not in W -/
def ixP (W : List Nat) (x : Nat) (r : Option Value) : Prop := ∃ v : Int32, r = some (.int v) ∧ (v < 0 ↔ x ∉ W)
theorem ixP_at {W : List Nat} {i x : Nat} (h : i < W.length) (e : W.getD i 0 = x) (hi : i < 2 ^ 31) : ixP W x (some (.int (nI i))) := sorry
theorem ixP_no {W : List Nat} {x : Nat} (h : ∀ i, i < W.length → ¬ W.getD i 0 = x) : ixP W x (some (.int (-1))) := sorry
set_option maxRecDepth 100000 in
set_option maxHeartbeats 4000000 in
theorem c_L1_canEncode4 (l : Launch) (D : va_G) (tys : List (ClassId × FieldType)) (tc : Nat → ClassId) (hty : ∀ i : Nat, i < 4 → tys[i]? = some (tc i, vx_ty i)) (x : Nat) (hx : x < 256) : Kt l y_L1_canEncode4 (yw y_L1_canEncode4 b_L1_canEncode4 1 (some .boolean)) 0 0 0 0 D cls tys (fun _ _ _ => True) [.int (nI x)] [] (fun r w => r = some (.int 1) ∧ w = []) := sorry
set_option maxRecDepth 100000 in
set_option maxHeartbeats 4000000 in
theorem c_L1_indexOfChar23 (l : Launch) (D : va_G) (tys : List (ClassId × FieldType)) (tc : Nat → ClassId) (hty : ∀ i : Nat, i < 4 → tys[i]? = some (tc i, vx_ty i)) (v : Nat) (W : List Nat) (hWW : isW W) (x : Nat) (hx : x < 256) : Kt l y_L1_indexOfChar23 (yw y_L1_indexOfChar23 b_L1_indexOfChar23 6 (some .int)) 0 0 0 0 D cls tys (fun A U H => csF A U H ∧ bytF v W A U H) [.ref v, .int (nI x), .int (nI 0), .int (nI W.length)] [] (fun r w => ixP W x r ∧ w = []) := sorry
set_option maxRecDepth 100000 in
set_option maxHeartbeats 4000000 in
theorem c_L1_indexOf22 (l : Launch) (D : va_G) (tys : List (ClassId × FieldType)) (tc : Nat → ClassId) (hty : ∀ i : Nat, i < 4 → tys[i]? = some (tc i, vx_ty i)) (v : Nat) (W : List Nat) (hWW : isW W) (x : Nat) (hx : x < 256) : Kt l y_L1_indexOf22 (yw y_L1_indexOf22 b_L1_indexOf22 4 (some .int)) 1 25 0 0 D cls tys (fun A U H => csF A U H ∧ bytF v W A U H) [.ref v, .int (nI x), .int (nI 0), .int (nI W.length)] [] (fun r w => ixP W x r ∧ w = []) := sorry
set_option maxRecDepth 100000 in
set_option maxHeartbeats 4000000 in
theorem c_St_indexOf80 (l : Launch) (D : va_G) (tys : List (ClassId × FieldType)) (tc : Nat → ClassId) (hty : ∀ i : Nat, i < 4 → tys[i]? = some (tc i, vx_ty i)) (a : Nat) (W : List Nat) (hWW : isW W) (x : Nat) (hx : x < 256) : Kt l y_St_indexOf80 (yw y_St_indexOf80 b_St_indexOf80 3 (some .int)) 2 48 0 0 D cls tys (tF a W) [.ref a, .int (nI x), .int (nI 0)] [] (fun r w => ixP W x r ∧ w = []) := sorry
set_option maxRecDepth 100000 in
set_option maxHeartbeats 4000000 in
theorem c_St_indexOf79 (l : Launch) (D : va_G) (tys : List (ClassId × FieldType)) (tc : Nat → ClassId) (hty : ∀ i : Nat, i < 4 → tys[i]? = some (tc i, vx_ty i)) (a : Nat) (W : List Nat) (hWW : isW W) (x : Nat) (hx : x < 256) : Kt l y_St_indexOf79 (yw y_St_indexOf79 b_St_indexOf79 2 (some .int)) 3 70 0 0 D cls tys (tF a W) [.ref a, .int (nI x)] [] (fun r w => ixP W x r ∧ w = []) := sorry
/-- a constant text of a class's pool -/
def kcF (own : String) (idx : Nat) (tx : String) (q : Nat) (W : List Nat) : (Nat → Prop) → State → Heap → Prop := fun A U H => vk_R own idx tx q U ∧ tF q W A U H
theorem kcF_ro (own : String) (idx : Nat) (tx : String) (q : Nat) (W : List Nat) : RO (kcF own idx tx q W) := sorry
def tokS : String := "abcdefghijklmnopqrstuvwxyzABCDEFGHIJKLMNOPQRSTUVWXYZ0123456789!#$%&'*+-.^_|~`"
def tokL : List Nat := [97, 98, 99, 100, 101, 102, 103, 104, 105, 106, 107, 108, 109, 110, 111, 112, 113, 114, 115, 116, 117, 118, 119, 120, 121, 122, 65, 66, 67, 68, 69, 70, 71, 72, 73, 74, 75, 76, 77, 78, 79, 80, 81, 82, 83, 84, 85, 86, 87, 88, 89, 90, 48, 49, 50, 51, 52, 53, 54, 55, 56, 57, 33, 35, 36, 37, 38, 39, 42, 43, 45, 46, 94, 95, 124, 126, 96]
theorem tokL_ok : isW tokL := sorry
def isTk (x : Nat) : Bool := decide (x ∈ tokL)
set_option maxRecDepth 100000 in
set_option maxHeartbeats 4000000 in
theorem c_Rd_takeToken (l : Launch) (D : va_G) (tys : List (ClassId × FieldType)) (tc : Nat → ClassId) (hty : ∀ i : Nat, i < 4 → tys[i]? = some (tc i, vx_ty i)) (ci : Nat) (hci : ci < 5) (h ra sa : Nat) (ex : List Value) (T rs : List Nat) (sd : Nat → Int32) (ss : Nat) (hT : isT T) (hs : rs <:+ T) (q : Nat) : Kt l y_Rd_takeToken (yw y_Rd_takeToken b_Rd_takeToken 1 (some .boolean)) 4 91 0 0 D cls tys (fun A U H => rdF ra T A U H ∧ kcF "OriginDesk$Reader" 62 tokS q tokL A U H) [.ref h] (rdW tc ci h ra sa ex T rs sd ss) (fun r w => r = some (.int (bI !(rs.takeWhile isTk).isEmpty)) ∧ ∃ sd2, sdIs sd2 (rs.takeWhile isTk) ∧ w = rdW tc ci h ra sa ex T (rs.dropWhile isTk) sd2 (rs.takeWhile isTk).length) := sorry
/-! NAMES OF THREE LETTERS; OPEN: by program (wip/whole/gen/p19.py) -/
def nms : List Nat → Nat → Nat → Nat → Nat → Option Nat
  | a :: b :: c :: W, x, y, z, k => if x = a ∧ y = b ∧ z = c then some k else nms W x y z (k + 1)
  | _, _, _, _, _ => none
/-- which of the names W comes next -/
def nmAt (W rs : List Nat) : Option Nat × List Nat := match rs with
  | x :: y :: z :: r => (match nms W x y z 0 with
    | some k => (some k, r)
    | none => (none, x :: y :: z :: r))
  | rs => (none, rs)
theorem nmAt_short {W rs : List Nat} (h : ¬ 3 ≤ rs.length) : nmAt W rs = (none, rs) := sorry
theorem sfx3 {T : List Nat} {x y z : Nat} {r : List Nat} (h : x :: y :: z :: r <:+ T) : T.length - (x :: y :: z :: r).length + 3 = T.length - r.length ∧ T.length - (x :: y :: z :: r).length + 2 < T.length ∧ T.getD (T.length - (x :: y :: z :: r).length) 0 = x ∧ T.getD (T.length - (x :: y :: z :: r).length + 1) 0 = y ∧ T.getD (T.length - (x :: y :: z :: r).length + 2) 0 = z ∧ (x ∈ T ∧ y ∈ T ∧ z ∈ T) ∧ r <:+ T := sorry
theorem rd_step3 {tc : Nat → ClassId} {ci h ra sa : Nat} {ex : List Value} {T r : List Nat} {x y z : Nat} {sd : Nat → Int32} {ss : Nat} (g4 : T.length - (x :: y :: z :: r).length + 3 = T.length - r.length) : [((h, .inr (ci, .ref ra :: .int (nI T.length) :: .int (nI (T.length - (x :: y :: z :: r).length) + 3) :: .ref sa :: .int (nI ss) :: ex)) : Nat × va_E), (sa, .inl (tc 0, 96, .inl sd))] = rdW tc ci h ra sa ex T r sd ss := sorry
theorem sub_len {a b : Nat} (h : b ≤ a) : nI a - nI (a - b) = nI b := sorry
theorem nms_hit {W : List Nat} {k x y z : Nat} (h : 3 * k + 2 < W.length) (h1 : x = W.getD (3 * k) 0) (h2 : y = W.getD (3 * k + 1) 0) (h3 : z = W.getD (3 * k + 2) 0) : nms (W.drop (3 * k)) x y z k = some k := sorry
theorem nms_miss {W : List Nat} {k x y z : Nat} (h : 3 * k + 2 < W.length) (h1 : ¬ (x = W.getD (3 * k) 0 ∧ y = W.getD (3 * k + 1) 0 ∧ z = W.getD (3 * k + 2) 0)) : nms (W.drop (3 * k)) x y z k = nms (W.drop (3 * (k + 1))) x y z (k + 1) := sorry
theorem nms_end {W : List Nat} {k x y z : Nat} (h : W.length ≤ 3 * k + 2) : nms (W.drop (3 * k)) x y z k = none := sorry
set_option maxRecDepth 100000 in
set_option maxHeartbeats 4000000 in
theorem c_Rd_takeName (l : Launch) (D : va_G) (tys : List (ClassId × FieldType)) (tc : Nat → ClassId) (hty : ∀ i : Nat, i < 4 → tys[i]? = some (tc i, vx_ty i)) (ci : Nat) (hci : ci < 5) (h ra sa : Nat) (ex : List Value) (T rs : List Nat) (sd : Nat → Int32) (ss : Nat) (hT : isT T) (hs : rs <:+ T) (a : Nat) (W : List Nat) (hWW : isW W) (hW8 : W.length ≤ 1000) : Kt l y_Rd_takeName (yw y_Rd_takeName b_Rd_takeName 4 (some .int)) 4 85 0 0 D cls tys (fun A U H => rdF ra T A U H ∧ tF a W A U H) [.ref h, .ref a] (rdW tc ci h ra sa ex T rs sd ss) (fun r w => r = some (.int (iI (nmAt W rs).1)) ∧ w = rdW tc ci h ra sa ex T (nmAt W rs).2 sd ss) := sorry
end
section
/-! THE REFERENCE'S WORLD: one object, thirteen arrays, by program (wip/whole/gen/p30.py). sc k: its int of slot k; ai, al: its arrays by place -/
def mdW (tc : Nat → ClassId) (h : Nat) (ar : Nat → Nat) (now : Int64) (sc : Nat → Int32) (ai : Nat → Nat → Int32) (al : Nat → Nat → Int64) : va_W := [(h, .inr (9, [.long now, .int (sc 1), .ref (ar 1), .ref (ar 2), .ref (ar 3), .ref (ar 4), .ref (ar 5), .ref (ar 6), .int (sc 8), .ref (ar 7), .ref (ar 8), .int (sc 11), .int (sc 12), .int (sc 13), .int (sc 14), .int (sc 15), .int (sc 16), .int (sc 17), .int (sc 18), .int (sc 19), .int (sc 20), .ref (ar 9), .ref (ar 10), .int (sc 23), .int (sc 24), .int (sc 25), .int (sc 26), .int (sc 27), .ref (ar 11), .ref (ar 12), .ref (ar 13)])), (ar 1, .inl (tc 0, 4, .inl (ai 1))), (ar 2, .inl (tc 0, 4, .inl (ai 2))), (ar 3, .inl (tc 0, 4, .inl (ai 3))), (ar 4, .inl (tc 0, 4, .inl (ai 4))), (ar 5, .inl (tc 3, 4, .inl (ai 5))), (ar 6, .inl (tc 2, 4, .inr (.inl (al 6)))), (ar 7, .inl (tc 0, 768, .inl (ai 7))), (ar 8, .inl (tc 0, 8, .inl (ai 8))), (ar 9, .inl (tc 0, 96, .inl (ai 9))), (ar 10, .inl (tc 0, 96, .inl (ai 10))), (ar 11, .inl (tc 0, 4, .inl (ai 11))), (ar 12, .inl (tc 0, 4, .inl (ai 12))), (ar 13, .inl (tc 2, 15, .inr (.inl (al 13))))]
/-- it reads field F, whose text is T, and stands at ps -/
def mdS (sc : Nat → Int32) (ai : Nat → Nat → Int32) (F : Nat) (T : List Nat) (ps : Nat) : Prop := F < 8 ∧ sc 11 = nI F ∧ ai 8 F = nI T.length ∧ (∀ j, j < T.length → ai 7 (96 * F + j) = nI (T.getD j 0)) ∧ isT T ∧ sc 12 = nI ps ∧ ps ≤ 400
theorem mdS.at {sc : Nat → Int32} {ai : Nat → Nat → Int32} {F : Nat} {T : List Nat} {ps p2 : Nat} (h : mdS sc ai F T ps) (h2 : p2 ≤ 400) : mdS (upd sc 12 (nI p2)) ai F T p2 := sorry
theorem mdS.ot {sc : Nat → Int32} {ai : Nat → Nat → Int32} {F : Nat} {T : List Nat} {ps k : Nat} {v : Int32} (h : mdS sc ai F T ps) (h1 : 11 ≠ k) (h2 : 12 ≠ k) : mdS (upd sc k v) ai F T ps := sorry
theorem T_lt {T : List Nat} (h : isT T) (k : Nat) : T.getD k 0 < 256 := sorry
theorem T_out {T : List Nat} {k : Nat} (h : T.length ≤ k) : T.getD k 0 = 0 := sorry
theorem T_in {T : List Nat} {k : Nat} (h : ¬ T.getD k 0 = 0) : k < T.length := sorry
section
variable {p : Program} {l : Launch} {e : Env} {R : Room} {s : State} {m : MethodId} {args : Array Value} {below : List Frame} {meth : Method} {c : Code} {cc : ByteArray} {nL : Nat} {D : va_G} {tys : List (ClassId × FieldType)} {A : Nat → Prop} {tc : Nat → ClassId} {Q : State → Prop} {st rest : List Value} {k n : Nat} {post : Option Value → va_W → Prop} {ret : Option FieldType} {K : List Value → va_W → Nat → Nat → Prop} {y y0 : MethodName} {bytes b0 : ByteArray} {maxL n0 index nA fr lo : Nat} {r0 : Option FieldType} {h : Nat} {As : List Value} {ar : Nat → Nat} {now : Int64} {sc : Nat → Int32} {ai : Nat → Nat → Int32} {al : Nat → Nat → Int64} {ws : va_W}
theorem mo_call (hC : Cx p s m args c cc nL "OriginDeskModel" (yw y0 b0 n0 r0) D cls tys A tc) (hk : Kt l y (yw y bytes maxL ret) fr lo 0 0 D cls tys (fun _ _ _ => True) (.ref h :: As) (mdW tc h ar now sc ai al) post) (hwm : wm y bytes maxL ret nA) (hl : Cond.methodLink "OriginDeskModel" index y ∈ gw) (hi : Cond.instanceMethod y ∈ gw) (hsel : Cond.selects "OriginDeskModel" y y ∈ gw) (hR : fr + 1 ≤ R.frames ∧ 8 + (maxL + 11) + lo ≤ R.locals) (hlen : As.length = nA) (hst : st = As.reverse ++ .ref h :: rest) (hW : (rest.map fun v => v.category).sum ≤ 8) (hkn : k ≤ R.cells ∧ n ≤ R.slots)
    (kk : ∀ (r : Option Value) (w1 : va_W), post r w1 → K (r.toList ++ rest) w1 k n) : vx_SX cc (Vx p l e R s m args below meth c nL D cls A Q) (.invokevirtual index) 3 st (mdW tc h ar now sc ai al) k n K := sorry
theorem mo_calls (hC : Cx p s m args c cc nL "OriginDeskModel" (yw y0 b0 n0 r0) D cls tys A tc) {post : Option Value → Prop} (hk : Kt l y (yw y bytes maxL ret) fr lo 0 0 D cls tys (fun _ _ _ => True) As [] (fun r w => post r ∧ w = [])) (hwm : wm y bytes maxL ret nA) (hl : Cond.methodLink "OriginDeskModel" index y ∈ gw) (hi : Cond.static y ∈ gw) (hR : fr + 1 ≤ R.frames ∧ 8 + (maxL + 11) + lo ≤ R.locals) (hlen : As.length = nA) (hst : st = As.reverse ++ rest) (hW : (rest.map fun v => v.category).sum ≤ 8) (hkn : k ≤ R.cells ∧ n ≤ R.slots)
    (kk : ∀ (r : Option Value), post r → K (r.toList ++ rest) ws k n) : vx_SX cc (Vx p l e R s m args below meth c nL D cls A Q) (.invokestatic index) 3 st ws k n K := sorry
end
set_option maxRecDepth 100000 in
set_option maxHeartbeats 4000000 in
theorem c_Mo_isDigit (l : Launch) (D : va_G) (tys : List (ClassId × FieldType)) (tc : Nat → ClassId) (hty : ∀ i : Nat, i < 4 → tys[i]? = some (tc i, vx_ty i)) (c : Nat) (hc : c < 256) : Kt l y_Mo_isDigit (yw y_Mo_isDigit b_Mo_isDigit 1 (some .boolean)) 0 0 0 0 D cls tys (fun _ _ _ => True) [.int (nI c)] [] (fun r w => r = some (.int (bI (isDg c))) ∧ w = []) := sorry
set_option maxRecDepth 100000 in
set_option maxHeartbeats 4000000 in
theorem c_Mo_isLetter (l : Launch) (D : va_G) (tys : List (ClassId × FieldType)) (tc : Nat → ClassId) (hty : ∀ i : Nat, i < 4 → tys[i]? = some (tc i, vx_ty i)) (c : Nat) (hc : c < 256) : Kt l y_Mo_isLetter (yw y_Mo_isLetter b_Mo_isLetter 1 (some .boolean)) 0 0 0 0 D cls tys (fun _ _ _ => True) [.int (nI c)] [] (fun r w => r = some (.int (bI (isLt c))) ∧ w = []) := sorry
set_option maxRecDepth 100000 in
set_option maxHeartbeats 4000000 in
theorem c_Mo_lower (l : Launch) (D : va_G) (tys : List (ClassId × FieldType)) (tc : Nat → ClassId) (hty : ∀ i : Nat, i < 4 → tys[i]? = some (tc i, vx_ty i)) (c : Nat) (hc : c < 256) : Kt l y_Mo_lower (yw y_Mo_lower b_Mo_lower 1 (some .int)) 0 0 0 0 D cls tys (fun _ _ _ => True) [.int (nI c)] [] (fun r w => r = some (.int (nI (lwr c))) ∧ w = []) := sorry
def isMk (c : Nat) : Bool := decide (c = 33 ∨ 35 ≤ c ∧ c ≤ 39 ∨ c = 42 ∨ c = 43 ∨ c = 45 ∨ c = 46 ∨ c = 94 ∨ c = 95 ∨ c = 96 ∨ c = 124 ∨ c = 126)
theorem isTk_mk : ∀ c, c < 256 → isTk c = (isDg c || (isLt c || isMk c)) := sorry
set_option maxRecDepth 100000 in
set_option maxHeartbeats 4000000 in
theorem c_Mo_isToken (l : Launch) (D : va_G) (tys : List (ClassId × FieldType)) (tc : Nat → ClassId) (hty : ∀ i : Nat, i < 4 → tys[i]? = some (tc i, vx_ty i)) (c : Nat) (hc : c < 256) : Kt l y_Mo_isToken (yw y_Mo_isToken b_Mo_isToken 2 (some .boolean)) 1 20 0 0 D cls tys (fun _ _ _ => True) [.int (nI c)] [] (fun r w => r = some (.int (bI (isTk c))) ∧ w = []) := sorry
set_option maxRecDepth 100000 in
set_option maxHeartbeats 4000000 in
theorem c_Mo_charAt (l : Launch) (D : va_G) (tys : List (ClassId × FieldType)) (tc : Nat → ClassId) (hty : ∀ i : Nat, i < 4 → tys[i]? = some (tc i, vx_ty i)) (h : Nat) (ar : Nat → Nat) (now : Int64) (sc : Nat → Int32) (ai : Nat → Nat → Int32) (al : Nat → Nat → Int64) (F : Nat) (T : List Nat) (ps : Nat) (hM : mdS sc ai F T ps) (i : Nat) (hi : i ≤ 1000) : Kt l y_Mo_charAt (yw y_Mo_charAt b_Mo_charAt 2 (some .int)) 0 0 0 0 D cls tys (fun _ _ _ => True) [.ref h, .int (nI i)] (mdW tc h ar now sc ai al) (fun r w => r = some (.int (nI (T.getD i 0))) ∧ w = (mdW tc h ar now sc ai al)) := sorry
set_option maxRecDepth 100000 in
set_option maxHeartbeats 4000000 in
theorem c_Mo_next (l : Launch) (D : va_G) (tys : List (ClassId × FieldType)) (tc : Nat → ClassId) (hty : ∀ i : Nat, i < 4 → tys[i]? = some (tc i, vx_ty i)) (h : Nat) (ar : Nat → Nat) (now : Int64) (sc : Nat → Int32) (ai : Nat → Nat → Int32) (al : Nat → Nat → Int64) (F : Nat) (T : List Nat) (ps : Nat) (hM : mdS sc ai F T ps) : Kt l y_Mo_next (yw y_Mo_next b_Mo_next 1 (some .int)) 1 21 0 0 D cls tys (fun _ _ _ => True) [.ref h] (mdW tc h ar now sc ai al) (fun r w => r = some (.int (nI (T.getD ps 0))) ∧ w = (mdW tc h ar now sc ai al)) := sorry
set_option maxRecDepth 100000 in
set_option maxHeartbeats 4000000 in
theorem c_Mo_ended (l : Launch) (D : va_G) (tys : List (ClassId × FieldType)) (tc : Nat → ClassId) (hty : ∀ i : Nat, i < 4 → tys[i]? = some (tc i, vx_ty i)) (h : Nat) (ar : Nat → Nat) (now : Int64) (sc : Nat → Int32) (ai : Nat → Nat → Int32) (al : Nat → Nat → Int64) (F : Nat) (T : List Nat) (ps : Nat) (hM : mdS sc ai F T ps) : Kt l y_Mo_ended (yw y_Mo_ended b_Mo_ended 1 (some .boolean)) 0 0 0 0 D cls tys (fun _ _ _ => True) [.ref h] (mdW tc h ar now sc ai al) (fun r w => r = some (.int (bI (decide (T.length ≤ ps)))) ∧ w = (mdW tc h ar now sc ai al)) := sorry
set_option maxRecDepth 100000 in
set_option maxHeartbeats 4000000 in
theorem c_Mo_take (l : Launch) (D : va_G) (tys : List (ClassId × FieldType)) (tc : Nat → ClassId) (hty : ∀ i : Nat, i < 4 → tys[i]? = some (tc i, vx_ty i)) (h : Nat) (ar : Nat → Nat) (now : Int64) (sc : Nat → Int32) (ai : Nat → Nat → Int32) (al : Nat → Nat → Int64) (F : Nat) (T : List Nat) (ps : Nat) (hM : mdS sc ai F T ps) (c : Nat) (hc : c < 256) : Kt l y_Mo_take (yw y_Mo_take b_Mo_take 3 (some .boolean)) 2 41 0 0 D cls tys (fun _ _ _ => True) [.ref h, .int (nI c)] (mdW tc h ar now sc ai al) (fun r w => r = some (.int (bI (decide (T.getD ps 0 = c)))) ∧ w = mdW tc h ar now (upd sc 12 (nI (if T.getD ps 0 = c then ps + 1 else ps))) ai al) := sorry
/-! THE REFERENCE: gaps, tokens, lists, digits, by program (wip/whole/gen/p31.py) -/
theorem upd_same {f : Nat → Int32} {k : Nat} {v : Int32} (h : f k = v) : upd f k v = f := sorry
theorem upd_upd {f : Nat → Int32} {k : Nat} {v w : Int32} : upd (upd f k v) k w = upd f k w := sorry
/-- the place behind all q from ps on -/
def pz (T : List Nat) (ps : Nat) (q : Nat → Bool) : Nat := ps + ((T.drop ps).takeWhile q).length
theorem pz_t {T : List Nat} {ps : Nat} {q : Nat → Bool} (h : q (T.getD ps 0) = true) (hl : ps < T.length) : pz T ps q = pz T (ps + 1) q := sorry
theorem pz_f {T : List Nat} {ps : Nat} {q : Nat → Bool} (h : q (T.getD ps 0) = false) : pz T ps q = ps := sorry
theorem pz_le {T : List Nat} {ps M : Nat} {q : Nat → Bool} (h1 : ps ≤ M) (h2 : T.length ≤ M) : pz T ps q ≤ M := sorry
theorem pz_no {T : List Nat} {ps : Nat} {q : Nat → Bool} (q0 : q 0 = false) : q (T.getD (pz T ps q) 0) = false := sorry
theorem gp_0 : isGp 0 = false := sorry
theorem gc_0 : isGc 0 = false := sorry
theorem tk_0 : isTk 0 = false := sorry
theorem gp_gc {x : Nat} (h : isGp x = true) : isGc x = true := sorry
theorem pz_gpgc {T : List Nat} {ps : Nat} : pz T (pz T ps isGp) isGc = pz T ps isGc := sorry
def sepv (T : List Nat) (P : Nat) : Int32 := if T.length ≤ P then 0 else if T.getD P 0 = 44 then 1 else -1
/-- k digits from ps on, behind a -/
def dgq (T : List Nat) : Nat → Nat → Nat → Option Nat × Nat
  | 0, a, ps => (some a, ps)
  | k + 1, a, ps => if isDg (T.getD ps 0) then dgq T k (10 * a + T.getD ps 0 - 48) (ps + 1) else (none, ps)
set_option maxRecDepth 100000 in
set_option maxHeartbeats 4000000 in
theorem c_Mo_gap (l : Launch) (D : va_G) (tys : List (ClassId × FieldType)) (tc : Nat → ClassId) (hty : ∀ i : Nat, i < 4 → tys[i]? = some (tc i, vx_ty i)) (h : Nat) (ar : Nat → Nat) (now : Int64) (sc : Nat → Int32) (ai : Nat → Nat → Int32) (al : Nat → Nat → Int64) (F : Nat) (T : List Nat) (ps : Nat) (hM : mdS sc ai F T ps) : Kt l y_Mo_gap (yw y_Mo_gap b_Mo_gap 1 none) 2 41 0 0 D cls tys (fun _ _ _ => True) [.ref h] (mdW tc h ar now sc ai al) (fun r w => r = none ∧ w = mdW tc h ar now (upd sc 12 (nI (pz T ps isGp))) ai al) := sorry
set_option maxRecDepth 100000 in
set_option maxHeartbeats 4000000 in
theorem c_Mo_open (l : Launch) (D : va_G) (tys : List (ClassId × FieldType)) (tc : Nat → ClassId) (hty : ∀ i : Nat, i < 4 → tys[i]? = some (tc i, vx_ty i)) (h : Nat) (ar : Nat → Nat) (now : Int64) (sc : Nat → Int32) (ai : Nat → Nat → Int32) (al : Nat → Nat → Int64) (G : Nat) : Kt l y_Mo_open (yw y_Mo_open b_Mo_open 2 none) 0 0 0 0 D cls tys (fun _ _ _ => True) [.ref h, .int (nI G)] (mdW tc h ar now sc ai al) (fun r w => r = none ∧ w = mdW tc h ar now (upd (upd sc 11 (nI G)) 12 (nI 0)) ai al) := sorry
set_option maxRecDepth 100000 in
set_option maxHeartbeats 4000000 in
theorem c_Mo_there (l : Launch) (D : va_G) (tys : List (ClassId × FieldType)) (tc : Nat → ClassId) (hty : ∀ i : Nat, i < 4 → tys[i]? = some (tc i, vx_ty i)) (h : Nat) (ar : Nat → Nat) (now : Int64) (sc : Nat → Int32) (ai : Nat → Nat → Int32) (al : Nat → Nat → Int64) (G : Nat) (T : List Nat) (hG : G < 8) (hT : isT T) (hlenG : ai 8 G = nI T.length) : Kt l y_Mo_there (yw y_Mo_there b_Mo_there 2 (some .boolean)) 0 0 0 0 D cls tys (fun _ _ _ => True) [.ref h, .int (nI G)] (mdW tc h ar now sc ai al) (fun r w => r = some (.int (bI (decide (0 < T.length)))) ∧ w = (mdW tc h ar now sc ai al)) := sorry
set_option maxRecDepth 100000 in
set_option maxHeartbeats 4000000 in
theorem c_Mo_separator (l : Launch) (D : va_G) (tys : List (ClassId × FieldType)) (tc : Nat → ClassId) (hty : ∀ i : Nat, i < 4 → tys[i]? = some (tc i, vx_ty i)) (h : Nat) (ar : Nat → Nat) (now : Int64) (sc : Nat → Int32) (ai : Nat → Nat → Int32) (al : Nat → Nat → Int64) (F : Nat) (T : List Nat) (ps : Nat) (hM : mdS sc ai F T ps) : Kt l y_Mo_separator (yw y_Mo_separator b_Mo_separator 1 (some .int)) 3 63 0 0 D cls tys (fun _ _ _ => True) [.ref h] (mdW tc h ar now sc ai al) (fun r w => r = some (.int (sepv T (pz T ps isGp))) ∧ w = mdW tc h ar now (upd sc 12 (nI (if T.getD (pz T ps isGp) 0 = 44 then (pz T ps isGp) + 1 else (pz T ps isGp)))) ai al) := sorry
set_option maxRecDepth 100000 in
set_option maxHeartbeats 4000000 in
theorem c_Mo_semicolon (l : Launch) (D : va_G) (tys : List (ClassId × FieldType)) (tc : Nat → ClassId) (hty : ∀ i : Nat, i < 4 → tys[i]? = some (tc i, vx_ty i)) (h : Nat) (ar : Nat → Nat) (now : Int64) (sc : Nat → Int32) (ai : Nat → Nat → Int32) (al : Nat → Nat → Int64) (F : Nat) (T : List Nat) (ps : Nat) (hM : mdS sc ai F T ps) : Kt l y_Mo_semicolon (yw y_Mo_semicolon b_Mo_semicolon 2 (some .boolean)) 3 63 0 0 D cls tys (fun _ _ _ => True) [.ref h] (mdW tc h ar now sc ai al) (fun r w => r = some (.int (bI (decide (T.getD (pz T ps isGp) 0 = 59)))) ∧ w = mdW tc h ar now (upd sc 12 (nI (if T.getD (pz T ps isGp) 0 = 59 then pz T ((pz T ps isGp) + 1) isGp else ps))) ai al) := sorry
set_option maxRecDepth 100000 in
set_option maxHeartbeats 4000000 in
theorem c_Mo_element (l : Launch) (D : va_G) (tys : List (ClassId × FieldType)) (tc : Nat → ClassId) (hty : ∀ i : Nat, i < 4 → tys[i]? = some (tc i, vx_ty i)) (h : Nat) (ar : Nat → Nat) (now : Int64) (sc : Nat → Int32) (ai : Nat → Nat → Int32) (al : Nat → Nat → Int64) (F : Nat) (T : List Nat) (ps : Nat) (hM : mdS sc ai F T ps) : Kt l y_Mo_element (yw y_Mo_element b_Mo_element 1 (some .boolean)) 3 63 0 0 D cls tys (fun _ _ _ => True) [.ref h] (mdW tc h ar now sc ai al) (fun r w => r = some (.int (bI (decide ((pz T ps isGc) < T.length)))) ∧ w = mdW tc h ar now (upd sc 12 (nI (pz T ps isGc))) ai al) := sorry
/-! THE REFERENCE: tokens, digits, weights, by program (wip/whole/gen/p32.py) -/
theorem md_sub13 {sc : Nat → Int32} {ps : Nat} (h12 : sc 12 = nI ps) : upd sc 13 (sc 12) = upd (upd sc 13 (nI ps)) 12 (nI ps) := sorry
/-- after a digit 0 or 1 (c): the digits of a weight from ps on, each worth u; none where one must be 0 and isn't -/
def wlp (T : List Nat) (c : Nat) : Nat → Nat → Nat → Nat → Option (Nat × Nat)
  | 0, _, v, ps => some (v, ps)
  | n + 1, u, v, ps => if 0 < u ∧ isDg (T.getD ps 0) = true then (if c = 49 ∧ 48 < T.getD ps 0 then none else wlp T c n (u / 10) (v + u * (T.getD ps 0 - 48)) (ps + 1)) else some (v, ps)
/-- a weight's number from ps on: its thousandths and the place behind it -/
def wgt (T : List Nat) (ps : Nat) : Option (Nat × Nat) := if T.getD ps 0 = 48 ∨ T.getD ps 0 = 49 then (if T.getD (ps + 1) 0 = 46 then wlp T (T.getD ps 0) 4 100 (1000 * (T.getD ps 0 - 48)) (ps + 2) else some (1000 * (T.getD ps 0 - 48), ps + 1)) else none
set_option maxRecDepth 100000 in
set_option maxHeartbeats 4000000 in
theorem c_Mo_token (l : Launch) (D : va_G) (tys : List (ClassId × FieldType)) (tc : Nat → ClassId) (hty : ∀ i : Nat, i < 4 → tys[i]? = some (tc i, vx_ty i)) (h : Nat) (ar : Nat → Nat) (now : Int64) (sc : Nat → Int32) (ai : Nat → Nat → Int32) (al : Nat → Nat → Int64) (F : Nat) (T : List Nat) (ps : Nat) (hM : mdS sc ai F T ps) : Kt l y_Mo_token (yw y_Mo_token b_Mo_token 1 (some .boolean)) 2 41 0 0 D cls tys (fun _ _ _ => True) [.ref h] (mdW tc h ar now sc ai al) (fun r w => r = some (.int (bI (decide (ps < (pz T ps isTk))))) ∧ w = mdW tc h ar now (upd (upd (upd sc 13 (nI ps)) 12 (nI (pz T ps isTk))) 14 (nI (pz T ps isTk))) ai al) := sorry
set_option maxRecDepth 100000 in
set_option maxHeartbeats 4000000 in
theorem c_Mo_digits (l : Launch) (D : va_G) (tys : List (ClassId × FieldType)) (tc : Nat → ClassId) (hty : ∀ i : Nat, i < 4 → tys[i]? = some (tc i, vx_ty i)) (h : Nat) (ar : Nat → Nat) (now : Int64) (sc : Nat → Int32) (ai : Nat → Nat → Int32) (al : Nat → Nat → Int64) (F : Nat) (T : List Nat) (ps : Nat) (hM : mdS sc ai F T ps) (mn : Nat) (hmn : mn < 100) : Kt l y_Mo_digits (yw y_Mo_digits b_Mo_digits 4 (some .int)) 2 41 0 0 D cls tys (fun _ _ _ => True) [.ref h, .int (nI mn)] (mdW tc h ar now sc ai al) (fun r w => r = some (.int (iI (dgq T mn 0 ps).1)) ∧ w = mdW tc h ar now (upd sc 12 (nI (dgq T mn 0 ps).2)) ai al) := sorry
/-! THE REFERENCE: weights, stars, by program (wip/whole/gen/p33.py) -/
theorem upd_12_16 {f : Nat → Int32} {a b v : Int32} : upd (upd (upd f 12 a) 16 v) 12 b = upd (upd f 12 b) 16 v := sorry
/-- the world behind a weight -/
def wgP (tc : Nat → ClassId) (h : Nat) (ar : Nat → Nat) (now : Int64) (sc : Nat → Int32) (ai : Nat → Nat → Int32) (al : Nat → Nat → Int64) (v : Option (Nat × Nat)) (r : Option Value) (w : va_W) : Prop := match v with
  | some q => r = some (.int 1) ∧ w = mdW tc h ar now (upd (upd sc 12 (nI q.2)) 16 (nI q.1)) ai al
  | none => r = some (.int 0) ∧ ∃ a b : Int32, w = mdW tc h ar now (upd (upd sc 12 a) 16 b) ai al
theorem w0_eq {c : Nat} (h : 48 ≤ c) : (1000 : Int32) * (nI c - 48) = nI (1000 * (c - 48)) := sorry
theorem wlp_no {T : List Nat} {c n u v ps : Nat} (h : ¬ (0 < u ∧ isDg (T.getD ps 0) = true)) : wlp T c n u v ps = some (v, ps) := sorry
set_option maxRecDepth 100000 in
set_option maxHeartbeats 4000000 in
theorem c_Mo_weight (l : Launch) (D : va_G) (tys : List (ClassId × FieldType)) (tc : Nat → ClassId) (hty : ∀ i : Nat, i < 4 → tys[i]? = some (tc i, vx_ty i)) (h : Nat) (ar : Nat → Nat) (now : Int64) (sc : Nat → Int32) (ai : Nat → Nat → Int32) (al : Nat → Nat → Int64) (F : Nat) (T : List Nat) (ps : Nat) (hM : mdS sc ai F T ps) : Kt l y_Mo_weight (yw y_Mo_weight b_Mo_weight 4 (some .boolean)) 3 63 0 0 D cls tys (fun _ _ _ => True) [.ref h] (mdW tc h ar now sc ai al) (fun r w => wgP tc h ar now sc ai al (wgt T ps) r w) := sorry
/-- a weight, if a semicolon comes: its thousandths and the place behind it -/
def wia (T : List Nat) (ps : Nat) : Option (Nat × Nat) := if T.getD (pz T ps isGp) 0 = 59 then (if lwr (T.getD (pz T (pz T ps isGp + 1) isGp) 0) = 113 then (if T.getD (pz T (pz T ps isGp + 1) isGp + 1) 0 = 61 then wgt T (pz T (pz T ps isGp + 1) isGp + 2) else none) else none) else some (1000, ps)
theorem upd_16_12 {f : Nat → Int32} {a v : Int32} : upd (upd f 16 v) 12 a = upd (upd f 12 a) 16 v := sorry
theorem upd_16_16 {f : Nat → Int32} {a v w : Int32} : upd (upd (upd f 12 a) 16 v) 16 w = upd (upd f 12 a) 16 w := sorry
set_option maxRecDepth 100000 in
set_option maxHeartbeats 4000000 in
theorem c_Mo_weightIfAny (l : Launch) (D : va_G) (tys : List (ClassId × FieldType)) (tc : Nat → ClassId) (hty : ∀ i : Nat, i < 4 → tys[i]? = some (tc i, vx_ty i)) (h : Nat) (ar : Nat → Nat) (now : Int64) (sc : Nat → Int32) (ai : Nat → Nat → Int32) (al : Nat → Nat → Int64) (F : Nat) (T : List Nat) (ps : Nat) (hM : mdS sc ai F T ps) : Kt l y_Mo_weightIfAny (yw y_Mo_weightIfAny b_Mo_weightIfAny 1 (some .boolean)) 4 86 0 0 D cls tys (fun _ _ _ => True) [.ref h] (mdW tc h ar now sc ai al) (fun r w => wgP tc h ar now sc ai al (wia T ps) r w) := sorry
/-! THE REFERENCE: stars, numbers, words, by program (wip/whole/gen/p34.py) -/
/-- a star among n characters from a on -/
def stq (T : List Nat) : Nat → Nat → Bool
  | 0, _ => false
  | n + 1, a => decide (T.getD a 0 = 42) || stq T n (a + 1)
/-- the bytes of a long, up to the first 0 -/
def isWd (w : Int64) (W : List Nat) : Prop := W.length ≤ 8 ∧ (∀ k, k < W.length → (w >>> (((8 : Int32) * nI k).toInt64 &&& 63)) &&& 255 = lN (W.getD k 0) ∧ 0 < W.getD k 0 ∧ W.getD k 0 < 256) ∧ (W.length < 8 → (w >>> (((8 : Int32) * nI W.length).toInt64 &&& 63)) &&& 255 = 0)
theorem lg0 {x : Int64} : lg_cmp x 0 = 0 ↔ x = 0 := sorry
theorem lN_ne0 {x : Nat} (h0 : 0 < x) (h : x < 256) : ¬ lN x = 0 := sorry
/-- W stands, letters alike, from p on -/
def syq (T : List Nat) : Nat → List Nat → Bool
  | _, [] => true
  | p, c :: W => decide (lwr (T.getD p 0) = c) && syq T (p + 1) W
set_option maxRecDepth 100000 in
set_option maxHeartbeats 4000000 in
theorem c_Mo_starred (l : Launch) (D : va_G) (tys : List (ClassId × FieldType)) (tc : Nat → ClassId) (hty : ∀ i : Nat, i < 4 → tys[i]? = some (tc i, vx_ty i)) (h : Nat) (ar : Nat → Nat) (now : Int64) (sc : Nat → Int32) (ai : Nat → Nat → Int32) (al : Nat → Nat → Int64) (F : Nat) (T : List Nat) (ps : Nat) (hM : mdS sc ai F T ps) (a e : Nat) (hae : a ≤ e) (he : e ≤ 500) : Kt l y_Mo_starred (yw y_Mo_starred b_Mo_starred 5 (some .boolean)) 1 21 0 0 D cls tys (fun _ _ _ => True) [.ref h, .int (nI a), .int (nI e)] (mdW tc h ar now sc ai al) (fun r w => r = some (.int (bI (stq T (e - a) a))) ∧ w = (mdW tc h ar now sc ai al)) := sorry
set_option maxRecDepth 100000 in
set_option maxHeartbeats 4000000 in
theorem c_Mo_lengthOf (l : Launch) (D : va_G) (tys : List (ClassId × FieldType)) (tc : Nat → ClassId) (hty : ∀ i : Nat, i < 4 → tys[i]? = some (tc i, vx_ty i)) (w : Int64) (W : List Nat) (hW : isWd w W) : Kt l y_Mo_lengthOf (yw y_Mo_lengthOf b_Mo_lengthOf 3 (some .int)) 0 0 0 0 D cls tys (fun _ _ _ => True) [.long w] [] (fun r w => r = some (.int (nI W.length)) ∧ w = []) := sorry
set_option maxRecDepth 100000 in
set_option maxHeartbeats 4000000 in
theorem c_Mo_says (l : Launch) (D : va_G) (tys : List (ClassId × FieldType)) (tc : Nat → ClassId) (hty : ∀ i : Nat, i < 4 → tys[i]? = some (tc i, vx_ty i)) (h : Nat) (ar : Nat → Nat) (now : Int64) (sc : Nat → Int32) (ai : Nat → Nat → Int32) (al : Nat → Nat → Int64) (F : Nat) (T : List Nat) (ps : Nat) (hM : mdS sc ai F T ps) (w : Int64) (W : List Nat) (hW : isWd w W) (pl : Nat) (hpl : pl ≤ 500) : Kt l y_Mo_says (yw y_Mo_says b_Mo_says 7 (some .boolean)) 1 22 0 0 D cls tys (fun _ _ _ => True) [.ref h, .int (nI pl), .long w] (mdW tc h ar now sc ai al) (fun r w0 => r = some (.int (bI (syq T pl W))) ∧ w0 = (mdW tc h ar now sc ai al)) := sorry
set_option maxRecDepth 100000 in
set_option maxHeartbeats 4000000 in
theorem c_Mo_isWord (l : Launch) (D : va_G) (tys : List (ClassId × FieldType)) (tc : Nat → ClassId) (hty : ∀ i : Nat, i < 4 → tys[i]? = some (tc i, vx_ty i)) (h : Nat) (ar : Nat → Nat) (now : Int64) (sc : Nat → Int32) (ai : Nat → Nat → Int32) (al : Nat → Nat → Int64) (F : Nat) (T : List Nat) (ps : Nat) (hM : mdS sc ai F T ps) (w : Int64) (W : List Nat) (hW : isWd w W) (a e : Nat) (hae : a ≤ e) (he : e ≤ 500) : Kt l y_Mo_isWord (yw y_Mo_isWord b_Mo_isWord 5 (some .boolean)) 2 48 0 0 D cls tys (fun _ _ _ => True) [.ref h, .int (nI a), .int (nI e), .long w] (mdW tc h ar now sc ai al) (fun r w0 => r = some (.int (bI (decide (e - a = W.length) && syq T a W))) ∧ w0 = (mdW tc h ar now sc ai al)) := sorry
/-! THE REFERENCE: numbers, quoted texts, assigned values, tongues, by program (wip/whole/gen/p35.py) -/
/-- the same but for at, from, to, isOne -/
def fq (s t : Nat → Int32) : Prop := ∀ k, k ≠ 12 → k ≠ 13 → k ≠ 14 → k ≠ 19 → t k = s k
theorem fq.refl {s : Nat → Int32} : fq s s := sorry
theorem fq.upd {s t : Nat → Int32} {k : Nat} {v : Int32} (h : fq s t) (h1 : k = 12 ∨ k = 13 ∨ k = 14 ∨ k = 19) (_ : True) : fq s (upd t k v) := sorry
theorem fq.trans {s t u : Nat → Int32} (h : fq s t) (g : fq t u) : fq s u := sorry
theorem mdS.fq {sc s2 : Nat → Int32} {ai : Nat → Nat → Int32} {F : Nat} {T : List Nat} {ps p2 : Nat} (h : mdS sc ai F T ps) (g : fq sc s2) (h12 : s2 12 = nI p2) (h2 : p2 ≤ 400) : mdS s2 ai F T p2 := sorry
/-- the same but for the places that reading changes -/
def gq (s t : Nat → Int32) : Prop := ∀ k, k < 11 ∨ 20 ≤ k → t k = s k
theorem gq.refl {s : Nat → Int32} : gq s s := sorry
theorem gq.upd {s t : Nat → Int32} {k : Nat} {v : Int32} (h : gq s t) (h1 : 11 ≤ k ∧ k < 20) : gq s (upd t k v) := sorry
theorem gq.trans {s t u : Nat → Int32} (h : gq s t) (g : gq t u) : gq s u := sorry
theorem fq.gq {s t : Nat → Int32} (h : fq s t) : gq s t := sorry
theorem mdS.gq {sc s2 : Nat → Int32} {ai : Nat → Nat → Int32} {F : Nat} {T : List Nat} {ps p2 : Nat} (h : mdS sc ai F T ps) (g : s2 11 = sc 11) (h12 : s2 12 = nI p2) (h2 : p2 ≤ 400) : mdS s2 ai F T p2 := sorry
section
variable {p : Program} {l : Launch} {e : Env} {R : Room} {s : State} {m : MethodId} {args : Array Value} {below : List Frame} {meth : Method} {c : Code} {cc : ByteArray} {nL : Nat} {D : va_G} {tys : List (ClassId × FieldType)} {A : Nat → Prop} {tc : Nat → ClassId} {Q : State → Prop} {st : List Value} {k n : Nat} {K : List Value → va_W → Nat → Nat → Prop} {y0 : MethodName} {b0 : ByteArray} {n0 index : Nat} {r0 : Option FieldType} {ws : va_W} {own : String}
theorem sx_ldcw (hC : Cx p s m args c cc nL own (yw y0 b0 n0 r0) D cls tys A tc) {v : Int32} (hw : Jvm.Cond.constant own index v ∈ gw) (kk : K (.int v :: st) ws k n) : vx_SX cc (Vx p l e R s m args below meth c nL D cls A Q) (.ldc_w index) 3 st ws k n K := sorry
end
/-- nine digits at most, else the greatest -/
def vv (S : List Nat) : Nat := if S.length ≤ 9 then f9 S else 999999999
theorem vv_nm {S : List Nat} (h : S ≠ []) : nmv S = some (vv S) := sorry
theorem tkw_add {T : List Nat} {pp : Nat} {q : Nat → Bool} {S R : List Nat} (h : q (T.getD pp 0) = true) (hl : pp < T.length) (e : S ++ (T.drop pp).takeWhile q = R) : (S ++ [T.getD pp 0]) ++ (T.drop (pp + 1)).takeWhile q = R := sorry
theorem tkw_no {T : List Nat} {pp : Nat} {q : Nat → Bool} (h : q (T.getD pp 0) = false) : (T.drop pp).takeWhile q = [] := sorry
theorem pz_tw {T : List Nat} {ps : Nat} {q : Nat → Bool} : pz T ps q = ps + ((T.drop ps).takeWhile q).length := sorry
theorem pz_dw {T : List Nat} {ps : Nat} {q : Nat → Bool} : T.drop (pz T ps q) = (T.drop ps).dropWhile q := sorry
set_option maxRecDepth 100000 in
set_option maxHeartbeats 4000000 in
theorem c_Mo_many (l : Launch) (D : va_G) (tys : List (ClassId × FieldType)) (tc : Nat → ClassId) (hty : ∀ i : Nat, i < 4 → tys[i]? = some (tc i, vx_ty i)) (h : Nat) (ar : Nat → Nat) (now : Int64) (sc : Nat → Int32) (ai : Nat → Nat → Int32) (al : Nat → Nat → Int64) (F : Nat) (T : List Nat) (ps : Nat) (hM : mdS sc ai F T ps) : Kt l y_Mo_many (yw y_Mo_many b_Mo_many 3 (some .int)) 2 41 0 0 D cls tys (fun _ _ _ => True) [.ref h] (mdW tc h ar now sc ai al) (fun r w => r = some (.int (iI (nmv ((T.drop ps).takeWhile isDg)))) ∧ w = mdW tc h ar now (upd sc 12 (nI (pz T ps isDg))) ai al) := sorry
/-- the world behind a reading: what it says, where it ended -/
def qP (tc : Nat → ClassId) (h : Nat) (ar : Nat → Nat) (now : Int64) (sc : Nat → Int32) (ai : Nat → Nat → Int32) (al : Nat → Nat → Int64) (T : List Nat) (b : Bool) (rest : List Nat) (X : (Nat → Int32) → Prop) (r : Option Value) (w : va_W) : Prop := r = some (.int (bI b)) ∧ ∃ s2, w = mdW tc h ar now s2 ai al ∧ fq sc s2 ∧ (b = true → ∃ p2, p2 ≤ T.length ∧ T.drop p2 = rest ∧ s2 12 = nI p2 ∧ X s2)
theorem qP.no {tc : Nat → ClassId} {h : Nat} {ar : Nat → Nat} {now : Int64} {sc s2 : Nat → Int32} {ai : Nat → Nat → Int32} {al : Nat → Nat → Int64} {T rest : List Nat} {b : Bool} {X : (Nat → Int32) → Prop} (hb : b = false) (hf : fq sc s2) : qP tc h ar now sc ai al T b rest X (some (.int 0)) (mdW tc h ar now s2 ai al) := sorry
theorem bI_fits (b : Bool) : fits .boolean (.int (bI b)) = true := sorry
theorem one_dec {S : List Nat} {c : Nat} : (decide (S.length + 1 = 1) && decide (c = 49)) = decide (S ++ [c] = [49]) := sorry
theorem qtx_o {x : Nat} {r S : List Nat} (h1 : ¬ x = 34) (h2 : ¬ x = 92) (h3 : isQt x = true) : qtx (x :: r) S = qtx r (S ++ [x]) := sorry
theorem qtx_bad {T S : List Nat} {pp : Nat} (h1 : ¬ T.getD pp 0 = 34) (h2 : ¬ T.getD pp 0 = 92) (h3 : isQt (T.getD pp 0) = false) : (qtx (T.drop pp) S).1 = false := sorry
set_option maxRecDepth 100000 in
set_option maxHeartbeats 4000000 in
theorem c_Mo_quoted (l : Launch) (D : va_G) (tys : List (ClassId × FieldType)) (tc : Nat → ClassId) (hty : ∀ i : Nat, i < 4 → tys[i]? = some (tc i, vx_ty i)) (h : Nat) (ar : Nat → Nat) (now : Int64) (sc : Nat → Int32) (ai : Nat → Nat → Int32) (al : Nat → Nat → Int64) (F : Nat) (T : List Nat) (ps : Nat) (hM : mdS sc ai F T ps) (hpl : ps < T.length) : Kt l y_Mo_quoted (yw y_Mo_quoted b_Mo_quoted 4 (some .boolean)) 3 63 0 0 D cls tys (fun _ _ _ => True) [.ref h] (mdW tc h ar now sc ai al) (fun r w => qP tc h ar now sc ai al T (qtx (T.drop (ps + 1)) []).1 (qtx (T.drop (ps + 1)) []).2.1 (fun s2 => s2 19 = bI (decide ((qtx (T.drop (ps + 1)) []).2.2 = [49]))) r w) := sorry
/-! THE REFERENCE: assigned values, tongues, words, by program (wip/whole/gen/p36.py) -/
/-- what stands from a to b -/
def sl (T : List Nat) (a b : Nat) : List Nat := (T.drop a).take (b - a)
theorem sl_len {T : List Nat} {a b : Nat} (h : b ≤ T.length) : (sl T a b).length = b - a := sorry
theorem sl_get {T : List Nat} {a b k : Nat} (h : k < b - a) : (sl T a b).getD k 0 = T.getD (a + k) 0 := sorry
theorem sl_snoc {T : List Nat} {a b : Nat} (h : a ≤ b) (hb : b < T.length) : sl T a (b + 1) = sl T a b ++ [T.getD b 0] := sorry
theorem sl_nil {T : List Nat} {a : Nat} : sl T a a = [] := sorry
theorem sl_app {T S : List Nat} {a b : Nat} (h1 : b ≤ T.length) (h2 : a ≤ T.length) (h : S ++ T.drop b = T.drop a) : S = sl T a b ∧ a ≤ b := sorry
theorem sl_tw {T : List Nat} {a : Nat} {q : Nat → Bool} : (T.drop a).takeWhile q = sl T a (pz T a q) := sorry
theorem pz_lt {T : List Nat} {a : Nat} {q : Nat → Bool} (h : a ≤ T.length) : pz T a q ≤ T.length := sorry
theorem pz_ge {T : List Nat} {a : Nat} {q : Nat → Bool} : a ≤ pz T a q := sorry
theorem sl_one {T : List Nat} {a b c : Nat} (h : b ≤ T.length) : sl T a b = [c] ↔ b - a = 1 ∧ T.getD a 0 = c := sorry
theorem pk_at {T : List Nat} {ps c : Nat} (hc : 0 < c) : pk c (T.drop ps) = if T.getD ps 0 = c then (true, T.drop (ps + 1)) else (false, T.drop ps) := sorry
/-- = and a value: a quoted text or a token -/
def asg (rs : List Nat) : Bool × List Nat × List Nat := if (pk 61 rs).1 = true then (if (pk 34 (pk 61 rs).2).1 = true then qtx (pk 34 (pk 61 rs).2).2 [] else (!((pk 61 rs).2.takeWhile isTk).isEmpty, (pk 61 rs).2.dropWhile isTk, (pk 61 rs).2.takeWhile isTk)) else (false, [], [])
theorem asg_n {T : List Nat} {ps : Nat} (h : ¬ T.getD ps 0 = 61) : (asg (T.drop ps)).1 = false := sorry
theorem asg_q {T : List Nat} {ps : Nat} (h : T.getD ps 0 = 61) (h2 : T.getD (ps + 1) 0 = 34) : asg (T.drop ps) = qtx (T.drop (ps + 2)) [] := sorry
theorem asg_t {T : List Nat} {ps : Nat} (h : T.getD ps 0 = 61) (h2 : ¬ T.getD (ps + 1) 0 = 34) : asg (T.drop ps) = (decide (ps + 1 < pz T (ps + 1) isTk), T.drop (pz T (ps + 1) isTk), sl T (ps + 1) (pz T (ps + 1) isTk)) := sorry
set_option maxRecDepth 100000 in
set_option maxHeartbeats 4000000 in
theorem c_Mo_assigned (l : Launch) (D : va_G) (tys : List (ClassId × FieldType)) (tc : Nat → ClassId) (hty : ∀ i : Nat, i < 4 → tys[i]? = some (tc i, vx_ty i)) (h : Nat) (ar : Nat → Nat) (now : Int64) (sc : Nat → Int32) (ai : Nat → Nat → Int32) (al : Nat → Nat → Int64) (F : Nat) (T : List Nat) (ps : Nat) (hM : mdS sc ai F T ps) : Kt l y_Mo_assigned (yw y_Mo_assigned b_Mo_assigned 1 (some .boolean)) 4 86 0 0 D cls tys (fun _ _ _ => True) [.ref h] (mdW tc h ar now sc ai al) (fun r w => qP tc h ar now sc ai al T (asg (T.drop ps)).1 (asg (T.drop ps)).2.1 (fun s2 => s2 19 = bI (decide ((asg (T.drop ps)).2.2 = [49]))) r w) := sorry
theorem lng_app {sub : Nat} {dt : Bool} {rs S : List Nat} : (lng sub dt rs S).2.2 ++ (lng sub dt rs S).2.1 = S ++ rs := sorry
theorem lnq_b0 {T S : List Nat} {pp : Nat} {dt : Bool} (hin : pp < T.length) (h : T.getD pp 0 = 45) : (lng 0 dt (T.drop pp) S).1 = false := sorry
theorem lnq_b1 {T S : List Nat} {pp sub : Nat} {dt : Bool} (hin : pp < T.length) (h : T.getD pp 0 = 45) (hs : ¬ sub < 1) : lng sub dt (T.drop pp) S = lng 0 true (T.drop (pp + 1)) (S ++ [T.getD pp 0]) := sorry
theorem lnq_l8 {T S : List Nat} {pp sub : Nat} {dt : Bool} (hin : pp < T.length) (h : ¬ T.getD pp 0 = 45) (hl : (isLt (T.getD pp 0) || (dt && isDg (T.getD pp 0))) = true) (hs : sub = 8) : (lng sub dt (T.drop pp) S).1 = false := sorry
theorem lnq_l {T S : List Nat} {pp sub : Nat} {dt : Bool} (hin : pp < T.length) (h : ¬ T.getD pp 0 = 45) (hl : (isLt (T.getD pp 0) || (dt && isDg (T.getD pp 0))) = true) (hs : ¬ sub = 8) : lng sub dt (T.drop pp) S = lng (sub + 1) dt (T.drop (pp + 1)) (S ++ [T.getD pp 0]) := sorry
theorem lnq_x {T S : List Nat} {pp sub : Nat} {dt : Bool} (h : ¬ T.getD pp 0 = 45) (hl : (isLt (T.getD pp 0) || (dt && isDg (T.getD pp 0))) = false) : lng sub dt (T.drop pp) S = (decide (0 < sub), T.drop pp, S) := sorry
theorem ltq_0 : isLt 0 = false := sorry
theorem dgq_0 : isDg 0 = false := sorry
set_option maxRecDepth 100000 in
set_option maxHeartbeats 4000000 in
theorem c_Mo_tongue (l : Launch) (D : va_G) (tys : List (ClassId × FieldType)) (tc : Nat → ClassId) (hty : ∀ i : Nat, i < 4 → tys[i]? = some (tc i, vx_ty i)) (h : Nat) (ar : Nat → Nat) (now : Int64) (sc : Nat → Int32) (ai : Nat → Nat → Int32) (al : Nat → Nat → Int64) (F : Nat) (T : List Nat) (ps : Nat) (hM : mdS sc ai F T ps) (hpl : ps ≤ T.length) : Kt l y_Mo_tongue (yw y_Mo_tongue b_Mo_tongue 5 (some .boolean)) 2 41 0 0 D cls tys (fun _ _ _ => True) [.ref h] (mdW tc h ar now sc ai al) (fun r w => qP tc h ar now sc ai al T (lng 0 false (T.drop ps) []).1 (lng 0 false (T.drop ps) []).2.1 (fun s2 => s2 13 = nI ps ∧ s2 14 = s2 12) r w) := sorry
/-! THE REFERENCE: words of types and languages, by program (wip/whole/gen/p37.py) -/
def WDS : List (List Nat) := [[116, 101, 120, 116], [104, 116, 109, 108], [112, 108, 97, 105, 110], [106, 115, 111, 110], [105, 109, 97, 103, 101], [112, 110, 103], [115, 118, 103, 43, 120, 109, 108], [108, 101, 118, 101, 108], [97, 112, 112, 108, 105, 99, 97, 116], [105, 111, 110], [101, 110], [101, 110, 45, 117, 115], [100, 101], [100, 101, 45, 97, 116], [102, 114]]
/-- the words that the reference keeps -/
def mdWd (al : Nat → Nat → Int64) : Prop := ∀ i, i < 15 → isWd (al 13 i) (WDS.getD i [])
def mnL (k : Nat) : List Nat := if k = 2 then [97, 112, 112, 108, 105, 99, 97, 116, 105, 111, 110] else if k = 3 ∨ k = 5 then [105, 109, 97, 103, 101] else [116, 101, 120, 116]
def snL (k : Nat) : List Nat := if k = 0 ∨ k = 4 then [104, 116, 109, 108] else if k = 1 then [112, 108, 97, 105, 110] else if k = 2 then [106, 115, 111, 110] else if k = 3 then [112, 110, 103] else [115, 118, 103, 43, 120, 109, 108]
theorem sl_cons {T : List Nat} {a b : Nat} (h : a < b) (hb : b ≤ T.length) : sl T a b = T.getD a 0 :: sl T (a + 1) b := sorry
theorem syq_sl {T W : List Nat} {a b : Nat} (h : a ≤ b) (hb : b ≤ T.length) : (decide (b - a = W.length) && syq T a W) = decide ((sl T a b).map lwr = W) := sorry
theorem syq_app {T V W : List Nat} {a : Nat} : syq T a (V ++ W) = (syq T a V && syq T (a + V.length) W) := sorry
theorem stq_sl {T : List Nat} {a b : Nat} (h : a ≤ b) (hb : b ≤ T.length) : stq T (b - a) a = ss_star (sl T a b) := sorry
section
variable {p : Program} {l : Launch} {e : Env} {R : Room} {s : State} {m : MethodId} {args : Array Value} {below : List Frame} {meth : Method} {c : Code} {nL : Nat} {D : va_G} {A : Nat → Prop} {cl : List vw_C} {Q : State → Prop}
/-- a place where roads meet -/
theorem vx_cut {α : Type} (pc2 : Nat) (J : α → Prop) (lvf : α → wq_L) (st2 : α → List Value) (wsf : α → va_W) {pc k n : Nat} {lv : wq_L} {st : List Value} {ws : va_W} (h2 : (∀ x, J x → Vx p l e R s m args below meth c nL D cl A Q pc2 (lvf x) (st2 x) (wsf x) k n) → Vx p l e R s m args below meth c nL D cl A Q pc lv st ws k n) (h1 : ∀ x, J x → Vx p l e R s m args below meth c nL D cl A Q pc2 (lvf x) (st2 x) (wsf x) k n) : Vx p l e R s m args below meth c nL D cl A Q pc lv st ws k n := sorry
end
theorem lgc {x y : Int64} : lg_cmp x y = 0 ↔ x = y := sorry
theorem take_snoc {W : List Nat} {i : Nat} (h : i < W.length) : W.take (i + 1) = W.take i ++ [W.getD i 0] := sorry
theorem take_getD {W : List Nat} {i n : Nat} (h : i < n) : (W.take n).getD i 0 = W.getD i 0 := sorry
/-- S is W or what stands in it before a - -/
def spk (S W : List Nat) : Bool := decide (S.length ≤ W.length) && (decide (S.map lwr = W.take S.length) && (decide (S.length = W.length) || decide (W.getD S.length 0 = 45)))
set_option maxRecDepth 100000 in
set_option maxHeartbeats 4000000 in
theorem c_Mo_isMain (l : Launch) (D : va_G) (tys : List (ClassId × FieldType)) (tc : Nat → ClassId) (hty : ∀ i : Nat, i < 4 → tys[i]? = some (tc i, vx_ty i)) (h : Nat) (ar : Nat → Nat) (now : Int64) (sc : Nat → Int32) (ai : Nat → Nat → Int32) (al : Nat → Nat → Int64) (F : Nat) (T : List Nat) (ps : Nat) (hM : mdS sc ai F T ps) (a b : Nat) (hab : a ≤ b) (hb : b ≤ T.length) (kd : Nat) (hkd : kd < 6) (hWd : mdWd al) : Kt l y_Mo_isMain (yw y_Mo_isMain b_Mo_isMain 4 (some .boolean)) 3 72 0 0 D cls tys (fun _ _ _ => True) [.ref h, .int (nI a), .int (nI b), .int (nI kd)] (mdW tc h ar now sc ai al) (fun r w => r = some (.int (bI (decide ((sl T a b).map lwr = mnL kd)))) ∧ w = (mdW tc h ar now sc ai al)) := sorry
set_option maxRecDepth 100000 in
set_option maxHeartbeats 4000000 in
theorem c_Mo_isSub (l : Launch) (D : va_G) (tys : List (ClassId × FieldType)) (tc : Nat → ClassId) (hty : ∀ i : Nat, i < 4 → tys[i]? = some (tc i, vx_ty i)) (h : Nat) (ar : Nat → Nat) (now : Int64) (sc : Nat → Int32) (ai : Nat → Nat → Int32) (al : Nat → Nat → Int64) (F : Nat) (T : List Nat) (ps : Nat) (hM : mdS sc ai F T ps) (a b : Nat) (hab : a ≤ b) (hb : b ≤ T.length) (kd : Nat) (hkd : kd < 6) (hWd : mdWd al) : Kt l y_Mo_isSub (yw y_Mo_isSub b_Mo_isSub 5 (some .boolean)) 3 72 0 0 D cls tys (fun _ _ _ => True) [.ref h, .int (nI a), .int (nI b), .int (nI kd)] (mdW tc h ar now sc ai al) (fun r w => r = some (.int (bI (decide ((sl T a b).map lwr = snL kd)))) ∧ w = (mdW tc h ar now sc ai al)) := sorry
set_option maxRecDepth 100000 in
set_option maxHeartbeats 4000000 in
theorem c_Mo_speaks (l : Launch) (D : va_G) (tys : List (ClassId × FieldType)) (tc : Nat → ClassId) (hty : ∀ i : Nat, i < 4 → tys[i]? = some (tc i, vx_ty i)) (h : Nat) (ar : Nat → Nat) (now : Int64) (sc : Nat → Int32) (ai : Nat → Nat → Int32) (al : Nat → Nat → Int64) (F : Nat) (T : List Nat) (ps : Nat) (hM : mdS sc ai F T ps) (a b : Nat) (hab : a ≤ b) (hb : b ≤ T.length) (h13 : sc 13 = nI a) (h14 : sc 14 = nI b) (wh : Nat) (hwh : wh < 5) (hWd : mdWd al) : Kt l y_Mo_speaks (yw y_Mo_speaks b_Mo_speaks 6 (some .boolean)) 1 22 0 0 D cls tys (fun _ _ _ => True) [.ref h, .int (nI wh)] (mdW tc h ar now sc ai al) (fun r w => r = some (.int (bI (spk (sl T a b) (WDS.getD (10 + wh) [])))) ∧ w = (mdW tc h ar now sc ai al)) := sorry
/-! MEDIA RANGES: what they say, by program (wip/whole/gen/p38.py) -/
theorem wls_ge {u v : Nat} {rs : List Nat} : v ≤ (wls u v rs).1 := sorry
theorem wls_le {u v : Nat} {rs : List Nat} : (wls u v rs).1 ≤ v + 10 * u := sorry
theorem wlq_0 {v : Nat} {rs : List Nat} : wls 0 v rs = (v, rs) := sorry
theorem wlp_o {T : List Nat} {c n u v p : Nat} (hc : ¬ c = 49) (hu : u < 10 ^ n) : ∃ p2, wlp T c n u v p = some ((wls u v (T.drop p)).1, p2) ∧ T.drop p2 = (wls u v (T.drop p)).2 ∧ p ≤ p2 ∧ (p ≤ T.length → p2 ≤ T.length) := sorry
theorem wlp_1 {T : List Nat} {n u v p : Nat} (hu : u < 10 ^ n) : (∃ p2, wlp T 49 n u v p = some (v, p2) ∧ wls u v (T.drop p) = (v, T.drop p2) ∧ p ≤ p2 ∧ (p ≤ T.length → p2 ≤ T.length)) ∨ (wlp T 49 n u v p = none ∧ v < (wls u v (T.drop p)).1) := sorry
/-- the reference's weight is the reader's -/
theorem wt_some {T : List Nat} {ps : Nat} {q : Nat × Nat} (h : T.getD ps 0 = 61) (hq : wgt T (ps + 1) = some q) : wt (T.drop ps) = (some q.1, T.drop q.2) ∧ q.1 ≤ 1000 ∧ q.2 ≤ T.length ∧ ps < q.2 := sorry
theorem wt_none {T : List Nat} {ps : Nat} (h : T.getD ps 0 = 61) (hq : wgt T (ps + 1) = none) : (wt (T.drop ps)).1 = none := sorry
theorem wt_no {T : List Nat} {ps : Nat} (h : ¬ T.getD ps 0 = 61) : (wt (T.drop ps)).1 = none := sorry
/-- what stands behind a semicolon -/
def bsc (rs : List Nat) : List Nat := gp (pk 59 (gp rs)).2
/-- the parameters of a media range: whether it still fits, how much it tells, its weight, what is left behind a gap -/
def prm (P V : List Nat) : Nat → Bool → Nat → List Nat → Option (Bool × Nat × Nat × List Nat)
  | 0, _, _, _ => none
  | n + 1, fits, told, rs =>
    if (pk 59 (gp rs)).1 = true then
      (if (bsc rs).takeWhile isTk = [] then none
       else if alikeL ((bsc rs).takeWhile isTk) [113] = true then
         (match (wt ((bsc rs).dropWhile isTk)).1 with
           | some w => some (fits, told, w, gp (wt ((bsc rs).dropWhile isTk)).2)
           | none => none)
       else if (asg ((bsc rs).dropWhile isTk)).1 = true then prm P V n (fits && (alikeL ((bsc rs).takeWhile isTk) P && sameL (asg ((bsc rs).dropWhile isTk)).2.2 V)) (told + 1) (asg ((bsc rs).dropWhile isTk)).2.1
       else none)
    else some (fits, told, 1000, gp rs)
/-- a media range -/
def mrg (M S P V rs : List Nat) : Option (Bool × Nat × Nat × List Nat) :=
  if rs.takeWhile isTk = [] ∨ (pk 47 (rs.dropWhile isTk)).1 = false ∨ (pk 47 (rs.dropWhile isTk)).2.takeWhile isTk = [] ∨ (rs.takeWhile isTk ≠ [42] ∧ ss_star (rs.takeWhile isTk) = true) ∨ ((pk 47 (rs.dropWhile isTk)).2.takeWhile isTk ≠ [42] ∧ (rs.takeWhile isTk = [42] ∨ ss_star ((pk 47 (rs.dropWhile isTk)).2.takeWhile isTk) = true)) then none
  else prm P V 97 ((decide (rs.takeWhile isTk = [42]) || alikeL (rs.takeWhile isTk) M) && (decide ((pk 47 (rs.dropWhile isTk)).2.takeWhile isTk = [42]) || alikeL ((pk 47 (rs.dropWhile isTk)).2.takeWhile isTk) S)) ((if rs.takeWhile isTk = [42] then 0 else 1) + (if (pk 47 (rs.dropWhile isTk)).2.takeWhile isTk = [42] then 0 else 1)) ((pk 47 (rs.dropWhile isTk)).2.dropWhile isTk)
theorem gp_at {T : List Nat} {ps : Nat} : gp (T.drop ps) = T.drop (pz T ps isGp) := sorry
theorem gc_at {T : List Nat} {ps : Nat} : gc (T.drop ps) = T.drop (pz T ps isGc) := sorry
theorem sl_ne {T : List Nat} {a b : Nat} (hb : b ≤ T.length) : sl T a b = [] ↔ ¬ a < b := sorry
section
variable {T P V : List Nat} {pp n told : Nat} {fits : Bool}
theorem bsc_at (h : T.getD (pz T pp isGp) 0 = 59) : bsc (T.drop pp) = T.drop (pz T (pz T pp isGp + 1) isGp) := sorry
theorem prm_end (h : ¬ T.getD (pz T pp isGp) 0 = 59) : prm P V (n + 1) fits told (T.drop pp) = some (fits, told, 1000, gp (T.drop pp)) := sorry
theorem prm_on (h : T.getD (pz T pp isGp) 0 = 59) : prm P V (n + 1) fits told (T.drop pp) =
      (if (bsc (T.drop pp)).takeWhile isTk = [] then none
       else if alikeL ((bsc (T.drop pp)).takeWhile isTk) [113] = true then
         (match (wt ((bsc (T.drop pp)).dropWhile isTk)).1 with
           | some w => some (fits, told, w, gp (wt ((bsc (T.drop pp)).dropWhile isTk)).2)
           | none => none)
       else if (asg ((bsc (T.drop pp)).dropWhile isTk)).1 = true then prm P V n (fits && (alikeL ((bsc (T.drop pp)).takeWhile isTk) P && sameL (asg ((bsc (T.drop pp)).dropWhile isTk)).2.2 V)) (told + 1) (asg ((bsc (T.drop pp)).dropWhile isTk)).2.1
       else none) := sorry
theorem prm_nil (h : T.getD (pz T pp isGp) 0 = 59) {q b : Nat} (hq : pz T (pz T pp isGp + 1) isGp = q) (hb : pz T q isTk = b) (hbl : b ≤ T.length) (hn : ¬ q < b) : prm P V (n + 1) fits told (T.drop pp) = none := sorry
theorem prm_q (h : T.getD (pz T pp isGp) 0 = 59) {q b : Nat} (hq : pz T (pz T pp isGp + 1) isGp = q) (hb : pz T q isTk = b) (hbl : b ≤ T.length) (hn : q < b) (ha : alikeL (sl T q b) [113] = true) : prm P V (n + 1) fits told (T.drop pp) = match (wt (T.drop b)).1 with
    | some w => some (fits, told, w, gp (wt (T.drop b)).2)
    | none => none := sorry
theorem prm_as (h : T.getD (pz T pp isGp) 0 = 59) {q b : Nat} (hq : pz T (pz T pp isGp + 1) isGp = q) (hb : pz T q isTk = b) (hbl : b ≤ T.length) (hn : q < b) (ha : alikeL (sl T q b) [113] = false) : prm P V (n + 1) fits told (T.drop pp) = if (asg (T.drop b)).1 = true then prm P V n (fits && (alikeL (sl T q b) P && sameL (asg (T.drop b)).2.2 V)) (told + 1) (asg (T.drop b)).2.1 else none := sorry
end
theorem sl_oneL {T : List Nat} {a b c : Nat} (h : b ≤ T.length) (hc : lwr c = c) : alikeL (sl T a b) [c] = decide (b - a = 1 ∧ lwr (T.getD a 0) = c) := sorry
theorem wgP.fq {tc : Nat → ClassId} {h : Nat} {ar : Nat → Nat} {now : Int64} {sc : Nat → Int32} {ai : Nat → Nat → Int32} {al : Nat → Nat → Int64} {v : Option (Nat × Nat)} {r : Option Value} {w : va_W} (hp : wgP tc h ar now sc ai al v r w) : r = some (.int (bI v.isSome)) ∧ ∃ s2, w = mdW tc h ar now s2 ai al ∧ gq sc s2 ∧ s2 11 = sc 11 ∧ ∀ q, v = some q → s2 12 = nI q.2 ∧ s2 16 = nI q.1 := sorry
/-! THE REFERENCE: a media range, by program (wip/whole/gen/p39.py) -/
theorem mrg_at {T M S P V : List Nat} {ps P1 P2 : Nat} (h1 : pz T ps isTk = P1) (h2 : pz T (P1 + 1) isTk = P2) (hps : ps ≤ T.length) : mrg M S P V (T.drop ps) = if ¬ ps < P1 ∨ ¬ T.getD P1 0 = 47 ∨ ¬ P1 + 1 < P2 ∨ (¬ sl T ps P1 = [42] ∧ ss_star (sl T ps P1) = true) ∨ (¬ sl T (P1 + 1) P2 = [42] ∧ (sl T ps P1 = [42] ∨ ss_star (sl T (P1 + 1) P2) = true)) then none else prm P V 97 ((decide (sl T ps P1 = [42]) || alikeL (sl T ps P1) M) && (decide (sl T (P1 + 1) P2 = [42]) || alikeL (sl T (P1 + 1) P2) S)) ((if sl T ps P1 = [42] then 0 else 1) + (if sl T (P1 + 1) P2 = [42] then 0 else 1)) (T.drop P2) := sorry
def pnL (k : Nat) : List Nat := if k = 4 then [108, 101, 118, 101, 108] else []
def vnL (k : Nat) : List Nat := if k = 4 then [49] else []
theorem mnL_l : ∀ k, k < 6 → (mnL k).map lwr = mnL k ∧ (snL k).map lwr = snL k := sorry
theorem alike_mn {S : List Nat} {k : Nat} (h : k < 6) : decide (S.map lwr = mnL k) = alikeL S (mnL k) := sorry
theorem alike_sn {S : List Nat} {k : Nat} (h : k < 6) : decide (S.map lwr = snL k) = alikeL S (snL k) := sorry
/-- the world behind a media range -/
def mrP (tc : Nat → ClassId) (h : Nat) (ar : Nat → Nat) (now : Int64) (sc : Nat → Int32) (ai : Nat → Nat → Int32) (al : Nat → Nat → Int64) (T : List Nat) (ps : Nat) (v : Option (Bool × Nat × Nat × List Nat)) (r : Option Value) (w : va_W) : Prop := ∃ s2, w = mdW tc h ar now s2 ai al ∧ gq sc s2 ∧ s2 11 = sc 11 ∧ match v with
  | none => r = some (.int (-1))
  | some u => r = some (.int (nI (8 * u.2.1 + (if u.1 = true then 1 else 0)))) ∧ u.2.1 ≤ 100 ∧ u.2.2.1 ≤ 1000 ∧ ∃ p2, p2 ≤ T.length ∧ gp (T.drop p2) = u.2.2.2 ∧ s2 12 = nI p2 ∧ s2 16 = nI u.2.2.1 ∧ ps < p2
theorem val8 {t : Nat} (b : Bool) : (8 : Int32) * nI t + bI b = nI (8 * t + (if b = true then 1 else 0)) := sorry
theorem qtx_len {rs S : List Nat} : (qtx rs S).2.1.length ≤ rs.length := sorry
theorem asg_prog {T : List Nat} {b p : Nat} (hb : b ≤ T.length) (hp : p ≤ T.length) (h : (asg (T.drop b)).1 = true) (he : T.drop p = (asg (T.drop b)).2.1) : b < p := sorry
set_option maxRecDepth 100000 in
set_option maxHeartbeats 4000000 in
theorem c_Mo_mediaRange (l : Launch) (D : va_G) (tys : List (ClassId × FieldType)) (tc : Nat → ClassId) (hty : ∀ i : Nat, i < 4 → tys[i]? = some (tc i, vx_ty i)) (h : Nat) (ar : Nat → Nat) (now : Int64) (sc : Nat → Int32) (ai : Nat → Nat → Int32) (al : Nat → Nat → Int64) (F : Nat) (T : List Nat) (ps : Nat) (hM : mdS sc ai F T ps) (hpl0 : ps ≤ T.length) (kd : Nat) (hkd : kd < 6) (hWd : mdWd al) : Kt l y_Mo_mediaRange (yw y_Mo_mediaRange b_Mo_mediaRange 8 (some .int)) 5 106 0 0 D cls tys (fun _ _ _ => True) [.ref h, .int (nI kd)] (mdW tc h ar now sc ai al) (fun r w => mrP tc h ar now sc ai al T ps (mrg (mnL kd) (snL kd) (pnL kd) (vnL kd) (T.drop ps)) r w) := sorry
/-! THE REFERENCE: the field Accept, by program (wip/whole/gen/p40.py) -/
/-- the list of media ranges: the quality of a type; els: elements so far, mt: 0 or one more than what the best one told, q: its weight -/
def accL (M S P V : List Nat) : Nat → Nat → Nat → Nat → List Nat → Option Nat
  | 0, _, _, _, _ => none
  | n + 1, els, mt, q, rs => if gc rs = [] then (if els = 0 then none else some q) else match mrg M S P V (gc rs) with
    | none => none
    | some u => if ee u.2.2.2 = true then accL M S P V n (els + 1) (if u.1 = true ∧ mt < u.2.1 + 1 then u.2.1 + 1 else mt) (if u.1 = true ∧ mt < u.2.1 + 1 then u.2.2.1 else q) u.2.2.2 else none
theorem accL_gc {M S P V : List Nat} {n els mt q : Nat} {r1 r2 : List Nat} (h : gc r1 = gc r2) : accL M S P V n els mt q r1 = accL M S P V n els mt q r2 := sorry
def mdT (ai : Nat → Nat → Int32) (G : Nat) (T : List Nat) : Prop := G < 8 ∧ ai 8 G = nI T.length ∧ (∀ j, j < T.length → ai 7 (96 * G + j) = nI (T.getD j 0)) ∧ isT T
theorem mdT.opn {sc : Nat → Int32} {ai : Nat → Nat → Int32} {G : Nat} {T : List Nat} (h : mdT ai G T) : mdS (upd (upd sc 11 (nI G)) 12 (nI 0)) ai G T 0 := sorry
theorem mrP.get {tc : Nat → ClassId} {h : Nat} {ar : Nat → Nat} {now : Int64} {sc : Nat → Int32} {ai : Nat → Nat → Int32} {al : Nat → Nat → Int64} {T : List Nat} {ps : Nat} {v : Option (Bool × Nat × Nat × List Nat)} {r : Option Value} {w : va_W} (hp : mrP tc h ar now sc ai al T ps v r w) : ∃ g s2, r = some (.int g) ∧ w = mdW tc h ar now s2 ai al ∧ gq sc s2 ∧ s2 11 = sc 11 ∧ (v = none → g = -1) ∧ ∀ u, v = some u → g = nI (8 * u.2.1 + (if u.1 = true then 1 else 0)) ∧ u.2.1 ≤ 100 ∧ u.2.2.1 ≤ 1000 ∧ ∃ p2, p2 ≤ T.length ∧ gp (T.drop p2) = u.2.2.2 ∧ s2 12 = nI p2 ∧ s2 16 = nI u.2.2.1 ∧ ps < p2 := sorry
def bq (mt : Nat) : Int32 := if mt = 0 then -1 else nI (8 * (mt - 1) + 1)
theorem bq_le {t mt : Nat} (h1 : t ≤ 100) (h2 : mt ≤ 101) : nI (8 * t + 1) ≤ bq mt ↔ t + 1 ≤ mt := sorry
/-- between two elements -/
theorem sep_no {T : List Nat} {P : Nat} (h : ¬ 0 ≤ sepv T P) : ee (T.drop P) = false := sorry
theorem sep_yes {T : List Nat} {P : Nat} (h : 0 ≤ sepv T P) : ee (T.drop P) = true ∧ ∃ mo : Bool, sepv T P = bI mo ∧ (mo = false → gc (T.drop P) = []) ∧ gc (T.drop (if T.getD P 0 = 44 then P + 1 else P)) = gc (T.drop P) ∧ (P ≤ T.length → (if T.getD P 0 = 44 then P + 1 else P) ≤ T.length) ∧ P ≤ (if T.getD P 0 = 44 then P + 1 else P) := sorry
set_option maxRecDepth 100000 in
set_option maxHeartbeats 4000000 in
theorem c_Mo_accepted (l : Launch) (D : va_G) (tys : List (ClassId × FieldType)) (tc : Nat → ClassId) (hty : ∀ i : Nat, i < 4 → tys[i]? = some (tc i, vx_ty i)) (h : Nat) (ar : Nat → Nat) (now : Int64) (sc : Nat → Int32) (ai : Nat → Nat → Int32) (al : Nat → Nat → Int64) (T : List Nat) (hT : mdT ai 0 T) (kd : Nat) (hkd : kd < 6) (hWd : mdWd al) : Kt l y_Mo_accepted (yw y_Mo_accepted b_Mo_accepted 7 (some .int)) 6 133 0 0 D cls tys (fun _ _ _ => True) [.ref h, .int (nI kd)] (mdW tc h ar now sc ai al) (fun r w => r = some (.int (iI (accL (mnL kd) (snL kd) (pnL kd) (vnL kd) 97 0 0 0 T))) ∧ ∃ s2, w = mdW tc h ar now s2 ai al ∧ gq sc s2) := sorry
/-! THE REFERENCE: the field Accept-Language, by program (wip/whole/gen/p41.py) -/
/-- the weight of a language range, if it has one -/
def lwt (r : List Nat) : Option (Nat × List Nat) := if (pk 59 (gp r)).1 = true then (if (pk 113 (bsc r)).1 = true ∨ (pk 81 (bsc r)).1 = true then (match (wt (bsc r).tail).1 with
    | some w => some (w, gp (wt (bsc r).tail).2)
    | none => none) else none) else some (1000, gp r)
theorem lwr_q {x : Nat} (h : x < 256) : lwr x = 113 ↔ x = 113 ∨ x = 81 := sorry
theorem pk_c {T : List Nat} {ps c : Nat} (hc : 0 < c) : (pk c (T.drop ps)).1 = true ↔ T.getD ps 0 = c := sorry
theorem lwt_some {T : List Nat} {ps : Nat} {u : Nat × Nat} (hT : isT T) (hps : ps ≤ T.length) (h : wia T ps = some u) : lwt (T.drop ps) = some (u.1, gp (T.drop u.2)) ∧ u.1 ≤ 1000 ∧ u.2 ≤ T.length ∧ ps ≤ u.2 := sorry
theorem lwt_none {T : List Nat} {ps : Nat} (hT : isT T) (h : wia T ps = none) : lwt (T.drop ps) = none := sorry
def coL (wh : Nat) : List Nat := WDS.getD (10 + wh) []
def beL (wh : Nat) : List Nat := if wh = 1 then [101, 110] else if wh = 3 then [100, 101] else []
/-- 0: a range doesn't fit; 1: the star; else one more than its length -/
def fitL (C B S : List Nat) : Nat := if S = [42] then 1 else if (alikeL S C || alikeL S B) = true then S.length + 1 else 0
def lanL (C B : List Nat) : Nat → Nat → Nat → Nat → List Nat → Option Nat
  | 0, _, _, _, _ => none
  | n + 1, els, lg, q, rs => if gc rs = [] then (if els = 0 then none else some q) else if (lgt (gc rs)).1 = true then (match lwt (lgt (gc rs)).2.1 with
    | none => none
    | some u => if ee u.2 = true then lanL C B n (els + 1) (if lg < fitL C B (lgt (gc rs)).2.2 then fitL C B (lgt (gc rs)).2.2 else lg) (if lg < fitL C B (lgt (gc rs)).2.2 then u.1 else q) u.2 else none) else none
theorem lanL_gc {C B : List Nat} {n els lg q : Nat} {r1 r2 : List Nat} (h : gc r1 = gc r2) : lanL C B n els lg q r1 = lanL C B n els lg q r2 := sorry
theorem lgt_s {T : List Nat} {p : Nat} (h : T.getD p 0 = 42) : lgt (T.drop p) = (true, T.drop (p + 1), [42]) := sorry
theorem lgt_l {T : List Nat} {p : Nat} (h : ¬ T.getD p 0 = 42) : lgt (T.drop p) = lng 0 false (T.drop p) [] := sorry
theorem lng_ne {sub : Nat} {dt : Bool} {rs S : List Nat} (h : (lng sub dt rs S).1 = true) (hs : 0 < sub → S ≠ []) : (lng sub dt rs S).2.2 ≠ [] := sorry
theorem spk_al {S : List Nat} {wh : Nat} (hw : wh < 5) (hS : S ≠ []) : spk S (WDS.getD (10 + wh) []) = (alikeL S (coL wh) || alikeL S (beL wh)) := sorry
/-- the two ways to keep the best range -/
def lnR (lg q lo qu : Nat) (st : Int32) : Prop := (lg = 0 ∧ q = 0 ∧ lo = 0 ∧ st = -1) ∨ (lg = 1 ∧ lo = 0 ∧ q ≤ 1000 ∧ st = nI q) ∨ (2 ≤ lg ∧ lo + 1 = lg ∧ qu = q)
theorem lnR_s {lg q lo qu w : Nat} {st : Int32} (h : lnR lg q lo qu st) (hw : w ≤ 1000) : (st < 0 → lnR (if lg < 1 then 1 else lg) (if lg < 1 then w else q) lo qu (nI w)) ∧ (¬ st < 0 → lnR (if lg < 1 then 1 else lg) (if lg < 1 then w else q) lo qu st) := sorry
theorem lnR_f {lg q lo qu w nn : Nat} {st : Int32} (h : lnR lg q lo qu st) (hn : 1 ≤ nn) : (lo < nn → lnR (if lg < nn + 1 then nn + 1 else lg) (if lg < nn + 1 then w else q) nn w st) ∧ (¬ lo < nn → lnR (if lg < nn + 1 then nn + 1 else lg) (if lg < nn + 1 then w else q) lo qu st) := sorry
theorem al_5 {S : List Nat} (h : S ≠ []) : (alikeL S (coL 5) || alikeL S (beL 5)) = false := sorry
set_option maxRecDepth 100000 in
set_option maxHeartbeats 4000000 in
theorem c_Mo_spoken (l : Launch) (D : va_G) (tys : List (ClassId × FieldType)) (tc : Nat → ClassId) (hty : ∀ i : Nat, i < 4 → tys[i]? = some (tc i, vx_ty i)) (h : Nat) (ar : Nat → Nat) (now : Int64) (sc : Nat → Int32) (ai : Nat → Nat → Int32) (al : Nat → Nat → Int64) (T : List Nat) (hT : mdT ai 1 T) (wh : Nat) (hwh : wh < 6) (hWd : mdWd al) : Kt l y_Mo_spoken (yw y_Mo_spoken b_Mo_spoken 10 (some .int)) 5 106 0 0 D cls tys (fun _ _ _ => True) [.ref h, .int (nI wh)] (mdW tc h ar now sc ai al) (fun r w => r = some (.int (iI (lanL (coL wh) (beL wh) 97 0 0 0 T))) ∧ ∃ s2, w = mdW tc h ar now s2 ai al ∧ gq sc s2) := sorry
/-! THE REFERENCE: tags, by program (wip/whole/gen/p42.py) -/
/-- a tag: whether it is one, weak, what is left, what it says -/
def tgt (rs : List Nat) : Bool × Bool × List Nat × List Nat :=
  if (pk 87 rs).1 = true then (if (tt [87, 47] rs).1 = true then ((opq (tt [87, 47] rs).2).1, true, (opq (tt [87, 47] rs).2).2.1, (opq (tt [87, 47] rs).2).2.2) else (false, true, [], []))
  else ((opq rs).1, false, (opq rs).2.1, (opq rs).2.2)
theorem tt_W {T : List Nat} {ps : Nat} (h : T.getD ps 0 = 87) : tt [87, 47] (T.drop ps) = if T.getD (ps + 1) 0 = 47 then (true, T.drop (ps + 2)) else (false, T.drop (ps + 1)) := sorry
theorem tgt_bad {T : List Nat} {ps : Nat} (h : T.getD ps 0 = 87) (h2 : ¬ T.getD (ps + 1) 0 = 47) : (tgt (T.drop ps)).1 = false := sorry
theorem tgt_w {T : List Nat} {ps : Nat} (h : T.getD ps 0 = 87) (h2 : T.getD (ps + 1) 0 = 47) : tgt (T.drop ps) = ((opq (T.drop (ps + 2))).1, true, (opq (T.drop (ps + 2))).2.1, (opq (T.drop (ps + 2))).2.2) := sorry
theorem tgt_o {T : List Nat} {ps : Nat} (h : ¬ T.getD ps 0 = 87) : tgt (T.drop ps) = ((opq (T.drop ps)).1, false, (opq (T.drop ps)).2.1, (opq (T.drop ps)).2.2) := sorry
theorem opq_n {T : List Nat} {a : Nat} (h : ¬ T.getD a 0 = 34) : (opq (T.drop a)).1 = false := sorry
theorem opq_y {T : List Nat} {a e : Nat} (h : T.getD a 0 = 34) (he : pz T (a + 1) isOp = e) : opq (T.drop a) = (decide (T.getD e 0 = 34), (if T.getD e 0 = 34 then T.drop (e + 1) else T.drop e), sl T (a + 1) e) := sorry
def qG (tc : Nat → ClassId) (h : Nat) (ar : Nat → Nat) (now : Int64) (sc : Nat → Int32) (ai : Nat → Nat → Int32) (al : Nat → Nat → Int64) (T : List Nat) (b : Bool) (rest : List Nat) (X : (Nat → Int32) → Prop) (r : Option Value) (w : va_W) : Prop := r = some (.int (bI b)) ∧ ∃ s2 p2, w = mdW tc h ar now s2 ai al ∧ gq sc s2 ∧ s2 11 = sc 11 ∧ s2 12 = nI p2 ∧ p2 ≤ T.length ∧ (b = true → T.drop p2 = rest ∧ X s2)
theorem op_0 : isOp 0 = false := sorry
set_option maxRecDepth 100000 in
set_option maxHeartbeats 4000000 in
theorem c_Mo_tagText (l : Launch) (D : va_G) (tys : List (ClassId × FieldType)) (tc : Nat → ClassId) (hty : ∀ i : Nat, i < 4 → tys[i]? = some (tc i, vx_ty i)) (h : Nat) (ar : Nat → Nat) (now : Int64) (sc : Nat → Int32) (ai : Nat → Nat → Int32) (al : Nat → Nat → Int64) (F : Nat) (T : List Nat) (ps : Nat) (hM : mdS sc ai F T ps) (hpl : ps ≤ T.length) : Kt l y_Mo_tagText (yw y_Mo_tagText b_Mo_tagText 1 (some .boolean)) 3 63 0 0 D cls tys (fun _ _ _ => True) [.ref h] (mdW tc h ar now sc ai al) (fun r w => qG tc h ar now sc ai al T (tgt (T.drop ps)).1 (tgt (T.drop ps)).2.2.1 (fun s2 => s2 15 = bI (tgt (T.drop ps)).2.1 ∧ ∃ a b, s2 13 = nI a ∧ s2 14 = nI b ∧ a ≤ b ∧ b ≤ T.length ∧ (tgt (T.drop ps)).2.2.2 = sl T a b) r w) := sorry
/-! THE REFERENCE: lists of tags, by program (wip/whole/gen/p43.py) -/
/-- a number's digits -/
def dcl : Nat → Nat → List Nat
  | 0, n => [48 + n % 10]
  | k + 1, n => if n < 10 then [48 + n] else dcl k (n / 10) ++ [48 + n % 10]
def dec (n : Nat) : List Nat := dcl 10 n
def ndg (n : Nat) : Nat := if n < 10 then 1 else if n < 100 then 2 else if n < 1000 then 3 else 4
def tagL (n : Nat) : List Nat := 118 :: dec n
/-- the digits, from the last one on -/
def mtc (T : List Nat) (a : Nat) : Nat → Nat → Bool
  | 0, _ => true
  | k + 1, re => decide (T.getD (a + (k + 1)) 0 = 48 + re % 10) && mtc T a k (re / 10)
theorem tag_dec {T : List Nat} {a b tg : Nat} (ht : tg ≤ 9999) (hb : b ≤ T.length) : ((decide (b - a = ndg tg + 1) && decide (T.getD a 0 = 118)) && mtc T a (ndg tg) tg) = decide (sl T a b = tagL tg) := sorry
theorem nI_dec (n : Nat) : nI (n + 1) + (-1) = nI n := sorry
theorem mod10 {a : Nat} (h : a < 2 ^ 31) : nI a - nI a / (10 : Int32) * (10 : Int32) = nI (a % 10) := sorry
set_option maxRecDepth 100000 in
set_option maxHeartbeats 4000000 in
theorem c_Mo_isTagOf (l : Launch) (D : va_G) (tys : List (ClassId × FieldType)) (tc : Nat → ClassId) (hty : ∀ i : Nat, i < 4 → tys[i]? = some (tc i, vx_ty i)) (h : Nat) (ar : Nat → Nat) (now : Int64) (sc : Nat → Int32) (ai : Nat → Nat → Int32) (al : Nat → Nat → Int64) (F : Nat) (T : List Nat) (ps : Nat) (hM : mdS sc ai F T ps) (a b : Nat) (hab : a ≤ b) (hb : b ≤ T.length) (h13 : sc 13 = nI a) (h14 : sc 14 = nI b) (i tg : Nat) (hi4 : i < 4) (htg : ai 4 i = nI tg) (htl : tg ≤ 9999) : Kt l y_Mo_isTagOf (yw y_Mo_isTagOf b_Mo_isTagOf 6 (some .boolean)) 1 21 0 0 D cls tys (fun _ _ _ => True) [.ref h, .int (nI i)] (mdW tc h ar now sc ai al) (fun r w => r = some (.int (bI (decide (sl T a b = tagL tg)))) ∧ w = (mdW tc h ar now sc ai al)) := sorry
set_option maxRecDepth 100000 in
set_option maxHeartbeats 4000000 in
theorem c_Mo_loneTag (l : Launch) (D : va_G) (tys : List (ClassId × FieldType)) (tc : Nat → ClassId) (hty : ∀ i : Nat, i < 4 → tys[i]? = some (tc i, vx_ty i)) (h : Nat) (ar : Nat → Nat) (now : Int64) (sc : Nat → Int32) (ai : Nat → Nat → Int32) (al : Nat → Nat → Int64) (T : List Nat) (hT : mdT ai 6 T) : Kt l y_Mo_loneTag (yw y_Mo_loneTag b_Mo_loneTag 2 (some .boolean)) 4 83 0 0 D cls tys (fun _ _ _ => True) [.ref h] (mdW tc h ar now sc ai al) (fun r w => r = some (.int (bI ((tgt (gp T)).1 && (gp (tgt (gp T)).2.2.1).isEmpty))) ∧ ∃ s2, w = mdW tc h ar now s2 ai al ∧ gq sc s2) := sorry
/-! THE REFERENCE: lists of tags, by program (wip/whole/gen/p44.py) -/
/-- a list of tags, with an eye on W: whether one says it, whether one of these is strong -/
def tgL (W : List Nat) : Nat → Nat → Bool → Bool → List Nat → Option (Bool × Bool)
  | 0, _, _, _, _ => none
  | n + 1, els, sm, sg, rs => if gc rs = [] then (if els = 0 then none else some (sm, sg)) else if (tgt (gc rs)).1 = true then (if ee (gp (tgt (gc rs)).2.2.1) = true then tgL W n (els + 1) (sm || sameL (tgt (gc rs)).2.2.2 W) (sg || (sameL (tgt (gc rs)).2.2.2 W && !(tgt (gc rs)).2.1)) (gp (tgt (gc rs)).2.2.1) else none) else none
theorem tgL_gc {W : List Nat} {n els : Nat} {sm sg : Bool} {r1 r2 : List Nat} (h : gc r1 = gc r2) : tgL W n els sm sg r1 = tgL W n els sm sg r2 := sorry
/-- star, same, strong -/
def tgsL (W T : List Nat) : Option (Bool × Bool × Bool) := if (pk 42 (gp T)).1 = true then (if gp (pk 42 (gp T)).2 = [] then some (true, false, false) else none) else (tgL W 97 0 false false (gp T)).map (fun u => (false, u))
def fdN (N : Option Nat) (str wk sm sg : Bool) : Bool := N.isSome && (if str = true then (sg && !wk) else sm)
def tgV (N : Option Nat) (str wk : Bool) (v : Option (Bool × Bool × Bool)) : Int32 := match v with
  | none => -1
  | some (star, sm, sg) => bI (star || fdN N str wk sm sg)
/-- a tag leads on -/
theorem pk_len {c : Nat} {rs : List Nat} : (pk c rs).2.length ≤ rs.length := sorry
theorem pk_len1 {c : Nat} {rs : List Nat} (h : (pk c rs).1 = true) : (pk c rs).2.length < rs.length := sorry
theorem tt_len {W rs : List Nat} : (tt W rs).2.length ≤ rs.length := sorry
theorem opq_len {rs : List Nat} (h : (opq rs).1 = true) : (opq rs).2.1.length < rs.length := sorry
theorem tgt_len {rs : List Nat} (h : (tgt rs).1 = true) : (tgt rs).2.2.1.length < rs.length := sorry
set_option maxRecDepth 100000 in
set_option maxHeartbeats 4000000 in
theorem c_Mo_tags (l : Launch) (D : va_G) (tys : List (ClassId × FieldType)) (tc : Nat → ClassId) (hty : ∀ i : Nat, i < 4 → tys[i]? = some (tc i, vx_ty i)) (h : Nat) (ar : Nat → Nat) (now : Int64) (sc : Nat → Int32) (ai : Nat → Nat → Int32) (al : Nat → Nat → Int64) (G : Nat) (T : List Nat) (hT : mdT ai G T) (N : Option Nat) (str wk : Bool) (tg : Nat) (W : List Nat) (hN : ∀ i, N = some i → i < 4 ∧ ai 4 i = nI tg ∧ tg ≤ 9999 ∧ ai 5 i = bI wk ∧ W = tagL tg) : Kt l y_Mo_tags (yw y_Mo_tags b_Mo_tags 8 (some .int)) 4 83 0 0 D cls tys (fun _ _ _ => True) [.ref h, .int (nI G), .int (iI N), .int (bI str)] (mdW tc h ar now sc ai al) (fun r w => r = some (.int (tgV N str wk (tgsL W T))) ∧ ∃ s2, w = mdW tc h ar now s2 ai al ∧ gq sc s2) := sorry
/-! THE REFERENCE: the pieces of a date, by program (wip/whole/gen/p45.py) -/
def dayL : List Nat := [83, 117, 110, 77, 111, 110, 84, 117, 101, 87, 101, 100, 84, 104, 117, 70, 114, 105, 83, 97, 116]
def monL : List Nat := [74, 97, 110, 70, 101, 98, 77, 97, 114, 65, 112, 114, 77, 97, 121, 74, 117, 110, 74, 117, 108, 65, 117, 103, 83, 101, 112, 79, 99, 116, 78, 111, 118, 68, 101, 99]
section
variable {p : Program} {l : Launch} {e : Env} {R : Room} {s : State} {m : MethodId} {args : Array Value} {below : List Frame} {meth : Method} {c : Code} {cc : ByteArray} {nL : Nat} {D : va_G} {tys : List (ClassId × FieldType)} {A : Nat → Prop} {tc : Nat → ClassId} {Q : State → Prop} {st : List Value} {k n : Nat} {ws : va_W} {own : String} {Ts : List Cond} {cl : List vw_C}
theorem vx_lookup (hC : Cx p s m args c cc nL own Ts D cl tys A tc) {pc : Nat} {dflt : Int} {qs : Array (Int × Int)} {len : Nat} (hd : decode cc pc = .ok (.lookupswitch dflt qs, len)) (hp : (qs.toList.zip (qs.toList.drop 1)).all (fun (a, next) => a.1 < next.1) = true) {x : Int32} {off : Int} (tgt : Nat) (ho : Op.lookupswitch.offset qs.toList dflt x.toInt = off) (ht : (pc : Int) + off = (tgt : Int)) {lv : wq_L} (h : Vx p l e R s m args below meth c nL D cl A Q tgt lv st ws k n) : Vx p l e R s m args below meth c nL D cl A Q pc lv (.int x :: st) ws k n := sorry
end
theorem vx_dec {cc : ByteArray} {nL : Nat} {j : wq_J} {ins : Jvm.ClassFile.Instr} {an : wq_A} (hj : wq_c cc nL j 0 = true) (i : Nat) (r : wq_J) (hi : i ≤ j.length) (e : j.drop i = (ins, an) :: r) : decode cc (wq_pc j i) = .ok (ins, wq_il an ins) := sorry
theorem dgq_dgs {T : List Nat} {k a ps : Nat} : dgs k a (T.drop ps) = ((dgq T k a ps).1, T.drop (dgq T k a ps).2) := sorry
theorem dgq_le {T : List Nat} {k a ps : Nat} : (dgq T k a ps).2 ≤ ps + k ∧ ps ≤ (dgq T k a ps).2 ∧ (ps ≤ T.length → (dgq T k a ps).2 ≤ T.length) := sorry
theorem dgq_v {T : List Nat} {k a ps v : Nat} (h : (dgq T k a ps).1 = some v) : v < (a + 1) * 10 ^ k ∧ (0 < k → (dgq T k a ps).2 ≤ T.length) := sorry
def nmO (W rs : List Nat) : Option (Nat × List Nat) := (nmAt W rs).1.map (fun k => (k, (nmAt W rs).2))
theorem nms_0 {x y : Nat} : nms dayL x y 0 0 = none ∧ nms monL x y 0 0 = none := sorry
theorem nmO_at {W T : List Nat} {ps : Nat} (h0 : ∀ x y, nms W x y 0 0 = none) : nmO W (T.drop ps) = (nms W (T.getD ps 0) (T.getD (ps + 1) 0) (T.getD (ps + 2) 0) 0).map (fun k => (k, T.drop (ps + 3))) := sorry
/-- reads a number: -1 where there is none -/
def nP (tc : Nat → ClassId) (h : Nat) (ar : Nat → Nat) (now : Int64) (sc : Nat → Int32) (ai : Nat → Nat → Int32) (al : Nat → Nat → Int64) (T : List Nat) (bnd : Nat) (f : Nat → Nat) (v : Option (Nat × List Nat)) (r : Option Value) (w : va_W) : Prop := r = some (.int (iI (v.map fun u => f u.1))) ∧ ∃ s2 p2, w = mdW tc h ar now s2 ai al ∧ gq sc s2 ∧ s2 11 = sc 11 ∧ s2 12 = nI p2 ∧ p2 ≤ bnd ∧ ∀ u, v = some u → T.drop p2 = u.2 ∧ p2 ≤ T.length
/-- reads a text -/
def bP (tc : Nat → ClassId) (h : Nat) (ar : Nat → Nat) (now : Int64) (sc : Nat → Int32) (ai : Nat → Nat → Int32) (al : Nat → Nat → Int64) (T : List Nat) (bnd : Nat) (v : Bool × List Nat) (r : Option Value) (w : va_W) : Prop := r = some (.int (bI v.1)) ∧ ∃ s2 p2, w = mdW tc h ar now s2 ai al ∧ gq sc s2 ∧ s2 11 = sc 11 ∧ s2 12 = nI p2 ∧ p2 ≤ bnd ∧ (v.1 = true → T.drop p2 = v.2 ∧ p2 ≤ T.length)
theorem or8 {a b : Nat} {i : Nat} (hi : i = 8 ∨ i = 16) (ha : a < 2 ^ i) (hb : b < 256) : nI a ||| (nI b <<< nI i) = nI (a + 2 ^ i * b) := sorry
set_option maxRecDepth 100000 in
set_option maxHeartbeats 4000000 in
theorem c_Mo_three (l : Launch) (D : va_G) (tys : List (ClassId × FieldType)) (tc : Nat → ClassId) (hty : ∀ i : Nat, i < 4 → tys[i]? = some (tc i, vx_ty i)) (h : Nat) (ar : Nat → Nat) (now : Int64) (sc : Nat → Int32) (ai : Nat → Nat → Int32) (al : Nat → Nat → Int64) (F : Nat) (T : List Nat) (ps : Nat) (hM : mdS sc ai F T ps) : Kt l y_Mo_three (yw y_Mo_three b_Mo_three 2 (some .int)) 1 21 0 0 D cls tys (fun _ _ _ => True) [.ref h] (mdW tc h ar now sc ai al) (fun r w => r = some (.int (nI (T.getD ps 0 + 256 * T.getD (ps + 1) 0 + 65536 * T.getD (ps + 2) 0))) ∧ w = mdW tc h ar now (upd sc 12 (nI (ps + 3))) ai al) := sorry
set_option maxRecDepth 100000 in
set_option maxHeartbeats 4000000 in
theorem c_Mo_dayName (l : Launch) (D : va_G) (tys : List (ClassId × FieldType)) (tc : Nat → ClassId) (hty : ∀ i : Nat, i < 4 → tys[i]? = some (tc i, vx_ty i)) (h : Nat) (ar : Nat → Nat) (now : Int64) (sc : Nat → Int32) (ai : Nat → Nat → Int32) (al : Nat → Nat → Int64) (F : Nat) (T : List Nat) (ps : Nat) (hM : mdS sc ai F T ps) : Kt l y_Mo_dayName (yw y_Mo_dayName b_Mo_dayName 1 (some .int)) 2 42 0 0 D cls tys (fun _ _ _ => True) [.ref h] (mdW tc h ar now sc ai al) (fun r w => nP tc h ar now sc ai al T (ps + 3) (fun k => k) (nmO dayL (T.drop ps)) r w) := sorry
set_option maxRecDepth 100000 in
set_option maxHeartbeats 4000000 in
theorem c_Mo_monthName (l : Launch) (D : va_G) (tys : List (ClassId × FieldType)) (tc : Nat → ClassId) (hty : ∀ i : Nat, i < 4 → tys[i]? = some (tc i, vx_ty i)) (h : Nat) (ar : Nat → Nat) (now : Int64) (sc : Nat → Int32) (ai : Nat → Nat → Int32) (al : Nat → Nat → Int64) (F : Nat) (T : List Nat) (ps : Nat) (hM : mdS sc ai F T ps) : Kt l y_Mo_monthName (yw y_Mo_monthName b_Mo_monthName 1 (some .int)) 2 42 0 0 D cls tys (fun _ _ _ => True) [.ref h] (mdW tc h ar now sc ai al) (fun r w => nP tc h ar now sc ai al T (ps + 3) (fun k => k + 1) (nmO monL (T.drop ps)) r w) := sorry
/-! THE REFERENCE: zone, rests of names, padded days, times, by program (wip/whole/gen/p46.py) -/
def gmtL : List Nat := [32, 71, 77, 84]
def rstL (wd : Nat) : List Nat := if wd = 2 then [115, 100, 97, 121] else if wd = 3 then [110, 101, 115, 100, 97, 121] else if wd = 4 then [114, 115, 100, 97, 121] else if wd = 6 then [117, 114, 100, 97, 121] else [100, 97, 121]
theorem tt_cons {T W : List Nat} {ps c : Nat} (hc : 0 < c) : tt (c :: W) (T.drop ps) = if T.getD ps 0 = c then tt W (T.drop (ps + 1)) else (false, T.drop ps) := sorry
/-- a day, its tens perhaps a space -/
def pday (rs : List Nat) : Option (Nat × List Nat) := if (pk 32 rs).1 = true then (match dgs 1 0 (pk 32 rs).2 with
    | (some d, r) => some (d, r)
    | (none, _) => none) else match dgs 2 0 rs with
    | (some d, r) => if d < 10 then none else some (d, r)
    | (none, _) => none
/-- a time of the day, in seconds -/
def clk (rs : List Nat) : Option (Nat × List Nat) := match dgs 2 0 rs with
  | (none, _) => none
  | (some h, r) => if 23 < h then none else match pk 58 r with
    | (false, _) => none
    | (true, r) => match dgs 2 0 r with
      | (none, _) => none
      | (some m, r) => if 59 < m then none else match pk 58 r with
        | (false, _) => none
        | (true, r) => match dgs 2 0 r with
          | (none, _) => none
          | (some s, r) => if 59 < s then none else some (3600 * h + 60 * m + s, r)
set_option maxRecDepth 100000 in
set_option maxHeartbeats 4000000 in
theorem c_Mo_zone (l : Launch) (D : va_G) (tys : List (ClassId × FieldType)) (tc : Nat → ClassId) (hty : ∀ i : Nat, i < 4 → tys[i]? = some (tc i, vx_ty i)) (h : Nat) (ar : Nat → Nat) (now : Int64) (sc : Nat → Int32) (ai : Nat → Nat → Int32) (al : Nat → Nat → Int64) (F : Nat) (T : List Nat) (ps : Nat) (hM : mdS sc ai F T ps) (hp3 : ps ≤ 300) : Kt l y_Mo_zone (yw y_Mo_zone b_Mo_zone 1 (some .boolean)) 3 63 0 0 D cls tys (fun _ _ _ => True) [.ref h] (mdW tc h ar now sc ai al) (fun r w => bP tc h ar now sc ai al T (ps + 4) (tt gmtL (T.drop ps)) r w) := sorry
set_option maxRecDepth 100000 in
set_option maxHeartbeats 4000000 in
theorem c_Mo_paddedDay (l : Launch) (D : va_G) (tys : List (ClassId × FieldType)) (tc : Nat → ClassId) (hty : ∀ i : Nat, i < 4 → tys[i]? = some (tc i, vx_ty i)) (h : Nat) (ar : Nat → Nat) (now : Int64) (sc : Nat → Int32) (ai : Nat → Nat → Int32) (al : Nat → Nat → Int64) (F : Nat) (T : List Nat) (ps : Nat) (hM : mdS sc ai F T ps) (hp3 : ps ≤ 300) : Kt l y_Mo_paddedDay (yw y_Mo_paddedDay b_Mo_paddedDay 2 (some .int)) 3 64 0 0 D cls tys (fun _ _ _ => True) [.ref h] (mdW tc h ar now sc ai al) (fun r w => nP tc h ar now sc ai al T (ps + 2) (fun k => k) (pday (T.drop ps)) r w) := sorry
theorem clk_inv {T : List Nat} {ps : Nat} {u : Nat × List Nat} (h : clk (T.drop ps) = some u) : ∃ v1 v2 v3, (dgq T 2 0 ps).1 = some v1 ∧ (dgq T 2 0 ((dgq T 2 0 ps).2 + 1)).1 = some v2 ∧ (dgq T 2 0 ((dgq T 2 0 ((dgq T 2 0 ps).2 + 1)).2 + 1)).1 = some v3 ∧ T.getD (dgq T 2 0 ps).2 0 = 58 ∧ T.getD (dgq T 2 0 ((dgq T 2 0 ps).2 + 1)).2 0 = 58 ∧ v1 ≤ 23 ∧ v2 ≤ 59 ∧ v3 ≤ 59 := sorry
set_option maxRecDepth 100000 in
set_option maxHeartbeats 4000000 in
theorem c_Mo_time (l : Launch) (D : va_G) (tys : List (ClassId × FieldType)) (tc : Nat → ClassId) (hty : ∀ i : Nat, i < 4 → tys[i]? = some (tc i, vx_ty i)) (h : Nat) (ar : Nat → Nat) (now : Int64) (sc : Nat → Int32) (ai : Nat → Nat → Int32) (al : Nat → Nat → Int64) (F : Nat) (T : List Nat) (ps : Nat) (hM : mdS sc ai F T ps) (hp3 : ps ≤ 300) : Kt l y_Mo_time (yw y_Mo_time b_Mo_time 5 (some .int)) 3 64 0 0 D cls tys (fun _ _ _ => True) [.ref h] (mdW tc h ar now sc ai al) (fun r w => nP tc h ar now sc ai al T (ps + 8) (fun k => k) (clk (T.drop ps)) r w) := sorry
/-! THE REFERENCE: rests of names, calendars, by program (wip/whole/gen/p47.py) -/
def dys (m y : Nat) : Nat := if m = 1 ∧ y % 4 = 0 then 29 else [31, 28, 31, 30, 31, 30, 31, 31, 30, 31, 30, 31].getD m 0
def dbf (y : Nat) : Nat := 365 * (y - 1970) + (y - 1970 + 1) / 4
def mdb (y : Nat) : Nat → Nat
  | 0 => 0
  | m + 1 => mdb y m + dys m y
def cal (y m d t : Nat) : Option Nat := if 1970 ≤ y ∧ y ≤ 2099 ∧ 1 ≤ d ∧ d ≤ dys m y then some (86400 * (dbf y + (d - 1) + mdb y m) + t) else none
theorem dbf_s {y : Nat} (h : 1970 ≤ y) : dbf (y + 1) = dbf y + (if y % 4 = 0 then 366 else 365) := sorry
/-- the year that a day falls into -/
def yrq : Nat → Nat → Nat → Nat
  | 0, y, _ => y
  | n + 1, y, days => if dbf (y + 1) ≤ days then yrq n (y + 1) days else y
def yrN (N : Nat) : Nat := yrq 200 1970 (N / 86400)
theorem yrq_ok {n y days : Nat} (h0 : 1970 ≤ y) (h : dbf y ≤ days) (hn : days < dbf (y + n)) : 1970 ≤ yrq n y days ∧ dbf (yrq n y days) ≤ days ∧ days < dbf (yrq n y days + 1) := sorry
theorem dbf_mono {a b : Nat} (h : a ≤ b) : dbf a ≤ dbf b := sorry
theorem yr_un {a b days : Nat} (h1 : dbf a ≤ days) (h2 : days < dbf (a + 1)) (h3 : dbf b ≤ days) (h4 : days < dbf (b + 1)) : a = b := sorry
theorem yrN_ok {N : Nat} (h : N ≤ 4102444799) : 1970 ≤ yrN N ∧ yrN N ≤ 2099 ∧ dbf (yrN N) ≤ N / 86400 ∧ N / 86400 < dbf (yrN N + 1) := sorry
theorem lW_toInt {n : Nat} (h : n < 2 ^ 63) : (lN n).toInt = (n : Int) := sorry
theorem lW_lt {a b : Nat} (ha : a < 2 ^ 63) (hb : b < 2 ^ 63) : lN a < lN b ↔ a < b := sorry
theorem lW_div {a d : Nat} (ha : a < 2 ^ 63) (h0 : 0 < d) (hd : d < 2 ^ 63) : lN a / lN d = lN (a / d) := sorry
theorem lW_sub {a b : Nat} (h : b ≤ a) : lN a - lN b = lN (a - b) := sorry
theorem lc_lt {x y : Int64} : lg_cmp x y < 0 ↔ x < y := sorry
theorem mod4 {y : Nat} (h : y < 2 ^ 31) : nI y - nI y / (4 : Int32) * (4 : Int32) = nI (y % 4) := sorry
theorem iw_sday : isWd 2036425843 [115, 100, 97, 121] := sorry
theorem iw_nesday : isWd 133459204072814 [110, 101, 115, 100, 97, 121] := sorry
theorem iw_rsday : isWd 521325015922 [114, 115, 100, 97, 121] := sorry
theorem iw_urday : isWd 521325015669 [117, 114, 100, 97, 121] := sorry
theorem iw_day : isWd 7954788 [100, 97, 121] := sorry
set_option maxRecDepth 100000 in
set_option maxHeartbeats 4000000 in
theorem c_Mo_restOf (l : Launch) (D : va_G) (tys : List (ClassId × FieldType)) (tc : Nat → ClassId) (hty : ∀ i : Nat, i < 4 → tys[i]? = some (tc i, vx_ty i)) (h : Nat) (ar : Nat → Nat) (now : Int64) (sc : Nat → Int32) (ai : Nat → Nat → Int32) (al : Nat → Nat → Int64) (F : Nat) (T : List Nat) (ps : Nat) (hM : mdS sc ai F T ps) (hp3 : ps ≤ T.length) (wd : Nat) (hwd : wd < 7) : Kt l y_Mo_restOf (yw y_Mo_restOf b_Mo_restOf 6 (some .boolean)) 3 63 0 0 D cls tys (fun _ _ _ => True) [.ref h, .int (nI wd)] (mdW tc h ar now sc ai al) (fun r w => bP tc h ar now sc ai al T (ps + 8) (tt (rstL wd) (T.drop ps)) r w) := sorry
set_option maxRecDepth 100000 in
set_option maxHeartbeats 4000000 in
theorem c_Mo_daysOf (l : Launch) (D : va_G) (tys : List (ClassId × FieldType)) (tc : Nat → ClassId) (hty : ∀ i : Nat, i < 4 → tys[i]? = some (tc i, vx_ty i)) (mo y : Nat) (hm : 1 ≤ mo ∧ mo ≤ 12) (hy : y < 2 ^ 31) : Kt l y_Mo_daysOf (yw y_Mo_daysOf b_Mo_daysOf 2 (some .int)) 0 0 0 0 D cls tys (fun _ _ _ => True) [.int (nI mo), .int (nI y)] [] (fun r w => r = some (.int (nI (dys (mo - 1) y))) ∧ w = []) := sorry
/-! THE REFERENCE: years and seconds, by program (wip/whole/gen/p48.py) -/
def lI (v : Option Nat) : Int64 := match v with
  | none => -1
  | some a => lN a
def calO (oy om od ot : Option Nat) : Option Nat := match oy, om, od, ot with
  | some y, some mo, some d, some t => cal y (mo - 1) d t
  | _, _, _, _ => none
theorem calO_none {oy om od ot : Option Nat} (h : ∀ y mo d t, oy = some y → om = some mo → od = some d → ot = some t → ¬ (1970 ≤ y ∧ y ≤ 2099 ∧ 1 ≤ d ∧ d ≤ dys (mo - 1) y)) : calO oy om od ot = none := sorry
def shy (ly yy : Nat) : Nat := if ly < 2000 + yy then 1900 + yy else 2000 + yy
def shv (ly : Nat) (v : Option Nat) : Option Nat := match v with
  | none => none
  | some yy => if 1970 ≤ shy ly yy then some (shy ly yy) else none
theorem mod100 {y : Nat} (h : y < 2 ^ 31) : nI y - nI y / (100 : Int32) * (100 : Int32) = nI (y % 100) := sorry
theorem dys_le {mo y : Nat} : dys mo y ≤ 31 := sorry
theorem mdb_le {y mo : Nat} : mdb y mo ≤ 31 * mo := sorry
theorem l366 : (366 : Int32).toInt64 = lN 366 := sorry
theorem l365 : (365 : Int32).toInt64 = lN 365 := sorry
set_option maxRecDepth 100000 in
set_option maxHeartbeats 4000000 in
theorem c_Mo_yearOf (l : Launch) (D : va_G) (tys : List (ClassId × FieldType)) (tc : Nat → ClassId) (hty : ∀ i : Nat, i < 4 → tys[i]? = some (tc i, vx_ty i)) (N : Nat) (hN : N ≤ 4102444799) : Kt l y_Mo_yearOf (yw y_Mo_yearOf b_Mo_yearOf 5 (some .int)) 0 0 0 0 D cls tys (fun _ _ _ => True) [.long (lN N)] [] (fun r w => r = some (.int (nI (yrN N))) ∧ w = []) := sorry
set_option maxRecDepth 100000 in
set_option maxHeartbeats 4000000 in
theorem c_Mo_secondsOf (l : Launch) (D : va_G) (tys : List (ClassId × FieldType)) (tc : Nat → ClassId) (hty : ∀ i : Nat, i < 4 → tys[i]? = some (tc i, vx_ty i)) (oy om od ot : Option Nat) (hy : ∀ y, oy = some y → y ≤ 9999) (hm : ∀ mo, om = some mo → 1 ≤ mo ∧ mo ≤ 12) (hd : ∀ d, od = some d → d ≤ 99) (ht : ∀ t, ot = some t → t ≤ 86399) : Kt l y_Mo_secondsOf (yw y_Mo_secondsOf b_Mo_secondsOf 7 (some .long)) 1 21 0 0 D cls tys (fun _ _ _ => True) [.int (iI oy), .int (iI om), .int (iI od), .int (iI ot)] [] (fun r w => r = some (.long (lI (calO oy om od ot))) ∧ w = []) := sorry
set_option maxRecDepth 100000 in
set_option maxHeartbeats 4000000 in
theorem c_Mo_shortYear (l : Launch) (D : va_G) (tys : List (ClassId × FieldType)) (tc : Nat → ClassId) (hty : ∀ i : Nat, i < 4 → tys[i]? = some (tc i, vx_ty i)) (h : Nat) (ar : Nat → Nat) (now : Int64) (sc : Nat → Int32) (ai : Nat → Nat → Int32) (al : Nat → Nat → Int64) (N : Nat) (hN : N ≤ 4102444799) (hnow : now = lN N) (two : Option Nat) (htw : ∀ yy, two = some yy → yy ≤ 99) : Kt l y_Mo_shortYear (yw y_Mo_shortYear b_Mo_shortYear 3 (some .int)) 1 24 0 0 D cls tys (fun _ _ _ => True) [.ref h, .int (iI two)] (mdW tc h ar now sc ai al) (fun r w => r = some (.int (iI (shv (yrN N + 50) two))) ∧ w = (mdW tc h ar now sc ai al)) := sorry
/-! THE REFERENCE: dates, by program (wip/whole/gen/p49.py) -/
theorem nI_ge0 {n : Nat} (h : n < 2 ^ 31) : (0 : Int32) ≤ nI n := sorry
def sb {α : Type} (b : Bool × List Nat) (f : List Nat → Option α) : Option α := if b.1 = true then f b.2 else none
def sn {α : Type} (v : Option (Nat × List Nat)) (f : Nat → List Nat → Option α) : Option α := match v with
  | none => none
  | some u => f u.1 u.2
def dgO (k : Nat) (rs : List Nat) : Option (Nat × List Nat) := (dgs k 0 rs).1.map (fun v => (v, (dgs k 0 rs).2))
def zz (oy om od ot : Option Nat) (r : List Nat) : Option (Nat × List Nat) := (calO oy om od ot).map (fun t => (t, r))
/-- a date's forms, step by step -/
def dA6 (om od ot : Option Nat) (r : List Nat) : Option (Nat × List Nat) := sn (dgO 4 r) (fun y r => zz (some y) om od ot r)
def dA5 (om od ot : Option Nat) (r : List Nat) : Option (Nat × List Nat) := sb (pk 32 r) (dA6 om od ot)
def dA4 (om od : Option Nat) (r : List Nat) : Option (Nat × List Nat) := sn (clk r) (fun t r => dA5 om od (some t) r)
def dA3 (om od : Option Nat) (r : List Nat) : Option (Nat × List Nat) := sb (pk 32 r) (dA4 om od)
def dA2 (om : Option Nat) (r : List Nat) : Option (Nat × List Nat) := sn (pday r) (fun d r => dA3 om (some d) r)
def dA1 (om : Option Nat) (r : List Nat) : Option (Nat × List Nat) := sb (pk 32 r) (dA2 om)
def dA0 (r : List Nat) : Option (Nat × List Nat) := sn (nmO monL r) (fun k r => dA1 (some (k + 1)) r)
def spf (fu : Bool) : Nat := if fu = true then 45 else 32
def dE9 (oy om od ot : Option Nat) (r : List Nat) : Option (Nat × List Nat) := sb (tt gmtL r) (zz oy om od ot)
def dE8 (oy om od : Option Nat) (r : List Nat) : Option (Nat × List Nat) := sn (clk r) (fun t r => dE9 oy om od (some t) r)
def dE7 (om od oy : Option Nat) (r : List Nat) : Option (Nat × List Nat) := sb (pk 32 r) (dE8 oy om od)
def dE6 (ly : Nat) (fu : Bool) (om od : Option Nat) (r : List Nat) : Option (Nat × List Nat) := if fu = true then sn (dgO 2 r) (fun v r => dE7 om od (shv ly (some v)) r) else sn (dgO 4 r) (fun y r => dE7 om od (some y) r)
def dE5 (ly : Nat) (fu : Bool) (od om : Option Nat) (r : List Nat) : Option (Nat × List Nat) := sb (pk (spf fu) r) (dE6 ly fu om od)
def dE4 (ly : Nat) (fu : Bool) (od : Option Nat) (r : List Nat) : Option (Nat × List Nat) := sn (nmO monL r) (fun k r => dE5 ly fu od (some (k + 1)) r)
def dE3 (ly : Nat) (fu : Bool) (od : Option Nat) (r : List Nat) : Option (Nat × List Nat) := sb (pk (spf fu) r) (dE4 ly fu od)
def dE2 (ly : Nat) (fu : Bool) (r : List Nat) : Option (Nat × List Nat) := sn (dgO 2 r) (fun d r => dE3 ly fu (some d) r)
def dE1 (ly : Nat) (fu : Bool) (r : List Nat) : Option (Nat × List Nat) := sb (pk 44 r) (fun r => sb (pk 32 r) (dE2 ly fu))
/-- what stands behind the day's short name -/
def dtB (ly wd : Nat) (rs : List Nat) : Option (Nat × List Nat) := if (pk 32 rs).1 = true then dA0 (pk 32 rs).2 else if (pk 44 rs).1 = true then dE1 ly false rs else sb (tt (rstL wd) rs) (dE1 ly true)
/-- a field's date -/
def dtO (ly : Nat) (T : List Nat) : Option Nat := match nmO dayL (gp T) with
  | none => none
  | some u => match dtB ly u.1 u.2 with
    | none => none
    | some v => if gp v.2 = [] then some v.1 else none
theorem sn_nn {α : Type} {v : Option (Nat × List Nat)} : sn v (fun _ _ => (none : Option α)) = none := sorry
theorem sb_nn {α : Type} {b : Bool × List Nat} : sb b (fun _ => (none : Option α)) = none := sorry
theorem sn_e {α : Type} {v : Option (Nat × List Nat)} {f : Nat → List Nat → Option α} (h : ∀ x r, f x r = none) : sn v f = none := sorry
theorem sb_e {α : Type} {b : Bool × List Nat} {f : List Nat → Option α} (h : ∀ r, f r = none) : sb b f = none := sorry
theorem zz_y {om od ot : Option Nat} {r : List Nat} : zz none om od ot r = none := sorry
theorem zz_m {oy od ot : Option Nat} {r : List Nat} : zz oy none od ot r = none := sorry
theorem zz_d {oy om ot : Option Nat} {r : List Nat} : zz oy om none ot r = none := sorry
theorem zz_t {oy om od : Option Nat} {r : List Nat} : zz oy om od none r = none := sorry
theorem dA1_n {r : List Nat} : dA1 none r = none := sorry
theorem dA3_n {om : Option Nat} {r : List Nat} : dA3 om none r = none := sorry
theorem dA5_n {om od : Option Nat} {r : List Nat} : dA5 om od none r = none := sorry
theorem dE9_n {oy om od : Option Nat} {r : List Nat} : dE9 oy om od none r = none := sorry
theorem dE7_n {om od : Option Nat} {r : List Nat} : dE7 om od none r = none := sorry
theorem dE5_n {ly : Nat} {fu : Bool} {od : Option Nat} {r : List Nat} : dE5 ly fu od none r = none := sorry
theorem dE3_n {ly : Nat} {fu : Bool} {r : List Nat} : dE3 ly fu none r = none := sorry
theorem sb_pk {α : Type} {T : List Nat} {p c : Nat} {F : List Nat → Option α} (hc : 0 < c) : sb (pk c (T.drop p)) F = if T.getD p 0 = c then F (T.drop (p + 1)) else none := sorry
theorem st_n {α : Type} {S : Option α} {g : Bool} {v : Option (Nat × List Nat)} {F : Option Nat → List Nat → Option α} {k : Nat → Nat} {r : List Nat} {ov : Option Nat} (hov : ov = v.map (fun u => k u.1)) (h : S = if g = true then sn v (fun z r => F (some (k z)) r) else none) (hF : ∀ r, F none r = none) (hp : ∀ u, v = some u → r = u.2) : S = if g = true then F ov r else none := sorry
theorem st_b {α : Type} {S : Option α} {g b : Bool} {T : List Nat} {p c q : Nat} {F : List Nat → Option α} (hc : 0 < c) (hb : decide (T.getD p 0 = c) = b) (hq : (if T.getD p 0 = c then p + 1 else p) = q) (h : S = if g = true then sb (pk c (T.drop p)) F else none) : S = if (b && g) = true then F (T.drop q) else none := sorry
theorem st_t {α : Type} {S : Option α} {g : Bool} {v : Bool × List Nat} {r : List Nat} {F : List Nat → Option α} (h : S = if g = true then sb v F else none) (hv : v.1 = true → r = v.2) : S = if (v.1 && g) = true then F r else none := sorry
theorem dgO_at {T : List Nat} {k p : Nat} : dgO k (T.drop p) = (dgq T k 0 p).1.map (fun v => (v, T.drop (dgq T k 0 p).2)) := sorry
theorem dgO_m {T : List Nat} {k p : Nat} : (dgq T k 0 p).1 = (dgO k (T.drop p)).map (fun u => u.1) := sorry
theorem dgO_r {T : List Nat} {k p : Nat} (u : Nat × List Nat) (h : dgO k (T.drop p) = some u) : T.drop (dgq T k 0 p).2 = u.2 := sorry
theorem nms_lt : ∀ (n : Nat) (W : List Nat) (a b c k j : Nat), W.length < 3 * n + 3 → nms W a b c k = some j → j < k + n:= sorry
theorem nmO_lt {W rs : List Nat} {u : Nat × List Nat} (n : Nat) (hl : W.length < 3 * n + 3) (h : nmO W rs = some u) : u.1 < n := sorry
theorem mon_ok {rs : List Nat} {ov : Option Nat} (h : ov = (nmO monL rs).map (fun u => (fun k => k + 1) u.1)) (mo : Nat) (hm : ov = some mo) : 1 ≤ mo ∧ mo ≤ 12 := sorry
theorem dgs_lt {k a : Nat} {rs r : List Nat} {v : Nat} (h : dgs k a rs = (some v, r)) : v < (a + 1) * 10 ^ k := sorry
theorem day_ok {rs : List Nat} {ov : Option Nat} (h : ov = (pday rs).map (fun u => (fun k => k) u.1)) (d : Nat) (hm : ov = some d) : d ≤ 99 := sorry
theorem clk_ok {T : List Nat} {p : Nat} {ov : Option Nat} (h : ov = (clk (T.drop p)).map (fun u => (fun k => k) u.1)) (d : Nat) (hm : ov = some d) : d ≤ 86399 := sorry
theorem dg_ok {T : List Nat} {k p d : Nat} (h : (dgq T k 0 p).1 = some d) : d < 10 ^ k := sorry
theorem shv_ok {ly d : Nat} {v : Option Nat} (hv : ∀ d, v = some d → d ≤ 99) (h : shv ly v = some d) : d ≤ 9999 := sorry
theorem nP.ob {tc : Nat → ClassId} {h : Nat} {ar : Nat → Nat} {now : Int64} {sc : Nat → Int32} {ai : Nat → Nat → Int32} {al : Nat → Nat → Int64} {T : List Nat} {bnd : Nat} {f : Nat → Nat} {v : Option (Nat × List Nat)} {r : Option Value} {w : va_W} (hp : nP tc h ar now sc ai al T bnd f v r w) : ∃ ov s2 p2, ov = v.map (fun u => f u.1) ∧ r = some (.int (iI ov)) ∧ w = mdW tc h ar now s2 ai al ∧ gq sc s2 ∧ s2 11 = sc 11 ∧ s2 12 = nI p2 ∧ p2 ≤ bnd ∧ ∀ u, v = some u → T.drop p2 = u.2 ∧ p2 ≤ T.length := sorry
set_option maxRecDepth 100000 in
set_option maxHeartbeats 4000000 in
theorem c_Mo_dateBehind (l : Launch) (D : va_G) (tys : List (ClassId × FieldType)) (tc : Nat → ClassId) (hty : ∀ i : Nat, i < 4 → tys[i]? = some (tc i, vx_ty i)) (h : Nat) (ar : Nat → Nat) (now : Int64) (sc : Nat → Int32) (ai : Nat → Nat → Int32) (al : Nat → Nat → Int64) (F : Nat) (T : List Nat) (ps : Nat) (hM : mdS sc ai F T ps) (N : Nat) (hN : N ≤ 4102444799) (hnow : now = lN N) (wd : Nat) (hwd : wd < 7) (hp3 : ps ≤ T.length) : Kt l y_Mo_dateBehind (yw y_Mo_dateBehind b_Mo_dateBehind 8 (some .long)) 4 88 0 0 D cls tys (fun _ _ _ => True) [.ref h, .int (nI wd)] (mdW tc h ar now sc ai al) (fun r w => r = some (.long (lI ((dtB (yrN N + 50) wd (T.drop ps)).map fun u => u.1))) ∧ ∃ s2 p2, w = mdW tc h ar now s2 ai al ∧ gq sc s2 ∧ s2 11 = sc 11 ∧ s2 12 = nI p2 ∧ p2 ≤ ps + 50 ∧ ∀ u, dtB (yrN N + 50) wd (T.drop ps) = some u → T.drop p2 = u.2 ∧ p2 ≤ T.length) := sorry
set_option maxRecDepth 100000 in
set_option maxHeartbeats 4000000 in
theorem c_Mo_dateOf (l : Launch) (D : va_G) (tys : List (ClassId × FieldType)) (tc : Nat → ClassId) (hty : ∀ i : Nat, i < 4 → tys[i]? = some (tc i, vx_ty i)) (h : Nat) (ar : Nat → Nat) (now : Int64) (sc : Nat → Int32) (ai : Nat → Nat → Int32) (al : Nat → Nat → Int64) (G : Nat) (T : List Nat) (hT : mdT ai G T) (N : Nat) (hN : N ≤ 4102444799) (hnow : now = lN N) : Kt l y_Mo_dateOf (yw y_Mo_dateOf b_Mo_dateOf 5 (some .long)) 5 115 0 0 D cls tys (fun _ _ _ => True) [.ref h, .int (nI G)] (mdW tc h ar now sc ai al) (fun r w => r = some (.long (lI (dtO (yrN N + 50) T))) ∧ ∃ s2, w = mdW tc h ar now s2 ai al ∧ gq sc s2) := sorry
/-! THE REFERENCE: ranges, by program (wip/whole/gen/p50.py) -/
def spOk : Option Nat → Option Nat → Bool
  | none, none => false
  | none, some _ => true
  | some _, none => true
  | some a, some b => decide (a ≤ b)
/-- one range: first, last -/
def spc (rs : List Nat) : Option ((Option Nat × Option Nat) × List Nat) := if (pk 45 (rs.dropWhile isDg)).1 = true then (if spOk (nmv (rs.takeWhile isDg)) (nmv ((pk 45 (rs.dropWhile isDg)).2.takeWhile isDg)) = true then some ((nmv (rs.takeWhile isDg), nmv ((pk 45 (rs.dropWhile isDg)).2.takeWhile isDg)), (pk 45 (rs.dropWhile isDg)).2.dropWhile isDg) else none) else none
def rgG : Nat → List (Option Nat × Option Nat) → List Nat → Option (List (Option Nat × Option Nat))
  | 0, _, _ => none
  | n + 1, A, rs => if gc rs = [] then (if A = [] then none else some A) else match spc (gc rs) with
    | none => none
    | some u => if ee (gp u.2) = true then rgG n (A ++ [u.1]) (gp u.2) else none
theorem rgG_gc {n : Nat} {A : List (Option Nat × Option Nat)} {r1 r2 : List Nat} (h : gc r1 = gc r2) : rgG n A r1 = rgG n A r2 := sorry
def bytL : List Nat := [98, 121, 116, 101, 115]
/-- the field's ranges -/
def rngL (T : List Nat) : Option (List (Option Nat × Option Nat)) := if (ta bytL (gp T)).1 = true then (if (pk 61 (ta bytL (gp T)).2).1 = true then rgG 97 [] (pk 61 (ta bytL (gp T)).2).2 else none) else none
theorem spc_len {rs : List Nat} {u : (Option Nat × Option Nat) × List Nat} (h : spc rs = some u) : u.2.length < rs.length := sorry
theorem fl9 : ∀ (ds : List Nat) (a : Nat), (∀ z ∈ ds, isDg z = true) → ds.foldl (fun a z => 10 * a + z - 48) a < (a + 1) * 10 ^ ds.length:= sorry
theorem nmv_le {rs : List Nat} {v : Nat} (h : nmv (rs.takeWhile isDg) = some v) : v ≤ 999999999 := sorry
def hq (s t : Nat → Int32) : Prop := ∀ k, k < 11 ∨ 21 ≤ k → t k = s k
theorem hq.refl {s : Nat → Int32} : hq s s := sorry
theorem hq.trans {a b c : Nat → Int32} (h1 : hq a b) (h2 : hq b c) : hq a c := sorry
theorem hq.upd {s t : Nat → Int32} {k : Nat} {v : Int32} (h : hq s t) (hk : 11 ≤ k ∧ k ≤ 20) : hq s (upd t k v) := sorry
theorem gq.hq {s t : Nat → Int32} (h : gq s t) : hq s t := sorry
def aq (a b : Nat → Nat → Int32) : Prop := ∀ k, k ≠ 9 → k ≠ 10 → b k = a k
theorem aq.refl {a : Nat → Nat → Int32} : aq a a := sorry
theorem aq.trans {a b c : Nat → Nat → Int32} (h1 : aq a b) (h2 : aq b c) : aq a c := sorry
def ap (a : Nat → Nat → Int32) (p : Nat) (f : Nat → Int32) : Nat → Nat → Int32 := fun q => if q = p then f else a q
theorem ap_s {a : Nat → Nat → Int32} {p : Nat} {f : Nat → Int32} : ap a p f p = f := sorry
theorem ap_n {a : Nat → Nat → Int32} {p q : Nat} {f : Nat → Int32} (h : q ≠ p) : ap a p f q = a q := sorry
theorem aq.ap {a b : Nat → Nat → Int32} {p : Nat} {f : Nat → Int32} (h : aq a b) (hp : p = 9 ∨ p = 10) : aq a (ap b p f) := sorry
theorem mdT.aq {a b : Nat → Nat → Int32} {G : Nat} {T : List Nat} (h : mdT a G T) (hq : aq a b) : mdT b G T := sorry
def spA (a : Nat → Nat → Int32) (A : List (Option Nat × Option Nat)) : Prop := ∀ i u, A[i]? = some u → a 9 i = iI u.1 ∧ a 10 i = iI u.2
theorem spA_add {a b : Nat → Nat → Int32} {A : List (Option Nat × Option Nat)} {u : Option Nat × Option Nat} (h : spA a A) (h9 : b 9 = upd (a 9) A.length (iI u.1)) (h10 : b 10 = upd (a 10) A.length (iI u.2)) : spA b (A ++ [u]) := sorry
theorem iw_bytes : isWd 495623371106 [98, 121, 116, 101, 115] := sorry
theorem syq_ta {T : List Nat} : ∀ (W : List Nat) (p : Nat), (∀ c ∈ W, 0 < c ∧ lwr c = c) → p ≤ T.length → (ta W (T.drop p)).1 = syq T p W ∧ (syq T p W = true → (ta W (T.drop p)).2 = T.drop (p + W.length) ∧ p + W.length ≤ T.length):= sorry
set_option maxRecDepth 100000 in
set_option maxHeartbeats 4000000 in
theorem c_Mo_spec (l : Launch) (D : va_G) (tys : List (ClassId × FieldType)) (tc : Nat → ClassId) (hty : ∀ i : Nat, i < 4 → tys[i]? = some (tc i, vx_ty i)) (h : Nat) (ar : Nat → Nat) (now : Int64) (sc : Nat → Int32) (ai : Nat → Nat → Int32) (al : Nat → Nat → Int64) (F : Nat) (T : List Nat) (ps : Nat) (hM : mdS sc ai F T ps) (K : Nat) (hK : K < 96) (h20 : sc 20 = nI K) (hpl : ps ≤ T.length) : Kt l y_Mo_spec (yw y_Mo_spec b_Mo_spec 3 (some .boolean)) 3 63 0 0 D cls tys (fun _ _ _ => True) [.ref h] (mdW tc h ar now sc ai al) (fun r w => r = some (.int (bI (spc (T.drop ps)).isSome)) ∧ ∃ s2 a2 p2, w = mdW tc h ar now s2 a2 al ∧ hq sc s2 ∧ aq ai a2 ∧ s2 11 = sc 11 ∧ s2 12 = nI p2 ∧ p2 ≤ T.length ∧ ∀ u, spc (T.drop ps) = some u → T.drop p2 = u.2 ∧ s2 20 = nI (K + 1) ∧ a2 9 = upd (ai 9) K (iI u.1.1) ∧ a2 10 = upd (ai 10) K (iI u.1.2)) := sorry
set_option maxRecDepth 100000 in
set_option maxHeartbeats 4000000 in
theorem c_Mo_ranges (l : Launch) (D : va_G) (tys : List (ClassId × FieldType)) (tc : Nat → ClassId) (hty : ∀ i : Nat, i < 4 → tys[i]? = some (tc i, vx_ty i)) (h : Nat) (ar : Nat → Nat) (now : Int64) (sc : Nat → Int32) (ai : Nat → Nat → Int32) (al : Nat → Nat → Int64) (T : List Nat) (hT : mdT ai 7 T) : Kt l y_Mo_ranges (yw y_Mo_ranges b_Mo_ranges 2 (some .boolean)) 4 85 0 0 D cls tys (fun _ _ _ => True) [.ref h] (mdW tc h ar now sc ai al) (fun r w => r = some (.int (bI (rngL T).isSome)) ∧ ∃ s2 a2, w = mdW tc h ar now s2 a2 al ∧ hq sc s2 ∧ aq ai a2 ∧ ∀ L, rngL T = some L → s2 20 = nI L.length ∧ L.length ≤ 96 ∧ spA a2 L) := sorry
/-! THE REFERENCE: what ranges become, by program (wip/whole/gen/p51.py) -/
def rsA (n : Nat) : Option Nat × Option Nat → Nat
  | (some a, _) => a
  | (none, some q) => n - q
  | (none, none) => n + 1
def rsB (n : Nat) (u : Option Nat × Option Nat) : Option Nat := if n = 0 then none else some (match u with
  | (some _, some b) => if b < n - 1 then b else n - 1
  | _ => n - 1)
/-- a range of n bytes -/
def rsv (n : Nat) (u : Option Nat × Option Nat) : Option (Nat × Nat) := match rsB n u with
  | none => none
  | some b => if rsA n u ≤ b then some (rsA n u, b) else none
theorem n_1 {n : Nat} (h : n < 2 ^ 31) : nI n - 1 = iI (if n = 0 then none else some (n - 1)) := sorry
theorem rsB_le {n b : Nat} {u : Option Nat × Option Nat} (h : rsB n u = some b) : b < n := sorry
def bdP (pa : List (Nat × Nat)) (i j : Nat) : Prop := (pa.getD i (0, 0)).1 ≤ (pa.getD j (0, 0)).2 ∧ (pa.getD j (0, 0)).1 ≤ (pa.getD i (0, 0)).2
def ovP (pa : List (Nat × Nat)) (I J : Nat) : Prop := ∃ i j, j < i ∧ (i < I ∨ (i = I ∧ j < J)) ∧ bdP pa i j
/-- two of them overlap -/
def ovl (pa : List (Nat × Nat)) : Bool := (List.range pa.length).any (fun i => (List.range i).any (fun j => decide ((pa.getD i (0, 0)).1 ≤ (pa.getD j (0, 0)).2) && decide ((pa.getD j (0, 0)).1 ≤ (pa.getD i (0, 0)).2)))
theorem ovl_iff {pa : List (Nat × Nat)} : ovl pa = true ↔ ovP pa pa.length 0 := sorry
theorem ovP_j {pa : List (Nat × Nat)} {I J : Nat} (h : J < I) : ovP pa I (J + 1) ↔ ovP pa I J ∨ bdP pa I J := sorry
theorem ovP_i {pa : List (Nat × Nat)} {I : Nat} : ovP pa (I + 1) 0 ↔ ovP pa I I := sorry
def paA (a : Nat → Nat → Int32) (pa : List (Nat × Nat)) : Prop := pa.length ≤ 4 ∧ ∀ i, i < pa.length → a 11 i = nI (pa.getD i (0, 0)).1 ∧ a 12 i = nI (pa.getD i (0, 0)).2 ∧ (pa.getD i (0, 0)).1 ≤ (pa.getD i (0, 0)).2 ∧ (pa.getD i (0, 0)).2 < 100000
/-- one tag alone: whether it says W and is strong -/
def lonT (W T : List Nat) : Option Bool := if (tgt (gp T)).1 = true then (if gp (tgt (gp T)).2.2.1 = [] then some (sameL (tgt (gp T)).2.2.2 W && !(tgt (gp T)).2.1) else none) else none
def irS (ly : Nat) (W : List Nat) (wk : Bool) (ch : Nat) (T : List Nat) : Bool := if T = [] then true else match lonT W T with
  | some sg => sg && !wk
  | none => decide (dtO ly T = some ch)
theorem tag_nd {ly : Nat} {T : List Nat} {P0 : Nat} (hg : gp T = T.drop P0) (h : T.getD P0 0 = 34 ∨ (T.getD P0 0 = 87 ∧ T.getD (P0 + 1) 0 = 47)) : dtO ly T = none := sorry
theorem tag_nl {W T : List Nat} {P0 : Nat} (hg : gp T = T.drop P0) (h1 : ¬ T.getD P0 0 = 34) (h2 : ¬ (T.getD P0 0 = 87 ∧ T.getD (P0 + 1) 0 = 47)) : lonT W T = none := sorry
theorem lc_eq {a b : Int64} : lg_cmp a b = 0 ↔ a = b := sorry
theorem lI_eq {v : Option Nat} {c : Nat} (hv : ∀ t, v = some t → t < 2 ^ 63) (hc : c < 2 ^ 63) : lI v = lN c ↔ v = some c := sorry
theorem cal_lt {oy om od ot : Option Nat} {t : Nat} (ht : ∀ v, ot = some v → v ≤ 86399) (h : calO oy om od ot = some t) : t ≤ 86400 * 100000000 := sorry
theorem nI_nneg {n : Nat} (h : n < 2 ^ 31) : ¬ nI n ≤ -1 := sorry
theorem nI_m1le {n : Nat} (h : n < 2 ^ 31) : (-1 : Int32) ≤ nI n := sorry
set_option maxRecDepth 100000 in
set_option maxHeartbeats 4000000 in
theorem c_Mo_resolve (l : Launch) (D : va_G) (tys : List (ClassId × FieldType)) (tc : Nat → ClassId) (hty : ∀ i : Nat, i < 4 → tys[i]? = some (tc i, vx_ty i)) (h : Nat) (ar : Nat → Nat) (now : Int64) (sc : Nat → Int32) (ai : Nat → Nat → Int32) (al : Nat → Nat → Int64) (k n PC : Nat) (oa ob : Option Nat) (hk : k < 96) (h9 : ai 9 k = iI oa) (h10 : ai 10 k = iI ob) (hoa : ∀ v, oa = some v → v ≤ 999999999) (hob : ∀ v, ob = some v → v ≤ 999999999) (hn : n ≤ 100000) (hPC : PC < 4) (h27 : sc 27 = nI PC) : Kt l y_Mo_resolve (yw y_Mo_resolve b_Mo_resolve 7 none) 0 0 0 0 D cls tys (fun _ _ _ => True) [.ref h, .int (nI k), .int (nI n)] (mdW tc h ar now sc ai al) (fun r w => r = none ∧ ∃ s2 a2, w = mdW tc h ar now s2 a2 al ∧ (rsv n (oa, ob) = none → s2 = sc ∧ a2 = ai) ∧ ∀ v, rsv n (oa, ob) = some v → s2 = upd sc 27 (nI (PC + 1)) ∧ a2 = ap (ap ai 11 (upd (ai 11) PC (nI v.1))) 12 (upd (ai 12) PC (nI v.2))) := sorry
set_option maxRecDepth 100000 in
set_option maxHeartbeats 4000000 in
theorem c_Mo_overlap (l : Launch) (D : va_G) (tys : List (ClassId × FieldType)) (tc : Nat → ClassId) (hty : ∀ i : Nat, i < 4 → tys[i]? = some (tc i, vx_ty i)) (h : Nat) (ar : Nat → Nat) (now : Int64) (sc : Nat → Int32) (ai : Nat → Nat → Int32) (al : Nat → Nat → Int64) (pa : List (Nat × Nat)) (hpa : paA ai pa) (h27 : sc 27 = nI pa.length) : Kt l y_Mo_overlap (yw y_Mo_overlap b_Mo_overlap 4 (some .boolean)) 0 0 0 0 D cls tys (fun _ _ _ => True) [.ref h] (mdW tc h ar now sc ai al) (fun r w => r = some (.int (bI (ovl pa))) ∧ w = (mdW tc h ar now sc ai al)) := sorry
theorem dtB_lt {ly wd : Nat} {rs : List Nat} {u : Nat × List Nat} (h : dtB ly wd rs = some u) : u.1 < 2 ^ 63 := sorry
theorem dtO_lt {ly : Nat} {T : List Nat} (t : Nat) (h : dtO ly T = some t) : t < 2 ^ 63 := sorry
set_option maxRecDepth 100000 in
set_option maxHeartbeats 4000000 in
theorem c_Mo_ifRange (l : Launch) (D : va_G) (tys : List (ClassId × FieldType)) (tc : Nat → ClassId) (hty : ∀ i : Nat, i < 4 → tys[i]? = some (tc i, vx_ty i)) (h : Nat) (ar : Nat → Nat) (now : Int64) (sc : Nat → Int32) (ai : Nat → Nat → Int32) (al : Nat → Nat → Int64) (T : List Nat) (hT : mdT ai 6 T) (N : Nat) (hN : N ≤ 4102444799) (hnow : now = lN N) (i tg : Nat) (wk : Bool) (ch : Nat) (hi4 : i < 4) (htg : ai 4 i = nI tg) (htl : tg ≤ 9999) (hwk : ai 5 i = bI wk) (hch : al 6 i = lN ch) (hchl : ch ≤ 4102444799) : Kt l y_Mo_ifRange (yw y_Mo_ifRange b_Mo_ifRange 4 (some .boolean)) 6 139 0 0 D cls tys (fun _ _ _ => True) [.ref h, .int (nI i)] (mdW tc h ar now sc ai al) (fun r w => r = some (.int (bI (irS (yrN N + 50) (tagL tg) wk ch T))) ∧ ∃ s2, w = mdW tc h ar now s2 ai al ∧ gq sc s2) := sorry
/-! THE REFERENCE: choosing, conditions, deciding, by program (wip/whole/gen/p52.py) -/
theorem wt_le {rs : List Nat} {w : Nat} (h : (wt rs).1 = some w) : w ≤ 1000 := sorry
theorem prm_le {P V : List Nat} {n : Nat} {f : Bool} {t : Nat} {rs : List Nat} {u : Bool × Nat × Nat × List Nat} (h : prm P V n f t rs = some u) : u.2.2.1 ≤ 1000 := sorry
theorem accL_le {M S P V : List Nat} {n els mt q v : Nat} {rs : List Nat} (hq : q ≤ 1000) (h : accL M S P V n els mt q rs = some v) : v ≤ 1000 := sorry
theorem lanL_le {C B : List Nat} {n els lg q v : Nat} {rs : List Nat} (hq : q ≤ 1000) (h : lanL C B n els lg q rs = some v) : v ≤ 1000 := sorry
/-- a representation: type, language, size, tag, whether weak, change -/
abbrev Rp : Type := Nat × Nat × Nat × Nat × Bool × Nat
def rpOk (r : Rp) : Prop := r.1 < 6 ∧ r.2.1 < 6 ∧ r.2.2.1 ≤ 100000 ∧ r.2.2.2.1 ≤ 9999 ∧ r.2.2.2.2.2 ≤ 4102444799
def rpA (ai : Nat → Nat → Int32) (al : Nat → Nat → Int64) (rp : List Rp) : Prop := rp.length ≤ 4 ∧ ∀ i r, rp[i]? = some r → rpOk r ∧ ai 1 i = nI r.1 ∧ ai 2 i = nI r.2.1 ∧ ai 3 i = nI r.2.2.1 ∧ ai 4 i = nI r.2.2.2.1 ∧ ai 5 i = bI r.2.2.2.2.1 ∧ al 6 i = lN r.2.2.2.2.2
/-- the reference holds this question -/
def mdR (now : Int64) (sc : Nat → Int32) (ai : Nat → Nat → Int32) (al : Nat → Nat → Int64) (N : Nat) (rp : List Rp) (me : Int32) (tx : Nat → List Nat) : Prop := N ≤ 4102444799 ∧ now = lN N ∧ mdWd al ∧ rpA ai al rp ∧ sc 1 = nI rp.length ∧ sc 8 = me ∧ ∀ G, G < 8 → mdT ai G (tx G)
theorem mdT.fr {a b : Nat → Nat → Int32} {G : Nat} {T : List Nat} (h : mdT a G T) (h7 : b 7 = a 7) (h8 : b 8 = a 8) : mdT b G T := sorry
theorem mdR.fr {now : Int64} {sc s2 : Nat → Int32} {ai a2 : Nat → Nat → Int32} {al : Nat → Nat → Int64} {N : Nat} {rp : List Rp} {me : Int32} {tx : Nat → List Nat} (h : mdR now sc ai al N rp me tx) (h1 : s2 1 = sc 1) (h8 : s2 8 = sc 8) (ha : ∀ k, k < 9 → a2 k = ai k) : mdR now s2 a2 al N rp me tx := sorry
theorem mdR.gq {now : Int64} {sc s2 : Nat → Int32} {ai : Nat → Nat → Int32} {al : Nat → Nat → Int64} {N : Nat} {rp : List Rp} {me : Int32} {tx : Nat → List Nat} (h : mdR now sc ai al N rp me tx) (hg : gq sc s2) : mdR now s2 ai al N rp me tx := sorry
def acQ (tx : Nat → List Nat) (r : Rp) : Option Nat := accL (mnL r.1) (snL r.1) (pnL r.1) (vnL r.1) 97 0 0 0 (tx 0)
def laQ (tx : Nat → List Nat) (r : Rp) : Option Nat := lanL (coL r.2.1) (beL r.2.1) 97 0 0 0 (tx 1)
def scS (tx : Nat → List Nat) (r : Rp) : Nat := ((acQ tx r).getD 1000) * (if r.2.1 = 5 then 1000 else (laQ tx r).getD 1000)
def chz : List Int32 → Nat → Option Nat → Int32 → Option Nat
  | [], _, b, _ => b
  | z :: zs, n, b, q => if q < z then chz zs (n + 1) (some n) z else chz zs (n + 1) b q
def chS (tx : Nat → List Nat) (rp : List Rp) : Option Nat := chz (rp.map fun r => nI (scS tx r)) 0 none 0
theorem chz_lt {zs : List Int32} {n : Nat} {b : Option Nat} {q : Int32} {i : Nat} (hb : ∀ i, b = some i → i < n) (h : chz zs n b q = some i) : i < n + zs.length := sorry
theorem chS_lt {tx : Nat → List Nat} {rp : List Rp} {i : Nat} (h : chS tx rp = some i) : i < rp.length := sorry
def rfS (ly : Nat) (tx : Nat → List Nat) (r : Rp) : Bool := if tx 2 = [] then (match dtO ly (tx 5) with
    | none => false
    | some t => decide (t < r.2.2.2.2.2)) else (match tgsL (tagL r.2.2.2.1) (tx 2) with
    | none => true
    | some v => !(v.1 || (v.2.2 && !r.2.2.2.2.1)))
def unS (ly : Nat) (tx : Nat → List Nat) (r : Rp) : Bool := if tx 3 = [] then (match dtO ly (tx 4) with
    | none => false
    | some t => decide (r.2.2.2.2.2 ≤ t)) else (match tgsL (tagL r.2.2.2.1) (tx 3) with
    | none => false
    | some v => v.1 || v.2.1)
def cnS (ly : Nat) (tx : Nat → List Nat) (r : Rp) : Nat := if rfS ly tx r = true then 412 else if unS ly tx r = true then 304 else 0
def rgS (ly : Nat) (me : Int32) (tx : Nat → List Nat) (r : Rp) : Nat × List (Nat × Nat) := if ¬ me = 0 then (200, []) else if irS ly (tagL r.2.2.2.1) r.2.2.2.2.1 r.2.2.2.2.2 (tx 6) = false then (200, []) else match rngL (tx 7) with
  | none => (200, [])
  | some A => if 4 < A.length then (200, []) else if ovl (A.filterMap (rsv r.2.2.1)) = true then (200, []) else if A.filterMap (rsv r.2.2.1) = [] then (416, []) else (206, A.filterMap (rsv r.2.2.1))
/-- status, the chosen one with its number, parts -/
def dcS (ly : Nat) (rp : List Rp) (me : Int32) (tx : Nat → List Nat) : Nat × Option (Nat × Rp) × List (Nat × Nat) := if me < 0 ∨ 2 < me then (501, none, []) else if rp = [] then (404, none, []) else if me = 2 then (204, none, []) else match chS tx rp with
  | none => (406, none, [])
  | some i => (if 0 < cnS ly tx (rp.getD i (0, 0, 0, 0, false, 0)) then cnS ly tx (rp.getD i (0, 0, 0, 0, false, 0)) else (rgS ly me tx (rp.getD i (0, 0, 0, 0, false, 0))).1, some (i, rp.getD i (0, 0, 0, 0, false, 0)), if 0 < cnS ly tx (rp.getD i (0, 0, 0, 0, false, 0)) then [] else (rgS ly me tx (rp.getD i (0, 0, 0, 0, false, 0))).2)
theorem tgV_iff {i : Nat} {str wk : Bool} {v : Option (Bool × Bool × Bool)} : tgV (some i) str wk v = 1 ↔ (match v with
    | none => false
    | some v => v.1 || (if str = true then (v.2.2 && !wk) else v.2.1)) = true := sorry
set_option maxRecDepth 100000 in
set_option maxHeartbeats 4000000 in
theorem c_Mo_scoreOf (l : Launch) (D : va_G) (tys : List (ClassId × FieldType)) (tc : Nat → ClassId) (hty : ∀ i : Nat, i < 4 → tys[i]? = some (tc i, vx_ty i)) (h : Nat) (ar : Nat → Nat) (now : Int64) (sc : Nat → Int32) (ai : Nat → Nat → Int32) (al : Nat → Nat → Int64) (N : Nat) (rp : List Rp) (me : Int32) (tx : Nat → List Nat) (hR : mdR now sc ai al N rp me tx) (i : Nat) (r9 : Rp) (hi : rp[i]? = some r9) : Kt l y_Mo_scoreOf (yw y_Mo_scoreOf b_Mo_scoreOf 4 (some .int)) 7 159 0 0 D cls tys (fun _ _ _ => True) [.ref h, .int (nI i)] (mdW tc h ar now sc ai al) (fun r w => r = some (.int (nI (scS tx r9))) ∧ ∃ s2, w = mdW tc h ar now s2 ai al ∧ gq sc s2) := sorry
theorem drop_map {f : Rp → Int32} {rp : List Rp} {n : Nat} {r : Rp} (h : rp[n]? = some r) : (rp.map f).drop n = f r :: (rp.map f).drop (n + 1) := sorry
set_option maxRecDepth 100000 in
set_option maxHeartbeats 4000000 in
theorem c_Mo_chosenOne (l : Launch) (D : va_G) (tys : List (ClassId × FieldType)) (tc : Nat → ClassId) (hty : ∀ i : Nat, i < 4 → tys[i]? = some (tc i, vx_ty i)) (h : Nat) (ar : Nat → Nat) (now : Int64) (sc : Nat → Int32) (ai : Nat → Nat → Int32) (al : Nat → Nat → Int64) (N : Nat) (rp : List Rp) (me : Int32) (tx : Nat → List Nat) (hR : mdR now sc ai al N rp me tx) : Kt l y_Mo_chosenOne (yw y_Mo_chosenOne b_Mo_chosenOne 5 (some .int)) 8 182 0 0 D cls tys (fun _ _ _ => True) [.ref h] (mdW tc h ar now sc ai al) (fun r w => r = some (.int (iI (chS tx rp))) ∧ ∃ s2, w = mdW tc h ar now s2 ai al ∧ gq sc s2) := sorry
theorem cn_412 {ly : Nat} {tx : Nat → List Nat} {r : Rp} (h : rfS ly tx r = true) : cnS ly tx r = 412 := sorry
theorem cn_304 {ly : Nat} {tx : Nat → List Nat} {r : Rp} (h : rfS ly tx r = false) (h2 : unS ly tx r = true) : cnS ly tx r = 304 := sorry
theorem cn_0 {ly : Nat} {tx : Nat → List Nat} {r : Rp} (h : rfS ly tx r = false) (h2 : unS ly tx r = false) : cnS ly tx r = 0 := sorry
theorem lI_lt0 {v : Option Nat} (hv : ∀ t, v = some t → t < 2 ^ 63) : lI v < 0 ↔ v = none := sorry
theorem lI_lt {v : Option Nat} {c : Nat} (hv : ∀ t, v = some t → t < 2 ^ 63) (hc : c < 2 ^ 63) : lI v < lN c ↔ v = none ∨ ∃ t, v = some t ∧ t < c := sorry
theorem tgs_tag {ai : Nat → Nat → Int32} {i : Nat} {r : Rp} (hi4 : i < 4) (h4 : ai 4 i = nI r.2.2.2.1) (hl : r.2.2.2.1 ≤ 9999) (h5 : ai 5 i = bI r.2.2.2.2.1) : ∀ j, some i = some j → j < 4 ∧ ai 4 j = nI r.2.2.2.1 ∧ r.2.2.2.1 ≤ 9999 ∧ ai 5 j = bI r.2.2.2.2.1 ∧ tagL r.2.2.2.1 = tagL r.2.2.2.1 := sorry
set_option maxRecDepth 100000 in
set_option maxHeartbeats 4000000 in
theorem c_Mo_conditions (l : Launch) (D : va_G) (tys : List (ClassId × FieldType)) (tc : Nat → ClassId) (hty : ∀ i : Nat, i < 4 → tys[i]? = some (tc i, vx_ty i)) (h : Nat) (ar : Nat → Nat) (now : Int64) (sc : Nat → Int32) (ai : Nat → Nat → Int32) (al : Nat → Nat → Int64) (N : Nat) (rp : List Rp) (me : Int32) (tx : Nat → List Nat) (hR : mdR now sc ai al N rp me tx) (i : Nat) (r9 : Rp) (hi : rp[i]? = some r9) : Kt l y_Mo_conditions (yw y_Mo_conditions b_Mo_conditions 4 (some .int)) 6 139 0 0 D cls tys (fun _ _ _ => True) [.ref h, .int (nI i)] (mdW tc h ar now sc ai al) (fun r w => r = some (.int (nI (cnS (yrN N + 50) tx r9))) ∧ ∃ s2, w = mdW tc h ar now s2 ai al ∧ gq sc s2) := sorry
/-! THE REFERENCE: deciding, by program (wip/whole/gen/p53.py) -/
theorem paA_nil {a : Nat → Nat → Int32} : paA a [] := sorry
theorem getD_l {pa : List (Nat × Nat)} {v : Nat × Nat} {i : Nat} (h : i < pa.length) : (pa ++ [v]).getD i (0, 0) = pa.getD i (0, 0) := sorry
theorem getD_r {pa : List (Nat × Nat)} {v : Nat × Nat} : (pa ++ [v]).getD pa.length (0, 0) = v := sorry
theorem paA_add {a : Nat → Nat → Int32} {pa : List (Nat × Nat)} {v : Nat × Nat} (h : paA a pa) (h4 : pa.length < 4) (h1 : v.1 ≤ v.2) (h2 : v.2 < 100000) : paA (ap (ap a 11 (upd (a 11) pa.length (nI v.1))) 12 (upd (a 12) pa.length (nI v.2))) (pa ++ [v]) := sorry
theorem rsv_ok {n : Nat} {u : Option Nat × Option Nat} {v : Nat × Nat} (h : rsv n u = some v) : v.1 ≤ v.2 ∧ v.2 < n := sorry
def spB (u : Option Nat × Option Nat) : Prop := (∀ v, u.1 = some v → v ≤ 999999999) ∧ (∀ v, u.2 = some v → v ≤ 999999999)
theorem spc_b {rs : List Nat} {u : (Option Nat × Option Nat) × List Nat} (h : spc rs = some u) : spB u.1 := sorry
theorem rgG_b {n : Nat} {A L : List (Option Nat × Option Nat)} {rs : List Nat} (hA : ∀ u ∈ A, spB u) (h : rgG n A rs = some L) : ∀ u ∈ L, spB u := sorry
theorem rngL_b {T : List Nat} {L : List (Option Nat × Option Nat)} (h : rngL T = some L) : ∀ u ∈ L, spB u := sorry
def rq (s t : Nat → Int32) : Prop := ∀ k, k < 11 ∨ (21 ≤ k ∧ k ≠ 27) → t k = s k
theorem rq.refl {s : Nat → Int32} : rq s s := sorry
theorem rq.trans {a b c : Nat → Int32} (h1 : rq a b) (h2 : rq b c) : rq a c := sorry
theorem rq.upd {s t : Nat → Int32} {v : Int32} (h : rq s t) : rq s (upd t 27 v) := sorry
theorem gq.rq {s t : Nat → Int32} (h : gq s t) : rq s t := sorry
theorem hq.rq {s t : Nat → Int32} (h : hq s t) : rq s t := sorry
def ra9 (a b : Nat → Nat → Int32) : Prop := ∀ k, k < 9 → b k = a k
theorem aq.ra9 {a b : Nat → Nat → Int32} (h : aq a b) : ra9 a b := sorry
theorem spA.fr {a b : Nat → Nat → Int32} {A : List (Option Nat × Option Nat)} (h : spA a A) (h9 : b 9 = a 9) (h10 : b 10 = a 10) : spA b A := sorry
theorem fm_take {A : List (Option Nat × Option Nat)} {k : Nat} {u : Option Nat × Option Nat} {f : Option Nat × Option Nat → Option (Nat × Nat)} (h : A[k]? = some u) : (A.take (k + 1)).filterMap f = (A.take k).filterMap f ++ (match f u with
    | none => []
    | some v => [v]) := sorry
theorem fm_len {A : List (Option Nat × Option Nat)} {f : Option Nat × Option Nat → Option (Nat × Nat)} : (A.filterMap f).length ≤ A.length := sorry
set_option maxRecDepth 100000 in
set_option maxHeartbeats 4000000 in
theorem c_Mo_ranged (l : Launch) (D : va_G) (tys : List (ClassId × FieldType)) (tc : Nat → ClassId) (hty : ∀ i : Nat, i < 4 → tys[i]? = some (tc i, vx_ty i)) (h : Nat) (ar : Nat → Nat) (now : Int64) (sc : Nat → Int32) (ai : Nat → Nat → Int32) (al : Nat → Nat → Int64) (N : Nat) (rp : List Rp) (me : Int32) (tx : Nat → List Nat) (hR : mdR now sc ai al N rp me tx) (i : Nat) (r9 : Rp) (hi : rp[i]? = some r9) (h27 : sc 27 = nI 0) : Kt l y_Mo_ranged (yw y_Mo_ranged b_Mo_ranged 3 (some .int)) 7 162 0 0 D cls tys (fun _ _ _ => True) [.ref h, .int (nI i)] (mdW tc h ar now sc ai al) (fun r w => r = some (.int (nI (rgS (yrN N + 50) me tx r9).1)) ∧ ∃ s2 a2, w = mdW tc h ar now s2 a2 al ∧ rq sc s2 ∧ ra9 ai a2 ∧ s2 27 = nI (rgS (yrN N + 50) me tx r9).2.length ∧ paA a2 (rgS (yrN N + 50) me tx r9).2) := sorry
theorem getD_rp {rp : List Rp} {i : Nat} {r : Rp} (h : rp[i]? = some r) : rp.getD i (0, 0, 0, 0, false, 0) = r := sorry
def anN (v : Option (Nat × Rp)) : Option (Nat × Nat) := v.map (fun u => (u.1, u.2.2.2.1))
theorem cnS_le {ly : Nat} {tx : Nat → List Nat} {r : Rp} : cnS ly tx r ≤ 412 := sorry
set_option maxRecDepth 100000 in
set_option maxHeartbeats 4000000 in
theorem c_Mo_decide (l : Launch) (D : va_G) (tys : List (ClassId × FieldType)) (tc : Nat → ClassId) (hty : ∀ i : Nat, i < 4 → tys[i]? = some (tc i, vx_ty i)) (h : Nat) (ar : Nat → Nat) (now : Int64) (sc : Nat → Int32) (ai : Nat → Nat → Int32) (al : Nat → Nat → Int64) (N : Nat) (rp : List Rp) (me : Int32) (tx : Nat → List Nat) (hR : mdR now sc ai al N rp me tx) (h24 : sc 24 = -1) (h25 : sc 25 = nI 0) (h27 : sc 27 = nI 0) : Kt l y_Mo_decide (yw y_Mo_decide b_Mo_decide 3 (some .int)) 9 206 0 0 D cls tys (fun _ _ _ => True) [.ref h] (mdW tc h ar now sc ai al) (fun r w => r = some (.int (nI (dcS (yrN N + 50) rp me tx).1)) ∧ ∃ s2 a2, w = mdW tc h ar now s2 a2 al ∧ (∀ k, k < 11 ∨ k = 23 ∨ k = 26 → s2 k = sc k) ∧ ra9 ai a2 ∧ s2 24 = iI ((anN (dcS (yrN N + 50) rp me tx).2.1).map Prod.fst) ∧ s2 25 = nI (((anN (dcS (yrN N + 50) rp me tx).2.1).map Prod.snd).getD 0) ∧ s2 27 = nI (dcS (yrN N + 50) rp me tx).2.2.length ∧ paA a2 (dcS (yrN N + 50) rp me tx).2.2) := sorry
/-- the reference holds this answer: status, number and size of the one chosen, whether the head alone, parts -/
def mdA (sc : Nat → Int32) (ai : Nat → Nat → Int32) (st : Int32) (an : Option (Nat × Nat)) (ho : Bool) (pa : List (Nat × Nat)) : Prop := sc 23 = st ∧ sc 24 = iI (an.map Prod.fst) ∧ sc 25 = nI ((an.map Prod.snd).getD 0) ∧ sc 26 = bI ho ∧ sc 27 = nI pa.length ∧ paA ai pa
/-- what goes together in an answer -/
def anOk (st : Int32) (an : Option (Nat × Nat)) (pa : List (Nat × Nat)) : Prop := (an = none → pa = [] ∧ st ≠ 200) ∧ (st = 206 ↔ pa ≠ []) ∧ (∀ u, an = some u → u.1 < 4 ∧ u.2 ≤ 100000) ∧ pa.length ≤ 4 ∧ ∀ i, i < pa.length → (pa.getD i (0, 0)).1 ≤ (pa.getD i (0, 0)).2 ∧ (pa.getD i (0, 0)).2 < 100000
theorem rgS_ok {ly : Nat} {me : Int32} {tx : Nat → List Nat} {r : Rp} : ((rgS ly me tx r).1 = 206 ∧ (rgS ly me tx r).2 ≠ []) ∨ (((rgS ly me tx r).1 = 200 ∨ (rgS ly me tx r).1 = 416) ∧ (rgS ly me tx r).2 = []) := sorry
theorem cnS_v {ly : Nat} {tx : Nat → List Nat} {r : Rp} : cnS ly tx r = 412 ∨ cnS ly tx r = 304 ∨ cnS ly tx r = 0 := sorry
theorem dcS_ok {ly : Nat} {rp : List Rp} {me : Int32} {tx : Nat → List Nat} {a : Nat → Nat → Int32} (hrp : rp.length ≤ 4 ∧ ∀ r ∈ rp, rpOk r) (hpa : paA a (dcS ly rp me tx).2.2) : anOk (nI (dcS ly rp me tx).1) (anN (dcS ly rp me tx).2.1) (dcS ly rp me tx).2.2 ∧ (dcS ly rp me tx).1 ≤ 501 := sorry
set_option maxRecDepth 100000 in
set_option maxHeartbeats 4000000 in
theorem c_Mo_respond (l : Launch) (D : va_G) (tys : List (ClassId × FieldType)) (tc : Nat → ClassId) (hty : ∀ i : Nat, i < 4 → tys[i]? = some (tc i, vx_ty i)) (h : Nat) (ar : Nat → Nat) (now : Int64) (sc : Nat → Int32) (ai : Nat → Nat → Int32) (al : Nat → Nat → Int64) (N : Nat) (rp : List Rp) (me : Int32) (tx : Nat → List Nat) (hR : mdR now sc ai al N rp me tx) : Kt l y_Mo_respond (yw y_Mo_respond b_Mo_respond 1 (some .int)) 10 228 0 0 D cls tys (fun _ _ _ => True) [.ref h] (mdW tc h ar now sc ai al) (fun r w => r = some (.int (nI (dcS (yrN N + 50) rp me tx).1)) ∧ ∃ s2 a2, w = mdW tc h ar now s2 a2 al ∧ mdR now s2 a2 al N rp me tx ∧ mdA s2 a2 (nI (dcS (yrN N + 50) rp me tx).1) (anN (dcS (yrN N + 50) rp me tx).2.1) (decide (me = 1)) (dcS (yrN N + 50) rp me tx).2.2 ∧ anOk (nI (dcS (yrN N + 50) rp me tx).1) (anN (dcS (yrN N + 50) rp me tx).2.1) (dcS (yrN N + 50) rp me tx).2.2) := sorry
/-! THE REFERENCE: what the answer shows, by program (wip/whole/gen/p54.py) -/
theorem dcl_f : ∀ (k n : Nat), n < 10 ^ (k + 1) → dcl k n = dcl (k + 1) n:= sorry
theorem dec_lo {n : Nat} (h : n < 10) : dec n = [48 + n] := sorry
theorem dec_hi {n : Nat} (h : 10 ≤ n) (h2 : n < 2 ^ 31) : dec n = dec (n / 10) ++ [48 + n % 10] := sorry
def dgl (n : Nat) : Nat := if n = 0 then 0 else (dec n).length
theorem dgl_s {n : Nat} (h : n < 2 ^ 31) : (dec n).length = 1 + dgl (n / 10) := sorry
theorem dec_le {n : Nat} (h : n < 1000000) : 1 ≤ (dec n).length ∧ (dec n).length ≤ 6 := sorry
theorem gd_app {A B : List Nat} {i : Nat} : (A ++ B).getD i 0 = if i < A.length then A.getD i 0 else B.getD (i - A.length) 0 := sorry
/-- the byte j of representation num -/
def bt (num j : Nat) : Nat := (7 * j + 13 * num + 1) % 251
def hd15 : List Nat := [45, 45, 80, 65, 82, 84, 13, 10, 82, 97, 110, 103, 101, 58, 32]
def fgr (sz : Nat) (u : Nat × Nat) : List Nat := dec u.1 ++ (45 :: (dec u.2 ++ (47 :: dec sz)))
def hdg (sz : Nat) (u : Nat × Nat) : List Nat := hd15 ++ (fgr sz u ++ [13, 10, 13, 10])
def hln (sz : Nat) (u : Nat × Nat) : Nat := 15 + (dec u.1).length + 1 + (dec u.2).length + 1 + (dec sz).length + 4
theorem fgr_len {sz : Nat} {u : Nat × Nat} : (fgr sz u).length + 19 = hln sz u := sorry
theorem hdg_len {sz : Nat} {u : Nat × Nat} : (hdg sz u).length = hln sz u := sorry
def psz (sz : Nat) (u : Nat × Nat) : Nat := hln sz u + (u.2 - u.1 + 1) + 2
/-- byte i of a part -/
def pbS (sz num : Nat) (u : Nat × Nat) (i : Nat) : Nat := if i < hln sz u then (hdg sz u).getD i 0 else if i - hln sz u < u.2 - u.1 + 1 then bt num (u.1 + (i - hln sz u)) else [13, 10].getD (i - hln sz u - (u.2 - u.1 + 1)) 0
def bhp : List Nat := [45, 45, 80, 65, 82, 84, 45, 45, 13, 10]
def bwk (sz num : Nat) : List (Nat × Nat) → Nat → Nat
  | [], i => bhp.getD i 0
  | u :: pa, i => if i < psz sz u then pbS sz num u i else bwk sz num pa (i - psz sz u)
def lnS (st : Int32) (an : Option (Nat × Nat)) (pa : List (Nat × Nat)) : Nat := match an with
  | none => 0
  | some u => if st = 200 then u.2 else match pa with
    | [] => 0
    | [v] => v.2 - v.1 + 1
    | pa => 10 + (pa.map (psz u.2)).sum
def bdV (st : Int32) (u : Nat × Nat) (pa : List (Nat × Nat)) (n : Nat) : Int32 := if st = 200 then nI (bt u.1 n) else match pa with
  | [] => -1
  | [v] => nI (bt u.1 (v.1 + n))
  | pa => nI (bwk u.2 u.1 pa n)
/-- the body's byte i -/
def bdS (st : Int32) (an : Option (Nat × Nat)) (ho : Bool) (pa : List (Nat × Nat)) (i : Int32) : Int32 := if i < 0 then -1 else if lnS st an pa ≤ i.toNatClampNeg then -1 else if ho = true then -1 else match an with
  | none => -1
  | some u => bdV st u pa i.toNatClampNeg
theorem i_nat {i : Int32} (h : ¬ i < 0) : i = nI i.toNatClampNeg ∧ i.toNatClampNeg < 2 ^ 31 := sorry
theorem pa_get {pa : List (Nat × Nat)} {k : Nat} (h : k < pa.length) : pa[k]? = some (pa.getD k (0, 0)) := sorry
theorem iw_hd1 : isWd 724327827336342829 [45, 45, 80, 65, 82, 84, 13, 10] := sorry
theorem iw_hd2 : isWd 9071406456136018 [82, 97, 110, 103, 101, 58, 32] := sorry
theorem iw_bhp : isWd 3255350817918561581 [45, 45, 80, 65, 82, 84, 45, 45] := sorry
theorem crl {j : Nat} : (if j % 2 = 0 then 13 else 10) = [13, 10].getD (j % 2) 0 := sorry
theorem mod2 {a : Nat} (h : a < 2 ^ 31) : nI a - nI a / (2 : Int32) * (2 : Int32) = nI (a % 2) := sorry
theorem mod251 {a : Nat} (h : a < 2 ^ 31) : nI a - nI a / (251 : Int32) * (251 : Int32) = nI (a % 251) := sorry
set_option maxRecDepth 100000 in
set_option maxHeartbeats 4000000 in
theorem c_Mo_status (l : Launch) (D : va_G) (tys : List (ClassId × FieldType)) (tc : Nat → ClassId) (hty : ∀ i : Nat, i < 4 → tys[i]? = some (tc i, vx_ty i)) (h : Nat) (ar : Nat → Nat) (now : Int64) (sc : Nat → Int32) (ai : Nat → Nat → Int32) (al : Nat → Nat → Int64) (st : Int32) (an : Option (Nat × Nat)) (ho : Bool) (pa : List (Nat × Nat)) (hA : mdA sc ai st an ho pa) : Kt l y_Mo_status (yw y_Mo_status b_Mo_status 1 (some .int)) 0 0 0 0 D cls tys (fun _ _ _ => True) [.ref h] (mdW tc h ar now sc ai al) (fun r w => r = some (.int st) ∧ w = (mdW tc h ar now sc ai al)) := sorry
set_option maxRecDepth 100000 in
set_option maxHeartbeats 4000000 in
theorem c_Mo_chosen (l : Launch) (D : va_G) (tys : List (ClassId × FieldType)) (tc : Nat → ClassId) (hty : ∀ i : Nat, i < 4 → tys[i]? = some (tc i, vx_ty i)) (h : Nat) (ar : Nat → Nat) (now : Int64) (sc : Nat → Int32) (ai : Nat → Nat → Int32) (al : Nat → Nat → Int64) (st : Int32) (an : Option (Nat × Nat)) (ho : Bool) (pa : List (Nat × Nat)) (hA : mdA sc ai st an ho pa) : Kt l y_Mo_chosen (yw y_Mo_chosen b_Mo_chosen 1 (some .int)) 0 0 0 0 D cls tys (fun _ _ _ => True) [.ref h] (mdW tc h ar now sc ai al) (fun r w => r = some (.int (iI (an.map Prod.fst))) ∧ w = (mdW tc h ar now sc ai al)) := sorry
set_option maxRecDepth 100000 in
set_option maxHeartbeats 4000000 in
theorem c_Mo_digitsOf (l : Launch) (D : va_G) (tys : List (ClassId × FieldType)) (tc : Nat → ClassId) (hty : ∀ i : Nat, i < 4 → tys[i]? = some (tc i, vx_ty i)) (v : Nat) (hv : v < 2 ^ 31) : Kt l y_Mo_digitsOf (yw y_Mo_digitsOf b_Mo_digitsOf 3 (some .int)) 0 0 0 0 D cls tys (fun _ _ _ => True) [.int (nI v)] [] (fun r w => r = some (.int (nI (dec v).length)) ∧ w = []) := sorry
set_option maxRecDepth 100000 in
set_option maxHeartbeats 4000000 in
theorem c_Mo_byteAt (l : Launch) (D : va_G) (tys : List (ClassId × FieldType)) (tc : Nat → ClassId) (hty : ∀ i : Nat, i < 4 → tys[i]? = some (tc i, vx_ty i)) (h : Nat) (ar : Nat → Nat) (now : Int64) (sc : Nat → Int32) (ai : Nat → Nat → Int32) (al : Nat → Nat → Int64) (j num : Nat) (hj : j ≤ 1000000) (hnum : num < 4) (h24n : sc 24 = nI num) : Kt l y_Mo_byteAt (yw y_Mo_byteAt b_Mo_byteAt 2 (some .int)) 0 0 0 0 D cls tys (fun _ _ _ => True) [.ref h, .int (nI j)] (mdW tc h ar now sc ai al) (fun r w => r = some (.int (nI (bt num j))) ∧ w = (mdW tc h ar now sc ai al)) := sorry
set_option maxRecDepth 100000 in
set_option maxHeartbeats 4000000 in
theorem c_Mo_headOf (l : Launch) (D : va_G) (tys : List (ClassId × FieldType)) (tc : Nat → ClassId) (hty : ∀ i : Nat, i < 4 → tys[i]? = some (tc i, vx_ty i)) (h : Nat) (ar : Nat → Nat) (now : Int64) (sc : Nat → Int32) (ai : Nat → Nat → Int32) (al : Nat → Nat → Int64) (pa : List (Nat × Nat)) (hpa : paA ai pa) (k sz : Nat) (hk : k < pa.length) (hsz : sz ≤ 100000) (h25 : sc 25 = nI sz) : Kt l y_Mo_headOf (yw y_Mo_headOf b_Mo_headOf 2 (some .int)) 1 22 0 0 D cls tys (fun _ _ _ => True) [.ref h, .int (nI k)] (mdW tc h ar now sc ai al) (fun r w => r = some (.int (nI (hln sz (pa.getD k (0, 0))))) ∧ w = (mdW tc h ar now sc ai al)) := sorry
set_option maxRecDepth 100000 in
set_option maxHeartbeats 4000000 in
theorem c_Mo_partSize (l : Launch) (D : va_G) (tys : List (ClassId × FieldType)) (tc : Nat → ClassId) (hty : ∀ i : Nat, i < 4 → tys[i]? = some (tc i, vx_ty i)) (h : Nat) (ar : Nat → Nat) (now : Int64) (sc : Nat → Int32) (ai : Nat → Nat → Int32) (al : Nat → Nat → Int64) (pa : List (Nat × Nat)) (hpa : paA ai pa) (k sz : Nat) (hk : k < pa.length) (hsz : sz ≤ 100000) (h25 : sc 25 = nI sz) : Kt l y_Mo_partSize (yw y_Mo_partSize b_Mo_partSize 2 (some .int)) 2 43 0 0 D cls tys (fun _ _ _ => True) [.ref h, .int (nI k)] (mdW tc h ar now sc ai al) (fun r w => r = some (.int (nI (psz sz (pa.getD k (0, 0))))) ∧ w = (mdW tc h ar now sc ai al)) := sorry
theorem dec_len {n : Nat} (h : n < 2 ^ 31) : (dec n).length ≤ 10 := sorry
set_option maxRecDepth 100000 in
set_option maxHeartbeats 4000000 in
theorem c_Mo_digitOf (l : Launch) (D : va_G) (tys : List (ClassId × FieldType)) (tc : Nat → ClassId) (hty : ∀ i : Nat, i < 4 → tys[i]? = some (tc i, vx_ty i)) (v i : Nat) (hv : v < 2 ^ 31) (hi : i < (dec v).length) : Kt l y_Mo_digitOf (yw y_Mo_digitOf b_Mo_digitOf 4 (some .int)) 1 22 0 0 D cls tys (fun _ _ _ => True) [.int (nI v), .int (nI i)] [] (fun r w => r = some (.int (nI ((dec v).getD i 0))) ∧ w = []) := sorry
theorem fgr_a {sz a b i : Nat} (h : i < (dec a).length) : (fgr sz (a, b)).getD i 0 = (dec a).getD i 0 := sorry
theorem fgr_m {sz a b i : Nat} (h : i = (dec a).length) : (fgr sz (a, b)).getD i 0 = 45 := sorry
theorem fgr_b {sz a b i : Nat} (h : ¬ i < (dec a).length) (h2 : ¬ i = (dec a).length) (h3 : i < (dec a).length + 1 + (dec b).length) : (fgr sz (a, b)).getD i 0 = (dec b).getD (i - (dec a).length - 1) 0 := sorry
theorem fgr_s {sz a b i : Nat} (h : i = (dec a).length + 1 + (dec b).length) : (fgr sz (a, b)).getD i 0 = 47 := sorry
theorem fgr_z {sz a b i : Nat} (h : (dec a).length + 1 + (dec b).length < i) : (fgr sz (a, b)).getD i 0 = (dec sz).getD (i - (dec a).length - (dec b).length - 2) 0 := sorry
set_option maxRecDepth 100000 in
set_option maxHeartbeats 4000000 in
theorem c_Mo_figures (l : Launch) (D : va_G) (tys : List (ClassId × FieldType)) (tc : Nat → ClassId) (hty : ∀ i : Nat, i < 4 → tys[i]? = some (tc i, vx_ty i)) (h : Nat) (ar : Nat → Nat) (now : Int64) (sc : Nat → Int32) (ai : Nat → Nat → Int32) (al : Nat → Nat → Int64) (a b sz i : Nat) (ha : a < 100000) (hb : b < 100000) (hsz : sz ≤ 100000) (h25 : sc 25 = nI sz) (hi : i < (fgr sz (a, b)).length) : Kt l y_Mo_figures (yw y_Mo_figures b_Mo_figures 6 (some .int)) 2 45 0 0 D cls tys (fun _ _ _ => True) [.ref h, .int (nI a), .int (nI b), .int (nI i)] (mdW tc h ar now sc ai al) (fun r w => r = some (.int (nI ((fgr sz (a, b)).getD i 0))) ∧ w = (mdW tc h ar now sc ai al)) := sorry
set_option maxRecDepth 100000 in
set_option maxHeartbeats 4000000 in
theorem c_Mo_crlf (l : Launch) (D : va_G) (tys : List (ClassId × FieldType)) (tc : Nat → ClassId) (hty : ∀ i : Nat, i < 4 → tys[i]? = some (tc i, vx_ty i)) (j : Nat) (hj : j < 2 ^ 31) : Kt l y_Mo_crlf (yw y_Mo_crlf b_Mo_crlf 1 (some .int)) 0 0 0 0 D cls tys (fun _ _ _ => True) [.int (nI j)] [] (fun r w => r = some (.int (nI ([13, 10].getD (j % 2) 0))) ∧ w = []) := sorry
/-! THE REFERENCE: bodies, by program (wip/whole/gen/p55.py) -/
theorem sub_add3 {a b c : Nat} (h : b ≤ a + c) : nI a - nI b + nI c = nI (a + c - b) := sorry
theorem hdg_1 {sz : Nat} {u : Nat × Nat} {i : Nat} (h : i < 8) : (hdg sz u).getD i 0 = ([45, 45, 80, 65, 82, 84, 13, 10] : List Nat).getD i 0 := sorry
theorem hdg_2 {sz : Nat} {u : Nat × Nat} {i : Nat} (h : ¬ i < 8) (h2 : i < 15) : (hdg sz u).getD i 0 = ([82, 97, 110, 103, 101, 58, 32] : List Nat).getD (i - 8) 0 := sorry
theorem hdg_3 {sz : Nat} {u : Nat × Nat} {i : Nat} (h : ¬ i < 15) (h2 : i < hln sz u - 4) : (hdg sz u).getD i 0 = (fgr sz u).getD (i - 15) 0 := sorry
theorem hdg_4 {sz : Nat} {u : Nat × Nat} {i : Nat} (h : ¬ i < hln sz u - 4) (h2 : i < hln sz u) : (hdg sz u).getD i 0 = [13, 10].getD ((i + 4 - hln sz u) % 2) 0 := sorry
theorem lN_n {n : Nat} (h : n < 2 ^ 31) : (nI n).toInt64 = lN n := sorry
set_option maxRecDepth 100000 in
set_option maxHeartbeats 4000000 in
theorem c_Mo_partByte (l : Launch) (D : va_G) (tys : List (ClassId × FieldType)) (tc : Nat → ClassId) (hty : ∀ i : Nat, i < 4 → tys[i]? = some (tc i, vx_ty i)) (h : Nat) (ar : Nat → Nat) (now : Int64) (sc : Nat → Int32) (ai : Nat → Nat → Int32) (al : Nat → Nat → Int64) (pa : List (Nat × Nat)) (hpa : paA ai pa) (k sz : Nat) (hk : k < pa.length) (hsz : sz ≤ 100000) (h25 : sc 25 = nI sz) (i num : Nat) (hi : i < psz sz (pa.getD k (0, 0))) (hnum : num < 4) (h24n : sc 24 = nI num) : Kt l y_Mo_partByte (yw y_Mo_partByte b_Mo_partByte 5 (some .int)) 3 70 0 0 D cls tys (fun _ _ _ => True) [.ref h, .int (nI k), .int (nI i)] (mdW tc h ar now sc ai al) (fun r w => r = some (.int (nI (pbS sz num (pa.getD k (0, 0)) i))) ∧ w = (mdW tc h ar now sc ai al)) := sorry
theorem sum_take {sz : Nat} {pa : List (Nat × Nat)} {k : Nat} (h : k < pa.length) : ((pa.take (k + 1)).map (psz sz)).sum = ((pa.take k).map (psz sz)).sum + psz sz (pa.getD k (0, 0)) := sorry
theorem psz_le {sz : Nat} {pa : List (Nat × Nat)} {a : Nat → Nat → Int32} (hpa : paA a pa) (hsz : sz ≤ 100000) {k : Nat} (h : k < pa.length) : psz sz (pa.getD k (0, 0)) ≤ 200000 := sorry
theorem sum_le {sz : Nat} {pa : List (Nat × Nat)} {a : Nat → Nat → Int32} (hpa : paA a pa) (hsz : sz ≤ 100000) : ∀ k, k ≤ pa.length → ((pa.take k).map (psz sz)).sum ≤ 200000 * k:= sorry
theorem lnS_two {st : Int32} {num sz : Nat} {pa : List (Nat × Nat)} (h : ¬ st = 200) (h2 : 2 ≤ pa.length) : lnS st (some (num, sz)) pa = 10 + (pa.map (psz sz)).sum := sorry
theorem lnS_one {st : Int32} {num sz : Nat} {pa : List (Nat × Nat)} (h : ¬ st = 200) (h2 : pa.length = 1) : lnS st (some (num, sz)) pa = (pa.getD 0 (0, 0)).2 - (pa.getD 0 (0, 0)).1 + 1 := sorry
theorem lnS_nil {st : Int32} {an : Option (Nat × Nat)} (h : ¬ st = 200) : lnS st an [] = 0 := sorry
theorem lnS_le {st : Int32} {an : Option (Nat × Nat)} {pa : List (Nat × Nat)} {a : Nat → Nat → Int32} (hpa : paA a pa) (hok : anOk st an pa) : lnS st an pa ≤ 1000000 := sorry
set_option maxRecDepth 100000 in
set_option maxHeartbeats 4000000 in
theorem c_Mo_length (l : Launch) (D : va_G) (tys : List (ClassId × FieldType)) (tc : Nat → ClassId) (hty : ∀ i : Nat, i < 4 → tys[i]? = some (tc i, vx_ty i)) (h : Nat) (ar : Nat → Nat) (now : Int64) (sc : Nat → Int32) (ai : Nat → Nat → Int32) (al : Nat → Nat → Int64) (st : Int32) (an : Option (Nat × Nat)) (ho : Bool) (pa : List (Nat × Nat)) (hok : anOk st an pa) (hA : mdA sc ai st an ho pa) : Kt l y_Mo_length (yw y_Mo_length b_Mo_length 4 (some .long)) 3 64 0 0 D cls tys (fun _ _ _ => True) [.ref h] (mdW tc h ar now sc ai al) (fun r w => r = some (.long (lN (lnS st an pa))) ∧ w = (mdW tc h ar now sc ai al)) := sorry
theorem bd_neg {st : Int32} {an : Option (Nat × Nat)} {ho : Bool} {pa : List (Nat × Nat)} {i : Int32} (h : i < 0) : bdS st an ho pa i = -1 := sorry
theorem bd_big {st : Int32} {an : Option (Nat × Nat)} {ho : Bool} {pa : List (Nat × Nat)} {i : Int32} (h : ¬ i < 0) (h2 : lnS st an pa ≤ i.toNatClampNeg) : bdS st an ho pa i = -1 := sorry
theorem bd_ho {st : Int32} {an : Option (Nat × Nat)} {pa : List (Nat × Nat)} {i : Int32} (h : ¬ i < 0) (h2 : ¬ lnS st an pa ≤ i.toNatClampNeg) : bdS st an true pa i = -1 := sorry
theorem bd_go {st : Int32} {num sz : Nat} {pa : List (Nat × Nat)} {i : Int32} (h : ¬ i < 0) (h2 : ¬ lnS st (some (num, sz)) pa ≤ i.toNatClampNeg) : bdS st (some (num, sz)) false pa i = bdV st (num, sz) pa i.toNatClampNeg := sorry
theorem bdV_0 {st : Int32} {u : Nat × Nat} {pa : List (Nat × Nat)} {n : Nat} (h : st = 200) : bdV st u pa n = nI (bt u.1 n) := sorry
theorem bdV_1 {st : Int32} {u : Nat × Nat} {pa : List (Nat × Nat)} {n : Nat} (h : ¬ st = 200) (h1 : pa.length = 1) : bdV st u pa n = nI (bt u.1 ((pa.getD 0 (0, 0)).1 + n)) := sorry
theorem bdV_2 {st : Int32} {u : Nat × Nat} {pa : List (Nat × Nat)} {n : Nat} (h : ¬ st = 200) (h1 : 2 ≤ pa.length) : bdV st u pa n = nI (bwk u.2 u.1 pa n) := sorry
theorem bwk_drop {sz num : Nat} {pa : List (Nat × Nat)} {k i : Nat} (h : k < pa.length) : bwk sz num (pa.drop k) i = if i < psz sz (pa.getD k (0, 0)) then pbS sz num (pa.getD k (0, 0)) i else bwk sz num (pa.drop (k + 1)) (i - psz sz (pa.getD k (0, 0))) := sorry
set_option maxRecDepth 100000 in
set_option maxHeartbeats 4000000 in
theorem c_Mo_body (l : Launch) (D : va_G) (tys : List (ClassId × FieldType)) (tc : Nat → ClassId) (hty : ∀ i : Nat, i < 4 → tys[i]? = some (tc i, vx_ty i)) (h : Nat) (ar : Nat → Nat) (now : Int64) (sc : Nat → Int32) (ai : Nat → Nat → Int32) (al : Nat → Nat → Int64) (st : Int32) (an : Option (Nat × Nat)) (ho : Bool) (pa : List (Nat × Nat)) (hok : anOk st an pa) (hA : mdA sc ai st an ho pa) (i : Int32) : Kt l y_Mo_body (yw y_Mo_body b_Mo_body 4 (some .int)) 4 94 0 0 D cls tys (fun _ _ _ => True) [.ref h, .int i] (mdW tc h ar now sc ai al) (fun r w => r = some (.int (bdS st an ho pa i)) ∧ w = (mdW tc h ar now sc ai al)) := sorry
set_option maxRecDepth 100000 in
set_option maxHeartbeats 4000000 in
theorem c_Mo_parts (l : Launch) (D : va_G) (tys : List (ClassId × FieldType)) (tc : Nat → ClassId) (hty : ∀ i : Nat, i < 4 → tys[i]? = some (tc i, vx_ty i)) (h : Nat) (ar : Nat → Nat) (now : Int64) (sc : Nat → Int32) (ai : Nat → Nat → Int32) (al : Nat → Nat → Int64) (st : Int32) (an : Option (Nat × Nat)) (ho : Bool) (pa : List (Nat × Nat)) (hok : anOk st an pa) (hA : mdA sc ai st an ho pa) : Kt l y_Mo_parts (yw y_Mo_parts b_Mo_parts 1 (some .int)) 0 0 0 0 D cls tys (fun _ _ _ => True) [.ref h] (mdW tc h ar now sc ai al) (fun r w => r = some (.int (nI pa.length)) ∧ w = (mdW tc h ar now sc ai al)) := sorry
def fsS (pa : List (Nat × Nat)) (k : Int32) : Int32 := if k < 0 then -1 else if pa.length ≤ k.toNatClampNeg then -1 else nI (pa.getD k.toNatClampNeg (0, 0)).1
def lsS (pa : List (Nat × Nat)) (k : Int32) : Int32 := if k < 0 then -1 else if pa.length ≤ k.toNatClampNeg then -1 else nI (pa.getD k.toNatClampNeg (0, 0)).2
def soS (tx : Nat → List Nat) (rp : List Rp) (k : Int32) : Int32 := if k < 0 then -1 else if rp.length ≤ k.toNatClampNeg then -1 else nI (scS tx (rp.getD k.toNatClampNeg (0, 0, 0, 0, false, 0)))
set_option maxRecDepth 100000 in
set_option maxHeartbeats 4000000 in
theorem c_Mo_first (l : Launch) (D : va_G) (tys : List (ClassId × FieldType)) (tc : Nat → ClassId) (hty : ∀ i : Nat, i < 4 → tys[i]? = some (tc i, vx_ty i)) (h : Nat) (ar : Nat → Nat) (now : Int64) (sc : Nat → Int32) (ai : Nat → Nat → Int32) (al : Nat → Nat → Int64) (st : Int32) (an : Option (Nat × Nat)) (ho : Bool) (pa : List (Nat × Nat)) (hok : anOk st an pa) (hA : mdA sc ai st an ho pa) (k : Int32) : Kt l y_Mo_first (yw y_Mo_first b_Mo_first 2 (some .int)) 1 20 0 0 D cls tys (fun _ _ _ => True) [.ref h, .int k] (mdW tc h ar now sc ai al) (fun r w => r = some (.int (fsS pa k)) ∧ w = (mdW tc h ar now sc ai al)) := sorry
set_option maxRecDepth 100000 in
set_option maxHeartbeats 4000000 in
theorem c_Mo_last (l : Launch) (D : va_G) (tys : List (ClassId × FieldType)) (tc : Nat → ClassId) (hty : ∀ i : Nat, i < 4 → tys[i]? = some (tc i, vx_ty i)) (h : Nat) (ar : Nat → Nat) (now : Int64) (sc : Nat → Int32) (ai : Nat → Nat → Int32) (al : Nat → Nat → Int64) (st : Int32) (an : Option (Nat × Nat)) (ho : Bool) (pa : List (Nat × Nat)) (hok : anOk st an pa) (hA : mdA sc ai st an ho pa) (k : Int32) : Kt l y_Mo_last (yw y_Mo_last b_Mo_last 2 (some .int)) 1 20 0 0 D cls tys (fun _ _ _ => True) [.ref h, .int k] (mdW tc h ar now sc ai al) (fun r w => r = some (.int (lsS pa k)) ∧ w = (mdW tc h ar now sc ai al)) := sorry
set_option maxRecDepth 100000 in
set_option maxHeartbeats 4000000 in
theorem c_Mo_score (l : Launch) (D : va_G) (tys : List (ClassId × FieldType)) (tc : Nat → ClassId) (hty : ∀ i : Nat, i < 4 → tys[i]? = some (tc i, vx_ty i)) (h : Nat) (ar : Nat → Nat) (now : Int64) (sc : Nat → Int32) (ai : Nat → Nat → Int32) (al : Nat → Nat → Int64) (N : Nat) (rp : List Rp) (me : Int32) (tx : Nat → List Nat) (hR : mdR now sc ai al N rp me tx) (k : Int32) : Kt l y_Mo_score (yw y_Mo_score b_Mo_score 2 (some .int)) 8 182 0 0 D cls tys (fun _ _ _ => True) [.ref h, .int k] (mdW tc h ar now sc ai al) (fun r w => r = some (.int (soS tx rp k)) ∧ ∃ s2, w = mdW tc h ar now s2 ai al ∧ gq sc s2) := sorry
/-! THE REFERENCE: adding, asking, feeding, by program (wip/whole/gen/p56.py) -/
theorem mdA.fr {sc s2 : Nat → Int32} {ai a2 : Nat → Nat → Int32} {st : Int32} {an : Option (Nat × Nat)} {ho : Bool} {pa : List (Nat × Nat)} (h : mdA sc ai st an ho pa) (hs : ∀ k, 23 ≤ k → s2 k = sc k) (h11 : a2 11 = ai 11) (h12 : a2 12 = ai 12) : mdA s2 a2 st an ho pa := sorry
def adG (kd to bz nu : Int32) (tm : Int64) : Bool := decide (0 ≤ kd ∧ kd ≤ 5 ∧ 0 ≤ to ∧ to ≤ 5 ∧ 0 ≤ bz ∧ bz ≤ 100000 ∧ 0 ≤ nu ∧ nu ≤ 9999 ∧ 0 ≤ tm ∧ tm ≤ 4102444799)
def adR (kd to bz nu : Int32) (wk : Bool) (tm : Int64) : Rp := (kd.toNatClampNeg, to.toNatClampNeg, bz.toNatClampNeg, nu.toNatClampNeg, wk, tm.toNatClampNeg)
/-- may it be added -/
def adB (rp : List Rp) (kd to bz nu : Int32) (tm : Int64) : Bool := adG kd to bz nu tm && decide (rp.length < 4)
theorem nat_le {i : Int32} {n : Nat} (h0 : 0 ≤ i) (h : i ≤ nI n) (hn : n < 2 ^ 31) : i = nI i.toNatClampNeg ∧ i.toNatClampNeg ≤ n := sorry
theorem l_nat {i : Int64} {n : Nat} (h0 : 0 ≤ i) (h : i ≤ lN n) (hn : n < 2 ^ 63) : i = lN i.toNatClampNeg ∧ i.toNatClampNeg ≤ n := sorry
theorem adR_ok {kd to bz nu : Int32} {wk : Bool} {tm : Int64} (h : adG kd to bz nu tm = true) : rpOk (adR kd to bz nu wk tm) ∧ kd = nI kd.toNatClampNeg ∧ to = nI to.toNatClampNeg ∧ bz = nI bz.toNatClampNeg ∧ nu = nI nu.toNatClampNeg ∧ tm = lN tm.toNatClampNeg := sorry
def apl (a : Nat → Nat → Int64) (p : Nat) (f : Nat → Int64) : Nat → Nat → Int64 := fun q => if q = p then f else a q
theorem rpA_add {ai a2 : Nat → Nat → Int32} {al l2 : Nat → Nat → Int64} {rp : List Rp} {r : Rp} (h : rpA ai al rp) (h4 : rp.length < 4) (hr : rpOk r) (h1 : a2 1 = upd (ai 1) rp.length (nI r.1)) (h2 : a2 2 = upd (ai 2) rp.length (nI r.2.1)) (h3 : a2 3 = upd (ai 3) rp.length (nI r.2.2.1)) (h44 : a2 4 = upd (ai 4) rp.length (nI r.2.2.2.1)) (h5 : a2 5 = upd (ai 5) rp.length (bI r.2.2.2.2.1)) (h6 : ∀ j, l2 6 j = if j = rp.length then lN r.2.2.2.2.2 else al 6 j) : rpA a2 l2 (rp ++ [r]) := sorry
theorem lc_gt {a b : Int64} : 0 < lg_cmp a b ↔ b < a := sorry
theorem nar_b (b : Bool) : vp_nar .boolean (bI b) = bI b := sorry
set_option maxRecDepth 100000 in
set_option maxHeartbeats 4000000 in
theorem c_Mo_clear (l : Launch) (D : va_G) (tys : List (ClassId × FieldType)) (tc : Nat → ClassId) (hty : ∀ i : Nat, i < 4 → tys[i]? = some (tc i, vx_ty i)) (h : Nat) (ar : Nat → Nat) (now : Int64) (sc : Nat → Int32) (ai : Nat → Nat → Int32) (al : Nat → Nat → Int64) : Kt l y_Mo_clear (yw y_Mo_clear b_Mo_clear 1 none) 0 0 0 0 D cls tys (fun _ _ _ => True) [.ref h] (mdW tc h ar now sc ai al) (fun r w => r = none ∧ w = mdW tc h ar now (upd sc 1 (nI 0)) ai al) := sorry
set_option maxRecDepth 100000 in
set_option maxHeartbeats 4000000 in
theorem c_Mo_request (l : Launch) (D : va_G) (tys : List (ClassId × FieldType)) (tc : Nat → ClassId) (hty : ∀ i : Nat, i < 4 → tys[i]? = some (tc i, vx_ty i)) (h : Nat) (ar : Nat → Nat) (now : Int64) (sc : Nat → Int32) (ai : Nat → Nat → Int32) (al : Nat → Nat → Int64) (mt : Int32) : Kt l y_Mo_request (yw y_Mo_request b_Mo_request 3 none) 0 0 0 0 D cls tys (fun _ _ _ => True) [.ref h, .int mt] (mdW tc h ar now sc ai al) (fun r w => r = none ∧ ∃ a2, w = mdW tc h ar now (upd sc 8 mt) a2 al ∧ (∀ k, k ≠ 8 → a2 k = ai k) ∧ ∀ j, j < 8 → a2 8 j = nI 0) := sorry
set_option maxRecDepth 100000 in
set_option maxHeartbeats 4000000 in
theorem c_Mo_add (l : Launch) (D : va_G) (tys : List (ClassId × FieldType)) (tc : Nat → ClassId) (hty : ∀ i : Nat, i < 4 → tys[i]? = some (tc i, vx_ty i)) (h : Nat) (ar : Nat → Nat) (now : Int64) (sc : Nat → Int32) (ai : Nat → Nat → Int32) (al : Nat → Nat → Int64) (rp : List Rp) (hrp : rpA ai al rp) (h1c : sc 1 = nI rp.length) (kd to bz nu : Int32) (wk : Bool) (tm : Int64) : Kt l y_Mo_add (yw y_Mo_add b_Mo_add 9 (some .int)) 0 0 0 0 D cls tys (fun _ _ _ => True) [.ref h, .int kd, .int to, .int bz, .int nu, .int (bI wk), .long tm] (mdW tc h ar now sc ai al) (fun r w => r = some (.int (if adB rp kd to bz nu tm = true then nI rp.length else -1)) ∧ (adB rp kd to bz nu tm = false → w = (mdW tc h ar now sc ai al)) ∧ (adB rp kd to bz nu tm = true → ∃ s2 a2 l2, w = mdW tc h ar now s2 a2 l2 ∧ (∀ k, k ≠ 1 → s2 k = sc k) ∧ (∀ k, 6 ≤ k → a2 k = ai k) ∧ (∀ k, k ≠ 6 → l2 k = al k) ∧ s2 1 = nI (rp ++ [adR kd to bz nu wk tm]).length ∧ rpA a2 l2 (rp ++ [adR kd to bz nu wk tm]))) := sorry
/-! THE REFERENCE: feeding, forms, dates, by program (wip/whole/gen/p57.py) -/
/-- character k of what is fed -/
def cb (ch : Int64) (k : Nat) : Nat := (ch.toBitVec.toNat >>> (8 * k)) % 256
theorem t255 (w i : Nat) (hw : 8 < w) : (BitVec.ofNat w 255).getLsbD i = decide (i < 8) := sorry
theorem cb_ref (v : BitVec 64) (q : Nat) (hq : q ≤ 56) : v.sshiftRight q &&& BitVec.ofNat 64 255 = BitVec.ofNat 64 ((v.toNat >>> q) % 256) := sorry
theorem cb_r {ch : Int64} {k : Nat} (h : k < 8) : (ch >>> (((8 : Int32) * nI k).toInt64 &&& 63)) &&& 255 = lN (cb ch k) := sorry
theorem cb_lt {ch : Int64} {k : Nat} : cb ch k < 256 := sorry
def chq (ch : Int64) : Nat → Nat → List Nat
  | 0, _ => []
  | n + 1, k => if cb ch k = 0 then [] else cb ch k :: chq ch n (k + 1)
/-- the characters of what is fed -/
def chL (ch : Int64) : List Nat := chq ch 8 0
theorem chq_len {ch : Int64} : ∀ (q k n : Nat), (∀ j, k ≤ j → j < k + n → cb ch j ≠ 0) → n ≤ q → (n = q ∨ cb ch (k + n) = 0) → (chq ch q k).length = n:= sorry
theorem chq_get {ch : Int64} : ∀ (q k j : Nat), j < (chq ch q k).length → (chq ch q k).getD j 0 = cb ch (k + j) ∧ cb ch (k + j) ≠ 0:= sorry
theorem chL_len {ch : Int64} {n : Nat} (h1 : ∀ j, j < n → cb ch j ≠ 0) (h2 : n ≤ 8) (h3 : n = 8 ∨ cb ch n = 0) : (chL ch).length = n := sorry
theorem chL_get {ch : Int64} {j : Nat} (h : j < (chL ch).length) : (chL ch).getD j 0 = cb ch j ∧ cb ch j ≠ 0 := sorry
theorem chq_le {ch : Int64} : ∀ (q k : Nat), (chq ch q k).length ≤ q:= sorry
theorem chL_le {ch : Int64} : (chL ch).length ≤ 8 := sorry
theorem chL_T {ch : Int64} {z : Nat} (h : z ∈ chL ch) : 0 < z ∧ z < 256 := sorry
/-- may it be fed -/
def fdB (tx : Nat → List Nat) (fd : Int32) (ch : Int64) : Bool := decide (0 ≤ fd ∧ fd ≤ 7 ∧ (tx fd.toNatClampNeg).length + (chL ch).length ≤ 96)
def txU (tx : Nat → List Nat) (fd : Int32) (ch : Int64) (g : Nat) : List Nat := if g = fd.toNatClampNeg then tx g ++ chL ch else tx g
theorem isT_app {A B : List Nat} (h1 : isT A) (h2 : ∀ z ∈ B, 0 < z ∧ z < 256) (h : A.length + B.length ≤ 96) : isT (A ++ B) := sorry
set_option maxRecDepth 100000 in
set_option maxHeartbeats 4000000 in
theorem c_Mo_feed (l : Launch) (D : va_G) (tys : List (ClassId × FieldType)) (tc : Nat → ClassId) (hty : ∀ i : Nat, i < 4 → tys[i]? = some (tc i, vx_ty i)) (h : Nat) (ar : Nat → Nat) (now : Int64) (sc : Nat → Int32) (ai : Nat → Nat → Int32) (al : Nat → Nat → Int64) (tx : Nat → List Nat) (hx : ∀ G, G < 8 → mdT ai G (tx G)) (fd : Int32) (ch : Int64) : Kt l y_Mo_feed (yw y_Mo_feed b_Mo_feed 6 (some .int)) 0 0 0 0 D cls tys (fun _ _ _ => True) [.ref h, .int fd, .long ch] (mdW tc h ar now sc ai al) (fun r w => r = some (.int (if fdB tx fd ch = true then nI ((tx fd.toNatClampNeg).length + (chL ch).length) else -1)) ∧ (fdB tx fd ch = false → w = (mdW tc h ar now sc ai al)) ∧ (fdB tx fd ch = true → ∃ a2, w = mdW tc h ar now sc a2 al ∧ (∀ k, k ≠ 7 → k ≠ 8 → a2 k = ai k) ∧ ∀ g, g < 8 → mdT a2 g (txU tx fd ch g))) := sorry
def dvS (ly : Nat) (tx : Nat → List Nat) (fd : Int32) : Option Nat := if fd < 4 ∨ 6 < fd then none else dtO ly (tx fd.toNatClampNeg)
def fmS (ly : Nat) (tx : Nat → List Nat) (fd : Int32) : Bool := if fd < 0 ∨ 7 < fd then false else
  if fd.toNatClampNeg = 0 then (accL (mnL 0) (snL 0) (pnL 0) (vnL 0) 97 0 0 0 (tx 0)).isSome else
  if fd.toNatClampNeg = 1 then (lanL (coL 0) (beL 0) 97 0 0 0 (tx 1)).isSome else
  if fd.toNatClampNeg = 2 then (tgsL [] (tx 2)).isSome else
  if fd.toNatClampNeg = 3 then (tgsL [] (tx 3)).isSome else
  if fd.toNatClampNeg = 7 then (rngL (tx 7)).isSome else
  if fd.toNatClampNeg = 6 then (lonT [] (tx 6)).isSome || (dtO ly (tx 6)).isSome else
  (dtO ly (tx fd.toNatClampNeg)).isSome
theorem fmS_nil {ly : Nat} {tx : Nat → List Nat} {fd : Int32} (h : tx fd.toNatClampNeg = []) : fmS ly tx fd = false := sorry
set_option maxRecDepth 100000 in
set_option maxHeartbeats 4000000 in
theorem c_Mo_date (l : Launch) (D : va_G) (tys : List (ClassId × FieldType)) (tc : Nat → ClassId) (hty : ∀ i : Nat, i < 4 → tys[i]? = some (tc i, vx_ty i)) (h : Nat) (ar : Nat → Nat) (now : Int64) (sc : Nat → Int32) (ai : Nat → Nat → Int32) (al : Nat → Nat → Int64) (N : Nat) (rp : List Rp) (me : Int32) (tx : Nat → List Nat) (hR : mdR now sc ai al N rp me tx) (fd : Int32) : Kt l y_Mo_date (yw y_Mo_date b_Mo_date 2 (some .long)) 6 139 0 0 D cls tys (fun _ _ _ => True) [.ref h, .int fd] (mdW tc h ar now sc ai al) (fun r w => r = some (.long (lI (dvS (yrN N + 50) tx fd))) ∧ ∃ s2, w = mdW tc h ar now s2 ai al ∧ gq sc s2) := sorry
section
variable {p : Program} {l : Launch} {e : Env} {R : Room} {s : State} {m : MethodId} {args : Array Value} {below : List Frame} {meth : Method} {c : Code} {cc : ByteArray} {nL : Nat} {D : va_G} {tys : List (ClassId × FieldType)} {A : Nat → Prop} {tc : Nat → ClassId} {Q : State → Prop} {st : List Value} {k n : Nat} {ws : va_W} {own : String} {Ts : List Cond} {cl : List vw_C}
theorem vx_tbl (hC : Cx p s m args c cc nL own Ts D cl tys A tc) {pc : Nat} {dflt lo hi : Int} {offs : Array Int} {len : Nat} (hd : decode cc pc = .ok (.tableswitch dflt lo hi offs, len)) {v : Int32} {off : Int} (tgt : Nat) (h1 : ¬ v.toInt < lo) (h2 : ¬ hi < v.toInt) (ho : offs[(v.toInt - lo).toNat]? = some off) (ht : (pc : Int) + off = (tgt : Int)) {lv : wq_L} (h : Vx p l e R s m args below meth c nL D cl A Q tgt lv st ws k n) : Vx p l e R s m args below meth c nL D cl A Q pc lv (.int v :: st) ws k n := sorry
theorem vx_tblO (hC : Cx p s m args c cc nL own Ts D cl tys A tc) {pc : Nat} {dflt lo hi : Int} {offs : Array Int} {len : Nat} (hd : decode cc pc = .ok (.tableswitch dflt lo hi offs, len)) {v : Int32} (tgt : Nat) (h : v.toInt < lo ∨ hi < v.toInt) (ht : (pc : Int) + dflt = (tgt : Int)) {lv : wq_L} (hv : Vx p l e R s m args below meth c nL D cl A Q tgt lv st ws k n) : Vx p l e R s m args below meth c nL D cl A Q pc lv (.int v :: st) ws k n := sorry
end
theorem iI_some {v : Option Nat} (hv : ∀ a, v = some a → a < 2 ^ 31) : (iI v < 0 ↔ v = none) := sorry
theorem tgV_some {str wk : Bool} {v : Option (Bool × Bool × Bool)} : tgV none str wk v < 0 ↔ v = none := sorry
theorem lon_iff {T : List Nat} : (lonT [] T).isSome = ((tgt (gp T)).1 && (gp (tgt (gp T)).2.2.1).isEmpty) := sorry
set_option maxRecDepth 100000 in
set_option maxHeartbeats 4000000 in
theorem c_Mo_formed (l : Launch) (D : va_G) (tys : List (ClassId × FieldType)) (tc : Nat → ClassId) (hty : ∀ i : Nat, i < 4 → tys[i]? = some (tc i, vx_ty i)) (h : Nat) (ar : Nat → Nat) (now : Int64) (sc : Nat → Int32) (ai : Nat → Nat → Int32) (al : Nat → Nat → Int64) (N : Nat) (rp : List Rp) (me : Int32) (tx : Nat → List Nat) (hR : mdR now sc ai al N rp me tx) (fd : Int32) : Kt l y_Mo_formed (yw y_Mo_formed b_Mo_formed 2 (some .boolean)) 7 159 0 0 D cls tys (fun _ _ _ => True) [.ref h, .int fd] (mdW tc h ar now sc ai al) (fun r w => r = some (.int (bI (fmS (yrN N + 50) tx fd))) ∧ ∃ s2 a2, w = mdW tc h ar now s2 a2 al ∧ hq sc s2 ∧ aq ai a2) := sorry
end
section
/-! ENDS OF LISTS, by program (wip/whole/gen/p59.py) -/
theorem pk_sf {c : Nat} {rs : List Nat} : (pk c rs).2 <:+ rs := sorry
theorem pk_f {c : Nat} {rs : List Nat} (h : (pk c rs).1 = false) : (pk c rs).2 = rs := sorry
theorem gp_gp {rs : List Nat} : gp (gp rs) = gp rs := sorry
theorem gp_sf {rs : List Nat} : gp rs <:+ rs := sorry
theorem gc_sf {rs : List Nat} : gc rs <:+ rs := sorry
theorem sc_1 {q : List Nat} : (sc q).1 = (pk 59 q).1 := sorry
theorem sc_t {q : List Nat} (h : (pk 59 q).1 = true) : (sc q).2 = gp (pk 59 q).2 := sorry
theorem sc_f {q : List Nat} (h : (pk 59 q).1 = false) : (sc q).2 = q := sorry
theorem sc_sf {q : List Nat} : (sc q).2 <:+ q := sorry
theorem wls_sf {th : Nat} {rs : List Nat} : ∀ {q : Nat}, (wls q th rs).2 <:+ rs := sorry
theorem wt2_sf {th : Nat} {rs : List Nat} : (wt2 th rs).2 <:+ rs := sorry
theorem wt_sf {rs : List Nat} : (wt rs).2 <:+ rs := sorry
theorem qtx_sf {rs S : List Nat} : (qtx rs S).2.1 <:+ rs := sorry
theorem qtx_in {rs S : List Nat} : (qtx rs S).2.2.length ≤ S.length + rs.length ∧ ∀ z ∈ (qtx rs S).2.2, z ∈ S ∨ z ∈ rs := sorry
theorem qtd_sf {rs : List Nat} : (qtd rs).2.1 <:+ rs := sorry
theorem qtd_in {rs : List Nat} : (qtd rs).2.2.length ≤ rs.length ∧ ∀ z ∈ (qtd rs).2.2, z ∈ rs := sorry
theorem lng_sf {q : Nat} {dt : Bool} {rs S : List Nat} : (lng q dt rs S).2.1 <:+ rs ∧ (lng q dt rs S).2.2.length ≤ S.length + rs.length ∧ ∀ z ∈ (lng q dt rs S).2.2, z ∈ S ∨ z ∈ rs := sorry
theorem lgt_sf {rs : List Nat} : (lgt rs).2.1 <:+ rs := sorry
theorem lgt_in {rs : List Nat} : (lgt rs).2.2.length ≤ rs.length + 1 ∧ ∀ z ∈ (lgt rs).2.2, z = 42 ∨ z ∈ rs := sorry
theorem tt_sf {W rs : List Nat} : (tt W rs).2 <:+ rs := sorry
theorem ta_sf {W rs : List Nat} : (ta W rs).2 <:+ rs := sorry
theorem opq_sf {rs : List Nat} : (opq rs).2.1 <:+ rs := sorry
theorem opq_in {rs : List Nat} : (opq rs).2.2.length ≤ rs.length ∧ ∀ z ∈ (opq rs).2.2, z ∈ rs := sorry
theorem dgs_sf {k a : Nat} {rs : List Nat} : (dgs k a rs).2 <:+ rs := sorry
theorem nmAt_sf {W rs : List Nat} : (nmAt W rs).2 <:+ rs := sorry
/-- what is said is a text's -/
theorem in_lt {S rs T : List Nat} (hT : isT T) (hs : rs <:+ T) (h : S.length ≤ rs.length ∧ ∀ z ∈ S, z ∈ rs) : S.length ≤ 96 ∧ ∀ i, i < S.length → S.getD i 0 < 256 := sorry
/-! THE CLASS: cells as read facts, by program (wip/whole/gen/p60.py) -/
section
variable {s : State} {D : va_G} {cl : List vw_C} {tys : List (ClassId × FieldType)} {ws : va_W} {H : Heap} {A : Nat → Prop}
theorem cell_Ti (hK : va_K D cl tys s) (hP : va_P D cl ws H) {i t a N : Nat} {cA : ClassId} {ty : FieldType} {f : Nat → Int32} (hi : ws[i]? = some (a, .inl (cA, N, .inl f))) (ht : tys[t]? = some (cA, ty)) (hn : ¬ A a) : va_T ty a N (fun j => .int (f j)) A s H := sorry
theorem cell_Tr (hK : va_K D cl tys s) (hP : va_P D cl ws H) {i t a N : Nat} {cA : ClassId} {ty : FieldType} {f : Nat → Option Nat} (hi : ws[i]? = some (a, .inl (cA, N, .inr (.inr (.inr (.inr f)))))) (ht : tys[t]? = some (cA, ty)) (hn : ¬ A a) : va_T ty a N (fun j => va_rf (f j)) A s H := sorry
theorem cell_O (hK : va_K D cl tys s) (hP : va_P D cl ws H) {i a ci : Nat} {fs : List Value} {q : vw_C} (hc : cl[ci]? = some q) (hi : ws[i]? = some (a, .inr (ci, fs))) (hn : ¬ A a) : va_O q.1 a A s H := sorry
theorem cell_OF {ws0 : List Cond} {args : Array Value} (hts : ∀ w ∈ ws0, w.before args s = true) (hK : va_K D cl tys s) (hP : va_P D cl ws H) {i a ci : Nat} {fs : List Value} {C : String} {T : u_T} {N : Nat} (hc : cl[ci]? = some (C, T, N)) (hin : ∀ w ∈ u_ws C T N, w ∈ ws0) (hi : ws[i]? = some (a, .inr (ci, fs))) (k : Nat) (hk : k < N) (hn : ¬ A a) : va_OF (T k).1 (T k).2.1 (T k).2.2.1 (vp_V fs k) a A s H := sorry
end

/-! THE CLASS: words of fields, calls of inherited methods, by program (wip/whole/gen/p61.py) -/
theorem wf_Rq_9 : Cond.fieldLink "OriginDesk$Request" 9 "OriginDesk$Request" "method" "I" ∈ gw := sorry
theorem wf_Dk_113 : Cond.fieldLink "OriginDesk" 113 "OriginDesk$Request" "method" "I" ∈ gw := sorry
theorem wf_Rq_17 : Cond.fieldLink "OriginDesk$Request" 17 "OriginDesk$Request" "texts" "[[I" ∈ gw := sorry
theorem wf_Rq_20 : Cond.fieldLink "OriginDesk$Request" 20 "OriginDesk$Request" "sizes" "[I" ∈ gw := sorry
theorem wf_Ac_15 : Cond.fieldLink "OriginDesk$Accept" 15 "OriginDesk$Accept" "quality" "I" ∈ gw := sorry
theorem wf_Dk_194 : Cond.fieldLink "OriginDesk" 194 "OriginDesk$Accept" "quality" "I" ∈ gw := sorry
theorem wf_Ac_19 : Cond.fieldLink "OriginDesk$Accept" 19 "OriginDesk$Accept" "mostTold" "I" ∈ gw := sorry
theorem wf_Ac_67 : Cond.fieldLink "OriginDesk$Accept" 67 "OriginDesk$Accept" "fits" "Z" ∈ gw := sorry
theorem wf_Ac_71 : Cond.fieldLink "OriginDesk$Accept" 71 "OriginDesk$Accept" "told" "I" ∈ gw := sorry
theorem wf_Ac_74 : Cond.fieldLink "OriginDesk$Accept" 74 "OriginDesk$Accept" "weight" "I" ∈ gw := sorry
theorem wf_Rd_9 : Cond.fieldLink "OriginDesk$Reader" 9 "OriginDesk$Reader" "row" "[I" ∈ gw := sorry
theorem wf_Rd_22 : Cond.fieldLink "OriginDesk$Reader" 22 "OriginDesk$Reader" "size" "I" ∈ gw := sorry
theorem wf_Rd_18 : Cond.fieldLink "OriginDesk$Reader" 18 "OriginDesk$Reader" "at" "I" ∈ gw := sorry
theorem wf_Rd_15 : Cond.fieldLink "OriginDesk$Reader" 15 "OriginDesk$Reader" "said" "[I" ∈ gw := sorry
theorem wf_Rd_59 : Cond.fieldLink "OriginDesk$Reader" 59 "OriginDesk$Reader" "saidSize" "I" ∈ gw := sorry
theorem wf_La_15 : Cond.fieldLink "OriginDesk$Languages" 15 "OriginDesk$Languages" "quality" "I" ∈ gw := sorry
theorem wf_Dk_203 : Cond.fieldLink "OriginDesk" 203 "OriginDesk$Languages" "quality" "I" ∈ gw := sorry
theorem wf_La_19 : Cond.fieldLink "OriginDesk$Languages" 19 "OriginDesk$Languages" "longest" "I" ∈ gw := sorry
theorem wf_Tg_19 : Cond.fieldLink "OriginDesk$Tags" 19 "OriginDesk$Tags" "star" "Z" ∈ gw := sorry
theorem wf_Dk_234 : Cond.fieldLink "OriginDesk" 234 "OriginDesk$Tags" "star" "Z" ∈ gw := sorry
theorem wf_Tg_43 : Cond.fieldLink "OriginDesk$Tags" 43 "OriginDesk$Tags" "same" "Z" ∈ gw := sorry
theorem wf_Dk_248 : Cond.fieldLink "OriginDesk" 248 "OriginDesk$Tags" "same" "Z" ∈ gw := sorry
theorem wf_Tg_46 : Cond.fieldLink "OriginDesk$Tags" 46 "OriginDesk$Tags" "strong" "Z" ∈ gw := sorry
theorem wf_Dk_238 : Cond.fieldLink "OriginDesk" 238 "OriginDesk$Tags" "strong" "Z" ∈ gw := sorry
theorem wf_Ra_9 : Cond.fieldLink "OriginDesk$Ranges" 9 "OriginDesk$Ranges" "firsts" "[I" ∈ gw := sorry
theorem wf_Rs_45 : Cond.fieldLink "OriginDesk$Response" 45 "OriginDesk$Ranges" "firsts" "[I" ∈ gw := sorry
theorem wf_Ra_15 : Cond.fieldLink "OriginDesk$Ranges" 15 "OriginDesk$Ranges" "lasts" "[I" ∈ gw := sorry
theorem wf_Rs_46 : Cond.fieldLink "OriginDesk$Response" 46 "OriginDesk$Ranges" "lasts" "[I" ∈ gw := sorry
theorem wf_Ra_22 : Cond.fieldLink "OriginDesk$Ranges" 22 "OriginDesk$Ranges" "specs" "I" ∈ gw := sorry
theorem wf_Dk_217 : Cond.fieldLink "OriginDesk" 217 "OriginDesk$Ranges" "specs" "I" ∈ gw := sorry
theorem wf_Ra_26 : Cond.fieldLink "OriginDesk$Ranges" 26 "OriginDesk$Ranges" "kept" "I" ∈ gw := sorry
theorem wf_Rs_37 : Cond.fieldLink "OriginDesk$Response" 37 "OriginDesk$Ranges" "kept" "I" ∈ gw := sorry
theorem wf_Dk_224 : Cond.fieldLink "OriginDesk" 224 "OriginDesk$Ranges" "kept" "I" ∈ gw := sorry
theorem wf_Rs_9 : Cond.fieldLink "OriginDesk$Response" 9 "OriginDesk$Response" "code" "I" ∈ gw := sorry
theorem wf_Dk_120 : Cond.fieldLink "OriginDesk" 120 "OriginDesk$Response" "code" "I" ∈ gw := sorry
theorem wf_Rs_29 : Cond.fieldLink "OriginDesk$Response" 29 "OriginDesk$Response" "subject" "LOriginDesk$Representation;" ∈ gw := sorry
theorem wf_Dk_123 : Cond.fieldLink "OriginDesk" 123 "OriginDesk$Response" "subject" "LOriginDesk$Representation;" ∈ gw := sorry
theorem wf_Rs_51 : Cond.fieldLink "OriginDesk$Response" 51 "OriginDesk$Response" "bodySize" "I" ∈ gw := sorry
theorem wf_Dk_130 : Cond.fieldLink "OriginDesk" 130 "OriginDesk$Response" "bodySize" "I" ∈ gw := sorry
theorem wf_Rs_42 : Cond.fieldLink "OriginDesk$Response" 42 "OriginDesk$Response" "partCount" "I" ∈ gw := sorry
theorem wf_Dk_137 : Cond.fieldLink "OriginDesk" 137 "OriginDesk$Response" "partCount" "I" ∈ gw := sorry
theorem wf_Rs_15 : Cond.fieldLink "OriginDesk$Response" 15 "OriginDesk$Response" "firsts" "[I" ∈ gw := sorry
theorem wf_Dk_144 : Cond.fieldLink "OriginDesk" 144 "OriginDesk$Response" "firsts" "[I" ∈ gw := sorry
theorem wf_Rs_19 : Cond.fieldLink "OriginDesk$Response" 19 "OriginDesk$Response" "lasts" "[I" ∈ gw := sorry
theorem wf_Dk_148 : Cond.fieldLink "OriginDesk" 148 "OriginDesk$Response" "lasts" "[I" ∈ gw := sorry
theorem wf_Rs_33 : Cond.fieldLink "OriginDesk$Response" 33 "OriginDesk$Response" "bodyless" "Z" ∈ gw := sorry
theorem wf_Rs_25 : Cond.fieldLink "OriginDesk$Response" 25 "OriginDesk$Response" "heading" "Ljava/lang/StringBuilder;" ∈ gw := sorry
theorem wf_Da_15 : Cond.fieldLink "OriginDesk$Dates" 15 "OriginDesk$Dates" "latestYear" "I" ∈ gw := sorry
theorem wf_Da_109 : Cond.fieldLink "OriginDesk$Dates" 109 "OriginDesk$Dates" "year" "I" ∈ gw := sorry
theorem wf_Da_106 : Cond.fieldLink "OriginDesk$Dates" 106 "OriginDesk$Dates" "month" "I" ∈ gw := sorry
theorem wf_Da_102 : Cond.fieldLink "OriginDesk$Dates" 102 "OriginDesk$Dates" "day" "I" ∈ gw := sorry
theorem wf_Da_112 : Cond.fieldLink "OriginDesk$Dates" 112 "OriginDesk$Dates" "second" "I" ∈ gw := sorry
theorem wf_Dk_11 : Cond.fieldLink "OriginDesk" 11 "OriginDesk" "shelf" "[LOriginDesk$Representation;" ∈ gw := sorry
theorem wf_Dk_86 : Cond.fieldLink "OriginDesk" 86 "OriginDesk" "count" "I" ∈ gw := sorry
theorem wf_Dk_18 : Cond.fieldLink "OriginDesk" 18 "OriginDesk" "asked" "LOriginDesk$Request;" ∈ gw := sorry
theorem wf_Dk_25 : Cond.fieldLink "OriginDesk" 25 "OriginDesk" "accept" "LOriginDesk$Accept;" ∈ gw := sorry
theorem wf_Dk_32 : Cond.fieldLink "OriginDesk" 32 "OriginDesk" "languages" "LOriginDesk$Languages;" ∈ gw := sorry
theorem wf_Dk_39 : Cond.fieldLink "OriginDesk" 39 "OriginDesk" "tags" "LOriginDesk$Tags;" ∈ gw := sorry
theorem wf_Dk_66 : Cond.fieldLink "OriginDesk" 66 "OriginDesk" "dates" "LOriginDesk$Dates;" ∈ gw := sorry
theorem wf_Dk_46 : Cond.fieldLink "OriginDesk" 46 "OriginDesk" "ranges" "LOriginDesk$Ranges;" ∈ gw := sorry
theorem wf_Dk_53 : Cond.fieldLink "OriginDesk" 53 "OriginDesk" "response" "LOriginDesk$Response;" ∈ gw := sorry
theorem wf_Dk_70 : Cond.fieldLink "OriginDesk" 70 "OriginDesk" "TYPES" "[LOriginDesk$MediaType;" ∈ gw := sorry
theorem wf_Dk_78 : Cond.fieldLink "OriginDesk" 78 "OriginDesk" "TONGUES" "[LOriginDesk$Language;" ∈ gw := sorry
theorem wf_Rp_7 : Cond.fieldLink "OriginDesk$Representation" 7 "OriginDesk$Representation" "number" "I" ∈ gw := sorry
theorem wf_Dk_127 : Cond.fieldLink "OriginDesk" 127 "OriginDesk$Representation" "number" "I" ∈ gw := sorry
theorem wf_Rp_13 : Cond.fieldLink "OriginDesk$Representation" 13 "OriginDesk$Representation" "type" "LOriginDesk$MediaType;" ∈ gw := sorry
theorem wf_Dk_191 : Cond.fieldLink "OriginDesk" 191 "OriginDesk$Representation" "type" "LOriginDesk$MediaType;" ∈ gw := sorry
theorem wf_Rp_17 : Cond.fieldLink "OriginDesk$Representation" 17 "OriginDesk$Representation" "language" "LOriginDesk$Language;" ∈ gw := sorry
theorem wf_Dk_197 : Cond.fieldLink "OriginDesk" 197 "OriginDesk$Representation" "language" "LOriginDesk$Language;" ∈ gw := sorry
theorem wf_Rp_21 : Cond.fieldLink "OriginDesk$Representation" 21 "OriginDesk$Representation" "size" "I" ∈ gw := sorry
theorem wf_Rs_64 : Cond.fieldLink "OriginDesk$Response" 64 "OriginDesk$Representation" "size" "I" ∈ gw := sorry
theorem wf_Dk_211 : Cond.fieldLink "OriginDesk" 211 "OriginDesk$Representation" "size" "I" ∈ gw := sorry
theorem wf_Rp_38 : Cond.fieldLink "OriginDesk$Representation" 38 "OriginDesk$Representation" "tagText" "Ljava/lang/String;" ∈ gw := sorry
theorem wf_Dk_230 : Cond.fieldLink "OriginDesk" 230 "OriginDesk$Representation" "tagText" "Ljava/lang/String;" ∈ gw := sorry
theorem wf_Rp_42 : Cond.fieldLink "OriginDesk$Representation" 42 "OriginDesk$Representation" "weak" "Z" ∈ gw := sorry
theorem wf_Dk_241 : Cond.fieldLink "OriginDesk" 241 "OriginDesk$Representation" "weak" "Z" ∈ gw := sorry
theorem wf_Rp_46 : Cond.fieldLink "OriginDesk$Representation" 46 "OriginDesk$Representation" "change" "J" ∈ gw := sorry
theorem wf_Dk_244 : Cond.fieldLink "OriginDesk" 244 "OriginDesk$Representation" "change" "J" ∈ gw := sorry
theorem wf_Dk_200 : Cond.fieldLink "OriginDesk" 200 "OriginDesk$Language" "NONE" "LOriginDesk$Language;" ∈ gw := sorry
theorem wf_Da_124 : Cond.fieldLink "OriginDesk$Dates" 124 "OriginDesk$Dates" "MONTH_DAYS" "[I" ∈ gw := sorry
theorem wf_Dk_154 : Cond.fieldLink "OriginDesk" 154 "OriginDesk$MediaType" "HTML" "LOriginDesk$MediaType;" ∈ gw := sorry
theorem wf_Dk_164 : Cond.fieldLink "OriginDesk" 164 "OriginDesk$Language" "EN" "LOriginDesk$Language;" ∈ gw := sorry
theorem wf_Mo_62 : Cond.fieldLink "OriginDeskModel" 62 "OriginDeskModel" "now" "J" ∈ gw := sorry
theorem wf_Mo_97 : Cond.fieldLink "OriginDeskModel" 97 "OriginDeskModel" "count" "I" ∈ gw := sorry
theorem wf_Mo_7 : Cond.fieldLink "OriginDeskModel" 7 "OriginDeskModel" "type" "[I" ∈ gw := sorry
theorem wf_Mo_13 : Cond.fieldLink "OriginDeskModel" 13 "OriginDeskModel" "language" "[I" ∈ gw := sorry
theorem wf_Mo_16 : Cond.fieldLink "OriginDeskModel" 16 "OriginDeskModel" "size" "[I" ∈ gw := sorry
theorem wf_Mo_19 : Cond.fieldLink "OriginDeskModel" 19 "OriginDeskModel" "tag" "[I" ∈ gw := sorry
theorem wf_Mo_22 : Cond.fieldLink "OriginDeskModel" 22 "OriginDeskModel" "weak" "[Z" ∈ gw := sorry
theorem wf_Mo_26 : Cond.fieldLink "OriginDeskModel" 26 "OriginDeskModel" "change" "[J" ∈ gw := sorry
theorem wf_Mo_100 : Cond.fieldLink "OriginDeskModel" 100 "OriginDeskModel" "method" "I" ∈ gw := sorry
theorem wf_Mo_30 : Cond.fieldLink "OriginDeskModel" 30 "OriginDeskModel" "text" "[I" ∈ gw := sorry
theorem wf_Mo_33 : Cond.fieldLink "OriginDeskModel" 33 "OriginDeskModel" "length" "[I" ∈ gw := sorry
theorem wf_Mo_105 : Cond.fieldLink "OriginDeskModel" 105 "OriginDeskModel" "f" "I" ∈ gw := sorry
theorem wf_Mo_108 : Cond.fieldLink "OriginDeskModel" 108 "OriginDeskModel" "at" "I" ∈ gw := sorry
theorem wf_Mo_126 : Cond.fieldLink "OriginDeskModel" 126 "OriginDeskModel" "from" "I" ∈ gw := sorry
theorem wf_Mo_132 : Cond.fieldLink "OriginDeskModel" 132 "OriginDeskModel" "to" "I" ∈ gw := sorry
theorem wf_Mo_232 : Cond.fieldLink "OriginDeskModel" 232 "OriginDeskModel" "tagWeak" "Z" ∈ gw := sorry
theorem wf_Mo_150 : Cond.fieldLink "OriginDeskModel" 150 "OriginDeskModel" "value" "I" ∈ gw := sorry
theorem wf_Mo_190 : Cond.fieldLink "OriginDeskModel" 190 "OriginDeskModel" "nameFrom" "I" ∈ gw := sorry
theorem wf_Mo_193 : Cond.fieldLink "OriginDeskModel" 193 "OriginDeskModel" "nameTo" "I" ∈ gw := sorry
theorem wf_Mo_169 : Cond.fieldLink "OriginDeskModel" 169 "OriginDeskModel" "isOne" "Z" ∈ gw := sorry
theorem wf_Mo_305 : Cond.fieldLink "OriginDeskModel" 305 "OriginDeskModel" "specs" "I" ∈ gw := sorry
theorem wf_Mo_36 : Cond.fieldLink "OriginDeskModel" 36 "OriginDeskModel" "specFirst" "[I" ∈ gw := sorry
theorem wf_Mo_39 : Cond.fieldLink "OriginDeskModel" 39 "OriginDeskModel" "specLast" "[I" ∈ gw := sorry
theorem wf_Mo_42 : Cond.fieldLink "OriginDeskModel" 42 "OriginDeskModel" "status" "I" ∈ gw := sorry
theorem wf_Mo_46 : Cond.fieldLink "OriginDeskModel" 46 "OriginDeskModel" "answered" "I" ∈ gw := sorry
theorem wf_Mo_342 : Cond.fieldLink "OriginDeskModel" 342 "OriginDeskModel" "bytes" "I" ∈ gw := sorry
theorem wf_Mo_351 : Cond.fieldLink "OriginDeskModel" 351 "OriginDeskModel" "headOnly" "Z" ∈ gw := sorry
theorem wf_Mo_313 : Cond.fieldLink "OriginDeskModel" 313 "OriginDeskModel" "partCount" "I" ∈ gw := sorry
theorem wf_Mo_49 : Cond.fieldLink "OriginDeskModel" 49 "OriginDeskModel" "partFirst" "[I" ∈ gw := sorry
theorem wf_Mo_52 : Cond.fieldLink "OriginDeskModel" 52 "OriginDeskModel" "partLast" "[I" ∈ gw := sorry
theorem wf_Mo_55 : Cond.fieldLink "OriginDeskModel" 55 "OriginDeskModel" "word" "[J" ∈ gw := sorry
theorem wf_Ac_48 : Cond.fieldLink "OriginDesk$Accept" 48 "OriginDesk$MediaType" "main" "Ljava/lang/String;" ∈ gw := sorry
theorem wf_Ac_64 : Cond.fieldLink "OriginDesk$Accept" 64 "OriginDesk$MediaType" "sub" "Ljava/lang/String;" ∈ gw := sorry
theorem wf_Ac_86 : Cond.fieldLink "OriginDesk$Accept" 86 "OriginDesk$MediaType" "parameter" "Ljava/lang/String;" ∈ gw := sorry
theorem wf_Ac_95 : Cond.fieldLink "OriginDesk$Accept" 95 "OriginDesk$MediaType" "value" "Ljava/lang/String;" ∈ gw := sorry
theorem wf_La_57 : Cond.fieldLink "OriginDesk$Languages" 57 "OriginDesk$Language" "code" "Ljava/lang/String;" ∈ gw := sorry
theorem wf_La_66 : Cond.fieldLink "OriginDesk$Languages" 66 "OriginDesk$Language" "beginning" "Ljava/lang/String;" ∈ gw := sorry
section
variable {p : Program} {l : Launch} {e : Env} {R : Room} {s : State} {m : MethodId} {args : Array Value} {below : List Frame} {meth : Method} {c : Code} {cc : ByteArray} {nL : Nat} {D : va_G} {tys : List (ClassId × FieldType)} {A : Nat → Prop} {tc : Nat → ClassId} {Q : State → Prop} {st rest : List Value} {k n : Nat} {post : Option Value → va_W → Prop} {F : (Nat → Prop) → State → Heap → Prop} {ret : Option FieldType} {K : List Value → va_W → Nat → Nat → Prop} {x y y0 : MethodName} {bytes b0 : ByteArray} {maxL n0 index nA fr lo : Nat} {r0 : Option FieldType} {b : Nat} {As : List Value} {own C owner : String}
/-- an inherited method of Reader, called on the reader itself -/
theorem ux_call {ci h : Nat} {fs : List Value} {q1 : Nat × va_E} {rc : vw_C} (hC : Cx p s m args c cc nL own (yw y0 b0 n0 r0) D cls tys A tc) (hk : Kt l y (yw y bytes maxL ret) fr lo 0 0 D cls tys F (.ref h :: As) [(h, .inr (ci, fs)), q1] post) (hF : F A s s.heap) (cw : va_CU R s args own C owner index x y bytes maxL ret (yw y bytes maxL ret) { frames := fr, cells := 0, slots := 0, locals := lo } 0 0 nA) (h1 : cls[ci]? = some rc) (h2 : rc.1 = C) (hlen : As.length = nA) (hst : st = As.reverse ++ .ref h :: rest) (hW : (rest.map fun v => v.category).sum ≤ 8) (hkn : k ≤ R.cells ∧ n ≤ R.slots)
    (kk : ∀ (r : Option Value) (w1 : va_W), post r w1 → K (r.toList ++ rest) w1 k n) : vx_SX cc (Vx p l e R s m args below meth c nL D cls A Q) (.invokevirtual index) 3 st [(h, .inr (ci, fs)), q1] k n K := sorry
/-- a method of its own class, called on the reader itself -/
theorem ox_call {ci h : Nat} {fs : List Value} {q1 : Nat × va_E} {rc : vw_C} (hC : Cx p s m args c cc nL own (yw y0 b0 n0 r0) D cls tys A tc) (hk : Kt l y (yw y bytes maxL ret) fr lo 0 0 D cls tys F (.ref h :: As) [(h, .inr (ci, fs)), q1] post) (hF : F A s s.heap) (cw : CallW R s args own C index y bytes maxL ret (yw y bytes maxL ret) { frames := fr, cells := 0, slots := 0, locals := lo } 0 0 nA) (h1 : cls[ci]? = some rc) (h2 : rc.1 = C) (hlen : As.length = nA) (hst : st = As.reverse ++ .ref h :: rest) (hW : (rest.map fun v => v.category).sum ≤ 8) (hkn : k ≤ R.cells ∧ n ≤ R.slots)
    (kk : ∀ (r : Option Value) (w1 : va_W), post r w1 → K (r.toList ++ rest) w1 k n) : vx_SX cc (Vx p l e R s m args below meth c nL D cls A Q) (.invokevirtual index) 3 st [(h, .inr (ci, fs)), q1] k n K := sorry
/-- aaload of an array that is only read -/
theorem sx_aaT {t N : Nat} {f : Nat → Value} {ty : FieldType} {Ts : List Cond} {ws : va_W} (hC : Cx p s m args c cc nL own Ts D cls tys A tc) (hT : va_T ty t N f A s s.heap) (hr : ty.isReference = true) {i : Int32} (hin : vp_in i N) {v : Value} (hv : f i.toNatClampNeg = v) (kk : K (v :: rest) ws k n) : vx_SX cc (Vx p l e R s m args below meth c nL D cls A Q) .aaload 1 (.int i :: .ref t :: rest) ws k n K := sorry
end
def nwF (U : State) : Prop := va_Nw (.fieldLinkNest "OriginDesk$Reader" 31 "OriginDesk$Request" "texts" "[[I" "OriginDesk") U ∧ va_Nw (.fieldLinkNest "OriginDesk$Reader" 35 "OriginDesk$Request" "sizes" "[I" "OriginDesk") U
/-- the request, only read: tx G is the text of field G -/
def rqF (q : Nat) (ro : Nat → Nat) (tx : Nat → List Nat) : (Nat → Prop) → State → Heap → Prop := fun A U H => (va_O "OriginDesk$Request" q A U H ∧ nwF U) ∧ ∃ ta za : Nat, va_OF "OriginDesk$Request" "texts" "[[I" (.ref ta) q A U H ∧ va_OF "OriginDesk$Request" "sizes" "[I" (.ref za) q A U H ∧ va_T (.array .int) ta 8 (fun G => .ref (ro G)) A U H ∧ (∃ fz, va_T .int za 8 fz A U H ∧ ∀ G, G < 8 → fz G = .int (nI (tx G).length)) ∧ ∀ G, G < 8 → rdF (ro G) (tx G) A U H
theorem rqF_ro (q : Nat) (ro : Nat → Nat) (tx : Nat → List Nat) : RO (rqF q ro tx) := sorry
def j_Rq_hasR : wq_J := [(.iload_n 1, (0, 0, 0, 0, 0)), (.ifCond .lt 22, (0, 23, 0, 0, 0)), (.iload_n 1, (0, 0, 0, 0, 0)), (.bipush 8, (0, 0, 0, 8, 0)), (.if_icmp .ge 16, (0, 23, 0, 0, 0)), (.aload_n 0, (0, 0, 0, 0, 0)), (.getfield 20, (2, 0, 0, 0, 0)), (.iload_n 1, (0, 0, 0, 0, 0)), (.iaload, (2, 0, 0, 0, 0)), (.ifCond .le 7, (0, 23, 0, 0, 0)), (.iconst 1, (0, 0, 0, 1, 0)), (.goto 4, (0, 24, 0, 0, 0)), (.iconst 0, (0, 0, 0, 0, 0)), (.ireturn, (0, 0, 0, 0, 0))]
theorem jc_Rq_hasR : wq_c b_Rq_has 2 j_Rq_hasR 0 = true := sorry
set_option maxRecDepth 100000 in
set_option maxHeartbeats 4000000 in
theorem c_Rq_has (l : Launch) (D : va_G) (tys : List (ClassId × FieldType)) (tc : Nat → ClassId) (hty : ∀ i : Nat, i < 4 → tys[i]? = some (tc i, vx_ty i)) (q : Nat) (ro : Nat → Nat) (tx : Nat → List Nat) (G : Nat) (hG : G < 8) (hl96 : (tx G).length ≤ 96) : Kt l y_Rq_has (yw y_Rq_has b_Rq_has 2 (some .boolean)) 0 0 0 0 D cls tys (rqF q ro tx) [.ref q, .int (nI G)] [] (fun r w => r = some (.int (bI (decide (0 < (tx G).length)))) ∧ w = []) := sorry
set_option maxRecDepth 100000 in
set_option maxHeartbeats 4000000 in
theorem c_Rd_open (l : Launch) (D : va_G) (tys : List (ClassId × FieldType)) (tc : Nat → ClassId) (hty : ∀ i : Nat, i < 4 → tys[i]? = some (tc i, vx_ty i)) (ci : Nat) (hci : ci < 5) (h ra sa : Nat) (ex : List Value) (z1 z2 : Int32) (sd : Nat → Int32) (ss : Nat) (q : Nat) (ro : Nat → Nat) (tx : Nat → List Nat) (G : Nat) (hG : G < 8) (hl96 : (tx G).length ≤ 96) : Kt l y_Rd_open (yw y_Rd_open b_Rd_open 3 none) 1 21 0 0 D cls tys (rqF q ro tx) [.ref h, .ref q, .int (nI G)] [(h, .inr (ci, .ref ra :: .int z1 :: .int z2 :: .ref sa :: .int (nI ss) :: ex)), (sa, .inl (tc 0, 96, .inl sd))] (fun r w => r = none ∧ w = rdW tc ci h (if 0 < (tx G).length then ro G else ra) sa ex (tx G) (tx G) sd ss) := sorry
/-! THE CLASS: its constants, Accept, by program (wip/whole/gen/p62.py) -/
def KLs : List (String × Nat × String × List Nat) := [("OriginDesk$Reader", 62, tokS, tokL), ("OriginDesk", 173, "", []), ("OriginDesk$Accept", 42, "*", [42]), ("OriginDesk$Accept", 80, "q", [113]), ("OriginDesk$Dates", 26, "SunMonTueWedThuFriSat", [83, 117, 110, 77, 111, 110, 84, 117, 101, 87, 101, 100, 84, 104, 117, 70, 114, 105, 83, 97, 116]), ("OriginDesk$Dates", 78, " GMT", [32, 71, 77, 84]), ("OriginDesk$Dates", 80, ", ", [44, 32]), ("OriginDesk$Dates", 88, "sday", [115, 100, 97, 121]), ("OriginDesk$Dates", 90, "nesday", [110, 101, 115, 100, 97, 121]), ("OriginDesk$Dates", 92, "rsday", [114, 115, 100, 97, 121]), ("OriginDesk$Dates", 94, "urday", [117, 114, 100, 97, 121]), ("OriginDesk$Dates", 96, "day", [100, 97, 121]), ("OriginDesk$Dates", 104, "JanFebMarAprMayJunJulAugSepOctNovDec", [74, 97, 110, 70, 101, 98, 77, 97, 114, 65, 112, 114, 77, 97, 121, 74, 117, 110, 74, 117, 108, 65, 117, 103, 83, 101, 112, 79, 99, 116, 78, 111, 118, 68, 101, 99]), ("OriginDesk$Languages", 51, "*", [42]), ("OriginDesk$Ranges", 32, "bytes", [98, 121, 116, 101, 115]), ("OriginDesk$Response", 70, "--PART--\r\n", [45, 45, 80, 65, 82, 84, 45, 45, 13, 10]), ("OriginDesk$Response", 82, "\r\n", [13, 10]), ("OriginDesk$Response", 93, "--PART\r\nRange: ", [45, 45, 80, 65, 82, 84, 13, 10, 82, 97, 110, 103, 101, 58, 32]), ("OriginDesk$Response", 105, "\r\n\r\n", [13, 10, 13, 10]), ("OriginDesk$Tags", 52, "W/", [87, 47])]
/-- a media type, a language: only read -/
def tyF (a kd : Nat) : (Nat → Prop) → State → Heap → Prop := fun A U H => ∃ a1 a2 a3 a4 : Nat, (va_OF "OriginDesk$MediaType" "main" "Ljava/lang/String;" (.ref a1) a A U H ∧ tF a1 (mnL kd) A U H) ∧ (va_OF "OriginDesk$MediaType" "sub" "Ljava/lang/String;" (.ref a2) a A U H ∧ tF a2 (snL kd) A U H) ∧ (va_OF "OriginDesk$MediaType" "parameter" "Ljava/lang/String;" (.ref a3) a A U H ∧ tF a3 (pnL kd) A U H) ∧ (va_OF "OriginDesk$MediaType" "value" "Ljava/lang/String;" (.ref a4) a A U H ∧ tF a4 (vnL kd) A U H)
def lgF (a wh : Nat) : (Nat → Prop) → State → Heap → Prop := fun A U H => ∃ a1 a2 : Nat, (va_OF "OriginDesk$Language" "code" "Ljava/lang/String;" (.ref a1) a A U H ∧ tF a1 (coL wh) A U H) ∧ (va_OF "OriginDesk$Language" "beginning" "Ljava/lang/String;" (.ref a2) a A U H ∧ tF a2 (beL wh) A U H)
theorem tyF_ro (a kd : Nat) : RO (tyF a kd) := sorry
theorem lgF_ro (a wh : Nat) : RO (lgF a wh) := sorry
/-- the days of the months, the tables of types and languages: only read -/
def mdF : (Nat → Prop) → State → Heap → Prop := fun A U H => ∃ t : Nat, va_Z "OriginDesk$Dates" "MONTH_DAYS" "[I" (.ref t) A U H ∧ va_T .int t 12 (fun j => .int (nI ([31, 28, 31, 30, 31, 30, 31, 31, 30, 31, 30, 31].getD j 0))) A U H
def stF (K : Nat → Nat) : (Nat → Prop) → State → Heap → Prop := fun A U H => va_Z "OriginDesk$MediaType" "HTML" "LOriginDesk$MediaType;" (.ref (K 100)) A U H ∧ va_Z "OriginDesk$Language" "EN" "LOriginDesk$Language;" (.ref (K 200)) A U H ∧ va_Z "OriginDesk$Language" "NONE" "LOriginDesk$Language;" (.ref (K 205)) A U H ∧ (∃ t : Nat, va_Z "OriginDesk" "TYPES" "[LOriginDesk$MediaType;" (.ref t) A U H ∧ va_T (.object "OriginDesk$MediaType") t 6 (fun j => .ref (K (100 + j))) A U H) ∧ (∃ t : Nat, va_Z "OriginDesk" "TONGUES" "[LOriginDesk$Language;" (.ref t) A U H ∧ va_T (.object "OriginDesk$Language") t 6 (fun j => .ref (K (200 + j))) A U H) ∧ ∀ wh, wh < 5 → K (200 + wh) ≠ K 205
theorem mdF_ro : RO mdF := sorry
theorem stF_ro (K : Nat → Nat) : RO (stF K) := sorry
def kcsF (K : Nat → Nat) : (Nat → Prop) → State → Heap → Prop := fun A U H => ∀ i q, KLs[i]? = some q → kcF q.1 q.2.1 q.2.2.1 (K i) q.2.2.2 A U H
def tysF (K : Nat → Nat) : (Nat → Prop) → State → Heap → Prop := fun A U H => ∀ kd, kd < 6 → tyF (K (100 + kd)) kd A U H
def lgsF (K : Nat → Nat) : (Nat → Prop) → State → Heap → Prop := fun A U H => ∀ wh, wh < 6 → lgF (K (200 + wh)) wh A U H
theorem kcsF_ro (K : Nat → Nat) : RO (kcsF K) := sorry
theorem tysF_ro (K : Nat → Nat) : RO (tysF K) := sorry
theorem lgsF_ro (K : Nat → Nat) : RO (lgsF K) := sorry
/-- what is never written: constant texts, media types, languages, tables; K: where they stand -/
def gF (K : Nat → Nat) : (Nat → Prop) → State → Heap → Prop := fun A U H => kcsF K A U H ∧ tysF K A U H ∧ lgsF K A U H ∧ mdF A U H ∧ stF K A U H
theorem gF_ro (K : Nat → Nat) : RO (gF K) := sorry
theorem isW_m (k : Nat) : isW (mnL k) ∧ isW (snL k) ∧ isW (pnL k) ∧ isW (vnL k) := sorry
/-- a media range's two tokens -/
def mrT (M S rs : List Nat) : Option (Bool × Nat × List Nat) :=
  if rs.takeWhile isTk = [] ∨ (pk 47 (rs.dropWhile isTk)).1 = false ∨ (pk 47 (rs.dropWhile isTk)).2.takeWhile isTk = [] ∨ (rs.takeWhile isTk ≠ [42] ∧ ss_star (rs.takeWhile isTk) = true) ∨ ((pk 47 (rs.dropWhile isTk)).2.takeWhile isTk ≠ [42] ∧ (rs.takeWhile isTk = [42] ∨ ss_star ((pk 47 (rs.dropWhile isTk)).2.takeWhile isTk) = true)) then none
  else some ((decide (rs.takeWhile isTk = [42]) || alikeL (rs.takeWhile isTk) M) && (decide ((pk 47 (rs.dropWhile isTk)).2.takeWhile isTk = [42]) || alikeL ((pk 47 (rs.dropWhile isTk)).2.takeWhile isTk) S), (if rs.takeWhile isTk = [42] then 0 else 1) + (if (pk 47 (rs.dropWhile isTk)).2.takeWhile isTk = [42] then 0 else 1), (pk 47 (rs.dropWhile isTk)).2.dropWhile isTk)
theorem mrg_T {M S P V rs : List Nat} : mrg M S P V rs = (match mrT M S rs with
    | none => none
    | some u => prm P V 97 u.1 u.2.1 u.2.2) := sorry
theorem tk_lt {rs T : List Nat} (hT : isT T) (hs : rs <:+ T) : (rs.takeWhile isTk).length ≤ 96 ∧ ∀ i, i < (rs.takeWhile isTk).length → (rs.takeWhile isTk).getD i 0 < 256 := sorry
set_option maxRecDepth 100000 in
set_option maxHeartbeats 4000000 in
theorem c_Ac_weigh (l : Launch) (D : va_G) (tys : List (ClassId × FieldType)) (tc : Nat → ClassId) (hty : ∀ i : Nat, i < 4 → tys[i]? = some (tc i, vx_ty i)) (h ra sa : Nat) (T rs : List Nat) (sd : Nat → Int32) (ss : Nat) (hT : isT T) (hs : rs <:+ T) (K : Nat → Nat) (qu mo : Int32) (fi : Bool) (to we : Int32) : Kt l y_Ac_weigh (yw y_Ac_weigh b_Ac_weigh 1 none) 0 0 0 0 D cls tys (fun A U H => rdF ra T A U H ∧ gF K A U H) [.ref h] (rdW tc 0 h ra sa [.int (qu), .int (mo), .int (bI fi), .int (to), .int (we)] T rs sd ss) (fun r w => r = none ∧ w = (rdW tc 0 h ra sa [.int (if fi = true ∧ mo < to then we else qu), .int (if fi = true ∧ mo < to then to else mo), .int (bI fi), .int (to), .int (we)] T rs sd ss)) := sorry
set_option maxRecDepth 100000 in
set_option maxHeartbeats 4000000 in
theorem c_Ac_readTokens (l : Launch) (D : va_G) (tys : List (ClassId × FieldType)) (tc : Nat → ClassId) (hty : ∀ i : Nat, i < 4 → tys[i]? = some (tc i, vx_ty i)) (h ra sa : Nat) (T rs : List Nat) (sd : Nat → Int32) (ss : Nat) (hT : isT T) (hs : rs <:+ T) (K : Nat → Nat) (qu mo fi to we : Int32) (kd : Nat) (hkd : kd < 6) : Kt l y_Ac_readTokens (yw y_Ac_readTokens b_Ac_readTokens 5 (some .boolean)) 5 111 0 0 D cls tys (fun A U H => rdF ra T A U H ∧ gF K A U H) [.ref h, .ref (K (100 + kd))] (rdW tc 0 h ra sa [.int (qu), .int (mo), .int (fi), .int (to), .int (we)] T rs sd ss) (fun r w => r = some (.int (bI (mrT (mnL kd) (snL kd) rs).isSome)) ∧ ∃ fi2 to2 rs2 sd2 ss2, w = (rdW tc 0 h ra sa [.int (qu), .int (mo), .int (fi2), .int (to2), .int (we)] T rs2 sd2 ss2) ∧ rs2 <:+ T ∧ ∀ u, (mrT (mnL kd) (snL kd) rs) = some u → fi2 = bI u.1 ∧ to2 = nI u.2.1 ∧ rs2 = u.2.2) := sorry
/-! THE CLASS: Accept's parameters and lists, by program (wip/whole/gen/p63.py) -/
theorem bsc_sc {rs : List Nat} (h : (pk 59 (gp rs)).1 = true) : (sc (gp rs)).2 = bsc rs := sorry
theorem bsc_len {rs : List Nat} (h : (pk 59 (gp rs)).1 = true) : (bsc rs).length < rs.length := sorry
theorem asg_sf {rs : List Nat} : (asg rs).2.1 <:+ rs := sorry
theorem asg_qt {rs : List Nat} (h : (pk 61 rs).1 = true) (h2 : (pk 34 (pk 61 rs).2).1 = true) : asg rs = qtd (pk 61 rs).2 := sorry
theorem asg_tk {rs : List Nat} (h : (pk 61 rs).1 = true) (h2 : (pk 34 (pk 61 rs).2).1 = false) : asg rs = (!((pk 61 rs).2.takeWhile isTk).isEmpty, (pk 61 rs).2.dropWhile isTk, (pk 61 rs).2.takeWhile isTk) := sorry
theorem nI_nm1 {n : Nat} (h : n < 2 ^ 31) : ¬ nI n = -1 := sorry
set_option maxRecDepth 100000 in
set_option maxHeartbeats 4000000 in
theorem c_Ac_readParameters (l : Launch) (D : va_G) (tys : List (ClassId × FieldType)) (tc : Nat → ClassId) (hty : ∀ i : Nat, i < 4 → tys[i]? = some (tc i, vx_ty i)) (h ra sa : Nat) (T rs : List Nat) (sd : Nat → Int32) (ss : Nat) (hT : isT T) (hs : rs <:+ T) (K : Nat → Nat) (qu mo : Int32) (f0 : Bool) (t0 : Nat) (we : Int32) (kd : Nat) (hkd : kd < 6) : Kt l y_Ac_readParameters (yw y_Ac_readParameters b_Ac_readParameters 4 (some .boolean)) 5 111 0 0 D cls tys (fun A U H => rdF ra T A U H ∧ gF K A U H) [.ref h, .ref (K (100 + kd))] (rdW tc 0 h ra sa [.int (qu), .int (mo), .int (bI f0), .int (nI t0), .int (we)] T rs sd ss) (fun r w => r = some (.int (bI (prm (pnL kd) (vnL kd) 97 f0 t0 rs).isSome)) ∧ ∃ fi2 to2 we2 rs2 sd2 ss2, w = (rdW tc 0 h ra sa [.int (qu), .int (mo), .int (fi2), .int (to2), .int (we2)] T rs2 sd2 ss2) ∧ rs2 <:+ T ∧ ∀ u, (prm (pnL kd) (vnL kd) 97 f0 t0 rs) = some u → fi2 = bI u.1 ∧ to2 = nI u.2.1 ∧ we2 = nI u.2.2.1 ∧ gp rs2 = u.2.2.2) := sorry
def mtI (mt : Nat) : Int32 := nI mt - 1
theorem mtI_lt {a b : Nat} (ha : a < 2 ^ 30) (hb : b < 2 ^ 30) : mtI a < nI b ↔ a < b + 1 := sorry
theorem prm_told {P V : List Nat} {n : Nat} {f : Bool} {t : Nat} {rs : List Nat} {u : Bool × Nat × Nat × List Nat} (h : prm P V n f t rs = some u) : u.2.1 ≤ t + n ∧ u.2.2.2.length ≤ rs.length := sorry
theorem mrg_len {M S P V rs : List Nat} {u : Bool × Nat × Nat × List Nat} (h : mrg M S P V rs = some u) : u.2.1 ≤ 99 ∧ u.2.2.2.length < rs.length := sorry
set_option maxRecDepth 100000 in
set_option maxHeartbeats 4000000 in
theorem c_Ac_read (l : Launch) (D : va_G) (tys : List (ClassId × FieldType)) (tc : Nat → ClassId) (hty : ∀ i : Nat, i < 4 → tys[i]? = some (tc i, vx_ty i)) (h ra sa : Nat) (z1 z2 : Int32) (sd : Nat → Int32) (ss : Nat) (q : Nat) (ro : Nat → Nat) (tx : Nat → List Nat) (hx : ∀ G, G < 8 → isT (tx G)) (K : Nat → Nat) (q0 m0 f0 t0 w0 : Int32) (kd : Nat) (hkd : kd < 6) : Kt l y_Ac_read (yw y_Ac_read b_Ac_read 4 (some .boolean)) 6 135 0 0 D cls tys (fun A U H => rqF q ro tx A U H ∧ rdF ra [] A U H ∧ gF K A U H) [.ref h, .ref q, .ref (K (100 + kd))] [(h, .inr (0, [.ref ra, .int z1, .int z2, .ref sa, .int (nI ss), .int (q0), .int (m0), .int (f0), .int (t0), .int (w0)])), (sa, .inl (tc 0, 96, .inl sd))] (fun r w => r = some (.int (bI (accL (mnL kd) (snL kd) (pnL kd) (vnL kd) 97 0 0 0 (tx 0)).isSome)) ∧ ∃ ra2 y1 y2 ss2 sd2 q2 m2 f2 t2 w2, w = [(h, .inr (0, [.ref ra2, .int y1, .int y2, .ref sa, .int (nI ss2), .int (q2), .int (m2), .int (f2), .int (t2), .int (w2)])), (sa, .inl (tc 0, 96, .inl sd2))] ∧ (ra2 = ra ∨ ra2 = ro 0) ∧ ∀ v, (accL (mnL kd) (snL kd) (pnL kd) (vnL kd) 97 0 0 0 (tx 0)) = some v → q2 = nI v) := sorry
/-! THE CLASS: Languages, by program (wip/whole/gen/p64.py) -/
theorem mtI_le {a b : Nat} (ha : a < 2 ^ 30) (hb : b < 2 ^ 30) : mtI a ≤ mtI b ↔ a ≤ b := sorry
theorem pk_tail {c : Nat} {rs : List Nat} (h : (pk c rs).1 = true) : (pk c rs).2 = rs.tail := sorry
/-- a range of languages and its weight -/
def lnO (rs : List Nat) : Option (Nat × List Nat) := if (lgt rs).1 = true then lwt (lgt rs).2.1 else none
theorem isW_l (k : Nat) (h : k < 6) : isW (coL k) ∧ isW (beL k) := sorry
theorem lgt_lt {rs T : List Nat} (hT : isT T) (hs : rs <:+ T) : (lgt rs).2.2.length ≤ 96 ∧ ∀ i, i < (lgt rs).2.2.length → (lgt rs).2.2.getD i 0 < 256 := sorry
theorem lwt_len {r : List Nat} {u : Nat × List Nat} (h : lwt r = some u) : u.2.length ≤ r.length := sorry
theorem lng_pos {q : Nat} {dt : Bool} {rs S : List Nat} (h : (lng q dt rs S).1 = true) (hq : q = 0) : (lng q dt rs S).2.1.length < rs.length := sorry
theorem lnO_len {rs : List Nat} {u : Nat × List Nat} (h : lnO rs = some u) : u.2.length < rs.length := sorry
theorem fitL_le {C B S : List Nat} (h : S.length ≤ 96) : fitL C B S ≤ 97 := sorry
set_option maxRecDepth 100000 in
set_option maxHeartbeats 4000000 in
theorem c_La_fitOf (l : Launch) (D : va_G) (tys : List (ClassId × FieldType)) (tc : Nat → ClassId) (hty : ∀ i : Nat, i < 4 → tys[i]? = some (tc i, vx_ty i)) (h ra sa : Nat) (T rs : List Nat) (sd : Nat → Int32) (ss : Nat) (hT : isT T) (hs : rs <:+ T) (K : Nat → Nat) (qu lo : Int32) (wh : Nat) (hwh : wh < 6) (S : List Nat) (hsd : sdIs sd S) (hss : ss = S.length) (hS : S.length ≤ 96) (hS2 : ∀ i, i < S.length → S.getD i 0 < 256) : Kt l y_La_fitOf (yw y_La_fitOf b_La_fitOf 2 (some .int)) 5 107 0 0 D cls tys (fun A U H => rdF ra T A U H ∧ gF K A U H) [.ref h, .ref (K (200 + wh))] (rdW tc 1 h ra sa [.int (qu), .int (lo)] T rs sd ss) (fun r w => r = some (.int (mtI (fitL (coL wh) (beL wh) S))) ∧ w = (rdW tc 1 h ra sa [.int (qu), .int (lo)] T rs sd ss)) := sorry
theorem lwt_le {r : List Nat} {u : Nat × List Nat} (h : lwt r = some u) : u.1 ≤ 1000 := sorry
set_option maxRecDepth 100000 in
set_option maxHeartbeats 4000000 in
theorem c_La_readRange (l : Launch) (D : va_G) (tys : List (ClassId × FieldType)) (tc : Nat → ClassId) (hty : ∀ i : Nat, i < 4 → tys[i]? = some (tc i, vx_ty i)) (h ra sa : Nat) (T rs : List Nat) (sd : Nat → Int32) (ss : Nat) (hT : isT T) (hs : rs <:+ T) (K : Nat → Nat) (q0 lg : Nat) (hlg : lg ≤ 1000) (wh : Nat) (hwh : wh < 6) : Kt l y_La_readRange (yw y_La_readRange b_La_readRange 4 (some .boolean)) 6 128 0 0 D cls tys (fun A U H => rdF ra T A U H ∧ gF K A U H) [.ref h, .ref (K (200 + wh))] (rdW tc 1 h ra sa [.int (nI q0), .int (mtI lg)] T rs sd ss) (fun r w => r = some (.int (bI (lnO rs).isSome)) ∧ ∃ qu2 lo2 rs2 sd2 ss2, w = (rdW tc 1 h ra sa [.int (qu2), .int (lo2)] T rs2 sd2 ss2) ∧ rs2 <:+ T ∧ ∀ u, lnO rs = some u → gp rs2 = u.2 ∧ lo2 = mtI (if lg < (fitL (coL wh) (beL wh) (lgt rs).2.2) then (fitL (coL wh) (beL wh) (lgt rs).2.2) else lg) ∧ qu2 = nI (if lg < (fitL (coL wh) (beL wh) (lgt rs).2.2) then u.1 else q0)) := sorry
theorem lanL_O {C B : List Nat} {n els lg q : Nat} {rs : List Nat} (h : ¬ gc rs = []) : lanL C B (n + 1) els lg q rs = (match lnO (gc rs) with
    | none => none
    | some u => if ee u.2 = true then lanL C B n (els + 1) (if lg < fitL C B (lgt (gc rs)).2.2 then fitL C B (lgt (gc rs)).2.2 else lg) (if lg < fitL C B (lgt (gc rs)).2.2 then u.1 else q) u.2 else none) := sorry
set_option maxRecDepth 100000 in
set_option maxHeartbeats 4000000 in
theorem c_La_read (l : Launch) (D : va_G) (tys : List (ClassId × FieldType)) (tc : Nat → ClassId) (hty : ∀ i : Nat, i < 4 → tys[i]? = some (tc i, vx_ty i)) (h ra sa : Nat) (z1 z2 : Int32) (sd : Nat → Int32) (ss : Nat) (q : Nat) (ro : Nat → Nat) (tx : Nat → List Nat) (hx : ∀ G, G < 8 → isT (tx G)) (K : Nat → Nat) (q0 m0 : Int32) (wh : Nat) (hwh : wh < 6) : Kt l y_La_read (yw y_La_read b_La_read 4 (some .boolean)) 7 151 0 0 D cls tys (fun A U H => rqF q ro tx A U H ∧ rdF ra [] A U H ∧ gF K A U H) [.ref h, .ref q, .ref (K (200 + wh))] [(h, .inr (1, [.ref ra, .int z1, .int z2, .ref sa, .int (nI ss), .int (q0), .int (m0)])), (sa, .inl (tc 0, 96, .inl sd))] (fun r w => r = some (.int (bI (lanL (coL wh) (beL wh) 97 0 0 0 (tx 1)).isSome)) ∧ ∃ ra2 y1 y2 ss2 sd2 q2 m2, w = [(h, .inr (1, [.ref ra2, .int y1, .int y2, .ref sa, .int (nI ss2), .int (q2), .int (m2)])), (sa, .inl (tc 0, 96, .inl sd2))] ∧ (ra2 = ra ∨ ra2 = ro 1) ∧ ∀ v, (lanL (coL wh) (beL wh) 97 0 0 0 (tx 1)) = some v → q2 = nI v) := sorry
/-! THE CLASS: Tags, by program (wip/whole/gen/p65.py) -/
theorem tgt_sf {rs : List Nat} : (tgt rs).2.2.1 <:+ rs := sorry
set_option maxRecDepth 100000 in
set_option maxHeartbeats 4000000 in
theorem c_Tg_readTag (l : Launch) (D : va_G) (tys : List (ClassId × FieldType)) (tc : Nat → ClassId) (hty : ∀ i : Nat, i < 4 → tys[i]? = some (tc i, vx_ty i)) (h ra sa : Nat) (T rs : List Nat) (sd : Nat → Int32) (ss : Nat) (hT : isT T) (hs : rs <:+ T) (K : Nat → Nat) (st0 : Int32) (sm sg : Bool) (a : Nat) (W : List Nat) (hWW : isW W) : Kt l y_Tg_readTag (yw y_Tg_readTag b_Tg_readTag 4 (some .boolean)) 5 107 0 0 D cls tys (fun A U H => rdF ra T A U H ∧ gF K A U H ∧ tF a W A U H) [.ref h, .ref a] (rdW tc 2 h ra sa [.int (st0), .int (bI sm), .int (bI sg)] T rs sd ss) (fun r w => r = some (.int (bI (tgt rs).1)) ∧ ∃ sm2 sg2 rs2 sd2 ss2, w = (rdW tc 2 h ra sa [.int (st0), .int (bI sm2), .int (bI sg2)] T rs2 sd2 ss2) ∧ rs2 <:+ T ∧ ((tgt rs).1 = true → rs2 = (tgt rs).2.2.1 ∧ sm2 = (sm || sameL (tgt rs).2.2.2 W) ∧ sg2 = (sg || (sameL (tgt rs).2.2.2 W && !(tgt rs).2.1)))) := sorry
set_option maxRecDepth 100000 in
set_option maxHeartbeats 4000000 in
theorem c_Tg_begin (l : Launch) (D : va_G) (tys : List (ClassId × FieldType)) (tc : Nat → ClassId) (hty : ∀ i : Nat, i < 4 → tys[i]? = some (tc i, vx_ty i)) (h ra sa : Nat) (z1 z2 : Int32) (sd : Nat → Int32) (ss : Nat) (q : Nat) (ro : Nat → Nat) (tx : Nat → List Nat) (hx : ∀ G, G < 8 → isT (tx G)) (K : Nat → Nat) (q0 m0 s0 : Int32) (G : Nat) (hG : G < 8) : Kt l y_Tg_begin (yw y_Tg_begin b_Tg_begin 3 none) 2 43 0 0 D cls tys (fun A U H => rqF q ro tx A U H ∧ rdF ra [] A U H ∧ gF K A U H) [.ref h, .ref q, .int (nI G)] [(h, .inr (2, [.ref ra, .int z1, .int z2, .ref sa, .int (nI ss), .int (q0), .int (m0), .int (s0)])), (sa, .inl (tc 0, 96, .inl sd))] (fun r w => r = none ∧ w = rdW tc 2 h (if 0 < (tx G).length then ro G else ra) sa [.int 0, .int 0, .int 0] (tx G) (gp (tx G)) sd ss) := sorry
set_option maxRecDepth 100000 in
set_option maxHeartbeats 4000000 in
theorem c_Tg_readOne (l : Launch) (D : va_G) (tys : List (ClassId × FieldType)) (tc : Nat → ClassId) (hty : ∀ i : Nat, i < 4 → tys[i]? = some (tc i, vx_ty i)) (h ra sa : Nat) (z1 z2 : Int32) (sd : Nat → Int32) (ss : Nat) (q : Nat) (ro : Nat → Nat) (tx : Nat → List Nat) (hx : ∀ G, G < 8 → isT (tx G)) (K : Nat → Nat) (q0 m0 s0 : Int32) (G : Nat) (hG : G < 8) (a : Nat) (W : List Nat) (hWW : isW W) : Kt l y_Tg_readOne (yw y_Tg_readOne b_Tg_readOne 4 (some .boolean)) 6 130 0 0 D cls tys (fun A U H => rqF q ro tx A U H ∧ rdF ra [] A U H ∧ gF K A U H ∧ tF a W A U H) [.ref h, .ref q, .int (nI G), .ref a] [(h, .inr (2, [.ref ra, .int z1, .int z2, .ref sa, .int (nI ss), .int (q0), .int (m0), .int (s0)])), (sa, .inl (tc 0, 96, .inl sd))] (fun r w => r = some (.int (bI (lonT W (tx G)).isSome)) ∧ ∃ ra2 y1 y2 ss2 sd2 q2 m2 s2, w = [(h, .inr (2, [.ref ra2, .int y1, .int y2, .ref sa, .int (nI ss2), .int (q2), .int (m2), .int (s2)])), (sa, .inl (tc 0, 96, .inl sd2))] ∧ (ra2 = ra ∨ ra2 = ro G) ∧ ∀ v, (lonT W (tx G)) = some v → s2 = bI v) := sorry
set_option maxRecDepth 100000 in
set_option maxHeartbeats 4000000 in
theorem c_Tg_readList (l : Launch) (D : va_G) (tys : List (ClassId × FieldType)) (tc : Nat → ClassId) (hty : ∀ i : Nat, i < 4 → tys[i]? = some (tc i, vx_ty i)) (h ra sa : Nat) (z1 z2 : Int32) (sd : Nat → Int32) (ss : Nat) (q : Nat) (ro : Nat → Nat) (tx : Nat → List Nat) (hx : ∀ G, G < 8 → isT (tx G)) (K : Nat → Nat) (q0 m0 s0 : Int32) (G : Nat) (hG : G < 8) (a : Nat) (W : List Nat) (hWW : isW W) : Kt l y_Tg_readList (yw y_Tg_readList b_Tg_readList 5 (some .boolean)) 6 130 0 0 D cls tys (fun A U H => rqF q ro tx A U H ∧ rdF ra [] A U H ∧ gF K A U H ∧ tF a W A U H) [.ref h, .ref q, .int (nI G), .ref a] [(h, .inr (2, [.ref ra, .int z1, .int z2, .ref sa, .int (nI ss), .int (q0), .int (m0), .int (s0)])), (sa, .inl (tc 0, 96, .inl sd))] (fun r w => r = some (.int (bI (tgsL W (tx G)).isSome)) ∧ ∃ ra2 y1 y2 ss2 sd2 q2 m2 s2, w = [(h, .inr (2, [.ref ra2, .int y1, .int y2, .ref sa, .int (nI ss2), .int (q2), .int (m2), .int (s2)])), (sa, .inl (tc 0, 96, .inl sd2))] ∧ (ra2 = ra ∨ ra2 = ro G) ∧ ∀ v, (tgsL W (tx G)) = some v → q2 = bI v.1 ∧ m2 = bI v.2.1 ∧ s2 = bI v.2.2) := sorry
/-! THE CLASS: Dates, its pieces, by program (wip/whole/gen/p66.py) -/
theorem iI_m1 {v : Option Nat} (hv : ∀ a, v = some a → a < 2 ^ 31) : iI v = -1 ↔ v = none := sorry
theorem dgs_l {k : Nat} {rs : List Nat} (hk : k ≤ 9) (a : Nat) (h : (dgs k 0 rs).1 = some a) : a < 2 ^ 31 := sorry
theorem nm_l {W rs : List Nat} (hW : W.length ≤ 1000) (a : Nat) (h : (nmAt W rs).1 = some a) : a < 2 ^ 31 := sorry
set_option maxRecDepth 100000 in
set_option maxHeartbeats 4000000 in
theorem c_Da_takeDay (l : Launch) (D : va_G) (tys : List (ClassId × FieldType)) (tc : Nat → ClassId) (hty : ∀ i : Nat, i < 4 → tys[i]? = some (tc i, vx_ty i)) (h ra sa : Nat) (T rs : List Nat) (sd : Nat → Int32) (ss : Nat) (hT : isT T) (hs : rs <:+ T) (K : Nat → Nat) (ly y0 mo0 d0 s0 : Int32) : Kt l y_Da_takeDay (yw y_Da_takeDay b_Da_takeDay 1 (some .boolean)) 1 23 0 0 D cls tys (fun A U H => rdF ra T A U H ∧ gF K A U H) [.ref h] (rdW tc 3 h ra sa [.int (ly), .int (y0), .int (mo0), .int (d0), .int (s0)] T rs sd ss) (fun r w => r = some (.int (bI (dgs 2 0 rs).1.isSome)) ∧ w = (rdW tc 3 h ra sa [.int (ly), .int (y0), .int (mo0), .int (iI (dgs 2 0 rs).1), .int (s0)] T (dgs 2 0 rs).2 sd ss)) := sorry
set_option maxRecDepth 100000 in
set_option maxHeartbeats 4000000 in
theorem c_Da_takeYear (l : Launch) (D : va_G) (tys : List (ClassId × FieldType)) (tc : Nat → ClassId) (hty : ∀ i : Nat, i < 4 → tys[i]? = some (tc i, vx_ty i)) (h ra sa : Nat) (T rs : List Nat) (sd : Nat → Int32) (ss : Nat) (hT : isT T) (hs : rs <:+ T) (K : Nat → Nat) (ly y0 mo0 d0 s0 : Int32) : Kt l y_Da_takeYear (yw y_Da_takeYear b_Da_takeYear 1 (some .boolean)) 1 23 0 0 D cls tys (fun A U H => rdF ra T A U H ∧ gF K A U H) [.ref h] (rdW tc 3 h ra sa [.int (ly), .int (y0), .int (mo0), .int (d0), .int (s0)] T rs sd ss) (fun r w => r = some (.int (bI (dgs 4 0 rs).1.isSome)) ∧ w = (rdW tc 3 h ra sa [.int (ly), .int (iI (dgs 4 0 rs).1), .int (mo0), .int (d0), .int (s0)] T (dgs 4 0 rs).2 sd ss)) := sorry
set_option maxRecDepth 100000 in
set_option maxHeartbeats 4000000 in
theorem c_Da_takeMonth (l : Launch) (D : va_G) (tys : List (ClassId × FieldType)) (tc : Nat → ClassId) (hty : ∀ i : Nat, i < 4 → tys[i]? = some (tc i, vx_ty i)) (h ra sa : Nat) (T rs : List Nat) (sd : Nat → Int32) (ss : Nat) (hT : isT T) (hs : rs <:+ T) (K : Nat → Nat) (ly y0 mo0 d0 s0 : Int32) : Kt l y_Da_takeMonth (yw y_Da_takeMonth b_Da_takeMonth 1 (some .boolean)) 5 108 0 0 D cls tys (fun A U H => rdF ra T A U H ∧ gF K A U H) [.ref h] (rdW tc 3 h ra sa [.int (ly), .int (y0), .int (mo0), .int (d0), .int (s0)] T rs sd ss) (fun r w => r = some (.int (bI (nmAt monL rs).1.isSome)) ∧ w = (rdW tc 3 h ra sa [.int (ly), .int (y0), .int (iI (nmAt monL rs).1), .int (d0), .int (s0)] T (nmAt monL rs).2 sd ss)) := sorry
set_option maxRecDepth 100000 in
set_option maxHeartbeats 4000000 in
theorem c_Da_takeShortYear (l : Launch) (D : va_G) (tys : List (ClassId × FieldType)) (tc : Nat → ClassId) (hty : ∀ i : Nat, i < 4 → tys[i]? = some (tc i, vx_ty i)) (h ra sa : Nat) (T rs : List Nat) (sd : Nat → Int32) (ss : Nat) (hT : isT T) (hs : rs <:+ T) (K : Nat → Nat) (lyn : Nat) (hly : lyn < 10000) (y0 mo0 d0 s0 : Int32) : Kt l y_Da_takeShortYear (yw y_Da_takeShortYear b_Da_takeShortYear 2 (some .boolean)) 1 23 0 0 D cls tys (fun A U H => rdF ra T A U H ∧ gF K A U H) [.ref h] (rdW tc 3 h ra sa [.int (nI lyn), .int (y0), .int (mo0), .int (d0), .int (s0)] T rs sd ss) (fun r w => r = some (.int (bI (dgs 2 0 rs).1.isSome)) ∧ ∃ y2, w = (rdW tc 3 h ra sa [.int (nI lyn), .int (y2), .int (mo0), .int (d0), .int (s0)] T (dgs 2 0 rs).2 sd ss) ∧ ∀ v, (dgs 2 0 rs).1 = some v → y2 = nI (shy lyn v)) := sorry
set_option maxRecDepth 100000 in
set_option maxHeartbeats 4000000 in
theorem c_Da_takeSpacedDay (l : Launch) (D : va_G) (tys : List (ClassId × FieldType)) (tc : Nat → ClassId) (hty : ∀ i : Nat, i < 4 → tys[i]? = some (tc i, vx_ty i)) (h ra sa : Nat) (T rs : List Nat) (sd : Nat → Int32) (ss : Nat) (hT : isT T) (hs : rs <:+ T) (K : Nat → Nat) (ly y0 mo0 d0 s0 : Int32) : Kt l y_Da_takeSpacedDay (yw y_Da_takeSpacedDay b_Da_takeSpacedDay 2 (some .boolean)) 1 23 0 0 D cls tys (fun A U H => rdF ra T A U H ∧ gF K A U H) [.ref h] (rdW tc 3 h ra sa [.int (ly), .int (y0), .int (mo0), .int (d0), .int (s0)] T rs sd ss) (fun r w => r = some (.int (bI (pday rs).isSome)) ∧ ∃ d2 rs2, w = (rdW tc 3 h ra sa [.int (ly), .int (y0), .int (mo0), .int (d2), .int (s0)] T rs2 sd ss) ∧ rs2 <:+ T ∧ ∀ u, pday rs = some u → d2 = nI u.1 ∧ rs2 = u.2) := sorry
/-! THE CLASS: Dates, clocks and calendars, by program (wip/whole/gen/p67.py) -/
/-- a clock, step by step -/
theorem clk_1 {rs : List Nat} (h : (dgs 2 0 rs).1 = none) : clk rs = none := sorry
theorem clk_2 {rs : List Nat} {v1 : Nat} (h : (dgs 2 0 rs).1 = some v1) : clk rs = if 23 < v1 then none else (match pk 58 (dgs 2 0 rs).2 with
    | (false, _) => none
    | (true, r) => match dgs 2 0 r with
      | (none, _) => none
      | (some q, r) => if 59 < q then none else match pk 58 r with
        | (false, _) => none
        | (true, r) => match dgs 2 0 r with
          | (none, _) => none
          | (some z, r) => if 59 < z then none else some (3600 * v1 + 60 * q + z, r)) := sorry
theorem pk_ff {c : Nat} {r : List Nat} (h : (pk c r).1 = false) : pk c r = (false, (pk c r).2) := sorry
theorem pk_tt {c : Nat} {r : List Nat} (h : (pk c r).1 = true) : pk c r = (true, (pk c r).2) := sorry
theorem dg_nn {k : Nat} {r : List Nat} (h : (dgs k 0 r).1 = none) : dgs k 0 r = (none, (dgs k 0 r).2) := sorry
theorem dg_ss {k v : Nat} {r : List Nat} (h : (dgs k 0 r).1 = some v) : dgs k 0 r = (some v, (dgs k 0 r).2) := sorry
set_option maxRecDepth 100000 in
set_option maxHeartbeats 4000000 in
theorem c_Da_takeClock (l : Launch) (D : va_G) (tys : List (ClassId × FieldType)) (tc : Nat → ClassId) (hty : ∀ i : Nat, i < 4 → tys[i]? = some (tc i, vx_ty i)) (h ra sa : Nat) (T rs : List Nat) (sd : Nat → Int32) (ss : Nat) (hT : isT T) (hs : rs <:+ T) (K : Nat → Nat) (ly y0 mo0 d0 s0 : Int32) : Kt l y_Da_takeClock (yw y_Da_takeClock b_Da_takeClock 4 (some .boolean)) 1 23 0 0 D cls tys (fun A U H => rdF ra T A U H ∧ gF K A U H) [.ref h] (rdW tc 3 h ra sa [.int (ly), .int (y0), .int (mo0), .int (d0), .int (s0)] T rs sd ss) (fun r w => r = some (.int (bI (clk rs).isSome)) ∧ ∃ s2 rs2, w = (rdW tc 3 h ra sa [.int (ly), .int (y0), .int (mo0), .int (d0), .int (s2)] T rs2 sd ss) ∧ rs2 <:+ T ∧ ∀ u, clk rs = some u → s2 = nI u.1 ∧ rs2 = u.2) := sorry
set_option maxRecDepth 100000 in
set_option maxHeartbeats 4000000 in
theorem c_Da_daysOf (l : Launch) (D : va_G) (tys : List (ClassId × FieldType)) (tc : Nat → ClassId) (hty : ∀ i : Nat, i < 4 → tys[i]? = some (tc i, vx_ty i)) (mo y : Nat) (hm : mo < 12) (hy : y < 2 ^ 31) : Kt l y_Da_daysOf (yw y_Da_daysOf b_Da_daysOf 2 (some .int)) 0 0 0 0 D cls tys mdF [.int (nI mo), .int (nI y)] [] (fun r w => r = some (.int (nI (dys mo y))) ∧ w = []) := sorry
theorem div4 {a : Nat} (h : a < 2 ^ 31) : nI a / (4 : Int32) = nI (a / 4) := sorry
set_option maxRecDepth 100000 in
set_option maxHeartbeats 4000000 in
theorem c_Da_daysBefore (l : Launch) (D : va_G) (tys : List (ClassId × FieldType)) (tc : Nat → ClassId) (hty : ∀ i : Nat, i < 4 → tys[i]? = some (tc i, vx_ty i)) (y : Nat) (hy : 1970 ≤ y) (hy2 : y < 10000) : Kt l y_Da_daysBefore (yw y_Da_daysBefore b_Da_daysBefore 1 (some .int)) 0 0 0 0 D cls tys (fun _ _ _ => True) [.int (nI y)] [] (fun r w => r = some (.int (nI (dbf y))) ∧ w = []) := sorry
set_option maxRecDepth 100000 in
set_option maxHeartbeats 4000000 in
theorem c_Da_yearOf (l : Launch) (D : va_G) (tys : List (ClassId × FieldType)) (tc : Nat → ClassId) (hty : ∀ i : Nat, i < 4 → tys[i]? = some (tc i, vx_ty i)) (N : Nat) (hN : N ≤ 4102444799) : Kt l y_Da_yearOf (yw y_Da_yearOf b_Da_yearOf 5 (some .int)) 1 20 0 0 D cls tys (fun _ _ _ => True) [.long (lN N)] [] (fun r w => r = some (.int (nI (yrN N))) ∧ w = []) := sorry
/-! THE CLASS: Dates, its forms, by program (wip/whole/gen/p68.py) -/
abbrev Dt : Type := (Nat × Nat × Nat × Nat) × List Nat
def fS (r : List Nat) : Option Dt := sn (nmO monL r) fun k r => sb (pk 32 r) fun r => sn (pday r) fun d r => sb (pk 32 r) fun r => sn (clk r) fun t r => sb (pk 32 r) fun r => sn (dgO 4 r) fun y r => some ((y, k, d, t), r)
def fT (y k d : Nat) (r : List Nat) : Option Dt := sb (pk 32 r) fun r => sn (clk r) fun t r => sb (tt gmtL r) fun r => some ((y, k, d, t), r)
def fC (r : List Nat) : Option Dt := sb (pk 32 r) fun r => sn (dgO 2 r) fun d r => sb (pk 32 r) fun r => sn (nmO monL r) fun k r => sb (pk 32 r) fun r => sn (dgO 4 r) fun y r => fT y k d r
def fD (ly : Nat) (r : List Nat) : Option Dt := sb (tt [44, 32] r) fun r => sn (dgO 2 r) fun d r => sb (pk 45 r) fun r => sn (nmO monL r) fun k r => sb (pk 45 r) fun r => sn (dgO 2 r) fun v r => fT (shy ly v) k d r
def fin (v : Option Dt) : Option (Nat × List Nat) := match v with
  | none => none
  | some u => (cal u.1.1 u.1.2.1 u.1.2.2.1 u.1.2.2.2).map (fun t => (t, u.2))
theorem fin_n {v : Option (Nat × List Nat)} {f : Nat → List Nat → Option Dt} : fin (sn v f) = sn v (fun z r => fin (f z r)) := sorry
theorem fin_b {v : Bool × List Nat} {f : List Nat → Option Dt} : fin (sb v f) = sb v (fun r => fin (f r)) := sorry
theorem dA0_f {r : List Nat} : dA0 r = fin (fS r) := sorry
theorem dE7_f {y k d : Nat} {r : List Nat} : dE7 (some (k + 1)) (some d) (some y) r = fin (fT y k d r) := sorry
theorem dE1_f {ly : Nat} {r : List Nat} : dE1 ly false r = sb (pk 44 r) (fun r => fin (fC r)) := sorry
theorem fT_lo {y k d : Nat} {r : List Nat} (h : ¬ 1970 ≤ y) : fin (fT y k d r) = none := sorry
theorem tt_cs {r : List Nat} {α : Type} {f : List Nat → Option α} : sb (tt [44, 32] r) f = sb (pk 44 r) (fun r => sb (pk 32 r) f) := sorry
theorem dE1_g {ly : Nat} {r : List Nat} : dE1 ly true r = fin (fD ly r) := sorry
/-- a field's date, as the class reads it -/
def dtC (ly wd : Nat) (r : List Nat) : Option Dt := if (pk 44 r).1 = true then fC (pk 44 r).2 else if (pk 32 r).1 = true then fS (pk 32 r).2 else sb (tt (rstL wd) r) (fD ly)
theorem pk_one {a b : Nat} {r : List Nat} (hab : a ≠ b) (h : (pk a r).1 = true) : (pk b r).1 = false := sorry
theorem dtB_C {ly wd : Nat} {r : List Nat} : dtB ly wd r = fin (dtC ly wd r) := sorry
set_option maxRecDepth 100000 in
set_option maxHeartbeats 4000000 in
theorem c_Da_isInCalendar (l : Launch) (D : va_G) (tys : List (ClassId × FieldType)) (tc : Nat → ClassId) (hty : ∀ i : Nat, i < 4 → tys[i]? = some (tc i, vx_ty i)) (h ra sa : Nat) (T rs : List Nat) (sd : Nat → Int32) (ss : Nat) (hT : isT T) (hs : rs <:+ T) (K : Nat → Nat) (ly : Int32) (y mo d t : Nat) (hy : y < 10000) (hmo : mo < 12) (hd : d < 100) (ht : t < 86400) : Kt l y_Da_isInCalendar (yw y_Da_isInCalendar b_Da_isInCalendar 1 (some .boolean)) 1 21 0 0 D cls tys (fun A U H => rdF ra T A U H ∧ gF K A U H) [.ref h] (rdW tc 3 h ra sa [.int (ly), .int (nI y), .int (nI mo), .int (nI d), .int (nI t)] T rs sd ss) (fun r w => r = some (.int (bI (decide (1970 ≤ y ∧ y ≤ 2099 ∧ 1 ≤ d ∧ d ≤ dys mo y)))) ∧ w = (rdW tc 3 h ra sa [.int (ly), .int (nI y), .int (nI mo), .int (nI d), .int (nI t)] T rs sd ss)) := sorry
set_option maxRecDepth 100000 in
set_option maxHeartbeats 4000000 in
theorem c_Da_time (l : Launch) (D : va_G) (tys : List (ClassId × FieldType)) (tc : Nat → ClassId) (hty : ∀ i : Nat, i < 4 → tys[i]? = some (tc i, vx_ty i)) (h ra sa : Nat) (T rs : List Nat) (sd : Nat → Int32) (ss : Nat) (hT : isT T) (hs : rs <:+ T) (K : Nat → Nat) (ly : Int32) (y mo d t : Nat) (hy : y < 10000) (hmo : mo < 12) (hd : d < 100) (ht : t < 86400) (hc : (1970 ≤ y ∧ y ≤ 2099 ∧ 1 ≤ d ∧ d ≤ dys mo y)) : Kt l y_Da_time (yw y_Da_time b_Da_time 4 (some .long)) 1 21 0 0 D cls tys (fun A U H => rdF ra T A U H ∧ gF K A U H) [.ref h] (rdW tc 3 h ra sa [.int (ly), .int (nI y), .int (nI mo), .int (nI d), .int (nI t)] T rs sd ss) (fun r w => r = some (.long (lN (86400 * (dbf y + (d - 1) + mdb y mo) + t))) ∧ w = (rdW tc 3 h ra sa [.int (ly), .int (nI y), .int (nI mo), .int (nI d), .int (nI t)] T rs sd ss)) := sorry
/-! THE CLASS: Dates, its forms and fields, by program (wip/whole/gen/p69.py) -/
theorem sb_t {α : Type} {b : Bool × List Nat} {f : List Nat → Option α} (h : b.1 = true) : sb b f = f b.2 := sorry
theorem sb_f {α : Type} {b : Bool × List Nat} {f : List Nat → Option α} (h : b.1 = false) : sb b f = none := sorry
theorem sn_v {α : Type} {v : Option (Nat × List Nat)} {u : Nat × List Nat} {f : Nat → List Nat → Option α} (h : v = some u) : sn v f = f u.1 u.2 := sorry
theorem sn_o {α : Type} {v : Option (Nat × List Nat)} {f : Nat → List Nat → Option α} (h : v = none) : sn v f = none := sorry
theorem dgO_s {k v : Nat} {r : List Nat} (h : (dgs k 0 r).1 = some v) : dgO k r = some (v, (dgs k 0 r).2) := sorry
theorem dgO_n {k : Nat} {r : List Nat} (h : (dgs k 0 r).1 = none) : dgO k r = none := sorry
theorem nmO_s {W : List Nat} {v : Nat} {r : List Nat} (h : (nmAt W r).1 = some v) : nmO W r = some (v, (nmAt W r).2) := sorry
theorem nmO_n {W r : List Nat} (h : (nmAt W r).1 = none) : nmO W r = none := sorry
theorem so_t {v : Option Nat} (h : ¬ bI v.isSome = 0) : ∃ a, v = some a := sorry
theorem so_f {v : Option Nat} (h : bI v.isSome = 0) : v = none := sorry
theorem sp_t {v : Option (Nat × List Nat)} (h : ¬ bI v.isSome = 0) : ∃ a, v = some a := sorry
theorem sp_f {v : Option (Nat × List Nat)} (h : bI v.isSome = 0) : v = none := sorry
set_option maxRecDepth 100000 in
set_option maxHeartbeats 4000000 in
theorem c_Da_takeCommaForm (l : Launch) (D : va_G) (tys : List (ClassId × FieldType)) (tc : Nat → ClassId) (hty : ∀ i : Nat, i < 4 → tys[i]? = some (tc i, vx_ty i)) (h ra sa : Nat) (T rs : List Nat) (sd : Nat → Int32) (ss : Nat) (hT : isT T) (hs : rs <:+ T) (K : Nat → Nat) (ly y0 mo0 d0 s0 : Int32) : Kt l y_Da_takeCommaForm (yw y_Da_takeCommaForm b_Da_takeCommaForm 2 (some .boolean)) 6 128 0 0 D cls tys (fun A U H => rdF ra T A U H ∧ gF K A U H) [.ref h] (rdW tc 3 h ra sa [.int (ly), .int (y0), .int (mo0), .int (d0), .int (s0)] T rs sd ss) (fun r w => r = some (.int (bI (fC rs).isSome)) ∧ ∃ y2 mo2 d2 s2 rs2, w = (rdW tc 3 h ra sa [.int (ly), .int (y2), .int (mo2), .int (d2), .int (s2)] T rs2 sd ss) ∧ rs2 <:+ T ∧ ∀ u, fC rs = some u → y2 = nI u.1.1 ∧ mo2 = nI u.1.2.1 ∧ d2 = nI u.1.2.2.1 ∧ s2 = nI u.1.2.2.2 ∧ rs2 = u.2) := sorry
set_option maxRecDepth 100000 in
set_option maxHeartbeats 4000000 in
theorem c_Da_takeDashForm (l : Launch) (D : va_G) (tys : List (ClassId × FieldType)) (tc : Nat → ClassId) (hty : ∀ i : Nat, i < 4 → tys[i]? = some (tc i, vx_ty i)) (h ra sa : Nat) (T rs : List Nat) (sd : Nat → Int32) (ss : Nat) (hT : isT T) (hs : rs <:+ T) (K : Nat → Nat) (lyn : Nat) (hly : lyn < 10000) (y0 mo0 d0 s0 : Int32) : Kt l y_Da_takeDashForm (yw y_Da_takeDashForm b_Da_takeDashForm 2 (some .boolean)) 6 128 0 0 D cls tys (fun A U H => rdF ra T A U H ∧ gF K A U H) [.ref h] (rdW tc 3 h ra sa [.int (nI lyn), .int (y0), .int (mo0), .int (d0), .int (s0)] T rs sd ss) (fun r w => r = some (.int (bI (fD lyn rs).isSome)) ∧ ∃ y2 mo2 d2 s2 rs2, w = (rdW tc 3 h ra sa [.int (nI lyn), .int (y2), .int (mo2), .int (d2), .int (s2)] T rs2 sd ss) ∧ rs2 <:+ T ∧ ∀ u, fD lyn rs = some u → y2 = nI u.1.1 ∧ mo2 = nI u.1.2.1 ∧ d2 = nI u.1.2.2.1 ∧ s2 = nI u.1.2.2.2 ∧ rs2 = u.2) := sorry
set_option maxRecDepth 100000 in
set_option maxHeartbeats 4000000 in
theorem c_Da_takeSpaceForm (l : Launch) (D : va_G) (tys : List (ClassId × FieldType)) (tc : Nat → ClassId) (hty : ∀ i : Nat, i < 4 → tys[i]? = some (tc i, vx_ty i)) (h ra sa : Nat) (T rs : List Nat) (sd : Nat → Int32) (ss : Nat) (hT : isT T) (hs : rs <:+ T) (K : Nat → Nat) (ly y0 mo0 d0 s0 : Int32) : Kt l y_Da_takeSpaceForm (yw y_Da_takeSpaceForm b_Da_takeSpaceForm 2 (some .boolean)) 6 128 0 0 D cls tys (fun A U H => rdF ra T A U H ∧ gF K A U H) [.ref h] (rdW tc 3 h ra sa [.int (ly), .int (y0), .int (mo0), .int (d0), .int (s0)] T rs sd ss) (fun r w => r = some (.int (bI (fS rs).isSome)) ∧ ∃ y2 mo2 d2 s2 rs2, w = (rdW tc 3 h ra sa [.int (ly), .int (y2), .int (mo2), .int (d2), .int (s2)] T rs2 sd ss) ∧ rs2 <:+ T ∧ ∀ u, fS rs = some u → y2 = nI u.1.1 ∧ mo2 = nI u.1.2.1 ∧ d2 = nI u.1.2.2.1 ∧ s2 = nI u.1.2.2.2 ∧ rs2 = u.2) := sorry
/-! THE CLASS: worlds with more cells; ranges, by program (wip/whole/gen/p70.py) -/
theorem rot_idx {α : Type} {a b : List α} {k : Nat} {q : α} (h : (b ++ a)[k]? = some q) : (a ++ b)[if k < b.length then a.length + k else k - b.length]? = some q := sorry
section
variable {p : Program} {l : Launch} {e : Env} {R : Room} {s : State} {m : MethodId} {args : Array Value} {below : List Frame} {meth : Method} {c : Code} {cc : ByteArray} {nL : Nat} {D : va_G} {cl : List vw_C} {tys : List (ClassId × FieldType)} {A : Nat → Prop} {tc : Nat → ClassId} {Q : State → Prop} {pc : Nat} {lv : wq_L} {st rest : List Value} {k n : Nat} {wa wb : va_W}
/-- the cells in another order -/
theorem Vx.rot (h : Vx p l e R s m args below meth c nL D cl A Q pc lv st (wb ++ wa) k n) : Vx p l e R s m args below meth c nL D cl A Q pc lv st (wa ++ wb) k n := sorry
variable {post : Option Value → va_W → Prop} {F : (Nat → Prop) → State → Heap → Prop} {ret : Option FieldType} {K : List Value → va_W → Nat → Nat → Prop} {x y y0 : MethodName} {bytes b0 : ByteArray} {maxL n0 index nA fr lo : Nat} {r0 : Option FieldType} {b : Nat} {As : List Value} {own C owner : String}
/-- an inherited method on a reader that has more cells -/
theorem ux_callN {ci h : Nat} {fs : List Value} {q1 : Nat × va_E} {wr : va_W} {rc : vw_C} (hC : Cx p s m args c cc nL own (yw y0 b0 n0 r0) D cls tys A tc) (hk : Kt l y (yw y bytes maxL ret) fr lo 0 0 D cls tys F (.ref h :: As) [(h, .inr (ci, fs)), q1] post) (hF : F A s s.heap) (cw : va_CU R s args own C owner index x y bytes maxL ret (yw y bytes maxL ret) { frames := fr, cells := 0, slots := 0, locals := lo } 0 0 nA) (h1 : cls[ci]? = some rc) (h2 : rc.1 = C) (isR : List Nat) (hR : isR.map (fun i => ((h, .inr (ci, fs)) :: q1 :: wr)[i]?) = wr.map some) (hn : va_nd isR = true) (hdis : ∀ i ∈ isR, i ∉ [0, 1]) (hlen : As.length = nA) (hst : st = As.reverse ++ .ref h :: rest) (hW : (rest.map fun v => v.category).sum ≤ 8) (hkn : k ≤ R.cells ∧ n ≤ R.slots)
    (kk : ∀ (r : Option Value) (w1 : va_W), post r w1 → K (r.toList ++ rest) (w1 ++ wr) k n) : vx_SX cc (Vx p l e R s m args below meth c nL D cls A Q) (.invokevirtual index) 3 st ((h, .inr (ci, fs)) :: q1 :: wr) k n K := sorry
end

/-! THE CLASS: Dates, a field's time, by program (wip/whole/gen/p71.py) -/
def rix (wd : Nat) : Nat := if wd = 2 then 7 else if wd = 3 then 8 else if wd = 4 then 9 else if wd = 6 then 10 else 11
theorem rix_ok {wd : Nat} (h : wd < 7) : ∃ q : String × Nat × String × List Nat, KLs[rix wd]? = some q ∧ q.2.2.2 = rstL wd := sorry
theorem rst_w {wd : Nat} : isW (rstL wd) := sorry
set_option maxRecDepth 100000 in
set_option maxHeartbeats 4000000 in
theorem c_Da_restOfName (l : Launch) (D : va_G) (tys : List (ClassId × FieldType)) (tc : Nat → ClassId) (hty : ∀ i : Nat, i < 4 → tys[i]? = some (tc i, vx_ty i)) (wd : Nat) (hwd : wd < 7) (K : Nat → Nat) : Kt l y_Da_restOfName (yw y_Da_restOfName b_Da_restOfName 1 (Option.some (Jvm.ClassFile.FieldType.object "java/lang/String"))) 0 0 0 0 D cls tys (gF K) [.int (nI wd)] [] (fun r w => r = some (.ref (K (rix wd))) ∧ w = []) := sorry
theorem cal_b {ly wd : Nat} {r : List Nat} {u : Dt} (hly : ly < 10000) (h : dtC ly wd r = some u) : u.1.1 < 10000 ∧ u.1.2.1 < 12 ∧ u.1.2.2.1 < 100 ∧ u.1.2.2.2 < 86400 := sorry
set_option maxRecDepth 100000 in
set_option maxHeartbeats 4000000 in
theorem c_Da_timeOf (l : Launch) (D : va_G) (tys : List (ClassId × FieldType)) (tc : Nat → ClassId) (hty : ∀ i : Nat, i < 4 → tys[i]? = some (tc i, vx_ty i)) (h ra sa : Nat) (z1 z2 : Int32) (sd : Nat → Int32) (ss : Nat) (q : Nat) (ro : Nat → Nat) (tx : Nat → List Nat) (hx : ∀ G, G < 8 → isT (tx G)) (K : Nat → Nat) (lyn : Nat) (hly : lyn < 10000) (y0 mo0 d0 s0 : Int32) (G : Nat) (hG : G < 8) : Kt l y_Da_timeOf (yw y_Da_timeOf b_Da_timeOf 5 (some .long)) 7 149 0 0 D cls tys (fun A U H => rqF q ro tx A U H ∧ rdF ra [] A U H ∧ gF K A U H) [.ref h, .ref q, .int (nI G)] [(h, .inr (3, [.ref ra, .int z1, .int z2, .ref sa, .int (nI ss), .int (nI lyn), .int (y0), .int (mo0), .int (d0), .int (s0)])), (sa, .inl (tc 0, 96, .inl sd))] (fun r w => r = some (.long (lI (dtO lyn (tx G)))) ∧ ∃ ra2 y1 y2 ss2 sd2 a2 b2 c2 e2, w = [(h, .inr (3, [.ref ra2, .int y1, .int y2, .ref sa, .int (nI ss2), .int (nI lyn), .int (a2), .int (b2), .int (c2), .int (e2)])), (sa, .inl (tc 0, 96, .inl sd2))] ∧ (ra2 = ra ∨ ra2 = ro G)) := sorry
/-! THE CLASS: Ranges, by program (wip/whole/gen/p72.py) -/
def raW (tc : Nat → ClassId) (h ra sa fa la : Nat) (T rs : List Nat) (sd : Nat → Int32) (ss : Nat) (sp kp : Int32) (f1 f2 : Nat → Int32) : va_W := [(h, .inr (4, [.ref ra, .int (nI T.length), .int (nI (T.length - rs.length)), .ref sa, .int (nI ss), .ref fa, .ref la, .int sp, .int kp])), (sa, .inl (tc 0, 96, .inl sd)), (fa, .inl (tc 0, 4, .inl f1)), (la, .inl (tc 0, 4, .inl f2))]
/-- the ranges that are kept -/
def kpA (f1 f2 : Nat → Int32) (kp : List (Nat × Nat)) : Prop := kp.length ≤ 4 ∧ ∀ i, i < kp.length → f1 i = nI (kp.getD i (0, 0)).1 ∧ f2 i = nI (kp.getD i (0, 0)).2 ∧ (kp.getD i (0, 0)).1 ≤ (kp.getD i (0, 0)).2 ∧ (kp.getD i (0, 0)).2 < 100000
def keepL (kp : List (Nat × Nat)) (v : Option (Nat × Nat)) : List (Nat × Nat) := match v with
  | none => kp
  | some v => if kp.length < 4 then kp ++ [v] else kp
theorem keepL_take {X : List (Nat × Nat)} {v : Option (Nat × Nat)} : keepL (X.take 4) v = (X ++ (match v with
    | none => []
    | some v => [v])).take 4 := sorry
theorem kpA_add {f1 f2 : Nat → Int32} {kp : List (Nat × Nat)} {v : Nat × Nat} (h : kpA f1 f2 kp) (h4 : kp.length < 4) (h1 : v.1 ≤ v.2) (h2 : v.2 < 100000) : kpA (upd f1 kp.length (nI v.1)) (upd f2 kp.length (nI v.2)) (kp ++ [v]) := sorry
theorem rsv_AB {n : Nat} {u : Option Nat × Option Nat} (hn : n ≤ 100000) (hA : rsA n u < 2 ^ 31) : (rsv n u = none → ¬ nI (rsA n u) ≤ iI (rsB n u)) ∧ ∀ v, rsv n u = some v → nI (rsA n u) = nI v.1 ∧ iI (rsB n u) = nI v.2 ∧ nI (rsA n u) ≤ iI (rsB n u) := sorry
theorem rsA_lt {n : Nat} {oa ob : Option Nat} (hn : n ≤ 100000) (ho : ∀ v, oa = some v → v ≤ 999999999) : rsA n (oa, ob) < 2 ^ 31 := sorry
set_option maxRecDepth 100000 in
set_option maxHeartbeats 4000000 in
theorem c_Ra_keep (l : Launch) (D : va_G) (tys : List (ClassId × FieldType)) (tc : Nat → ClassId) (hty : ∀ i : Nat, i < 4 → tys[i]? = some (tc i, vx_ty i)) (h ra sa fa la : Nat) (T rs : List Nat) (sd : Nat → Int32) (ss : Nat) (hT : isT T) (hs : rs <:+ T) (K : Nat → Nat) (sp : Int32) (kp : List (Nat × Nat)) (f1 f2 : Nat → Int32) (hkp : kpA f1 f2 kp) (A B : Int32) (va : Option (Nat × Nat)) (hab : ∀ v, va = some v → v.1 < 2 ^ 31) (hv : (va = none → ¬ A ≤ B) ∧ ∀ v, va = some v → A = nI v.1 ∧ B = nI v.2 ∧ A ≤ B ∧ v.2 < 100000) : Kt l y_Ra_keep (yw y_Ra_keep b_Ra_keep 3 none) 0 0 0 0 D cls tys (fun A U H => rdF ra T A U H ∧ gF K A U H) [.ref h, .int A, .int B] (raW tc h ra sa fa la T rs sd ss (sp) (nI kp.length) f1 f2) (fun r w => r = none ∧ ∃ g1 g2, w = (raW tc h ra sa fa la T rs sd ss (sp) (nI (keepL kp va).length) g1 g2) ∧ kpA g1 g2 (keepL kp va)) := sorry
set_option maxRecDepth 100000 in
set_option maxHeartbeats 4000000 in
theorem c_Ra_overlap (l : Launch) (D : va_G) (tys : List (ClassId × FieldType)) (tc : Nat → ClassId) (hty : ∀ i : Nat, i < 4 → tys[i]? = some (tc i, vx_ty i)) (h ra sa fa la : Nat) (T rs : List Nat) (sd : Nat → Int32) (ss : Nat) (hT : isT T) (hs : rs <:+ T) (K : Nat → Nat) (sp : Int32) (kp : List (Nat × Nat)) (f1 f2 : Nat → Int32) (hkp : kpA f1 f2 kp) : Kt l y_Ra_overlap (yw y_Ra_overlap b_Ra_overlap 3 (some .boolean)) 0 0 0 0 D cls tys (fun A U H => rdF ra T A U H ∧ gF K A U H) [.ref h] (raW tc h ra sa fa la T rs sd ss (sp) (nI kp.length) f1 f2) (fun r w => r = some (.int (bI (ovl kp))) ∧ w = (raW tc h ra sa fa la T rs sd ss (sp) (nI kp.length) f1 f2)) := sorry
/-! THE CLASS: Ranges, its field, by program (wip/whole/gen/p73.py) -/
theorem maxA {n : Nat} {ob : Option Nat} (hn : n ≤ 100000) (ho : ∀ v, ob = some v → v ≤ 999999999) : (if (0 : Int32) < nI n - iI ob then nI n - iI ob else 0) = nI (rsA n (none, ob)) := sorry
theorem minB {n a q : Nat} (hn : n ≤ 100000) (hq : q ≤ 999999999) : (if nI n - 1 < nI q then nI n - 1 else nI q) = iI (rsB n (some a, some q)) := sorry
section
variable {p : Program} {l : Launch} {e : Env} {R : Room} {s : State} {m : MethodId} {args : Array Value} {below : List Frame} {meth : Method} {c : Code} {cc : ByteArray} {nL : Nat} {D : va_G} {tys : List (ClassId × FieldType)} {A : Nat → Prop} {tc : Nat → ClassId} {Q : State → Prop} {st rest : List Value} {k n : Nat} {post : Option Value → va_W → Prop} {F : (Nat → Prop) → State → Heap → Prop} {ret : Option FieldType} {K : List Value → va_W → Nat → Nat → Prop} {y y0 : MethodName} {bytes b0 : ByteArray} {maxL n0 index nA fr lo : Nat} {r0 : Option FieldType} {b : Nat} {As : List Value} {own C : String}
theorem ox_call4 {ci h : Nat} {fs : List Value} {q1 q2 q3 : Nat × va_E} {rc : vw_C} (hC : Cx p s m args c cc nL own (yw y0 b0 n0 r0) D cls tys A tc) (hk : Kt l y (yw y bytes maxL ret) fr lo 0 0 D cls tys F (.ref h :: As) [(h, .inr (ci, fs)), q1, q2, q3] post) (hF : F A s s.heap) (cw : CallW R s args own C index y bytes maxL ret (yw y bytes maxL ret) { frames := fr, cells := 0, slots := 0, locals := lo } 0 0 nA) (h1 : cls[ci]? = some rc) (h2 : rc.1 = C) (hlen : As.length = nA) (hst : st = As.reverse ++ .ref h :: rest) (hW : (rest.map fun v => v.category).sum ≤ 8) (hkn : k ≤ R.cells ∧ n ≤ R.slots)
    (kk : ∀ (r : Option Value) (w1 : va_W), post r w1 → K (r.toList ++ rest) w1 k n) : vx_SX cc (Vx p l e R s m args below meth c nL D cls A Q) (.invokevirtual index) 3 st [(h, .inr (ci, fs)), q1, q2, q3] k n K := sorry
end
set_option maxRecDepth 100000 in
set_option maxHeartbeats 4000000 in
theorem c_Ra_readSpec (l : Launch) (D : va_G) (tys : List (ClassId × FieldType)) (tc : Nat → ClassId) (hty : ∀ i : Nat, i < 4 → tys[i]? = some (tc i, vx_ty i)) (h ra sa fa la : Nat) (T rs : List Nat) (sd : Nat → Int32) (ss : Nat) (hT : isT T) (hs : rs <:+ T) (K : Nat → Nat) (sp : Int32) (kp : List (Nat × Nat)) (f1 f2 : Nat → Int32) (hkp : kpA f1 f2 kp) (sz : Nat) (hsz : sz ≤ 100000) : Kt l y_Ra_readSpec (yw y_Ra_readSpec b_Ra_readSpec 4 (some .boolean)) 2 42 0 0 D cls tys (fun A U H => rdF ra T A U H ∧ gF K A U H) [.ref h, .int (nI sz)] (raW tc h ra sa fa la T rs sd ss (sp) (nI kp.length) f1 f2) (fun r w => r = some (.int (bI (spc rs).isSome)) ∧ ∃ rs2 kp2 g1 g2, w = (raW tc h ra sa fa la T rs2 sd ss (sp) (nI kp2.length) g1 g2) ∧ rs2 <:+ T ∧ kpA g1 g2 kp2 ∧ ∀ u, spc rs = some u → rs2 = u.2 ∧ kp2 = keepL kp (rsv sz u.1)) := sorry
set_option maxRecDepth 100000 in
set_option maxHeartbeats 4000000 in
theorem c_Ra_read (l : Launch) (D : va_G) (tys : List (ClassId × FieldType)) (tc : Nat → ClassId) (hty : ∀ i : Nat, i < 4 → tys[i]? = some (tc i, vx_ty i)) (h ra sa fa la : Nat) (z1 z2 : Int32) (sd : Nat → Int32) (ss : Nat) (q : Nat) (ro : Nat → Nat) (tx : Nat → List Nat) (hx : ∀ G, G < 8 → isT (tx G)) (K : Nat → Nat) (s0 k0 : Int32) (f1 f2 : Nat → Int32) (sz : Nat) (hsz : sz ≤ 100000) : Kt l y_Ra_read (yw y_Ra_read b_Ra_read 3 (some .boolean)) 5 107 0 0 D cls tys (fun A U H => rqF q ro tx A U H ∧ rdF ra [] A U H ∧ gF K A U H) [.ref h, .ref q, .int (nI sz)] [(h, .inr (4, [.ref ra, .int z1, .int z2, .ref sa, .int (nI ss), .ref fa, .ref la, .int s0, .int k0])), (sa, .inl (tc 0, 96, .inl sd)), (fa, .inl (tc 0, 4, .inl f1)), (la, .inl (tc 0, 4, .inl f2))] (fun r w => r = some (.int (bI (rngL (tx 7)).isSome)) ∧ ∃ ra2 y1 y2 ss2 sd2 sp2 kp2 g1 g2, w = [(h, .inr (4, [.ref ra2, .int y1, .int y2, .ref sa, .int (nI ss2), .ref fa, .ref la, .int sp2, .int (nI kp2.length)])), (sa, .inl (tc 0, 96, .inl sd2)), (fa, .inl (tc 0, 4, .inl g1)), (la, .inl (tc 0, 4, .inl g2))] ∧ (ra2 = ra ∨ ra2 = ro 7) ∧ kpA g1 g2 kp2 ∧ ∀ L, (rngL (tx 7)) = some L → sp2 = nI L.length ∧ L.length ≤ 96 ∧ kp2 = (L.filterMap (rsv sz)).take 4) := sorry
/-! THE CLASS: the request, by program (wip/whole/gen/p74.py) -/
theorem cb_cls (v : BitVec 64) (q : Nat) : (v >>> q).setWidth 32 &&& BitVec.ofNat 32 255 = BitVec.ofNat 32 ((v.toNat >>> q) % 256) := sorry
theorem cb_c {ch : Int64} {k : Nat} (h : k < 8) : ((ch.toUInt64 >>> ((((8 : Int32) * nI k).toInt64).toUInt64 &&& Int64.toUInt64 63)).toInt64.toInt32 &&& 255) = nI (cb ch k) := sorry
/-- the request's cells: its sizes, its texts -/
def rqW (tc : Nat → ClassId) (tcA : ClassId) (q za ta : Nat) (ro : Nat → Nat) (me : Int32) (zs : Nat → Int32) (rw9 : Nat → Nat → Int32) : va_W := [(q, .inr (5, [.int me, .ref ta, .ref za])), (za, .inl (tc 0, 8, .inl zs)), (ta, .inl (tcA, 8, .inr (.inr (.inr (.inr (fun G => some (ro G))))))), (ro 0, .inl (tc 0, 96, .inl (rw9 0))), (ro 1, .inl (tc 0, 96, .inl (rw9 1))), (ro 2, .inl (tc 0, 96, .inl (rw9 2))), (ro 3, .inl (tc 0, 96, .inl (rw9 3))), (ro 4, .inl (tc 0, 96, .inl (rw9 4))), (ro 5, .inl (tc 0, 96, .inl (rw9 5))), (ro 6, .inl (tc 0, 96, .inl (rw9 6))), (ro 7, .inl (tc 0, 96, .inl (rw9 7)))]
def rqA (zs : Nat → Int32) (rw9 : Nat → Nat → Int32) (tx : Nat → List Nat) : Prop := ∀ G, G < 8 → zs G = nI (tx G).length ∧ isT (tx G) ∧ ∀ j, j < (tx G).length → rw9 G j = nI ((tx G).getD j 0)
set_option maxRecDepth 100000 in
set_option maxHeartbeats 4000000 in
theorem c_Rq_characterOf (l : Launch) (D : va_G) (tys : List (ClassId × FieldType)) (tc : Nat → ClassId) (hty : ∀ i : Nat, i < 4 → tys[i]? = some (tc i, vx_ty i)) (ch : Int64) (k : Nat) (hk : k < 8) : Kt l y_Rq_characterOf (yw y_Rq_characterOf b_Rq_characterOf 3 (some .int)) 0 0 0 0 D cls tys (fun _ _ _ => True) [.long ch, .int (nI k)] [] (fun r w => r = some (.int (nI (cb ch k))) ∧ w = []) := sorry
set_option maxRecDepth 100000 in
set_option maxHeartbeats 4000000 in
theorem c_Rq_countOf (l : Launch) (D : va_G) (tys : List (ClassId × FieldType)) (tc : Nat → ClassId) (hty : ∀ i : Nat, i < 4 → tys[i]? = some (tc i, vx_ty i)) (ch : Int64) : Kt l y_Rq_countOf (yw y_Rq_countOf b_Rq_countOf 3 (some .int)) 1 22 0 0 D cls tys (fun _ _ _ => True) [.long ch] [] (fun r w => r = some (.int (nI (chL ch).length)) ∧ w = []) := sorry
set_option maxRecDepth 100000 in
set_option maxHeartbeats 4000000 in
theorem c_Rq_restart (l : Launch) (D : va_G) (tys : List (ClassId × FieldType)) (tc : Nat → ClassId) (hty : ∀ i : Nat, i < 4 → tys[i]? = some (tc i, vx_ty i)) (q ta za : Nat) (me mt : Int32) (zs : Nat → Int32) : Kt l y_Rq_restart (yw y_Rq_restart b_Rq_restart 3 none) 0 0 0 0 D cls tys (fun _ _ _ => True) [.ref q, .int mt] [(q, .inr (5, [.int me, .ref ta, .ref za])), (za, .inl (tc 0, 8, .inl zs))] (fun r w => r = none ∧ ∃ z2, w = [(q, .inr (5, [.int mt, .ref ta, .ref za])), (za, .inl (tc 0, 8, .inl z2))] ∧ ∀ j, j < 8 → z2 j = nI 0) := sorry
end
section
/-! STEPS: arrays and objects are made, references are read, a stretch is copied (wip/whole/gen/p75.py) -/
section
variable {p : Program} {l : Launch} {e : Env} {R : Room} {s : State} {m : MethodId} {args : Array Value} {below : List Frame} {meth : Method} {c : Code} {cc : ByteArray} {nL : Nat} {D : va_G} {tys : List (ClassId × FieldType)} {A : Nat → Prop} {tc : Nat → ClassId} {Q : State → Prop} {st rest : List Value} {k n : Nat} {K : List Value → va_W → Nat → Nat → Prop} {y0 : MethodName} {b0 : ByteArray} {n0 index : Nat} {r0 : Option FieldType} {own : String} {ws : va_W}
theorem sx_aaO {cA : ClassId} {ty : FieldType} {a N : Nat} {f : Nat → Option Nat} {Ts : List Cond} (hC : Cx p s m args c cc nL own Ts D cls tys A tc) (q0 t0 : Nat) (ha : ws[q0]? = some (a, .inl (cA, N, .inr (.inr (.inr (.inr f)))))) (ht : tys[t0]? = some (cA, ty)) (hr : ty.isReference = true) {i : Int32} (hin : vp_in i N) {v : Value} (hv : va_rf (f i.toNatClampNeg) = v) (kk : K (v :: rest) ws k n) : vx_SX cc (Vx p l e R s m args below meth c nL D cls A Q) .aaload 1 (.int i :: .ref a :: rest) ws k n K := sorry
theorem sx_iastO {a N : Nat} {f : Nat → Int32} {Ts : List Cond} (hC : Cx p s m args c cc nL own Ts D cls tys A tc) (q0 : Nat) (ha : ws[q0]? = some (a, .inl (tc 0, N, .inl f))) {i x : Int32} (hin : vp_in i N) (kk : K rest (ws.set q0 (a, .inl (tc 0, N, .inl (upd f i.toNatClampNeg x)))) k n) : vx_SX cc (Vx p l e R s m args below meth c nL D cls A Q) .iastore 1 (.int x :: .int i :: .ref a :: rest) ws k n K := sorry
/-- a new array of ints, bytes or booleans (y: its place among the types) -/
theorem sx_newI (hC : Cx p s m args c cc nL own (yw y0 b0 n0 r0) D cls tys A tc) {at_ : ArrayType} {y N : Nat} {n9 : Int32} (hy : y < 4) (e1 : newarray.typeOf at_ = vx_ty y) (hw : Cond.arrayClass (newarray.typeOf at_) ∈ gw) (hd : defaultValue (vx_ty y) = .int 0) (hnp : va_RA s (tc y) (vx_ty y) → s.vm.findClass ("[" ++ (vx_ty y).toString) = some (tc y)) (hn : n9 = nI N) (hN : N < 2 ^ 20) (hby : N * componentBytes (newarray.typeOf at_) ≤ 536870912) (hk : k + 1 ≤ R.cells ∧ n + N ≤ R.slots)
    (kk : ∀ q : Nat, K (.ref q :: rest) (ws ++ [(q, .inl (tc y, N, .inl (fun _ => 0)))]) (k + 1) (n + N)) : vx_SX cc (Vx p l e R s m args below meth c nL D cls A Q) (.newarray at_) 2 (.int n9 :: rest) ws k n K := sorry
theorem sx_newL (hC : Cx p s m args c cc nL own (yw y0 b0 n0 r0) D cls tys A tc) {N : Nat} {n9 : Int32} (hw : Cond.arrayClass (newarray.typeOf .long) ∈ gw) (hn : n9 = nI N) (hN : N < 2 ^ 20) (hk : k + 1 ≤ R.cells ∧ n + N ≤ R.slots)
    (kk : ∀ q : Nat, K (.ref q :: rest) (ws ++ [(q, .inl (tc 2, N, .inr (.inl (fun _ => 0))))]) (k + 1) (n + N)) : vx_SX cc (Vx p l e R s m args below meth c nL D cls A Q) (.newarray .long) 2 (.int n9 :: rest) ws k n K := sorry
/-- a new object of class ci -/
theorem sx_new (hC : Cx p s m args c cc nL own (yw y0 b0 n0 r0) D cls tys A tc) {C : String} {T : u_T} {N ci : Nat} (hc : cls[ci]? = some (C, T, N)) (hcl : Cond.classLink own index C ∈ gw) (hinst : Cond.instantiable C N ∈ gw) (hini : Cond.initialized C ∈ gw) {fs : List Value} (hfs : ∀ j, j < N → defaultValue (cty ci j) = vp_V fs j) (hk : k + 1 ≤ R.cells ∧ n + N ≤ R.slots)
    (kk : ∀ q : Nat, K (.ref q :: rest) (ws ++ [(q, .inr (ci, fs))]) (k + 1) (n + N)) : vx_SX cc (Vx p l e R s m args below meth c nL D cls A Q) (.new index) 3 rest ws k n K := sorry
theorem wm_acp : Cond.native arraycopyName ∈ gw ∧ Cond.static arraycopyName ∈ gw ∧ Cond.initialized "java/lang/System" ∈ gw := sorry
/-- System.arraycopy between owned arrays of one primitive type -/
theorem sx_copy (hC : Cx p s m args c cc nL own (yw y0 b0 n0 r0) D cls tys A tc) (hli : Cond.methodLink own index arraycopyName ∈ gw) (q0 q1 y : Nat) (hy : y < 4) (hpr : refKind (vx_ty y) = false) {a0 a1 m0 m1 : Nat} {f g : Nat → Int32} (ha0 : ws[q0]? = some (a0, .inl (tc y, m0, .inl f))) (ha1 : ws[q1]? = some (a1, .inl (tc y, m1, .inl g))) {sp dp w : Nat} {sp9 dp9 w9 : Int32} (e1 : sp9 = nI sp) (e2 : dp9 = nI dp) (e3 : w9 = nI w) (h1 : sp + w ≤ m0 ∧ m0 < 2 ^ 31) (h2 : dp + w ≤ m1 ∧ m1 < 2 ^ 31) (hfit : ∀ i, i < w → fits (vx_ty y) (.int (f (sp + i))) = true) (hfr : 1 ≤ R.frames) (hlo : (rest.map fun v => v.category).sum + (nativeFrameWords "java/lang/System" "arraycopy" 5 + 11) ≤ R.locals)
    (kk : K rest (ws.set q1 (a1, .inl (tc y, m1, .inl (va_cpy f g sp dp w)))) k n) : vx_SX cc (Vx p l e R s m args below meth c nL D cls A Q) (.invokestatic index) 3 (.int w9 :: .int dp9 :: .ref a1 :: .int sp9 :: .ref a0 :: rest) ws k n K := sorry
/-- System.arraycopy from bytes that are only read -/
theorem sx_copyT (hC : Cx p s m args c cc nL own (yw y0 b0 n0 r0) D cls tys A tc) (hli : Cond.methodLink own index arraycopyName ∈ gw) (q1 : Nat) {a0 a1 m0 m1 : Nat} {f g : Nat → Int32} (hX : va_T .byte a0 m0 (fun j => .int (f j)) A s s.heap) (ha1 : ws[q1]? = some (a1, .inl (tc 1, m1, .inl g))) {sp dp w : Nat} {sp9 dp9 w9 : Int32} (e1 : sp9 = nI sp) (e2 : dp9 = nI dp) (e3 : w9 = nI w) (h1 : sp + w ≤ m0 ∧ m0 < 2 ^ 31) (h2 : dp + w ≤ m1 ∧ m1 < 2 ^ 31) (hfit : ∀ i, i < w → fits .byte (.int (f (sp + i))) = true) (hfr : 1 ≤ R.frames) (hlo : (rest.map fun v => v.category).sum + (nativeFrameWords "java/lang/System" "arraycopy" 5 + 11) ≤ R.locals)
    (kk : K rest (ws.set q1 (a1, .inl (tc 1, m1, .inl (va_cpy f g sp dp w)))) k n) : vx_SX cc (Vx p l e R s m args below meth c nL D cls A Q) (.invokestatic index) 3 (.int w9 :: .int dp9 :: .ref a1 :: .int sp9 :: .ref a0 :: rest) ws k n K := sorry
end
end
section
/-! THE CLASS: a request is fed, by program (wip/whole/gen/p76.py) -/
def rwU (rw9 : Nat → Nat → Int32) (G : Nat) (f : Nat → Int32) : Nat → Nat → Int32 := fun g => if g = G then f else rw9 g
section
variable {tc : Nat → ClassId} {tcA : ClassId} {q za ta : Nat} {ro : Nat → Nat} {me : Int32} {zs : Nat → Int32} {rw9 : Nat → Nat → Int32} {G : Nat} {f : Nat → Int32}
theorem rqW_at (h : G < 8) : (rqW tc tcA q za ta ro me zs rw9)[3 + G]? = some (ro G, .inl (tc 0, 96, .inl (rw9 G))) := sorry
theorem rqW_set (h : G < 8) : (rqW tc tcA q za ta ro me zs rw9).set (3 + G) (ro G, .inl (tc 0, 96, .inl f)) = rqW tc tcA q za ta ro me zs (rwU rw9 G f) := sorry
theorem rwU_rwU {g : Nat → Int32} : rwU (rwU rw9 G f) G g = rwU rw9 G g := sorry
theorem rwU_id : rwU rw9 G (rw9 G) = rw9 := sorry
theorem rwU_eq : rwU rw9 G f G = f := sorry
end
theorem rqA_app {zs : Nat → Int32} {rw9 : Nat → Nat → Int32} {tx : Nat → List Nat} {G : Nat} {ch : Int64} {f : Nat → Int32} (h : rqA zs rw9 tx) (hG : G < 8) (hl : (tx G).length + (chL ch).length ≤ 96) (h1 : ∀ j, j < (tx G).length → f j = rw9 G j) (h2 : ∀ i, i < (chL ch).length → f ((tx G).length + i) = nI (cb ch i)) : rqA (upd zs G (nI ((tx G).length + (chL ch).length))) (rwU rw9 G f) (txU tx (nI G) ch) := sorry
theorem nI_lt8 {fd : Int32} (h0 : ¬ fd < 0) (h : fd < 8) : ∃ G : Nat, G < 8 ∧ fd = nI G := sorry
set_option maxRecDepth 100000 in
set_option maxHeartbeats 4000000 in
theorem c_Rq_append (l : Launch) (D : va_G) (tys : List (ClassId × FieldType)) (tc : Nat → ClassId) (hty : ∀ i : Nat, i < 4 → tys[i]? = some (tc i, vx_ty i)) (tcA : ClassId) (htA : tys[5]? = some (tcA, .array .int)) (q za ta : Nat) (ro : Nat → Nat) (me : Int32) (zs : Nat → Int32) (rw9 : Nat → Nat → Int32) (tx : Nat → List Nat) (hA : rqA zs rw9 tx) (fd : Int32) (ch : Int64) : Kt l y_Rq_append (yw y_Rq_append b_Rq_append 7 (some .int)) 2 44 0 0 D cls tys (fun _ _ _ => True) [.ref q, .int fd, .long ch] (rqW tc tcA q za ta ro me zs rw9) (fun r w => r = some (.int (if fdB tx fd ch = true then nI ((tx fd.toNatClampNeg).length + (chL ch).length) else -1)) ∧ ∃ zs2 rw2, w = (rqW tc tcA q za ta ro me zs2 rw2) ∧ rqA zs2 rw2 (if fdB tx fd ch = true then txU tx fd ch else tx)) := sorry
end
section
/-! THE JDK's StringBuilder: lists and words, by program out of the Statement's bytes (wip/whole/gen/p77.py) -/
abbrev b_Sb_init1 : ByteArray := prog_22_method_1_code
def y_Sb_init1 : MethodName := ⟨"java/lang/StringBuilder", "<init>", "()V"⟩
def j_Sb_init1 : wq_J := [(.aload_n 0, (0, 0, 0, 0, 0)), (.bipush 16, (0, 0, 0, 16, 0)), (.invokespecial 1, (0, 0, 0, 0, 0)), (.return_, (0, 0, 0, 0, 0))]
theorem jc_Sb_init1 : wq_c b_Sb_init1 1 j_Sb_init1 0 = true := sorry
theorem wm_Sb_init1 : wm y_Sb_init1 b_Sb_init1 1 none 0 := sorry
theorem wi_Sb_init1 : Cond.instanceMethod y_Sb_init1 ∈ gw := sorry
abbrev b_Ab_init2 : ByteArray := prog_15_method_2_code
def y_Ab_init2 : MethodName := ⟨"java/lang/AbstractStringBuilder", "<init>", "(I)V"⟩
def j_Ab_init2 : wq_J := [(.aload_n 0, (0, 0, 0, 0, 0)), (.invokespecial 3, (0, 0, 0, 0, 0)), (.getstatic 18, (2, 0, 0, 0, 0)), (.ifCond .eq 18, (0, 25, 0, 0, 0)), (.aload_n 0, (0, 0, 0, 0, 0)), (.iload_n 1, (0, 0, 0, 0, 0)), (.newarray .byte, (0, 0, 0, 0, 0)), (.putfield 15, (1, 0, 0, 0, 0)), (.aload_n 0, (0, 0, 0, 0, 0)), (.iconst 0, (0, 0, 0, 0, 0)), (.putfield 22, (1, 0, 1, 0, 0)), (.goto 16, (0, 38, 0, 0, 0)), (.aload_n 0, (0, 0, 0, 0, 0)), (.iload_n 1, (0, 0, 0, 0, 0)), (.invokestatic 26, (0, 0, 0, 0, 0)), (.putfield 15, (1, 0, 0, 0, 0)), (.aload_n 0, (0, 0, 0, 0, 0)), (.iconst 1, (0, 0, 0, 1, 0)), (.putfield 22, (1, 0, 1, 0, 0)), (.return_, (0, 0, 0, 0, 0))]
theorem jc_Ab_init2 : wq_c b_Ab_init2 2 j_Ab_init2 0 = true := sorry
theorem wm_Ab_init2 : wm y_Ab_init2 b_Ab_init2 2 none 1 := sorry
theorem wi_Ab_init2 : Cond.instanceMethod y_Ab_init2 ∈ gw := sorry
abbrev b_Sb_append14 : ByteArray := prog_22_method_14_code
def y_Sb_append14 : MethodName := ⟨"java/lang/StringBuilder", "append", "(C)Ljava/lang/StringBuilder;"⟩
def j_Sb_append14 : wq_J := [(.aload_n 0, (0, 0, 0, 0, 0)), (.iload_n 1, (0, 0, 0, 0, 0)), (.invokespecial 50, (0, 0, 0, 0, 0)), (.pop, (0, 0, 0, 0, 0)), (.aload_n 0, (0, 0, 0, 0, 0)), (.areturn, (0, 0, 0, 0, 0))]
theorem jc_Sb_append14 : wq_c b_Sb_append14 2 j_Sb_append14 0 = true := sorry
theorem wm_Sb_append14 : wm y_Sb_append14 b_Sb_append14 2 (some (.object "java/lang/StringBuilder")) 1 := sorry
theorem wi_Sb_append14 : Cond.instanceMethod y_Sb_append14 ∈ gw := sorry
theorem ws_Sb_Sb_append14 : Cond.selects "java/lang/StringBuilder" y_Sb_append14 y_Sb_append14 ∈ gw := sorry
abbrev b_Ab_append31 : ByteArray := prog_15_method_31_code
def y_Ab_append31 : MethodName := ⟨"java/lang/AbstractStringBuilder", "append", "(C)Ljava/lang/AbstractStringBuilder;"⟩
def j_Ab_append31 : wq_J := [(.aload_n 0, (0, 0, 0, 0, 0)), (.aload_n 0, (0, 0, 0, 0, 0)), (.getfield 79, (1, 0, 3, 0, 0)), (.iconst 1, (0, 0, 0, 1, 0)), (.iadd, (0, 0, 0, 0, 0)), (.invokevirtual 100, (0, 0, 0, 0, 0)), (.aload_n 0, (0, 0, 0, 0, 0)), (.invokevirtual 83, (0, 0, 0, 0, 0)), (.ifCond .eq 31, (0, 45, 0, 0, 0)), (.iload_n 1, (0, 0, 0, 0, 0)), (.invokestatic 191, (0, 0, 0, 0, 0)), (.ifCond .eq 24, (0, 45, 0, 0, 0)), (.aload_n 0, (0, 0, 0, 0, 0)), (.getfield 15, (1, 0, 0, 0, 0)), (.aload_n 0, (0, 0, 0, 0, 0)), (.dup, (0, 0, 0, 0, 0)), (.getfield 79, (1, 0, 3, 0, 0)), (.dup_x1, (0, 0, 0, 0, 0)), (.iconst 1, (0, 0, 0, 1, 0)), (.iadd, (0, 0, 0, 0, 0)), (.putfield 79, (1, 0, 3, 0, 0)), (.iload_n 1, (0, 0, 0, 0, 0)), (.i2b, (0, 0, 0, 0, 0)), (.bastore, (1, 1, 0, 0, 0)), (.goto 33, (0, 75, 0, 0, 0)), (.aload_n 0, (0, 0, 0, 0, 0)), (.invokevirtual 83, (0, 0, 0, 0, 0)), (.ifCond .eq 7, (0, 56, 0, 0, 0)), (.aload_n 0, (0, 0, 0, 0, 0)), (.invokevirtual 195, (0, 0, 0, 0, 0)), (.aload_n 0, (0, 0, 0, 0, 0)), (.getfield 15, (1, 0, 0, 0, 0)), (.aload_n 0, (0, 0, 0, 0, 0)), (.dup, (0, 0, 0, 0, 0)), (.getfield 79, (1, 0, 3, 0, 0)), (.dup_x1, (0, 0, 0, 0, 0)), (.iconst 1, (0, 0, 0, 1, 0)), (.iadd, (0, 0, 0, 0, 0)), (.putfield 79, (1, 0, 3, 0, 0)), (.iload_n 1, (0, 0, 0, 0, 0)), (.invokestatic 197, (0, 0, 0, 0, 0)), (.aload_n 0, (0, 0, 0, 0, 0)), (.areturn, (0, 0, 0, 0, 0))]
theorem jc_Ab_append31 : wq_c b_Ab_append31 2 j_Ab_append31 0 = true := sorry
theorem wm_Ab_append31 : wm y_Ab_append31 b_Ab_append31 2 (some (.object "java/lang/AbstractStringBuilder")) 1 := sorry
theorem wi_Ab_append31 : Cond.instanceMethod y_Ab_append31 ∈ gw := sorry
theorem wsm_Ab_append31 : Cond.sameMethod y_Ab_append31.cls y_Ab_append31.cls y_Ab_append31.name y_Ab_append31.desc ∈ gw := sorry
abbrev b_Ab_ensureCapacityInternal9 : ByteArray := prog_15_method_9_code
def y_Ab_ensureCapacityInternal9 : MethodName := ⟨"java/lang/AbstractStringBuilder", "ensureCapacityInternal", "(I)V"⟩
def j_Ab_ensureCapacityInternal9 : wq_J := [(.aload_n 0, (0, 0, 0, 0, 0)), (.getfield 15, (1, 0, 0, 0, 0)), (.arraylength, (1, 1, 0, 0, 0)), (.aload_n 0, (0, 0, 0, 0, 0)), (.getfield 22, (1, 0, 1, 0, 0)), (.ishr, (0, 0, 0, 0, 0)), (.istore_n 2, (0, 0, 0, 0, 0)), (.iload_n 1, (0, 0, 0, 0, 0)), (.iload_n 2, (0, 0, 0, 0, 0)), (.isub, (0, 0, 0, 0, 0)), (.ifCond .le 24, (0, 38, 0, 0, 0)), (.aload_n 0, (0, 0, 0, 0, 0)), (.aload_n 0, (0, 0, 0, 0, 0)), (.getfield 15, (1, 0, 0, 0, 0)), (.aload_n 0, (0, 0, 0, 0, 0)), (.iload_n 1, (0, 0, 0, 0, 0)), (.invokevirtual 104, (0, 0, 0, 0, 0)), (.aload_n 0, (0, 0, 0, 0, 0)), (.getfield 22, (1, 0, 1, 0, 0)), (.ishl, (0, 0, 0, 0, 0)), (.invokestatic 108, (0, 0, 0, 0, 0)), (.putfield 15, (1, 0, 0, 0, 0)), (.return_, (0, 0, 0, 0, 0))]
theorem jc_Ab_ensureCapacityInternal9 : wq_c b_Ab_ensureCapacityInternal9 3 j_Ab_ensureCapacityInternal9 0 = true := sorry
theorem wm_Ab_ensureCapacityInternal9 : wm y_Ab_ensureCapacityInternal9 b_Ab_ensureCapacityInternal9 3 none 1 := sorry
theorem wi_Ab_ensureCapacityInternal9 : Cond.instanceMethod y_Ab_ensureCapacityInternal9 ∈ gw := sorry
theorem wsm_Ab_ensureCapacityInternal9 : Cond.sameMethod y_Ab_ensureCapacityInternal9.cls y_Ab_ensureCapacityInternal9.cls y_Ab_ensureCapacityInternal9.name y_Ab_ensureCapacityInternal9.desc ∈ gw := sorry
theorem ws_Sb_Ab_ensureCapacityInternal9 : Cond.selects "java/lang/StringBuilder" y_Ab_ensureCapacityInternal9 y_Ab_ensureCapacityInternal9 ∈ gw := sorry
abbrev b_Ab_newCapacity10 : ByteArray := prog_15_method_10_code
def y_Ab_newCapacity10 : MethodName := ⟨"java/lang/AbstractStringBuilder", "newCapacity", "(I)I"⟩
def j_Ab_newCapacity10 : wq_J := [(.aload_n 0, (0, 0, 0, 0, 0)), (.getfield 15, (1, 0, 0, 0, 0)), (.arraylength, (1, 1, 0, 0, 0)), (.istore_n 2, (0, 0, 0, 0, 0)), (.iload_n 1, (0, 0, 0, 0, 0)), (.aload_n 0, (0, 0, 0, 0, 0)), (.getfield 22, (1, 0, 1, 0, 0)), (.ishl, (0, 0, 0, 0, 0)), (.istore_n 3, (0, 0, 0, 0, 0)), (.iload_n 3, (0, 0, 0, 0, 0)), (.iload_n 2, (0, 0, 0, 0, 0)), (.isub, (0, 0, 0, 0, 0)), (.istore 4, (0, 0, 0, 0, 0)), (.iload_n 2, (0, 0, 0, 0, 0)), (.iload 4, (0, 0, 0, 0, 0)), (.iload_n 2, (0, 0, 0, 0, 0)), (.iconst 2, (0, 0, 0, 2, 0)), (.aload_n 0, (0, 0, 0, 0, 0)), (.getfield 22, (1, 0, 1, 0, 0)), (.ishl, (0, 0, 0, 0, 0)), (.iadd, (0, 0, 0, 0, 0)), (.invokestatic 114, (0, 0, 0, 0, 0)), (.istore 5, (0, 0, 0, 0, 0)), (.iload 5, (0, 0, 0, 0, 0)), (.ldc 39, (1, 0, 0, 2147483647, 0)), (.if_icmp .ne 13, (0, 51, 0, 0, 0)), (.new 120, (0, 0, 0, 0, 0)), (.dup, (0, 0, 0, 0, 0)), (.ldc 122, (2, 0, 0, 0, 0)), (.invokespecial 124, (0, 0, 0, 0, 0)), (.athrow, (0, 0, 0, 0, 0)), (.iload 5, (0, 0, 0, 0, 0)), (.aload_n 0, (0, 0, 0, 0, 0)), (.getfield 22, (1, 0, 1, 0, 0)), (.ishr, (0, 0, 0, 0, 0)), (.ireturn, (0, 0, 0, 0, 0))]
theorem jc_Ab_newCapacity10 : wq_c b_Ab_newCapacity10 6 j_Ab_newCapacity10 0 = true := sorry
theorem wm_Ab_newCapacity10 : wm y_Ab_newCapacity10 b_Ab_newCapacity10 6 (some .int) 1 := sorry
theorem wi_Ab_newCapacity10 : Cond.instanceMethod y_Ab_newCapacity10 ∈ gw := sorry
theorem wsm_Ab_newCapacity10 : Cond.sameMethod y_Ab_newCapacity10.cls y_Ab_newCapacity10.cls y_Ab_newCapacity10.name y_Ab_newCapacity10.desc ∈ gw := sorry
theorem ws_Sb_Ab_newCapacity10 : Cond.selects "java/lang/StringBuilder" y_Ab_newCapacity10 y_Ab_newCapacity10 ∈ gw := sorry
abbrev b_Su_newLength27 : ByteArray := prog_27_method_27_code
def y_Su_newLength27 : MethodName := ⟨"jdk/internal/util/ArraysSupport", "newLength", "(III)I"⟩
def j_Su_newLength27 : wq_J := [(.iload_n 0, (0, 0, 0, 0, 0)), (.iload_n 1, (0, 0, 0, 0, 0)), (.iload_n 2, (0, 0, 0, 0, 0)), (.invokestatic 194, (0, 0, 0, 0, 0)), (.iadd, (0, 0, 0, 0, 0)), (.istore_n 3, (0, 0, 0, 0, 0)), (.iconst 0, (0, 0, 0, 0, 0)), (.iload_n 3, (0, 0, 0, 0, 0)), (.if_icmp .ge 11, (0, 21, 0, 0, 0)), (.iload_n 3, (0, 0, 0, 0, 0)), (.ldc 200, (1, 0, 0, 2147483639, 0)), (.if_icmp .gt 5, (0, 21, 0, 0, 0)), (.iload_n 3, (0, 0, 0, 0, 0)), (.ireturn, (0, 0, 0, 0, 0)), (.iload_n 0, (0, 0, 0, 0, 0)), (.iload_n 1, (0, 0, 0, 0, 0)), (.invokestatic 201, (0, 0, 0, 0, 0)), (.ireturn, (0, 0, 0, 0, 0))]
theorem jc_Su_newLength27 : wq_c b_Su_newLength27 4 j_Su_newLength27 0 = true := sorry
theorem wm_Su_newLength27 : wm y_Su_newLength27 b_Su_newLength27 4 (some .int) 3 := sorry
theorem wt_Su_newLength27 : Cond.static y_Su_newLength27 ∈ gw := sorry
abbrev b_Ar_copyOf121 : ByteArray := prog_26_method_121_code
def y_Ar_copyOf121 : MethodName := ⟨"java/util/Arrays", "copyOf", "([BI)[B"⟩
def j_Ar_copyOf121 : wq_J := [(.iload_n 1, (0, 0, 0, 0, 0)), (.aload_n 0, (0, 0, 0, 0, 0)), (.arraylength, (1, 0, 0, 0, 0)), (.if_icmp .ne 11, (0, 14, 0, 0, 0)), (.aload_n 0, (0, 0, 0, 0, 0)), (.invokevirtual 310, (0, 0, 0, 0, 0)), (.checkcast 311, (0, 0, 0, 0, 0)), (.areturn, (0, 0, 0, 0, 0)), (.iload_n 1, (0, 0, 0, 0, 0)), (.newarray .byte, (0, 0, 0, 0, 0)), (.astore_n 2, (0, 0, 0, 0, 0)), (.aload_n 0, (0, 0, 0, 0, 0)), (.iconst 0, (0, 0, 0, 0, 0)), (.aload_n 2, (0, 0, 0, 0, 0)), (.iconst 0, (0, 0, 0, 0, 0)), (.aload_n 0, (0, 0, 0, 0, 0)), (.arraylength, (1, 0, 0, 0, 0)), (.iload_n 1, (0, 0, 0, 0, 0)), (.invokestatic 304, (0, 0, 0, 0, 0)), (.invokestatic 150, (0, 0, 0, 0, 0)), (.aload_n 2, (0, 0, 0, 0, 0)), (.areturn, (0, 0, 0, 0, 0))]
theorem jc_Ar_copyOf121 : wq_c b_Ar_copyOf121 3 j_Ar_copyOf121 0 = true := sorry
theorem wm_Ar_copyOf121 : wm y_Ar_copyOf121 b_Ar_copyOf121 3 (some (.array .byte)) 2 := sorry
theorem wt_Ar_copyOf121 : Cond.static y_Ar_copyOf121 ∈ gw := sorry
abbrev b_Ab_isLatin168 : ByteArray := prog_15_method_68_code
def y_Ab_isLatin168 : MethodName := ⟨"java/lang/AbstractStringBuilder", "isLatin1", "()Z"⟩
def j_Ab_isLatin168 : wq_J := [(.getstatic 18, (2, 0, 0, 0, 0)), (.ifCond .eq 14, (0, 17, 0, 0, 0)), (.aload_n 0, (0, 0, 0, 0, 0)), (.getfield 22, (1, 0, 1, 0, 0)), (.ifCond .ne 7, (0, 17, 0, 0, 0)), (.iconst 1, (0, 0, 0, 1, 0)), (.goto 4, (0, 18, 0, 0, 0)), (.iconst 0, (0, 0, 0, 0, 0)), (.ireturn, (0, 0, 0, 0, 0))]
theorem jc_Ab_isLatin168 : wq_c b_Ab_isLatin168 1 j_Ab_isLatin168 0 = true := sorry
theorem wm_Ab_isLatin168 : wm y_Ab_isLatin168 b_Ab_isLatin168 1 (some .boolean) 0 := sorry
theorem wi_Ab_isLatin168 : Cond.instanceMethod y_Ab_isLatin168 ∈ gw := sorry
theorem wsm_Ab_isLatin168 : Cond.sameMethod y_Ab_isLatin168.cls y_Ab_isLatin168.cls y_Ab_isLatin168.name y_Ab_isLatin168.desc ∈ gw := sorry
theorem ws_Sb_Ab_isLatin168 : Cond.selects "java/lang/StringBuilder" y_Ab_isLatin168 y_Ab_isLatin168 ∈ gw := sorry
abbrev b_L1_canEncode3 : ByteArray := prog_23_method_3_code
def y_L1_canEncode3 : MethodName := ⟨"java/lang/StringLatin1", "canEncode", "(C)Z"⟩
def j_L1_canEncode3 : wq_J := [(.iload_n 0, (0, 0, 0, 0, 0)), (.sipush 255, (0, 0, 0, 255, 0)), (.if_icmp .gt 7, (0, 11, 0, 0, 0)), (.iconst 1, (0, 0, 0, 1, 0)), (.goto 4, (0, 12, 0, 0, 0)), (.iconst 0, (0, 0, 0, 0, 0)), (.ireturn, (0, 0, 0, 0, 0))]
theorem jc_L1_canEncode3 : wq_c b_L1_canEncode3 1 j_L1_canEncode3 0 = true := sorry
theorem wm_L1_canEncode3 : wm y_L1_canEncode3 b_L1_canEncode3 1 (some .boolean) 1 := sorry
theorem wt_L1_canEncode3 : Cond.static y_L1_canEncode3 ∈ gw := sorry
abbrev b_Sb_append15 : ByteArray := prog_22_method_15_code
def y_Sb_append15 : MethodName := ⟨"java/lang/StringBuilder", "append", "(I)Ljava/lang/StringBuilder;"⟩
def j_Sb_append15 : wq_J := [(.aload_n 0, (0, 0, 0, 0, 0)), (.iload_n 1, (0, 0, 0, 0, 0)), (.invokespecial 53, (0, 0, 0, 0, 0)), (.pop, (0, 0, 0, 0, 0)), (.aload_n 0, (0, 0, 0, 0, 0)), (.areturn, (0, 0, 0, 0, 0))]
theorem jc_Sb_append15 : wq_c b_Sb_append15 2 j_Sb_append15 0 = true := sorry
theorem wm_Sb_append15 : wm y_Sb_append15 b_Sb_append15 2 (some (.object "java/lang/StringBuilder")) 1 := sorry
theorem wi_Sb_append15 : Cond.instanceMethod y_Sb_append15 ∈ gw := sorry
theorem ws_Sb_Sb_append15 : Cond.selects "java/lang/StringBuilder" y_Sb_append15 y_Sb_append15 ∈ gw := sorry
abbrev b_Ab_append32 : ByteArray := prog_15_method_32_code
def y_Ab_append32 : MethodName := ⟨"java/lang/AbstractStringBuilder", "append", "(I)Ljava/lang/AbstractStringBuilder;"⟩
def j_Ab_append32 : wq_J := [(.aload_n 0, (0, 0, 0, 0, 0)), (.getfield 79, (1, 0, 3, 0, 0)), (.istore_n 2, (0, 0, 0, 0, 0)), (.iload_n 2, (0, 0, 0, 0, 0)), (.iload_n 1, (0, 0, 0, 0, 0)), (.invokestatic 245, (0, 0, 0, 0, 0)), (.iadd, (0, 0, 0, 0, 0)), (.istore_n 3, (0, 0, 0, 0, 0)), (.aload_n 0, (0, 0, 0, 0, 0)), (.iload_n 3, (0, 0, 0, 0, 0)), (.invokevirtual 100, (0, 0, 0, 0, 0)), (.aload_n 0, (0, 0, 0, 0, 0)), (.invokevirtual 83, (0, 0, 0, 0, 0)), (.ifCond .eq 16, (0, 37, 0, 0, 0)), (.iload_n 1, (0, 0, 0, 0, 0)), (.iload_n 3, (0, 0, 0, 0, 0)), (.aload_n 0, (0, 0, 0, 0, 0)), (.getfield 15, (1, 0, 0, 0, 0)), (.invokestatic 248, (0, 0, 0, 0, 0)), (.pop, (0, 0, 0, 0, 0)), (.goto 14, (0, 48, 0, 0, 0)), (.iload_n 1, (0, 0, 0, 0, 0)), (.iload_n 2, (0, 0, 0, 0, 0)), (.iload_n 3, (0, 0, 0, 0, 0)), (.aload_n 0, (0, 0, 0, 0, 0)), (.getfield 15, (1, 0, 0, 0, 0)), (.invokestatic 251, (0, 0, 0, 0, 0)), (.pop, (0, 0, 0, 0, 0)), (.aload_n 0, (0, 0, 0, 0, 0)), (.iload_n 3, (0, 0, 0, 0, 0)), (.putfield 79, (1, 0, 3, 0, 0)), (.aload_n 0, (0, 0, 0, 0, 0)), (.areturn, (0, 0, 0, 0, 0))]
theorem jc_Ab_append32 : wq_c b_Ab_append32 4 j_Ab_append32 0 = true := sorry
theorem wm_Ab_append32 : wm y_Ab_append32 b_Ab_append32 4 (some (.object "java/lang/AbstractStringBuilder")) 1 := sorry
theorem wi_Ab_append32 : Cond.instanceMethod y_Ab_append32 ∈ gw := sorry
theorem wsm_Ab_append32 : Cond.sameMethod y_Ab_append32.cls y_Ab_append32.cls y_Ab_append32.name y_Ab_append32.desc ∈ gw := sorry
abbrev b_In_stringSize13 : ByteArray := prog_19_method_13_code
def y_In_stringSize13 : MethodName := ⟨"java/lang/Integer", "stringSize", "(I)I"⟩
def j_In_stringSize13 : wq_J := [(.iconst 1, (0, 0, 0, 1, 0)), (.istore_n 1, (0, 0, 0, 0, 0)), (.iload_n 0, (0, 0, 0, 0, 0)), (.ifCond .lt 8, (0, 11, 0, 0, 0)), (.iconst 0, (0, 0, 0, 0, 0)), (.istore_n 1, (0, 0, 0, 0, 0)), (.iload_n 0, (0, 0, 0, 0, 0)), (.ineg, (0, 0, 0, 0, 0)), (.istore_n 0, (0, 0, 0, 0, 0)), (.bipush (-10), (0, 0, 0, (-10), 0)), (.istore_n 2, (0, 0, 0, 0, 0)), (.iconst 1, (0, 0, 0, 1, 0)), (.istore_n 3, (0, 0, 0, 0, 0)), (.iload_n 3, (0, 0, 0, 0, 0)), (.bipush 10, (0, 0, 0, 10, 0)), (.if_icmp .ge 23, (0, 42, 0, 0, 0)), (.iload_n 0, (0, 0, 0, 0, 0)), (.iload_n 2, (0, 0, 0, 0, 0)), (.if_icmp .le 7, (0, 31, 0, 0, 0)), (.iload_n 3, (0, 0, 0, 0, 0)), (.iload_n 1, (0, 0, 0, 0, 0)), (.iadd, (0, 0, 0, 0, 0)), (.ireturn, (0, 0, 0, 0, 0)), (.bipush 10, (0, 0, 0, 10, 0)), (.iload_n 2, (0, 0, 0, 0, 0)), (.imul, (0, 0, 0, 0, 0)), (.istore_n 2, (0, 0, 0, 0, 0)), (.iinc 3 1, (0, 0, 0, 1, 0)), (.goto (-23), (0, 16, 0, 0, 0)), (.bipush 10, (0, 0, 0, 10, 0)), (.iload_n 1, (0, 0, 0, 0, 0)), (.iadd, (0, 0, 0, 0, 0)), (.ireturn, (0, 0, 0, 0, 0))]
theorem jc_In_stringSize13 : wq_c b_In_stringSize13 4 j_In_stringSize13 0 = true := sorry
theorem wm_In_stringSize13 : wm y_In_stringSize13 b_In_stringSize13 4 (some .int) 1 := sorry
theorem wt_In_stringSize13 : Cond.static y_In_stringSize13 ∈ gw := sorry
abbrev b_In_getChars12 : ByteArray := prog_19_method_12_code
def y_In_getChars12 : MethodName := ⟨"java/lang/Integer", "getChars", "(II[B)I"⟩
def j_In_getChars12 : wq_J := [(.iload_n 1, (0, 0, 0, 0, 0)), (.istore 5, (0, 0, 0, 0, 0)), (.iload_n 0, (0, 0, 0, 0, 0)), (.ifCond .ge 7, (0, 11, 0, 0, 0)), (.iconst 1, (0, 0, 0, 1, 0)), (.goto 4, (0, 12, 0, 0, 0)), (.iconst 0, (0, 0, 0, 0, 0)), (.istore 6, (0, 0, 0, 0, 0)), (.iload 6, (0, 0, 0, 0, 0)), (.ifCond .ne 6, (0, 22, 0, 0, 0)), (.iload_n 0, (0, 0, 0, 0, 0)), (.ineg, (0, 0, 0, 0, 0)), (.istore_n 0, (0, 0, 0, 0, 0)), (.iload_n 0, (0, 0, 0, 0, 0)), (.bipush (-100), (0, 0, 0, (-100), 0)), (.if_icmp .gt 47, (0, 72, 0, 0, 0)), (.iload_n 0, (0, 0, 0, 0, 0)), (.bipush 100, (0, 0, 0, 100, 0)), (.idiv, (0, 0, 0, 0, 0)), (.istore_n 3, (0, 0, 0, 0, 0)), (.iload_n 3, (0, 0, 0, 0, 0)), (.bipush 100, (0, 0, 0, 100, 0)), (.imul, (0, 0, 0, 0, 0)), (.iload_n 0, (0, 0, 0, 0, 0)), (.isub, (0, 0, 0, 0, 0)), (.istore 4, (0, 0, 0, 0, 0)), (.iload_n 3, (0, 0, 0, 0, 0)), (.istore_n 0, (0, 0, 0, 0, 0)), (.aload_n 2, (0, 0, 0, 0, 0)), (.iinc 5 (-1), (0, 0, 0, (-1), 0)), (.iload 5, (0, 0, 0, 0, 0)), (.getstatic 83, (2, 0, 0, 0, 0)), (.iload 4, (0, 0, 0, 0, 0)), (.baload, (2, 0, 0, 0, 0)), (.bastore, (1, 0, 0, 0, 0)), (.aload_n 2, (0, 0, 0, 0, 0)), (.iinc 5 (-1), (0, 0, 0, (-1), 0)), (.iload 5, (0, 0, 0, 0, 0)), (.getstatic 87, (2, 0, 0, 0, 0)), (.iload 4, (0, 0, 0, 0, 0)), (.baload, (2, 0, 0, 0, 0)), (.bastore, (1, 0, 0, 0, 0)), (.goto (-47), (0, 22, 0, 0, 0)), (.aload_n 2, (0, 0, 0, 0, 0)), (.iinc 5 (-1), (0, 0, 0, (-1), 0)), (.iload 5, (0, 0, 0, 0, 0)), (.getstatic 83, (2, 0, 0, 0, 0)), (.iload_n 0, (0, 0, 0, 0, 0)), (.ineg, (0, 0, 0, 0, 0)), (.baload, (2, 0, 0, 0, 0)), (.bastore, (1, 0, 0, 0, 0)), (.iload_n 0, (0, 0, 0, 0, 0)), (.bipush (-9), (0, 0, 0, (-9), 0)), (.if_icmp .ge 16, (0, 104, 0, 0, 0)), (.aload_n 2, (0, 0, 0, 0, 0)), (.iinc 5 (-1), (0, 0, 0, (-1), 0)), (.iload 5, (0, 0, 0, 0, 0)), (.getstatic 87, (2, 0, 0, 0, 0)), (.iload_n 0, (0, 0, 0, 0, 0)), (.ineg, (0, 0, 0, 0, 0)), (.baload, (2, 0, 0, 0, 0)), (.bastore, (1, 0, 0, 0, 0)), (.iload 6, (0, 0, 0, 0, 0)), (.ifCond .eq 12, (0, 118, 0, 0, 0)), (.aload_n 2, (0, 0, 0, 0, 0)), (.iinc 5 (-1), (0, 0, 0, (-1), 0)), (.iload 5, (0, 0, 0, 0, 0)), (.bipush 45, (0, 0, 0, 45, 0)), (.bastore, (1, 0, 0, 0, 0)), (.iload 5, (0, 0, 0, 0, 0)), (.ireturn, (0, 0, 0, 0, 0))]
theorem jc_In_getChars12 : wq_c b_In_getChars12 7 j_In_getChars12 0 = true := sorry
theorem wm_In_getChars12 : wm y_In_getChars12 b_In_getChars12 7 (some .int) 3 := sorry
theorem wt_In_getChars12 : Cond.static y_In_getChars12 ∈ gw := sorry
abbrev b_Sb_toString42 : ByteArray := prog_22_method_42_code
def y_Sb_toString42 : MethodName := ⟨"java/lang/StringBuilder", "toString", "()Ljava/lang/String;"⟩
def j_Sb_toString42 : wq_J := [(.new 18, (0, 0, 0, 0, 0)), (.dup, (0, 0, 0, 0, 0)), (.aload_n 0, (0, 0, 0, 0, 0)), (.invokespecial 137, (0, 0, 0, 0, 0)), (.areturn, (0, 0, 0, 0, 0))]
theorem jc_Sb_toString42 : wq_c b_Sb_toString42 1 j_Sb_toString42 0 = true := sorry
theorem wm_Sb_toString42 : wm y_Sb_toString42 b_Sb_toString42 1 (some (.object "java/lang/String")) 0 := sorry
theorem wi_Sb_toString42 : Cond.instanceMethod y_Sb_toString42 ∈ gw := sorry
theorem ws_Sb_Sb_toString42 : Cond.selects "java/lang/StringBuilder" y_Sb_toString42 y_Sb_toString42 ∈ gw := sorry
abbrev b_St_init53 : ByteArray := prog_21_method_53_code
def y_St_init53 : MethodName := ⟨"java/lang/String", "<init>", "(Ljava/lang/StringBuilder;)V"⟩
def j_St_init53 : wq_J := [(.aload_n 0, (0, 0, 0, 0, 0)), (.aload_n 1, (0, 0, 0, 0, 0)), (.aconst_null, (0, 0, 0, 0, 0)), (.invokespecial 489, (0, 0, 0, 0, 0)), (.return_, (0, 0, 0, 0, 0))]
theorem jc_St_init53 : wq_c b_St_init53 2 j_St_init53 0 = true := sorry
theorem wm_St_init53 : wm y_St_init53 b_St_init53 2 none 1 := sorry
theorem wi_St_init53 : Cond.instanceMethod y_St_init53 ∈ gw := sorry
abbrev b_St_init150 : ByteArray := prog_21_method_150_code
def y_St_init150 : MethodName := ⟨"java/lang/String", "<init>", "(Ljava/lang/AbstractStringBuilder;Ljava/lang/Void;)V"⟩
def j_St_init150 : wq_J := [(.aload_n 0, (0, 0, 0, 0, 0)), (.invokespecial 1, (0, 0, 0, 0, 0)), (.aload_n 1, (0, 0, 0, 0, 0)), (.invokevirtual 552, (0, 0, 0, 0, 0)), (.astore_n 3, (0, 0, 0, 0, 0)), (.aload_n 1, (0, 0, 0, 0, 0)), (.invokevirtual 549, (0, 0, 0, 0, 0)), (.istore 4, (0, 0, 0, 0, 0)), (.aload_n 1, (0, 0, 0, 0, 0)), (.invokevirtual 1047, (0, 0, 0, 0, 0)), (.ifCond .eq 22, (0, 41, 0, 0, 0)), (.aload_n 0, (0, 0, 0, 0, 0)), (.iconst 0, (0, 0, 0, 0, 0)), (.putfield 15, (3, 0, 1, 0, 0)), (.aload_n 0, (0, 0, 0, 0, 0)), (.aload_n 3, (0, 0, 0, 0, 0)), (.iconst 0, (0, 0, 0, 0, 0)), (.iload 4, (0, 0, 0, 0, 0)), (.invokestatic 54, (0, 0, 0, 0, 0)), (.putfield 9, (3, 0, 0, 0, 0)), (.goto 59, (0, 97, 0, 0, 0)), (.getstatic 38, (2, 0, 0, 0, 0)), (.ifCond .eq 35, (0, 79, 0, 0, 0)), (.aload_n 1, (0, 0, 0, 0, 0)), (.getfield 1048, (2, 0, 0, 0, 0)), (.ifCond .eq 28, (0, 79, 0, 0, 0)), (.aload_n 0, (0, 0, 0, 0, 0)), (.aload_n 3, (0, 0, 0, 0, 0)), (.iconst 0, (0, 0, 0, 0, 0)), (.iload 4, (0, 0, 0, 0, 0)), (.invokestatic 1051, (0, 0, 0, 0, 0)), (.putfield 9, (3, 0, 0, 0, 0)), (.aload_n 0, (0, 0, 0, 0, 0)), (.aload_n 0, (0, 0, 0, 0, 0)), (.getfield 9, (1, 0, 0, 0, 0)), (.iload 4, (0, 0, 0, 0, 0)), (.invokestatic 47, (0, 0, 0, 0, 0)), (.putfield 15, (3, 0, 1, 0, 0)), (.return_, (0, 0, 0, 0, 0)), (.aload_n 0, (0, 0, 0, 0, 0)), (.iconst 1, (0, 0, 0, 1, 0)), (.putfield 15, (3, 0, 1, 0, 0)), (.aload_n 0, (0, 0, 0, 0, 0)), (.aload_n 3, (0, 0, 0, 0, 0)), (.iconst 0, (0, 0, 0, 0, 0)), (.iload 4, (0, 0, 0, 0, 0)), (.iconst 1, (0, 0, 0, 1, 0)), (.ishl, (0, 0, 0, 0, 0)), (.invokestatic 54, (0, 0, 0, 0, 0)), (.putfield 9, (3, 0, 0, 0, 0)), (.return_, (0, 0, 0, 0, 0))]
theorem jc_St_init150 : wq_c b_St_init150 5 j_St_init150 0 = true := sorry
theorem wm_St_init150 : wm y_St_init150 b_St_init150 5 none 2 := sorry
theorem wi_St_init150 : Cond.instanceMethod y_St_init150 ∈ gw := sorry
abbrev b_Ab_getValue64 : ByteArray := prog_15_method_64_code
def y_Ab_getValue64 : MethodName := ⟨"java/lang/AbstractStringBuilder", "getValue", "()[B"⟩
def j_Ab_getValue64 : wq_J := [(.aload_n 0, (0, 0, 0, 0, 0)), (.getfield 15, (1, 0, 0, 0, 0)), (.areturn, (0, 0, 0, 0, 0))]
theorem jc_Ab_getValue64 : wq_c b_Ab_getValue64 1 j_Ab_getValue64 0 = true := sorry
theorem wm_Ab_getValue64 : wm y_Ab_getValue64 b_Ab_getValue64 1 (some (.array .byte)) 0 := sorry
theorem wi_Ab_getValue64 : Cond.instanceMethod y_Ab_getValue64 ∈ gw := sorry
theorem wsm_Ab_getValue64 : Cond.sameMethod y_Ab_getValue64.cls y_Ab_getValue64.cls y_Ab_getValue64.name y_Ab_getValue64.desc ∈ gw := sorry
theorem ws_Sb_Ab_getValue64 : Cond.selects "java/lang/StringBuilder" y_Ab_getValue64 y_Ab_getValue64 ∈ gw := sorry
abbrev b_Sb_length93 : ByteArray := prog_22_method_93_code
def y_Sb_length93 : MethodName := ⟨"java/lang/StringBuilder", "length", "()I"⟩
def j_Sb_length93 : wq_J := [(.aload_n 0, (0, 0, 0, 0, 0)), (.invokespecial 343, (0, 0, 0, 0, 0)), (.ireturn, (0, 0, 0, 0, 0))]
theorem jc_Sb_length93 : wq_c b_Sb_length93 1 j_Sb_length93 0 = true := sorry
theorem wm_Sb_length93 : wm y_Sb_length93 b_Sb_length93 1 (some .int) 0 := sorry
theorem wi_Sb_length93 : Cond.instanceMethod y_Sb_length93 ∈ gw := sorry
theorem ws_Sb_Sb_length93 : Cond.selects "java/lang/StringBuilder" y_Sb_length93 y_Sb_length93 ∈ gw := sorry
abbrev b_Ab_length6 : ByteArray := prog_15_method_6_code
def y_Ab_length6 : MethodName := ⟨"java/lang/AbstractStringBuilder", "length", "()I"⟩
def j_Ab_length6 : wq_J := [(.aload_n 0, (0, 0, 0, 0, 0)), (.getfield 79, (1, 0, 3, 0, 0)), (.ireturn, (0, 0, 0, 0, 0))]
theorem jc_Ab_length6 : wq_c b_Ab_length6 1 j_Ab_length6 0 = true := sorry
theorem wm_Ab_length6 : wm y_Ab_length6 b_Ab_length6 1 (some .int) 0 := sorry
theorem wi_Ab_length6 : Cond.instanceMethod y_Ab_length6 ∈ gw := sorry
theorem wsm_Ab_length6 : Cond.sameMethod y_Ab_length6.cls y_Ab_length6.cls y_Ab_length6.name y_Ab_length6.desc ∈ gw := sorry
abbrev b_Ar_copyOfRange132 : ByteArray := prog_26_method_132_code
def y_Ar_copyOfRange132 : MethodName := ⟨"java/util/Arrays", "copyOfRange", "([BII)[B"⟩
def j_Ar_copyOfRange132 : wq_J := [(.iload_n 1, (0, 0, 0, 0, 0)), (.ifCond .ne 9, (0, 10, 0, 0, 0)), (.iload_n 2, (0, 0, 0, 0, 0)), (.aload_n 0, (0, 0, 0, 0, 0)), (.arraylength, (1, 0, 0, 0, 0)), (.if_icmp .eq 10, (0, 17, 0, 0, 0)), (.aload_n 0, (0, 0, 0, 0, 0)), (.iload_n 1, (0, 0, 0, 0, 0)), (.iload_n 2, (0, 0, 0, 0, 0)), (.invokestatic 339, (0, 0, 0, 0, 0)), (.areturn, (0, 0, 0, 0, 0)), (.aload_n 0, (0, 0, 0, 0, 0)), (.invokevirtual 310, (0, 0, 0, 0, 0)), (.checkcast 311, (0, 0, 0, 0, 0)), (.areturn, (0, 0, 0, 0, 0))]
theorem jc_Ar_copyOfRange132 : wq_c b_Ar_copyOfRange132 3 j_Ar_copyOfRange132 0 = true := sorry
theorem wm_Ar_copyOfRange132 : wm y_Ar_copyOfRange132 b_Ar_copyOfRange132 3 (some (.array .byte)) 3 := sorry
theorem wt_Ar_copyOfRange132 : Cond.static y_Ar_copyOfRange132 ∈ gw := sorry
abbrev b_Ar_copyOfRangeByte133 : ByteArray := prog_26_method_133_code
def y_Ar_copyOfRangeByte133 : MethodName := ⟨"java/util/Arrays", "copyOfRangeByte", "([BII)[B"⟩
def j_Ar_copyOfRangeByte133 : wq_J := [(.iload_n 1, (0, 0, 0, 0, 0)), (.iload_n 2, (0, 0, 0, 0, 0)), (.invokestatic 343, (0, 0, 0, 0, 0)), (.iload_n 2, (0, 0, 0, 0, 0)), (.iload_n 1, (0, 0, 0, 0, 0)), (.isub, (0, 0, 0, 0, 0)), (.istore_n 3, (0, 0, 0, 0, 0)), (.iload_n 3, (0, 0, 0, 0, 0)), (.newarray .byte, (0, 0, 0, 0, 0)), (.astore 4, (0, 0, 0, 0, 0)), (.aload_n 0, (0, 0, 0, 0, 0)), (.iload_n 1, (0, 0, 0, 0, 0)), (.aload 4, (0, 0, 0, 0, 0)), (.iconst 0, (0, 0, 0, 0, 0)), (.aload_n 0, (0, 0, 0, 0, 0)), (.arraylength, (1, 0, 0, 0, 0)), (.iload_n 1, (0, 0, 0, 0, 0)), (.isub, (0, 0, 0, 0, 0)), (.iload_n 3, (0, 0, 0, 0, 0)), (.invokestatic 304, (0, 0, 0, 0, 0)), (.invokestatic 150, (0, 0, 0, 0, 0)), (.aload 4, (0, 0, 0, 0, 0)), (.areturn, (0, 0, 0, 0, 0))]
theorem jc_Ar_copyOfRangeByte133 : wq_c b_Ar_copyOfRangeByte133 5 j_Ar_copyOfRangeByte133 0 = true := sorry
theorem wm_Ar_copyOfRangeByte133 : wm y_Ar_copyOfRangeByte133 b_Ar_copyOfRangeByte133 5 (some (.array .byte)) 3 := sorry
theorem wt_Ar_copyOfRangeByte133 : Cond.static y_Ar_copyOfRangeByte133 ∈ gw := sorry
abbrev b_Ar_checkLength131 : ByteArray := prog_26_method_131_code
def y_Ar_checkLength131 : MethodName := ⟨"java/util/Arrays", "checkLength", "(II)V"⟩
def j_Ar_checkLength131 : wq_J := [(.iload_n 1, (0, 0, 0, 0, 0)), (.iload_n 0, (0, 0, 0, 0, 0)), (.if_icmp .ge 35, (0, 37, 0, 0, 0)), (.new 43, (0, 0, 0, 0, 0)), (.dup, (0, 0, 0, 0, 0)), (.new 45, (0, 0, 0, 0, 0)), (.dup, (0, 0, 0, 0, 0)), (.invokespecial 47, (0, 0, 0, 0, 0)), (.iload_n 0, (0, 0, 0, 0, 0)), (.invokevirtual 54, (0, 0, 0, 0, 0)), (.ldc_w 337, (2, 0, 0, 0, 0)), (.invokevirtual 50, (0, 0, 0, 0, 0)), (.iload_n 1, (0, 0, 0, 0, 0)), (.invokevirtual 54, (0, 0, 0, 0, 0)), (.invokevirtual 61, (0, 0, 0, 0, 0)), (.invokespecial 65, (0, 0, 0, 0, 0)), (.athrow, (0, 0, 0, 0, 0)), (.return_, (0, 0, 0, 0, 0))]
theorem jc_Ar_checkLength131 : wq_c b_Ar_checkLength131 2 j_Ar_checkLength131 0 = true := sorry
theorem wm_Ar_checkLength131 : wm y_Ar_checkLength131 b_Ar_checkLength131 2 none 2 := sorry
theorem wt_Ar_checkLength131 : Cond.static y_Ar_checkLength131 ∈ gw := sorry
abbrev b_Sb_setLength89 : ByteArray := prog_22_method_89_code
def y_Sb_setLength89 : MethodName := ⟨"java/lang/StringBuilder", "setLength", "(I)V"⟩
def j_Sb_setLength89 : wq_J := [(.aload_n 0, (0, 0, 0, 0, 0)), (.iload_n 1, (0, 0, 0, 0, 0)), (.invokespecial 333, (0, 0, 0, 0, 0)), (.return_, (0, 0, 0, 0, 0))]
theorem jc_Sb_setLength89 : wq_c b_Sb_setLength89 2 j_Sb_setLength89 0 = true := sorry
theorem wm_Sb_setLength89 : wm y_Sb_setLength89 b_Sb_setLength89 2 none 1 := sorry
theorem wi_Sb_setLength89 : Cond.instanceMethod y_Sb_setLength89 ∈ gw := sorry
theorem ws_Sb_Sb_setLength89 : Cond.selects "java/lang/StringBuilder" y_Sb_setLength89 y_Sb_setLength89 ∈ gw := sorry
abbrev b_Ab_setLength13 : ByteArray := prog_15_method_13_code
def y_Ab_setLength13 : MethodName := ⟨"java/lang/AbstractStringBuilder", "setLength", "(I)V"⟩
def j_Ab_setLength13 : wq_J := [(.iload_n 1, (0, 0, 0, 0, 0)), (.ifCond .ge 12, (0, 13, 0, 0, 0)), (.new 129, (0, 0, 0, 0, 0)), (.dup, (0, 0, 0, 0, 0)), (.iload_n 1, (0, 0, 0, 0, 0)), (.invokespecial 131, (0, 0, 0, 0, 0)), (.athrow, (0, 0, 0, 0, 0)), (.aload_n 0, (0, 0, 0, 0, 0)), (.iload_n 1, (0, 0, 0, 0, 0)), (.invokevirtual 100, (0, 0, 0, 0, 0)), (.aload_n 0, (0, 0, 0, 0, 0)), (.getfield 79, (1, 0, 3, 0, 0)), (.iload_n 1, (0, 0, 0, 0, 0)), (.if_icmp .ge 40, (0, 63, 0, 0, 0)), (.aload_n 0, (0, 0, 0, 0, 0)), (.invokevirtual 83, (0, 0, 0, 0, 0)), (.ifCond .eq 18, (0, 48, 0, 0, 0)), (.aload_n 0, (0, 0, 0, 0, 0)), (.getfield 15, (1, 0, 0, 0, 0)), (.aload_n 0, (0, 0, 0, 0, 0)), (.getfield 79, (1, 0, 3, 0, 0)), (.iload_n 1, (0, 0, 0, 0, 0)), (.invokestatic 133, (0, 0, 0, 0, 0)), (.goto 31, (0, 76, 0, 0, 0)), (.aload_n 0, (0, 0, 0, 0, 0)), (.getfield 15, (1, 0, 0, 0, 0)), (.aload_n 0, (0, 0, 0, 0, 0)), (.getfield 79, (1, 0, 3, 0, 0)), (.iload_n 1, (0, 0, 0, 0, 0)), (.invokestatic 137, (0, 0, 0, 0, 0)), (.goto 16, (0, 76, 0, 0, 0)), (.aload_n 0, (0, 0, 0, 0, 0)), (.getfield 79, (1, 0, 3, 0, 0)), (.iload_n 1, (0, 0, 0, 0, 0)), (.if_icmp .le 8, (0, 76, 0, 0, 0)), (.aload_n 0, (0, 0, 0, 0, 0)), (.iconst 1, (0, 0, 0, 1, 0)), (.putfield 73, (1, 0, 2, 0, 0)), (.aload_n 0, (0, 0, 0, 0, 0)), (.iload_n 1, (0, 0, 0, 0, 0)), (.putfield 79, (1, 0, 3, 0, 0)), (.return_, (0, 0, 0, 0, 0))]
theorem jc_Ab_setLength13 : wq_c b_Ab_setLength13 2 j_Ab_setLength13 0 = true := sorry
theorem wm_Ab_setLength13 : wm y_Ab_setLength13 b_Ab_setLength13 2 none 1 := sorry
theorem wi_Ab_setLength13 : Cond.instanceMethod y_Ab_setLength13 ∈ gw := sorry
theorem wsm_Ab_setLength13 : Cond.sameMethod y_Ab_setLength13.cls y_Ab_setLength13.cls y_Ab_setLength13.name y_Ab_setLength13.desc ∈ gw := sorry
abbrev b_Sb_append7 : ByteArray := prog_22_method_7_code
def y_Sb_append7 : MethodName := ⟨"java/lang/StringBuilder", "append", "(Ljava/lang/String;)Ljava/lang/StringBuilder;"⟩
def j_Sb_append7 : wq_J := [(.aload_n 0, (0, 0, 0, 0, 0)), (.aload_n 1, (0, 0, 0, 0, 0)), (.invokespecial 29, (0, 0, 0, 0, 0)), (.pop, (0, 0, 0, 0, 0)), (.aload_n 0, (0, 0, 0, 0, 0)), (.areturn, (0, 0, 0, 0, 0))]
theorem jc_Sb_append7 : wq_c b_Sb_append7 2 j_Sb_append7 0 = true := sorry
theorem wm_Sb_append7 : wm y_Sb_append7 b_Sb_append7 2 (some (.object "java/lang/StringBuilder")) 1 := sorry
theorem wi_Sb_append7 : Cond.instanceMethod y_Sb_append7 ∈ gw := sorry
theorem ws_Sb_Sb_append7 : Cond.selects "java/lang/StringBuilder" y_Sb_append7 y_Sb_append7 ∈ gw := sorry
abbrev b_Ab_append22 : ByteArray := prog_15_method_22_code
def y_Ab_append22 : MethodName := ⟨"java/lang/AbstractStringBuilder", "append", "(Ljava/lang/String;)Ljava/lang/AbstractStringBuilder;"⟩
def j_Ab_append22 : wq_J := [(.aload_n 1, (0, 0, 0, 0, 0)), (.ifnonnull 8, (0, 9, 0, 0, 0)), (.aload_n 0, (0, 0, 0, 0, 0)), (.invokevirtual 204, (0, 0, 0, 0, 0)), (.areturn, (0, 0, 0, 0, 0)), (.aload_n 1, (0, 0, 0, 0, 0)), (.invokevirtual 32, (0, 0, 0, 0, 0)), (.istore_n 2, (0, 0, 0, 0, 0)), (.aload_n 0, (0, 0, 0, 0, 0)), (.aload_n 0, (0, 0, 0, 0, 0)), (.getfield 79, (1, 0, 3, 0, 0)), (.iload_n 2, (0, 0, 0, 0, 0)), (.iadd, (0, 0, 0, 0, 0)), (.invokevirtual 100, (0, 0, 0, 0, 0)), (.aload_n 0, (0, 0, 0, 0, 0)), (.aload_n 0, (0, 0, 0, 0, 0)), (.getfield 79, (1, 0, 3, 0, 0)), (.aload_n 1, (0, 0, 0, 0, 0)), (.invokevirtual 208, (0, 0, 0, 0, 0)), (.aload_n 0, (0, 0, 0, 0, 0)), (.dup, (0, 0, 0, 0, 0)), (.getfield 79, (1, 0, 3, 0, 0)), (.iload_n 2, (0, 0, 0, 0, 0)), (.iadd, (0, 0, 0, 0, 0)), (.putfield 79, (1, 0, 3, 0, 0)), (.aload_n 0, (0, 0, 0, 0, 0)), (.areturn, (0, 0, 0, 0, 0))]
theorem jc_Ab_append22 : wq_c b_Ab_append22 3 j_Ab_append22 0 = true := sorry
theorem wm_Ab_append22 : wm y_Ab_append22 b_Ab_append22 3 (some (.object "java/lang/AbstractStringBuilder")) 1 := sorry
theorem wi_Ab_append22 : Cond.instanceMethod y_Ab_append22 ∈ gw := sorry
theorem wsm_Ab_append22 : Cond.sameMethod y_Ab_append22.cls y_Ab_append22.cls y_Ab_append22.name y_Ab_append22.desc ∈ gw := sorry
abbrev b_Ab_putStringAt73 : ByteArray := prog_15_method_73_code
def y_Ab_putStringAt73 : MethodName := ⟨"java/lang/AbstractStringBuilder", "putStringAt", "(ILjava/lang/String;)V"⟩
def j_Ab_putStringAt73 : wq_J := [(.aload_n 0, (0, 0, 0, 0, 0)), (.aload_n 2, (0, 0, 0, 0, 0)), (.invokevirtual 397, (0, 0, 0, 0, 0)), (.aload_n 2, (0, 0, 0, 0, 0)), (.aload_n 0, (0, 0, 0, 0, 0)), (.getfield 15, (1, 0, 0, 0, 0)), (.iload_n 1, (0, 0, 0, 0, 0)), (.aload_n 0, (0, 0, 0, 0, 0)), (.getfield 22, (1, 0, 1, 0, 0)), (.invokevirtual 399, (0, 0, 0, 0, 0)), (.return_, (0, 0, 0, 0, 0))]
theorem jc_Ab_putStringAt73 : wq_c b_Ab_putStringAt73 3 j_Ab_putStringAt73 0 = true := sorry
theorem wm_Ab_putStringAt73 : wm y_Ab_putStringAt73 b_Ab_putStringAt73 3 none 2 := sorry
theorem wi_Ab_putStringAt73 : Cond.instanceMethod y_Ab_putStringAt73 ∈ gw := sorry
theorem wsm_Ab_putStringAt73 : Cond.sameMethod y_Ab_putStringAt73.cls y_Ab_putStringAt73.cls y_Ab_putStringAt73.name y_Ab_putStringAt73.desc ∈ gw := sorry
theorem ws_Sb_Ab_putStringAt73 : Cond.selects "java/lang/StringBuilder" y_Ab_putStringAt73 y_Ab_putStringAt73 ∈ gw := sorry
abbrev b_Ab_inflateIfNeededFor71 : ByteArray := prog_15_method_71_code
def y_Ab_inflateIfNeededFor71 : MethodName := ⟨"java/lang/AbstractStringBuilder", "inflateIfNeededFor", "(Ljava/lang/String;)V"⟩
def j_Ab_inflateIfNeededFor71 : wq_J := [(.getstatic 18, (2, 0, 0, 0, 0)), (.ifCond .eq 18, (0, 21, 0, 0, 0)), (.aload_n 0, (0, 0, 0, 0, 0)), (.getfield 22, (1, 0, 1, 0, 0)), (.aload_n 1, (0, 0, 0, 0, 0)), (.invokevirtual 40, (0, 0, 0, 0, 0)), (.if_icmp .eq 7, (0, 21, 0, 0, 0)), (.aload_n 0, (0, 0, 0, 0, 0)), (.invokevirtual 195, (0, 0, 0, 0, 0)), (.return_, (0, 0, 0, 0, 0))]
theorem jc_Ab_inflateIfNeededFor71 : wq_c b_Ab_inflateIfNeededFor71 2 j_Ab_inflateIfNeededFor71 0 = true := sorry
theorem wm_Ab_inflateIfNeededFor71 : wm y_Ab_inflateIfNeededFor71 b_Ab_inflateIfNeededFor71 2 none 1 := sorry
theorem wi_Ab_inflateIfNeededFor71 : Cond.instanceMethod y_Ab_inflateIfNeededFor71 ∈ gw := sorry
theorem wsm_Ab_inflateIfNeededFor71 : Cond.sameMethod y_Ab_inflateIfNeededFor71.cls y_Ab_inflateIfNeededFor71.cls y_Ab_inflateIfNeededFor71.name y_Ab_inflateIfNeededFor71.desc ∈ gw := sorry
theorem ws_Sb_Ab_inflateIfNeededFor71 : Cond.selects "java/lang/StringBuilder" y_Ab_inflateIfNeededFor71 y_Ab_inflateIfNeededFor71 ∈ gw := sorry
abbrev b_St_getBytes147 : ByteArray := prog_21_method_147_code
def y_St_getBytes147 : MethodName := ⟨"java/lang/String", "getBytes", "([BIB)V"⟩
def j_St_getBytes147 : wq_J := [(.aload_n 0, (0, 0, 0, 0, 0)), (.invokevirtual 335, (0, 0, 0, 0, 0)), (.iload_n 3, (0, 0, 0, 0, 0)), (.if_icmp .ne 23, (0, 28, 0, 0, 0)), (.aload_n 0, (0, 0, 0, 0, 0)), (.getfield 9, (2, 0, 0, 0, 0)), (.iconst 0, (0, 0, 0, 0, 0)), (.aload_n 1, (0, 0, 0, 0, 0)), (.iload_n 2, (0, 0, 0, 0, 0)), (.iload_n 3, (0, 0, 0, 0, 0)), (.ishl, (0, 0, 0, 0, 0)), (.aload_n 0, (0, 0, 0, 0, 0)), (.getfield 9, (2, 0, 0, 0, 0)), (.arraylength, (2, 0, 0, 0, 0)), (.invokestatic 212, (0, 0, 0, 0, 0)), (.goto 18, (0, 43, 0, 0, 0)), (.aload_n 0, (0, 0, 0, 0, 0)), (.getfield 9, (2, 0, 0, 0, 0)), (.iconst 0, (0, 0, 0, 0, 0)), (.aload_n 1, (0, 0, 0, 0, 0)), (.iload_n 2, (0, 0, 0, 0, 0)), (.aload_n 0, (0, 0, 0, 0, 0)), (.getfield 9, (2, 0, 0, 0, 0)), (.arraylength, (2, 0, 0, 0, 0)), (.invokestatic 106, (0, 0, 0, 0, 0)), (.return_, (0, 0, 0, 0, 0))]
theorem jc_St_getBytes147 : wq_c b_St_getBytes147 4 j_St_getBytes147 0 = true := sorry
theorem wm_St_getBytes147 : wm y_St_getBytes147 b_St_getBytes147 4 none 3 := sorry
theorem wi_St_getBytes147 : Cond.instanceMethod y_St_getBytes147 ∈ gw := sorry
theorem ws_St_St_getBytes147 : Cond.selects "java/lang/String" y_St_getBytes147 y_St_getBytes147 ∈ gw := sorry
abbrev b_Sb_charAt88 : ByteArray := prog_22_method_88_code
def y_Sb_charAt88 : MethodName := ⟨"java/lang/StringBuilder", "charAt", "(I)C"⟩
def j_Sb_charAt88 : wq_J := [(.aload_n 0, (0, 0, 0, 0, 0)), (.iload_n 1, (0, 0, 0, 0, 0)), (.invokespecial 329, (0, 0, 0, 0, 0)), (.ireturn, (0, 0, 0, 0, 0))]
theorem jc_Sb_charAt88 : wq_c b_Sb_charAt88 2 j_Sb_charAt88 0 = true := sorry
theorem wm_Sb_charAt88 : wm y_Sb_charAt88 b_Sb_charAt88 2 (some .char) 1 := sorry
theorem wi_Sb_charAt88 : Cond.instanceMethod y_Sb_charAt88 ∈ gw := sorry
theorem ws_Sb_Sb_charAt88 : Cond.selects "java/lang/StringBuilder" y_Sb_charAt88 y_Sb_charAt88 ∈ gw := sorry
abbrev b_Ab_charAt14 : ByteArray := prog_15_method_14_code
def y_Ab_charAt14 : MethodName := ⟨"java/lang/AbstractStringBuilder", "charAt", "(I)C"⟩
def j_Ab_charAt14 : wq_J := [(.aload_n 0, (0, 0, 0, 0, 0)), (.getfield 22, (1, 0, 1, 0, 0)), (.istore_n 2, (0, 0, 0, 0, 0)), (.aload_n 0, (0, 0, 0, 0, 0)), (.getfield 15, (1, 0, 0, 0, 0)), (.astore_n 3, (0, 0, 0, 0, 0)), (.aload_n 0, (0, 0, 0, 0, 0)), (.getfield 79, (1, 0, 3, 0, 0)), (.aload_n 3, (0, 0, 0, 0, 0)), (.arraylength, (1, 1, 0, 0, 0)), (.iload_n 2, (0, 0, 0, 0, 0)), (.ishr, (0, 0, 0, 0, 0)), (.invokestatic 138, (0, 0, 0, 0, 0)), (.istore 4, (0, 0, 0, 0, 0)), (.iload_n 1, (0, 0, 0, 0, 0)), (.iload 4, (0, 0, 0, 0, 0)), (.invokestatic 144, (0, 0, 0, 0, 0)), (.iload_n 2, (0, 0, 0, 0, 0)), (.ifCond .ne 12, (0, 42, 0, 0, 0)), (.aload_n 3, (0, 0, 0, 0, 0)), (.iload_n 1, (0, 0, 0, 0, 0)), (.baload, (1, 1, 0, 0, 0)), (.sipush 255, (0, 0, 0, 255, 0)), (.iand, (0, 0, 0, 0, 0)), (.i2c, (0, 0, 0, 0, 0)), (.ireturn, (0, 0, 0, 0, 0)), (.aload_n 3, (0, 0, 0, 0, 0)), (.iload_n 1, (0, 0, 0, 0, 0)), (.invokestatic 148, (0, 0, 0, 0, 0)), (.ireturn, (0, 0, 0, 0, 0))]
theorem jc_Ab_charAt14 : wq_c b_Ab_charAt14 5 j_Ab_charAt14 0 = true := sorry
theorem wm_Ab_charAt14 : wm y_Ab_charAt14 b_Ab_charAt14 5 (some .char) 1 := sorry
theorem wi_Ab_charAt14 : Cond.instanceMethod y_Ab_charAt14 ∈ gw := sorry
theorem wsm_Ab_charAt14 : Cond.sameMethod y_Ab_charAt14.cls y_Ab_charAt14.cls y_Ab_charAt14.name y_Ab_charAt14.desc ∈ gw := sorry
theorem ws_Sb_len : Cond.selects "java/lang/StringBuilder" y_Ab_length6 y_Sb_length93 ∈ gw := sorry
theorem wsu_Sb : Cond.superclass "java/lang/StringBuilder" "java/lang/AbstractStringBuilder" ∈ gw := sorry
theorem wz_Dk : Cond.initialized "OriginDesk" ∈ gw := sorry
theorem wz_Rq : Cond.initialized "OriginDesk$Request" ∈ gw := sorry
theorem wz_Rd : Cond.initialized "OriginDesk$Reader" ∈ gw := sorry
theorem wz_Ac : Cond.initialized "OriginDesk$Accept" ∈ gw := sorry
theorem wz_La : Cond.initialized "OriginDesk$Languages" ∈ gw := sorry
theorem wz_Tg : Cond.initialized "OriginDesk$Tags" ∈ gw := sorry
theorem wz_Ra : Cond.initialized "OriginDesk$Ranges" ∈ gw := sorry
theorem wz_Rs : Cond.initialized "OriginDesk$Response" ∈ gw := sorry
theorem wz_Sb : Cond.initialized "java/lang/StringBuilder" ∈ gw := sorry
theorem wz_St : Cond.initialized "java/lang/String" ∈ gw := sorry
theorem wz_Da : Cond.initialized "OriginDesk$Dates" ∈ gw := sorry
theorem wz_Mo : Cond.initialized "OriginDeskModel" ∈ gw := sorry
theorem wz_Rp : Cond.initialized "OriginDesk$Representation" ∈ gw := sorry
theorem wn_Dk : Cond.instantiable "OriginDesk" 9 ∈ gw := sorry
theorem wl_Dk_1 : Cond.methodLink "OriginDesk" 1 Lib.objectInit ∈ gw := sorry
theorem wk_Dk_9 : Cond.classLink "OriginDesk" 9 "OriginDesk$Representation" ∈ gw := sorry
theorem wk_Dk_15 : Cond.classLink "OriginDesk" 15 "OriginDesk$Request" ∈ gw := sorry
theorem wn_Rq : Cond.instantiable "OriginDesk$Request" 3 ∈ gw := sorry
theorem wl_Rq_3 : Cond.methodLink "OriginDesk$Request" 3 Lib.objectInit ∈ gw := sorry
theorem wk_Rq_15 : Cond.classLink "OriginDesk$Request" 15 "[[I" ∈ gw := sorry
theorem wa_int : Cond.arrayClass .int ∈ gw := sorry
theorem wk_Dk_22 : Cond.classLink "OriginDesk" 22 "OriginDesk$Accept" ∈ gw := sorry
theorem wn_Ac : Cond.instantiable "OriginDesk$Accept" 10 ∈ gw := sorry
theorem wl_Rd_3 : Cond.methodLink "OriginDesk$Reader" 3 Lib.objectInit ∈ gw := sorry
theorem wk_Dk_29 : Cond.classLink "OriginDesk" 29 "OriginDesk$Languages" ∈ gw := sorry
theorem wn_La : Cond.instantiable "OriginDesk$Languages" 7 ∈ gw := sorry
theorem wk_Dk_36 : Cond.classLink "OriginDesk" 36 "OriginDesk$Tags" ∈ gw := sorry
theorem wn_Tg : Cond.instantiable "OriginDesk$Tags" 8 ∈ gw := sorry
theorem wk_Dk_43 : Cond.classLink "OriginDesk" 43 "OriginDesk$Ranges" ∈ gw := sorry
theorem wn_Ra : Cond.instantiable "OriginDesk$Ranges" 9 ∈ gw := sorry
theorem wk_Dk_50 : Cond.classLink "OriginDesk" 50 "OriginDesk$Response" ∈ gw := sorry
theorem wn_Rs : Cond.instantiable "OriginDesk$Response" 8 ∈ gw := sorry
theorem wl_Rs_3 : Cond.methodLink "OriginDesk$Response" 3 Lib.objectInit ∈ gw := sorry
theorem wk_Rs_22 : Cond.classLink "OriginDesk$Response" 22 "java/lang/StringBuilder" ∈ gw := sorry
theorem wn_Sb : Cond.instantiable "java/lang/StringBuilder" 4 ∈ gw := sorry
theorem wl_Rs_24 : Cond.methodLink "OriginDesk$Response" 24 y_Sb_init1 ∈ gw := sorry
theorem wl_Sb_1 : Cond.methodLink "java/lang/StringBuilder" 1 y_Ab_init2 ∈ gw := sorry
theorem wl_Ab_3 : Cond.methodLink "java/lang/AbstractStringBuilder" 3 Lib.objectInit ∈ gw := sorry
theorem wc_U6_20 : Cond.constant "java/lang/StringUTF16" 20 1073741823 ∈ gw := sorry
theorem wa_byte : Cond.arrayClass .byte ∈ gw := sorry
theorem wk_Dk_59 : Cond.classLink "OriginDesk" 59 "OriginDesk$Dates" ∈ gw := sorry
theorem wn_Da : Cond.instantiable "OriginDesk$Dates" 10 ∈ gw := sorry
theorem wn_Rp : Cond.instantiable "OriginDesk$Representation" 7 ∈ gw := sorry
theorem wl_Rp_1 : Cond.methodLink "OriginDesk$Representation" 1 Lib.objectInit ∈ gw := sorry
theorem wk_Rp_24 : Cond.classLink "OriginDesk$Representation" 24 "java/lang/StringBuilder" ∈ gw := sorry
theorem wl_Rp_26 : Cond.methodLink "OriginDesk$Representation" 26 y_Sb_init1 ∈ gw := sorry
theorem wl_Rp_27 : Cond.methodLink "OriginDesk$Representation" 27 y_Sb_append14 ∈ gw := sorry
theorem wl_Sb_50 : Cond.methodLink "java/lang/StringBuilder" 50 y_Ab_append31 ∈ gw := sorry
theorem wl_Ab_100 : Cond.methodLink "java/lang/AbstractStringBuilder" 100 y_Ab_ensureCapacityInternal9 ∈ gw := sorry
theorem wl_Ab_104 : Cond.methodLink "java/lang/AbstractStringBuilder" 104 y_Ab_newCapacity10 ∈ gw := sorry
theorem wl_Ab_114 : Cond.methodLink "java/lang/AbstractStringBuilder" 114 y_Su_newLength27 ∈ gw := sorry
theorem wl_Su_194 : Cond.methodLink "jdk/internal/util/ArraysSupport" 194 Lib.Math.max.name ∈ gw := sorry
theorem wc_Su_200 : Cond.constant "jdk/internal/util/ArraysSupport" 200 2147483639 ∈ gw := sorry
theorem wc_Ab_39 : Cond.constant "java/lang/AbstractStringBuilder" 39 2147483647 ∈ gw := sorry
theorem wl_Ab_108 : Cond.methodLink "java/lang/AbstractStringBuilder" 108 y_Ar_copyOf121 ∈ gw := sorry
theorem wk_Ar_311 : Cond.classLink "java/util/Arrays" 311 "[B" ∈ gw := sorry
theorem wl_Ar_304 : Cond.methodLink "java/util/Arrays" 304 Lib.Math.min.name ∈ gw := sorry
theorem wl_Ar_150 : Cond.methodLink "java/util/Arrays" 150 arraycopyName ∈ gw := sorry
theorem wl_Ab_83 : Cond.methodLink "java/lang/AbstractStringBuilder" 83 y_Ab_isLatin168 ∈ gw := sorry
theorem wl_Ab_191 : Cond.methodLink "java/lang/AbstractStringBuilder" 191 y_L1_canEncode3 ∈ gw := sorry
theorem wl_Rp_31 : Cond.methodLink "OriginDesk$Representation" 31 y_Sb_append15 ∈ gw := sorry
theorem wl_Sb_53 : Cond.methodLink "java/lang/StringBuilder" 53 y_Ab_append32 ∈ gw := sorry
theorem wl_Ab_245 : Cond.methodLink "java/lang/AbstractStringBuilder" 245 y_In_stringSize13 ∈ gw := sorry
theorem wl_Ab_248 : Cond.methodLink "java/lang/AbstractStringBuilder" 248 y_In_getChars12 ∈ gw := sorry
theorem wl_Rp_34 : Cond.methodLink "OriginDesk$Representation" 34 y_Sb_toString42 ∈ gw := sorry
theorem wk_Sb_18 : Cond.classLink "java/lang/StringBuilder" 18 "java/lang/String" ∈ gw := sorry
theorem wn_St : Cond.instantiable "java/lang/String" 4 ∈ gw := sorry
theorem wl_Sb_137 : Cond.methodLink "java/lang/StringBuilder" 137 y_St_init53 ∈ gw := sorry
theorem wl_St_489 : Cond.methodLink "java/lang/String" 489 y_St_init150 ∈ gw := sorry
theorem wl_St_1 : Cond.methodLink "java/lang/String" 1 Lib.objectInit ∈ gw := sorry
theorem wl_St_552 : Cond.methodLink "java/lang/String" 552 y_Ab_getValue64 ∈ gw := sorry
theorem wl_St_549 : Cond.methodLink "java/lang/String" 549 y_Ab_length6 ∈ gw := sorry
theorem wl_Sb_343 : Cond.methodLink "java/lang/StringBuilder" 343 y_Ab_length6 ∈ gw := sorry
theorem wl_St_1047 : Cond.methodLink "java/lang/String" 1047 y_Ab_isLatin168 ∈ gw := sorry
theorem wl_St_54 : Cond.methodLink "java/lang/String" 54 y_Ar_copyOfRange132 ∈ gw := sorry
theorem wl_Ar_339 : Cond.methodLink "java/util/Arrays" 339 y_Ar_copyOfRangeByte133 ∈ gw := sorry
theorem wl_Ar_343 : Cond.methodLink "java/util/Arrays" 343 y_Ar_checkLength131 ∈ gw := sorry
theorem wl_U6_126 : Cond.methodLink "java/lang/StringUTF16" 126 y_Ar_copyOfRange132 ∈ gw := sorry
theorem wl_L1_92 : Cond.methodLink "java/lang/StringLatin1" 92 Lib.Math.max.name ∈ gw := sorry
theorem wl_L1_38 : Cond.methodLink "java/lang/StringLatin1" 38 Lib.Math.min.name ∈ gw := sorry
theorem wl_U6_224 : Cond.methodLink "java/lang/StringUTF16" 224 Lib.Math.max.name ∈ gw := sorry
theorem wl_U6_183 : Cond.methodLink "java/lang/StringUTF16" 183 Lib.Math.min.name ∈ gw := sorry
theorem wc_U6_227 : Cond.constant "java/lang/StringUTF16" 227 65536 ∈ gw := sorry
theorem wc_Ch_110 : Cond.constant "java/lang/Character" 110 55232 ∈ gw := sorry
theorem wc_Ch_76 : Cond.constant "java/lang/Character" 76 56320 ∈ gw := sorry
theorem wl_Ra_57 : Cond.methodLink "OriginDesk$Ranges" 57 Lib.Math.max.name ∈ gw := sorry
theorem wl_Ra_67 : Cond.methodLink "OriginDesk$Ranges" 67 Lib.Math.min.name ∈ gw := sorry
theorem wl_Rs_89 : Cond.methodLink "OriginDesk$Response" 89 y_Sb_setLength89 ∈ gw := sorry
theorem wl_Sb_333 : Cond.methodLink "java/lang/StringBuilder" 333 y_Ab_setLength13 ∈ gw := sorry
theorem wl_Rs_95 : Cond.methodLink "OriginDesk$Response" 95 y_Sb_append7 ∈ gw := sorry
theorem wl_Sb_29 : Cond.methodLink "java/lang/StringBuilder" 29 y_Ab_append22 ∈ gw := sorry
theorem wl_Ab_208 : Cond.methodLink "java/lang/AbstractStringBuilder" 208 y_Ab_putStringAt73 ∈ gw := sorry
theorem wl_Ab_397 : Cond.methodLink "java/lang/AbstractStringBuilder" 397 y_Ab_inflateIfNeededFor71 ∈ gw := sorry
theorem wl_Ab_399 : Cond.methodLink "java/lang/AbstractStringBuilder" 399 y_St_getBytes147 ∈ gw := sorry
theorem wl_St_212 : Cond.methodLink "java/lang/String" 212 arraycopyName ∈ gw := sorry
theorem wl_Rs_99 : Cond.methodLink "OriginDesk$Response" 99 y_Sb_append15 ∈ gw := sorry
theorem wl_Rs_102 : Cond.methodLink "OriginDesk$Response" 102 y_Sb_append14 ∈ gw := sorry
theorem wl_Rs_81 : Cond.methodLink "OriginDesk$Response" 81 y_Sb_length93 ∈ gw := sorry
theorem wl_Rs_84 : Cond.methodLink "OriginDesk$Response" 84 y_Sb_charAt88 ∈ gw := sorry
theorem wl_Sb_329 : Cond.methodLink "java/lang/StringBuilder" 329 y_Ab_charAt14 ∈ gw := sorry
theorem wl_Ab_138 : Cond.methodLink "java/lang/AbstractStringBuilder" 138 Lib.Math.min.name ∈ gw := sorry
theorem wn_Mo : Cond.instantiable "OriginDeskModel" 31 ∈ gw := sorry
theorem wl_Mo_1 : Cond.methodLink "OriginDeskModel" 1 Lib.objectInit ∈ gw := sorry
theorem wa_boolean : Cond.arrayClass .boolean ∈ gw := sorry
theorem wa_long : Cond.arrayClass .long ∈ gw := sorry
def fl_Ab : List Cond := [.fieldLink "java/lang/AbstractStringBuilder" 15 "java/lang/AbstractStringBuilder" "value" "[B", .fieldLink "java/lang/AbstractStringBuilder" 22 "java/lang/AbstractStringBuilder" "coder" "B", .fieldLink "java/lang/AbstractStringBuilder" 73 "java/lang/AbstractStringBuilder" "maybeLatin1" "Z", .fieldLink "java/lang/AbstractStringBuilder" 79 "java/lang/AbstractStringBuilder" "count" "I"]
theorem fl_Ab_in : ∀ w ∈ fl_Ab, w ∈ gw := sorry
def ft_Ab : List (Nat × Nat × Nat × Nat) := [(15, 11, 0, 0), (22, 11, 1, 0), (73, 11, 2, 0), (79, 11, 3, 0)]
theorem ft_Ab_b : ft_Ab.all (ft_b "java/lang/AbstractStringBuilder" fl_Ab) = true := sorry
def fl_St : List Cond := [.fieldLink "java/lang/String" 9 "java/lang/String" "value" "[B", .fieldLink "java/lang/String" 15 "java/lang/String" "coder" "B"]
theorem fl_St_in : ∀ w ∈ fl_St, w ∈ gw := sorry
def ft_St : List (Nat × Nat × Nat × Nat) := [(9, 10, 0, 1), (15, 10, 1, 1)]
theorem ft_St_b : ft_St.all (ft_b "java/lang/String" fl_St) = true := sorry
theorem wm_obj : Cond.instanceMethod Lib.objectInit ∈ gw ∧ Cond.code Lib.objectInit ⟨#[0xb1]⟩ 1 none ∈ gw := sorry
section
variable {p : Program} {l : Launch} {e : Env} {R : Room} {s : State} {m : MethodId} {args : Array Value} {below : List Frame} {meth : Method} {c : Code} {cc : ByteArray} {nL : Nat} {D : va_G} {tys : List (ClassId × FieldType)} {A : Nat → Prop} {tc : Nat → ClassId} {Q : State → Prop} {st rest : List Value} {k n mc ms : Nat} {K : List Value → va_W → Nat → Nat → Prop} {y0 y x : MethodName} {b0 bytes : ByteArray} {n0 index maxL nA fr lo : Nat} {r0 ret : Option FieldType} {own owner C : String} {ws wc wr : va_W} {b : Nat} {As : List Value} {post : Option Value → va_W → Prop} {F : (Nat → Prop) → State → Heap → Prop}
theorem sx_obj (hC : Cx p s m args c cc nL own (yw y0 b0 n0 r0) D cls tys A tc) (hl : Cond.methodLink own index Lib.objectInit ∈ gw) {a : Nat} (hfr : 1 ≤ R.frames) (hlo : (rest.map fun v => v.category).sum + 12 ≤ R.locals) (kk : K rest ws k n) : vx_SX cc (Vx p l e R s m args below meth c nL D cls A Q) (.invokespecial index) 3 (.ref a :: rest) ws k n K := sorry
theorem cw_SU (h : wm y bytes maxL ret nA) (hl : Cond.methodLink own index y ∈ gw) (hsm : Cond.sameMethod y.cls y.cls y.name y.desc ∈ gw) (hsu : Cond.superclass own y.cls ∈ gw) (hi : Cond.instanceMethod y ∈ gw) (hn : y.name ≠ "<init>") (ht : ∀ w ∈ yw y0 b0 n0 r0, w.before args s = true) (hR : fr + 1 ≤ R.frames ∧ 8 + (maxL + 11) + lo ≤ R.locals) : va_CS R s args own index y bytes maxL ret (yw y bytes maxL ret) { frames := fr, cells := mc, slots := ms, locals := lo } mc ms nA := sorry
theorem cw_U2 {b2 : ByteArray} {n2 : Nat} {r2 : Option FieldType} (h : wm y bytes maxL ret nA) (hl : Cond.methodLink own index x ∈ gw) (hsm : Cond.sameMethod x.cls owner x.name x.desc ∈ gw) (hi : Cond.instanceMethod y ∈ gw) (hs : Cond.selects C x y ∈ gw) (hd1 : Cond.instanceMethod ⟨owner, x.name, x.desc⟩ ∈ gw) (hd2 : Cond.code ⟨owner, x.name, x.desc⟩ b2 n2 r2 ∈ gw) (hxd : (parseMethodDescriptor x.desc).map (fun d => d.parameters.length) = some nA) (ht : ∀ w ∈ yw y0 b0 n0 r0, w.before args s = true) (hod : owner ≠ "java/lang/invoke/MethodHandle" ∧ owner ≠ "java/lang/invoke/VarHandle") (hR : fr + 1 ≤ R.frames ∧ 8 + (maxL + 11) + lo ≤ R.locals) : va_CU R s args own C owner index x y bytes maxL ret (yw y bytes maxL ret) { frames := fr, cells := mc, slots := ms, locals := lo } mc ms nA := sorry
set_option maxHeartbeats 1000000 in
/-- super.m(..) -/
theorem sx_callSU (hC : Cx p s m args c cc nL own (yw y0 b0 n0 r0) D cls tys A tc) (hk : Kt l y (yw y bytes maxL ret) fr lo mc ms D cls tys F (.ref b :: As) wc post) (cw : va_CS R s args own index y bytes maxL ret (yw y bytes maxL ret) { frames := fr, cells := mc, slots := ms, locals := lo } mc ms nA)
    (isC isR : List Nat) (hc : isC.map (fun i => ws[i]?) = wc.map some) (hr : isR.map (fun i => ws[i]?) = wr.map some) (hnC : va_nd isC = true) (hn : va_nd isR = true) (hdis : ∀ i ∈ isR, i ∉ isC)
    {q0 ci : Nat} {fs : List Value} {rc : vw_C} (hq : wc[q0]? = some (b, .inr (ci, fs))) (hci : cls[ci]? = some rc) (hF : ∀ (H : Heap) (locs : List Loc), va_P D cls ws H → va_D A ws → va_S A s.heap H locs → F (va_A wc H.size) s H)
    (hlen : As.length = nA) (hst : st = As.reverse ++ .ref b :: rest) (hW : (rest.map fun v => v.category).sum ≤ 8) (hf : k + mc ≤ R.cells ∧ n + ms ≤ R.slots)
    (kk : ∀ (r : Option Value) (w1 : va_W), post r w1 → K (r.toList ++ rest) (wr ++ w1) (k + mc) (n + ms)) :
    vx_SX cc (Vx p l e R s m args below meth c nL D cls A Q) (.invokespecial index) 3 st ws k n K := sorry
set_option maxHeartbeats 1000000 in
/-- a constructor of a nest mate -/
theorem sx_callIN {host : String} (hC : Cx p s m args c cc nL own (yw y0 b0 n0 r0) D cls tys A tc) (hk : Kt l y (yw y bytes maxL none) fr lo mc ms D cls tys F (.ref b :: As) wc post) (hnw : va_Nw (.methodLinkNest own index y host) s) (hwm : wm y bytes maxL none nA) (hi : Cond.instanceMethod y ∈ gw) (hyn : y.name = "<init>") (hR : fr + 1 ≤ R.frames ∧ 8 + (maxL + 11) + lo ≤ R.locals)
    (isC isR : List Nat) (hc : isC.map (fun i => ws[i]?) = wc.map some) (hr : isR.map (fun i => ws[i]?) = wr.map some) (hnC : va_nd isC = true) (hn : va_nd isR = true) (hdis : ∀ i ∈ isR, i ∉ isC)
    (hF : ∀ (H : Heap) (locs : List Loc), va_P D cls ws H → va_D A ws → va_S A s.heap H locs → F (va_A wc H.size) s H)
    (hlen : As.length = nA) (hst : st = As.reverse ++ .ref b :: rest) (hW : (rest.map fun v => v.category).sum ≤ 8) (hf : k + mc ≤ R.cells ∧ n + ms ≤ R.slots)
    (kk : ∀ (r : Option Value) (w1 : va_W), post r w1 → K (r.toList ++ rest) (wr ++ w1) (k + mc) (n + ms)) :
    vx_SX cc (Vx p l e R s m args below meth c nL D cls A Q) (.invokespecial index) 3 st ws k n K := sorry
end
end
section
/-! THE JDK's StringBuilder: its world, small methods, by program (wip/whole/gen/p78.py) -/
/-- a builder: its bytes and how many of them count -/
def sbW (tc : Nat → ClassId) (b v : Nat) (ml : Int32) (n m : Nat) (a : Nat → Int32) : va_W := [(b, .inr (11, [.ref v, .int 0, .int ml, .int (nI n)])), (v, .inl (tc 1, m, .inl a))]
/-- the bytes say the list -/
def sbI (a : Nat → Int32) (L : List Nat) : Prop := (∀ x ∈ L, x < 256) ∧ ∀ j, j < L.length → a j = sb_b (L.getD j 0)
/-- the cells are a builder that says L -/
def sbO (tc : Nat → ClassId) (b : Nat) (L : List Nat) (w : va_W) : Prop := ∃ (v : Nat) (ml : Int32) (m : Nat) (a : Nat → Int32), w = sbW tc b v ml L.length m a ∧ sbI a L ∧ sb_Fit a ∧ L.length ≤ m ∧ 16 ≤ m ∧ m ≤ 100
theorem sbI_app {a a2 : Nat → Int32} {L B : List Nat} (h : sbI a L) (hB : ∀ x ∈ B, x < 256) (h1 : ∀ j, j < L.length → a2 j = a j) (h2 : ∀ i, i < B.length → a2 (L.length + i) = sb_b (B.getD i 0)) : sbI a2 (L ++ B) := sorry
theorem vb_b (c : Nat) : vp_nar .byte (sb_b c) = sb_b c := sorry
section
variable {p : Program} {l : Launch} {e : Env} {R : Room} {s : State} {m : MethodId} {args : Array Value} {below : List Frame} {meth : Method} {c : Code} {cc : ByteArray} {nL : Nat} {D : va_G} {tys : List (ClassId × FieldType)} {A : Nat → Prop} {tc : Nat → ClassId} {Q : State → Prop} {st rest : List Value} {k n mc ms : Nat} {post : Option Value → va_W → Prop} {F : (Nat → Prop) → State → Heap → Prop} {ret : Option FieldType} {K : List Value → va_W → Nat → Nat → Prop} {x y y0 : MethodName} {bytes b0 : ByteArray} {maxL n0 index nA fr lo : Nat} {r0 : Option FieldType} {b : Nat} {As : List Value} {own C owner : String}
theorem bx_call {ci h : Nat} {fs : List Value} {q1 : Nat × va_E} {rc : vw_C} (hC : Cx p s m args c cc nL own (yw y0 b0 n0 r0) D cls tys A tc) (hk : Kt l y (yw y bytes maxL ret) fr lo mc ms D cls tys F (.ref h :: As) [(h, .inr (ci, fs)), q1] post) (hF : F A s s.heap) (cw : CallW R s args own C index y bytes maxL ret (yw y bytes maxL ret) { frames := fr, cells := mc, slots := ms, locals := lo } mc ms nA) (h1 : cls[ci]? = some rc) (h2 : rc.1 = C) (hlen : As.length = nA) (hst : st = As.reverse ++ .ref h :: rest) (hW : (rest.map fun v => v.category).sum ≤ 8) (hkn : k + mc ≤ R.cells ∧ n + ms ≤ R.slots)
    (kk : ∀ (r : Option Value) (w1 : va_W), post r w1 → K (r.toList ++ rest) w1 (k + mc) (n + ms)) : vx_SX cc (Vx p l e R s m args below meth c nL D cls A Q) (.invokevirtual index) 3 st [(h, .inr (ci, fs)), q1] k n K := sorry
theorem bx_super {ci h : Nat} {fs : List Value} {q1 : Nat × va_E} {rc : vw_C} (hC : Cx p s m args c cc nL own (yw y0 b0 n0 r0) D cls tys A tc) (hk : Kt l y (yw y bytes maxL ret) fr lo mc ms D cls tys F (.ref h :: As) [(h, .inr (ci, fs)), q1] post) (hF : F A s s.heap) (cw : va_CS R s args own index y bytes maxL ret (yw y bytes maxL ret) { frames := fr, cells := mc, slots := ms, locals := lo } mc ms nA) (h1 : cls[ci]? = some rc) (hlen : As.length = nA) (hst : st = As.reverse ++ .ref h :: rest) (hW : (rest.map fun v => v.category).sum ≤ 8) (hkn : k + mc ≤ R.cells ∧ n + ms ≤ R.slots)
    (kk : ∀ (r : Option Value) (w1 : va_W), post r w1 → K (r.toList ++ rest) w1 (k + mc) (n + ms)) : vx_SX cc (Vx p l e R s m args below meth c nL D cls A Q) (.invokespecial index) 3 st [(h, .inr (ci, fs)), q1] k n K := sorry
end
theorem ng10 (x : Nat) : (10 : Int32) * (-nI x) = -nI (10 * x) := sorry
theorem dg_at {v i : Nat} (h1 : 1 ≤ i) (h2 : i ≤ 9) (h3 : i = 1 ∨ 10 ^ (i - 1) ≤ v) (h4 : v < 10 ^ i) : sb_dg v = i := sorry
theorem dg_10 {v : Nat} (h : 10 ^ 9 ≤ v) : sb_dg v = 10 := sorry
theorem dec_dg : ∀ v : Nat, v < 2 ^ 31 → (dec v).length = sb_dg v := sorry
theorem dec_b : ∀ v : Nat, v < 2 ^ 31 → ∀ x ∈ dec v, x < 256 := sorry
theorem dec_100 {v : Nat} (h : 100 ≤ v) (hv : v < 2 ^ 31) : dec v = dec (v / 100) ++ [48 + v % 100 / 10, 48 + v % 100 % 10] := sorry
theorem dec_2 {v : Nat} (h : 10 ≤ v) (h2 : v < 100) : dec v = [48 + v / 10, 48 + v % 10] := sorry
/-- the tables of digits -/
def dgF : (Nat → Prop) → State → Heap → Prop := fun A U H => ∃ d1 d2 : Nat, (va_Z "java/lang/Integer" "DigitOnes" "[B" (.ref d1) A U H ∧ va_T .byte d1 100 (fun j => .int (sb_b (48 + j % 10))) A U H) ∧ (va_Z "java/lang/Integer" "DigitTens" "[B" (.ref d2) A U H ∧ va_T .byte d2 100 (fun j => .int (sb_b (48 + j / 10))) A U H)
theorem dgF_ro : RO dgF := sorry
set_option maxRecDepth 100000 in
set_option maxHeartbeats 4000000 in
theorem c_L1_canEncode3 (l : Launch) (D : va_G) (tys : List (ClassId × FieldType)) (tc : Nat → ClassId) (hty : ∀ i : Nat, i < 4 → tys[i]? = some (tc i, vx_ty i)) (c : Nat) (hc : c < 256) : Kt l y_L1_canEncode3 (yw y_L1_canEncode3 b_L1_canEncode3 1 (some .boolean)) 0 0 0 0 D cls tys (fun _ _ _ => True) [.int (nI c)] [] (fun r w => r = some (.int 1) ∧ w = []) := sorry
set_option maxRecDepth 100000 in
set_option maxHeartbeats 4000000 in
theorem c_In_stringSize13 (l : Launch) (D : va_G) (tys : List (ClassId × FieldType)) (tc : Nat → ClassId) (hty : ∀ i : Nat, i < 4 → tys[i]? = some (tc i, vx_ty i)) (v : Nat) (hv : v < 2 ^ 31) : Kt l y_In_stringSize13 (yw y_In_stringSize13 b_In_stringSize13 4 (some .int)) 0 0 0 0 D cls tys (fun _ _ _ => True) [.int (nI v)] [] (fun r w => r = some (.int (nI (sb_dg v))) ∧ w = []) := sorry
/-- what getChars has laid so far: the digits of w9 are those of w and the tail, which lies from q on -/
def gcI (a : Nat → Int32) (w9 p w q : Nat) (a2 : Nat → Int32) : Prop := ∃ tl : List Nat, dec w9 = dec w ++ tl ∧ q + tl.length = p ∧ (∀ j, j < q ∨ p ≤ j → a2 j = a j) ∧ (∀ i, i < tl.length → a2 (q + i) = sb_b (tl.getD i 0)) ∧ (sb_Fit a → sb_Fit a2)
def gcP (a : Nat → Int32) (w9 p : Nat) (a2 : Nat → Int32) : Prop := (∀ j, j < p - (dec w9).length ∨ p ≤ j → a2 j = a j) ∧ (∀ i, i < (dec w9).length → a2 (p - (dec w9).length + i) = sb_b ((dec w9).getD i 0)) ∧ (sb_Fit a → sb_Fit a2)
theorem gc_two {a a2 : Nat → Int32} {w9 p w q : Nat} (h : gcI a w9 p w q a2) (h1 : 100 ≤ w) (h2 : w < 2 ^ 31) (hq : 2 ≤ q) : gcI a w9 p (w / 100) (q - 2) (upd (upd a2 (q - 1) (sb_b (48 + w % 100 % 10))) (q - 2) (sb_b (48 + w % 100 / 10))) := sorry
theorem gc_fin {a a2 : Nat → Int32} {w9 p w q : Nat} {B : List Nat} {a3 : Nat → Int32} (h : gcI a w9 p w q a2) (hB : dec w = B) (hq : B.length ≤ q) (h1 : ∀ j, j < q - B.length ∨ q ≤ j → a3 j = a2 j) (h2 : ∀ i, i < B.length → a3 (q - B.length + i) = sb_b (B.getD i 0)) (h3 : sb_Fit a2 → sb_Fit a3) : gcP a w9 p a3 := sorry
theorem gc_one {a a2 : Nat → Int32} {w9 p w q : Nat} (h : gcI a w9 p w q a2) (h1 : w < 10) (hq : 1 ≤ q) : gcP a w9 p (upd a2 (q - 1) (sb_b (48 + w % 10))) := sorry
theorem gc_2 {a a2 : Nat → Int32} {w9 p w q : Nat} (h : gcI a w9 p w q a2) (h1 : 10 ≤ w) (h2 : w < 100) (hq : 2 ≤ q) : gcP a w9 p (upd (upd a2 (q - 1) (sb_b (48 + w % 10))) (q - 2) (sb_b (48 + w / 10))) := sorry
theorem gcI_len {a a2 : Nat → Int32} {w9 p w q : Nat} (h : gcI a w9 p w q a2) (hp : (dec w9).length ≤ p) : (dec w).length ≤ q := sorry
theorem nn_w (w : Nat) : -(-nI w) = nI w := sorry
theorem m1_q {q : Nat} (h : 1 ≤ q) : nI q + (-1) = nI (q - 1) := sorry
theorem m1_q2 {q : Nat} (h : 2 ≤ q) : nI (q - 1) + (-1) = nI (q - 2) := sorry
set_option maxRecDepth 100000 in
set_option maxHeartbeats 4000000 in
theorem c_In_getChars12 (l : Launch) (D : va_G) (tys : List (ClassId × FieldType)) (tc : Nat → ClassId) (hty : ∀ i : Nat, i < 4 → tys[i]? = some (tc i, vx_ty i)) (v M9 : Nat) (a : Nat → Int32) (w9 p9 : Nat) (hw9 : w9 < 2 ^ 31) (hm : p9 ≤ M9 ∧ M9 < 2 ^ 31) (hlen : (dec w9).length ≤ p9) : Kt l y_In_getChars12 (yw y_In_getChars12 b_In_getChars12 7 (some .int)) 0 0 0 0 D cls tys dgF [.int (nI w9), .int (nI p9), .ref v] [(v, .inl (tc 1, M9, .inl a))] (fun r w => (∃ z, r = some (.int z)) ∧ ∃ a2, w = [(v, .inl (tc 1, M9, .inl a2))] ∧ gcP a w9 p9 a2) := sorry
end
section
/-! THE JDK's StringBuilder: it grows, it takes characters, numbers, texts, by program (wip/whole/gen/p79.py) -/
def capN (M q : Nat) : Nat := M + (if q - M < M + 2 then M + 2 else q - M)
theorem cap_if {M q : Nat} (h1 : M < q) (h2 : q ≤ 48) : (if nI (q - M) < nI (M + 2) then nI (M + 2) else nI (q - M)) = nI (if q - M < M + 2 then M + 2 else q - M) := sorry
theorem cap_le {M q : Nat} (h1 : M < q) (h2 : q ≤ 48) : q ≤ capN M q ∧ M < capN M q ∧ capN M q ≤ 100 := sorry
theorem sub_le0 {q M : Nat} (hq : q < 2 ^ 30) (hM : M < 2 ^ 30) : nI q - nI M ≤ 0 ↔ q ≤ M := sorry
section
variable {p : Program} {l : Launch} {e : Env} {R : Room} {s : State} {m : MethodId} {args : Array Value} {below : List Frame} {meth : Method} {c : Code} {cc : ByteArray} {nL : Nat} {D : va_G} {tys : List (ClassId × FieldType)} {A : Nat → Prop} {tc : Nat → ClassId} {Q : State → Prop} {st rest : List Value} {k n mc ms : Nat} {post : Option Value → va_W → Prop} {F : (Nat → Prop) → State → Heap → Prop} {ret : Option FieldType} {K : List Value → va_W → Nat → Nat → Prop} {y y0 : MethodName} {bytes b0 : ByteArray} {maxL n0 index nA fr lo : Nat} {r0 : Option FieldType} {b : Nat} {As : List Value} {own : String} {ws wc wr : va_W}
set_option maxHeartbeats 1000000 in
/-- a virtual method on an object that is only read -/
theorem callvR (hC : Cx p s m args c cc nL own (yw y0 b0 n0 r0) D cls tys A tc) (hk : Kt l y (yw y bytes maxL ret) fr lo mc ms D cls tys F (.ref b :: As) wc post) (hFc : F A s s.heap) (hO : va_O y.cls b A s s.heap) (hwm : wm y bytes maxL ret nA) (hl : Cond.methodLink own index y ∈ gw) (hi : Cond.instanceMethod y ∈ gw) (hs : Cond.selects y.cls y y ∈ gw) (hR : fr + 1 ≤ R.frames ∧ 8 + (maxL + 11) + lo ≤ R.locals)
    (isC isR : List Nat) (hc : isC.map (fun i => ws[i]?) = wc.map some) (hr : isR.map (fun i => ws[i]?) = wr.map some) (hnC : va_nd isC = true) (hn : va_nd isR = true) (hdis : ∀ i ∈ isR, i ∉ isC) (hlen : As.length = nA) (hst : st = As.reverse ++ .ref b :: rest) (hW : (rest.map fun v => v.category).sum ≤ 8) (hkn : k + mc ≤ R.cells ∧ n + ms ≤ R.slots)
    (kk : ∀ (r : Option Value) (w1 : va_W), post r w1 → K (r.toList ++ rest) (wr ++ w1) (k + mc) (n + ms)) : vx_SX cc (Vx p l e R s m args below meth c nL D cls A Q) (.invokevirtual index) 3 st ws k n K := sorry
end
set_option maxRecDepth 100000 in
set_option maxHeartbeats 4000000 in
theorem c_Su_newLength27 (l : Launch) (D : va_G) (tys : List (ClassId × FieldType)) (tc : Nat → ClassId) (hty : ∀ i : Nat, i < 4 → tys[i]? = some (tc i, vx_ty i)) (M9 q9 : Nat) (hm : M9 < q9) (hq : q9 ≤ 48) : Kt l y_Su_newLength27 (yw y_Su_newLength27 b_Su_newLength27 4 (some .int)) 1 30 0 0 D cls tys (fun _ _ _ => True) [.int (nI M9), .int (nI (q9 - M9)), .int (nI (M9 + 2))] [] (fun r w => r = some (.int (nI (capN M9 q9))) ∧ w = []) := sorry
set_option maxRecDepth 100000 in
set_option maxHeartbeats 4000000 in
theorem c_Ab_newCapacity10 (l : Launch) (D : va_G) (tys : List (ClassId × FieldType)) (tc : Nat → ClassId) (hty : ∀ i : Nat, i < 4 → tys[i]? = some (tc i, vx_ty i)) (b v : Nat) (ml : Int32) (n9 M9 : Nat) (a : Nat → Int32) (q9 : Nat) (hm : M9 < q9) (hq : q9 ≤ 48) : Kt l y_Ab_newCapacity10 (yw y_Ab_newCapacity10 b_Ab_newCapacity10 6 (some .int)) 2 53 0 0 D cls tys (fun _ _ _ => True) [.ref b, .int (nI q9)] (sbW tc b v ml n9 M9 a) (fun r w => r = some (.int (nI (capN M9 q9))) ∧ w = (sbW tc b v ml n9 M9 a)) := sorry
set_option maxRecDepth 100000 in
set_option maxHeartbeats 4000000 in
theorem c_Ar_copyOf121 (l : Launch) (D : va_G) (tys : List (ClassId × FieldType)) (tc : Nat → ClassId) (hty : ∀ i : Nat, i < 4 → tys[i]? = some (tc i, vx_ty i)) (v M9 : Nat) (a : Nat → Int32) (q9 : Nat) (hm : M9 < q9) (hq : q9 ≤ 100) (hf : sb_Fit a) : Kt l y_Ar_copyOf121 (yw y_Ar_copyOf121 b_Ar_copyOf121 3 (some (.array .byte))) 1 60 1 100 D cls tys (fun _ _ _ => True) [.ref v, .int (nI q9)] [(v, .inl (tc 1, M9, .inl a))] (fun r w => ∃ v2, r = some (.ref v2) ∧ w = [(v, .inl (tc 1, M9, .inl a)), (v2, .inl (tc 1, q9, .inl (va_cpy a (fun _ => 0) 0 0 M9)))]) := sorry
set_option maxRecDepth 100000 in
set_option maxHeartbeats 4000000 in
theorem c_Ab_isLatin168 (l : Launch) (D : va_G) (tys : List (ClassId × FieldType)) (tc : Nat → ClassId) (hty : ∀ i : Nat, i < 4 → tys[i]? = some (tc i, vx_ty i)) (b v : Nat) (ml : Int32) (n9 M9 : Nat) (a : Nat → Int32) : Kt l y_Ab_isLatin168 (yw y_Ab_isLatin168 b_Ab_isLatin168 1 (some .boolean)) 0 0 0 0 D cls tys csF [.ref b] (sbW tc b v ml n9 M9 a) (fun r w => r = some (.int 1) ∧ w = (sbW tc b v ml n9 M9 a)) := sorry
set_option maxRecDepth 100000 in
set_option maxHeartbeats 4000000 in
theorem c_Ab_ensureCapacityInternal9 (l : Launch) (D : va_G) (tys : List (ClassId × FieldType)) (tc : Nat → ClassId) (hty : ∀ i : Nat, i < 4 → tys[i]? = some (tc i, vx_ty i)) (b v : Nat) (ml : Int32) (n9 M9 : Nat) (a : Nat → Int32) (q9 : Nat) (hm : M9 ≤ 100) (hq : q9 ≤ 48) (hf : sb_Fit a) : Kt l y_Ab_ensureCapacityInternal9 (yw y_Ab_ensureCapacityInternal9 b_Ab_ensureCapacityInternal9 3 none) 3 82 1 100 D cls tys (fun _ _ _ => True) [.ref b, .int (nI q9)] (sbW tc b v ml n9 M9 a) (fun r w => r = none ∧ ∃ v2 m2 a2, w = (sbW tc b v2 ml n9 m2 a2) ∧ (∀ j, j < M9 → a2 j = a j) ∧ sb_Fit a2 ∧ q9 ≤ m2 ∧ M9 ≤ m2 ∧ m2 ≤ 100) := sorry
set_option maxRecDepth 100000 in
set_option maxHeartbeats 4000000 in
theorem c_Ab_append31 (l : Launch) (D : va_G) (tys : List (ClassId × FieldType)) (tc : Nat → ClassId) (hty : ∀ i : Nat, i < 4 → tys[i]? = some (tc i, vx_ty i)) (b v : Nat) (ml : Int32) (M9 : Nat) (a : Nat → Int32) (L : List Nat) (hL : sbI a L) (hf : sb_Fit a) (hm : L.length ≤ M9 ∧ 16 ≤ M9 ∧ M9 ≤ 100) (c : Nat) (hc : c < 256) (hn : L.length + 1 ≤ 48) : Kt l y_Ab_append31 (yw y_Ab_append31 b_Ab_append31 2 (some (.object "java/lang/AbstractStringBuilder"))) 4 104 1 100 D cls tys csF [.ref b, .int (nI c)] (sbW tc b v ml L.length M9 a) (fun r w => r = some (.ref b) ∧ sbO tc b (L ++ [c]) w) := sorry
set_option maxRecDepth 100000 in
set_option maxHeartbeats 4000000 in
theorem c_Sb_append14 (l : Launch) (D : va_G) (tys : List (ClassId × FieldType)) (tc : Nat → ClassId) (hty : ∀ i : Nat, i < 4 → tys[i]? = some (tc i, vx_ty i)) (b v : Nat) (ml : Int32) (M9 : Nat) (a : Nat → Int32) (L : List Nat) (hL : sbI a L) (hf : sb_Fit a) (hm : L.length ≤ M9 ∧ 16 ≤ M9 ∧ M9 ≤ 100) (c : Nat) (hc : c < 256) (hn : L.length + 1 ≤ 48) : Kt l y_Sb_append14 (yw y_Sb_append14 b_Sb_append14 2 (some (.object "java/lang/StringBuilder"))) 5 125 1 100 D cls tys csF [.ref b, .int (nI c)] (sbW tc b v ml L.length M9 a) (fun r w => r = some (.ref b) ∧ sbO tc b (L ++ [c]) w) := sorry
set_option maxRecDepth 100000 in
set_option maxHeartbeats 4000000 in
theorem c_Ab_append32 (l : Launch) (D : va_G) (tys : List (ClassId × FieldType)) (tc : Nat → ClassId) (hty : ∀ i : Nat, i < 4 → tys[i]? = some (tc i, vx_ty i)) (b v : Nat) (ml : Int32) (M9 : Nat) (a : Nat → Int32) (L : List Nat) (hL : sbI a L) (hf : sb_Fit a) (hm : L.length ≤ M9 ∧ 16 ≤ M9 ∧ M9 ≤ 100) (w9 : Nat) (hw9 : w9 < 2 ^ 31) (hn : L.length + (dec w9).length ≤ 48) : Kt l y_Ab_append32 (yw y_Ab_append32 b_Ab_append32 4 (some (.object "java/lang/AbstractStringBuilder"))) 4 104 1 100 D cls tys (fun A U H => csF A U H ∧ dgF A U H) [.ref b, .int (nI w9)] (sbW tc b v ml L.length M9 a) (fun r w => r = some (.ref b) ∧ sbO tc b (L ++ dec w9) w) := sorry
set_option maxRecDepth 100000 in
set_option maxHeartbeats 4000000 in
theorem c_Sb_append15 (l : Launch) (D : va_G) (tys : List (ClassId × FieldType)) (tc : Nat → ClassId) (hty : ∀ i : Nat, i < 4 → tys[i]? = some (tc i, vx_ty i)) (b v : Nat) (ml : Int32) (M9 : Nat) (a : Nat → Int32) (L : List Nat) (hL : sbI a L) (hf : sb_Fit a) (hm : L.length ≤ M9 ∧ 16 ≤ M9 ∧ M9 ≤ 100) (w9 : Nat) (hw9 : w9 < 2 ^ 31) (hn : L.length + (dec w9).length ≤ 48) : Kt l y_Sb_append15 (yw y_Sb_append15 b_Sb_append15 2 (some (.object "java/lang/StringBuilder"))) 5 127 1 100 D cls tys (fun A U H => csF A U H ∧ dgF A U H) [.ref b, .int (nI w9)] (sbW tc b v ml L.length M9 a) (fun r w => r = some (.ref b) ∧ sbO tc b (L ++ dec w9) w) := sorry
end
section
/-! THE JDK's StringBuilder: texts, length, characters, a new one, its text, by program (wip/whole/gen/p80.py) -/
set_option maxRecDepth 100000 in
set_option maxHeartbeats 4000000 in
theorem c_St_getBytes147 (l : Launch) (D : va_G) (tys : List (ClassId × FieldType)) (tc : Nat → ClassId) (hty : ∀ i : Nat, i < 4 → tys[i]? = some (tc i, vx_ty i)) (t : Nat) (W : List Nat) (hWW : isW W) (v M9 : Nat) (a : Nat → Int32) (n9 : Nat) (hn : n9 + W.length ≤ M9) (hm : M9 ≤ 100) : Kt l y_St_getBytes147 (yw y_St_getBytes147 b_St_getBytes147 4 none) 1 60 0 0 D cls tys (tF t W) [.ref t, .ref v, .int (nI n9), .int 0] [(v, .inl (tc 1, M9, .inl a))] (fun r w => r = none ∧ w = [(v, .inl (tc 1, M9, .inl (va_cpy (fun j => sb_b (W.getD j 0)) a 0 n9 W.length)))]) := sorry
set_option maxRecDepth 100000 in
set_option maxHeartbeats 4000000 in
theorem c_Ab_inflateIfNeededFor71 (l : Launch) (D : va_G) (tys : List (ClassId × FieldType)) (tc : Nat → ClassId) (hty : ∀ i : Nat, i < 4 → tys[i]? = some (tc i, vx_ty i)) (b v : Nat) (ml : Int32) (n9 M9 : Nat) (a : Nat → Int32) (t : Nat) (W : List Nat) (hWW : isW W) : Kt l y_Ab_inflateIfNeededFor71 (yw y_Ab_inflateIfNeededFor71 b_Ab_inflateIfNeededFor71 2 none) 1 20 0 0 D cls tys (tF t W) [.ref b, .ref t] (sbW tc b v ml n9 M9 a) (fun r w => r = none ∧ w = (sbW tc b v ml n9 M9 a)) := sorry
set_option maxRecDepth 100000 in
set_option maxHeartbeats 4000000 in
theorem c_Ab_putStringAt73 (l : Launch) (D : va_G) (tys : List (ClassId × FieldType)) (tc : Nat → ClassId) (hty : ∀ i : Nat, i < 4 → tys[i]? = some (tc i, vx_ty i)) (b v : Nat) (ml : Int32) (n9 M9 : Nat) (a : Nat → Int32) (t : Nat) (W : List Nat) (hWW : isW W) (hn : n9 + W.length ≤ M9) (hm : M9 ≤ 100) : Kt l y_Ab_putStringAt73 (yw y_Ab_putStringAt73 b_Ab_putStringAt73 3 none) 2 83 0 0 D cls tys (tF t W) [.ref b, .int (nI n9), .ref t] (sbW tc b v ml n9 M9 a) (fun r w => r = none ∧ w = (sbW tc b v ml n9 M9 (va_cpy (fun j => sb_b (W.getD j 0)) a 0 n9 W.length))) := sorry
set_option maxRecDepth 100000 in
set_option maxHeartbeats 4000000 in
theorem c_Ab_append22 (l : Launch) (D : va_G) (tys : List (ClassId × FieldType)) (tc : Nat → ClassId) (hty : ∀ i : Nat, i < 4 → tys[i]? = some (tc i, vx_ty i)) (b v : Nat) (ml : Int32) (M9 : Nat) (a : Nat → Int32) (L : List Nat) (hL : sbI a L) (hf : sb_Fit a) (hm : L.length ≤ M9 ∧ 16 ≤ M9 ∧ M9 ≤ 100) (t : Nat) (W : List Nat) (hWW : isW W) (hn : L.length + W.length ≤ 48) : Kt l y_Ab_append22 (yw y_Ab_append22 b_Ab_append22 3 (some (.object "java/lang/AbstractStringBuilder"))) 4 105 1 100 D cls tys (tF t W) [.ref b, .ref t] (sbW tc b v ml L.length M9 a) (fun r w => r = some (.ref b) ∧ sbO tc b (L ++ W) w) := sorry
set_option maxRecDepth 100000 in
set_option maxHeartbeats 4000000 in
theorem c_Sb_append7 (l : Launch) (D : va_G) (tys : List (ClassId × FieldType)) (tc : Nat → ClassId) (hty : ∀ i : Nat, i < 4 → tys[i]? = some (tc i, vx_ty i)) (b v : Nat) (ml : Int32) (M9 : Nat) (a : Nat → Int32) (L : List Nat) (hL : sbI a L) (hf : sb_Fit a) (hm : L.length ≤ M9 ∧ 16 ≤ M9 ∧ M9 ≤ 100) (t : Nat) (W : List Nat) (hWW : isW W) (hn : L.length + W.length ≤ 48) : Kt l y_Sb_append7 (yw y_Sb_append7 b_Sb_append7 2 (some (.object "java/lang/StringBuilder"))) 5 127 1 100 D cls tys (tF t W) [.ref b, .ref t] (sbW tc b v ml L.length M9 a) (fun r w => r = some (.ref b) ∧ sbO tc b (L ++ W) w) := sorry
set_option maxRecDepth 100000 in
set_option maxHeartbeats 4000000 in
theorem c_Ab_setLength13 (l : Launch) (D : va_G) (tys : List (ClassId × FieldType)) (tc : Nat → ClassId) (hty : ∀ i : Nat, i < 4 → tys[i]? = some (tc i, vx_ty i)) (b v : Nat) (ml : Int32) (M9 : Nat) (a : Nat → Int32) (L : List Nat) (hL : sbI a L) (hf : sb_Fit a) (hm : L.length ≤ M9 ∧ 16 ≤ M9 ∧ M9 ≤ 100) : Kt l y_Ab_setLength13 (yw y_Ab_setLength13 b_Ab_setLength13 2 none) 4 104 1 100 D cls tys (fun _ _ _ => True) [.ref b, .int 0] (sbW tc b v ml L.length M9 a) (fun r w => r = none ∧ sbO tc b [] w) := sorry
set_option maxRecDepth 100000 in
set_option maxHeartbeats 4000000 in
theorem c_Sb_setLength89 (l : Launch) (D : va_G) (tys : List (ClassId × FieldType)) (tc : Nat → ClassId) (hty : ∀ i : Nat, i < 4 → tys[i]? = some (tc i, vx_ty i)) (b v : Nat) (ml : Int32) (M9 : Nat) (a : Nat → Int32) (L : List Nat) (hL : sbI a L) (hf : sb_Fit a) (hm : L.length ≤ M9 ∧ 16 ≤ M9 ∧ M9 ≤ 100) : Kt l y_Sb_setLength89 (yw y_Sb_setLength89 b_Sb_setLength89 2 none) 5 125 1 100 D cls tys (fun _ _ _ => True) [.ref b, .int 0] (sbW tc b v ml L.length M9 a) (fun r w => r = none ∧ sbO tc b [] w) := sorry
set_option maxRecDepth 100000 in
set_option maxHeartbeats 4000000 in
theorem c_Ab_length6 (l : Launch) (D : va_G) (tys : List (ClassId × FieldType)) (tc : Nat → ClassId) (hty : ∀ i : Nat, i < 4 → tys[i]? = some (tc i, vx_ty i)) (b v : Nat) (ml : Int32) (n9 M9 : Nat) (a : Nat → Int32) : Kt l y_Ab_length6 (yw y_Ab_length6 b_Ab_length6 1 (some .int)) 0 0 0 0 D cls tys (fun _ _ _ => True) [.ref b] (sbW tc b v ml n9 M9 a) (fun r w => r = some (.int (nI n9)) ∧ w = (sbW tc b v ml n9 M9 a)) := sorry
set_option maxRecDepth 100000 in
set_option maxHeartbeats 4000000 in
theorem c_Sb_length93 (l : Launch) (D : va_G) (tys : List (ClassId × FieldType)) (tc : Nat → ClassId) (hty : ∀ i : Nat, i < 4 → tys[i]? = some (tc i, vx_ty i)) (b v : Nat) (ml : Int32) (n9 M9 : Nat) (a : Nat → Int32) : Kt l y_Sb_length93 (yw y_Sb_length93 b_Sb_length93 1 (some .int)) 1 20 0 0 D cls tys (fun _ _ _ => True) [.ref b] (sbW tc b v ml n9 M9 a) (fun r w => r = some (.int (nI n9)) ∧ w = (sbW tc b v ml n9 M9 a)) := sorry
set_option maxRecDepth 100000 in
set_option maxHeartbeats 4000000 in
theorem c_Ab_getValue64 (l : Launch) (D : va_G) (tys : List (ClassId × FieldType)) (tc : Nat → ClassId) (hty : ∀ i : Nat, i < 4 → tys[i]? = some (tc i, vx_ty i)) (b v : Nat) (ml : Int32) (n9 M9 : Nat) (a : Nat → Int32) : Kt l y_Ab_getValue64 (yw y_Ab_getValue64 b_Ab_getValue64 1 (some (.array .byte))) 0 0 0 0 D cls tys (fun _ _ _ => True) [.ref b] (sbW tc b v ml n9 M9 a) (fun r w => r = some (.ref v) ∧ w = (sbW tc b v ml n9 M9 a)) := sorry
set_option maxRecDepth 100000 in
set_option maxHeartbeats 4000000 in
theorem c_Ab_charAt14 (l : Launch) (D : va_G) (tys : List (ClassId × FieldType)) (tc : Nat → ClassId) (hty : ∀ i : Nat, i < 4 → tys[i]? = some (tc i, vx_ty i)) (b v : Nat) (ml : Int32) (M9 : Nat) (a : Nat → Int32) (L : List Nat) (hL : sbI a L) (hf : sb_Fit a) (hm : L.length ≤ M9 ∧ 16 ≤ M9 ∧ M9 ≤ 100) (i : Nat) (hi : i < L.length) : Kt l y_Ab_charAt14 (yw y_Ab_charAt14 b_Ab_charAt14 5 (some .char)) 2 43 0 0 D cls tys csF [.ref b, .int (nI i)] (sbW tc b v ml L.length M9 a) (fun r w => r = some (.int (nI (L.getD i 0))) ∧ w = (sbW tc b v ml L.length M9 a)) := sorry
set_option maxRecDepth 100000 in
set_option maxHeartbeats 4000000 in
theorem c_Sb_charAt88 (l : Launch) (D : va_G) (tys : List (ClassId × FieldType)) (tc : Nat → ClassId) (hty : ∀ i : Nat, i < 4 → tys[i]? = some (tc i, vx_ty i)) (b v : Nat) (ml : Int32) (M9 : Nat) (a : Nat → Int32) (L : List Nat) (hL : sbI a L) (hf : sb_Fit a) (hm : L.length ≤ M9 ∧ 16 ≤ M9 ∧ M9 ≤ 100) (i : Nat) (hi : i < L.length) : Kt l y_Sb_charAt88 (yw y_Sb_charAt88 b_Sb_charAt88 2 (some .char)) 3 67 0 0 D cls tys csF [.ref b, .int (nI i)] (sbW tc b v ml L.length M9 a) (fun r w => r = some (.int (nI (L.getD i 0))) ∧ w = (sbW tc b v ml L.length M9 a)) := sorry
set_option maxRecDepth 100000 in
set_option maxHeartbeats 4000000 in
theorem c_Ab_init2 (l : Launch) (D : va_G) (tys : List (ClassId × FieldType)) (tc : Nat → ClassId) (hty : ∀ i : Nat, i < 4 → tys[i]? = some (tc i, vx_ty i)) (b : Nat) : Kt l y_Ab_init2 (yw y_Ab_init2 b_Ab_init2 2 none) 1 40 1 16 D cls tys csF [.ref b, .int 16] [(b, .inr (11, [.null, .int 0, .int 0, .int 0]))] (fun r w => ∃ v, r = none ∧ w = sbW tc b v 0 0 16 (fun _ => 0)) := sorry
set_option maxRecDepth 100000 in
set_option maxHeartbeats 4000000 in
theorem c_Sb_init1 (l : Launch) (D : va_G) (tys : List (ClassId × FieldType)) (tc : Nat → ClassId) (hty : ∀ i : Nat, i < 4 → tys[i]? = some (tc i, vx_ty i)) (b : Nat) : Kt l y_Sb_init1 (yw y_Sb_init1 b_Sb_init1 1 none) 2 61 1 16 D cls tys csF [.ref b] [(b, .inr (11, [.null, .int 0, .int 0, .int 0]))] (fun r w => ∃ v, r = none ∧ w = sbW tc b v 0 0 16 (fun _ => 0)) := sorry
set_option maxRecDepth 100000 in
set_option maxHeartbeats 4000000 in
theorem c_Ar_checkLength131 (l : Launch) (D : va_G) (tys : List (ClassId × FieldType)) (tc : Nat → ClassId) (hty : ∀ i : Nat, i < 4 → tys[i]? = some (tc i, vx_ty i)) (n9 : Nat) (hn : n9 < 2 ^ 31) : Kt l y_Ar_checkLength131 (yw y_Ar_checkLength131 b_Ar_checkLength131 2 none) 0 0 0 0 D cls tys (fun _ _ _ => True) [.int 0, .int (nI n9)] [] (fun r w => r = none ∧ w = []) := sorry
set_option maxRecDepth 100000 in
set_option maxHeartbeats 4000000 in
theorem c_Ar_copyOfRangeByte133 (l : Launch) (D : va_G) (tys : List (ClassId × FieldType)) (tc : Nat → ClassId) (hty : ∀ i : Nat, i < 4 → tys[i]? = some (tc i, vx_ty i)) (v M9 : Nat) (a : Nat → Int32) (n9 : Nat) (hm : n9 < M9) (hq : M9 ≤ 100) (hf : sb_Fit a) : Kt l y_Ar_copyOfRangeByte133 (yw y_Ar_copyOfRangeByte133 b_Ar_copyOfRangeByte133 5 (some (.array .byte))) 1 60 1 100 D cls tys (fun _ _ _ => True) [.ref v, .int 0, .int (nI n9)] [(v, .inl (tc 1, M9, .inl a))] (fun r w => ∃ v2, r = some (.ref v2) ∧ w = [(v, .inl (tc 1, M9, .inl a)), (v2, .inl (tc 1, n9, .inl (va_cpy a (fun _ => 0) 0 0 n9)))]) := sorry
set_option maxRecDepth 100000 in
set_option maxHeartbeats 4000000 in
theorem c_Ar_copyOfRange132 (l : Launch) (D : va_G) (tys : List (ClassId × FieldType)) (tc : Nat → ClassId) (hty : ∀ i : Nat, i < 4 → tys[i]? = some (tc i, vx_ty i)) (v M9 : Nat) (a : Nat → Int32) (n9 : Nat) (hm : n9 < M9) (hq : M9 ≤ 100) (hf : sb_Fit a) : Kt l y_Ar_copyOfRange132 (yw y_Ar_copyOfRange132 b_Ar_copyOfRange132 3 (some (.array .byte))) 2 84 1 100 D cls tys (fun _ _ _ => True) [.ref v, .int 0, .int (nI n9)] [(v, .inl (tc 1, M9, .inl a))] (fun r w => ∃ v2, r = some (.ref v2) ∧ w = [(v, .inl (tc 1, M9, .inl a)), (v2, .inl (tc 1, n9, .inl (va_cpy a (fun _ => 0) 0 0 n9)))]) := sorry
set_option maxRecDepth 100000 in
set_option maxHeartbeats 4000000 in
theorem c_St_init150 (l : Launch) (D : va_G) (tys : List (ClassId × FieldType)) (tc : Nat → ClassId) (hty : ∀ i : Nat, i < 4 → tys[i]? = some (tc i, vx_ty i)) (t : Nat) (b v : Nat) (ml : Int32) (M9 : Nat) (a : Nat → Int32) (L : List Nat) (hL : sbI a L) (hf : sb_Fit a) (hm : L.length ≤ M9 ∧ 16 ≤ M9 ∧ M9 ≤ 100) (hn : L.length < 16) : Kt l y_St_init150 (yw y_St_init150 b_St_init150 5 none) 3 106 1 100 D cls tys csF [.ref t, .ref b, .null] [(t, .inr (10, [.null, .int 0, .int 0, .int 0])), (b, .inr (11, [.ref v, .int 0, .int ml, .int (nI L.length)])), (v, .inl (tc 1, M9, .inl a))] (fun r w => ∃ v2, r = none ∧ w = [(t, .inr (10, [.ref v2, .int 0, .int 0, .int 0])), (b, .inr (11, [.ref v, .int 0, .int ml, .int (nI L.length)])), (v, .inl (tc 1, M9, .inl a)), (v2, .inl (tc 1, L.length, .inl (va_cpy a (fun _ => 0) 0 0 L.length)))]) := sorry
set_option maxRecDepth 100000 in
set_option maxHeartbeats 4000000 in
theorem c_St_init53 (l : Launch) (D : va_G) (tys : List (ClassId × FieldType)) (tc : Nat → ClassId) (hty : ∀ i : Nat, i < 4 → tys[i]? = some (tc i, vx_ty i)) (t : Nat) (b v : Nat) (ml : Int32) (M9 : Nat) (a : Nat → Int32) (L : List Nat) (hL : sbI a L) (hf : sb_Fit a) (hm : L.length ≤ M9 ∧ 16 ≤ M9 ∧ M9 ≤ 100) (hn : L.length < 16) : Kt l y_St_init53 (yw y_St_init53 b_St_init53 2 none) 4 130 1 100 D cls tys csF [.ref t, .ref b] [(t, .inr (10, [.null, .int 0, .int 0, .int 0])), (b, .inr (11, [.ref v, .int 0, .int ml, .int (nI L.length)])), (v, .inl (tc 1, M9, .inl a))] (fun r w => ∃ v2, r = none ∧ w = [(t, .inr (10, [.ref v2, .int 0, .int 0, .int 0])), (b, .inr (11, [.ref v, .int 0, .int ml, .int (nI L.length)])), (v, .inl (tc 1, M9, .inl a)), (v2, .inl (tc 1, L.length, .inl (va_cpy a (fun _ => 0) 0 0 L.length)))]) := sorry
set_option maxRecDepth 100000 in
set_option maxHeartbeats 4000000 in
theorem c_Sb_toString42 (l : Launch) (D : va_G) (tys : List (ClassId × FieldType)) (tc : Nat → ClassId) (hty : ∀ i : Nat, i < 4 → tys[i]? = some (tc i, vx_ty i)) (b v : Nat) (ml : Int32) (M9 : Nat) (a : Nat → Int32) (L : List Nat) (hL : sbI a L) (hf : sb_Fit a) (hm : L.length ≤ M9 ∧ 16 ≤ M9 ∧ M9 ≤ 100) (hn : L.length < 16) : Kt l y_Sb_toString42 (yw y_Sb_toString42 b_Sb_toString42 1 (some (.object "java/lang/String"))) 5 151 2 104 D cls tys csF [.ref b] (sbW tc b v ml L.length M9 a) (fun r w => ∃ t v2, r = some (.ref t) ∧ w = [(t, .inr (10, [.ref v2, .int 0, .int 0, .int 0])), (b, .inr (11, [.ref v, .int 0, .int ml, .int (nI L.length)])), (v, .inl (tc 1, M9, .inl a)), (v2, .inl (tc 1, L.length, .inl (va_cpy a (fun _ => 0) 0 0 L.length)))]) := sorry
end
section
/-! THE CLASS: representations; the response's parts and headings, by program (wip/whole/gen/p81.py) -/
/-- a representation, only read: number and size; all of it -/
def spF (a num sz : Nat) : (Nat → Prop) → State → Heap → Prop := fun A U H => va_O "OriginDesk$Representation" a A U H ∧ va_OF "OriginDesk$Representation" "number" "I" (.int (nI num)) a A U H ∧ va_OF "OriginDesk$Representation" "size" "I" (.int (nI sz)) a A U H
theorem spF_ro (a num sz : Nat) : RO (spF a num sz) := sorry
def rpF (a num : Nat) (K : Nat → Nat) (r : Rp) : (Nat → Prop) → State → Heap → Prop := fun A U H => spF a num r.2.2.1 A U H ∧ va_OF "OriginDesk$Representation" "type" "LOriginDesk$MediaType;" (.ref (K (100 + r.1))) a A U H ∧ va_OF "OriginDesk$Representation" "language" "LOriginDesk$Language;" (.ref (K (200 + r.2.1))) a A U H ∧ (∃ t, va_OF "OriginDesk$Representation" "tagText" "Ljava/lang/String;" (.ref t) a A U H ∧ strF t (tagL r.2.2.2.1) A U H) ∧ va_OF "OriginDesk$Representation" "weak" "Z" (.int (bI r.2.2.2.2.1)) a A U H ∧ va_OF "OriginDesk$Representation" "change" "J" (.long (lN r.2.2.2.2.2)) a A U H
theorem rpF_ro (a num : Nat) (K : Nat → Nat) (r : Rp) : RO (rpF a num K r) := sorry
theorem bt_nI {j num : Nat} (hj : j < 1000000) (hn : num < 4) : (7 * nI j + 13 * nI num + 1) - (7 * nI j + 13 * nI num + 1) / 251 * 251 = nI (bt num j) := sorry
def j_Rp_byteAtR : wq_J := [(.bipush 7, (0, 0, 0, 7, 0)), (.iload_n 1, (0, 0, 0, 0, 0)), (.imul, (0, 0, 0, 0, 0)), (.bipush 13, (0, 0, 0, 13, 0)), (.aload_n 0, (0, 0, 0, 0, 0)), (.getfield 7, (2, 0, 0, 0, 0)), (.imul, (0, 0, 0, 0, 0)), (.iadd, (0, 0, 0, 0, 0)), (.iconst 1, (0, 0, 0, 1, 0)), (.iadd, (0, 0, 0, 0, 0)), (.sipush 251, (0, 0, 0, 251, 0)), (.irem, (0, 0, 0, 0, 0)), (.ireturn, (0, 0, 0, 0, 0))]
theorem jc_Rp_byteAtR : wq_c b_Rp_byteAt 2 j_Rp_byteAtR 0 = true := sorry
set_option maxRecDepth 100000 in
set_option maxHeartbeats 4000000 in
theorem c_Rp_byteAt (l : Launch) (D : va_G) (tys : List (ClassId × FieldType)) (tc : Nat → ClassId) (hty : ∀ i : Nat, i < 4 → tys[i]? = some (tc i, vx_ty i)) (a num sz j : Nat) (hj : j < 1000000) (hn : num < 4) : Kt l y_Rp_byteAt (yw y_Rp_byteAt b_Rp_byteAt 2 (some .int)) 0 0 0 0 D cls tys (spF a num sz) [.ref a, .int (nI j)] [] (fun r w => r = some (.int (nI (bt num j))) ∧ w = []) := sorry
/-- the response's cells -/
def rsW (tc : Nat → ClassId) (h fa la hb : Nat) (cd : Int32) (sj : Value) (bs pc bl : Int32) (f1 f2 : Nat → Int32) : va_W := [(h, .inr (6, [.int cd, sj, .int bs, .int pc, .ref fa, .ref la, .int bl, .ref hb])), (fa, .inl (tc 0, 4, .inl f1)), (la, .inl (tc 0, 4, .inl f2))]
theorem kp_get {pa : List (Nat × Nat)} {f1 f2 : Nat → Int32} (h : kpA f1 f2 pa) {k : Nat} (hk : k < pa.length) : f1 k = nI (pa.getD k (0, 0)).1 ∧ f2 k = nI (pa.getD k (0, 0)).2 ∧ (pa.getD k (0, 0)).1 ≤ (pa.getD k (0, 0)).2 ∧ (pa.getD k (0, 0)).2 < 100000 := sorry
theorem ps_nI {u : Nat × Nat} (h : u.1 ≤ u.2) : nI u.2 - nI u.1 + 1 = nI (u.2 - u.1 + 1) := sorry
def gtF (K : Nat → Nat) : (Nat → Prop) → State → Heap → Prop := fun A U H => gF K A U H ∧ dgF A U H
theorem gtF_ro (K : Nat → Nat) : RO (gtF K) := sorry
theorem gt_cs {K : Nat → Nat} {A : Nat → Prop} {U : State} {H : Heap} (h : gtF K A U H) : csF A U H := sorry
theorem dec6 {n : Nat} (h : n ≤ 100000) : 1 ≤ (dec n).length ∧ (dec n).length ≤ 6 := sorry
theorem hd15_W : isW hd15 := sorry
theorem crlf_W : isW [13, 10] := sorry
theorem crlf2_W : isW [13, 10, 13, 10] := sorry
theorem bhp_W : isW bhp := sorry
set_option maxRecDepth 100000 in
set_option maxHeartbeats 4000000 in
theorem c_Rs_hasPart (l : Launch) (D : va_G) (tys : List (ClassId × FieldType)) (tc : Nat → ClassId) (hty : ∀ i : Nat, i < 4 → tys[i]? = some (tc i, vx_ty i)) (h fa la hb : Nat) (cd : Int32) (sj : Value) (bs bl : Int32) (pa : List (Nat × Nat)) (hp4 : pa.length ≤ 4) (i : Int32) : Kt l y_Rs_hasPart (yw y_Rs_hasPart b_Rs_hasPart 2 (some .boolean)) 0 0 0 0 D cls tys (fun _ _ _ => True) [.ref h, .int i] [(h, .inr (6, [.int cd, sj, .int bs, .int (nI pa.length), .ref fa, .ref la, .int bl, .ref hb]))] (fun r w => r = some (.int (bI (decide (¬ i < 0 ∧ ¬ pa.length ≤ i.toNatClampNeg)))) ∧ w = [(h, .inr (6, [.int cd, sj, .int bs, .int (nI pa.length), .ref fa, .ref la, .int bl, .ref hb]))]) := sorry
set_option maxRecDepth 100000 in
set_option maxHeartbeats 4000000 in
theorem c_Rs_partSize (l : Launch) (D : va_G) (tys : List (ClassId × FieldType)) (tc : Nat → ClassId) (hty : ∀ i : Nat, i < 4 → tys[i]? = some (tc i, vx_ty i)) (h fa la hb : Nat) (cd : Int32) (sj : Value) (bs bl : Int32) (pa : List (Nat × Nat)) (f1 f2 : Nat → Int32) (hpa : kpA f1 f2 pa) (k : Nat) (hk : k < pa.length) : Kt l y_Rs_partSize (yw y_Rs_partSize b_Rs_partSize 2 (some .int)) 0 0 0 0 D cls tys (fun _ _ _ => True) [.ref h, .int (nI k)] (rsW tc h fa la hb cd sj bs (nI pa.length) bl f1 f2) (fun r w => r = some (.int (nI ((pa.getD k (0, 0)).2 - (pa.getD k (0, 0)).1 + 1))) ∧ w = (rsW tc h fa la hb cd sj bs (nI pa.length) bl f1 f2)) := sorry
set_option maxRecDepth 100000 in
set_option maxHeartbeats 4000000 in
theorem c_Rs_writeHeading (l : Launch) (D : va_G) (tys : List (ClassId × FieldType)) (tc : Nat → ClassId) (hty : ∀ i : Nat, i < 4 → tys[i]? = some (tc i, vx_ty i)) (h fa la hb : Nat) (cd : Int32) (sj : Value) (bs bl : Int32) (pa : List (Nat × Nat)) (f1 f2 : Nat → Int32) (hpa : kpA f1 f2 pa) (K : Nat → Nat) (v : Nat) (ml : Int32) (M9 : Nat) (a : Nat → Int32) (L : List Nat) (hL : sbI a L) (hf : sb_Fit a) (hm : L.length ≤ M9 ∧ 16 ≤ M9 ∧ M9 ≤ 100) (sz : Nat) (hsz : sz ≤ 100000) (k : Nat) (hk : k < pa.length) : Kt l y_Rs_writeHeading (yw y_Rs_writeHeading b_Rs_writeHeading 3 none) 6 148 8 800 D cls tys (gtF K) [.ref h, .int (nI k), .int (nI sz)] ((rsW tc h fa la hb cd sj bs (nI pa.length) bl f1 f2) ++ (sbW tc hb v ml L.length M9 a)) (fun r w => r = none ∧ ∃ v2 l2 m2 a2, w = (rsW tc h fa la hb cd sj bs (nI pa.length) bl f1 f2) ++ (sbW tc hb v2 l2 (hdg sz (pa.getD k (0, 0))).length m2 a2) ∧ sbI a2 (hdg sz (pa.getD k (0, 0))) ∧ sb_Fit a2 ∧ (hdg sz (pa.getD k (0, 0))).length ≤ m2 ∧ 16 ≤ m2 ∧ m2 ≤ 100) := sorry
end
section
/-! THE CLASS: the response: its size, its bytes, it is settled, by program (wip/whole/gen/p82.py) -/
section
variable {p : Program} {l : Launch} {e : Env} {R : Room} {s : State} {m : MethodId} {args : Array Value} {below : List Frame} {meth : Method} {c : Code} {cc : ByteArray} {nL : Nat} {D : va_G} {cl : List vw_C} {A : Nat → Prop} {Q : State → Prop} {pc : Nat} {lv : wq_L} {st : List Value} {k n k2 n2 : Nat} {ws : va_W} {K : List Value → va_W → Nat → Nat → Prop}
theorem Vx.cnt (h1 : k = k2) (h2 : n = n2) (h : Vx p l e R s m args below meth c nL D cl A Q pc lv st ws k2 n2) : Vx p l e R s m args below meth c nL D cl A Q pc lv st ws k n := sorry
theorem Vx.subW {ws2 : va_W} (js : List Nat) (hn : va_nd js = true) (hw : js.map (fun i => ws[i]?) = ws2.map some) (h : Vx p l e R s m args below meth c nL D cl A Q pc lv st ws2 k n) : Vx p l e R s m args below meth c nL D cl A Q pc lv st ws k n := sorry
/-- a step, and the cells in another order behind it -/
theorem sx_ord {ins : Jvm.ClassFile.Instr} {len : Nat} (h : vx_SX cc (Vx p l e R s m args below meth c nL D cl A Q) ins len st ws k n (fun st2 w2 k2 n2 => ∃ (js : List Nat) (ws2 : va_W), va_nd js = true ∧ js.map (fun i => w2[i]?) = ws2.map some ∧ K st2 ws2 k2 n2)) : vx_SX cc (Vx p l e R s m args below meth c nL D cl A Q) ins len st ws k n K := sorry
end
theorem kp_pa {pa : List (Nat × Nat)} {f1 f2 : Nat → Int32} (h : kpA f1 f2 pa) : paA (fun q j => if q = 11 then f1 j else f2 j) pa := sorry
theorem dr_sum {sz : Nat} {pa : List (Nat × Nat)} {k : Nat} (h : k < pa.length) : ((pa.drop k).map (psz sz)).sum = psz sz (pa.getD k (0, 0)) + ((pa.drop (k + 1)).map (psz sz)).sum := sorry
/-- the chosen one: its address, its number and its size -/
def sjV (u : Option (Nat × Nat × Nat)) : Value := match u with
  | none => .null
  | some v => .ref v.1
def sjF (u : Option (Nat × Nat × Nat)) : (Nat → Prop) → State → Heap → Prop := match u with
  | none => fun _ _ _ => True
  | some v => spF v.1 v.2.1 v.2.2
theorem sjF_ro (u : Option (Nat × Nat × Nat)) : RO (sjF u) := sorry
def sjN (u : Option (Nat × Nat × Nat)) : Option (Nat × Nat) := u.map (fun v => v.2)
/-- a builder, whatever it says -/
def sbX (tc : Nat → ClassId) (b : Nat) (w : va_W) : Prop := ∃ L, sbO tc b L w
/-- read facts that say more -/
theorem Kt.imp {l : Launch} {y : MethodName} {wds : List Cond} {fr lo mc ms : Nat} {D : va_G} {cl : List vw_C} {tys : List (ClassId × FieldType)} {F G : (Nat → Prop) → State → Heap → Prop} {ar : List Value} {ws : va_W} {post : Option Value → va_W → Prop} (hG : RO G) (h : ∀ A U H, G A U H → F A U H) (hk : Kt l y wds fr lo mc ms D cl tys F ar ws post) : Kt l y wds fr lo mc ms D cl tys G ar ws post := sorry
set_option maxRecDepth 100000 in
set_option maxHeartbeats 4000000 in
theorem c_Rs_measureS (l : Launch) (D : va_G) (tys : List (ClassId × FieldType)) (tc : Nat → ClassId) (hty : ∀ i : Nat, i < 4 → tys[i]? = some (tc i, vx_ty i)) (h fa la hb : Nat) (cd bs bl : Int32) (pa : List (Nat × Nat)) (f1 f2 : Nat → Int32) (hpa : kpA f1 f2 pa) (a9 num sz : Nat) (hok : anOk cd (some (num, sz)) pa) (K : Nat → Nat) (v : Nat) (ml : Int32) (M9 : Nat) (a : Nat → Int32) (L : List Nat) (hL : sbI a L) (hf : sb_Fit a) (hm : L.length ≤ M9 ∧ 16 ≤ M9 ∧ M9 ≤ 100) : Kt l y_Rs_measure (yw y_Rs_measure b_Rs_measure 3 (some .int)) 7 170 32 3200 D cls tys (fun A U H => spF a9 num sz A U H ∧ gtF K A U H) [.ref h] ((rsW tc h fa la hb cd (.ref a9) bs (nI pa.length) bl f1 f2) ++ (sbW tc hb v ml L.length M9 a)) (fun r w => r = some (.int (nI (lnS cd (some (num, sz)) pa))) ∧ ∃ w2, w = (rsW tc h fa la hb cd (.ref a9) bs (nI pa.length) bl f1 f2) ++ w2 ∧ sbX tc hb w2) := sorry
set_option maxRecDepth 100000 in
set_option maxHeartbeats 4000000 in
theorem c_Rs_measureN (l : Launch) (D : va_G) (tys : List (ClassId × FieldType)) (tc : Nat → ClassId) (hty : ∀ i : Nat, i < 4 → tys[i]? = some (tc i, vx_ty i)) (h fa la hb : Nat) (cd bs bl : Int32) (pa : List (Nat × Nat)) (f1 f2 : Nat → Int32) (hpa : kpA f1 f2 pa) (hok : anOk cd none pa) (v : Nat) (ml : Int32) (M9 : Nat) (a : Nat → Int32) (L : List Nat) (hL : sbI a L) (hf : sb_Fit a) (hm : L.length ≤ M9 ∧ 16 ≤ M9 ∧ M9 ≤ 100) : Kt l y_Rs_measure (yw y_Rs_measure b_Rs_measure 3 (some .int)) 7 170 32 3200 D cls tys (fun _ _ _ => True) [.ref h] ((rsW tc h fa la hb cd .null bs (nI pa.length) bl f1 f2) ++ (sbW tc hb v ml L.length M9 a)) (fun r w => r = some (.int (nI (lnS cd none pa))) ∧ ∃ w2, w = (rsW tc h fa la hb cd .null bs (nI pa.length) bl f1 f2) ++ w2 ∧ sbX tc hb w2) := sorry
theorem c_Rs_measure (l : Launch) (D : va_G) (tys : List (ClassId × FieldType)) (tc : Nat → ClassId) (hty : ∀ i : Nat, i < 4 → tys[i]? = some (tc i, vx_ty i)) (h fa la hb : Nat) (cd bs bl : Int32) (pa : List (Nat × Nat)) (f1 f2 : Nat → Int32) (hpa : kpA f1 f2 pa) (sb9 : Option (Nat × Nat × Nat)) (hok : anOk cd (sjN sb9) pa) (K : Nat → Nat) (v : Nat) (ml : Int32) (M9 : Nat) (a : Nat → Int32) (L : List Nat) (hL : sbI a L) (hf : sb_Fit a) (hm : L.length ≤ M9 ∧ 16 ≤ M9 ∧ M9 ≤ 100) : Kt l y_Rs_measure (yw y_Rs_measure b_Rs_measure 3 (some .int)) 7 170 32 3200 D cls tys (fun A U H => sjF sb9 A U H ∧ gtF K A U H) [.ref h] ((rsW tc h fa la hb cd (sjV sb9) bs (nI pa.length) bl f1 f2) ++ (sbW tc hb v ml L.length M9 a)) (fun r w => r = some (.int (nI (lnS cd (sjN sb9) pa))) ∧ ∃ w2, w = (rsW tc h fa la hb cd (sjV sb9) bs (nI pa.length) bl f1 f2) ++ w2 ∧ sbX tc hb w2) := sorry
set_option maxRecDepth 100000 in
set_option maxHeartbeats 4000000 in
theorem c_Rs_byteAmongParts (l : Launch) (D : va_G) (tys : List (ClassId × FieldType)) (tc : Nat → ClassId) (hty : ∀ i : Nat, i < 4 → tys[i]? = some (tc i, vx_ty i)) (h fa la hb : Nat) (cd bs bl : Int32) (pa : List (Nat × Nat)) (f1 f2 : Nat → Int32) (hpa : kpA f1 f2 pa) (a9 num sz : Nat) (hok : anOk cd (some (num, sz)) pa) (K : Nat → Nat) (v : Nat) (ml : Int32) (M9 : Nat) (a : Nat → Int32) (L : List Nat) (hL : sbI a L) (hf : sb_Fit a) (hm : L.length ≤ M9 ∧ 16 ≤ M9 ∧ M9 ≤ 100) (i9 : Nat) (hi9 : i9 < 10 + (pa.map (psz sz)).sum) (hib : i9 < 1000000) : Kt l y_Rs_byteAmongParts (yw y_Rs_byteAmongParts b_Rs_byteAmongParts 5 (some .int)) 7 170 32 3200 D cls tys (fun A U H => spF a9 num sz A U H ∧ gtF K A U H) [.ref h, .ref a9, .int (nI i9)] ((rsW tc h fa la hb cd (.ref a9) bs (nI pa.length) bl f1 f2) ++ (sbW tc hb v ml L.length M9 a)) (fun r w => r = some (.int (nI (bwk sz num pa i9))) ∧ ∃ w2, w = (rsW tc h fa la hb cd (.ref a9) bs (nI pa.length) bl f1 f2) ++ w2 ∧ sbX tc hb w2) := sorry
set_option maxRecDepth 100000 in
set_option maxHeartbeats 4000000 in
theorem c_Rs_byteAtS (l : Launch) (D : va_G) (tys : List (ClassId × FieldType)) (tc : Nat → ClassId) (hty : ∀ i : Nat, i < 4 → tys[i]? = some (tc i, vx_ty i)) (h fa la hb : Nat) (cd : Int32) (ho : Bool) (pa : List (Nat × Nat)) (f1 f2 : Nat → Int32) (hpa : kpA f1 f2 pa) (a9 num sz : Nat) (hok : anOk cd (some (num, sz)) pa) (K : Nat → Nat) (v : Nat) (ml : Int32) (M9 : Nat) (a : Nat → Int32) (L : List Nat) (hL : sbI a L) (hf : sb_Fit a) (hm : L.length ≤ M9 ∧ 16 ≤ M9 ∧ M9 ≤ 100) (i : Int32) : Kt l y_Rs_byteAt (yw y_Rs_byteAt b_Rs_byteAt 2 (some .int)) 8 194 32 3200 D cls tys (fun A U H => spF a9 num sz A U H ∧ gtF K A U H) [.ref h, .int i] ((rsW tc h fa la hb cd (.ref a9) (nI (lnS cd (some (num, sz)) pa)) (nI pa.length) (bI ho) f1 f2) ++ (sbW tc hb v ml L.length M9 a)) (fun r w => r = some (.int (bdS cd (some (num, sz)) ho pa i)) ∧ ∃ w2, w = (rsW tc h fa la hb cd (.ref a9) (nI (lnS cd (some (num, sz)) pa)) (nI pa.length) (bI ho) f1 f2) ++ w2 ∧ sbX tc hb w2) := sorry
set_option maxRecDepth 100000 in
set_option maxHeartbeats 4000000 in
theorem c_Rs_byteAtN (l : Launch) (D : va_G) (tys : List (ClassId × FieldType)) (tc : Nat → ClassId) (hty : ∀ i : Nat, i < 4 → tys[i]? = some (tc i, vx_ty i)) (h fa la hb : Nat) (cd : Int32) (ho : Bool) (pa : List (Nat × Nat)) (f1 f2 : Nat → Int32) (hpa : kpA f1 f2 pa) (hok : anOk cd none pa) (v : Nat) (ml : Int32) (M9 : Nat) (a : Nat → Int32) (L : List Nat) (hL : sbI a L) (hf : sb_Fit a) (hm : L.length ≤ M9 ∧ 16 ≤ M9 ∧ M9 ≤ 100) (i : Int32) : Kt l y_Rs_byteAt (yw y_Rs_byteAt b_Rs_byteAt 2 (some .int)) 8 194 32 3200 D cls tys (fun _ _ _ => True) [.ref h, .int i] ((rsW tc h fa la hb cd .null (nI (lnS cd none pa)) (nI pa.length) (bI ho) f1 f2) ++ (sbW tc hb v ml L.length M9 a)) (fun r w => r = some (.int (bdS cd none ho pa i)) ∧ ∃ w2, w = (rsW tc h fa la hb cd .null (nI (lnS cd none pa)) (nI pa.length) (bI ho) f1 f2) ++ w2 ∧ sbX tc hb w2) := sorry
theorem c_Rs_byteAt (l : Launch) (D : va_G) (tys : List (ClassId × FieldType)) (tc : Nat → ClassId) (hty : ∀ i : Nat, i < 4 → tys[i]? = some (tc i, vx_ty i)) (h fa la hb : Nat) (cd : Int32) (ho : Bool) (pa : List (Nat × Nat)) (f1 f2 : Nat → Int32) (hpa : kpA f1 f2 pa) (sb9 : Option (Nat × Nat × Nat)) (hok : anOk cd (sjN sb9) pa) (K : Nat → Nat) (v : Nat) (ml : Int32) (M9 : Nat) (a : Nat → Int32) (L : List Nat) (hL : sbI a L) (hf : sb_Fit a) (hm : L.length ≤ M9 ∧ 16 ≤ M9 ∧ M9 ≤ 100) (i : Int32) : Kt l y_Rs_byteAt (yw y_Rs_byteAt b_Rs_byteAt 2 (some .int)) 8 194 32 3200 D cls tys (fun A U H => sjF sb9 A U H ∧ gtF K A U H) [.ref h, .int i] ((rsW tc h fa la hb cd (sjV sb9) (nI (lnS cd (sjN sb9) pa)) (nI pa.length) (bI ho) f1 f2) ++ (sbW tc hb v ml L.length M9 a)) (fun r w => r = some (.int (bdS cd (sjN sb9) ho pa i)) ∧ ∃ w2, w = (rsW tc h fa la hb cd (sjV sb9) (nI (lnS cd (sjN sb9) pa)) (nI pa.length) (bI ho) f1 f2) ++ w2 ∧ sbX tc hb w2) := sorry
def j_Rs_settleR : wq_J := [(.aload_n 0, (0, 0, 0, 0, 0)), (.iload_n 1, (0, 0, 0, 0, 0)), (.putfield 9, (1, 0, 0, 0, 0)), (.aload_n 0, (0, 0, 0, 0, 0)), (.aload_n 2, (0, 0, 0, 0, 0)), (.putfield 29, (1, 0, 1, 0, 0)), (.aload_n 0, (0, 0, 0, 0, 0)), (.iload_n 3, (0, 0, 0, 0, 0)), (.putfield 33, (1, 0, 6, 0, 0)), (.aload_n 0, (0, 0, 0, 0, 0)), (.aload_n 0, (0, 0, 0, 0, 0)), (.getfield 9, (1, 0, 0, 0, 0)), (.sipush 206, (0, 0, 0, 206, 0)), (.if_icmp .ne 11, (0, 34, 0, 0, 0)), (.aload 4, (0, 0, 0, 0, 0)), (.getfield 37, (1, 5, 8, 0, 0)), (.goto 4, (0, 35, 0, 0, 0)), (.iconst 0, (0, 0, 0, 0, 0)), (.putfield 42, (1, 0, 3, 0, 0)), (.iconst 0, (0, 0, 0, 0, 0)), (.istore 5, (0, 0, 0, 0, 0)), (.iload 5, (0, 0, 0, 0, 0)), (.aload_n 0, (0, 0, 0, 0, 0)), (.getfield 42, (1, 0, 3, 0, 0)), (.if_icmp .ge 45, (0, 92, 0, 0, 0)), (.iload 5, (0, 0, 0, 0, 0)), (.iconst 4, (0, 0, 0, 4, 0)), (.if_icmp .ge 39, (0, 92, 0, 0, 0)), (.aload_n 0, (0, 0, 0, 0, 0)), (.getfield 15, (1, 0, 4, 0, 0)), (.iload 5, (0, 0, 0, 0, 0)), (.aload 4, (0, 0, 0, 0, 0)), (.getfield 45, (1, 5, 5, 0, 0)), (.iload 5, (0, 0, 0, 0, 0)), (.iaload, (1, 6, 0, 0, 0)), (.iastore, (1, 1, 0, 0, 0)), (.aload_n 0, (0, 0, 0, 0, 0)), (.getfield 19, (1, 0, 5, 0, 0)), (.iload 5, (0, 0, 0, 0, 0)), (.aload 4, (0, 0, 0, 0, 0)), (.getfield 46, (1, 5, 6, 0, 0)), (.iload 5, (0, 0, 0, 0, 0)), (.iaload, (1, 7, 0, 0, 0)), (.iastore, (1, 2, 0, 0, 0)), (.iinc 5 1, (0, 0, 0, 1, 0)), (.goto (-48), (0, 41, 0, 0, 0)), (.aload_n 0, (0, 0, 0, 0, 0)), (.aload_n 0, (0, 0, 0, 0, 0)), (.invokevirtual 47, (0, 0, 0, 0, 0)), (.putfield 51, (1, 0, 2, 0, 0)), (.return_, (0, 0, 0, 0, 0))]
theorem jc_Rs_settleR : wq_c b_Rs_settle 6 j_Rs_settleR 0 = true := sorry
set_option maxRecDepth 100000 in
set_option maxHeartbeats 4000000 in
theorem c_Rs_settleN (l : Launch) (D : va_G) (tys : List (ClassId × FieldType)) (tc : Nat → ClassId) (hty : ∀ i : Nat, i < 4 → tys[i]? = some (tc i, vx_ty i)) (h fa la hb : Nat) (cd0 : Int32) (sj0 : Value) (bs pc0 bl0 : Int32) (f1 f2 : Nat → Int32) (K : Nat → Nat) (v : Nat) (ml : Int32) (M9 : Nat) (a : Nat → Int32) (L : List Nat) (hL : sbI a L) (hf : sb_Fit a) (hm : L.length ≤ M9 ∧ 16 ≤ M9 ∧ M9 ≤ 100) (hr9 ra sa ga ka : Nat) (z1 z2 : Int32) (ss : Nat) (sp : Int32) (kp : List (Nat × Nat)) (g1 g2 : Nat → Int32) (hkp : kpA g1 g2 kp) (cd : Int32) (ho : Bool) (pa2 : List (Nat × Nat)) (hy2 : cd = 206 → pa2 = kp) (hn2 : ¬ cd = 206 → pa2 = []) (hok : anOk cd (sjN (none : Option (Nat × Nat × Nat))) pa2) : Kt l y_Rs_settle (yw y_Rs_settle b_Rs_settle 6 none) 8 192 32 3200 D cls tys (fun A U H => sjF (none : Option (Nat × Nat × Nat)) A U H ∧ gtF K A U H) [.ref h, .int cd, .null, .int (bI ho), .ref hr9] ((rsW tc h fa la hb cd0 sj0 bs pc0 bl0 f1 f2) ++ (sbW tc hb v ml L.length M9 a) ++ [(hr9, .inr (4, [.ref ra, .int z1, .int z2, .ref sa, .int (nI ss), .ref ga, .ref ka, .int sp, .int (nI kp.length)])), (ga, .inl (tc 0, 4, .inl g1)), (ka, .inl (tc 0, 4, .inl g2))]) (fun r w => r = none ∧ ∃ q1 q2 w2, w = (rsW tc h fa la hb cd (sjV (none : Option (Nat × Nat × Nat))) (nI (lnS cd (sjN (none : Option (Nat × Nat × Nat))) pa2)) (nI pa2.length) (bI ho) q1 q2) ++ w2 ++ [(hr9, .inr (4, [.ref ra, .int z1, .int z2, .ref sa, .int (nI ss), .ref ga, .ref ka, .int sp, .int (nI kp.length)])), (ga, .inl (tc 0, 4, .inl g1)), (ka, .inl (tc 0, 4, .inl g2))] ∧ sbX tc hb w2 ∧ kpA q1 q2 pa2) := sorry
set_option maxRecDepth 100000 in
set_option maxHeartbeats 4000000 in
theorem c_Rs_settleS (l : Launch) (D : va_G) (tys : List (ClassId × FieldType)) (tc : Nat → ClassId) (hty : ∀ i : Nat, i < 4 → tys[i]? = some (tc i, vx_ty i)) (h fa la hb : Nat) (cd0 : Int32) (sj0 : Value) (bs pc0 bl0 : Int32) (f1 f2 : Nat → Int32) (K : Nat → Nat) (v : Nat) (ml : Int32) (M9 : Nat) (a : Nat → Int32) (L : List Nat) (hL : sbI a L) (hf : sb_Fit a) (hm : L.length ≤ M9 ∧ 16 ≤ M9 ∧ M9 ≤ 100) (hr9 ra sa ga ka : Nat) (z1 z2 : Int32) (ss : Nat) (sp : Int32) (kp : List (Nat × Nat)) (g1 g2 : Nat → Int32) (hkp : kpA g1 g2 kp) (cd : Int32) (v9 : Nat × Nat × Nat) (ho : Bool) (pa2 : List (Nat × Nat)) (hy2 : cd = 206 → pa2 = kp) (hn2 : ¬ cd = 206 → pa2 = []) (hok : anOk cd (sjN (some v9)) pa2) : Kt l y_Rs_settle (yw y_Rs_settle b_Rs_settle 6 none) 8 192 32 3200 D cls tys (fun A U H => sjF (some v9) A U H ∧ gtF K A U H) [.ref h, .int cd, (.ref v9.1), .int (bI ho), .ref hr9] ((rsW tc h fa la hb cd0 sj0 bs pc0 bl0 f1 f2) ++ (sbW tc hb v ml L.length M9 a) ++ [(hr9, .inr (4, [.ref ra, .int z1, .int z2, .ref sa, .int (nI ss), .ref ga, .ref ka, .int sp, .int (nI kp.length)])), (ga, .inl (tc 0, 4, .inl g1)), (ka, .inl (tc 0, 4, .inl g2))]) (fun r w => r = none ∧ ∃ q1 q2 w2, w = (rsW tc h fa la hb cd (sjV (some v9)) (nI (lnS cd (sjN (some v9)) pa2)) (nI pa2.length) (bI ho) q1 q2) ++ w2 ++ [(hr9, .inr (4, [.ref ra, .int z1, .int z2, .ref sa, .int (nI ss), .ref ga, .ref ka, .int sp, .int (nI kp.length)])), (ga, .inl (tc 0, 4, .inl g1)), (ka, .inl (tc 0, 4, .inl g2))] ∧ sbX tc hb w2 ∧ kpA q1 q2 pa2) := sorry
theorem c_Rs_settle (l : Launch) (D : va_G) (tys : List (ClassId × FieldType)) (tc : Nat → ClassId) (hty : ∀ i : Nat, i < 4 → tys[i]? = some (tc i, vx_ty i)) (h fa la hb : Nat) (cd0 : Int32) (sj0 : Value) (bs pc0 bl0 : Int32) (f1 f2 : Nat → Int32) (K : Nat → Nat) (v : Nat) (ml : Int32) (M9 : Nat) (a : Nat → Int32) (L : List Nat) (hL : sbI a L) (hf : sb_Fit a) (hm : L.length ≤ M9 ∧ 16 ≤ M9 ∧ M9 ≤ 100) (hr9 ra sa ga ka : Nat) (z1 z2 : Int32) (ss : Nat) (sp : Int32) (kp : List (Nat × Nat)) (g1 g2 : Nat → Int32) (hkp : kpA g1 g2 kp) (cd : Int32) (sb9 : Option (Nat × Nat × Nat)) (ho : Bool) (pa2 : List (Nat × Nat)) (hy2 : cd = 206 → pa2 = kp) (hn2 : ¬ cd = 206 → pa2 = []) (hok : anOk cd (sjN sb9) pa2) : Kt l y_Rs_settle (yw y_Rs_settle b_Rs_settle 6 none) 8 192 32 3200 D cls tys (fun A U H => sjF sb9 A U H ∧ gtF K A U H) [.ref h, .int cd, sjV sb9, .int (bI ho), .ref hr9] ((rsW tc h fa la hb cd0 sj0 bs pc0 bl0 f1 f2) ++ (sbW tc hb v ml L.length M9 a) ++ [(hr9, .inr (4, [.ref ra, .int z1, .int z2, .ref sa, .int (nI ss), .ref ga, .ref ka, .int sp, .int (nI kp.length)])), (ga, .inl (tc 0, 4, .inl g1)), (ka, .inl (tc 0, 4, .inl g2))]) (fun r w => r = none ∧ ∃ q1 q2 w2, w = (rsW tc h fa la hb cd (sjV sb9) (nI (lnS cd (sjN sb9) pa2)) (nI pa2.length) (bI ho) q1 q2) ++ w2 ++ [(hr9, .inr (4, [.ref ra, .int z1, .int z2, .ref sa, .int (nI ss), .ref ga, .ref ka, .int sp, .int (nI kp.length)])), (ga, .inl (tc 0, 4, .inl g1)), (ka, .inl (tc 0, 4, .inl g2))] ∧ sbX tc hb w2 ∧ kpA q1 q2 pa2) := sorry
end
section
/-! THE CLASS: the desk's cells, scores, conditions, by program (wip/whole/gen/p83.py) -/
/-- a reader: its row, how much it said, its numbers, what it said -/
abbrev RSt : Type := Nat × Nat × (Nat → Int32) × (Nat → Int32)
def zf (L : List Int32) : Nat → Int32 := fun j => L.getD j 0
/-- addresses: 0 desk, 1 shelf, 2 request, 3 .. 8 readers and response, 13 .. 17 said rows, 18 19 ranges, 20 21 parts, 22 builder, 30 .. 34 first rows -/
def dkC (b : Nat → Nat) (cn : Int32) : Nat × va_E := (b 0, .inr (8, [.ref (b 1), .int cn, .ref (b 2), .ref (b 3), .ref (b 4), .ref (b 5), .ref (b 6), .ref (b 7), .ref (b 8)]))
def acW (tc : Nat → ClassId) (b : Nat → Nat) (u : RSt) : va_W := [(b 3, .inr (0, [.ref u.1, .int (u.2.2.1 0), .int (u.2.2.1 1), .ref (b 13), .int (nI u.2.1), .int (u.2.2.1 2), .int (u.2.2.1 3), .int (u.2.2.1 4), .int (u.2.2.1 5), .int (u.2.2.1 6)])), (b 13, .inl (tc 0, 96, .inl u.2.2.2))]
def laW (tc : Nat → ClassId) (b : Nat → Nat) (u : RSt) : va_W := [(b 4, .inr (1, [.ref u.1, .int (u.2.2.1 0), .int (u.2.2.1 1), .ref (b 14), .int (nI u.2.1), .int (u.2.2.1 2), .int (u.2.2.1 3)])), (b 14, .inl (tc 0, 96, .inl u.2.2.2))]
def tgW (tc : Nat → ClassId) (b : Nat → Nat) (u : RSt) : va_W := [(b 5, .inr (2, [.ref u.1, .int (u.2.2.1 0), .int (u.2.2.1 1), .ref (b 15), .int (nI u.2.1), .int (u.2.2.1 2), .int (u.2.2.1 3), .int (u.2.2.1 4)])), (b 15, .inl (tc 0, 96, .inl u.2.2.2))]
def daW (tc : Nat → ClassId) (b : Nat → Nat) (ly : Nat) (u : RSt) : va_W := [(b 6, .inr (3, [.ref u.1, .int (u.2.2.1 0), .int (u.2.2.1 1), .ref (b 16), .int (nI u.2.1), .int (nI ly), .int (u.2.2.1 2), .int (u.2.2.1 3), .int (u.2.2.1 4), .int (u.2.2.1 5)])), (b 16, .inl (tc 0, 96, .inl u.2.2.2))]
def rnW (tc : Nat → ClassId) (b : Nat → Nat) (u : RSt) (kp : List (Nat × Nat)) (g1 g2 : Nat → Int32) : va_W := [(b 7, .inr (4, [.ref u.1, .int (u.2.2.1 0), .int (u.2.2.1 1), .ref (b 17), .int (nI u.2.1), .ref (b 18), .ref (b 19), .int (u.2.2.1 2), .int (nI kp.length)])), (b 17, .inl (tc 0, 96, .inl u.2.2.2)), (b 18, .inl (tc 0, 4, .inl g1)), (b 19, .inl (tc 0, 4, .inl g2))]
def okR (b ro : Nat → Nat) (i ra : Nat) : Prop := ra = b (30 + i) ∨ ∃ G, G < 8 ∧ ra = ro G
theorem okN {b ro : Nat → Nat} {i ra ra2 G : Nat} (ho : okR b ro i ra) (h : ra2 = ra ∨ ra2 = ro G) (hG : G < 8) : okR b ro i ra2 := sorry
theorem ro_OF {C n d : String} {v : Value} {a : Nat} : RO (fun A U H => va_OF C n d v a A U H) := sorry
theorem ro_T {t : FieldType} {a N : Nat} {f : Nat → Value} : RO (fun A U H => va_T t a N f A U H) := sorry
theorem ro_all {P : Nat → Prop} {G : Nat → (Nat → Prop) → State → Heap → Prop} (hG : ∀ i, RO (G i)) : RO (fun A U H => ∀ i, P i → G i A U H) := sorry
/-- what the desk's readers read -/
def qF (b ro : Nat → Nat) (tx : Nat → List Nat) (K : Nat → Nat) (me : Int32) : (Nat → Prop) → State → Heap → Prop := fun A U H => rqF (b 2) ro tx A U H ∧ gtF K A U H ∧ va_OF "OriginDesk$Request" "method" "I" (.int me) (b 2) A U H ∧ ∀ i, i < 5 → rdF (b (30 + i)) [] A U H
theorem qF_ro (b ro : Nat → Nat) (tx : Nat → List Nat) (K : Nat → Nat) (me : Int32) : RO (qF b ro tx K me) := sorry
theorem qR {b ro : Nat → Nat} {tx : Nat → List Nat} {K : Nat → Nat} {me : Int32} {A : Nat → Prop} {U : State} {H : Heap} (h : qF b ro tx K me A U H) {i ra : Nat} (hi : i < 5) (ho : okR b ro i ra) : rdF ra [] A U H := sorry
theorem tagL_W {n : Nat} (h : n ≤ 9999) : isW (tagL n) := sorry
theorem isN {α : Type} {o : Option α} (h : bI o.isSome = 0) : o = none := sorry
theorem isS {α : Type} {o : Option α} (h : ¬ bI o.isSome = 0) : ∃ v, o = some v := sorry
theorem lI_m1 {v : Option Nat} (hv : ∀ t, v = some t → t < 2 ^ 63) : lg_cmp (lI v) (-1) = 0 ↔ v = none := sorry
section
variable {p : Program} {l : Launch} {e : Env} {R : Room} {s : State} {m : MethodId} {args : Array Value} {below : List Frame} {meth : Method} {c : Code} {cc : ByteArray} {nL : Nat} {D : va_G} {tys : List (ClassId × FieldType)} {A : Nat → Prop} {tc : Nat → ClassId} {Q : State → Prop} {st rest : List Value} {k n mc ms : Nat} {post : Option Value → va_W → Prop} {F : (Nat → Prop) → State → Heap → Prop} {ret : Option FieldType} {K : List Value → va_W → Nat → Nat → Prop} {y y0 : MethodName} {bytes b0 : ByteArray} {maxL n0 index nA fr lo : Nat} {r0 : Option FieldType} {b : Nat} {As : List Value} {own C : String} {ws wc wr : va_W}
/-- a call on one of the desk's objects -/
theorem dx_call {ci : Nat} {fs : List Value} {rc : vw_C} (hC : Cx p s m args c cc nL own (yw y0 b0 n0 r0) D cls tys A tc) (hk : Kt l y (yw y bytes maxL ret) fr lo mc ms D cls tys F (.ref b :: As) wc post) (hF : F A s s.heap) (cw : CallW R s args own C index y bytes maxL ret (yw y bytes maxL ret) { frames := fr, cells := mc, slots := ms, locals := lo } mc ms nA)
    (isC isR : List Nat) (hc : isC.map (fun i => ws[i]?) = wc.map some) (hr : isR.map (fun i => ws[i]?) = wr.map some) (hnC : va_nd isC = true) (hn : va_nd isR = true) (hdis : ∀ i ∈ isR, i ∉ isC) (hq : wc[0]? = some (b, .inr (ci, fs))) (h1 : cls[ci]? = some rc) (h2 : rc.1 = C) (hlen : As.length = nA) (hst : st = As.reverse ++ .ref b :: rest) (hW : (rest.map fun v => v.category).sum ≤ 8) (hkn : k + mc ≤ R.cells ∧ n + ms ≤ R.slots)
    (kk : ∀ (r : Option Value) (w1 : va_W), post r w1 → ∃ (js : List Nat) (ws2 : va_W), va_nd js = true ∧ js.map (fun i => (wr ++ w1)[i]?) = ws2.map some ∧ K (r.toList ++ rest) ws2 (k + mc) (n + ms)) : vx_SX cc (Vx p l e R s m args below meth c nL D cls A Q) (.invokevirtual index) 3 st ws k n K := sorry
theorem vx_acmpeq (hC : Cx p s m args c cc nL own (yw y0 b0 n0 r0) D cls tys A tc) {pc : Nat} {off : Int} {tgt : Nat} {rx ry : Option Nat} (hd : decode cc pc = .ok (.if_acmp .eq off, 3)) (ht : (pc : Int) + off = (tgt : Int)) {lv : wq_L} (kt : rx = ry → Vx p l e R s m args below meth c nL D cls A Q tgt lv st ws k n) (kf : ¬ rx = ry → Vx p l e R s m args below meth c nL D cls A Q (pc + 3) lv st ws k n) : Vx p l e R s m args below meth c nL D cls A Q pc lv (va_rf ry :: va_rf rx :: st) ws k n := sorry
end
def j_Dk_scoreOfR : wq_J := [(.aload_n 0, (0, 0, 0, 0, 0)), (.getfield 25, (1, 0, 3, 0, 0)), (.aload_n 0, (0, 0, 0, 0, 0)), (.getfield 18, (1, 0, 2, 0, 0)), (.aload_n 1, (0, 0, 0, 0, 0)), (.getfield 191, (2, 0, 0, 0, 0)), (.invokevirtual 160, (0, 0, 0, 0, 0)), (.ifCond .eq 13, (0, 28, 0, 0, 0)), (.aload_n 0, (0, 0, 0, 0, 0)), (.getfield 25, (1, 0, 3, 0, 0)), (.getfield 194, (1, 1, 5, 0, 0)), (.goto 6, (0, 31, 0, 0, 0)), (.sipush 1000, (0, 0, 0, 1000, 0)), (.istore_n 2, (0, 0, 0, 0, 0)), (.aload_n 1, (0, 0, 0, 0, 0)), (.getfield 197, (2, 0, 0, 0, 0)), (.getstatic 200, (2, 0, 0, 0, 0)), (.if_acmp .eq 25, (0, 64, 0, 0, 0)), (.aload_n 0, (0, 0, 0, 0, 0)), (.getfield 32, (1, 0, 4, 0, 0)), (.aload_n 0, (0, 0, 0, 0, 0)), (.getfield 18, (1, 0, 2, 0, 0)), (.aload_n 1, (0, 0, 0, 0, 0)), (.getfield 197, (2, 0, 0, 0, 0)), (.invokevirtual 170, (0, 0, 0, 0, 0)), (.ifCond .eq 7, (0, 64, 0, 0, 0)), (.iconst 1, (0, 0, 0, 1, 0)), (.goto 4, (0, 65, 0, 0, 0)), (.iconst 0, (0, 0, 0, 0, 0)), (.istore_n 3, (0, 0, 0, 0, 0)), (.iload_n 2, (0, 0, 0, 0, 0)), (.iload_n 3, (0, 0, 0, 0, 0)), (.ifCond .eq 13, (0, 81, 0, 0, 0)), (.aload_n 0, (0, 0, 0, 0, 0)), (.getfield 32, (1, 0, 4, 0, 0)), (.getfield 203, (1, 3, 5, 0, 0)), (.goto 6, (0, 84, 0, 0, 0)), (.sipush 1000, (0, 0, 0, 1000, 0)), (.imul, (0, 0, 0, 0, 0)), (.ireturn, (0, 0, 0, 0, 0))]
theorem jc_Dk_scoreOfR : wq_c b_Dk_scoreOf 4 j_Dk_scoreOfR 0 = true := sorry
set_option maxRecDepth 100000 in
set_option maxHeartbeats 4000000 in
theorem c_Dk_scoreOf (l : Launch) (D : va_G) (tys : List (ClassId × FieldType)) (tc : Nat → ClassId) (hty : ∀ i : Nat, i < 4 → tys[i]? = some (tc i, vx_ty i)) (b ro : Nat → Nat) (cn : Int32) (tx : Nat → List Nat) (hx : ∀ G, G < 8 → isT (tx G)) (K : Nat → Nat) (me : Int32) (a9 num : Nat) (r9 : Rp) (hr9 : rpOk r9) (u1 u2 : RSt) (ho1 : okR b ro 0 u1.1) (ho2 : okR b ro 1 u2.1) : Kt l y_Dk_scoreOf (yw y_Dk_scoreOf b_Dk_scoreOf 4 (some .int)) 8 174 0 0 D cls tys (fun A U H => qF b ro tx K me A U H ∧ rpF a9 num K r9 A U H) [.ref (b 0), .ref a9] ([dkC b cn] ++ acW tc b u1 ++ laW tc b u2) (fun r w => r = some (.int (nI (scS tx r9))) ∧ ∃ q1 q2, w = ([dkC b cn] ++ acW tc b q1 ++ laW tc b q2) ∧ okR b ro 0 q1.1 ∧ okR b ro 1 q2.1) := sorry
set_option maxRecDepth 100000 in
set_option maxHeartbeats 4000000 in
theorem c_Dk_codeWithoutChoice (l : Launch) (D : va_G) (tys : List (ClassId × FieldType)) (tc : Nat → ClassId) (hty : ∀ i : Nat, i < 4 → tys[i]? = some (tc i, vx_ty i)) (b ro : Nat → Nat) (tx : Nat → List Nat) (K : Nat → Nat) (me : Int32) (rn : Nat) (hn4 : rn ≤ 4) : Kt l y_Dk_codeWithoutChoice (yw y_Dk_codeWithoutChoice b_Dk_codeWithoutChoice 1 (some .int)) 0 0 0 0 D cls tys (qF b ro tx K me) [.ref (b 0)] [dkC b (nI rn)] (fun r w => r = some (.int (nI (if me < 0 ∨ 2 < me then 501 else if rn = 0 then 404 else if me = 2 then 204 else 200))) ∧ w = [dkC b (nI rn)]) := sorry
def j_Dk_isRefusedR : wq_J := [(.aload_n 0, (0, 0, 0, 0, 0)), (.getfield 18, (1, 0, 2, 0, 0)), (.iconst 2, (0, 0, 0, 2, 0)), (.invokevirtual 227, (0, 0, 0, 0, 0)), (.ifCond .eq 57, (0, 65, 0, 0, 0)), (.aload_n 0, (0, 0, 0, 0, 0)), (.getfield 39, (1, 0, 5, 0, 0)), (.aload_n 0, (0, 0, 0, 0, 0)), (.getfield 18, (1, 0, 2, 0, 0)), (.iconst 2, (0, 0, 0, 2, 0)), (.aload_n 1, (0, 0, 0, 0, 0)), (.getfield 230, (2, 0, 0, 0, 0)), (.invokevirtual 175, (0, 0, 0, 0, 0)), (.istore_n 2, (0, 0, 0, 0, 0)), (.iload_n 2, (0, 0, 0, 0, 0)), (.ifCond .eq 30, (0, 59, 0, 0, 0)), (.aload_n 0, (0, 0, 0, 0, 0)), (.getfield 39, (1, 0, 5, 0, 0)), (.getfield 234, (1, 1, 5, 0, 0)), (.ifCond .ne 24, (0, 63, 0, 0, 0)), (.aload_n 0, (0, 0, 0, 0, 0)), (.getfield 39, (1, 0, 5, 0, 0)), (.getfield 238, (1, 1, 7, 0, 0)), (.ifCond .eq 10, (0, 59, 0, 0, 0)), (.aload_n 1, (0, 0, 0, 0, 0)), (.getfield 241, (2, 0, 0, 0, 0)), (.ifCond .eq 7, (0, 63, 0, 0, 0)), (.iconst 1, (0, 0, 0, 1, 0)), (.goto 4, (0, 64, 0, 0, 0)), (.iconst 0, (0, 0, 0, 0, 0)), (.ireturn, (0, 0, 0, 0, 0)), (.aload_n 0, (0, 0, 0, 0, 0)), (.getfield 66, (1, 0, 6, 0, 0)), (.aload_n 0, (0, 0, 0, 0, 0)), (.getfield 18, (1, 0, 2, 0, 0)), (.iconst 5, (0, 0, 0, 5, 0)), (.invokevirtual 179, (0, 0, 0, 0, 0)), (.lstore_n 2, (0, 0, 0, 0, 0)), (.lload_n 2, (0, 0, 0, 0, 0)), (.ldc2_w 183, (1, 0, 0, 0, (-1))), (.lcmp, (0, 0, 0, 0, 0)), (.ifCond .eq 16, (0, 99, 0, 0, 0)), (.lload_n 2, (0, 0, 0, 0, 0)), (.aload_n 1, (0, 0, 0, 0, 0)), (.getfield 244, (2, 0, 0, 0, 0)), (.lcmp, (0, 0, 0, 0, 0)), (.ifCond .ge 7, (0, 99, 0, 0, 0)), (.iconst 1, (0, 0, 0, 1, 0)), (.goto 4, (0, 100, 0, 0, 0)), (.iconst 0, (0, 0, 0, 0, 0)), (.ireturn, (0, 0, 0, 0, 0))]
theorem jc_Dk_isRefusedR : wq_c b_Dk_isRefused 4 j_Dk_isRefusedR 0 = true := sorry
set_option maxRecDepth 100000 in
set_option maxHeartbeats 4000000 in
theorem c_Dk_isRefused (l : Launch) (D : va_G) (tys : List (ClassId × FieldType)) (tc : Nat → ClassId) (hty : ∀ i : Nat, i < 4 → tys[i]? = some (tc i, vx_ty i)) (b ro : Nat → Nat) (cn : Int32) (tx : Nat → List Nat) (hx : ∀ G, G < 8 → isT (tx G)) (K : Nat → Nat) (me : Int32) (a9 num : Nat) (r9 : Rp) (hr9 : rpOk r9) (ly : Nat) (hly : ly < 10000) (u3 u4 : RSt) (ho3 : okR b ro 2 u3.1) (ho4 : okR b ro 3 u4.1) : Kt l y_Dk_isRefused (yw y_Dk_isRefused b_Dk_isRefused 4 (some .boolean)) 8 173 0 0 D cls tys (fun A U H => qF b ro tx K me A U H ∧ rpF a9 num K r9 A U H) [.ref (b 0), .ref a9] ([dkC b cn] ++ tgW tc b u3 ++ daW tc b ly u4) (fun r w => r = some (.int (bI (rfS ly tx r9))) ∧ ∃ q3 q4, w = ([dkC b cn] ++ tgW tc b q3 ++ daW tc b ly q4) ∧ okR b ro 2 q3.1 ∧ okR b ro 3 q4.1) := sorry
def j_Dk_isUnchangedR : wq_J := [(.aload_n 0, (0, 0, 0, 0, 0)), (.getfield 18, (1, 0, 2, 0, 0)), (.iconst 3, (0, 0, 0, 3, 0)), (.invokevirtual 227, (0, 0, 0, 0, 0)), (.ifCond .eq 48, (0, 56, 0, 0, 0)), (.aload_n 0, (0, 0, 0, 0, 0)), (.getfield 39, (1, 0, 5, 0, 0)), (.aload_n 0, (0, 0, 0, 0, 0)), (.getfield 18, (1, 0, 2, 0, 0)), (.iconst 3, (0, 0, 0, 3, 0)), (.aload_n 1, (0, 0, 0, 0, 0)), (.getfield 230, (2, 0, 0, 0, 0)), (.invokevirtual 175, (0, 0, 0, 0, 0)), (.ifCond .eq 27, (0, 54, 0, 0, 0)), (.aload_n 0, (0, 0, 0, 0, 0)), (.getfield 39, (1, 0, 5, 0, 0)), (.getfield 234, (1, 1, 5, 0, 0)), (.ifCond .ne 13, (0, 50, 0, 0, 0)), (.aload_n 0, (0, 0, 0, 0, 0)), (.getfield 39, (1, 0, 5, 0, 0)), (.getfield 248, (1, 1, 6, 0, 0)), (.ifCond .eq 7, (0, 54, 0, 0, 0)), (.iconst 1, (0, 0, 0, 1, 0)), (.goto 4, (0, 55, 0, 0, 0)), (.iconst 0, (0, 0, 0, 0, 0)), (.ireturn, (0, 0, 0, 0, 0)), (.aload_n 0, (0, 0, 0, 0, 0)), (.getfield 66, (1, 0, 6, 0, 0)), (.aload_n 0, (0, 0, 0, 0, 0)), (.getfield 18, (1, 0, 2, 0, 0)), (.iconst 4, (0, 0, 0, 4, 0)), (.invokevirtual 179, (0, 0, 0, 0, 0)), (.lstore_n 2, (0, 0, 0, 0, 0)), (.lload_n 2, (0, 0, 0, 0, 0)), (.ldc2_w 183, (1, 0, 0, 0, (-1))), (.lcmp, (0, 0, 0, 0, 0)), (.ifCond .eq 16, (0, 90, 0, 0, 0)), (.lload_n 2, (0, 0, 0, 0, 0)), (.aload_n 1, (0, 0, 0, 0, 0)), (.getfield 244, (2, 0, 0, 0, 0)), (.lcmp, (0, 0, 0, 0, 0)), (.ifCond .lt 7, (0, 90, 0, 0, 0)), (.iconst 1, (0, 0, 0, 1, 0)), (.goto 4, (0, 91, 0, 0, 0)), (.iconst 0, (0, 0, 0, 0, 0)), (.ireturn, (0, 0, 0, 0, 0))]
theorem jc_Dk_isUnchangedR : wq_c b_Dk_isUnchanged 4 j_Dk_isUnchangedR 0 = true := sorry
set_option maxRecDepth 100000 in
set_option maxHeartbeats 4000000 in
theorem c_Dk_isUnchanged (l : Launch) (D : va_G) (tys : List (ClassId × FieldType)) (tc : Nat → ClassId) (hty : ∀ i : Nat, i < 4 → tys[i]? = some (tc i, vx_ty i)) (b ro : Nat → Nat) (cn : Int32) (tx : Nat → List Nat) (hx : ∀ G, G < 8 → isT (tx G)) (K : Nat → Nat) (me : Int32) (a9 num : Nat) (r9 : Rp) (hr9 : rpOk r9) (ly : Nat) (hly : ly < 10000) (u3 u4 : RSt) (ho3 : okR b ro 2 u3.1) (ho4 : okR b ro 3 u4.1) : Kt l y_Dk_isUnchanged (yw y_Dk_isUnchanged b_Dk_isUnchanged 4 (some .boolean)) 8 173 0 0 D cls tys (fun A U H => qF b ro tx K me A U H ∧ rpF a9 num K r9 A U H) [.ref (b 0), .ref a9] ([dkC b cn] ++ tgW tc b u3 ++ daW tc b ly u4) (fun r w => r = some (.int (bI (unS ly tx r9))) ∧ ∃ q3 q4, w = ([dkC b cn] ++ tgW tc b q3 ++ daW tc b ly q4) ∧ okR b ro 2 q3.1 ∧ okR b ro 3 q4.1) := sorry
def j_Dk_isRangeWantedR : wq_J := [(.aload_n 0, (0, 0, 0, 0, 0)), (.getfield 18, (1, 0, 2, 0, 0)), (.bipush 6, (0, 0, 0, 6, 0)), (.invokevirtual 227, (0, 0, 0, 0, 0)), (.ifCond .ne 5, (0, 14, 0, 0, 0)), (.iconst 1, (0, 0, 0, 1, 0)), (.ireturn, (0, 0, 0, 0, 0)), (.aload_n 0, (0, 0, 0, 0, 0)), (.getfield 39, (1, 0, 5, 0, 0)), (.aload_n 0, (0, 0, 0, 0, 0)), (.getfield 18, (1, 0, 2, 0, 0)), (.bipush 6, (0, 0, 0, 6, 0)), (.aload_n 1, (0, 0, 0, 0, 0)), (.getfield 230, (2, 0, 0, 0, 0)), (.invokevirtual 185, (0, 0, 0, 0, 0)), (.ifCond .eq 26, (0, 57, 0, 0, 0)), (.aload_n 0, (0, 0, 0, 0, 0)), (.getfield 39, (1, 0, 5, 0, 0)), (.getfield 238, (1, 1, 7, 0, 0)), (.ifCond .eq 14, (0, 55, 0, 0, 0)), (.aload_n 1, (0, 0, 0, 0, 0)), (.getfield 241, (2, 0, 0, 0, 0)), (.ifCond .ne 7, (0, 55, 0, 0, 0)), (.iconst 1, (0, 0, 0, 1, 0)), (.goto 4, (0, 56, 0, 0, 0)), (.iconst 0, (0, 0, 0, 0, 0)), (.ireturn, (0, 0, 0, 0, 0)), (.aload_n 0, (0, 0, 0, 0, 0)), (.getfield 66, (1, 0, 6, 0, 0)), (.aload_n 0, (0, 0, 0, 0, 0)), (.getfield 18, (1, 0, 2, 0, 0)), (.bipush 6, (0, 0, 0, 6, 0)), (.invokevirtual 179, (0, 0, 0, 0, 0)), (.aload_n 1, (0, 0, 0, 0, 0)), (.getfield 244, (2, 0, 0, 0, 0)), (.lcmp, (0, 0, 0, 0, 0)), (.ifCond .ne 7, (0, 82, 0, 0, 0)), (.iconst 1, (0, 0, 0, 1, 0)), (.goto 4, (0, 83, 0, 0, 0)), (.iconst 0, (0, 0, 0, 0, 0)), (.ireturn, (0, 0, 0, 0, 0))]
theorem jc_Dk_isRangeWantedR : wq_c b_Dk_isRangeWanted 2 j_Dk_isRangeWantedR 0 = true := sorry
set_option maxRecDepth 100000 in
set_option maxHeartbeats 4000000 in
theorem c_Dk_isRangeWanted (l : Launch) (D : va_G) (tys : List (ClassId × FieldType)) (tc : Nat → ClassId) (hty : ∀ i : Nat, i < 4 → tys[i]? = some (tc i, vx_ty i)) (b ro : Nat → Nat) (cn : Int32) (tx : Nat → List Nat) (hx : ∀ G, G < 8 → isT (tx G)) (K : Nat → Nat) (me : Int32) (a9 num : Nat) (r9 : Rp) (hr9 : rpOk r9) (ly : Nat) (hly : ly < 10000) (u3 u4 : RSt) (ho3 : okR b ro 2 u3.1) (ho4 : okR b ro 3 u4.1) : Kt l y_Dk_isRangeWanted (yw y_Dk_isRangeWanted b_Dk_isRangeWanted 2 (some .boolean)) 8 173 0 0 D cls tys (fun A U H => qF b ro tx K me A U H ∧ rpF a9 num K r9 A U H) [.ref (b 0), .ref a9] ([dkC b cn] ++ tgW tc b u3 ++ daW tc b ly u4) (fun r w => r = some (.int (bI (irS ly (tagL r9.2.2.2.1) r9.2.2.2.2.1 r9.2.2.2.2.2 (tx 6)))) ∧ ∃ q3 q4, w = ([dkC b cn] ++ tgW tc b q3 ++ daW tc b ly q4) ∧ okR b ro 2 q3.1 ∧ okR b ro 3 q4.1) := sorry
end
section
/-! THE CLASS: the code for a representation, the choice, respond, by program (wip/whole/gen/p84.py) -/
theorem ro_ex {α : Type} {G : α → (Nat → Prop) → State → Heap → Prop} (hG : ∀ i, RO (G i)) : RO (fun A U H => ∃ i, G i A U H) := sorry
theorem ro_pure {P : Prop} : RO (fun _ _ _ => P) := sorry
/-- the shelf, only read: sa i is representation i -/
def shF (b sa : Nat → Nat) (rp : List Rp) (K : Nat → Nat) : (Nat → Prop) → State → Heap → Prop := fun A U H => ∃ sv : Nat → Option Nat, (∀ i, i < rp.length → sv i = some (sa i)) ∧ va_T (.object "OriginDesk$Representation") (b 1) 4 (fun j => va_rf (sv j)) A U H ∧ ∀ i, i < rp.length → rpF (sa i) i K (rp.getD i (0, 0, 0, 0, false, 0)) A U H
theorem shF_ro (b sa : Nat → Nat) (rp : List Rp) (K : Nat → Nat) : RO (shF b sa rp K) := sorry
def rpsOk (rp : List Rp) : Prop := rp.length ≤ 4 ∧ ∀ r ∈ rp, rpOk r
theorem rps_get {rp : List Rp} (h : rpsOk rp) {i : Nat} (hi : i < rp.length) : rpOk (rp.getD i (0, 0, 0, 0, false, 0)) := sorry
theorem chz_drop {tx : Nat → List Nat} {rp : List Rp} {k : Nat} {bo : Option Nat} {q : Int32} (h : k < rp.length) : chz ((rp.drop k).map fun r => nI (scS tx r)) k bo q = if q < nI (scS tx (rp.getD k (0, 0, 0, 0, false, 0))) then chz ((rp.drop (k + 1)).map fun r => nI (scS tx r)) (k + 1) (some k) (nI (scS tx (rp.getD k (0, 0, 0, 0, false, 0)))) else chz ((rp.drop (k + 1)).map fun r => nI (scS tx r)) (k + 1) bo q := sorry
def raX (tc : Nat → ClassId) (h ra sa fa la : Nat) (z1 z2 : Int32) (sd : Nat → Int32) (ss : Nat) (sp kp : Int32) (f1 f2 : Nat → Int32) : va_W := [(h, .inr (4, [.ref ra, .int z1, .int z2, .ref sa, .int (nI ss), .ref fa, .ref la, .int sp, .int kp])), (sa, .inl (tc 0, 96, .inl sd)), (fa, .inl (tc 0, 4, .inl f1)), (la, .inl (tc 0, 4, .inl f2))]
set_option maxRecDepth 100000 in
set_option maxHeartbeats 4000000 in
theorem c_Ra_overlap2 (l : Launch) (D : va_G) (tys : List (ClassId × FieldType)) (tc : Nat → ClassId) (hty : ∀ i : Nat, i < 4 → tys[i]? = some (tc i, vx_ty i)) (h ra sa fa la : Nat) (z1 z2 : Int32) (sd : Nat → Int32) (ss : Nat) (sp : Int32) (kp : List (Nat × Nat)) (f1 f2 : Nat → Int32) (hkp : kpA f1 f2 kp) : Kt l y_Ra_overlap (yw y_Ra_overlap b_Ra_overlap 3 (some .boolean)) 0 0 0 0 D cls tys (fun _ _ _ => True) [.ref h] (raX tc h ra sa fa la z1 z2 sd ss (sp) (nI kp.length) f1 f2) (fun r w => r = some (.int (bI (ovl kp))) ∧ w = (raX tc h ra sa fa la z1 z2 sd ss (sp) (nI kp.length) f1 f2)) := sorry
def j_Dk_codeForR : wq_J := [(.aload_n 0, (0, 0, 0, 0, 0)), (.aload_n 1, (0, 0, 0, 0, 0)), (.invokevirtual 204, (0, 0, 0, 0, 0)), (.ifCond .eq 7, (0, 12, 0, 0, 0)), (.sipush 412, (0, 0, 0, 412, 0)), (.ireturn, (0, 0, 0, 0, 0)), (.aload_n 0, (0, 0, 0, 0, 0)), (.aload_n 1, (0, 0, 0, 0, 0)), (.invokevirtual 208, (0, 0, 0, 0, 0)), (.ifCond .eq 7, (0, 24, 0, 0, 0)), (.sipush 304, (0, 0, 0, 304, 0)), (.ireturn, (0, 0, 0, 0, 0)), (.aload_n 0, (0, 0, 0, 0, 0)), (.getfield 18, (1, 0, 2, 0, 0)), (.getfield 113, (2, 0, 0, 0, 0)), (.ifCond .ne 29, (0, 60, 0, 0, 0)), (.aload_n 0, (0, 0, 0, 0, 0)), (.getfield 46, (1, 0, 7, 0, 0)), (.aload_n 0, (0, 0, 0, 0, 0)), (.getfield 18, (1, 0, 2, 0, 0)), (.aload_n 1, (0, 0, 0, 0, 0)), (.getfield 211, (2, 0, 0, 0, 0)), (.invokevirtual 188, (0, 0, 0, 0, 0)), (.ifCond .eq 11, (0, 60, 0, 0, 0)), (.aload_n 0, (0, 0, 0, 0, 0)), (.aload_n 1, (0, 0, 0, 0, 0)), (.invokevirtual 214, (0, 0, 0, 0, 0)), (.ifCond .ne 7, (0, 64, 0, 0, 0)), (.sipush 200, (0, 0, 0, 200, 0)), (.ireturn, (0, 0, 0, 0, 0)), (.aload_n 0, (0, 0, 0, 0, 0)), (.getfield 46, (1, 0, 7, 0, 0)), (.getfield 217, (1, 5, 7, 0, 0)), (.iconst 4, (0, 0, 0, 4, 0)), (.if_icmp .gt 13, (0, 85, 0, 0, 0)), (.aload_n 0, (0, 0, 0, 0, 0)), (.getfield 46, (1, 0, 7, 0, 0)), (.invokevirtual 220, (0, 0, 0, 0, 0)), (.ifCond .eq 7, (0, 89, 0, 0, 0)), (.sipush 200, (0, 0, 0, 200, 0)), (.ireturn, (0, 0, 0, 0, 0)), (.aload_n 0, (0, 0, 0, 0, 0)), (.getfield 46, (1, 0, 7, 0, 0)), (.getfield 224, (1, 5, 8, 0, 0)), (.ifCond .ne 9, (0, 105, 0, 0, 0)), (.sipush 416, (0, 0, 0, 416, 0)), (.goto 6, (0, 108, 0, 0, 0)), (.sipush 206, (0, 0, 0, 206, 0)), (.ireturn, (0, 0, 0, 0, 0))]
theorem jc_Dk_codeForR : wq_c b_Dk_codeFor 2 j_Dk_codeForR 0 = true := sorry
set_option maxRecDepth 100000 in
set_option maxHeartbeats 4000000 in
theorem c_Dk_codeFor (l : Launch) (D : va_G) (tys : List (ClassId × FieldType)) (tc : Nat → ClassId) (hty : ∀ i : Nat, i < 4 → tys[i]? = some (tc i, vx_ty i)) (b ro : Nat → Nat) (cn : Int32) (tx : Nat → List Nat) (hx : ∀ G, G < 8 → isT (tx G)) (K : Nat → Nat) (me : Int32) (a9 num : Nat) (r9 : Rp) (hr9 : rpOk r9) (ly : Nat) (hly : ly < 10000) (u3 u4 : RSt) (ho3 : okR b ro 2 u3.1) (ho4 : okR b ro 3 u4.1) (u5 : RSt) (kp : List (Nat × Nat)) (g1 g2 : Nat → Int32) (ho5 : okR b ro 4 u5.1) (hkp : kpA g1 g2 kp) : Kt l y_Dk_codeFor (yw y_Dk_codeFor b_Dk_codeFor 2 (some .int)) 9 196 0 0 D cls tys (fun A U H => qF b ro tx K me A U H ∧ rpF a9 num K r9 A U H) [.ref (b 0), .ref a9] ([dkC b cn] ++ tgW tc b u3 ++ daW tc b ly u4 ++ rnW tc b u5 kp g1 g2) (fun r w => r = some (.int (nI (if 0 < (cnS ly tx r9) then (cnS ly tx r9) else (rgS ly me tx r9).1))) ∧ ∃ t3 t4 t5 kp2 k1 k2, w = ([dkC b cn] ++ tgW tc b t3 ++ daW tc b ly t4 ++ rnW tc b t5 kp2 k1 k2) ∧ okR b ro 2 t3.1 ∧ okR b ro 3 t4.1 ∧ okR b ro 4 t5.1 ∧ kpA k1 k2 kp2 ∧ ((if 0 < (cnS ly tx r9) then (cnS ly tx r9) else (rgS ly me tx r9).1) = 206 → kp2 = (if 0 < (cnS ly tx r9) then [] else (rgS ly me tx r9).2))) := sorry
set_option maxRecDepth 100000 in
set_option maxHeartbeats 4000000 in
theorem c_Dk_choose (l : Launch) (D : va_G) (tys : List (ClassId × FieldType)) (tc : Nat → ClassId) (hty : ∀ i : Nat, i < 4 → tys[i]? = some (tc i, vx_ty i)) (b ro : Nat → Nat) (tx : Nat → List Nat) (hx : ∀ G, G < 8 → isT (tx G)) (K : Nat → Nat) (me : Int32) (sa : Nat → Nat) (rp : List Rp) (hrp : rpsOk rp) (u1 u2 : RSt) (ho1 : okR b ro 0 u1.1) (ho2 : okR b ro 1 u2.1) : Kt l y_Dk_choose (yw y_Dk_choose b_Dk_choose 6 (Option.some (Jvm.ClassFile.FieldType.object "OriginDesk$Representation"))) 9 197 0 0 D cls tys (fun A U H => qF b ro tx K me A U H ∧ shF b sa rp K A U H) [.ref (b 0)] ([dkC b (nI rp.length)] ++ acW tc b u1 ++ laW tc b u2) (fun r w => r = some (va_rf ((chS tx rp).map sa)) ∧ ∃ q1 q2, w = ([dkC b (nI rp.length)] ++ acW tc b q1 ++ laW tc b q2) ∧ okR b ro 0 q1.1 ∧ okR b ro 1 q2.1) := sorry
end
section
/-! THE CLASS: respond, and what the desk says afterwards, by program (wip/whole/gen/p85.py) -/
def cw9 (me : Int32) (n : Nat) : Nat := if me < 0 ∨ 2 < me then 501 else if n = 0 then 404 else if me = 2 then 204 else 200
section
variable {ly : Nat} {rp : List Rp} {me : Int32} {tx : Nat → List Nat}
theorem dcS_no (h : ¬ cw9 me rp.length = 200) : dcS ly rp me tx = (cw9 me rp.length, none, []) := sorry
theorem dcS_yes (h : cw9 me rp.length = 200) : dcS ly rp me tx = match chS tx rp with
    | none => (406, none, [])
    | some i => (if 0 < cnS ly tx (rp.getD i (0, 0, 0, 0, false, 0)) then cnS ly tx (rp.getD i (0, 0, 0, 0, false, 0)) else (rgS ly me tx (rp.getD i (0, 0, 0, 0, false, 0))).1, some (i, rp.getD i (0, 0, 0, 0, false, 0)), if 0 < cnS ly tx (rp.getD i (0, 0, 0, 0, false, 0)) then [] else (rgS ly me tx (rp.getD i (0, 0, 0, 0, false, 0))).2) := sorry
theorem dcS_206 : (dcS ly rp me tx).1 = 206 ∨ (dcS ly rp me tx).2.2 = [] := sorry
theorem paA_nil9 : paA (fun _ _ => 0) [] := sorry
/-- the answer is in order, whatever lies in the rows of the ranges -/
theorem dc_ok {g1 g2 : Nat → Int32} {kp : List (Nat × Nat)} (hrp : rpsOk rp) (hk : kpA g1 g2 kp) (h : (dcS ly rp me tx).1 = 206 → kp = (dcS ly rp me tx).2.2) : anOk (nI (dcS ly rp me tx).1) (anN (dcS ly rp me tx).2.1) (dcS ly rp me tx).2.2 ∧ (dcS ly rp me tx).1 ≤ 501 := sorry
end
def sbS (sa : Nat → Nat) (v : Option (Nat × Rp)) : Option (Nat × Nat × Nat) := v.map (fun u => (sa u.1, u.1, u.2.2.2.1))
theorem sbS_N {sa : Nat → Nat} {v : Option (Nat × Rp)} : sjN (sbS sa v) = anN v := sorry
theorem shF_sj {b sa : Nat → Nat} {rp : List Rp} {K : Nat → Nat} {A : Nat → Prop} {U : State} {H : Heap} (h : shF b sa rp K A U H) {v : Option (Nat × Rp)} (hv : ∀ u, v = some u → u.1 < rp.length ∧ u.2 = rp.getD u.1 (0, 0, 0, 0, false, 0)) : sjF (sbS sa v) A U H := sorry
theorem dc_ch {ly : Nat} {rp : List Rp} {me : Int32} {tx : Nat → List Nat} : ∀ u, (dcS ly rp me tx).2.1 = some u → u.1 < rp.length ∧ u.2 = rp.getD u.1 (0, 0, 0, 0, false, 0) := sorry
theorem sjV_or (u : Option (Nat × Nat × Nat)) : sjV u = .null ∨ ∃ a, sjV u = .ref a := sorry
/-- the response's cells -/
def rpW (tc : Nat → ClassId) (b : Nat → Nat) (cd : Int32) (sb9 : Option (Nat × Nat × Nat)) (ho : Bool) (pa : List (Nat × Nat)) (f1 f2 : Nat → Int32) : va_W := rsW tc (b 8) (b 20) (b 21) (b 22) cd (sjV sb9) (nI (lnS cd (sjN sb9) pa)) (nI pa.length) (bI ho) f1 f2
theorem cw9_le {me : Int32} {n : Nat} : cw9 me n ≤ 501 := sorry
set_option maxRecDepth 100000 in
set_option maxHeartbeats 4000000 in
theorem c_Dk_respond (l : Launch) (D : va_G) (tys : List (ClassId × FieldType)) (tc : Nat → ClassId) (hty : ∀ i : Nat, i < 4 → tys[i]? = some (tc i, vx_ty i)) (b ro : Nat → Nat) (tx : Nat → List Nat) (hx : ∀ G, G < 8 → isT (tx G)) (K : Nat → Nat) (me : Int32) (sa : Nat → Nat) (rp : List Rp) (hrp : rpsOk rp) (ly : Nat) (hly : ly < 10000) (u1 u2 u3 u4 u5 : RSt) (ho1 : okR b ro 0 u1.1) (ho2 : okR b ro 1 u2.1) (ho3 : okR b ro 2 u3.1) (ho4 : okR b ro 3 u4.1) (ho5 : okR b ro 4 u5.1) (kp : List (Nat × Nat)) (g1 g2 : Nat → Int32) (hkp : kpA g1 g2 kp) (cd0 : Int32) (sj0 : Value) (bs0 pc0 bl0 : Int32) (f1 f2 : Nat → Int32) (v : Nat) (ml : Int32) (M9 : Nat) (a : Nat → Int32) (L : List Nat) (hL : sbI a L) (hf : sb_Fit a) (hm : L.length ≤ M9 ∧ 16 ≤ M9 ∧ M9 ≤ 100) : Kt l y_Dk_respond (yw y_Dk_respond b_Dk_respond 3 (some .int)) 10 222 32 3200 D cls tys (fun A U H => qF b ro tx K me A U H ∧ shF b sa rp K A U H) [.ref (b 0)] ([dkC b (nI rp.length)] ++ acW tc b u1 ++ laW tc b u2 ++ tgW tc b u3 ++ daW tc b ly u4 ++ rnW tc b u5 kp g1 g2 ++ (rsW tc (b 8) (b 20) (b 21) (b 22) cd0 sj0 bs0 pc0 bl0 f1 f2) ++ (sbW tc (b 22) v ml L.length M9 a)) (fun r w => r = some (.int (nI (dcS ly rp me tx).1)) ∧ ∃ t1 t2 t3 t4 t5 kp2 k1 k2 q1 q2 w2, w = ([dkC b (nI rp.length)] ++ acW tc b t1 ++ laW tc b t2 ++ tgW tc b t3 ++ daW tc b ly t4 ++ rnW tc b t5 kp2 k1 k2 ++ (rpW tc b (nI (dcS ly rp me tx).1) (sbS sa (dcS ly rp me tx).2.1) (decide (me = 1)) (dcS ly rp me tx).2.2 q1 q2) ++ w2) ∧ sbX tc (b 22) w2 ∧ kpA q1 q2 (dcS ly rp me tx).2.2 ∧ okR b ro 0 t1.1 ∧ okR b ro 1 t2.1 ∧ okR b ro 2 t3.1 ∧ okR b ro 3 t4.1 ∧ okR b ro 4 t5.1 ∧ kpA k1 k2 kp2) := sorry
def j_Dk_statusR : wq_J := [(.aload_n 0, (0, 0, 0, 0, 0)), (.getfield 53, (1, 0, 8, 0, 0)), (.getfield 120, (1, 1, 0, 0, 0)), (.ireturn, (0, 0, 0, 0, 0))]
theorem jc_Dk_statusR : wq_c b_Dk_status 1 j_Dk_statusR 0 = true := sorry
set_option maxRecDepth 100000 in
set_option maxHeartbeats 4000000 in
theorem c_Dk_status (l : Launch) (D : va_G) (tys : List (ClassId × FieldType)) (tc : Nat → ClassId) (hty : ∀ i : Nat, i < 4 → tys[i]? = some (tc i, vx_ty i)) (b : Nat → Nat) (cn : Int32) (cd : Int32) (sb9 : Option (Nat × Nat × Nat)) (ho : Bool) (pa : List (Nat × Nat)) (f1 f2 : Nat → Int32) : Kt l y_Dk_status (yw y_Dk_status b_Dk_status 1 (some .int)) 0 0 0 0 D cls tys (fun _ _ _ => True) [.ref (b 0)] ([dkC b cn] ++ rpW tc b cd sb9 ho pa f1 f2) (fun r w => r = some (.int cd) ∧ w = ([dkC b cn] ++ rpW tc b cd sb9 ho pa f1 f2)) := sorry
def j_Dk_lengthR : wq_J := [(.aload_n 0, (0, 0, 0, 0, 0)), (.getfield 53, (1, 0, 8, 0, 0)), (.getfield 130, (1, 1, 2, 0, 0)), (.i2l, (0, 0, 0, 0, 0)), (.lreturn, (0, 0, 0, 0, 0))]
theorem jc_Dk_lengthR : wq_c b_Dk_length 1 j_Dk_lengthR 0 = true := sorry
set_option maxRecDepth 100000 in
set_option maxHeartbeats 4000000 in
theorem c_Dk_length (l : Launch) (D : va_G) (tys : List (ClassId × FieldType)) (tc : Nat → ClassId) (hty : ∀ i : Nat, i < 4 → tys[i]? = some (tc i, vx_ty i)) (b : Nat → Nat) (cn : Int32) (cd : Int32) (sb9 : Option (Nat × Nat × Nat)) (ho : Bool) (pa : List (Nat × Nat)) (f1 f2 : Nat → Int32) (hb : lnS cd (sjN sb9) pa < 2 ^ 31) : Kt l y_Dk_length (yw y_Dk_length b_Dk_length 1 (some .long)) 0 0 0 0 D cls tys (fun _ _ _ => True) [.ref (b 0)] ([dkC b cn] ++ rpW tc b cd sb9 ho pa f1 f2) (fun r w => r = some (.long (lN (lnS cd (sjN sb9) pa))) ∧ w = ([dkC b cn] ++ rpW tc b cd sb9 ho pa f1 f2)) := sorry
def j_Dk_partsR : wq_J := [(.aload_n 0, (0, 0, 0, 0, 0)), (.getfield 53, (1, 0, 8, 0, 0)), (.getfield 137, (1, 1, 3, 0, 0)), (.ireturn, (0, 0, 0, 0, 0))]
theorem jc_Dk_partsR : wq_c b_Dk_parts 1 j_Dk_partsR 0 = true := sorry
set_option maxRecDepth 100000 in
set_option maxHeartbeats 4000000 in
theorem c_Dk_parts (l : Launch) (D : va_G) (tys : List (ClassId × FieldType)) (tc : Nat → ClassId) (hty : ∀ i : Nat, i < 4 → tys[i]? = some (tc i, vx_ty i)) (b : Nat → Nat) (cn : Int32) (cd : Int32) (sb9 : Option (Nat × Nat × Nat)) (ho : Bool) (pa : List (Nat × Nat)) (f1 f2 : Nat → Int32) : Kt l y_Dk_parts (yw y_Dk_parts b_Dk_parts 1 (some .int)) 0 0 0 0 D cls tys (fun _ _ _ => True) [.ref (b 0)] ([dkC b cn] ++ rpW tc b cd sb9 ho pa f1 f2) (fun r w => r = some (.int (nI pa.length)) ∧ w = ([dkC b cn] ++ rpW tc b cd sb9 ho pa f1 f2)) := sorry
def j_Dk_chosenNR : wq_J := [(.aload_n 0, (0, 0, 0, 0, 0)), (.getfield 53, (1, 0, 8, 0, 0)), (.getfield 123, (1, 1, 1, 0, 0)), (.ifnonnull 7, (0, 14, 0, 0, 0)), (.iconst (-1), (0, 0, 0, (-1), 0)), (.goto 13, (0, 24, 0, 0, 0)), (.aload_n 0, (0, 0, 0, 0, 0)), (.getfield 53, (1, 0, 8, 0, 0)), (.getfield 123, (1, 1, 1, 0, 0)), (.getfield 127, (2, 0, 0, 0, 0)), (.ireturn, (0, 0, 0, 0, 0))]
theorem jc_Dk_chosenNR : wq_c b_Dk_chosen 1 j_Dk_chosenNR 0 = true := sorry
set_option maxRecDepth 100000 in
set_option maxHeartbeats 4000000 in
theorem c_Dk_chosenN (l : Launch) (D : va_G) (tys : List (ClassId × FieldType)) (tc : Nat → ClassId) (hty : ∀ i : Nat, i < 4 → tys[i]? = some (tc i, vx_ty i)) (b : Nat → Nat) (cn : Int32) (cd : Int32) (ho : Bool) (pa : List (Nat × Nat)) (f1 f2 : Nat → Int32) : Kt l y_Dk_chosen (yw y_Dk_chosen b_Dk_chosen 1 (some .int)) 0 0 0 0 D cls tys (fun _ _ _ => True) [.ref (b 0)] ([dkC b cn] ++ rpW tc b cd none ho pa f1 f2) (fun r w => r = some (.int (-1)) ∧ w = ([dkC b cn] ++ rpW tc b cd none ho pa f1 f2)) := sorry
def j_Dk_chosenSR : wq_J := [(.aload_n 0, (0, 0, 0, 0, 0)), (.getfield 53, (1, 0, 8, 0, 0)), (.getfield 123, (1, 1, 1, 0, 0)), (.ifnonnull 7, (0, 14, 0, 0, 0)), (.iconst (-1), (0, 0, 0, (-1), 0)), (.goto 13, (0, 24, 0, 0, 0)), (.aload_n 0, (0, 0, 0, 0, 0)), (.getfield 53, (1, 0, 8, 0, 0)), (.getfield 123, (1, 1, 1, 0, 0)), (.getfield 127, (2, 0, 0, 0, 0)), (.ireturn, (0, 0, 0, 0, 0))]
theorem jc_Dk_chosenSR : wq_c b_Dk_chosen 1 j_Dk_chosenSR 0 = true := sorry
set_option maxRecDepth 100000 in
set_option maxHeartbeats 4000000 in
theorem c_Dk_chosenS (l : Launch) (D : va_G) (tys : List (ClassId × FieldType)) (tc : Nat → ClassId) (hty : ∀ i : Nat, i < 4 → tys[i]? = some (tc i, vx_ty i)) (b : Nat → Nat) (cn : Int32) (cd : Int32) (ho : Bool) (pa : List (Nat × Nat)) (f1 f2 : Nat → Int32) (v : Nat × Nat × Nat) : Kt l y_Dk_chosen (yw y_Dk_chosen b_Dk_chosen 1 (some .int)) 0 0 0 0 D cls tys (spF v.1 v.2.1 v.2.2) [.ref (b 0)] ([dkC b cn] ++ rpW tc b cd (some v) ho pa f1 f2) (fun r w => r = some (.int (nI v.2.1)) ∧ w = ([dkC b cn] ++ rpW tc b cd (some v) ho pa f1 f2)) := sorry
theorem c_Dk_chosen (l : Launch) (D : va_G) (tys : List (ClassId × FieldType)) (tc : Nat → ClassId) (hty : ∀ i : Nat, i < 4 → tys[i]? = some (tc i, vx_ty i)) (b : Nat → Nat) (cn : Int32) (cd : Int32) (sb9 : Option (Nat × Nat × Nat)) (ho : Bool) (pa : List (Nat × Nat)) (f1 f2 : Nat → Int32) : Kt l y_Dk_chosen (yw y_Dk_chosen b_Dk_chosen 1 (some .int)) 0 0 0 0 D cls tys (sjF sb9) [.ref (b 0)] ([dkC b cn] ++ rpW tc b cd sb9 ho pa f1 f2) (fun r w => r = some (.int (iI ((sjN sb9).map Prod.fst))) ∧ w = ([dkC b cn] ++ rpW tc b cd sb9 ho pa f1 f2)) := sorry
def j_Dk_firstR : wq_J := [(.aload_n 0, (0, 0, 0, 0, 0)), (.getfield 53, (1, 0, 8, 0, 0)), (.iload_n 1, (0, 0, 0, 0, 0)), (.invokevirtual 140, (0, 0, 0, 0, 0)), (.ifCond .eq 15, (0, 23, 0, 0, 0)), (.aload_n 0, (0, 0, 0, 0, 0)), (.getfield 53, (1, 0, 8, 0, 0)), (.getfield 144, (1, 1, 4, 0, 0)), (.iload_n 1, (0, 0, 0, 0, 0)), (.iaload, (1, 2, 0, 0, 0)), (.goto 4, (0, 24, 0, 0, 0)), (.iconst (-1), (0, 0, 0, (-1), 0)), (.ireturn, (0, 0, 0, 0, 0))]
theorem jc_Dk_firstR : wq_c b_Dk_first 2 j_Dk_firstR 0 = true := sorry
set_option maxRecDepth 100000 in
set_option maxHeartbeats 4000000 in
theorem c_Dk_first (l : Launch) (D : va_G) (tys : List (ClassId × FieldType)) (tc : Nat → ClassId) (hty : ∀ i : Nat, i < 4 → tys[i]? = some (tc i, vx_ty i)) (b : Nat → Nat) (cn : Int32) (cd : Int32) (sb9 : Option (Nat × Nat × Nat)) (ho : Bool) (pa : List (Nat × Nat)) (f1 f2 : Nat → Int32) (hpa : kpA f1 f2 pa) (i : Int32) : Kt l y_Dk_first (yw y_Dk_first b_Dk_first 2 (some .int)) 1 21 0 0 D cls tys (fun _ _ _ => True) [.ref (b 0), .int i] ([dkC b cn] ++ rpW tc b cd sb9 ho pa f1 f2) (fun r w => r = some (.int (fsS pa i)) ∧ w = ([dkC b cn] ++ rpW tc b cd sb9 ho pa f1 f2)) := sorry
def j_Dk_lastR : wq_J := [(.aload_n 0, (0, 0, 0, 0, 0)), (.getfield 53, (1, 0, 8, 0, 0)), (.iload_n 1, (0, 0, 0, 0, 0)), (.invokevirtual 140, (0, 0, 0, 0, 0)), (.ifCond .eq 15, (0, 23, 0, 0, 0)), (.aload_n 0, (0, 0, 0, 0, 0)), (.getfield 53, (1, 0, 8, 0, 0)), (.getfield 148, (1, 1, 5, 0, 0)), (.iload_n 1, (0, 0, 0, 0, 0)), (.iaload, (1, 3, 0, 0, 0)), (.goto 4, (0, 24, 0, 0, 0)), (.iconst (-1), (0, 0, 0, (-1), 0)), (.ireturn, (0, 0, 0, 0, 0))]
theorem jc_Dk_lastR : wq_c b_Dk_last 2 j_Dk_lastR 0 = true := sorry
set_option maxRecDepth 100000 in
set_option maxHeartbeats 4000000 in
theorem c_Dk_last (l : Launch) (D : va_G) (tys : List (ClassId × FieldType)) (tc : Nat → ClassId) (hty : ∀ i : Nat, i < 4 → tys[i]? = some (tc i, vx_ty i)) (b : Nat → Nat) (cn : Int32) (cd : Int32) (sb9 : Option (Nat × Nat × Nat)) (ho : Bool) (pa : List (Nat × Nat)) (f1 f2 : Nat → Int32) (hpa : kpA f1 f2 pa) (i : Int32) : Kt l y_Dk_last (yw y_Dk_last b_Dk_last 2 (some .int)) 1 21 0 0 D cls tys (fun _ _ _ => True) [.ref (b 0), .int i] ([dkC b cn] ++ rpW tc b cd sb9 ho pa f1 f2) (fun r w => r = some (.int (lsS pa i)) ∧ w = ([dkC b cn] ++ rpW tc b cd sb9 ho pa f1 f2)) := sorry
def j_Dk_bodyR : wq_J := [(.aload_n 0, (0, 0, 0, 0, 0)), (.getfield 53, (1, 0, 8, 0, 0)), (.iload_n 1, (0, 0, 0, 0, 0)), (.invokevirtual 133, (0, 0, 0, 0, 0)), (.ireturn, (0, 0, 0, 0, 0))]
theorem jc_Dk_bodyR : wq_c b_Dk_body 2 j_Dk_bodyR 0 = true := sorry
set_option maxRecDepth 100000 in
set_option maxHeartbeats 4000000 in
theorem c_Dk_body (l : Launch) (D : va_G) (tys : List (ClassId × FieldType)) (tc : Nat → ClassId) (hty : ∀ i : Nat, i < 4 → tys[i]? = some (tc i, vx_ty i)) (b : Nat → Nat) (cn : Int32) (cd : Int32) (sb9 : Option (Nat × Nat × Nat)) (ho : Bool) (pa : List (Nat × Nat)) (f1 f2 : Nat → Int32) (hpa : kpA f1 f2 pa) (hok : anOk cd (sjN sb9) pa) (K : Nat → Nat) (v : Nat) (ml : Int32) (M9 : Nat) (a : Nat → Int32) (L : List Nat) (hL : sbI a L) (hf : sb_Fit a) (hm : L.length ≤ M9 ∧ 16 ≤ M9 ∧ M9 ≤ 100) (i : Int32) : Kt l y_Dk_body (yw y_Dk_body b_Dk_body 2 (some .int)) 9 215 32 3200 D cls tys (fun A U H => sjF sb9 A U H ∧ gtF K A U H) [.ref (b 0), .int i] ([dkC b cn] ++ rpW tc b cd sb9 ho pa f1 f2 ++ (sbW tc (b 22) v ml L.length M9 a)) (fun r w => r = some (.int (bdS cd (sjN sb9) ho pa i)) ∧ ∃ w2, w = [dkC b cn] ++ rpW tc b cd sb9 ho pa f1 f2 ++ w2 ∧ sbX tc (b 22) w2) := sorry
end
section
/-! THE CLASS: score, formed, date, clear, request, feed, add, by program (wip/whole/gen/p86.py) -/
section
variable {p : Program} {l : Launch} {e : Env} {R : Room} {s : State} {m : MethodId} {args : Array Value} {below : List Frame} {meth : Method} {c : Code} {cc : ByteArray} {nL : Nat} {D : va_G} {tys : List (ClassId × FieldType)} {A : Nat → Prop} {tc : Nat → ClassId} {Q : State → Prop} {rest : List Value} {k n : Nat} {K : List Value → va_W → Nat → Nat → Prop} {own : String} {Ts : List Cond} {ws : va_W}
/-- the length of an array that is only read -/
theorem sx_alenT {t N : Nat} {f : Nat → Value} {ty : FieldType} (hC : Cx p s m args c cc nL own Ts D cls tys A tc) (hT : va_T ty t N f A s s.heap) (kk : K (.int (nI N) :: rest) ws k n) : vx_SX cc (Vx p l e R s m args below meth c nL D cls A Q) .arraylength 1 (.ref t :: rest) ws k n K := sorry
/-- an owned object goes into an owned array of its class -/
theorem sx_aast (hC : Cx p s m args c cc nL own Ts D cls tys A tc) (q0 t0 qk ci : Nat) {a : Nat} {cA : ClassId} {r : vw_C} {N v : Nat} {vs : List Value} {f : Nat → Option Nat} (ha : ws[q0]? = some (a, .inl (cA, N, .inr (.inr (.inr (.inr f)))))) (ht : tys[t0]? = some (cA, .object r.1)) (hv : ws[qk]? = some (v, .inr (ci, vs))) (hc : cls[ci]? = some r) {i : Int32} (hin : vp_in i N) (kk : K rest (ws.set q0 (a, .inl (cA, N, .inr (.inr (.inr (.inr (va_up f i.toNatClampNeg (some v)))))))) k n) : vx_SX cc (Vx p l e R s m args below meth c nL D cls A Q) .aastore 1 (.ref v :: .int i :: .ref a :: rest) ws k n K := sorry
end
set_option maxRecDepth 100000 in
set_option maxHeartbeats 4000000 in
theorem c_Dk_score (l : Launch) (D : va_G) (tys : List (ClassId × FieldType)) (tc : Nat → ClassId) (hty : ∀ i : Nat, i < 4 → tys[i]? = some (tc i, vx_ty i)) (b ro : Nat → Nat) (tx : Nat → List Nat) (hx : ∀ G, G < 8 → isT (tx G)) (K : Nat → Nat) (me : Int32) (sa : Nat → Nat) (rp : List Rp) (hrp : rpsOk rp) (u1 u2 : RSt) (ho1 : okR b ro 0 u1.1) (ho2 : okR b ro 1 u2.1) (n9 : Int32) : Kt l y_Dk_score (yw y_Dk_score b_Dk_score 2 (some .int)) 9 197 0 0 D cls tys (fun A U H => qF b ro tx K me A U H ∧ shF b sa rp K A U H) [.ref (b 0), .int n9] ([dkC b (nI rp.length)] ++ acW tc b u1 ++ laW tc b u2) (fun r w => r = some (.int (soS tx rp n9)) ∧ ∃ q1 q2, w = ([dkC b (nI rp.length)] ++ acW tc b q1 ++ laW tc b q2) ∧ okR b ro 0 q1.1 ∧ okR b ro 1 q2.1) := sorry
set_option maxRecDepth 100000 in
set_option maxHeartbeats 4000000 in
theorem c_Dk_date (l : Launch) (D : va_G) (tys : List (ClassId × FieldType)) (tc : Nat → ClassId) (hty : ∀ i : Nat, i < 4 → tys[i]? = some (tc i, vx_ty i)) (b ro : Nat → Nat) (cn : Int32) (tx : Nat → List Nat) (hx : ∀ G, G < 8 → isT (tx G)) (K : Nat → Nat) (me : Int32) (ly : Nat) (hly : ly < 10000) (u4 : RSt) (ho4 : okR b ro 3 u4.1) (fd : Int32) : Kt l y_Dk_date (yw y_Dk_date b_Dk_date 2 (some .long)) 8 173 0 0 D cls tys (qF b ro tx K me) [.ref (b 0), .int fd] ([dkC b cn] ++ daW tc b ly u4) (fun r w => r = some (.long (lI (dvS ly tx fd))) ∧ ∃ q4, w = ([dkC b cn] ++ daW tc b ly q4) ∧ okR b ro 3 q4.1) := sorry
theorem rt_b (b : Bool) : narrow .boolean (.int (bI b)) = .int (bI b) := sorry
theorem nil_W : isW [] := sorry
set_option maxRecDepth 100000 in
set_option maxHeartbeats 4000000 in
theorem c_Dk_formed (l : Launch) (D : va_G) (tys : List (ClassId × FieldType)) (tc : Nat → ClassId) (hty : ∀ i : Nat, i < 4 → tys[i]? = some (tc i, vx_ty i)) (b ro : Nat → Nat) (cn : Int32) (tx : Nat → List Nat) (hx : ∀ G, G < 8 → isT (tx G)) (K : Nat → Nat) (me : Int32) (ly : Nat) (hly : ly < 10000) (u1 u2 u3 u4 u5 : RSt) (ho1 : okR b ro 0 u1.1) (ho2 : okR b ro 1 u2.1) (ho3 : okR b ro 2 u3.1) (ho4 : okR b ro 3 u4.1) (ho5 : okR b ro 4 u5.1) (kp : List (Nat × Nat)) (g1 g2 : Nat → Int32) (hkp : kpA g1 g2 kp) (fd : Int32) : Kt l y_Dk_formed (yw y_Dk_formed b_Dk_formed 2 (some .boolean)) 8 174 0 0 D cls tys (qF b ro tx K me) [.ref (b 0), .int fd] ([dkC b cn] ++ acW tc b u1 ++ laW tc b u2 ++ tgW tc b u3 ++ daW tc b ly u4 ++ rnW tc b u5 kp g1 g2) (fun r w => r = some (.int (bI (fmS ly tx fd))) ∧ ∃ t1 t2 t3 t4 t5 kp2 k1 k2, w = ([dkC b cn] ++ acW tc b t1 ++ laW tc b t2 ++ tgW tc b t3 ++ daW tc b ly t4 ++ rnW tc b t5 kp2 k1 k2) ∧ okR b ro 0 t1.1 ∧ okR b ro 1 t2.1 ∧ okR b ro 2 t3.1 ∧ okR b ro 3 t4.1 ∧ okR b ro 4 t5.1 ∧ kpA k1 k2 kp2) := sorry
def j_Dk_clearR : wq_J := [(.aload_n 0, (0, 0, 0, 0, 0)), (.iconst 0, (0, 0, 0, 0, 0)), (.putfield 86, (1, 0, 1, 0, 0)), (.return_, (0, 0, 0, 0, 0))]
theorem jc_Dk_clearR : wq_c b_Dk_clear 1 j_Dk_clearR 0 = true := sorry
set_option maxRecDepth 100000 in
set_option maxHeartbeats 4000000 in
theorem c_Dk_clear (l : Launch) (D : va_G) (tys : List (ClassId × FieldType)) (tc : Nat → ClassId) (hty : ∀ i : Nat, i < 4 → tys[i]? = some (tc i, vx_ty i)) (b : Nat → Nat) (cn : Int32) : Kt l y_Dk_clear (yw y_Dk_clear b_Dk_clear 1 none) 0 0 0 0 D cls tys (fun _ _ _ => True) [.ref (b 0)] [dkC b cn] (fun r w => r = none ∧ w = [dkC b 0]) := sorry
def j_Dk_requestR : wq_J := [(.aload_n 0, (0, 0, 0, 0, 0)), (.getfield 18, (1, 0, 2, 0, 0)), (.iload_n 1, (0, 0, 0, 0, 0)), (.invokevirtual 93, (0, 0, 0, 0, 0)), (.return_, (0, 0, 0, 0, 0))]
theorem jc_Dk_requestR : wq_c b_Dk_request 2 j_Dk_requestR 0 = true := sorry
set_option maxRecDepth 100000 in
set_option maxHeartbeats 4000000 in
theorem c_Dk_request (l : Launch) (D : va_G) (tys : List (ClassId × FieldType)) (tc : Nat → ClassId) (hty : ∀ i : Nat, i < 4 → tys[i]? = some (tc i, vx_ty i)) (b ro : Nat → Nat) (cn : Int32) (tcA : ClassId) (me mt : Int32) (zs : Nat → Int32) (rw9 : Nat → Nat → Int32) : Kt l y_Dk_request (yw y_Dk_request b_Dk_request 2 none) 1 22 0 0 D cls tys (fun _ _ _ => True) [.ref (b 0), .int mt] ([dkC b cn] ++ rqW tc tcA (b 2) (b 23) (b 24) ro me zs rw9) (fun r w => r = none ∧ ∃ z2, w = [dkC b cn] ++ rqW tc tcA (b 2) (b 23) (b 24) ro mt z2 rw9 ∧ ∀ j, j < 8 → z2 j = nI 0) := sorry
def j_Dk_feedR : wq_J := [(.aload_n 0, (0, 0, 0, 0, 0)), (.getfield 18, (1, 0, 2, 0, 0)), (.iload_n 1, (0, 0, 0, 0, 0)), (.lload_n 2, (0, 0, 0, 0, 0)), (.invokevirtual 97, (0, 0, 0, 0, 0)), (.ireturn, (0, 0, 0, 0, 0))]
theorem jc_Dk_feedR : wq_c b_Dk_feed 4 j_Dk_feedR 0 = true := sorry
set_option maxRecDepth 100000 in
set_option maxHeartbeats 4000000 in
theorem c_Dk_feed (l : Launch) (D : va_G) (tys : List (ClassId × FieldType)) (tc : Nat → ClassId) (hty : ∀ i : Nat, i < 4 → tys[i]? = some (tc i, vx_ty i)) (b ro : Nat → Nat) (cn : Int32) (tcA : ClassId) (htA : tys[5]? = some (tcA, .array .int)) (me : Int32) (zs : Nat → Int32) (rw9 : Nat → Nat → Int32) (tx : Nat → List Nat) (hA : rqA zs rw9 tx) (fd : Int32) (ch : Int64) : Kt l y_Dk_feed (yw y_Dk_feed b_Dk_feed 4 (some .int)) 3 70 0 0 D cls tys (fun _ _ _ => True) [.ref (b 0), .int fd, .long ch] ([dkC b cn] ++ rqW tc tcA (b 2) (b 23) (b 24) ro me zs rw9) (fun r w => r = some (.int (if fdB tx fd ch = true then nI ((tx fd.toNatClampNeg).length + (chL ch).length) else -1)) ∧ ∃ z2 r2, w = [dkC b cn] ++ rqW tc tcA (b 2) (b 23) (b 24) ro me z2 r2 ∧ rqA z2 r2 (if fdB tx fd ch = true then txU tx fd ch else tx)) := sorry
theorem lc_0 {x : Int64} : lg_cmp x 0 < 0 ↔ x < 0 := sorry
set_option maxRecDepth 100000 in
set_option maxHeartbeats 4000000 in
theorem c_Dk_isWithin (l : Launch) (D : va_G) (tys : List (ClassId × FieldType)) (tc : Nat → ClassId) (hty : ∀ i : Nat, i < 4 → tys[i]? = some (tc i, vx_ty i)) (x9 y9 : Int64) : Kt l y_Dk_isWithin (yw y_Dk_isWithin b_Dk_isWithin 4 (some .boolean)) 0 0 0 0 D cls tys (fun _ _ _ => True) [.long x9, .long y9] [] (fun r w => r = some (.int (bI (decide (0 ≤ x9 ∧ x9 ≤ y9)))) ∧ w = []) := sorry
set_option maxRecDepth 100000 in
set_option maxHeartbeats 4000000 in
theorem c_Rp_init (l : Launch) (D : va_G) (tys : List (ClassId × FieldType)) (tc : Nat → ClassId) (hty : ∀ i : Nat, i < 4 → tys[i]? = some (tc i, vx_ty i)) (a num t1 t2 sz tag : Nat) (htg : tag ≤ 9999) (wk : Bool) (ch : Int64) (K : Nat → Nat) : Kt l y_Rp_init (yw y_Rp_init b_Rp_init 9 none) 6 171 8 400 D cls tys (gtF K) [.ref a, .int (nI num), .ref t1, .ref t2, .int (nI sz), .int (nI tag), .int (bI wk), .long ch] [(a, .inr (7, [.int 0, .null, .null, .int 0, .null, .int 0, .long 0]))] (fun r w => r = none ∧ ∃ t w2 a3 b9 v3 l3 m3, w = [(a, .inr (7, [.int (nI num), .ref t1, .ref t2, .int (nI sz), .ref t, .int (bI wk), .long ch])), (t, .inr (10, [.ref w2, .int 0, .int 0, .int 0])), (b9, .inr (11, [.ref v3, .int 0, .int l3, .int (nI (tagL tag).length)])), (v3, .inl (tc 1, m3, .inl a3)), (w2, .inl (tc 1, (tagL tag).length, .inl (va_cpy a3 (fun _ => 0) 0 0 (tagL tag).length)))] ∧ sbI a3 (tagL tag)) := sorry
def j_Dk_addR : wq_J := [(.iload_n 1, (0, 0, 0, 0, 0)), (.i2l, (0, 0, 0, 0, 0)), (.getstatic 70, (2, 0, 0, 0, 0)), (.arraylength, (0, 0, 0, 0, 0)), (.iconst 1, (0, 0, 0, 1, 0)), (.isub, (0, 0, 0, 0, 0)), (.i2l, (0, 0, 0, 0, 0)), (.invokestatic 74, (0, 0, 0, 0, 0)), (.ifCond .eq 22, (0, 34, 0, 0, 0)), (.iload_n 2, (0, 0, 0, 0, 0)), (.i2l, (0, 0, 0, 0, 0)), (.getstatic 78, (2, 0, 0, 0, 0)), (.arraylength, (0, 0, 0, 0, 0)), (.iconst 1, (0, 0, 0, 1, 0)), (.isub, (0, 0, 0, 0, 0)), (.i2l, (0, 0, 0, 0, 0)), (.invokestatic 74, (0, 0, 0, 0, 0)), (.ifCond .eq 7, (0, 34, 0, 0, 0)), (.iconst 1, (0, 0, 0, 1, 0)), (.goto 4, (0, 35, 0, 0, 0)), (.iconst 0, (0, 0, 0, 0, 0)), (.istore 8, (0, 0, 0, 0, 0)), (.iload_n 3, (0, 0, 0, 0, 0)), (.i2l, (0, 0, 0, 0, 0)), (.ldc2_w 82, (1, 0, 0, 0, 100000)), (.invokestatic 74, (0, 0, 0, 0, 0)), (.ifCond .eq 30, (0, 75, 0, 0, 0)), (.iload 4, (0, 0, 0, 0, 0)), (.i2l, (0, 0, 0, 0, 0)), (.ldc2_w 84, (1, 0, 0, 0, 9999)), (.invokestatic 74, (0, 0, 0, 0, 0)), (.ifCond .eq 18, (0, 75, 0, 0, 0)), (.lload 6, (0, 0, 0, 0, 0)), (.ldc2_w 61, (1, 0, 0, 0, 4102444799)), (.invokestatic 74, (0, 0, 0, 0, 0)), (.ifCond .eq 7, (0, 75, 0, 0, 0)), (.iconst 1, (0, 0, 0, 1, 0)), (.goto 4, (0, 76, 0, 0, 0)), (.iconst 0, (0, 0, 0, 0, 0)), (.istore 9, (0, 0, 0, 0, 0)), (.iload 8, (0, 0, 0, 0, 0)), (.ifCond .eq 16, (0, 96, 0, 0, 0)), (.iload 9, (0, 0, 0, 0, 0)), (.ifCond .eq 11, (0, 96, 0, 0, 0)), (.aload_n 0, (0, 0, 0, 0, 0)), (.getfield 86, (1, 0, 1, 0, 0)), (.iconst 4, (0, 0, 0, 4, 0)), (.if_icmp .lt 5, (0, 98, 0, 0, 0)), (.iconst (-1), (0, 0, 0, (-1), 0)), (.ireturn, (0, 0, 0, 0, 0)), (.aload_n 0, (0, 0, 0, 0, 0)), (.getfield 86, (1, 0, 1, 0, 0)), (.istore 10, (0, 0, 0, 0, 0)), (.aload_n 0, (0, 0, 0, 0, 0)), (.getfield 11, (1, 0, 0, 0, 0)), (.iload 10, (0, 0, 0, 0, 0)), (.new 9, (0, 0, 0, 0, 0)), (.dup, (0, 0, 0, 0, 0)), (.iload 10, (0, 0, 0, 0, 0)), (.getstatic 70, (2, 0, 0, 0, 0)), (.iload_n 1, (0, 0, 0, 0, 0)), (.aaload, (0, 0, 0, 0, 0)), (.getstatic 78, (2, 0, 0, 0, 0)), (.iload_n 2, (0, 0, 0, 0, 0)), (.aaload, (0, 0, 0, 0, 0)), (.iload_n 3, (0, 0, 0, 0, 0)), (.iload 4, (0, 0, 0, 0, 0)), (.iload 5, (0, 0, 0, 0, 0)), (.lload 6, (0, 0, 0, 0, 0)), (.invokespecial 90, (0, 0, 0, 0, 0)), (.aastore, (0, 0, 0, 0, 0)), (.aload_n 0, (0, 0, 0, 0, 0)), (.dup, (0, 0, 0, 0, 0)), (.getfield 86, (1, 0, 1, 0, 0)), (.iconst 1, (0, 0, 0, 1, 0)), (.iadd, (0, 0, 0, 0, 0)), (.putfield 86, (1, 0, 1, 0, 0)), (.iload 10, (0, 0, 0, 0, 0)), (.ireturn, (0, 0, 0, 0, 0))]
theorem jc_Dk_addR : wq_c b_Dk_add 11 j_Dk_addR 0 = true := sorry
theorem w5_i {x : Int32} {k : Nat} (hk : k < 2 ^ 31) : (0 ≤ Int32.toInt64 x ∧ Int32.toInt64 x ≤ lN k) ↔ (0 ≤ x ∧ x ≤ nI k) := sorry
theorem nat_i {x : Int32} {k : Nat} (hk : k < 2 ^ 31) (h : 0 ≤ x ∧ x ≤ nI k) : x = nI x.toNatClampNeg ∧ x.toNatClampNeg ≤ k := sorry
theorem nat_l {x : Int64} {k : Nat} (hk : k < 2 ^ 63) (h : 0 ≤ x ∧ x ≤ lN k) : x = lN x.toNatClampNeg ∧ x.toNatClampNeg ≤ k := sorry
end
section
/-! THE CLASS: a representation is added, by program (wip/whole/gen/p87.py) -/
set_option maxRecDepth 100000 in
set_option maxHeartbeats 4000000 in
theorem c_Dk_add (l : Launch) (D : va_G) (tys : List (ClassId × FieldType)) (tc : Nat → ClassId) (hty : ∀ i : Nat, i < 4 → tys[i]? = some (tc i, vx_ty i)) (b : Nat → Nat) (K : Nat → Nat) (tcR : ClassId) (htR : tys[4]? = some (tcR, .object "OriginDesk$Representation")) (rp : List Rp) (hr4 : rp.length ≤ 4) (sv : Nat → Option Nat) (kd to bz nu : Int32) (wk : Bool) (tm : Int64) : Kt l y_Dk_add (yw y_Dk_add b_Dk_add 11 (some .int)) 7 199 9 407 D cls tys (gtF K) [.ref (b 0), .int kd, .int to, .int bz, .int nu, .int (bI wk), .long tm] [dkC b (nI rp.length), (b 1, .inl (tcR, 4, .inr (.inr (.inr (.inr sv)))))] (fun r w => (adB rp kd to bz nu tm = false → r = some (.int (-1)) ∧ w = [dkC b (nI rp.length), (b 1, .inl (tcR, 4, .inr (.inr (.inr (.inr sv)))))]) ∧ (adB rp kd to bz nu tm = true → ∃ a t w2 a3, r = some (.int (nI rp.length)) ∧ w = [dkC b (nI (rp.length + 1)), (b 1, .inl (tcR, 4, .inr (.inr (.inr (.inr (va_up sv rp.length (some a))))))), (a, .inr (7, [.int (nI rp.length), .ref (K (100 + kd.toNatClampNeg)), .ref (K (200 + to.toNatClampNeg)), .int (nI bz.toNatClampNeg), .ref t, .int (bI wk), .long (lN tm.toNatClampNeg)])), (t, .inr (10, [.ref w2, .int 0, .int 0, .int 0])), (w2, .inl (tc 1, (tagL nu.toNatClampNeg).length, .inl (va_cpy a3 (fun _ => 0) 0 0 (tagL nu.toNatClampNeg).length)))] ∧ sbI a3 (tagL nu.toNatClampNeg))) := sorry
end
section
/-! THE CLASS: its constructors, by program (wip/whole/gen/p88.py) -/
section
variable {p : Program} {l : Launch} {e : Env} {R : Room} {s : State} {m : MethodId} {args : Array Value} {below : List Frame} {meth : Method} {c : Code} {cc : ByteArray} {nL : Nat} {D : va_G} {tys : List (ClassId × FieldType)} {A : Nat → Prop} {tc : Nat → ClassId} {Q : State → Prop} {rest : List Value} {k n : Nat} {K : List Value → va_W → Nat → Nat → Prop} {y0 : MethodName} {b0 : ByteArray} {n0 index : Nat} {r0 : Option FieldType} {own : String} {ws : va_W}
/-- a new array of references -/
theorem sx_anew (hC : Cx p s m args c cc nL own (yw y0 b0 n0 r0) D cls tys A tc) {C : String} (hcl : Cond.classLink own index C ∈ gw) (hov : va_AO C s) {t0 : Nat} {tcR : ClassId} (ht : tys[t0]? = some (tcR, .object C)) {N : Nat} {n9 : Int32} (hn : n9 = nI N) (hN : N < 2 ^ 20) (hk : k + 1 ≤ R.cells ∧ n + N ≤ R.slots)
    (kk : ∀ q : Nat, K (.ref q :: rest) (ws ++ [(q, .inl (tcR, N, .inr (.inr (.inr (.inr (fun _ => none))))))]) (k + 1) (n + N)) : vx_SX cc (Vx p l e R s m args below meth c nL D cls A Q) (.anewarray index) 3 (.int n9 :: rest) ws k n K := sorry
theorem vd_app {L : va_W} {q : Nat} (hD : va_D A ws) (hlt : ∀ (j : Nat) (x : Nat × va_E), ws[j]? = some x → x.1 < q) (hL : ∀ (i : Nat) (x : Nat × va_E), L[i]? = some x → x.1 = q + i) (hA : ∀ a, q ≤ a → A a) : va_D A (ws ++ L) := sorry
def grW (tc : Nat → ClassId) (tcA : ClassId) (q : Nat) : va_W := [(q, .inl (tcA, 8, .inr (.inr (.inr (.inr (fun G => some (q + 1 + G))))))), (q + 1 + 0, .inl (tc 0, 96, .inl (fun _ => 0))), (q + 1 + 1, .inl (tc 0, 96, .inl (fun _ => 0))), (q + 1 + 2, .inl (tc 0, 96, .inl (fun _ => 0))), (q + 1 + 3, .inl (tc 0, 96, .inl (fun _ => 0))), (q + 1 + 4, .inl (tc 0, 96, .inl (fun _ => 0))), (q + 1 + 5, .inl (tc 0, 96, .inl (fun _ => 0))), (q + 1 + 6, .inl (tc 0, 96, .inl (fun _ => 0))), (q + 1 + 7, .inl (tc 0, 96, .inl (fun _ => 0)))]
theorem grW_at {tcA : ClassId} {q i : Nat} {x : Nat × va_E} (h : (grW tc tcA q)[i]? = some x) : (i = 0 ∧ x = (q, .inl (tcA, 8, .inr (.inr (.inr (.inr (fun G => some (q + 1 + G)))))))) ∨ ∃ j, j < 8 ∧ i = j + 1 ∧ x = (q + 1 + j, .inl (tc 0, 96, .inl (fun _ => 0))) := sorry
set_option maxHeartbeats 2000000 in
/-- new int[8][96] -/
theorem sx_mnew (hC : Cx p s m args c cc nL own (yw y0 b0 n0 r0) D cls tys A tc) (hcl : Cond.classLink own index "[[I" ∈ gw) (hov : (Cond.arrayOver (.array .int)).before args s = true) (hac : Cond.arrayClass .int ∈ gw) {tcA : ClassId} (ht : tys[5]? = some (tcA, .array .int)) (hk : k + (1 + 8) ≤ R.cells ∧ n + (8 + 8 * 96) ≤ R.slots)
    (kk : ∀ q : Nat, K (.ref q :: rest) (ws ++ grW tc tcA q) (k + 1 + 8) (n + 8 + 8 * 96)) : vx_SX cc (Vx p l e R s m args below meth c nL D cls A Q) (.multianewarray index 2) 4 (.int 96 :: .int 8 :: rest) ws k n K := sorry
end
set_option maxRecDepth 100000 in
set_option maxHeartbeats 4000000 in
theorem c_Rd_init (l : Launch) (D : va_G) (tys : List (ClassId × FieldType)) (tc : Nat → ClassId) (hty : ∀ i : Nat, i < 4 → tys[i]? = some (tc i, vx_ty i)) (ci : Nat) (hci : ci < 5) (h : Nat) (ex : List Value) : Kt l y_Rd_init (yw y_Rd_init b_Rd_init 1 none) 1 30 2 96 D cls tys (fun _ _ _ => True) [.ref h] [(h, .inr (ci, .null :: .int 0 :: .int 0 :: .null :: .int 0 :: ex))] (fun r w => r = none ∧ ∃ ra sa, w = [(h, .inr (ci, .ref ra :: .int 0 :: .int 0 :: .ref sa :: .int 0 :: ex)), (ra, .inl (tc 0, 0, .inl (fun _ => 0))), (sa, .inl (tc 0, 96, .inl (fun _ => 0)))]) := sorry
def NKs : List (String × Nat × MethodName) := [("OriginDesk$Accept", 3, y_Rd_init), ("OriginDesk$Languages", 3, y_Rd_init), ("OriginDesk$Tags", 3, y_Rd_init), ("OriginDesk$Dates", 3, y_Rd_init), ("OriginDesk$Ranges", 3, y_Rd_init), ("OriginDesk", 17, y_Rq_init), ("OriginDesk", 24, y_Ac_init), ("OriginDesk", 31, y_La_init), ("OriginDesk", 38, y_Tg_init), ("OriginDesk", 45, y_Ra_init), ("OriginDesk", 52, y_Rs_init)]
/-- constructors of nest mates may be called -/
def nkF : (Nat → Prop) → State → Heap → Prop := fun _ U _ => ∀ (i : Nat) (q : String × Nat × MethodName), NKs[i]? = some q → va_Nw (.methodLinkNest q.1 q.2.1 q.2.2 "OriginDesk") U
theorem nkF_ro : RO nkF := sorry
set_option maxRecDepth 100000 in
set_option maxHeartbeats 4000000 in
theorem c_Ac_init (l : Launch) (D : va_G) (tys : List (ClassId × FieldType)) (tc : Nat → ClassId) (hty : ∀ i : Nat, i < 4 → tys[i]? = some (tc i, vx_ty i)) (h : Nat) : Kt l y_Ac_init (yw y_Ac_init b_Ac_init 1 none) 2 50 2 96 D cls tys nkF [.ref h] [(h, .inr (0, .null :: .int 0 :: .int 0 :: .null :: .int 0 :: [.int 0, .int 0, .int 0, .int 0, .int 0]))] (fun r w => r = none ∧ ∃ ra sa, w = [(h, .inr (0, .ref ra :: .int 0 :: .int 0 :: .ref sa :: .int 0 :: [.int 0, .int 0, .int 0, .int 0, .int 0])), (ra, .inl (tc 0, 0, .inl (fun _ => 0))), (sa, .inl (tc 0, 96, .inl (fun _ => 0)))]) := sorry
set_option maxRecDepth 100000 in
set_option maxHeartbeats 4000000 in
theorem c_La_init (l : Launch) (D : va_G) (tys : List (ClassId × FieldType)) (tc : Nat → ClassId) (hty : ∀ i : Nat, i < 4 → tys[i]? = some (tc i, vx_ty i)) (h : Nat) : Kt l y_La_init (yw y_La_init b_La_init 1 none) 2 50 2 96 D cls tys nkF [.ref h] [(h, .inr (1, .null :: .int 0 :: .int 0 :: .null :: .int 0 :: [.int 0, .int 0]))] (fun r w => r = none ∧ ∃ ra sa, w = [(h, .inr (1, .ref ra :: .int 0 :: .int 0 :: .ref sa :: .int 0 :: [.int 0, .int 0])), (ra, .inl (tc 0, 0, .inl (fun _ => 0))), (sa, .inl (tc 0, 96, .inl (fun _ => 0)))]) := sorry
set_option maxRecDepth 100000 in
set_option maxHeartbeats 4000000 in
theorem c_Tg_init (l : Launch) (D : va_G) (tys : List (ClassId × FieldType)) (tc : Nat → ClassId) (hty : ∀ i : Nat, i < 4 → tys[i]? = some (tc i, vx_ty i)) (h : Nat) : Kt l y_Tg_init (yw y_Tg_init b_Tg_init 1 none) 2 50 2 96 D cls tys nkF [.ref h] [(h, .inr (2, .null :: .int 0 :: .int 0 :: .null :: .int 0 :: [.int 0, .int 0, .int 0]))] (fun r w => r = none ∧ ∃ ra sa, w = [(h, .inr (2, .ref ra :: .int 0 :: .int 0 :: .ref sa :: .int 0 :: [.int 0, .int 0, .int 0])), (ra, .inl (tc 0, 0, .inl (fun _ => 0))), (sa, .inl (tc 0, 96, .inl (fun _ => 0)))]) := sorry
set_option maxRecDepth 100000 in
set_option maxHeartbeats 4000000 in
theorem c_Ra_init (l : Launch) (D : va_G) (tys : List (ClassId × FieldType)) (tc : Nat → ClassId) (hty : ∀ i : Nat, i < 4 → tys[i]? = some (tc i, vx_ty i)) (h : Nat) : Kt l y_Ra_init (yw y_Ra_init b_Ra_init 1 none) 2 50 4 104 D cls tys nkF [.ref h] [(h, .inr (4, .null :: .int 0 :: .int 0 :: .null :: .int 0 :: [.null, .null, .int 0, .int 0]))] (fun r w => r = none ∧ ∃ ra sa fa la, w = [(h, .inr (4, .ref ra :: .int 0 :: .int 0 :: .ref sa :: .int 0 :: [.ref fa, .ref la, .int 0, .int 0])), (ra, .inl (tc 0, 0, .inl (fun _ => 0))), (sa, .inl (tc 0, 96, .inl (fun _ => 0))), (fa, .inl (tc 0, 4, .inl (fun _ => 0))), (la, .inl (tc 0, 4, .inl (fun _ => 0)))]) := sorry
set_option maxRecDepth 100000 in
set_option maxHeartbeats 4000000 in
theorem c_Da_init (l : Launch) (D : va_G) (tys : List (ClassId × FieldType)) (tc : Nat → ClassId) (hty : ∀ i : Nat, i < 4 → tys[i]? = some (tc i, vx_ty i)) (h N : Nat) (hN : N ≤ 4102444799) : Kt l y_Da_init (yw y_Da_init b_Da_init 3 none) 2 50 2 96 D cls tys nkF [.ref h, .long (lN N)] [(h, .inr (3, .null :: .int 0 :: .int 0 :: .null :: .int 0 :: [.int 0, .int 0, .int 0, .int 0, .int 0]))] (fun r w => r = none ∧ ∃ ra sa, w = [(h, .inr (3, .ref ra :: .int 0 :: .int 0 :: .ref sa :: .int 0 :: [.int (nI (yrN N + 50)), .int 0, .int 0, .int 0, .int 0])), (ra, .inl (tc 0, 0, .inl (fun _ => 0))), (sa, .inl (tc 0, 96, .inl (fun _ => 0)))]) := sorry
set_option maxRecDepth 100000 in
set_option maxHeartbeats 4000000 in
theorem c_Rs_init (l : Launch) (D : va_G) (tys : List (ClassId × FieldType)) (tc : Nat → ClassId) (hty : ∀ i : Nat, i < 4 → tys[i]? = some (tc i, vx_ty i)) (h : Nat) : Kt l y_Rs_init (yw y_Rs_init b_Rs_init 1 none) 3 81 4 28 D cls tys csF [.ref h] [(h, .inr (6, [.int 0, .null, .int 0, .int 0, .null, .null, .int 0, .null]))] (fun r w => r = none ∧ ∃ fa la hb v, w = [(h, .inr (6, [.int (-1), .null, .int 0, .int 0, .ref fa, .ref la, .int 0, .ref hb])), (fa, .inl (tc 0, 4, .inl (fun _ => 0))), (la, .inl (tc 0, 4, .inl (fun _ => 0)))] ++ sbW tc hb v 0 0 16 (fun _ => 0)) := sorry
/-- int[][] has been made before -/
def aoF : (Nat → Prop) → State → Heap → Prop := fun _ U _ => (Cond.arrayOver (.array .int)).before #[] U = true
def arF : (Nat → Prop) → State → Heap → Prop := fun _ U _ => va_AO "OriginDesk$Representation" U
theorem arF_ro : RO arF := sorry
theorem aoF_ro : RO aoF := sorry
set_option maxRecDepth 100000 in
set_option maxHeartbeats 4000000 in
theorem c_Rq_init (l : Launch) (D : va_G) (tys : List (ClassId × FieldType)) (tc : Nat → ClassId) (hty : ∀ i : Nat, i < 4 → tys[i]? = some (tc i, vx_ty i)) (q : Nat) (tcA : ClassId) (htA : tys[5]? = some (tcA, .array .int)) : Kt l y_Rq_init (yw y_Rq_init b_Rq_init 1 none) 1 30 10 784 D cls tys aoF [.ref q] [(q, .inr (5, [.int 0, .null, .null]))] (fun r w => r = none ∧ ∃ t za, w = [(q, .inr (5, [.int 0, .ref t, .ref za]))] ++ grW tc tcA t ++ [(za, .inl (tc 0, 8, .inl (fun _ => 0)))]) := sorry
/-- the seconds that a desk takes as now -/
def nowN (nw : Int32) : Nat := if 4102444799 < nw.toBitVec.toNat then 0 else nw.toBitVec.toNat
theorem nowN_le (nw : Int32) : nowN nw ≤ 4102444799 := sorry
theorem now_and (nw : Int32) : nw.toInt64 &&& 4294967295 = lN nw.toBitVec.toNat := sorry
/-- the cells of a new desk, in the order of their making -/
def dkN (tc : Nat → ClassId) (tcA tcR : ClassId) (b ro : Nat → Nat) (ly v : Nat) : va_W := [dkC b (nI 0), (b 1, .inl (tcR, 4, .inr (.inr (.inr (.inr (fun _ => none)))))), (b 2, .inr (5, [.int 0, .ref (b 24), .ref (b 23)])), (b 24, .inl (tcA, 8, .inr (.inr (.inr (.inr (fun G => some (ro G))))))), (ro 0, .inl (tc 0, 96, .inl (fun _ => 0))), (ro 1, .inl (tc 0, 96, .inl (fun _ => 0))), (ro 2, .inl (tc 0, 96, .inl (fun _ => 0))), (ro 3, .inl (tc 0, 96, .inl (fun _ => 0))), (ro 4, .inl (tc 0, 96, .inl (fun _ => 0))), (ro 5, .inl (tc 0, 96, .inl (fun _ => 0))), (ro 6, .inl (tc 0, 96, .inl (fun _ => 0))), (ro 7, .inl (tc 0, 96, .inl (fun _ => 0))), (b 23, .inl (tc 0, 8, .inl (fun _ => 0))), (b 3, .inr (0, [.ref (b 30), .int 0, .int 0, .ref (b 13), .int 0, .int 0, .int 0, .int 0, .int 0, .int 0])), (b 30, .inl (tc 0, 0, .inl (fun _ => 0))), (b 13, .inl (tc 0, 96, .inl (fun _ => 0))), (b 4, .inr (1, [.ref (b 31), .int 0, .int 0, .ref (b 14), .int 0, .int 0, .int 0])), (b 31, .inl (tc 0, 0, .inl (fun _ => 0))), (b 14, .inl (tc 0, 96, .inl (fun _ => 0))), (b 5, .inr (2, [.ref (b 32), .int 0, .int 0, .ref (b 15), .int 0, .int 0, .int 0, .int 0])), (b 32, .inl (tc 0, 0, .inl (fun _ => 0))), (b 15, .inl (tc 0, 96, .inl (fun _ => 0))), (b 7, .inr (4, [.ref (b 34), .int 0, .int 0, .ref (b 17), .int 0, .ref (b 18), .ref (b 19), .int 0, .int 0])), (b 34, .inl (tc 0, 0, .inl (fun _ => 0))), (b 17, .inl (tc 0, 96, .inl (fun _ => 0))), (b 18, .inl (tc 0, 4, .inl (fun _ => 0))), (b 19, .inl (tc 0, 4, .inl (fun _ => 0))), (b 8, .inr (6, [.int (-1), .null, .int 0, .int 0, .ref (b 20), .ref (b 21), .int 0, .ref (b 22)])), (b 20, .inl (tc 0, 4, .inl (fun _ => 0))), (b 21, .inl (tc 0, 4, .inl (fun _ => 0)))] ++ sbW tc (b 22) v 0 0 16 (fun _ => 0) ++ [(b 6, .inr (3, [.ref (b 33), .int 0, .int 0, .ref (b 16), .int 0, .int (nI ly), .int 0, .int 0, .int 0, .int 0])), (b 33, .inl (tc 0, 0, .inl (fun _ => 0))), (b 16, .inl (tc 0, 96, .inl (fun _ => 0)))]
theorem le_now {nw : Int32} (h : lg_cmp (nw.toInt64 &&& 4294967295) 4102444799 ≤ 0) : nw.toBitVec.toNat ≤ 4102444799 := sorry
theorem now_le {nw : Int32} (h : nw.toBitVec.toNat ≤ 4102444799) : lg_cmp (nw.toInt64 &&& 4294967295) 4102444799 ≤ 0 := sorry
set_option maxRecDepth 100000 in
set_option maxHeartbeats 4000000 in
theorem c_Dk_init (l : Launch) (D : va_G) (tys : List (ClassId × FieldType)) (tc : Nat → ClassId) (hty : ∀ i : Nat, i < 4 → tys[i]? = some (tc i, vx_ty i)) (h : Nat) (nw : Int32) (tcA tcR : ClassId) (htA : tys[5]? = some (tcA, .array .int)) (htR : tys[4]? = some (tcR, .object "OriginDesk$Representation")) : Kt l y_Dk_init (yw y_Dk_init b_Dk_init 4 none) 4 101 40 2000 D cls tys (fun A U H => nkF A U H ∧ csF A U H ∧ arF A U H ∧ aoF A U H) [.ref h, .int nw] [(h, .inr (8, [.null, .int 0, .null, .null, .null, .null, .null, .null, .null]))] (fun r w => r = none ∧ ∃ (b ro : Nat → Nat) (v : Nat), b 0 = h ∧ w = dkN tc tcA tcR b ro (yrN (nowN nw) + 50) v) := sorry
end
section
/-! WORLDS with a tail of any length; read facts out of cells (wip/whole/gen/p89.py) -/
theorem nd_iff : ∀ l : List Nat, va_nd l = true ↔ l.Nodup:= sorry
section
variable {W0 T X w wc wr W2 : va_W} {is js : List Nat}
theorem vm_app (h : is.map (fun i => W0[i]?) = w.map some) : is.map (fun i => (W0 ++ T)[i]?) = w.map some := sorry
theorem vm_lt (h : is.map (fun i => W0[i]?) = w.map some) : ∀ i ∈ is, i < W0.length := sorry
theorem vm_tail (c : Nat) (h : c = W0.length) : ((List.range T.length).map (fun i => c + i)).map (fun i => (W0 ++ T)[i]?) = T.map some := sorry
theorem nd_sh (c n : Nat) : ((List.range n).map (fun i => c + i)).Nodup := sorry
theorem nd_tail {c n : Nat} (h : va_nd is = true) (hl : ∀ i ∈ is, i < c) : va_nd (is ++ (List.range n).map (fun i => c + i)) = true := sorry
theorem vm_perm {a b c : va_W} : ((List.range a.length) ++ (List.range c.length).map (fun i => (a ++ b).length + i) ++ (List.range b.length).map (fun i => a.length + i)).map (fun i => ((a ++ b) ++ c)[i]?) = ((a ++ c) ++ b).map some := sorry
theorem nd_perm {a b c : Nat} : va_nd ((List.range a) ++ (List.range c).map (fun i => (a + b) + i) ++ (List.range b).map (fun i => a + i)) = true := sorry
end
section
variable {p : Program} {l : Launch} {e : Env} {R : Room} {s : State} {m : MethodId} {args : Array Value} {below : List Frame} {meth : Method} {c : Code} {cc : ByteArray} {nL : Nat} {D : va_G} {cl : List vw_C} {tys : List (ClassId × FieldType)} {A : Nat → Prop} {tc : Nat → ClassId} {Q : State → Prop} {pc : Nat} {lv : wq_L} {st rest : List Value} {k n mc ms : Nat} {post : Option Value → va_W → Prop} {F : (Nat → Prop) → State → Heap → Prop} {ret : Option FieldType} {K : List Value → va_W → Nat → Nat → Prop} {y y0 : MethodName} {bytes b0 : ByteArray} {maxL n0 index nA fr lo : Nat} {r0 : Option FieldType} {b : Nat} {As : List Value} {own C : String} {W0 T wc wr W2 X : va_W}
theorem Vx.subT (js : List Nat) (hn : va_nd js = true) (hw : js.map (fun i => X[i]?) = W2.map some) (h : Vx p l e R s m args below meth c nL D cl A Q pc lv st (W2 ++ T) k n) : Vx p l e R s m args below meth c nL D cl A Q pc lv st (X ++ T) k n := sorry
theorem Vx.mid {wa wb wd : va_W} (h : Vx p l e R s m args below meth c nL D cl A Q pc lv st ((wa ++ wd) ++ wb) k n) : Vx p l e R s m args below meth c nL D cl A Q pc lv st ((wa ++ wb) ++ wd) k n := sorry
/-- a call in a world with a tail -/
theorem lx_call {ci : Nat} {fs : List Value} {rc : vw_C} (hC : Cx p s m args c cc nL own (yw y0 b0 n0 r0) D cls tys A tc) (hk : Kt l y (yw y bytes maxL ret) fr lo mc ms D cls tys F (.ref b :: As) wc post) (cw : CallW R s args own C index y bytes maxL ret (yw y bytes maxL ret) { frames := fr, cells := mc, slots := ms, locals := lo } mc ms nA)
    (isC isR : List Nat) (hc : isC.map (fun i => W0[i]?) = wc.map some) (hr : isR.map (fun i => W0[i]?) = wr.map some) (hnC : va_nd isC = true) (hn : va_nd isR = true) (hdis : ∀ i ∈ isR, i ∉ isC) (hq : wc[0]? = some (b, .inr (ci, fs))) (h1 : cls[ci]? = some rc) (h2 : rc.1 = C)
    (hF : ∀ (H : Heap) (locs : List Loc), va_P D cls (W0 ++ T) H → va_D A (W0 ++ T) → va_S A s.heap H locs → F (va_A wc H.size) s H) (hlen : As.length = nA) (hst : st = As.reverse ++ .ref b :: rest) (hW : (rest.map fun v => v.category).sum ≤ 8) (hkn : k + mc ≤ R.cells ∧ n + ms ≤ R.slots)
    (kk : ∀ (r : Option Value) (w1 : va_W), post r w1 → ∃ (js : List Nat) (W2 : va_W), va_nd js = true ∧ js.map (fun i => (wr ++ w1)[i]?) = W2.map some ∧ K (r.toList ++ rest) (W2 ++ T) (k + mc) (n + ms)) : vx_SX cc (Vx p l e R s m args below meth c nL D cls A Q) (.invokevirtual index) 3 st (W0 ++ T) k n K := sorry
variable {ws : va_W} {H : Heap} {isC : List Nat}
/-- a cell that isn't the callee's is only read by it -/
theorem out_A (hP : va_P D cl ws H) (hD : va_D A ws) (hc : isC.map (fun i => ws[i]?) = wc.map some) {i : Nat} {q : Nat × va_E} (hi : ws[i]? = some q) (hn : i ∉ isC) : ¬ va_A wc H.size q.1 := sorry
end
section
variable {p : Program} {s : State} {m : MethodId} {args : Array Value} {c : Code} {cc : ByteArray} {nL : Nat} {own : String} {D : va_G} {tys : List (ClassId × FieldType)} {A : Nat → Prop} {tc : Nat → ClassId} {y0 : MethodName} {b0 : ByteArray} {n0 : Nat} {r0 : Option FieldType} {ws wc : va_W} {H : Heap} {B : Nat → Prop}
theorem fo_OF (hC : Cx p s m args c cc nL own (yw y0 b0 n0 r0) D cls tys A tc) (hP : va_P D cls ws H) {ci a i : Nat} {fs : List Value} {C : String} {T : u_T} {N : Nat} (hc : cls[ci]? = some (C, T, N)) (hi : ws[i]? = some (a, .inr (ci, fs))) (hn : ¬ B a) (k : Nat) (hk : k < N) : va_OF (T k).1 (T k).2.1 (T k).2.2.1 (vp_V fs k) a B s H := sorry
theorem fo_O (hC : Cx p s m args c cc nL own (yw y0 b0 n0 r0) D cls tys A tc) (hP : va_P D cls ws H) {ci a i : Nat} {fs : List Value} {q : vw_C} (hc : cls[ci]? = some q) (hi : ws[i]? = some (a, .inr (ci, fs))) (hn : ¬ B a) : va_O q.1 a B s H := sorry
theorem fo_Ti (hC : Cx p s m args c cc nL own (yw y0 b0 n0 r0) D cls tys A tc) (hP : va_P D cls ws H) {i a N t : Nat} (ht : t < 4) {f : Nat → Int32} (hi : ws[i]? = some (a, .inl (tc t, N, .inl f))) (hn : ¬ B a) : va_T (vx_ty t) a N (fun j => .int (f j)) B s H := sorry
theorem vT_congr {ty : FieldType} {t N : Nat} {f g : Nat → Value} {U : State} (h : ∀ j, j < N → f j = g j) (hT : va_T ty t N f A U H) : va_T ty t N g A U H := sorry
/-- the request's cells as read facts -/
theorem rqF_of (hC : Cx p s m args c cc nL own (yw y0 b0 n0 r0) D cls tys A tc) (hP : va_P D cls ws H) (hnw : nwF s) {tcA : ClassId} (htA : tys[5]? = some (tcA, .array .int)) {q za ta : Nat} {ro : Nat → Nat} {me : Int32} {zs : Nat → Int32} {rw9 : Nat → Nat → Int32} {tx : Nat → List Nat} (hA : rqA zs rw9 tx) (n : Nat) (hat : ∀ j x, (rqW tc tcA q za ta ro me zs rw9)[j]? = some x → ws[n + j]? = some x ∧ ¬ B x.1) : rqF q ro tx B s H ∧ va_OF "OriginDesk$Request" "method" "I" (.int me) q B s H := sorry
theorem emF_of (hC : Cx p s m args c cc nL own (yw y0 b0 n0 r0) D cls tys A tc) (hP : va_P D cls ws H) {i a : Nat} {f : Nat → Int32} (hi : ws[i]? = some (a, .inl (tc 0, 0, .inl f))) (hn : ¬ B a) : rdF a [] B s H := sorry
end
/-- a representation's cells: its object, the text of its tag, the text's bytes -/
abbrev Re : Type := (Nat × Nat × Nat) × Nat × Rp × (Nat → Int32)
def reW (tc : Nat → ClassId) (K : Nat → Nat) (e : Re) : va_W := [(e.1.1, .inr (7, [.int (nI e.2.1), .ref (K (100 + e.2.2.1.1)), .ref (K (200 + e.2.2.1.2.1)), .int (nI e.2.2.1.2.2.1), .ref e.1.2.1, .int (bI e.2.2.1.2.2.2.2.1), .long (lN e.2.2.1.2.2.2.2.2)])), (e.1.2.1, .inr (10, [.ref e.1.2.2, .int 0, .int 0, .int 0])), (e.1.2.2, .inl (tc 1, (tagL e.2.2.1.2.2.2.1).length, .inl e.2.2.2))]
def reOk (e : Re) : Prop := rpOk e.2.2.1 ∧ ∀ j, j < (tagL e.2.2.1.2.2.2.1).length → e.2.2.2 j = sb_b ((tagL e.2.2.1.2.2.2.1).getD j 0)
section
variable {p : Program} {s : State} {m : MethodId} {args : Array Value} {c : Code} {cc : ByteArray} {nL : Nat} {own : String} {D : va_G} {tys : List (ClassId × FieldType)} {A : Nat → Prop} {tc : Nat → ClassId} {y0 : MethodName} {b0 : ByteArray} {n0 : Nat} {r0 : Option FieldType} {ws : va_W} {H : Heap} {B : Nat → Prop} {K : Nat → Nat}
theorem rpF_of (hC : Cx p s m args c cc nL own (yw y0 b0 n0 r0) D cls tys A tc) (hP : va_P D cls ws H) {x : Re} (hx : reOk x) (hat : ∀ q ∈ reW tc K x, q ∈ ws ∧ ¬ B q.1) : rpF x.1.1 x.2.1 K x.2.2.1 B s H := sorry
end
end
section
/-! THE REFERENCE: its constructor, by program (wip/whole/gen/p90.py) -/
def moA : Nat → Int64 := (vp_updL (vp_updL (vp_updL (vp_updL (vp_updL (vp_updL (vp_updL (vp_updL (vp_updL (vp_updL (vp_updL (vp_updL (vp_updL (vp_updL (vp_updL (fun _ => 0) 0 1954047348) 1 1819112552) 2 474214394992) 3 1852797802) 4 435526135145) 5 6778480) 6 30519660376454771) 7 465558725996) 8 8386093285582598241) 9 7237481) 10 28261) 11 495887150693) 12 25956) 13 499846571364) 14 29286)
theorem moA_W : ∀ i, i < 15 → isWd (moA i) (WDS.getD i []) := sorry
def moW (tc : Nat → ClassId) (h : Nat) (ar : Nat → Nat) (now : Int64) : va_W := mdW tc h ar now (fun k => if k = 23 ∨ k = 24 then (-1 : Int32) else 0) (fun _ _ => 0) (fun p => if p = 13 then moA else fun _ => 0)
set_option maxRecDepth 100000 in
set_option maxHeartbeats 4000000 in
theorem c_Mo_init (l : Launch) (D : va_G) (tys : List (ClassId × FieldType)) (tc : Nat → ClassId) (hty : ∀ i : Nat, i < 4 → tys[i]? = some (tc i, vx_ty i)) (h : Nat) (nw : Int32) : Kt l y_Mo_init (yw y_Mo_init b_Mo_init 4 none) 1 40 13 1200 D cls tys (fun _ _ _ => True) [.ref h, .int nw] [(h, .inr (9, [.long 0, .int 0, .null, .null, .null, .null, .null, .null, .int 0, .null, .null, .int 0, .int 0, .int 0, .int 0, .int 0, .int 0, .int 0, .int 0, .int 0, .int 0, .null, .null, .int 0, .int 0, .int 0, .int 0, .int 0, .null, .null, .null]))] (fun r w => r = none ∧ ∃ ar, w = moW tc h ar (lN (nowN nw))) := sorry
theorem mo_R {nw : Int32} {N : Nat} (hN : N ≤ 4102444799) : mdR (lN N) (fun k => if k = 23 ∨ k = 24 then (-1 : Int32) else 0) (fun _ _ => 0) (fun p => if p = 13 then moA else fun _ => 0) N [] 0 (fun _ => []) := sorry
theorem mo_A : mdA (fun k => if k = 23 ∨ k = 24 then (-1 : Int32) else 0) (fun _ _ => 0) (-1) none false [] := sorry
theorem an_0 : anOk (-1) none [] := sorry
end
section
/-! THE LAW: its list, its words, its cell, by program (wip/whole/gen/p91.py) -/
abbrev b_Lw_cell : ByteArray := method_2_code
def y_Lw_cell : MethodName := ⟨"OriginDeskLaw", "cell", "([II)I"⟩
def j_Lw_cell : wq_J := [(.iload_n 1, (0, 0, 0, 0, 0)), (.aload_n 0, (0, 0, 0, 0, 0)), (.arraylength, (2, 0, 0, 0, 0)), (.if_icmp .ge 9, (0, 12, 0, 0, 0)), (.aload_n 0, (0, 0, 0, 0, 0)), (.iload_n 1, (0, 0, 0, 0, 0)), (.iaload, (2, 0, 0, 0, 0)), (.goto 4, (0, 13, 0, 0, 0)), (.iconst 0, (0, 0, 0, 0, 0)), (.ireturn, (0, 0, 0, 0, 0))]
theorem jc_Lw_cell : wq_c b_Lw_cell 2 j_Lw_cell 0 = true := sorry
def j_Lw_law : wq_J := [(.new 7, (0, 0, 0, 0, 0)), (.dup, (0, 0, 0, 0, 0)), (.aload_n 0, (0, 0, 0, 0, 0)), (.iconst 0, (0, 0, 0, 0, 0)), (.invokestatic 9, (0, 0, 0, 0, 0)), (.invokespecial 15, (0, 0, 0, 0, 0)), (.astore_n 1, (0, 0, 0, 0, 0)), (.new 18, (0, 0, 0, 0, 0)), (.dup, (0, 0, 0, 0, 0)), (.aload_n 0, (0, 0, 0, 0, 0)), (.iconst 0, (0, 0, 0, 0, 0)), (.invokestatic 9, (0, 0, 0, 0, 0)), (.invokespecial 20, (0, 0, 0, 0, 0)), (.astore_n 2, (0, 0, 0, 0, 0)), (.iconst 1, (0, 0, 0, 1, 0)), (.istore_n 3, (0, 0, 0, 0, 0)), (.iload_n 3, (0, 0, 0, 0, 0)), (.aload_n 0, (0, 0, 0, 0, 0)), (.arraylength, (2, 0, 0, 0, 0)), (.bipush 8, (0, 0, 0, 8, 0)), (.isub, (0, 0, 0, 0, 0)), (.if_icmp .gt 511, (0, 545, 0, 0, 0)), (.aload_n 0, (0, 0, 0, 0, 0)), (.iload_n 3, (0, 0, 0, 0, 0)), (.iaload, (2, 0, 0, 0, 0)), (.bipush 15, (0, 0, 0, 15, 0)), (.iand, (0, 0, 0, 0, 0)), (.tableswitch 496 0 14 #[73, 196, 207, 228, 291, 304, 317, 330, 344, 367, 380, 403, 426, 449, 472], (0, 73, 0, 0, 0)), (.aload_n 1, (0, 0, 0, 0, 0)), (.aload_n 0, (0, 0, 0, 0, 0)), (.iload_n 3, (0, 0, 0, 0, 0)), (.iconst 1, (0, 0, 0, 1, 0)), (.iadd, (0, 0, 0, 0, 0)), (.iaload, (2, 0, 0, 0, 0)), (.aload_n 0, (0, 0, 0, 0, 0)), (.iload_n 3, (0, 0, 0, 0, 0)), (.iconst 2, (0, 0, 0, 2, 0)), (.iadd, (0, 0, 0, 0, 0)), (.iaload, (2, 0, 0, 0, 0)), (.aload_n 0, (0, 0, 0, 0, 0)), (.iload_n 3, (0, 0, 0, 0, 0)), (.iconst 3, (0, 0, 0, 3, 0)), (.iadd, (0, 0, 0, 0, 0)), (.iaload, (2, 0, 0, 0, 0)), (.aload_n 0, (0, 0, 0, 0, 0)), (.iload_n 3, (0, 0, 0, 0, 0)), (.iconst 4, (0, 0, 0, 4, 0)), (.iadd, (0, 0, 0, 0, 0)), (.iaload, (2, 0, 0, 0, 0)), (.aload_n 0, (0, 0, 0, 0, 0)), (.iload_n 3, (0, 0, 0, 0, 0)), (.iconst 5, (0, 0, 0, 5, 0)), (.iadd, (0, 0, 0, 0, 0)), (.iaload, (2, 0, 0, 0, 0)), (.ifCond .eq 7, (0, 149, 0, 0, 0)), (.iconst 1, (0, 0, 0, 1, 0)), (.goto 4, (0, 150, 0, 0, 0)), (.iconst 0, (0, 0, 0, 0, 0)), (.aload_n 0, (0, 0, 0, 0, 0)), (.iload_n 3, (0, 0, 0, 0, 0)), (.bipush 6, (0, 0, 0, 6, 0)), (.iadd, (0, 0, 0, 0, 0)), (.iaload, (2, 0, 0, 0, 0)), (.i2l, (0, 0, 0, 0, 0)), (.bipush 32, (0, 0, 0, 32, 0)), (.lshl, (0, 0, 0, 0, 0)), (.aload_n 0, (0, 0, 0, 0, 0)), (.iload_n 3, (0, 0, 0, 0, 0)), (.bipush 7, (0, 0, 0, 7, 0)), (.iadd, (0, 0, 0, 0, 0)), (.iaload, (2, 0, 0, 0, 0)), (.i2l, (0, 0, 0, 0, 0)), (.ldc2_w 21, (1, 0, 0, 0, 4294967295)), (.land, (0, 0, 0, 0, 0)), (.lor, (0, 0, 0, 0, 0)), (.invokevirtual 23, (0, 0, 0, 0, 0)), (.aload_n 2, (0, 0, 0, 0, 0)), (.aload_n 0, (0, 0, 0, 0, 0)), (.iload_n 3, (0, 0, 0, 0, 0)), (.iconst 1, (0, 0, 0, 1, 0)), (.iadd, (0, 0, 0, 0, 0)), (.iaload, (2, 0, 0, 0, 0)), (.aload_n 0, (0, 0, 0, 0, 0)), (.iload_n 3, (0, 0, 0, 0, 0)), (.iconst 2, (0, 0, 0, 2, 0)), (.iadd, (0, 0, 0, 0, 0)), (.iaload, (2, 0, 0, 0, 0)), (.aload_n 0, (0, 0, 0, 0, 0)), (.iload_n 3, (0, 0, 0, 0, 0)), (.iconst 3, (0, 0, 0, 3, 0)), (.iadd, (0, 0, 0, 0, 0)), (.iaload, (2, 0, 0, 0, 0)), (.aload_n 0, (0, 0, 0, 0, 0)), (.iload_n 3, (0, 0, 0, 0, 0)), (.iconst 4, (0, 0, 0, 4, 0)), (.iadd, (0, 0, 0, 0, 0)), (.iaload, (2, 0, 0, 0, 0)), (.aload_n 0, (0, 0, 0, 0, 0)), (.iload_n 3, (0, 0, 0, 0, 0)), (.iconst 5, (0, 0, 0, 5, 0)), (.iadd, (0, 0, 0, 0, 0)), (.iaload, (2, 0, 0, 0, 0)), (.ifCond .eq 7, (0, 208, 0, 0, 0)), (.iconst 1, (0, 0, 0, 1, 0)), (.goto 4, (0, 209, 0, 0, 0)), (.iconst 0, (0, 0, 0, 0, 0)), (.aload_n 0, (0, 0, 0, 0, 0)), (.iload_n 3, (0, 0, 0, 0, 0)), (.bipush 6, (0, 0, 0, 6, 0)), (.iadd, (0, 0, 0, 0, 0)), (.iaload, (2, 0, 0, 0, 0)), (.i2l, (0, 0, 0, 0, 0)), (.bipush 32, (0, 0, 0, 32, 0)), (.lshl, (0, 0, 0, 0, 0)), (.aload_n 0, (0, 0, 0, 0, 0)), (.iload_n 3, (0, 0, 0, 0, 0)), (.bipush 7, (0, 0, 0, 7, 0)), (.iadd, (0, 0, 0, 0, 0)), (.iaload, (2, 0, 0, 0, 0)), (.i2l, (0, 0, 0, 0, 0)), (.ldc2_w 21, (1, 0, 0, 0, 4294967295)), (.land, (0, 0, 0, 0, 0)), (.lor, (0, 0, 0, 0, 0)), (.invokevirtual 27, (0, 0, 0, 0, 0)), (.if_icmp .eq 305, (0, 539, 0, 0, 0)), (.iconst 0, (0, 0, 0, 0, 0)), (.ireturn, (0, 0, 0, 0, 0)), (.aload_n 1, (0, 0, 0, 0, 0)), (.invokevirtual 28, (0, 0, 0, 0, 0)), (.aload_n 2, (0, 0, 0, 0, 0)), (.invokevirtual 31, (0, 0, 0, 0, 0)), (.goto 292, (0, 539, 0, 0, 0)), (.aload_n 1, (0, 0, 0, 0, 0)), (.aload_n 0, (0, 0, 0, 0, 0)), (.iload_n 3, (0, 0, 0, 0, 0)), (.iconst 1, (0, 0, 0, 1, 0)), (.iadd, (0, 0, 0, 0, 0)), (.iaload, (2, 0, 0, 0, 0)), (.invokevirtual 32, (0, 0, 0, 0, 0)), (.aload_n 2, (0, 0, 0, 0, 0)), (.aload_n 0, (0, 0, 0, 0, 0)), (.iload_n 3, (0, 0, 0, 0, 0)), (.iconst 1, (0, 0, 0, 1, 0)), (.iadd, (0, 0, 0, 0, 0)), (.iaload, (2, 0, 0, 0, 0)), (.invokevirtual 35, (0, 0, 0, 0, 0)), (.goto 271, (0, 539, 0, 0, 0)), (.aload_n 1, (0, 0, 0, 0, 0)), (.aload_n 0, (0, 0, 0, 0, 0)), (.iload_n 3, (0, 0, 0, 0, 0)), (.iconst 1, (0, 0, 0, 1, 0)), (.iadd, (0, 0, 0, 0, 0)), (.iaload, (2, 0, 0, 0, 0)), (.aload_n 0, (0, 0, 0, 0, 0)), (.iload_n 3, (0, 0, 0, 0, 0)), (.iconst 2, (0, 0, 0, 2, 0)), (.iadd, (0, 0, 0, 0, 0)), (.iaload, (2, 0, 0, 0, 0)), (.i2l, (0, 0, 0, 0, 0)), (.bipush 32, (0, 0, 0, 32, 0)), (.lshl, (0, 0, 0, 0, 0)), (.aload_n 0, (0, 0, 0, 0, 0)), (.iload_n 3, (0, 0, 0, 0, 0)), (.iconst 3, (0, 0, 0, 3, 0)), (.iadd, (0, 0, 0, 0, 0)), (.iaload, (2, 0, 0, 0, 0)), (.i2l, (0, 0, 0, 0, 0)), (.ldc2_w 21, (1, 0, 0, 0, 4294967295)), (.land, (0, 0, 0, 0, 0)), (.lor, (0, 0, 0, 0, 0)), (.invokevirtual 36, (0, 0, 0, 0, 0)), (.aload_n 2, (0, 0, 0, 0, 0)), (.aload_n 0, (0, 0, 0, 0, 0)), (.iload_n 3, (0, 0, 0, 0, 0)), (.iconst 1, (0, 0, 0, 1, 0)), (.iadd, (0, 0, 0, 0, 0)), (.iaload, (2, 0, 0, 0, 0)), (.aload_n 0, (0, 0, 0, 0, 0)), (.iload_n 3, (0, 0, 0, 0, 0)), (.iconst 2, (0, 0, 0, 2, 0)), (.iadd, (0, 0, 0, 0, 0)), (.iaload, (2, 0, 0, 0, 0)), (.i2l, (0, 0, 0, 0, 0)), (.bipush 32, (0, 0, 0, 32, 0)), (.lshl, (0, 0, 0, 0, 0)), (.aload_n 0, (0, 0, 0, 0, 0)), (.iload_n 3, (0, 0, 0, 0, 0)), (.iconst 3, (0, 0, 0, 3, 0)), (.iadd, (0, 0, 0, 0, 0)), (.iaload, (2, 0, 0, 0, 0)), (.i2l, (0, 0, 0, 0, 0)), (.ldc2_w 21, (1, 0, 0, 0, 4294967295)), (.land, (0, 0, 0, 0, 0)), (.lor, (0, 0, 0, 0, 0)), (.invokevirtual 40, (0, 0, 0, 0, 0)), (.if_icmp .eq 210, (0, 539, 0, 0, 0)), (.iconst 0, (0, 0, 0, 0, 0)), (.ireturn, (0, 0, 0, 0, 0)), (.aload_n 1, (0, 0, 0, 0, 0)), (.invokevirtual 41, (0, 0, 0, 0, 0)), (.aload_n 2, (0, 0, 0, 0, 0)), (.invokevirtual 45, (0, 0, 0, 0, 0)), (.if_icmp .eq 197, (0, 539, 0, 0, 0)), (.iconst 0, (0, 0, 0, 0, 0)), (.ireturn, (0, 0, 0, 0, 0)), (.aload_n 1, (0, 0, 0, 0, 0)), (.invokevirtual 46, (0, 0, 0, 0, 0)), (.aload_n 2, (0, 0, 0, 0, 0)), (.invokevirtual 49, (0, 0, 0, 0, 0)), (.if_icmp .eq 184, (0, 539, 0, 0, 0)), (.iconst 0, (0, 0, 0, 0, 0)), (.ireturn, (0, 0, 0, 0, 0)), (.aload_n 1, (0, 0, 0, 0, 0)), (.invokevirtual 50, (0, 0, 0, 0, 0)), (.aload_n 2, (0, 0, 0, 0, 0)), (.invokevirtual 53, (0, 0, 0, 0, 0)), (.if_icmp .eq 171, (0, 539, 0, 0, 0)), (.iconst 0, (0, 0, 0, 0, 0)), (.ireturn, (0, 0, 0, 0, 0)), (.aload_n 1, (0, 0, 0, 0, 0)), (.invokevirtual 54, (0, 0, 0, 0, 0)), (.aload_n 2, (0, 0, 0, 0, 0)), (.invokevirtual 58, (0, 0, 0, 0, 0)), (.lcmp, (0, 0, 0, 0, 0)), (.ifCond .eq 157, (0, 539, 0, 0, 0)), (.iconst 0, (0, 0, 0, 0, 0)), (.ireturn, (0, 0, 0, 0, 0)), (.aload_n 1, (0, 0, 0, 0, 0)), (.aload_n 0, (0, 0, 0, 0, 0)), (.iload_n 3, (0, 0, 0, 0, 0)), (.iconst 1, (0, 0, 0, 1, 0)), (.iadd, (0, 0, 0, 0, 0)), (.iaload, (2, 0, 0, 0, 0)), (.invokevirtual 59, (0, 0, 0, 0, 0)), (.aload_n 2, (0, 0, 0, 0, 0)), (.aload_n 0, (0, 0, 0, 0, 0)), (.iload_n 3, (0, 0, 0, 0, 0)), (.iconst 1, (0, 0, 0, 1, 0)), (.iadd, (0, 0, 0, 0, 0)), (.iaload, (2, 0, 0, 0, 0)), (.invokevirtual 63, (0, 0, 0, 0, 0)), (.if_icmp .eq 134, (0, 539, 0, 0, 0)), (.iconst 0, (0, 0, 0, 0, 0)), (.ireturn, (0, 0, 0, 0, 0)), (.aload_n 1, (0, 0, 0, 0, 0)), (.invokevirtual 64, (0, 0, 0, 0, 0)), (.aload_n 2, (0, 0, 0, 0, 0)), (.invokevirtual 67, (0, 0, 0, 0, 0)), (.if_icmp .eq 121, (0, 539, 0, 0, 0)), (.iconst 0, (0, 0, 0, 0, 0)), (.ireturn, (0, 0, 0, 0, 0)), (.aload_n 1, (0, 0, 0, 0, 0)), (.aload_n 0, (0, 0, 0, 0, 0)), (.iload_n 3, (0, 0, 0, 0, 0)), (.iconst 1, (0, 0, 0, 1, 0)), (.iadd, (0, 0, 0, 0, 0)), (.iaload, (2, 0, 0, 0, 0)), (.invokevirtual 68, (0, 0, 0, 0, 0)), (.aload_n 2, (0, 0, 0, 0, 0)), (.aload_n 0, (0, 0, 0, 0, 0)), (.iload_n 3, (0, 0, 0, 0, 0)), (.iconst 1, (0, 0, 0, 1, 0)), (.iadd, (0, 0, 0, 0, 0)), (.iaload, (2, 0, 0, 0, 0)), (.invokevirtual 71, (0, 0, 0, 0, 0)), (.if_icmp .eq 98, (0, 539, 0, 0, 0)), (.iconst 0, (0, 0, 0, 0, 0)), (.ireturn, (0, 0, 0, 0, 0)), (.aload_n 1, (0, 0, 0, 0, 0)), (.aload_n 0, (0, 0, 0, 0, 0)), (.iload_n 3, (0, 0, 0, 0, 0)), (.iconst 1, (0, 0, 0, 1, 0)), (.iadd, (0, 0, 0, 0, 0)), (.iaload, (2, 0, 0, 0, 0)), (.invokevirtual 72, (0, 0, 0, 0, 0)), (.aload_n 2, (0, 0, 0, 0, 0)), (.aload_n 0, (0, 0, 0, 0, 0)), (.iload_n 3, (0, 0, 0, 0, 0)), (.iconst 1, (0, 0, 0, 1, 0)), (.iadd, (0, 0, 0, 0, 0)), (.iaload, (2, 0, 0, 0, 0)), (.invokevirtual 75, (0, 0, 0, 0, 0)), (.if_icmp .eq 75, (0, 539, 0, 0, 0)), (.iconst 0, (0, 0, 0, 0, 0)), (.ireturn, (0, 0, 0, 0, 0)), (.aload_n 1, (0, 0, 0, 0, 0)), (.aload_n 0, (0, 0, 0, 0, 0)), (.iload_n 3, (0, 0, 0, 0, 0)), (.iconst 1, (0, 0, 0, 1, 0)), (.iadd, (0, 0, 0, 0, 0)), (.iaload, (2, 0, 0, 0, 0)), (.invokevirtual 76, (0, 0, 0, 0, 0)), (.aload_n 2, (0, 0, 0, 0, 0)), (.aload_n 0, (0, 0, 0, 0, 0)), (.iload_n 3, (0, 0, 0, 0, 0)), (.iconst 1, (0, 0, 0, 1, 0)), (.iadd, (0, 0, 0, 0, 0)), (.iaload, (2, 0, 0, 0, 0)), (.invokevirtual 79, (0, 0, 0, 0, 0)), (.if_icmp .eq 52, (0, 539, 0, 0, 0)), (.iconst 0, (0, 0, 0, 0, 0)), (.ireturn, (0, 0, 0, 0, 0)), (.aload_n 1, (0, 0, 0, 0, 0)), (.aload_n 0, (0, 0, 0, 0, 0)), (.iload_n 3, (0, 0, 0, 0, 0)), (.iconst 1, (0, 0, 0, 1, 0)), (.iadd, (0, 0, 0, 0, 0)), (.iaload, (2, 0, 0, 0, 0)), (.invokevirtual 80, (0, 0, 0, 0, 0)), (.aload_n 2, (0, 0, 0, 0, 0)), (.aload_n 0, (0, 0, 0, 0, 0)), (.iload_n 3, (0, 0, 0, 0, 0)), (.iconst 1, (0, 0, 0, 1, 0)), (.iadd, (0, 0, 0, 0, 0)), (.iaload, (2, 0, 0, 0, 0)), (.invokevirtual 84, (0, 0, 0, 0, 0)), (.if_icmp .eq 29, (0, 539, 0, 0, 0)), (.iconst 0, (0, 0, 0, 0, 0)), (.ireturn, (0, 0, 0, 0, 0)), (.aload_n 1, (0, 0, 0, 0, 0)), (.aload_n 0, (0, 0, 0, 0, 0)), (.iload_n 3, (0, 0, 0, 0, 0)), (.iconst 1, (0, 0, 0, 1, 0)), (.iadd, (0, 0, 0, 0, 0)), (.iaload, (2, 0, 0, 0, 0)), (.invokevirtual 85, (0, 0, 0, 0, 0)), (.aload_n 2, (0, 0, 0, 0, 0)), (.aload_n 0, (0, 0, 0, 0, 0)), (.iload_n 3, (0, 0, 0, 0, 0)), (.iconst 1, (0, 0, 0, 1, 0)), (.iadd, (0, 0, 0, 0, 0)), (.iaload, (2, 0, 0, 0, 0)), (.invokevirtual 89, (0, 0, 0, 0, 0)), (.lcmp, (0, 0, 0, 0, 0)), (.ifCond .eq 5, (0, 539, 0, 0, 0)), (.iconst 0, (0, 0, 0, 0, 0)), (.ireturn, (0, 0, 0, 0, 0)), (.iinc 3 8, (0, 0, 0, 8, 0)), (.goto (-514), (0, 28, 0, 0, 0)), (.iconst 1, (0, 0, 0, 1, 0)), (.ireturn, (0, 0, 0, 0, 0))]
theorem jc_Lw_law : wq_c code 4 j_Lw_law 0 = true := sorry
theorem wk_Lw_7 : Cond.classLink "OriginDeskLaw" 7 "OriginDesk" ∈ gw := sorry
theorem wl_Lw_15 : Cond.methodLink "OriginDeskLaw" 15 y_Dk_init ∈ gw := sorry
theorem wl_Lw_23 : Cond.methodLink "OriginDeskLaw" 23 y_Dk_add ∈ gw := sorry
theorem wl_Lw_28 : Cond.methodLink "OriginDeskLaw" 28 y_Dk_clear ∈ gw := sorry
theorem wl_Lw_32 : Cond.methodLink "OriginDeskLaw" 32 y_Dk_request ∈ gw := sorry
theorem wl_Lw_36 : Cond.methodLink "OriginDeskLaw" 36 y_Dk_feed ∈ gw := sorry
theorem wl_Lw_41 : Cond.methodLink "OriginDeskLaw" 41 y_Dk_respond ∈ gw := sorry
theorem wl_Lw_46 : Cond.methodLink "OriginDeskLaw" 46 y_Dk_status ∈ gw := sorry
theorem wl_Lw_50 : Cond.methodLink "OriginDeskLaw" 50 y_Dk_chosen ∈ gw := sorry
theorem wl_Lw_54 : Cond.methodLink "OriginDeskLaw" 54 y_Dk_length ∈ gw := sorry
theorem wl_Lw_59 : Cond.methodLink "OriginDeskLaw" 59 y_Dk_body ∈ gw := sorry
theorem wl_Lw_64 : Cond.methodLink "OriginDeskLaw" 64 y_Dk_parts ∈ gw := sorry
theorem wl_Lw_68 : Cond.methodLink "OriginDeskLaw" 68 y_Dk_first ∈ gw := sorry
theorem wl_Lw_72 : Cond.methodLink "OriginDeskLaw" 72 y_Dk_last ∈ gw := sorry
theorem wl_Lw_76 : Cond.methodLink "OriginDeskLaw" 76 y_Dk_score ∈ gw := sorry
theorem wl_Lw_80 : Cond.methodLink "OriginDeskLaw" 80 y_Dk_formed ∈ gw := sorry
theorem wl_Lw_85 : Cond.methodLink "OriginDeskLaw" 85 y_Dk_date ∈ gw := sorry
theorem wl_Lw_9 : Cond.methodLink "OriginDeskLaw" 9 y_Lw_cell ∈ gw := sorry
theorem wk_Lw_18 : Cond.classLink "OriginDeskLaw" 18 "OriginDeskModel" ∈ gw := sorry
theorem wl_Lw_20 : Cond.methodLink "OriginDeskLaw" 20 y_Mo_init ∈ gw := sorry
theorem wl_Lw_27 : Cond.methodLink "OriginDeskLaw" 27 y_Mo_add ∈ gw := sorry
theorem wl_Lw_31 : Cond.methodLink "OriginDeskLaw" 31 y_Mo_clear ∈ gw := sorry
theorem wl_Lw_35 : Cond.methodLink "OriginDeskLaw" 35 y_Mo_request ∈ gw := sorry
theorem wl_Lw_40 : Cond.methodLink "OriginDeskLaw" 40 y_Mo_feed ∈ gw := sorry
theorem wl_Lw_45 : Cond.methodLink "OriginDeskLaw" 45 y_Mo_respond ∈ gw := sorry
theorem wl_Lw_49 : Cond.methodLink "OriginDeskLaw" 49 y_Mo_status ∈ gw := sorry
theorem wl_Lw_53 : Cond.methodLink "OriginDeskLaw" 53 y_Mo_chosen ∈ gw := sorry
theorem wl_Lw_58 : Cond.methodLink "OriginDeskLaw" 58 y_Mo_length ∈ gw := sorry
theorem wl_Lw_63 : Cond.methodLink "OriginDeskLaw" 63 y_Mo_body ∈ gw := sorry
theorem wl_Lw_67 : Cond.methodLink "OriginDeskLaw" 67 y_Mo_parts ∈ gw := sorry
theorem wl_Lw_71 : Cond.methodLink "OriginDeskLaw" 71 y_Mo_first ∈ gw := sorry
theorem wl_Lw_75 : Cond.methodLink "OriginDeskLaw" 75 y_Mo_last ∈ gw := sorry
theorem wl_Lw_79 : Cond.methodLink "OriginDeskLaw" 79 y_Mo_score ∈ gw := sorry
theorem wl_Lw_84 : Cond.methodLink "OriginDeskLaw" 84 y_Mo_formed ∈ gw := sorry
theorem wl_Lw_89 : Cond.methodLink "OriginDeskLaw" 89 y_Mo_date ∈ gw := sorry
theorem wc_Lw_21 : Jvm.Cond.constantLong "OriginDeskLaw" 21 4294967295 ∈ gw := sorry
theorem wt_Lw_cell : Cond.static y_Lw_cell ∈ gw := sorry
theorem wm_Lw_cell : wm y_Lw_cell b_Lw_cell 2 (some .int) 2 := sorry
set_option maxRecDepth 100000 in
set_option maxHeartbeats 4000000 in
theorem c_Lw_cell (l : Launch) (D : va_G) (tys : List (ClassId × FieldType)) (tc : Nat → ClassId) (hty : ∀ i : Nat, i < 4 → tys[i]? = some (tc i, vx_ty i)) (b L : Nat) (xs : Nat → Int32) (hL : L ≤ 4097) (k : Nat) (hk : k < 2 ^ 30) : Kt l y_Lw_cell (yw y_Lw_cell b_Lw_cell 2 (some .int)) 0 0 0 0 D cls tys (fun A U H => va_T .int b L (fun j => .int (xs j)) A U H) [.ref b, .int (nI k)] [] (fun r w => r = some (.int (if k < L then xs k else 0)) ∧ w = []) := sorry
end
section
/-! THE LAW's start: statics, constants, classes, by program (wip/whole/gen/p92.py) -/
section
variable {args : Array Value} {s : State} {A : Nat → Prop}
theorem nf_at (h : (Jvm.Cond.and given_1 narrow_1).before args s = true) (i : Nat) {w : Cond} (hw : (flatC narrow_1)[i]? = some w) : w.before args s = true := sorry
theorem tb_at (hts : ∀ w ∈ lw_tbl, w.before args s = true) (i : Nat) {w : Cond} (hw : tables_1[i]? = some w) : w.before args s = true := sorry
def strC (own : String) (k : Nat) (W : List Nat) : Nat → Cond
  | 0 => .exactly (.string own k) "java/lang/String"
  | 1 => .eq (.field (.string own k) "java/lang/String" "coder" "B") (.int 0)
  | 2 => .arrayOf (.field (.string own k) "java/lang/String" "value" "[B") .byte
  | 3 => .eq (.length (.field (.string own k) "java/lang/String" "value" "[B")) (.int (Int32.ofNat W.length))
  | j + 4 => .eq (.elem (.field (.string own k) "java/lang/String" "value" "[B") (.int (Int32.ofNat j))) (.int (sb_b (W.getD j 0)))
theorem str_of (h : (Jvm.Cond.and given_1 narrow_1).before args s = true) {own : String} {k : Nat} {W : List Nat} (i : Nat) (hn : W.length < 2 ^ 31) (hw : ∀ j, j < 4 + W.length → (flatC narrow_1)[i + j]? = some (strC own k W j)) (hA : ∀ a : Nat, a < s.heap.size → ¬ A a) : ∃ a : Nat, (Term.string own k).eval args s none [] s = some (.ref a) ∧ strF a W A s s.heap := sorry
theorem stat_of {C n d : String} (h : (Cond.exactly (.static C n d) C).before args s = true) : ∃ a : Nat, (Term.static C n d).eval args s none [] s = some (.ref a) := sorry
theorem eq_R {t u : Term} {a : Nat} (h : (Cond.eq t u).before args s = true) (hu : u.eval args s none [] s = some (.ref a)) : t.eval args s none [] s = some (.ref a) := sorry
end
theorem mdN : ∀ j, j < 12 → (flatC narrow_1)[242 + j]? = some (.eq (.elem (.static "OriginDesk$Dates" "MONTH_DAYS" "[I") (.int (Int32.ofNat j))) (.int (nI ([31, 28, 31, 30, 31, 30, 31, 31, 30, 31, 30, 31].getD j 0)))) := sorry
theorem dgN_DigitOnes : ∀ j, j < 100 → (flatC narrow_1)[32 + j]? = some (.eq (.elem (.static "java/lang/Integer" "DigitOnes" "[B") (.int (Int32.ofNat j))) (.int (sb_b (48 + j % 10)))) := sorry
theorem dgN_DigitTens : ∀ j, j < 100 → (flatC narrow_1)[135 + j]? = some (.eq (.elem (.static "java/lang/Integer" "DigitTens" "[B") (.int (Int32.ofNat j))) (.int (sb_b (48 + j / 10)))) := sorry
set_option maxRecDepth 100000 in
set_option maxHeartbeats 4000000 in
theorem law_F {args : Array Value} {s : State} {A : Nat → Prop} (hgv : (Jvm.Cond.and given_1 narrow_1).before args s = true) (hts : ∀ w ∈ lw_tbl, w.before args s = true) (hA : ∀ a : Nat, a < s.heap.size → ¬ A a) : ∃ K : Nat → Nat, gtF K A s s.heap := sorry
theorem law_nw {args : Array Value} {s : State} (hts : ∀ w ∈ lw_tbl, w.before args s = true) : nwF s := sorry
theorem law_nk {args : Array Value} {s : State} {A : Nat → Prop} (hts : ∀ w ∈ lw_tbl, w.before args s = true) : nkF A s s.heap := sorry
theorem law_ar {args : Array Value} {s : State} {A : Nat → Prop} (hts : ∀ w ∈ lw_tbl, w.before args s = true) : arF A s s.heap ∧ aoF A s s.heap := sorry
theorem law_say {args : Array Value} {s : State} (hts : ∀ w ∈ lw_tbl, w.before args s = true) : ∀ w ∈ sayS, w.before args s = true := sorry
theorem law_gw {args : Array Value} {s : State} (hts : ∀ w ∈ lw_tbl, w.before args s = true) : ∀ w ∈ gw, w.before args s = true := sorry
theorem arT {s : State} {args : Array Value} {t : FieldType} (hp : t.isReference = false) (h : (Cond.arrayClass t).before args s = true) : ∃ c : ClassId, ArrOfT s c t ∧ s.vm.findClass ("[" ++ t.toString) = some c := sorry
theorem arA {s : State} (h : (Cond.arrayOver (.array .int)).before #[] s = true) : ∃ c : ClassId, ArrOfT s c (.array .int) ∧ s.vm.findClass ("[" ++ (FieldType.array .int).toString) = some c := sorry
theorem law_K {args : Array Value} {s : State} (hts : ∀ w ∈ lw_tbl, w.before args s = true) : ∃ (D : va_G) (tys : List (ClassId × FieldType)) (tc : Nat → ClassId) (tcA tcR : ClassId), va_K D cls tys s ∧ (∀ i : Nat, i < 4 → tys[i]? = some (tc i, vx_ty i)) ∧ tys[5]? = some (tcA, .array .int) ∧ tys[4]? = some (tcR, .object "OriginDesk$Representation") := sorry
end
section
/-! THE LAW: its world, its facts, by program (wip/whole/gen/p93.py) -/
def emW (tc : Nat → ClassId) (b : Nat → Nat) : va_W := [(b 30, .inl (tc 0, 0, .inl (fun _ => 0))), (b 31, .inl (tc 0, 0, .inl (fun _ => 0))), (b 32, .inl (tc 0, 0, .inl (fun _ => 0))), (b 33, .inl (tc 0, 0, .inl (fun _ => 0))), (b 34, .inl (tc 0, 0, .inl (fun _ => 0)))]
/-- the cells of the reference and of the desk, representations apart -/
def LW (tc : Nat → ClassId) (tcA tcR : ClassId) (b ro : Nat → Nat) (hm : Nat) (ar : Nat → Nat) (N : Nat) (cn : Nat) (sv : Nat → Option Nat) (me : Int32) (zs : Nat → Int32) (rw9 : Nat → Nat → Int32) (u1 : RSt) (u2 : RSt) (u3 : RSt) (u4 : RSt) (u5 : RSt) (kp : List (Nat × Nat)) (g1 : Nat → Int32) (g2 : Nat → Int32) (cd : Int32) (sb9 : Option (Nat × Nat × Nat)) (ho : Bool) (pa : List (Nat × Nat)) (f1 : Nat → Int32) (f2 : Nat → Int32) (v : Nat) (ml : Int32) (L : List Nat) (M9 : Nat) (a : Nat → Int32) (sc : Nat → Int32) (ai : Nat → Nat → Int32) (al : Nat → Nat → Int64) : va_W := [(hm, .inr (9, [.long (lN N), .int (sc 1), .ref (ar 1), .ref (ar 2), .ref (ar 3), .ref (ar 4), .ref (ar 5), .ref (ar 6), .int (sc 8), .ref (ar 7), .ref (ar 8), .int (sc 11), .int (sc 12), .int (sc 13), .int (sc 14), .int (sc 15), .int (sc 16), .int (sc 17), .int (sc 18), .int (sc 19), .int (sc 20), .ref (ar 9), .ref (ar 10), .int (sc 23), .int (sc 24), .int (sc 25), .int (sc 26), .int (sc 27), .ref (ar 11), .ref (ar 12), .ref (ar 13)])), (ar 1, .inl (tc 0, 4, .inl (ai 1))), (ar 2, .inl (tc 0, 4, .inl (ai 2))), (ar 3, .inl (tc 0, 4, .inl (ai 3))), (ar 4, .inl (tc 0, 4, .inl (ai 4))), (ar 5, .inl (tc 3, 4, .inl (ai 5))), (ar 6, .inl (tc 2, 4, .inr (.inl (al 6)))), (ar 7, .inl (tc 0, 768, .inl (ai 7))), (ar 8, .inl (tc 0, 8, .inl (ai 8))), (ar 9, .inl (tc 0, 96, .inl (ai 9))), (ar 10, .inl (tc 0, 96, .inl (ai 10))), (ar 11, .inl (tc 0, 4, .inl (ai 11))), (ar 12, .inl (tc 0, 4, .inl (ai 12))), (ar 13, .inl (tc 2, 15, .inr (.inl (al 13)))), dkC b (nI (cn)), (b 1, .inl (tcR, 4, .inr (.inr (.inr (.inr sv))))), (b 2, .inr (5, [.int me, .ref (b 24), .ref (b 23)])), (b 23, .inl (tc 0, 8, .inl zs)), (b 24, .inl (tcA, 8, .inr (.inr (.inr (.inr (fun G => some (ro G))))))), (ro 0, .inl (tc 0, 96, .inl (rw9 0))), (ro 1, .inl (tc 0, 96, .inl (rw9 1))), (ro 2, .inl (tc 0, 96, .inl (rw9 2))), (ro 3, .inl (tc 0, 96, .inl (rw9 3))), (ro 4, .inl (tc 0, 96, .inl (rw9 4))), (ro 5, .inl (tc 0, 96, .inl (rw9 5))), (ro 6, .inl (tc 0, 96, .inl (rw9 6))), (ro 7, .inl (tc 0, 96, .inl (rw9 7))), (b 3, .inr (0, [.ref u1.1, .int (u1.2.2.1 0), .int (u1.2.2.1 1), .ref (b 13), .int (nI u1.2.1), .int (u1.2.2.1 2), .int (u1.2.2.1 3), .int (u1.2.2.1 4), .int (u1.2.2.1 5), .int (u1.2.2.1 6)])), (b 13, .inl (tc 0, 96, .inl u1.2.2.2)), (b 4, .inr (1, [.ref u2.1, .int (u2.2.2.1 0), .int (u2.2.2.1 1), .ref (b 14), .int (nI u2.2.1), .int (u2.2.2.1 2), .int (u2.2.2.1 3)])), (b 14, .inl (tc 0, 96, .inl u2.2.2.2)), (b 5, .inr (2, [.ref u3.1, .int (u3.2.2.1 0), .int (u3.2.2.1 1), .ref (b 15), .int (nI u3.2.1), .int (u3.2.2.1 2), .int (u3.2.2.1 3), .int (u3.2.2.1 4)])), (b 15, .inl (tc 0, 96, .inl u3.2.2.2)), (b 6, .inr (3, [.ref u4.1, .int (u4.2.2.1 0), .int (u4.2.2.1 1), .ref (b 16), .int (nI u4.2.1), .int (nI (yrN N + 50)), .int (u4.2.2.1 2), .int (u4.2.2.1 3), .int (u4.2.2.1 4), .int (u4.2.2.1 5)])), (b 16, .inl (tc 0, 96, .inl u4.2.2.2)), (b 7, .inr (4, [.ref u5.1, .int (u5.2.2.1 0), .int (u5.2.2.1 1), .ref (b 17), .int (nI u5.2.1), .ref (b 18), .ref (b 19), .int (u5.2.2.1 2), .int (nI kp.length)])), (b 17, .inl (tc 0, 96, .inl u5.2.2.2)), (b 18, .inl (tc 0, 4, .inl g1)), (b 19, .inl (tc 0, 4, .inl g2)), (b 8, .inr (6, [.int cd, sjV sb9, .int (nI (lnS cd (sjN sb9) pa)), .int (nI pa.length), .ref (b 20), .ref (b 21), .int (bI ho), .ref (b 22)])), (b 20, .inl (tc 0, 4, .inl f1)), (b 21, .inl (tc 0, 4, .inl f2)), (b 22, .inr (11, [.ref v, .int 0, .int ml, .int (nI L.length)])), (v, .inl (tc 1, M9, .inl a)), (b 30, .inl (tc 0, 0, .inl (fun _ => 0))), (b 31, .inl (tc 0, 0, .inl (fun _ => 0))), (b 32, .inl (tc 0, 0, .inl (fun _ => 0))), (b 33, .inl (tc 0, 0, .inl (fun _ => 0))), (b 34, .inl (tc 0, 0, .inl (fun _ => 0)))]
/-- what goes together -/
def lwI (b ro : Nat → Nat) (N : Nat) (sa : Nat → Nat) (tx : Nat → List Nat) (rl : List Re) (rp : List Rp) (sv : Nat → Option Nat) (me : Int32) (zs : Nat → Int32) (rw9 : Nat → Nat → Int32) (u1 : RSt) (u2 : RSt) (u3 : RSt) (u4 : RSt) (u5 : RSt) (kp : List (Nat × Nat)) (g1 : Nat → Int32) (g2 : Nat → Int32) (cd : Int32) (sb9 : Option (Nat × Nat × Nat)) (ho : Bool) (pa : List (Nat × Nat)) (f1 : Nat → Int32) (f2 : Nat → Int32) (L : List Nat) (M9 : Nat) (a : Nat → Int32) (sc : Nat → Int32) (ai : Nat → Nat → Int32) (al : Nat → Nat → Int64) : Prop := rpsOk rp ∧ rqA zs rw9 tx ∧ (okR b ro 0 u1.1 ∧ okR b ro 1 u2.1 ∧ okR b ro 2 u3.1 ∧ okR b ro 3 u4.1 ∧ okR b ro 4 u5.1) ∧ (kpA g1 g2 kp ∧ kpA f1 f2 pa ∧ anOk cd (sjN sb9) pa) ∧ (sbI a L ∧ sb_Fit a ∧ L.length ≤ M9 ∧ 16 ≤ M9 ∧ M9 ≤ 100) ∧ ((∀ x ∈ rl, reOk x) ∧ (∀ i, i < rp.length → sv i = some (sa i) ∧ ∃ x ∈ rl, x.1.1 = sa i ∧ x.2.1 = i ∧ x.2.2.1 = rp.getD i (0, 0, 0, 0, false, 0)) ∧ (∀ u, sb9 = some u → ∃ x ∈ rl, x.1.1 = u.1 ∧ x.2.1 = u.2.1 ∧ x.2.2.1.2.2.1 = u.2.2)) ∧ mdR (lN N) sc ai al N rp me tx ∧ mdA sc ai cd (sjN sb9) ho pa
def Inv (tc : Nat → ClassId) (tcA tcR : ClassId) (K : Nat → Nat) (b ro : Nat → Nat) (hm : Nat) (ar : Nat → Nat) (N : Nat) (ws : va_W) : Prop := ∃ (sa : Nat → Nat) (tx : Nat → List Nat) (rl : List Re) (rp : List Rp) (sv : Nat → Option Nat) (me : Int32) (zs : Nat → Int32) (rw9 : Nat → Nat → Int32) (u1 : RSt) (u2 : RSt) (u3 : RSt) (u4 : RSt) (u5 : RSt) (kp : List (Nat × Nat)) (g1 : Nat → Int32) (g2 : Nat → Int32) (cd : Int32) (sb9 : Option (Nat × Nat × Nat)) (ho : Bool) (pa : List (Nat × Nat)) (f1 : Nat → Int32) (f2 : Nat → Int32) (v : Nat) (ml : Int32) (L : List Nat) (M9 : Nat) (a : Nat → Int32) (sc : Nat → Int32) (ai : Nat → Nat → Int32) (al : Nat → Nat → Int64), ws = (LW tc tcA tcR b ro hm ar N ((rp).length) sv me zs rw9 u1 u2 u3 u4 u5 kp g1 g2 cd sb9 ho pa f1 f2 v ml L M9 a sc ai al) ++ rl.flatMap (reW tc K) ∧ lwI b ro N sa tx rl rp sv me zs rw9 u1 u2 u3 u4 u5 kp g1 g2 cd sb9 ho pa f1 f2 L M9 a sc ai al
section
variable {p : Program} {l : Launch} {e : Env} {R : Room} {s : State} {m : MethodId} {args : Array Value} {below : List Frame} {meth : Method} {c : Code} {cc : ByteArray} {nL : Nat} {D : va_G} {tys : List (ClassId × FieldType)} {A : Nat → Prop} {tc : Nat → ClassId} {Q : State → Prop} {pc : Nat} {lv : wq_L} {st : List Value} {k n k2 n2 : Nat} {ws W0 T wc : va_W} {y0 : MethodName} {b0 : ByteArray} {n0 : Nat} {r0 : Option FieldType} {own : String} {H : Heap} {locs : List Loc} {isC : List Nat} {tcA tcR : ClassId} {b ro : Nat → Nat} {hm : Nat} {ar : Nat → Nat} {N : Nat} {K : Nat → Nat} {sa : Nat → Nat} {tx : Nat → List Nat} {rl : List Re} {rp : List Rp} {sv : Nat → Option Nat} {me : Int32} {zs : Nat → Int32} {rw9 : Nat → Nat → Int32} {u1 : RSt} {u2 : RSt} {u3 : RSt} {u4 : RSt} {u5 : RSt} {kp : List (Nat × Nat)} {g1 : Nat → Int32} {g2 : Nat → Int32} {cd : Int32} {sb9 : Option (Nat × Nat × Nat)} {ho : Bool} {pa : List (Nat × Nat)} {f1 : Nat → Int32} {f2 : Nat → Int32} {v : Nat} {ml : Int32} {L : List Nat} {M9 : Nat} {a : Nat → Int32} {sc : Nat → Int32} {ai : Nat → Nat → Int32} {al : Nat → Nat → Int64}
theorem Vx.widen (h1 : k ≤ k2) (h2 : n ≤ n2) (h : Vx p l e R s m args below meth c nL D cls A Q pc lv st ws k2 n2) : Vx p l e R s m args below meth c nL D cls A Q pc lv st ws k n := sorry
theorem tail_out (hP : va_P D cls (W0 ++ T) H) (hD : va_D A (W0 ++ T)) (hc : isC.map (fun i => W0[i]?) = wc.map some) {q : Nat × va_E} (hq : q ∈ T) : q ∈ W0 ++ T ∧ ¬ va_A wc H.size q.1 := sorry
theorem lw_re (hC : Cx p s m args c cc nL own (yw y0 b0 n0 r0) D cls tys A tc) (hP : va_P D cls (W0 ++ rl.flatMap (reW tc K)) H) (hD : va_D A (W0 ++ rl.flatMap (reW tc K))) (hc : isC.map (fun i => W0[i]?) = wc.map some) {x : Re} (hx : x ∈ rl) (hok : reOk x) : rpF x.1.1 x.2.1 K x.2.2.1 (va_A wc H.size) s H := sorry
set_option maxRecDepth 100000 in
set_option maxHeartbeats 4000000 in
/-- what the desk's readers read, out of the cells -/
theorem lw_q (hC : Cx p s m args c cc nL own (yw y0 b0 n0 r0) D cls tys A tc) (hg : gtF K A s s.heap) (hnw : nwF s) (htA : tys[5]? = some (tcA, .array .int)) (hA : rqA zs rw9 tx) (hc : isC.map (fun i => (LW tc tcA tcR b ro hm ar N ((rp).length) sv me zs rw9 u1 u2 u3 u4 u5 kp g1 g2 cd sb9 ho pa f1 f2 v ml L M9 a sc ai al)[i]?) = wc.map some) (hoo : ∀ i ∈ isC, i < 16 ∨ (26 < i ∧ i < 44)) (hP : va_P D cls ((LW tc tcA tcR b ro hm ar N ((rp).length) sv me zs rw9 u1 u2 u3 u4 u5 kp g1 g2 cd sb9 ho pa f1 f2 v ml L M9 a sc ai al) ++ T) H) (hD : va_D A ((LW tc tcA tcR b ro hm ar N ((rp).length) sv me zs rw9 u1 u2 u3 u4 u5 kp g1 g2 cd sb9 ho pa f1 f2 v ml L M9 a sc ai al) ++ T)) (hS : va_S A s.heap H locs) : qF b ro tx K me (va_A wc H.size) s H := sorry
theorem lw_sh (hC : Cx p s m args c cc nL own (yw y0 b0 n0 r0) D cls tys A tc) (htR : tys[4]? = some (tcR, .object "OriginDesk$Representation")) (hre : (∀ x ∈ rl, reOk x) ∧ (∀ i, i < rp.length → sv i = some (sa i) ∧ ∃ x ∈ rl, x.1.1 = sa i ∧ x.2.1 = i ∧ x.2.2.1 = rp.getD i (0, 0, 0, 0, false, 0))) (hc : isC.map (fun i => (LW tc tcA tcR b ro hm ar N ((rp).length) sv me zs rw9 u1 u2 u3 u4 u5 kp g1 g2 cd sb9 ho pa f1 f2 v ml L M9 a sc ai al)[i]?) = wc.map some) (hoo : ∀ i ∈ isC, i ≠ 15) (hP : va_P D cls ((LW tc tcA tcR b ro hm ar N ((rp).length) sv me zs rw9 u1 u2 u3 u4 u5 kp g1 g2 cd sb9 ho pa f1 f2 v ml L M9 a sc ai al) ++ rl.flatMap (reW tc K)) H) (hD : va_D A ((LW tc tcA tcR b ro hm ar N ((rp).length) sv me zs rw9 u1 u2 u3 u4 u5 kp g1 g2 cd sb9 ho pa f1 f2 v ml L M9 a sc ai al) ++ rl.flatMap (reW tc K))) : shF b sa rp K (va_A wc H.size) s H := sorry
theorem lw_sj (hC : Cx p s m args c cc nL own (yw y0 b0 n0 r0) D cls tys A tc) (hre : (∀ x ∈ rl, reOk x)) (hsb : ∀ u, sb9 = some u → ∃ x ∈ rl, x.1.1 = u.1 ∧ x.2.1 = u.2.1 ∧ x.2.2.1.2.2.1 = u.2.2) (hc : isC.map (fun i => W0[i]?) = wc.map some) (hP : va_P D cls (W0 ++ rl.flatMap (reW tc K)) H) (hD : va_D A (W0 ++ rl.flatMap (reW tc K))) : sjF sb9 (va_A wc H.size) s H := sorry
end
end
section
/-! THE LAW: its cases, by program (wip/whole/gen/p94.py) -/
theorem yrN_b {N : Nat} (h : N ≤ 4102444799) : yrN N + 50 < 10000 := sorry
theorem rpA_fr {ai a2 : Nat → Nat → Int32} {al : Nat → Nat → Int64} {rp : List Rp} (h : rpA ai al rp) (ha : ∀ k, k < 7 → a2 k = ai k) : rpA a2 al rp := sorry
theorem bool_or {x : Bool} {p q : Prop} (h1 : x = false → p) (h2 : x = true → q) : (x = false ∧ p) ∨ (x = true ∧ q) := sorry
theorem sb_re {ly : Nat} {rp : List Rp} {me : Int32} {tx : Nat → List Nat} {sa : Nat → Nat} {sv : Nat → Option Nat} {rl : List Re} (hre : ∀ i, i < rp.length → sv i = some (sa i) ∧ ∃ x ∈ rl, x.1.1 = sa i ∧ x.2.1 = i ∧ x.2.2.1 = rp.getD i (0, 0, 0, 0, false, 0)) : ∀ u, sbS sa (dcS ly rp me tx).2.1 = some u → ∃ x ∈ rl, x.1.1 = u.1 ∧ x.2.1 = u.2.1 ∧ x.2.2.1.2.2.1 = u.2.2 := sorry
set_option maxRecDepth 100000 in
set_option maxHeartbeats 4000000 in
theorem lc_status {p : Program} {l : Launch} {e : Env} {s : State} {m : MethodId} {below : List Frame} {meth : Method} {c : Code} {D : va_G} {tys : List (ClassId × FieldType)} {A : Nat → Prop} {tc : Nat → ClassId} {Q : State → Prop} {y0 : MethodName} {b0 : ByteArray} {n0 : Nat} {r0 : Option FieldType} {tcA tcR : ClassId} {K b ro : Nat → Nat} {hm : Nat} {ar : Nat → Nat} {N : Nat} {bs Ls : Nat} {xs : Nat → Int32} (hC : Cx p s m #[Value.ref bs] c code 4 "OriginDeskLaw" (yw y0 b0 n0 r0) D cls tys A tc) (hty : ∀ i : Nat, i < 4 → tys[i]? = some (tc i, vx_ty i)) (htA : tys[5]? = some (tcA, .array .int)) (htR : tys[4]? = some (tcR, .object "OriginDesk$Representation")) (hg : gtF K A s s.heap) (hnw : nwF s) (hX : va_T .int bs Ls (fun j => .int (xs j)) A s s.heap) (hLs : Ls ≤ 4097) {i : Nat} (hi : i + 8 ≤ Ls) {ws : va_W} {k n : Nat} (hkn : k + 41 ≤ 772315 ∧ n + 3700 ≤ 6785302) (hI : Inv tc tcA tcR K b ro hm ar N ws) (next : ∀ ws2, Inv tc tcA tcR K b ro hm ar N ws2 → Vx p l e room_1 s m #[Value.ref bs] below meth c 4 D cls A Q 539 [(0, .ref bs), (1, .ref (b 0)), (2, .ref hm), (3, .int (nI i))] [] ws2 (k + 41) (n + 3700)) : Vx p l e room_1 s m #[Value.ref bs] below meth c 4 D cls A Q 347 [(0, .ref bs), (1, .ref (b 0)), (2, .ref hm), (3, .int (nI i))] [] ws (k) (n) := sorry
set_option maxRecDepth 100000 in
set_option maxHeartbeats 4000000 in
theorem lc_chosen {p : Program} {l : Launch} {e : Env} {s : State} {m : MethodId} {below : List Frame} {meth : Method} {c : Code} {D : va_G} {tys : List (ClassId × FieldType)} {A : Nat → Prop} {tc : Nat → ClassId} {Q : State → Prop} {y0 : MethodName} {b0 : ByteArray} {n0 : Nat} {r0 : Option FieldType} {tcA tcR : ClassId} {K b ro : Nat → Nat} {hm : Nat} {ar : Nat → Nat} {N : Nat} {bs Ls : Nat} {xs : Nat → Int32} (hC : Cx p s m #[Value.ref bs] c code 4 "OriginDeskLaw" (yw y0 b0 n0 r0) D cls tys A tc) (hty : ∀ i : Nat, i < 4 → tys[i]? = some (tc i, vx_ty i)) (htA : tys[5]? = some (tcA, .array .int)) (htR : tys[4]? = some (tcR, .object "OriginDesk$Representation")) (hg : gtF K A s s.heap) (hnw : nwF s) (hX : va_T .int bs Ls (fun j => .int (xs j)) A s s.heap) (hLs : Ls ≤ 4097) {i : Nat} (hi : i + 8 ≤ Ls) {ws : va_W} {k n : Nat} (hkn : k + 41 ≤ 772315 ∧ n + 3700 ≤ 6785302) (hI : Inv tc tcA tcR K b ro hm ar N ws) (next : ∀ ws2, Inv tc tcA tcR K b ro hm ar N ws2 → Vx p l e room_1 s m #[Value.ref bs] below meth c 4 D cls A Q 539 [(0, .ref bs), (1, .ref (b 0)), (2, .ref hm), (3, .int (nI i))] [] ws2 (k + 41) (n + 3700)) : Vx p l e room_1 s m #[Value.ref bs] below meth c 4 D cls A Q 360 [(0, .ref bs), (1, .ref (b 0)), (2, .ref hm), (3, .int (nI i))] [] ws (k) (n) := sorry
set_option maxRecDepth 100000 in
set_option maxHeartbeats 4000000 in
theorem lc_length {p : Program} {l : Launch} {e : Env} {s : State} {m : MethodId} {below : List Frame} {meth : Method} {c : Code} {D : va_G} {tys : List (ClassId × FieldType)} {A : Nat → Prop} {tc : Nat → ClassId} {Q : State → Prop} {y0 : MethodName} {b0 : ByteArray} {n0 : Nat} {r0 : Option FieldType} {tcA tcR : ClassId} {K b ro : Nat → Nat} {hm : Nat} {ar : Nat → Nat} {N : Nat} {bs Ls : Nat} {xs : Nat → Int32} (hC : Cx p s m #[Value.ref bs] c code 4 "OriginDeskLaw" (yw y0 b0 n0 r0) D cls tys A tc) (hty : ∀ i : Nat, i < 4 → tys[i]? = some (tc i, vx_ty i)) (htA : tys[5]? = some (tcA, .array .int)) (htR : tys[4]? = some (tcR, .object "OriginDesk$Representation")) (hg : gtF K A s s.heap) (hnw : nwF s) (hX : va_T .int bs Ls (fun j => .int (xs j)) A s s.heap) (hLs : Ls ≤ 4097) {i : Nat} (hi : i + 8 ≤ Ls) {ws : va_W} {k n : Nat} (hkn : k + 41 ≤ 772315 ∧ n + 3700 ≤ 6785302) (hI : Inv tc tcA tcR K b ro hm ar N ws) (next : ∀ ws2, Inv tc tcA tcR K b ro hm ar N ws2 → Vx p l e room_1 s m #[Value.ref bs] below meth c 4 D cls A Q 539 [(0, .ref bs), (1, .ref (b 0)), (2, .ref hm), (3, .int (nI i))] [] ws2 (k + 41) (n + 3700)) : Vx p l e room_1 s m #[Value.ref bs] below meth c 4 D cls A Q 373 [(0, .ref bs), (1, .ref (b 0)), (2, .ref hm), (3, .int (nI i))] [] ws (k) (n) := sorry
set_option maxRecDepth 100000 in
set_option maxHeartbeats 4000000 in
theorem lc_parts {p : Program} {l : Launch} {e : Env} {s : State} {m : MethodId} {below : List Frame} {meth : Method} {c : Code} {D : va_G} {tys : List (ClassId × FieldType)} {A : Nat → Prop} {tc : Nat → ClassId} {Q : State → Prop} {y0 : MethodName} {b0 : ByteArray} {n0 : Nat} {r0 : Option FieldType} {tcA tcR : ClassId} {K b ro : Nat → Nat} {hm : Nat} {ar : Nat → Nat} {N : Nat} {bs Ls : Nat} {xs : Nat → Int32} (hC : Cx p s m #[Value.ref bs] c code 4 "OriginDeskLaw" (yw y0 b0 n0 r0) D cls tys A tc) (hty : ∀ i : Nat, i < 4 → tys[i]? = some (tc i, vx_ty i)) (htA : tys[5]? = some (tcA, .array .int)) (htR : tys[4]? = some (tcR, .object "OriginDesk$Representation")) (hg : gtF K A s s.heap) (hnw : nwF s) (hX : va_T .int bs Ls (fun j => .int (xs j)) A s s.heap) (hLs : Ls ≤ 4097) {i : Nat} (hi : i + 8 ≤ Ls) {ws : va_W} {k n : Nat} (hkn : k + 41 ≤ 772315 ∧ n + 3700 ≤ 6785302) (hI : Inv tc tcA tcR K b ro hm ar N ws) (next : ∀ ws2, Inv tc tcA tcR K b ro hm ar N ws2 → Vx p l e room_1 s m #[Value.ref bs] below meth c 4 D cls A Q 539 [(0, .ref bs), (1, .ref (b 0)), (2, .ref hm), (3, .int (nI i))] [] ws2 (k + 41) (n + 3700)) : Vx p l e room_1 s m #[Value.ref bs] below meth c 4 D cls A Q 410 [(0, .ref bs), (1, .ref (b 0)), (2, .ref hm), (3, .int (nI i))] [] ws (k) (n) := sorry
set_option maxRecDepth 100000 in
set_option maxHeartbeats 4000000 in
theorem lc_first {p : Program} {l : Launch} {e : Env} {s : State} {m : MethodId} {below : List Frame} {meth : Method} {c : Code} {D : va_G} {tys : List (ClassId × FieldType)} {A : Nat → Prop} {tc : Nat → ClassId} {Q : State → Prop} {y0 : MethodName} {b0 : ByteArray} {n0 : Nat} {r0 : Option FieldType} {tcA tcR : ClassId} {K b ro : Nat → Nat} {hm : Nat} {ar : Nat → Nat} {N : Nat} {bs Ls : Nat} {xs : Nat → Int32} (hC : Cx p s m #[Value.ref bs] c code 4 "OriginDeskLaw" (yw y0 b0 n0 r0) D cls tys A tc) (hty : ∀ i : Nat, i < 4 → tys[i]? = some (tc i, vx_ty i)) (htA : tys[5]? = some (tcA, .array .int)) (htR : tys[4]? = some (tcR, .object "OriginDesk$Representation")) (hg : gtF K A s s.heap) (hnw : nwF s) (hX : va_T .int bs Ls (fun j => .int (xs j)) A s s.heap) (hLs : Ls ≤ 4097) {i : Nat} (hi : i + 8 ≤ Ls) {ws : va_W} {k n : Nat} (hkn : k + 41 ≤ 772315 ∧ n + 3700 ≤ 6785302) (hI : Inv tc tcA tcR K b ro hm ar N ws) (next : ∀ ws2, Inv tc tcA tcR K b ro hm ar N ws2 → Vx p l e room_1 s m #[Value.ref bs] below meth c 4 D cls A Q 539 [(0, .ref bs), (1, .ref (b 0)), (2, .ref hm), (3, .int (nI i))] [] ws2 (k + 41) (n + 3700)) : Vx p l e room_1 s m #[Value.ref bs] below meth c 4 D cls A Q 423 [(0, .ref bs), (1, .ref (b 0)), (2, .ref hm), (3, .int (nI i))] [] ws (k) (n) := sorry
set_option maxRecDepth 100000 in
set_option maxHeartbeats 4000000 in
theorem lc_last {p : Program} {l : Launch} {e : Env} {s : State} {m : MethodId} {below : List Frame} {meth : Method} {c : Code} {D : va_G} {tys : List (ClassId × FieldType)} {A : Nat → Prop} {tc : Nat → ClassId} {Q : State → Prop} {y0 : MethodName} {b0 : ByteArray} {n0 : Nat} {r0 : Option FieldType} {tcA tcR : ClassId} {K b ro : Nat → Nat} {hm : Nat} {ar : Nat → Nat} {N : Nat} {bs Ls : Nat} {xs : Nat → Int32} (hC : Cx p s m #[Value.ref bs] c code 4 "OriginDeskLaw" (yw y0 b0 n0 r0) D cls tys A tc) (hty : ∀ i : Nat, i < 4 → tys[i]? = some (tc i, vx_ty i)) (htA : tys[5]? = some (tcA, .array .int)) (htR : tys[4]? = some (tcR, .object "OriginDesk$Representation")) (hg : gtF K A s s.heap) (hnw : nwF s) (hX : va_T .int bs Ls (fun j => .int (xs j)) A s s.heap) (hLs : Ls ≤ 4097) {i : Nat} (hi : i + 8 ≤ Ls) {ws : va_W} {k n : Nat} (hkn : k + 41 ≤ 772315 ∧ n + 3700 ≤ 6785302) (hI : Inv tc tcA tcR K b ro hm ar N ws) (next : ∀ ws2, Inv tc tcA tcR K b ro hm ar N ws2 → Vx p l e room_1 s m #[Value.ref bs] below meth c 4 D cls A Q 539 [(0, .ref bs), (1, .ref (b 0)), (2, .ref hm), (3, .int (nI i))] [] ws2 (k + 41) (n + 3700)) : Vx p l e room_1 s m #[Value.ref bs] below meth c 4 D cls A Q 446 [(0, .ref bs), (1, .ref (b 0)), (2, .ref hm), (3, .int (nI i))] [] ws (k) (n) := sorry
set_option maxRecDepth 100000 in
set_option maxHeartbeats 4000000 in
theorem lc_body {p : Program} {l : Launch} {e : Env} {s : State} {m : MethodId} {below : List Frame} {meth : Method} {c : Code} {D : va_G} {tys : List (ClassId × FieldType)} {A : Nat → Prop} {tc : Nat → ClassId} {Q : State → Prop} {y0 : MethodName} {b0 : ByteArray} {n0 : Nat} {r0 : Option FieldType} {tcA tcR : ClassId} {K b ro : Nat → Nat} {hm : Nat} {ar : Nat → Nat} {N : Nat} {bs Ls : Nat} {xs : Nat → Int32} (hC : Cx p s m #[Value.ref bs] c code 4 "OriginDeskLaw" (yw y0 b0 n0 r0) D cls tys A tc) (hty : ∀ i : Nat, i < 4 → tys[i]? = some (tc i, vx_ty i)) (htA : tys[5]? = some (tcA, .array .int)) (htR : tys[4]? = some (tcR, .object "OriginDesk$Representation")) (hg : gtF K A s s.heap) (hnw : nwF s) (hX : va_T .int bs Ls (fun j => .int (xs j)) A s s.heap) (hLs : Ls ≤ 4097) {i : Nat} (hi : i + 8 ≤ Ls) {ws : va_W} {k n : Nat} (hkn : k + 41 ≤ 772315 ∧ n + 3700 ≤ 6785302) (hI : Inv tc tcA tcR K b ro hm ar N ws) (next : ∀ ws2, Inv tc tcA tcR K b ro hm ar N ws2 → Vx p l e room_1 s m #[Value.ref bs] below meth c 4 D cls A Q 539 [(0, .ref bs), (1, .ref (b 0)), (2, .ref hm), (3, .int (nI i))] [] ws2 (k + 41) (n + 3700)) : Vx p l e room_1 s m #[Value.ref bs] below meth c 4 D cls A Q 387 [(0, .ref bs), (1, .ref (b 0)), (2, .ref hm), (3, .int (nI i))] [] ws (k) (n) := sorry
set_option maxRecDepth 100000 in
set_option maxHeartbeats 4000000 in
theorem lc_score {p : Program} {l : Launch} {e : Env} {s : State} {m : MethodId} {below : List Frame} {meth : Method} {c : Code} {D : va_G} {tys : List (ClassId × FieldType)} {A : Nat → Prop} {tc : Nat → ClassId} {Q : State → Prop} {y0 : MethodName} {b0 : ByteArray} {n0 : Nat} {r0 : Option FieldType} {tcA tcR : ClassId} {K b ro : Nat → Nat} {hm : Nat} {ar : Nat → Nat} {N : Nat} {bs Ls : Nat} {xs : Nat → Int32} (hC : Cx p s m #[Value.ref bs] c code 4 "OriginDeskLaw" (yw y0 b0 n0 r0) D cls tys A tc) (hty : ∀ i : Nat, i < 4 → tys[i]? = some (tc i, vx_ty i)) (htA : tys[5]? = some (tcA, .array .int)) (htR : tys[4]? = some (tcR, .object "OriginDesk$Representation")) (hg : gtF K A s s.heap) (hnw : nwF s) (hX : va_T .int bs Ls (fun j => .int (xs j)) A s s.heap) (hLs : Ls ≤ 4097) {i : Nat} (hi : i + 8 ≤ Ls) {ws : va_W} {k n : Nat} (hkn : k + 41 ≤ 772315 ∧ n + 3700 ≤ 6785302) (hI : Inv tc tcA tcR K b ro hm ar N ws) (next : ∀ ws2, Inv tc tcA tcR K b ro hm ar N ws2 → Vx p l e room_1 s m #[Value.ref bs] below meth c 4 D cls A Q 539 [(0, .ref bs), (1, .ref (b 0)), (2, .ref hm), (3, .int (nI i))] [] ws2 (k + 41) (n + 3700)) : Vx p l e room_1 s m #[Value.ref bs] below meth c 4 D cls A Q 469 [(0, .ref bs), (1, .ref (b 0)), (2, .ref hm), (3, .int (nI i))] [] ws (k) (n) := sorry
set_option maxRecDepth 100000 in
set_option maxHeartbeats 4000000 in
theorem lc_date {p : Program} {l : Launch} {e : Env} {s : State} {m : MethodId} {below : List Frame} {meth : Method} {c : Code} {D : va_G} {tys : List (ClassId × FieldType)} {A : Nat → Prop} {tc : Nat → ClassId} {Q : State → Prop} {y0 : MethodName} {b0 : ByteArray} {n0 : Nat} {r0 : Option FieldType} {tcA tcR : ClassId} {K b ro : Nat → Nat} {hm : Nat} {ar : Nat → Nat} {N : Nat} {bs Ls : Nat} {xs : Nat → Int32} (hC : Cx p s m #[Value.ref bs] c code 4 "OriginDeskLaw" (yw y0 b0 n0 r0) D cls tys A tc) (hty : ∀ i : Nat, i < 4 → tys[i]? = some (tc i, vx_ty i)) (htA : tys[5]? = some (tcA, .array .int)) (htR : tys[4]? = some (tcR, .object "OriginDesk$Representation")) (hg : gtF K A s s.heap) (hnw : nwF s) (hX : va_T .int bs Ls (fun j => .int (xs j)) A s s.heap) (hLs : Ls ≤ 4097) {i : Nat} (hi : i + 8 ≤ Ls) {ws : va_W} {k n : Nat} (hkn : k + 41 ≤ 772315 ∧ n + 3700 ≤ 6785302) (hI : Inv tc tcA tcR K b ro hm ar N ws) (next : ∀ ws2, Inv tc tcA tcR K b ro hm ar N ws2 → Vx p l e room_1 s m #[Value.ref bs] below meth c 4 D cls A Q 539 [(0, .ref bs), (1, .ref (b 0)), (2, .ref hm), (3, .int (nI i))] [] ws2 (k + 41) (n + 3700)) : Vx p l e room_1 s m #[Value.ref bs] below meth c 4 D cls A Q 515 [(0, .ref bs), (1, .ref (b 0)), (2, .ref hm), (3, .int (nI i))] [] ws (k) (n) := sorry
set_option maxRecDepth 100000 in
set_option maxHeartbeats 4000000 in
theorem lc_formed {p : Program} {l : Launch} {e : Env} {s : State} {m : MethodId} {below : List Frame} {meth : Method} {c : Code} {D : va_G} {tys : List (ClassId × FieldType)} {A : Nat → Prop} {tc : Nat → ClassId} {Q : State → Prop} {y0 : MethodName} {b0 : ByteArray} {n0 : Nat} {r0 : Option FieldType} {tcA tcR : ClassId} {K b ro : Nat → Nat} {hm : Nat} {ar : Nat → Nat} {N : Nat} {bs Ls : Nat} {xs : Nat → Int32} (hC : Cx p s m #[Value.ref bs] c code 4 "OriginDeskLaw" (yw y0 b0 n0 r0) D cls tys A tc) (hty : ∀ i : Nat, i < 4 → tys[i]? = some (tc i, vx_ty i)) (htA : tys[5]? = some (tcA, .array .int)) (htR : tys[4]? = some (tcR, .object "OriginDesk$Representation")) (hg : gtF K A s s.heap) (hnw : nwF s) (hX : va_T .int bs Ls (fun j => .int (xs j)) A s s.heap) (hLs : Ls ≤ 4097) {i : Nat} (hi : i + 8 ≤ Ls) {ws : va_W} {k n : Nat} (hkn : k + 41 ≤ 772315 ∧ n + 3700 ≤ 6785302) (hI : Inv tc tcA tcR K b ro hm ar N ws) (next : ∀ ws2, Inv tc tcA tcR K b ro hm ar N ws2 → Vx p l e room_1 s m #[Value.ref bs] below meth c 4 D cls A Q 539 [(0, .ref bs), (1, .ref (b 0)), (2, .ref hm), (3, .int (nI i))] [] ws2 (k + 41) (n + 3700)) : Vx p l e room_1 s m #[Value.ref bs] below meth c 4 D cls A Q 492 [(0, .ref bs), (1, .ref (b 0)), (2, .ref hm), (3, .int (nI i))] [] ws (k) (n) := sorry
set_option maxRecDepth 100000 in
set_option maxHeartbeats 4000000 in
theorem lc_respond {p : Program} {l : Launch} {e : Env} {s : State} {m : MethodId} {below : List Frame} {meth : Method} {c : Code} {D : va_G} {tys : List (ClassId × FieldType)} {A : Nat → Prop} {tc : Nat → ClassId} {Q : State → Prop} {y0 : MethodName} {b0 : ByteArray} {n0 : Nat} {r0 : Option FieldType} {tcA tcR : ClassId} {K b ro : Nat → Nat} {hm : Nat} {ar : Nat → Nat} {N : Nat} {bs Ls : Nat} {xs : Nat → Int32} (hC : Cx p s m #[Value.ref bs] c code 4 "OriginDeskLaw" (yw y0 b0 n0 r0) D cls tys A tc) (hty : ∀ i : Nat, i < 4 → tys[i]? = some (tc i, vx_ty i)) (htA : tys[5]? = some (tcA, .array .int)) (htR : tys[4]? = some (tcR, .object "OriginDesk$Representation")) (hg : gtF K A s s.heap) (hnw : nwF s) (hX : va_T .int bs Ls (fun j => .int (xs j)) A s s.heap) (hLs : Ls ≤ 4097) {i : Nat} (hi : i + 8 ≤ Ls) {ws : va_W} {k n : Nat} (hkn : k + 41 ≤ 772315 ∧ n + 3700 ≤ 6785302) (hI : Inv tc tcA tcR K b ro hm ar N ws) (next : ∀ ws2, Inv tc tcA tcR K b ro hm ar N ws2 → Vx p l e room_1 s m #[Value.ref bs] below meth c 4 D cls A Q 539 [(0, .ref bs), (1, .ref (b 0)), (2, .ref hm), (3, .int (nI i))] [] ws2 (k + 41) (n + 3700)) : Vx p l e room_1 s m #[Value.ref bs] below meth c 4 D cls A Q 334 [(0, .ref bs), (1, .ref (b 0)), (2, .ref hm), (3, .int (nI i))] [] ws (k) (n) := sorry
set_option maxRecDepth 100000 in
set_option maxHeartbeats 4000000 in
theorem lc_clear {p : Program} {l : Launch} {e : Env} {s : State} {m : MethodId} {below : List Frame} {meth : Method} {c : Code} {D : va_G} {tys : List (ClassId × FieldType)} {A : Nat → Prop} {tc : Nat → ClassId} {Q : State → Prop} {y0 : MethodName} {b0 : ByteArray} {n0 : Nat} {r0 : Option FieldType} {tcA tcR : ClassId} {K b ro : Nat → Nat} {hm : Nat} {ar : Nat → Nat} {N : Nat} {bs Ls : Nat} {xs : Nat → Int32} (hC : Cx p s m #[Value.ref bs] c code 4 "OriginDeskLaw" (yw y0 b0 n0 r0) D cls tys A tc) (hty : ∀ i : Nat, i < 4 → tys[i]? = some (tc i, vx_ty i)) (htA : tys[5]? = some (tcA, .array .int)) (htR : tys[4]? = some (tcR, .object "OriginDesk$Representation")) (hg : gtF K A s s.heap) (hnw : nwF s) (hX : va_T .int bs Ls (fun j => .int (xs j)) A s s.heap) (hLs : Ls ≤ 4097) {i : Nat} (hi : i + 8 ≤ Ls) {ws : va_W} {k n : Nat} (hkn : k + 41 ≤ 772315 ∧ n + 3700 ≤ 6785302) (hI : Inv tc tcA tcR K b ro hm ar N ws) (next : ∀ ws2, Inv tc tcA tcR K b ro hm ar N ws2 → Vx p l e room_1 s m #[Value.ref bs] below meth c 4 D cls A Q 539 [(0, .ref bs), (1, .ref (b 0)), (2, .ref hm), (3, .int (nI i))] [] ws2 (k + 41) (n + 3700)) : Vx p l e room_1 s m #[Value.ref bs] below meth c 4 D cls A Q 239 [(0, .ref bs), (1, .ref (b 0)), (2, .ref hm), (3, .int (nI i))] [] ws (k) (n) := sorry
set_option maxRecDepth 100000 in
set_option maxHeartbeats 4000000 in
theorem lc_request {p : Program} {l : Launch} {e : Env} {s : State} {m : MethodId} {below : List Frame} {meth : Method} {c : Code} {D : va_G} {tys : List (ClassId × FieldType)} {A : Nat → Prop} {tc : Nat → ClassId} {Q : State → Prop} {y0 : MethodName} {b0 : ByteArray} {n0 : Nat} {r0 : Option FieldType} {tcA tcR : ClassId} {K b ro : Nat → Nat} {hm : Nat} {ar : Nat → Nat} {N : Nat} {bs Ls : Nat} {xs : Nat → Int32} (hC : Cx p s m #[Value.ref bs] c code 4 "OriginDeskLaw" (yw y0 b0 n0 r0) D cls tys A tc) (hty : ∀ i : Nat, i < 4 → tys[i]? = some (tc i, vx_ty i)) (htA : tys[5]? = some (tcA, .array .int)) (htR : tys[4]? = some (tcR, .object "OriginDesk$Representation")) (hg : gtF K A s s.heap) (hnw : nwF s) (hX : va_T .int bs Ls (fun j => .int (xs j)) A s s.heap) (hLs : Ls ≤ 4097) {i : Nat} (hi : i + 8 ≤ Ls) {ws : va_W} {k n : Nat} (hkn : k + 41 ≤ 772315 ∧ n + 3700 ≤ 6785302) (hI : Inv tc tcA tcR K b ro hm ar N ws) (next : ∀ ws2, Inv tc tcA tcR K b ro hm ar N ws2 → Vx p l e room_1 s m #[Value.ref bs] below meth c 4 D cls A Q 539 [(0, .ref bs), (1, .ref (b 0)), (2, .ref hm), (3, .int (nI i))] [] ws2 (k + 41) (n + 3700)) : Vx p l e room_1 s m #[Value.ref bs] below meth c 4 D cls A Q 250 [(0, .ref bs), (1, .ref (b 0)), (2, .ref hm), (3, .int (nI i))] [] ws (k) (n) := sorry
end
section
/-! THE LAW: feed and add, by program (wip/whole/gen/p95.py) -/
theorem ad_ok {rp : List Rp} {kd to bz nu : Int32} {wk : Bool} {tm : Int64} (h : adB rp kd to bz nu tm = true) : rpOk (adR kd to bz nu wk tm) ∧ rp.length < 4 := sorry
def mkR {r : Rp} {Pq : Prop} (_ : rpOk r ∧ Pq) (a t w n : Nat) (f : Nat → Int32) : Re := ((a, t, w), n, r, f)
theorem rps_app {rp : List Rp} {r : Rp} (h : rpsOk rp) (hr : rpOk r) (h4 : rp.length < 4) : rpsOk (rp ++ [r]) := sorry
theorem re_app {rp : List Rp} {r : Rp} {sv : Nat → Option Nat} {sa : Nat → Nat} {rl : List Re} {x : Re} (hre : ∀ i, i < rp.length → sv i = some (sa i) ∧ ∃ x ∈ rl, x.1.1 = sa i ∧ x.2.1 = i ∧ x.2.2.1 = rp.getD i (0, 0, 0, 0, false, 0)) (e2 : x.2.1 = rp.length) (e3 : x.2.2.1 = r) : ∀ i, i < (rp ++ [r]).length → va_up sv rp.length (some x.1.1) i = some ((fun j => if j = rp.length then x.1.1 else sa j) i) ∧ ∃ y ∈ x :: rl, y.1.1 = (fun j => if j = rp.length then x.1.1 else sa j) i ∧ y.2.1 = i ∧ y.2.2.1 = (rp ++ [r]).getD i (0, 0, 0, 0, false, 0) := sorry
theorem sb_cons {sb9 : Option (Nat × Nat × Nat)} {rl : List Re} {x : Re} (h : ∀ u, sb9 = some u → ∃ x ∈ rl, x.1.1 = u.1 ∧ x.2.1 = u.2.1 ∧ x.2.2.1.2.2.1 = u.2.2) : ∀ u, sb9 = some u → ∃ y ∈ x :: rl, y.1.1 = u.1 ∧ y.2.1 = u.2.1 ∧ y.2.2.1.2.2.1 = u.2.2 := sorry
theorem cpy_b {a3 : Nat → Int32} {W : List Nat} (h : sbI a3 W) : ∀ j, j < W.length → va_cpy a3 (fun _ => 0) 0 0 W.length j = sb_b (W.getD j 0) := sorry
theorem md_add {now : Int64} {sc s2 : Nat → Int32} {ai a2 : Nat → Nat → Int32} {al l2 : Nat → Nat → Int64} {N : Nat} {rp rq9 : List Rp} {me : Int32} {tx : Nat → List Nat} (h : mdR now sc ai al N rp me tx) (h1 : ∀ k, k ≠ 1 → s2 k = sc k) (h2 : ∀ k, 6 ≤ k → a2 k = ai k) (h3 : ∀ k, k ≠ 6 → l2 k = al k) (h4 : s2 1 = nI rq9.length) (h5 : rpA a2 l2 rq9) : mdR now s2 a2 l2 N rq9 me tx := sorry
set_option maxRecDepth 100000 in
set_option maxHeartbeats 4000000 in
theorem lc_feed {p : Program} {l : Launch} {e : Env} {s : State} {m : MethodId} {below : List Frame} {meth : Method} {c : Code} {D : va_G} {tys : List (ClassId × FieldType)} {A : Nat → Prop} {tc : Nat → ClassId} {Q : State → Prop} {y0 : MethodName} {b0 : ByteArray} {n0 : Nat} {r0 : Option FieldType} {tcA tcR : ClassId} {K b ro : Nat → Nat} {hm : Nat} {ar : Nat → Nat} {N : Nat} {bs Ls : Nat} {xs : Nat → Int32} (hC : Cx p s m #[Value.ref bs] c code 4 "OriginDeskLaw" (yw y0 b0 n0 r0) D cls tys A tc) (hty : ∀ i : Nat, i < 4 → tys[i]? = some (tc i, vx_ty i)) (htA : tys[5]? = some (tcA, .array .int)) (htR : tys[4]? = some (tcR, .object "OriginDesk$Representation")) (hg : gtF K A s s.heap) (hnw : nwF s) (hX : va_T .int bs Ls (fun j => .int (xs j)) A s s.heap) (hLs : Ls ≤ 4097) {i : Nat} (hi : i + 8 ≤ Ls) {ws : va_W} {k n : Nat} (hkn : k + 41 ≤ 772315 ∧ n + 3700 ≤ 6785302) (hI : Inv tc tcA tcR K b ro hm ar N ws) (next : ∀ ws2, Inv tc tcA tcR K b ro hm ar N ws2 → Vx p l e room_1 s m #[Value.ref bs] below meth c 4 D cls A Q 539 [(0, .ref bs), (1, .ref (b 0)), (2, .ref hm), (3, .int (nI i))] [] ws2 (k + 41) (n + 3700)) : Vx p l e room_1 s m #[Value.ref bs] below meth c 4 D cls A Q 271 [(0, .ref bs), (1, .ref (b 0)), (2, .ref hm), (3, .int (nI i))] [] ws (k) (n) := sorry
set_option maxRecDepth 100000 in
set_option maxHeartbeats 4000000 in
theorem lc_add {p : Program} {l : Launch} {e : Env} {s : State} {m : MethodId} {below : List Frame} {meth : Method} {c : Code} {D : va_G} {tys : List (ClassId × FieldType)} {A : Nat → Prop} {tc : Nat → ClassId} {Q : State → Prop} {y0 : MethodName} {b0 : ByteArray} {n0 : Nat} {r0 : Option FieldType} {tcA tcR : ClassId} {K b ro : Nat → Nat} {hm : Nat} {ar : Nat → Nat} {N : Nat} {bs Ls : Nat} {xs : Nat → Int32} (hC : Cx p s m #[Value.ref bs] c code 4 "OriginDeskLaw" (yw y0 b0 n0 r0) D cls tys A tc) (hty : ∀ i : Nat, i < 4 → tys[i]? = some (tc i, vx_ty i)) (htA : tys[5]? = some (tcA, .array .int)) (htR : tys[4]? = some (tcR, .object "OriginDesk$Representation")) (hg : gtF K A s s.heap) (hnw : nwF s) (hX : va_T .int bs Ls (fun j => .int (xs j)) A s s.heap) (hLs : Ls ≤ 4097) {i : Nat} (hi : i + 8 ≤ Ls) {ws : va_W} {k n : Nat} (hkn : k + 41 ≤ 772315 ∧ n + 3700 ≤ 6785302) (hI : Inv tc tcA tcR K b ro hm ar N ws) (next : ∀ ws2, Inv tc tcA tcR K b ro hm ar N ws2 → Vx p l e room_1 s m #[Value.ref bs] below meth c 4 D cls A Q 539 [(0, .ref bs), (1, .ref (b 0)), (2, .ref hm), (3, .int (nI i))] [] ws2 (k + 41) (n + 3700)) : Vx p l e room_1 s m #[Value.ref bs] below meth c 4 D cls A Q 116 [(0, .ref bs), (1, .ref (b 0)), (2, .ref hm), (3, .int (nI i))] [] ws (k) (n) := sorry
end
section
/-! THE CLAIM OUT OF ONE WALK OF THE LAW'S BODY. Your part is whole_start (and what it stands on); all else here is the same for every law, but numbers. -/
def R_law : String := "OriginDeskLaw"
def lw_P (b : Addr) (xs : List Int32) (args : Array Value) (s : State) : Prop := args = #[.ref b] ∧ s.IntsAt b xs ∧ xs.length ≤ 4097 ∧ (Jvm.Cond.and given_1 narrow_1).before args s = true
def lw_Q (_ : Array Value) (s : State) (o : Outcome) (t : State) : Prop := o = .returned (some (.int 1)) ∧ Framed s o t [] 772315 6785302
def lw_Z (below : List Frame) (a : Array Value) (s : State) : State → Prop := fun t => ∃ o, t.status = .running ∧ Ended t below o ∧ lw_Q a s o t
/-- the law's own end, with 1 on the stack, nothing written that was there before, its room as the claim has it -/
theorem lw_ret {p : Program} {l : Launch} {e : Env} {s : State} {m : MethodId} {below : List Frame} {meth : Method} {c : Code} {b : Nat} (hx : p.tables.exec = Jvm.exec) (hb : c.code = code) (hr : meth.sig.returnType = ret) (hlocks : meth.locks = false) {pc : Nat} {H : Heap} {ls : Array Slot} (hdg : decode code pc = .ok (.ireturn, 1)) : W p l e room_1 s m #[Value.ref b] below meth c H [] 772315 6785302 (lw_Z below #[Value.ref b] s) (F0 m pc ls [.int 1]) := by
  intro T hT X
  obtain ⟨fs, hret, hrun, hended, hW, hframe⟩ := X.leave (v := some (.int 1)) (hlocks := hlocks) (fun h => by rw [hr] at h; cases h)
  have hmeth' : T.vm.method? m = some meth := X.method'
  refine ⟨T.setFrames fs, ?_, .returned (some (.int 1)), hrun, hended, rfl, ⟨_, rfl⟩, hW, hframe⟩
  jvm_step X.here [X.here.top, hx, hb, hdg, hmeth', hr, ret, narrow_b1]
  (try refine ⟨rfl, ?_⟩); (try refine ⟨rfl, ?_⟩)
  first | (intro acts; rw [hret _ acts rfl rfl rfl]) | rw [hret _ _ rfl rfl rfl]
  exact Steps.refl _
/-- what holds at the law's entry: the machine, the code, the tables' words (any of lw_tbl by 'hts w (by decide +kernel)'), the script of L ints xs at the cell b, what the Statement gives of the start (any of its parts by flat_of_before) -/
def lw_At (p : Program) (s : State) (m : MethodId) (meth : Method) (c : Code) (b L : Nat) (xs : Nat → Int32) : Prop :=
  p.tables.exec = Jvm.exec ∧ c.code = code ∧ meth.sig.returnType = ret ∧ c.maxLocals = 4 ∧ s.vm.findClass R_law = some m.cls ∧ (∀ w ∈ lw_tbl, w.before #[Value.ref b] s = true) ∧ va_X b L xs s s.heap ∧ b < s.heap.size ∧ meth.locks = false ∧ (Jvm.Cond.and given_1 narrow_1).before #[Value.ref b] s = true
/-! THE LAW: its loop, its start (wip/whole/gen/p96.py) -/
theorem and15 (x : Int32) : ∃ q, q < 16 ∧ x &&& 15 = nI q := by
  refine ⟨x.toBitVec.toNat % 16, Nat.mod_lt _ (by decide), ?_⟩
  apply Int32.toBitVec_inj.mp
  rw [Int32.toBitVec_and]
  show x.toBitVec &&& BitVec.ofNat 32 15 = BitVec.ofNat 32 (x.toBitVec.toNat % 16)
  apply BitVec.eq_of_getLsbD_eq
  intro i hi
  rw [BitVec.getLsbD_and, BitVec.getLsbD_ofNat, BitVec.getLsbD_ofNat, show 15 = 2 ^ 4 - 1 from rfl, Nat.testBit_two_pow_sub_one, show 16 = 2 ^ 4 from rfl, Nat.testBit_mod_two_pow]
  by_cases h : i < 4
  · simp [h, hi, BitVec.getLsbD]
  · simp [h]
set_option maxRecDepth 100000 in
set_option maxHeartbeats 4000000 in
theorem law_loop {p : Program} {l : Launch} {e : Env} {s : State} {m : MethodId} {below : List Frame} {meth : Method} {c : Code} {D : va_G} {tys : List (ClassId × FieldType)} {A : Nat → Prop} {tc : Nat → ClassId} {y0 : MethodName} {b0 : ByteArray} {n0 : Nat} {r0 : Option FieldType} {tcA tcR : ClassId} {K b ro : Nat → Nat} {hm : Nat} {ar : Nat → Nat} {N : Nat} {bs Ls : Nat} {xs : Nat → Int32} (hC : Cx p s m #[Value.ref bs] c code 4 "OriginDeskLaw" (yw y0 b0 n0 r0) D cls tys A tc) (hr : meth.sig.returnType = ret) (hlk : meth.locks = false) (hAx : ∀ q, A q → s.heap.size ≤ q) (hty : ∀ i : Nat, i < 4 → tys[i]? = some (tc i, vx_ty i)) (htA : tys[5]? = some (tcA, .array .int)) (htR : tys[4]? = some (tcR, .object "OriginDesk$Representation")) (hg : gtF K A s s.heap) (hnw : nwF s) (hX : va_T .int bs Ls (fun j => .int (xs j)) A s s.heap) (hLs : Ls ≤ 4097) : ∀ (d q : Nat) (ws : va_W), 513 - q = d → q ≤ 512 → Inv tc tcA tcR K b ro hm ar N ws → Vx p l e room_1 s m #[Value.ref bs] below meth c 4 D cls A (lw_Z below #[Value.ref bs] s) 28 [(0, .ref bs), (1, .ref (b 0)), (2, .ref hm), (3, .int (nI (1 + 8 * q)))] [] ws (60 + 41 * q) (5000 + 3700 * q) := by
  have hE : vx_EN code (fun r _ k n => r = some (.int 1) ∧ k ≤ 772315 ∧ n ≤ 6785302) (Vx p l e room_1 s m #[Value.ref bs] below meth c 4 D cls A (lw_Z below #[Value.ref bs] s)) := by
    intro r ws k n pc lv h hd
    obtain ⟨rfl, hk, hn⟩ := h
    intro H locs ls hP hD hS hl
    exact va_forget (fun x hx => hAx _ (hS.2.2 x hx)) (W.widen hk hn (lw_ret hC.1 hC.2.1 hr hlk hd))
  have hFt : vx_Ft "OriginDeskLaw" (yw y0 b0 n0 r0) cls cty [] := fun q h => by cases h
  have hini : false = true → meth.name = "<init>" := fun h => by cases h
  intro d
  induction d using Nat.strongRecOn with
  | _ d ih =>
    intro q ws hd hq hI
    refine vx_gon hC hFt hini hE jc_Lw_law 16 11 (by decide) rfl ?_
    refine ⟨0, _, _, hX, ?_⟩
    refine And.intro (fun c21 => ?_) (fun c21 => ?_)
    · refine vx_go hC hFt hini hE jc_Lw_law 339 (by decide) rfl ?_
      exact ⟨rfl, by omega, by omega⟩
    · have hi : 1 + 8 * q + 8 ≤ Ls := by
        have c21 : ¬ nI Ls - nI 8 < nI (1 + 8 * q) := c21
        rw [Int32.lt_iff_toInt_lt, pk_sub_toInt (by omega) (by omega), nI_toInt (by omega)] at c21
        omega
      have hkn : 60 + 41 * q + 41 ≤ 772315 ∧ 5000 + 3700 * q + 3700 ≤ 6785302 := by omega
      have next : ∀ ws2, Inv tc tcA tcR K b ro hm ar N ws2 → Vx p l e room_1 s m #[Value.ref bs] below meth c 4 D cls A (lw_Z below #[Value.ref bs] s) 539 [(0, .ref bs), (1, .ref (b 0)), (2, .ref hm), (3, .int (nI (1 + 8 * q)))] [] ws2 (60 + 41 * q + 41) (5000 + 3700 * q + 3700) := fun ws2 hI2 => by
        refine vx_go hC hFt hini hE jc_Lw_law 337 (by decide) rfl ?_
        refine Vx.subL (lv' := [(0, .ref bs), (1, .ref (b 0)), (2, .ref hm), (3, .int (nI (1 + 8 * q) + 8))]) [1, 2, 3, 0] rfl ?_
        refine Vx.eqs rfl (lv2 := [(0, .ref bs), (1, .ref (b 0)), (2, .ref hm), (3, .int (nI (1 + 8 * (q + 1))))]) (by rw [show nI (1 + 8 * q) + 8 = nI (1 + 8 * q + 8) from nI_add (1 + 8 * q) 8, show 1 + 8 * q + 8 = 1 + 8 * (q + 1) by omega]) rfl rfl ?_
        refine Vx.cnt (k2 := 60 + 41 * (q + 1)) (n2 := 5000 + 3700 * (q + 1)) (by omega) (by omega) ?_
        exact ih (513 - (q + 1)) (by omega) (q + 1) ws2 rfl (by omega) hI2
      refine ⟨_, _, hX, vp_in_nI (by omega) (by omega), ?_⟩
      refine Vx.subL (lv' := [(0, .ref bs), (1, .ref (b 0)), (2, .ref hm), (3, .int (nI (1 + 8 * q)))]) [0, 1, 2, 3] rfl ?_
      have hdec := vx_dec jc_Lw_law 27 _ (by decide) rfl
      obtain ⟨t9, ht9, e9⟩ := and15 (xs (nI (1 + 8 * q)).toNatClampNeg)
      refine Vx.eqs rfl (lv2 := [(0, .ref bs), (1, .ref (b 0)), (2, .ref hm), (3, .int (nI (1 + 8 * q)))]) rfl (st2 := [.int (nI t9)]) (congrArg (fun z => [Value.int z]) e9) rfl ?_
      rcases (show t9 = 0 ∨ t9 = 1 ∨ t9 = 2 ∨ t9 = 3 ∨ t9 = 4 ∨ t9 = 5 ∨ t9 = 6 ∨ t9 = 7 ∨ t9 = 8 ∨ t9 = 9 ∨ t9 = 10 ∨ t9 = 11 ∨ t9 = 12 ∨ t9 = 13 ∨ t9 = 14 ∨ t9 = 15 by omega) with rfl | rfl | rfl | rfl | rfl | rfl | rfl | rfl | rfl | rfl | rfl | rfl | rfl | rfl | rfl | rfl
      · refine vx_tbl hC hdec 116 (off := 73) (by decide) (by decide) rfl rfl ?_
        exact lc_add hC hty htA htR hg hnw hX hLs hi hkn hI next
      · refine vx_tbl hC hdec 239 (off := 196) (by decide) (by decide) rfl rfl ?_
        exact lc_clear hC hty htA htR hg hnw hX hLs hi hkn hI next
      · refine vx_tbl hC hdec 250 (off := 207) (by decide) (by decide) rfl rfl ?_
        exact lc_request hC hty htA htR hg hnw hX hLs hi hkn hI next
      · refine vx_tbl hC hdec 271 (off := 228) (by decide) (by decide) rfl rfl ?_
        exact lc_feed hC hty htA htR hg hnw hX hLs hi hkn hI next
      · refine vx_tbl hC hdec 334 (off := 291) (by decide) (by decide) rfl rfl ?_
        exact lc_respond hC hty htA htR hg hnw hX hLs hi hkn hI next
      · refine vx_tbl hC hdec 347 (off := 304) (by decide) (by decide) rfl rfl ?_
        exact lc_status hC hty htA htR hg hnw hX hLs hi hkn hI next
      · refine vx_tbl hC hdec 360 (off := 317) (by decide) (by decide) rfl rfl ?_
        exact lc_chosen hC hty htA htR hg hnw hX hLs hi hkn hI next
      · refine vx_tbl hC hdec 373 (off := 330) (by decide) (by decide) rfl rfl ?_
        exact lc_length hC hty htA htR hg hnw hX hLs hi hkn hI next
      · refine vx_tbl hC hdec 387 (off := 344) (by decide) (by decide) rfl rfl ?_
        exact lc_body hC hty htA htR hg hnw hX hLs hi hkn hI next
      · refine vx_tbl hC hdec 410 (off := 367) (by decide) (by decide) rfl rfl ?_
        exact lc_parts hC hty htA htR hg hnw hX hLs hi hkn hI next
      · refine vx_tbl hC hdec 423 (off := 380) (by decide) (by decide) rfl rfl ?_
        exact lc_first hC hty htA htR hg hnw hX hLs hi hkn hI next
      · refine vx_tbl hC hdec 446 (off := 403) (by decide) (by decide) rfl rfl ?_
        exact lc_last hC hty htA htR hg hnw hX hLs hi hkn hI next
      · refine vx_tbl hC hdec 469 (off := 426) (by decide) (by decide) rfl rfl ?_
        exact lc_score hC hty htA htR hg hnw hX hLs hi hkn hI next
      · refine vx_tbl hC hdec 492 (off := 449) (by decide) (by decide) rfl rfl ?_
        exact lc_formed hC hty htA htR hg hnw hX hLs hi hkn hI next
      · refine vx_tbl hC hdec 515 (off := 472) (by decide) (by decide) rfl rfl ?_
        exact lc_date hC hty htA htR hg hnw hX hLs hi hkn hI next
      · refine vx_tblO hC hdec 539 (Or.inr (by decide)) rfl ?_
        exact Vx.widen (Nat.le_add_right _ _) (Nat.le_add_right _ _) (next ws hI)
set_option maxRecDepth 100000 in
set_option maxHeartbeats 4000000 in
theorem whole_start {p : Program} {e : Env} {s : State} {m : MethodId} {below : List Frame} {meth : Method} {c : Code} (l : Launch) {bs L : Nat} {xs : Nat → Int32} (hL : L ≤ 4097) (C0 : lw_At p s m meth c bs L xs) : W p l e room_1 s m #[Value.ref bs] below meth c s.heap [] 0 0 (lw_Z below #[Value.ref bs] s) (entryFrame m ([Value.ref bs] : List Value).toArray 4) := by
  obtain ⟨hx, hb, hr, hml, hown, hts, hXs, hbl, hlocks, hgv⟩ := id C0
  obtain ⟨D, tys, tc, tcA, tcR, hK, hty, htA, htR⟩ := law_K hts
  obtain ⟨K, hg⟩ := law_F (A := fun q => s.heap.size ≤ q) hgv hts (fun a ha => Nat.not_le.mpr ha)
  have hC : Cx p s m #[Value.ref bs] c code 4 "OriginDeskLaw" (yw y_Dk_clear b_Dk_clear 1 none) D cls tys (fun q => s.heap.size ≤ q) tc := ⟨hx, hb, hml, hown, (fun w hw => by
    rcases List.mem_cons.mp hw with rfl | z
    · exact law_gw hts _ wm_Dk_clear.2.1
    · exact law_gw hts w z), hK, fun q h => h, hty⟩
  have hX : va_T .int bs L (fun j => .int (xs j)) (fun q => s.heap.size ≤ q) s s.heap := by
    obtain ⟨scr, h1, h2, h3, h4, h5⟩ := hXs
    exact ⟨scr, h1, h2, h3, Nat.le_of_eq h4.symm, by rw [h4], h5, Nat.not_le.mpr hbl⟩
  have hE : vx_EN code (fun _ _ _ _ => False) (Vx p l e room_1 s m #[Value.ref bs] below meth c 4 D cls (fun q => s.heap.size ≤ q) (lw_Z below #[Value.ref bs] s)) := fun _ _ _ _ _ _ h => h.elim
  have hFt : vx_Ft "OriginDeskLaw" (yw y_Dk_clear b_Dk_clear 1 none) cls cty [] := fun q h => by cases h
  have hini : false = true → meth.name = "<init>" := fun h => by cases h
  have key : Vx p l e room_1 s m #[Value.ref bs] below meth c 4 D cls (fun q => s.heap.size ≤ q) (lw_Z below #[Value.ref bs] s) 0 [(0, .ref bs)] [] [] 0 0 := by
    refine vx_gon hC hFt hini hE jc_Lw_law 0 16 (by decide) rfl ?_
    refine sx_new hC (ci := 8) rfl wk_Lw_7 wn_Dk wz_Dk (fs := [.null, .int 0, .null, .null, .null, .null, .null, .null, .null]) (fun j hj => by rcases (show j = 0 ∨ j = 1 ∨ j = 2 ∨ j = 3 ∨ j = 4 ∨ j = 5 ∨ j = 6 ∨ j = 7 ∨ j = 8 by omega) with rfl | rfl | rfl | rfl | rfl | rfl | rfl | rfl | rfl <;> rfl) ⟨by decide, by decide⟩ (fun h9 => ?_)
    refine And.intro rfl ?_
    refine calls0 hC (c_Lw_cell l D tys tc hty bs L xs hL 0 (by decide)) hX wm_Lw_cell wl_Lw_9 wt_Lw_cell ⟨by decide, by decide⟩ rfl rfl (Nat.le_of_ble_eq_true rfl) ⟨by decide, by decide⟩ (fun r' hp => ?_)
    subst hp
    refine sx_ord (sx_callI (wr := []) (wc := [(h9, .inr (8, [.null, .int 0, .null, .null, .null, .null, .null, .null, .null]))]) hC (c_Dk_init l D tys tc hty h9 (if 0 < L then xs 0 else 0) tcA tcR htA htR) (cw_I2 wm_Dk_init wl_Lw_15 wi_Dk_init rfl hC.2.2.2.2.1 ⟨by decide, by decide⟩) [0] [] rfl rfl rfl rfl (by decide) (vx_ro (wc := [(h9, .inr (8, [.null, .int 0, .null, .null, .null, .null, .null, .null, .null]))]) (ro_and nkF_ro (ro_and csF_ro (ro_and arF_ro aoF_ro))) hC.2.2.2.2.2.2.1 ⟨law_nk hts, gt_cs hg, law_ar hts⟩ [0] rfl) rfl rfl (Nat.le_of_ble_eq_true rfl) ⟨by decide, by decide⟩ (fun r' w' hp => ?_))
    obtain ⟨rfl, b, ro, v9, rfl, rfl⟩ := hp
    refine ⟨[0, 1, 2, 12, 3, 4, 5, 6, 7, 8, 9, 10, 11, 13, 15, 16, 18, 19, 21, 32, 34, 22, 24, 25, 26, 27, 28, 29, 30, 31, 14, 17, 20, 33, 23], [dkC b (nI ((([] : List Rp)).length)), (b 1, .inl (tcR, 4, .inr (.inr (.inr (.inr (fun _ => none)))))), (b 2, .inr (5, [.int 0, .ref (b 24), .ref (b 23)])), (b 23, .inl (tc 0, 8, .inl (fun _ => 0))), (b 24, .inl (tcA, 8, .inr (.inr (.inr (.inr (fun G => some (ro G))))))), (ro 0, .inl (tc 0, 96, .inl ((fun _ _ => 0) 0))), (ro 1, .inl (tc 0, 96, .inl ((fun _ _ => 0) 1))), (ro 2, .inl (tc 0, 96, .inl ((fun _ _ => 0) 2))), (ro 3, .inl (tc 0, 96, .inl ((fun _ _ => 0) 3))), (ro 4, .inl (tc 0, 96, .inl ((fun _ _ => 0) 4))), (ro 5, .inl (tc 0, 96, .inl ((fun _ _ => 0) 5))), (ro 6, .inl (tc 0, 96, .inl ((fun _ _ => 0) 6))), (ro 7, .inl (tc 0, 96, .inl ((fun _ _ => 0) 7))), (b 3, .inr (0, [.ref ((b 30, 0, zf [], fun _ => 0) : RSt).1, .int (((b 30, 0, zf [], fun _ => 0) : RSt).2.2.1 0), .int (((b 30, 0, zf [], fun _ => 0) : RSt).2.2.1 1), .ref (b 13), .int (nI ((b 30, 0, zf [], fun _ => 0) : RSt).2.1), .int (((b 30, 0, zf [], fun _ => 0) : RSt).2.2.1 2), .int (((b 30, 0, zf [], fun _ => 0) : RSt).2.2.1 3), .int (((b 30, 0, zf [], fun _ => 0) : RSt).2.2.1 4), .int (((b 30, 0, zf [], fun _ => 0) : RSt).2.2.1 5), .int (((b 30, 0, zf [], fun _ => 0) : RSt).2.2.1 6)])), (b 13, .inl (tc 0, 96, .inl ((b 30, 0, zf [], fun _ => 0) : RSt).2.2.2)), (b 4, .inr (1, [.ref ((b 31, 0, zf [], fun _ => 0) : RSt).1, .int (((b 31, 0, zf [], fun _ => 0) : RSt).2.2.1 0), .int (((b 31, 0, zf [], fun _ => 0) : RSt).2.2.1 1), .ref (b 14), .int (nI ((b 31, 0, zf [], fun _ => 0) : RSt).2.1), .int (((b 31, 0, zf [], fun _ => 0) : RSt).2.2.1 2), .int (((b 31, 0, zf [], fun _ => 0) : RSt).2.2.1 3)])), (b 14, .inl (tc 0, 96, .inl ((b 31, 0, zf [], fun _ => 0) : RSt).2.2.2)), (b 5, .inr (2, [.ref ((b 32, 0, zf [], fun _ => 0) : RSt).1, .int (((b 32, 0, zf [], fun _ => 0) : RSt).2.2.1 0), .int (((b 32, 0, zf [], fun _ => 0) : RSt).2.2.1 1), .ref (b 15), .int (nI ((b 32, 0, zf [], fun _ => 0) : RSt).2.1), .int (((b 32, 0, zf [], fun _ => 0) : RSt).2.2.1 2), .int (((b 32, 0, zf [], fun _ => 0) : RSt).2.2.1 3), .int (((b 32, 0, zf [], fun _ => 0) : RSt).2.2.1 4)])), (b 15, .inl (tc 0, 96, .inl ((b 32, 0, zf [], fun _ => 0) : RSt).2.2.2)), (b 6, .inr (3, [.ref ((b 33, 0, zf [], fun _ => 0) : RSt).1, .int (((b 33, 0, zf [], fun _ => 0) : RSt).2.2.1 0), .int (((b 33, 0, zf [], fun _ => 0) : RSt).2.2.1 1), .ref (b 16), .int (nI ((b 33, 0, zf [], fun _ => 0) : RSt).2.1), .int (nI (yrN (nowN (if 0 < L then xs 0 else 0)) + 50)), .int (((b 33, 0, zf [], fun _ => 0) : RSt).2.2.1 2), .int (((b 33, 0, zf [], fun _ => 0) : RSt).2.2.1 3), .int (((b 33, 0, zf [], fun _ => 0) : RSt).2.2.1 4), .int (((b 33, 0, zf [], fun _ => 0) : RSt).2.2.1 5)])), (b 16, .inl (tc 0, 96, .inl ((b 33, 0, zf [], fun _ => 0) : RSt).2.2.2)), (b 7, .inr (4, [.ref ((b 34, 0, zf [], fun _ => 0) : RSt).1, .int (((b 34, 0, zf [], fun _ => 0) : RSt).2.2.1 0), .int (((b 34, 0, zf [], fun _ => 0) : RSt).2.2.1 1), .ref (b 17), .int (nI ((b 34, 0, zf [], fun _ => 0) : RSt).2.1), .ref (b 18), .ref (b 19), .int (((b 34, 0, zf [], fun _ => 0) : RSt).2.2.1 2), .int (nI ([] : List (Nat × Nat)).length)])), (b 17, .inl (tc 0, 96, .inl ((b 34, 0, zf [], fun _ => 0) : RSt).2.2.2)), (b 18, .inl (tc 0, 4, .inl (fun _ => 0))), (b 19, .inl (tc 0, 4, .inl (fun _ => 0))), (b 8, .inr (6, [.int (-1), sjV (none : Option (Nat × Nat × Nat)), .int (nI (lnS (-1) (sjN (none : Option (Nat × Nat × Nat))) ([] : List (Nat × Nat)))), .int (nI ([] : List (Nat × Nat)).length), .ref (b 20), .ref (b 21), .int (bI false), .ref (b 22)])), (b 20, .inl (tc 0, 4, .inl (fun _ => 0))), (b 21, .inl (tc 0, 4, .inl (fun _ => 0))), (b 22, .inr (11, [.ref v9, .int 0, .int 0, .int (nI ([] : List Nat).length)])), (v9, .inl (tc 1, 16, .inl (fun _ => 0))), (b 30, .inl (tc 0, 0, .inl (fun _ => 0))), (b 31, .inl (tc 0, 0, .inl (fun _ => 0))), (b 32, .inl (tc 0, 0, .inl (fun _ => 0))), (b 33, .inl (tc 0, 0, .inl (fun _ => 0))), (b 34, .inl (tc 0, 0, .inl (fun _ => 0)))], by decide +kernel, rfl, ?_⟩
    refine sx_new hC (ci := 9) rfl wk_Lw_18 wn_Mo wz_Mo (fs := [.long 0, .int 0, .null, .null, .null, .null, .null, .null, .int 0, .null, .null, .int 0, .int 0, .int 0, .int 0, .int 0, .int 0, .int 0, .int 0, .int 0, .int 0, .null, .null, .int 0, .int 0, .int 0, .int 0, .int 0, .null, .null, .null]) (fun j hj => by rcases (show j = 0 ∨ j = 1 ∨ j = 2 ∨ j = 3 ∨ j = 4 ∨ j = 5 ∨ j = 6 ∨ j = 7 ∨ j = 8 ∨ j = 9 ∨ j = 10 ∨ j = 11 ∨ j = 12 ∨ j = 13 ∨ j = 14 ∨ j = 15 ∨ j = 16 ∨ j = 17 ∨ j = 18 ∨ j = 19 ∨ j = 20 ∨ j = 21 ∨ j = 22 ∨ j = 23 ∨ j = 24 ∨ j = 25 ∨ j = 26 ∨ j = 27 ∨ j = 28 ∨ j = 29 ∨ j = 30 by omega) with rfl | rfl | rfl | rfl | rfl | rfl | rfl | rfl | rfl | rfl | rfl | rfl | rfl | rfl | rfl | rfl | rfl | rfl | rfl | rfl | rfl | rfl | rfl | rfl | rfl | rfl | rfl | rfl | rfl | rfl | rfl <;> rfl) ⟨by decide, by decide⟩ (fun hm => ?_)
    refine And.intro rfl ?_
    refine calls0 hC (c_Lw_cell l D tys tc hty bs L xs hL 0 (by decide)) hX wm_Lw_cell wl_Lw_9 wt_Lw_cell ⟨by decide, by decide⟩ rfl rfl (Nat.le_of_ble_eq_true rfl) ⟨by decide, by decide⟩ (fun r' hp => ?_)
    subst hp
    refine sx_ord (sx_callI (wr := [dkC b (nI ((([] : List Rp)).length)), (b 1, .inl (tcR, 4, .inr (.inr (.inr (.inr (fun _ => none)))))), (b 2, .inr (5, [.int 0, .ref (b 24), .ref (b 23)])), (b 23, .inl (tc 0, 8, .inl (fun _ => 0))), (b 24, .inl (tcA, 8, .inr (.inr (.inr (.inr (fun G => some (ro G))))))), (ro 0, .inl (tc 0, 96, .inl ((fun _ _ => 0) 0))), (ro 1, .inl (tc 0, 96, .inl ((fun _ _ => 0) 1))), (ro 2, .inl (tc 0, 96, .inl ((fun _ _ => 0) 2))), (ro 3, .inl (tc 0, 96, .inl ((fun _ _ => 0) 3))), (ro 4, .inl (tc 0, 96, .inl ((fun _ _ => 0) 4))), (ro 5, .inl (tc 0, 96, .inl ((fun _ _ => 0) 5))), (ro 6, .inl (tc 0, 96, .inl ((fun _ _ => 0) 6))), (ro 7, .inl (tc 0, 96, .inl ((fun _ _ => 0) 7))), (b 3, .inr (0, [.ref ((b 30, 0, zf [], fun _ => 0) : RSt).1, .int (((b 30, 0, zf [], fun _ => 0) : RSt).2.2.1 0), .int (((b 30, 0, zf [], fun _ => 0) : RSt).2.2.1 1), .ref (b 13), .int (nI ((b 30, 0, zf [], fun _ => 0) : RSt).2.1), .int (((b 30, 0, zf [], fun _ => 0) : RSt).2.2.1 2), .int (((b 30, 0, zf [], fun _ => 0) : RSt).2.2.1 3), .int (((b 30, 0, zf [], fun _ => 0) : RSt).2.2.1 4), .int (((b 30, 0, zf [], fun _ => 0) : RSt).2.2.1 5), .int (((b 30, 0, zf [], fun _ => 0) : RSt).2.2.1 6)])), (b 13, .inl (tc 0, 96, .inl ((b 30, 0, zf [], fun _ => 0) : RSt).2.2.2)), (b 4, .inr (1, [.ref ((b 31, 0, zf [], fun _ => 0) : RSt).1, .int (((b 31, 0, zf [], fun _ => 0) : RSt).2.2.1 0), .int (((b 31, 0, zf [], fun _ => 0) : RSt).2.2.1 1), .ref (b 14), .int (nI ((b 31, 0, zf [], fun _ => 0) : RSt).2.1), .int (((b 31, 0, zf [], fun _ => 0) : RSt).2.2.1 2), .int (((b 31, 0, zf [], fun _ => 0) : RSt).2.2.1 3)])), (b 14, .inl (tc 0, 96, .inl ((b 31, 0, zf [], fun _ => 0) : RSt).2.2.2)), (b 5, .inr (2, [.ref ((b 32, 0, zf [], fun _ => 0) : RSt).1, .int (((b 32, 0, zf [], fun _ => 0) : RSt).2.2.1 0), .int (((b 32, 0, zf [], fun _ => 0) : RSt).2.2.1 1), .ref (b 15), .int (nI ((b 32, 0, zf [], fun _ => 0) : RSt).2.1), .int (((b 32, 0, zf [], fun _ => 0) : RSt).2.2.1 2), .int (((b 32, 0, zf [], fun _ => 0) : RSt).2.2.1 3), .int (((b 32, 0, zf [], fun _ => 0) : RSt).2.2.1 4)])), (b 15, .inl (tc 0, 96, .inl ((b 32, 0, zf [], fun _ => 0) : RSt).2.2.2)), (b 6, .inr (3, [.ref ((b 33, 0, zf [], fun _ => 0) : RSt).1, .int (((b 33, 0, zf [], fun _ => 0) : RSt).2.2.1 0), .int (((b 33, 0, zf [], fun _ => 0) : RSt).2.2.1 1), .ref (b 16), .int (nI ((b 33, 0, zf [], fun _ => 0) : RSt).2.1), .int (nI (yrN (nowN (if 0 < L then xs 0 else 0)) + 50)), .int (((b 33, 0, zf [], fun _ => 0) : RSt).2.2.1 2), .int (((b 33, 0, zf [], fun _ => 0) : RSt).2.2.1 3), .int (((b 33, 0, zf [], fun _ => 0) : RSt).2.2.1 4), .int (((b 33, 0, zf [], fun _ => 0) : RSt).2.2.1 5)])), (b 16, .inl (tc 0, 96, .inl ((b 33, 0, zf [], fun _ => 0) : RSt).2.2.2)), (b 7, .inr (4, [.ref ((b 34, 0, zf [], fun _ => 0) : RSt).1, .int (((b 34, 0, zf [], fun _ => 0) : RSt).2.2.1 0), .int (((b 34, 0, zf [], fun _ => 0) : RSt).2.2.1 1), .ref (b 17), .int (nI ((b 34, 0, zf [], fun _ => 0) : RSt).2.1), .ref (b 18), .ref (b 19), .int (((b 34, 0, zf [], fun _ => 0) : RSt).2.2.1 2), .int (nI ([] : List (Nat × Nat)).length)])), (b 17, .inl (tc 0, 96, .inl ((b 34, 0, zf [], fun _ => 0) : RSt).2.2.2)), (b 18, .inl (tc 0, 4, .inl (fun _ => 0))), (b 19, .inl (tc 0, 4, .inl (fun _ => 0))), (b 8, .inr (6, [.int (-1), sjV (none : Option (Nat × Nat × Nat)), .int (nI (lnS (-1) (sjN (none : Option (Nat × Nat × Nat))) ([] : List (Nat × Nat)))), .int (nI ([] : List (Nat × Nat)).length), .ref (b 20), .ref (b 21), .int (bI false), .ref (b 22)])), (b 20, .inl (tc 0, 4, .inl (fun _ => 0))), (b 21, .inl (tc 0, 4, .inl (fun _ => 0))), (b 22, .inr (11, [.ref v9, .int 0, .int 0, .int (nI ([] : List Nat).length)])), (v9, .inl (tc 1, 16, .inl (fun _ => 0))), (b 30, .inl (tc 0, 0, .inl (fun _ => 0))), (b 31, .inl (tc 0, 0, .inl (fun _ => 0))), (b 32, .inl (tc 0, 0, .inl (fun _ => 0))), (b 33, .inl (tc 0, 0, .inl (fun _ => 0))), (b 34, .inl (tc 0, 0, .inl (fun _ => 0)))]) (wc := [(hm, .inr (9, [.long 0, .int 0, .null, .null, .null, .null, .null, .null, .int 0, .null, .null, .int 0, .int 0, .int 0, .int 0, .int 0, .int 0, .int 0, .int 0, .int 0, .int 0, .null, .null, .int 0, .int 0, .int 0, .int 0, .int 0, .null, .null, .null]))]) hC (c_Mo_init l D tys tc hty hm (if 0 < L then xs 0 else 0)) (cw_I2 wm_Mo_init wl_Lw_20 wi_Mo_init rfl hC.2.2.2.2.1 ⟨by decide, by decide⟩) [35] [0, 1, 2, 3, 4, 5, 6, 7, 8, 9, 10, 11, 12, 13, 14, 15, 16, 17, 18, 19, 20, 21, 22, 23, 24, 25, 26, 27, 28, 29, 30, 31, 32, 33, 34] rfl rfl (by decide +kernel) (by decide +kernel) (by decide +kernel) (fun _ _ _ _ _ => trivial) rfl rfl (Nat.le_of_ble_eq_true rfl) ⟨by decide, by decide⟩ (fun r' w' hp => ?_))
    obtain ⟨rfl, ar, rfl⟩ := hp
    refine ⟨[35, 36, 37, 38, 39, 40, 41, 42, 43, 44, 45, 46, 47, 48, 0, 1, 2, 3, 4, 5, 6, 7, 8, 9, 10, 11, 12, 13, 14, 15, 16, 17, 18, 19, 20, 21, 22, 23, 24, 25, 26, 27, 28, 29, 30, 31, 32, 33, 34], (LW tc tcA tcR b ro hm ar (nowN (if 0 < L then xs 0 else 0)) (0) (fun _ => none) (0) (fun _ => 0) (fun _ _ => 0) ((b 30, 0, zf [], fun _ => 0) : RSt) ((b 31, 0, zf [], fun _ => 0) : RSt) ((b 32, 0, zf [], fun _ => 0) : RSt) ((b 33, 0, zf [], fun _ => 0) : RSt) ((b 34, 0, zf [], fun _ => 0) : RSt) ([] : List (Nat × Nat)) (fun _ => 0) (fun _ => 0) (-1) (none : Option (Nat × Nat × Nat)) (false) ([] : List (Nat × Nat)) (fun _ => 0) (fun _ => 0) (v9) (0) ([] : List Nat) (16) (fun _ => 0) (fun k => if k = 23 ∨ k = 24 then (-1 : Int32) else 0) (fun _ _ => 0) (fun p => if p = 13 then moA else fun _ => 0)), by decide +kernel, rfl, ?_⟩
    refine Vx.subL (lv' := [(0, .ref bs), (1, .ref (b 0)), (2, .ref hm), (3, .int (nI 1))]) [3, 2, 1, 0] rfl ?_
    refine Vx.widen (k2 := 60 + 41 * 0) (n2 := 5000 + 3700 * 0) (Nat.le_of_ble_eq_true rfl) (Nat.le_of_ble_eq_true rfl) ?_
    exact law_loop hC hr hlocks (fun q h => h) hty htA htR hg (law_nw hts) hX hL _ 0 _ rfl (by decide) ⟨(fun _ => 0), (fun _ => []), ([] : List Re), ([] : List Rp), (fun _ => none), 0, (fun _ => 0), (fun _ _ => 0), ((b 30, 0, zf [], fun _ => 0) : RSt), ((b 31, 0, zf [], fun _ => 0) : RSt), ((b 32, 0, zf [], fun _ => 0) : RSt), ((b 33, 0, zf [], fun _ => 0) : RSt), ((b 34, 0, zf [], fun _ => 0) : RSt), ([] : List (Nat × Nat)), (fun _ => 0), (fun _ => 0), (-1), (none : Option (Nat × Nat × Nat)), false, ([] : List (Nat × Nat)), (fun _ => 0), (fun _ => 0), v9, 0, ([] : List Nat), 16, (fun _ => 0), (fun k => if k = 23 ∨ k = 24 then (-1 : Int32) else 0), (fun _ _ => 0), (fun p => if p = 13 then moA else fun _ => 0), rfl, ⟨Nat.zero_le _, (fun r h => by cases h)⟩, (fun G hG => ⟨rfl, ⟨Nat.zero_le _, (fun x9 h9 => by cases h9)⟩, (fun j hj => absurd hj (Nat.not_lt_zero _))⟩), ⟨Or.inl rfl, Or.inl rfl, Or.inl rfl, Or.inl rfl, Or.inl rfl⟩, ⟨⟨Nat.zero_le _, (fun j hj => absurd hj (Nat.not_lt_zero _))⟩, ⟨Nat.zero_le _, (fun j hj => absurd hj (Nat.not_lt_zero _))⟩, an_0⟩, ⟨⟨(fun x9 h9 => by cases h9), (fun j hj => absurd hj (Nat.not_lt_zero _))⟩, (fun _ => (by decide : fits .byte (.int 0) = true)), by decide, by decide, by decide⟩, ⟨(fun x9 h9 => by cases h9), (fun j hj => absurd hj (Nat.not_lt_zero _)), (fun u hu => by cases hu)⟩, mo_R (nw := 0) (nowN_le _), mo_A⟩
  have hl := lv_entry ([.ref bs]) (n := 4) (Nat.le_of_ble_eq_true rfl)
  rw [lg_entry_eq]
  exact key s.heap [] _ (fun k q h => by simp at h) ⟨fun i j p q h => by simp at h, fun k q h => by simp at h⟩ va_S.rf hl
-- ===== YOUR PART ENDS =====
set_option maxHeartbeats 4000000 in
theorem lw_walk (l : Launch) (b : Addr) (xs : List Int32) : MetFree l x (headSpec (Jvm.Cond.code x code maxLocals ret :: tables_1) room_1) (lw_P b xs) (fun _ _ _ _ _ => True) lw_Q := by
  refine MetFree.of_bodyS (code := code) (maxLocals := maxLocals) (ret := ret) (by decide) ?_ ?_
  · intro args s m h hn
    obtain ⟨meth, c, h1, h2, h3, h4, h5, h6, -, -⟩ := Cond.code_spec hn (atoms_spec (ws := Jvm.Cond.code x code maxLocals ret :: tables_1) h _ List.mem_cons_self)
    exact ⟨meth, c, h1, h2, h3, h4, h5, h6⟩
  · intro p e s m args below meth c s₁ B hml0 hP _
    obtain ⟨rfl, hx, hbd, hgv⟩ := hP
    obtain ⟨scr, harrAt, hlist, hof, hsmall⟩ := hx
    obtain ⟨hcb, hkn, -, -⟩ := State.arrayAt?_spec harrAt
    have hown : s.vm.findClass R_law = some m.cls := findClass_of_methodNamed B.named
    have hts0 : ∀ c ∈ (Jvm.Cond.code x code maxLocals ret :: tables_1), c.before #[Value.ref b] s = true := atoms_spec (ws := Jvm.Cond.code x code maxLocals ret :: tables_1) B.pre
    have hts : ∀ w ∈ lw_tbl, w.before #[Value.ref b] s = true := k2_hts_sels lw_privs (fun w hw => hts0 w (List.mem_cons_of_mem _ hw)) lw_privs_ok
    have hml : c.maxLocals = 4 := B.maxLocals_eq (hts0 _ List.mem_cons_self)
    have X₀ : Stand p l e room_1 s m #[Value.ref b] below meth c s₁ [] 0 0 := Stand.of_body B
    have hh0 : s₁.heap = s.heap := by rw [B.state]; rfl
    have hsz : scr.slots.size = xs.length := by rw [← Array.length_toList, hlist, List.length_map]
    have hval : ∀ j : Nat, j < xs.length → scr.slots[j]? = some (.int (xs.getD j 0)) := fun j hj => by
      rw [← Array.getElem?_toList, hlist]
      simp [hj]
    have hbl : b < s.heap.size := (Array.getElem?_eq_some_iff.mp hcb).1
    have hX : va_X b xs.length (fun j => xs.getD j 0) s s.heap := ⟨scr, hcb, hof, hkn, hsz, hval⟩
    have K : W p l e room_1 s m #[Value.ref b] below meth c s₁.heap [] 0 0 (lw_Z below #[Value.ref b] s) (entryFrame m ([Value.ref b] : List Value).toArray 4) := by
      rw [hh0]
      exact whole_start l hbd ⟨B.exec, B.bytes, B.returns, hml, hown, hts, hX, hbl, B.notSynchronized, hgv⟩
    obtain ⟨t, a1, o, b1, b2, b3⟩ := K s₁ rfl X₀
    exact ⟨t, o, a1, b1, b2, b3⟩
theorem lw_pre_spec {args : Array Value} {s : State} (h : (Jvm.Cond.and given_1 narrow_1).before args s = true) (hr : rest_1_c.before args s = true) : ∃ (b : Addr) (xs : List Int32), lw_P b xs args s := by
  have hs := flat_of_before _ h
  have hq := flat_of_before _ hr
  have hc : (Cond.count 1).before args s = true := hs _ (by decide +kernel)
  have harr : (Cond.arrayOf (.arg 0) .int).before args s = true := hs _ (by decide +kernel)
  have hle : (Cond.le (.length (.arg 0)) (.int 4097)).before args s = true := hs _ (by decide +kernel)
  have hlen : (Cond.isInt (.length (.arg 0))).before args s = true := hq _ (by decide +kernel)
  have hall : (Cond.all (.arg 0) (.isInt (.elem (.arg 0) (.index 0)))).before args s = true := hq _ (by decide +kernel)
  obtain ⟨b, xs, hb, hx⟩ := State.ints_of_pre rfl harr hlen hall
  have hsm : xs.length < 2 ^ 31 := hx.choose_spec.2.2.2
  have hev : (Term.length (.arg 0)).eval args s none [] s = some (.int xs.length.toInt32) := hx.length_eval hb
  have hv := Cond.le_ints hev (show (Term.int 4097).eval args s none [] s = some (.int 4097) from rfl)
  have hd : xs.length.toInt32 ≤ 4097 := by
    simpa [Cond.before, Cond.holds, hv] using hle
  have hN : xs.length ≤ 4097 := (Int32.ofNat_le_ofNat hsm (by decide)).mp (show Int32.ofNat xs.length ≤ Int32.ofNat 4097 from hd)
  exact ⟨b, xs, Cond.one_arg hc (show args[0]? = some (.ref b) from hb), hx, hN, h⟩
theorem lw_comes (l : Launch) : Comes l x (Jvm.Cond.code x code maxLocals ret :: tables_1) room_1 (fun tb e args s => Calls_1 tb e args s ∧ rest_1 tb e args s ∧ Pre_1 tb e args s)
    (fun _ _ args s o t => lw_Q args s o t) := by
  intro p e ha hc hk s m args below hf hfit hheap happ hpre
  obtain ⟨b, xs, hP⟩ := lw_pre_spec hpre.2.2 hpre.2.1
  obtain ⟨k, o, h1, h2, h3, hQ⟩ := lw_walk l b xs p e ha hc hk s m args below hf ((Spec.applies_iff_loose hf).mp happ).1 hP trivial
  exact ⟨k, o, h1, h2, h3, hQ⟩
theorem lw_frame {s t : State} {o : Outcome} {args : Array Value} (h : Framed s o t [] 772315 6785302) :
    Framed s o t (fieldLocs frame_1_writes args s ++ arrayLocs frame_1_arrays args s ++ staticLocs frame_1_statics s) 772315 6785302 := h
theorem lw_limb (L : Cond) (hL : ∀ (args : Array Value) (s t : State), L.after args s (.returned (some (.int 1))) t = true) :
    ArmFor flags0 classFile x code maxLocals ret World_1 tables_1 room_1 Calls_1 rest_1 Pre_1
      (fun tb e a s o t => postC L tb e a s o t ∧ Framed s o t (fieldLocs frame_1_writes a s ++ arrayLocs frame_1_arrays a s ++ staticLocs frame_1_statics s) 772315 6785302) := by
  intro l _ _ _ p e ha hc hk s m args below hf hfit hheap happ hpre
  obtain ⟨k, o, h1, h2, h3, rfl, hF⟩ := lw_comes l p e ha hc hk s m args below hf hfit hheap happ hpre
  exact ⟨k, _, h1, h2, h3, hL args s _, lw_frame hF⟩
theorem i_vc : Claimed_1_1 ∧ Claimed_1_2 := ⟨lw_limb limb_1_1 (fun args s t => by simp [limb_1_1, Cond.after, Cond.holds, Cond.value]), lw_limb limb_1_2 (fun args s t => Cond.after_iff.mpr (by
  first | (rw [show limb_1_2 = Cond.eq .result (.int 1) from rfl, Cond.eq_ints (x := 1) (y := 1) rfl rfl]; simp; done) | (simp [limb_1_2, Cond.value, Term.eval]; done)))⟩
end
