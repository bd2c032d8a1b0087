/-! THE JDK's StringBuilder: lists and words, by program out of the Statement's bytes (wip/whole/gen/p77.py) -/
abbrev b_Sb_init1 : ByteArray := prog_22_method_1_code
def y_Sb_init1 : MethodName := ⟨"java/lang/StringBuilder", "<init>", "()V"⟩
def j_Sb_init1 : wq_J := [(.aload_n 0, (0, 0, 0, 0, 0)), (.bipush 16, (0, 0, 0, 16, 0)), (.invokespecial 1, (0, 0, 0, 0, 0)), (.return_, (0, 0, 0, 0, 0))]
theorem jc_Sb_init1 : wq_c b_Sb_init1 1 j_Sb_init1 0 = true := by decide +kernel
theorem wm_Sb_init1 : wm y_Sb_init1 b_Sb_init1 1 none 0 := ⟨gw_i 10 (by decide +kernel) (by decide +kernel), gw_i 182 (by decide +kernel) (by decide +kernel), ⟨by decide, by decide⟩, by decide +kernel⟩
theorem wi_Sb_init1 : Cond.instanceMethod y_Sb_init1 ∈ gw := gw_i 181 (by decide +kernel) (by decide +kernel)
abbrev b_Ab_init2 : ByteArray := prog_15_method_2_code
def y_Ab_init2 : MethodName := ⟨"java/lang/AbstractStringBuilder", "<init>", "(I)V"⟩
def j_Ab_init2 : wq_J := [(.aload_n 0, (0, 0, 0, 0, 0)), (.invokespecial 3, (0, 0, 0, 0, 0)), (.getstatic 18, (2, 0, 0, 0, 0)), (.ifCond .eq 18, (0, 25, 0, 0, 0)), (.aload_n 0, (0, 0, 0, 0, 0)), (.iload_n 1, (0, 0, 0, 0, 0)), (.newarray .byte, (0, 0, 0, 0, 0)), (.putfield 15, (1, 0, 0, 0, 0)), (.aload_n 0, (0, 0, 0, 0, 0)), (.iconst 0, (0, 0, 0, 0, 0)), (.putfield 22, (1, 0, 1, 0, 0)), (.goto 16, (0, 38, 0, 0, 0)), (.aload_n 0, (0, 0, 0, 0, 0)), (.iload_n 1, (0, 0, 0, 0, 0)), (.invokestatic 26, (0, 0, 0, 0, 0)), (.putfield 15, (1, 0, 0, 0, 0)), (.aload_n 0, (0, 0, 0, 0, 0)), (.iconst 1, (0, 0, 0, 1, 0)), (.putfield 22, (1, 0, 1, 0, 0)), (.return_, (0, 0, 0, 0, 0))]
theorem jc_Ab_init2 : wq_c b_Ab_init2 2 j_Ab_init2 0 = true := by decide +kernel
theorem wm_Ab_init2 : wm y_Ab_init2 b_Ab_init2 2 none 1 := ⟨gw_i 9 (by decide +kernel) (by decide +kernel), gw_i 185 (by decide +kernel) (by decide +kernel), ⟨by decide, by decide⟩, by decide +kernel⟩
theorem wi_Ab_init2 : Cond.instanceMethod y_Ab_init2 ∈ gw := gw_i 184 (by decide +kernel) (by decide +kernel)
abbrev b_Sb_append14 : ByteArray := prog_22_method_14_code
def y_Sb_append14 : MethodName := ⟨"java/lang/StringBuilder", "append", "(C)Ljava/lang/StringBuilder;"⟩
def j_Sb_append14 : wq_J := [(.aload_n 0, (0, 0, 0, 0, 0)), (.iload_n 1, (0, 0, 0, 0, 0)), (.invokespecial 50, (0, 0, 0, 0, 0)), (.pop, (0, 0, 0, 0, 0)), (.aload_n 0, (0, 0, 0, 0, 0)), (.areturn, (0, 0, 0, 0, 0))]
theorem jc_Sb_append14 : wq_c b_Sb_append14 2 j_Sb_append14 0 = true := by decide +kernel
theorem wm_Sb_append14 : wm y_Sb_append14 b_Sb_append14 2 (some (.object "java/lang/StringBuilder")) 1 := ⟨gw_i 10 (by decide +kernel) (by decide +kernel), gw_i 329 (by decide +kernel) (by decide +kernel), ⟨by decide, by decide⟩, by decide +kernel⟩
theorem wi_Sb_append14 : Cond.instanceMethod y_Sb_append14 ∈ gw := gw_i 327 (by decide +kernel) (by decide +kernel)
theorem ws_Sb_Sb_append14 : Cond.selects "java/lang/StringBuilder" y_Sb_append14 y_Sb_append14 ∈ gw := gw_i 328 (by decide +kernel) (by decide +kernel)
abbrev b_Ab_append31 : ByteArray := prog_15_method_31_code
def y_Ab_append31 : MethodName := ⟨"java/lang/AbstractStringBuilder", "append", "(C)Ljava/lang/AbstractStringBuilder;"⟩
def j_Ab_append31 : wq_J := [(.aload_n 0, (0, 0, 0, 0, 0)), (.aload_n 0, (0, 0, 0, 0, 0)), (.getfield 79, (1, 0, 3, 0, 0)), (.iconst 1, (0, 0, 0, 1, 0)), (.iadd, (0, 0, 0, 0, 0)), (.invokevirtual 100, (0, 0, 0, 0, 0)), (.aload_n 0, (0, 0, 0, 0, 0)), (.invokevirtual 83, (0, 0, 0, 0, 0)), (.ifCond .eq 31, (0, 45, 0, 0, 0)), (.iload_n 1, (0, 0, 0, 0, 0)), (.invokestatic 191, (0, 0, 0, 0, 0)), (.ifCond .eq 24, (0, 45, 0, 0, 0)), (.aload_n 0, (0, 0, 0, 0, 0)), (.getfield 15, (1, 0, 0, 0, 0)), (.aload_n 0, (0, 0, 0, 0, 0)), (.dup, (0, 0, 0, 0, 0)), (.getfield 79, (1, 0, 3, 0, 0)), (.dup_x1, (0, 0, 0, 0, 0)), (.iconst 1, (0, 0, 0, 1, 0)), (.iadd, (0, 0, 0, 0, 0)), (.putfield 79, (1, 0, 3, 0, 0)), (.iload_n 1, (0, 0, 0, 0, 0)), (.i2b, (0, 0, 0, 0, 0)), (.bastore, (1, 1, 0, 0, 0)), (.goto 33, (0, 75, 0, 0, 0)), (.aload_n 0, (0, 0, 0, 0, 0)), (.invokevirtual 83, (0, 0, 0, 0, 0)), (.ifCond .eq 7, (0, 56, 0, 0, 0)), (.aload_n 0, (0, 0, 0, 0, 0)), (.invokevirtual 195, (0, 0, 0, 0, 0)), (.aload_n 0, (0, 0, 0, 0, 0)), (.getfield 15, (1, 0, 0, 0, 0)), (.aload_n 0, (0, 0, 0, 0, 0)), (.dup, (0, 0, 0, 0, 0)), (.getfield 79, (1, 0, 3, 0, 0)), (.dup_x1, (0, 0, 0, 0, 0)), (.iconst 1, (0, 0, 0, 1, 0)), (.iadd, (0, 0, 0, 0, 0)), (.putfield 79, (1, 0, 3, 0, 0)), (.iload_n 1, (0, 0, 0, 0, 0)), (.invokestatic 197, (0, 0, 0, 0, 0)), (.aload_n 0, (0, 0, 0, 0, 0)), (.areturn, (0, 0, 0, 0, 0))]
theorem jc_Ab_append31 : wq_c b_Ab_append31 2 j_Ab_append31 0 = true := by decide +kernel
theorem wm_Ab_append31 : wm y_Ab_append31 b_Ab_append31 2 (some (.object "java/lang/AbstractStringBuilder")) 1 := ⟨gw_i 9 (by decide +kernel) (by decide +kernel), gw_i 332 (by decide +kernel) (by decide +kernel), ⟨by decide, by decide⟩, by decide +kernel⟩
theorem wi_Ab_append31 : Cond.instanceMethod y_Ab_append31 ∈ gw := gw_i 331 (by decide +kernel) (by decide +kernel)
theorem wsm_Ab_append31 : Cond.sameMethod y_Ab_append31.cls y_Ab_append31.cls y_Ab_append31.name y_Ab_append31.desc ∈ gw := gw_i 1650 (by decide +kernel) (by decide +kernel)
abbrev b_Ab_ensureCapacityInternal9 : ByteArray := prog_15_method_9_code
def y_Ab_ensureCapacityInternal9 : MethodName := ⟨"java/lang/AbstractStringBuilder", "ensureCapacityInternal", "(I)V"⟩
def j_Ab_ensureCapacityInternal9 : wq_J := [(.aload_n 0, (0, 0, 0, 0, 0)), (.getfield 15, (1, 0, 0, 0, 0)), (.arraylength, (1, 1, 0, 0, 0)), (.aload_n 0, (0, 0, 0, 0, 0)), (.getfield 22, (1, 0, 1, 0, 0)), (.ishr, (0, 0, 0, 0, 0)), (.istore_n 2, (0, 0, 0, 0, 0)), (.iload_n 1, (0, 0, 0, 0, 0)), (.iload_n 2, (0, 0, 0, 0, 0)), (.isub, (0, 0, 0, 0, 0)), (.ifCond .le 24, (0, 38, 0, 0, 0)), (.aload_n 0, (0, 0, 0, 0, 0)), (.aload_n 0, (0, 0, 0, 0, 0)), (.getfield 15, (1, 0, 0, 0, 0)), (.aload_n 0, (0, 0, 0, 0, 0)), (.iload_n 1, (0, 0, 0, 0, 0)), (.invokevirtual 104, (0, 0, 0, 0, 0)), (.aload_n 0, (0, 0, 0, 0, 0)), (.getfield 22, (1, 0, 1, 0, 0)), (.ishl, (0, 0, 0, 0, 0)), (.invokestatic 108, (0, 0, 0, 0, 0)), (.putfield 15, (1, 0, 0, 0, 0)), (.return_, (0, 0, 0, 0, 0))]
theorem jc_Ab_ensureCapacityInternal9 : wq_c b_Ab_ensureCapacityInternal9 3 j_Ab_ensureCapacityInternal9 0 = true := by decide +kernel
theorem wm_Ab_ensureCapacityInternal9 : wm y_Ab_ensureCapacityInternal9 b_Ab_ensureCapacityInternal9 3 none 1 := ⟨gw_i 9 (by decide +kernel) (by decide +kernel), gw_i 336 (by decide +kernel) (by decide +kernel), ⟨by decide, by decide⟩, by decide +kernel⟩
theorem wi_Ab_ensureCapacityInternal9 : Cond.instanceMethod y_Ab_ensureCapacityInternal9 ∈ gw := gw_i 335 (by decide +kernel) (by decide +kernel)
theorem wsm_Ab_ensureCapacityInternal9 : Cond.sameMethod y_Ab_ensureCapacityInternal9.cls y_Ab_ensureCapacityInternal9.cls y_Ab_ensureCapacityInternal9.name y_Ab_ensureCapacityInternal9.desc ∈ gw := gw_i 1651 (by decide +kernel) (by decide +kernel)
theorem ws_Sb_Ab_ensureCapacityInternal9 : Cond.selects "java/lang/StringBuilder" y_Ab_ensureCapacityInternal9 y_Ab_ensureCapacityInternal9 ∈ gw := gw_say (List.mem_of_getElem? (i := 5) rfl) (by decide +kernel)
abbrev b_Ab_newCapacity10 : ByteArray := prog_15_method_10_code
def y_Ab_newCapacity10 : MethodName := ⟨"java/lang/AbstractStringBuilder", "newCapacity", "(I)I"⟩
def j_Ab_newCapacity10 : wq_J := [(.aload_n 0, (0, 0, 0, 0, 0)), (.getfield 15, (1, 0, 0, 0, 0)), (.arraylength, (1, 1, 0, 0, 0)), (.istore_n 2, (0, 0, 0, 0, 0)), (.iload_n 1, (0, 0, 0, 0, 0)), (.aload_n 0, (0, 0, 0, 0, 0)), (.getfield 22, (1, 0, 1, 0, 0)), (.ishl, (0, 0, 0, 0, 0)), (.istore_n 3, (0, 0, 0, 0, 0)), (.iload_n 3, (0, 0, 0, 0, 0)), (.iload_n 2, (0, 0, 0, 0, 0)), (.isub, (0, 0, 0, 0, 0)), (.istore 4, (0, 0, 0, 0, 0)), (.iload_n 2, (0, 0, 0, 0, 0)), (.iload 4, (0, 0, 0, 0, 0)), (.iload_n 2, (0, 0, 0, 0, 0)), (.iconst 2, (0, 0, 0, 2, 0)), (.aload_n 0, (0, 0, 0, 0, 0)), (.getfield 22, (1, 0, 1, 0, 0)), (.ishl, (0, 0, 0, 0, 0)), (.iadd, (0, 0, 0, 0, 0)), (.invokestatic 114, (0, 0, 0, 0, 0)), (.istore 5, (0, 0, 0, 0, 0)), (.iload 5, (0, 0, 0, 0, 0)), (.ldc 39, (1, 0, 0, 2147483647, 0)), (.if_icmp .ne 13, (0, 51, 0, 0, 0)), (.new 120, (0, 0, 0, 0, 0)), (.dup, (0, 0, 0, 0, 0)), (.ldc 122, (2, 0, 0, 0, 0)), (.invokespecial 124, (0, 0, 0, 0, 0)), (.athrow, (0, 0, 0, 0, 0)), (.iload 5, (0, 0, 0, 0, 0)), (.aload_n 0, (0, 0, 0, 0, 0)), (.getfield 22, (1, 0, 1, 0, 0)), (.ishr, (0, 0, 0, 0, 0)), (.ireturn, (0, 0, 0, 0, 0))]
theorem jc_Ab_newCapacity10 : wq_c b_Ab_newCapacity10 6 j_Ab_newCapacity10 0 = true := by decide +kernel
theorem wm_Ab_newCapacity10 : wm y_Ab_newCapacity10 b_Ab_newCapacity10 6 (some .int) 1 := ⟨gw_i 9 (by decide +kernel) (by decide +kernel), gw_i 340 (by decide +kernel) (by decide +kernel), ⟨by decide, by decide⟩, by decide +kernel⟩
theorem wi_Ab_newCapacity10 : Cond.instanceMethod y_Ab_newCapacity10 ∈ gw := gw_i 339 (by decide +kernel) (by decide +kernel)
theorem wsm_Ab_newCapacity10 : Cond.sameMethod y_Ab_newCapacity10.cls y_Ab_newCapacity10.cls y_Ab_newCapacity10.name y_Ab_newCapacity10.desc ∈ gw := gw_i 1652 (by decide +kernel) (by decide +kernel)
theorem ws_Sb_Ab_newCapacity10 : Cond.selects "java/lang/StringBuilder" y_Ab_newCapacity10 y_Ab_newCapacity10 ∈ gw := gw_say (List.mem_of_getElem? (i := 6) rfl) (by decide +kernel)
abbrev b_Su_newLength27 : ByteArray := prog_27_method_27_code
def y_Su_newLength27 : MethodName := ⟨"jdk/internal/util/ArraysSupport", "newLength", "(III)I"⟩
def j_Su_newLength27 : wq_J := [(.iload_n 0, (0, 0, 0, 0, 0)), (.iload_n 1, (0, 0, 0, 0, 0)), (.iload_n 2, (0, 0, 0, 0, 0)), (.invokestatic 194, (0, 0, 0, 0, 0)), (.iadd, (0, 0, 0, 0, 0)), (.istore_n 3, (0, 0, 0, 0, 0)), (.iconst 0, (0, 0, 0, 0, 0)), (.iload_n 3, (0, 0, 0, 0, 0)), (.if_icmp .ge 11, (0, 21, 0, 0, 0)), (.iload_n 3, (0, 0, 0, 0, 0)), (.ldc 200, (1, 0, 0, 2147483639, 0)), (.if_icmp .gt 5, (0, 21, 0, 0, 0)), (.iload_n 3, (0, 0, 0, 0, 0)), (.ireturn, (0, 0, 0, 0, 0)), (.iload_n 0, (0, 0, 0, 0, 0)), (.iload_n 1, (0, 0, 0, 0, 0)), (.invokestatic 201, (0, 0, 0, 0, 0)), (.ireturn, (0, 0, 0, 0, 0))]
theorem jc_Su_newLength27 : wq_c b_Su_newLength27 4 j_Su_newLength27 0 = true := by decide +kernel
theorem wm_Su_newLength27 : wm y_Su_newLength27 b_Su_newLength27 4 (some .int) 3 := ⟨gw_i 16 (by decide +kernel) (by decide +kernel), gw_i 343 (by decide +kernel) (by decide +kernel), ⟨by decide, by decide⟩, by decide +kernel⟩
theorem wt_Su_newLength27 : Cond.static y_Su_newLength27 ∈ gw := gw_i 342 (by decide +kernel) (by decide +kernel)
abbrev b_Ar_copyOf121 : ByteArray := prog_26_method_121_code
def y_Ar_copyOf121 : MethodName := ⟨"java/util/Arrays", "copyOf", "([BI)[B"⟩
def j_Ar_copyOf121 : wq_J := [(.iload_n 1, (0, 0, 0, 0, 0)), (.aload_n 0, (0, 0, 0, 0, 0)), (.arraylength, (1, 0, 0, 0, 0)), (.if_icmp .ne 11, (0, 14, 0, 0, 0)), (.aload_n 0, (0, 0, 0, 0, 0)), (.invokevirtual 310, (0, 0, 0, 0, 0)), (.checkcast 311, (0, 0, 0, 0, 0)), (.areturn, (0, 0, 0, 0, 0)), (.iload_n 1, (0, 0, 0, 0, 0)), (.newarray .byte, (0, 0, 0, 0, 0)), (.astore_n 2, (0, 0, 0, 0, 0)), (.aload_n 0, (0, 0, 0, 0, 0)), (.iconst 0, (0, 0, 0, 0, 0)), (.aload_n 2, (0, 0, 0, 0, 0)), (.iconst 0, (0, 0, 0, 0, 0)), (.aload_n 0, (0, 0, 0, 0, 0)), (.arraylength, (1, 0, 0, 0, 0)), (.iload_n 1, (0, 0, 0, 0, 0)), (.invokestatic 304, (0, 0, 0, 0, 0)), (.invokestatic 150, (0, 0, 0, 0, 0)), (.aload_n 2, (0, 0, 0, 0, 0)), (.areturn, (0, 0, 0, 0, 0))]
theorem jc_Ar_copyOf121 : wq_c b_Ar_copyOf121 3 j_Ar_copyOf121 0 = true := by decide +kernel
theorem wm_Ar_copyOf121 : wm y_Ar_copyOf121 b_Ar_copyOf121 3 (some (.array .byte)) 2 := ⟨gw_i 18 (by decide +kernel) (by decide +kernel), gw_i 354 (by decide +kernel) (by decide +kernel), ⟨by decide, by decide⟩, by decide +kernel⟩
theorem wt_Ar_copyOf121 : Cond.static y_Ar_copyOf121 ∈ gw := gw_i 353 (by decide +kernel) (by decide +kernel)
abbrev b_Ab_isLatin168 : ByteArray := prog_15_method_68_code
def y_Ab_isLatin168 : MethodName := ⟨"java/lang/AbstractStringBuilder", "isLatin1", "()Z"⟩
def j_Ab_isLatin168 : wq_J := [(.getstatic 18, (2, 0, 0, 0, 0)), (.ifCond .eq 14, (0, 17, 0, 0, 0)), (.aload_n 0, (0, 0, 0, 0, 0)), (.getfield 22, (1, 0, 1, 0, 0)), (.ifCond .ne 7, (0, 17, 0, 0, 0)), (.iconst 1, (0, 0, 0, 1, 0)), (.goto 4, (0, 18, 0, 0, 0)), (.iconst 0, (0, 0, 0, 0, 0)), (.ireturn, (0, 0, 0, 0, 0))]
theorem jc_Ab_isLatin168 : wq_c b_Ab_isLatin168 1 j_Ab_isLatin168 0 = true := by decide +kernel
theorem wm_Ab_isLatin168 : wm y_Ab_isLatin168 b_Ab_isLatin168 1 (some .boolean) 0 := ⟨gw_i 9 (by decide +kernel) (by decide +kernel), gw_i 372 (by decide +kernel) (by decide +kernel), ⟨by decide, by decide⟩, by decide +kernel⟩
theorem wi_Ab_isLatin168 : Cond.instanceMethod y_Ab_isLatin168 ∈ gw := gw_i 369 (by decide +kernel) (by decide +kernel)
theorem wsm_Ab_isLatin168 : Cond.sameMethod y_Ab_isLatin168.cls y_Ab_isLatin168.cls y_Ab_isLatin168.name y_Ab_isLatin168.desc ∈ gw := gw_i 370 (by decide +kernel) (by decide +kernel)
theorem ws_Sb_Ab_isLatin168 : Cond.selects "java/lang/StringBuilder" y_Ab_isLatin168 y_Ab_isLatin168 ∈ gw := gw_i 371 (by decide +kernel) (by decide +kernel)
abbrev b_L1_canEncode3 : ByteArray := prog_23_method_3_code
def y_L1_canEncode3 : MethodName := ⟨"java/lang/StringLatin1", "canEncode", "(C)Z"⟩
def j_L1_canEncode3 : wq_J := [(.iload_n 0, (0, 0, 0, 0, 0)), (.sipush 255, (0, 0, 0, 255, 0)), (.if_icmp .gt 7, (0, 11, 0, 0, 0)), (.iconst 1, (0, 0, 0, 1, 0)), (.goto 4, (0, 12, 0, 0, 0)), (.iconst 0, (0, 0, 0, 0, 0)), (.ireturn, (0, 0, 0, 0, 0))]
theorem jc_L1_canEncode3 : wq_c b_L1_canEncode3 1 j_L1_canEncode3 0 = true := by decide +kernel
theorem wm_L1_canEncode3 : wm y_L1_canEncode3 b_L1_canEncode3 1 (some .boolean) 1 := ⟨gw_i 20 (by decide +kernel) (by decide +kernel), gw_i 375 (by decide +kernel) (by decide +kernel), ⟨by decide, by decide⟩, by decide +kernel⟩
theorem wt_L1_canEncode3 : Cond.static y_L1_canEncode3 ∈ gw := gw_i 374 (by decide +kernel) (by decide +kernel)
abbrev b_Sb_append15 : ByteArray := prog_22_method_15_code
def y_Sb_append15 : MethodName := ⟨"java/lang/StringBuilder", "append", "(I)Ljava/lang/StringBuilder;"⟩
def j_Sb_append15 : wq_J := [(.aload_n 0, (0, 0, 0, 0, 0)), (.iload_n 1, (0, 0, 0, 0, 0)), (.invokespecial 53, (0, 0, 0, 0, 0)), (.pop, (0, 0, 0, 0, 0)), (.aload_n 0, (0, 0, 0, 0, 0)), (.areturn, (0, 0, 0, 0, 0))]
theorem jc_Sb_append15 : wq_c b_Sb_append15 2 j_Sb_append15 0 = true := by decide +kernel
theorem wm_Sb_append15 : wm y_Sb_append15 b_Sb_append15 2 (some (.object "java/lang/StringBuilder")) 1 := ⟨gw_i 10 (by decide +kernel) (by decide +kernel), gw_i 424 (by decide +kernel) (by decide +kernel), ⟨by decide, by decide⟩, by decide +kernel⟩
theorem wi_Sb_append15 : Cond.instanceMethod y_Sb_append15 ∈ gw := gw_i 422 (by decide +kernel) (by decide +kernel)
theorem ws_Sb_Sb_append15 : Cond.selects "java/lang/StringBuilder" y_Sb_append15 y_Sb_append15 ∈ gw := gw_i 423 (by decide +kernel) (by decide +kernel)
abbrev b_Ab_append32 : ByteArray := prog_15_method_32_code
def y_Ab_append32 : MethodName := ⟨"java/lang/AbstractStringBuilder", "append", "(I)Ljava/lang/AbstractStringBuilder;"⟩
def j_Ab_append32 : wq_J := [(.aload_n 0, (0, 0, 0, 0, 0)), (.getfield 79, (1, 0, 3, 0, 0)), (.istore_n 2, (0, 0, 0, 0, 0)), (.iload_n 2, (0, 0, 0, 0, 0)), (.iload_n 1, (0, 0, 0, 0, 0)), (.invokestatic 245, (0, 0, 0, 0, 0)), (.iadd, (0, 0, 0, 0, 0)), (.istore_n 3, (0, 0, 0, 0, 0)), (.aload_n 0, (0, 0, 0, 0, 0)), (.iload_n 3, (0, 0, 0, 0, 0)), (.invokevirtual 100, (0, 0, 0, 0, 0)), (.aload_n 0, (0, 0, 0, 0, 0)), (.invokevirtual 83, (0, 0, 0, 0, 0)), (.ifCond .eq 16, (0, 37, 0, 0, 0)), (.iload_n 1, (0, 0, 0, 0, 0)), (.iload_n 3, (0, 0, 0, 0, 0)), (.aload_n 0, (0, 0, 0, 0, 0)), (.getfield 15, (1, 0, 0, 0, 0)), (.invokestatic 248, (0, 0, 0, 0, 0)), (.pop, (0, 0, 0, 0, 0)), (.goto 14, (0, 48, 0, 0, 0)), (.iload_n 1, (0, 0, 0, 0, 0)), (.iload_n 2, (0, 0, 0, 0, 0)), (.iload_n 3, (0, 0, 0, 0, 0)), (.aload_n 0, (0, 0, 0, 0, 0)), (.getfield 15, (1, 0, 0, 0, 0)), (.invokestatic 251, (0, 0, 0, 0, 0)), (.pop, (0, 0, 0, 0, 0)), (.aload_n 0, (0, 0, 0, 0, 0)), (.iload_n 3, (0, 0, 0, 0, 0)), (.putfield 79, (1, 0, 3, 0, 0)), (.aload_n 0, (0, 0, 0, 0, 0)), (.areturn, (0, 0, 0, 0, 0))]
theorem jc_Ab_append32 : wq_c b_Ab_append32 4 j_Ab_append32 0 = true := by decide +kernel
theorem wm_Ab_append32 : wm y_Ab_append32 b_Ab_append32 4 (some (.object "java/lang/AbstractStringBuilder")) 1 := ⟨gw_i 9 (by decide +kernel) (by decide +kernel), gw_i 427 (by decide +kernel) (by decide +kernel), ⟨by decide, by decide⟩, by decide +kernel⟩
theorem wi_Ab_append32 : Cond.instanceMethod y_Ab_append32 ∈ gw := gw_i 426 (by decide +kernel) (by decide +kernel)
theorem wsm_Ab_append32 : Cond.sameMethod y_Ab_append32.cls y_Ab_append32.cls y_Ab_append32.name y_Ab_append32.desc ∈ gw := gw_i 1654 (by decide +kernel) (by decide +kernel)
abbrev b_In_stringSize13 : ByteArray := prog_19_method_13_code
def y_In_stringSize13 : MethodName := ⟨"java/lang/Integer", "stringSize", "(I)I"⟩
def j_In_stringSize13 : wq_J := [(.iconst 1, (0, 0, 0, 1, 0)), (.istore_n 1, (0, 0, 0, 0, 0)), (.iload_n 0, (0, 0, 0, 0, 0)), (.ifCond .lt 8, (0, 11, 0, 0, 0)), (.iconst 0, (0, 0, 0, 0, 0)), (.istore_n 1, (0, 0, 0, 0, 0)), (.iload_n 0, (0, 0, 0, 0, 0)), (.ineg, (0, 0, 0, 0, 0)), (.istore_n 0, (0, 0, 0, 0, 0)), (.bipush (-10), (0, 0, 0, (-10), 0)), (.istore_n 2, (0, 0, 0, 0, 0)), (.iconst 1, (0, 0, 0, 1, 0)), (.istore_n 3, (0, 0, 0, 0, 0)), (.iload_n 3, (0, 0, 0, 0, 0)), (.bipush 10, (0, 0, 0, 10, 0)), (.if_icmp .ge 23, (0, 42, 0, 0, 0)), (.iload_n 0, (0, 0, 0, 0, 0)), (.iload_n 2, (0, 0, 0, 0, 0)), (.if_icmp .le 7, (0, 31, 0, 0, 0)), (.iload_n 3, (0, 0, 0, 0, 0)), (.iload_n 1, (0, 0, 0, 0, 0)), (.iadd, (0, 0, 0, 0, 0)), (.ireturn, (0, 0, 0, 0, 0)), (.bipush 10, (0, 0, 0, 10, 0)), (.iload_n 2, (0, 0, 0, 0, 0)), (.imul, (0, 0, 0, 0, 0)), (.istore_n 2, (0, 0, 0, 0, 0)), (.iinc 3 1, (0, 0, 0, 1, 0)), (.goto (-23), (0, 16, 0, 0, 0)), (.bipush 10, (0, 0, 0, 10, 0)), (.iload_n 1, (0, 0, 0, 0, 0)), (.iadd, (0, 0, 0, 0, 0)), (.ireturn, (0, 0, 0, 0, 0))]
theorem jc_In_stringSize13 : wq_c b_In_stringSize13 4 j_In_stringSize13 0 = true := by decide +kernel
theorem wm_In_stringSize13 : wm y_In_stringSize13 b_In_stringSize13 4 (some .int) 1 := ⟨gw_i 22 (by decide +kernel) (by decide +kernel), gw_i 430 (by decide +kernel) (by decide +kernel), ⟨by decide, by decide⟩, by decide +kernel⟩
theorem wt_In_stringSize13 : Cond.static y_In_stringSize13 ∈ gw := gw_i 429 (by decide +kernel) (by decide +kernel)
abbrev b_In_getChars12 : ByteArray := prog_19_method_12_code
def y_In_getChars12 : MethodName := ⟨"java/lang/Integer", "getChars", "(II[B)I"⟩
def j_In_getChars12 : wq_J := [(.iload_n 1, (0, 0, 0, 0, 0)), (.istore 5, (0, 0, 0, 0, 0)), (.iload_n 0, (0, 0, 0, 0, 0)), (.ifCond .ge 7, (0, 11, 0, 0, 0)), (.iconst 1, (0, 0, 0, 1, 0)), (.goto 4, (0, 12, 0, 0, 0)), (.iconst 0, (0, 0, 0, 0, 0)), (.istore 6, (0, 0, 0, 0, 0)), (.iload 6, (0, 0, 0, 0, 0)), (.ifCond .ne 6, (0, 22, 0, 0, 0)), (.iload_n 0, (0, 0, 0, 0, 0)), (.ineg, (0, 0, 0, 0, 0)), (.istore_n 0, (0, 0, 0, 0, 0)), (.iload_n 0, (0, 0, 0, 0, 0)), (.bipush (-100), (0, 0, 0, (-100), 0)), (.if_icmp .gt 47, (0, 72, 0, 0, 0)), (.iload_n 0, (0, 0, 0, 0, 0)), (.bipush 100, (0, 0, 0, 100, 0)), (.idiv, (0, 0, 0, 0, 0)), (.istore_n 3, (0, 0, 0, 0, 0)), (.iload_n 3, (0, 0, 0, 0, 0)), (.bipush 100, (0, 0, 0, 100, 0)), (.imul, (0, 0, 0, 0, 0)), (.iload_n 0, (0, 0, 0, 0, 0)), (.isub, (0, 0, 0, 0, 0)), (.istore 4, (0, 0, 0, 0, 0)), (.iload_n 3, (0, 0, 0, 0, 0)), (.istore_n 0, (0, 0, 0, 0, 0)), (.aload_n 2, (0, 0, 0, 0, 0)), (.iinc 5 (-1), (0, 0, 0, (-1), 0)), (.iload 5, (0, 0, 0, 0, 0)), (.getstatic 83, (2, 0, 0, 0, 0)), (.iload 4, (0, 0, 0, 0, 0)), (.baload, (2, 0, 0, 0, 0)), (.bastore, (1, 0, 0, 0, 0)), (.aload_n 2, (0, 0, 0, 0, 0)), (.iinc 5 (-1), (0, 0, 0, (-1), 0)), (.iload 5, (0, 0, 0, 0, 0)), (.getstatic 87, (2, 0, 0, 0, 0)), (.iload 4, (0, 0, 0, 0, 0)), (.baload, (2, 0, 0, 0, 0)), (.bastore, (1, 0, 0, 0, 0)), (.goto (-47), (0, 22, 0, 0, 0)), (.aload_n 2, (0, 0, 0, 0, 0)), (.iinc 5 (-1), (0, 0, 0, (-1), 0)), (.iload 5, (0, 0, 0, 0, 0)), (.getstatic 83, (2, 0, 0, 0, 0)), (.iload_n 0, (0, 0, 0, 0, 0)), (.ineg, (0, 0, 0, 0, 0)), (.baload, (2, 0, 0, 0, 0)), (.bastore, (1, 0, 0, 0, 0)), (.iload_n 0, (0, 0, 0, 0, 0)), (.bipush (-9), (0, 0, 0, (-9), 0)), (.if_icmp .ge 16, (0, 104, 0, 0, 0)), (.aload_n 2, (0, 0, 0, 0, 0)), (.iinc 5 (-1), (0, 0, 0, (-1), 0)), (.iload 5, (0, 0, 0, 0, 0)), (.getstatic 87, (2, 0, 0, 0, 0)), (.iload_n 0, (0, 0, 0, 0, 0)), (.ineg, (0, 0, 0, 0, 0)), (.baload, (2, 0, 0, 0, 0)), (.bastore, (1, 0, 0, 0, 0)), (.iload 6, (0, 0, 0, 0, 0)), (.ifCond .eq 12, (0, 118, 0, 0, 0)), (.aload_n 2, (0, 0, 0, 0, 0)), (.iinc 5 (-1), (0, 0, 0, (-1), 0)), (.iload 5, (0, 0, 0, 0, 0)), (.bipush 45, (0, 0, 0, 45, 0)), (.bastore, (1, 0, 0, 0, 0)), (.iload 5, (0, 0, 0, 0, 0)), (.ireturn, (0, 0, 0, 0, 0))]
theorem jc_In_getChars12 : wq_c b_In_getChars12 7 j_In_getChars12 0 = true := by decide +kernel
theorem wm_In_getChars12 : wm y_In_getChars12 b_In_getChars12 7 (some .int) 3 := ⟨gw_i 22 (by decide +kernel) (by decide +kernel), gw_i 433 (by decide +kernel) (by decide +kernel), ⟨by decide, by decide⟩, by decide +kernel⟩
theorem wt_In_getChars12 : Cond.static y_In_getChars12 ∈ gw := gw_i 432 (by decide +kernel) (by decide +kernel)
abbrev b_Sb_toString42 : ByteArray := prog_22_method_42_code
def y_Sb_toString42 : MethodName := ⟨"java/lang/StringBuilder", "toString", "()Ljava/lang/String;"⟩
def j_Sb_toString42 : wq_J := [(.new 18, (0, 0, 0, 0, 0)), (.dup, (0, 0, 0, 0, 0)), (.aload_n 0, (0, 0, 0, 0, 0)), (.invokespecial 137, (0, 0, 0, 0, 0)), (.areturn, (0, 0, 0, 0, 0))]
theorem jc_Sb_toString42 : wq_c b_Sb_toString42 1 j_Sb_toString42 0 = true := by decide +kernel
theorem wm_Sb_toString42 : wm y_Sb_toString42 b_Sb_toString42 1 (some (.object "java/lang/String")) 0 := ⟨gw_i 10 (by decide +kernel) (by decide +kernel), gw_i 458 (by decide +kernel) (by decide +kernel), ⟨by decide, by decide⟩, by decide +kernel⟩
theorem wi_Sb_toString42 : Cond.instanceMethod y_Sb_toString42 ∈ gw := gw_i 456 (by decide +kernel) (by decide +kernel)
theorem ws_Sb_Sb_toString42 : Cond.selects "java/lang/StringBuilder" y_Sb_toString42 y_Sb_toString42 ∈ gw := gw_i 457 (by decide +kernel) (by decide +kernel)
abbrev b_St_init53 : ByteArray := prog_21_method_53_code
def y_St_init53 : MethodName := ⟨"java/lang/String", "<init>", "(Ljava/lang/StringBuilder;)V"⟩
def j_St_init53 : wq_J := [(.aload_n 0, (0, 0, 0, 0, 0)), (.aload_n 1, (0, 0, 0, 0, 0)), (.aconst_null, (0, 0, 0, 0, 0)), (.invokespecial 489, (0, 0, 0, 0, 0)), (.return_, (0, 0, 0, 0, 0))]
theorem jc_St_init53 : wq_c b_St_init53 2 j_St_init53 0 = true := by decide +kernel
theorem wm_St_init53 : wm y_St_init53 b_St_init53 2 none 1 := ⟨gw_i 11 (by decide +kernel) (by decide +kernel), gw_i 463 (by decide +kernel) (by decide +kernel), ⟨by decide, by decide⟩, by decide +kernel⟩
theorem wi_St_init53 : Cond.instanceMethod y_St_init53 ∈ gw := gw_i 462 (by decide +kernel) (by decide +kernel)
abbrev b_St_init150 : ByteArray := prog_21_method_150_code
def y_St_init150 : MethodName := ⟨"java/lang/String", "<init>", "(Ljava/lang/AbstractStringBuilder;Ljava/lang/Void;)V"⟩
def j_St_init150 : wq_J := [(.aload_n 0, (0, 0, 0, 0, 0)), (.invokespecial 1, (0, 0, 0, 0, 0)), (.aload_n 1, (0, 0, 0, 0, 0)), (.invokevirtual 552, (0, 0, 0, 0, 0)), (.astore_n 3, (0, 0, 0, 0, 0)), (.aload_n 1, (0, 0, 0, 0, 0)), (.invokevirtual 549, (0, 0, 0, 0, 0)), (.istore 4, (0, 0, 0, 0, 0)), (.aload_n 1, (0, 0, 0, 0, 0)), (.invokevirtual 1047, (0, 0, 0, 0, 0)), (.ifCond .eq 22, (0, 41, 0, 0, 0)), (.aload_n 0, (0, 0, 0, 0, 0)), (.iconst 0, (0, 0, 0, 0, 0)), (.putfield 15, (3, 0, 1, 0, 0)), (.aload_n 0, (0, 0, 0, 0, 0)), (.aload_n 3, (0, 0, 0, 0, 0)), (.iconst 0, (0, 0, 0, 0, 0)), (.iload 4, (0, 0, 0, 0, 0)), (.invokestatic 54, (0, 0, 0, 0, 0)), (.putfield 9, (3, 0, 0, 0, 0)), (.goto 59, (0, 97, 0, 0, 0)), (.getstatic 38, (2, 0, 0, 0, 0)), (.ifCond .eq 35, (0, 79, 0, 0, 0)), (.aload_n 1, (0, 0, 0, 0, 0)), (.getfield 1048, (2, 0, 0, 0, 0)), (.ifCond .eq 28, (0, 79, 0, 0, 0)), (.aload_n 0, (0, 0, 0, 0, 0)), (.aload_n 3, (0, 0, 0, 0, 0)), (.iconst 0, (0, 0, 0, 0, 0)), (.iload 4, (0, 0, 0, 0, 0)), (.invokestatic 1051, (0, 0, 0, 0, 0)), (.putfield 9, (3, 0, 0, 0, 0)), (.aload_n 0, (0, 0, 0, 0, 0)), (.aload_n 0, (0, 0, 0, 0, 0)), (.getfield 9, (1, 0, 0, 0, 0)), (.iload 4, (0, 0, 0, 0, 0)), (.invokestatic 47, (0, 0, 0, 0, 0)), (.putfield 15, (3, 0, 1, 0, 0)), (.return_, (0, 0, 0, 0, 0)), (.aload_n 0, (0, 0, 0, 0, 0)), (.iconst 1, (0, 0, 0, 1, 0)), (.putfield 15, (3, 0, 1, 0, 0)), (.aload_n 0, (0, 0, 0, 0, 0)), (.aload_n 3, (0, 0, 0, 0, 0)), (.iconst 0, (0, 0, 0, 0, 0)), (.iload 4, (0, 0, 0, 0, 0)), (.iconst 1, (0, 0, 0, 1, 0)), (.ishl, (0, 0, 0, 0, 0)), (.invokestatic 54, (0, 0, 0, 0, 0)), (.putfield 9, (3, 0, 0, 0, 0)), (.return_, (0, 0, 0, 0, 0))]
theorem jc_St_init150 : wq_c b_St_init150 5 j_St_init150 0 = true := by decide +kernel
theorem wm_St_init150 : wm y_St_init150 b_St_init150 5 none 2 := ⟨gw_i 11 (by decide +kernel) (by decide +kernel), gw_i 466 (by decide +kernel) (by decide +kernel), ⟨by decide, by decide⟩, by decide +kernel⟩
theorem wi_St_init150 : Cond.instanceMethod y_St_init150 ∈ gw := gw_i 465 (by decide +kernel) (by decide +kernel)
abbrev b_Ab_getValue64 : ByteArray := prog_15_method_64_code
def y_Ab_getValue64 : MethodName := ⟨"java/lang/AbstractStringBuilder", "getValue", "()[B"⟩
def j_Ab_getValue64 : wq_J := [(.aload_n 0, (0, 0, 0, 0, 0)), (.getfield 15, (1, 0, 0, 0, 0)), (.areturn, (0, 0, 0, 0, 0))]
theorem jc_Ab_getValue64 : wq_c b_Ab_getValue64 1 j_Ab_getValue64 0 = true := by decide +kernel
theorem wm_Ab_getValue64 : wm y_Ab_getValue64 b_Ab_getValue64 1 (some (.array .byte)) 0 := ⟨gw_i 9 (by decide +kernel) (by decide +kernel), gw_i 472 (by decide +kernel) (by decide +kernel), ⟨by decide, by decide⟩, by decide +kernel⟩
theorem wi_Ab_getValue64 : Cond.instanceMethod y_Ab_getValue64 ∈ gw := gw_i 469 (by decide +kernel) (by decide +kernel)
theorem wsm_Ab_getValue64 : Cond.sameMethod y_Ab_getValue64.cls y_Ab_getValue64.cls y_Ab_getValue64.name y_Ab_getValue64.desc ∈ gw := gw_i 470 (by decide +kernel) (by decide +kernel)
theorem ws_Sb_Ab_getValue64 : Cond.selects "java/lang/StringBuilder" y_Ab_getValue64 y_Ab_getValue64 ∈ gw := gw_i 471 (by decide +kernel) (by decide +kernel)
abbrev b_Sb_length93 : ByteArray := prog_22_method_93_code
def y_Sb_length93 : MethodName := ⟨"java/lang/StringBuilder", "length", "()I"⟩
def j_Sb_length93 : wq_J := [(.aload_n 0, (0, 0, 0, 0, 0)), (.invokespecial 343, (0, 0, 0, 0, 0)), (.ireturn, (0, 0, 0, 0, 0))]
theorem jc_Sb_length93 : wq_c b_Sb_length93 1 j_Sb_length93 0 = true := by decide +kernel
theorem wm_Sb_length93 : wm y_Sb_length93 b_Sb_length93 1 (some .int) 0 := ⟨gw_i 10 (by decide +kernel) (by decide +kernel), gw_i 478 (by decide +kernel) (by decide +kernel), ⟨by decide, by decide⟩, by decide +kernel⟩
theorem wi_Sb_length93 : Cond.instanceMethod y_Sb_length93 ∈ gw := gw_i 477 (by decide +kernel) (by decide +kernel)
theorem ws_Sb_Sb_length93 : Cond.selects "java/lang/StringBuilder" y_Sb_length93 y_Sb_length93 ∈ gw := gw_i 1667 (by decide +kernel) (by decide +kernel)
abbrev b_Ab_length6 : ByteArray := prog_15_method_6_code
def y_Ab_length6 : MethodName := ⟨"java/lang/AbstractStringBuilder", "length", "()I"⟩
def j_Ab_length6 : wq_J := [(.aload_n 0, (0, 0, 0, 0, 0)), (.getfield 79, (1, 0, 3, 0, 0)), (.ireturn, (0, 0, 0, 0, 0))]
theorem jc_Ab_length6 : wq_c b_Ab_length6 1 j_Ab_length6 0 = true := by decide +kernel
theorem wm_Ab_length6 : wm y_Ab_length6 b_Ab_length6 1 (some .int) 0 := ⟨gw_i 9 (by decide +kernel) (by decide +kernel), gw_i 480 (by decide +kernel) (by decide +kernel), ⟨by decide, by decide⟩, by decide +kernel⟩
theorem wi_Ab_length6 : Cond.instanceMethod y_Ab_length6 ∈ gw := gw_i 474 (by decide +kernel) (by decide +kernel)
theorem wsm_Ab_length6 : Cond.sameMethod y_Ab_length6.cls y_Ab_length6.cls y_Ab_length6.name y_Ab_length6.desc ∈ gw := gw_i 475 (by decide +kernel) (by decide +kernel)
abbrev b_Ar_copyOfRange132 : ByteArray := prog_26_method_132_code
def y_Ar_copyOfRange132 : MethodName := ⟨"java/util/Arrays", "copyOfRange", "([BII)[B"⟩
def j_Ar_copyOfRange132 : wq_J := [(.iload_n 1, (0, 0, 0, 0, 0)), (.ifCond .ne 9, (0, 10, 0, 0, 0)), (.iload_n 2, (0, 0, 0, 0, 0)), (.aload_n 0, (0, 0, 0, 0, 0)), (.arraylength, (1, 0, 0, 0, 0)), (.if_icmp .eq 10, (0, 17, 0, 0, 0)), (.aload_n 0, (0, 0, 0, 0, 0)), (.iload_n 1, (0, 0, 0, 0, 0)), (.iload_n 2, (0, 0, 0, 0, 0)), (.invokestatic 339, (0, 0, 0, 0, 0)), (.areturn, (0, 0, 0, 0, 0)), (.aload_n 0, (0, 0, 0, 0, 0)), (.invokevirtual 310, (0, 0, 0, 0, 0)), (.checkcast 311, (0, 0, 0, 0, 0)), (.areturn, (0, 0, 0, 0, 0))]
theorem jc_Ar_copyOfRange132 : wq_c b_Ar_copyOfRange132 3 j_Ar_copyOfRange132 0 = true := by decide +kernel
theorem wm_Ar_copyOfRange132 : wm y_Ar_copyOfRange132 b_Ar_copyOfRange132 3 (some (.array .byte)) 3 := ⟨gw_i 18 (by decide +kernel) (by decide +kernel), gw_i 484 (by decide +kernel) (by decide +kernel), ⟨by decide, by decide⟩, by decide +kernel⟩
theorem wt_Ar_copyOfRange132 : Cond.static y_Ar_copyOfRange132 ∈ gw := gw_i 483 (by decide +kernel) (by decide +kernel)
abbrev b_Ar_copyOfRangeByte133 : ByteArray := prog_26_method_133_code
def y_Ar_copyOfRangeByte133 : MethodName := ⟨"java/util/Arrays", "copyOfRangeByte", "([BII)[B"⟩
def j_Ar_copyOfRangeByte133 : wq_J := [(.iload_n 1, (0, 0, 0, 0, 0)), (.iload_n 2, (0, 0, 0, 0, 0)), (.invokestatic 343, (0, 0, 0, 0, 0)), (.iload_n 2, (0, 0, 0, 0, 0)), (.iload_n 1, (0, 0, 0, 0, 0)), (.isub, (0, 0, 0, 0, 0)), (.istore_n 3, (0, 0, 0, 0, 0)), (.iload_n 3, (0, 0, 0, 0, 0)), (.newarray .byte, (0, 0, 0, 0, 0)), (.astore 4, (0, 0, 0, 0, 0)), (.aload_n 0, (0, 0, 0, 0, 0)), (.iload_n 1, (0, 0, 0, 0, 0)), (.aload 4, (0, 0, 0, 0, 0)), (.iconst 0, (0, 0, 0, 0, 0)), (.aload_n 0, (0, 0, 0, 0, 0)), (.arraylength, (1, 0, 0, 0, 0)), (.iload_n 1, (0, 0, 0, 0, 0)), (.isub, (0, 0, 0, 0, 0)), (.iload_n 3, (0, 0, 0, 0, 0)), (.invokestatic 304, (0, 0, 0, 0, 0)), (.invokestatic 150, (0, 0, 0, 0, 0)), (.aload 4, (0, 0, 0, 0, 0)), (.areturn, (0, 0, 0, 0, 0))]
theorem jc_Ar_copyOfRangeByte133 : wq_c b_Ar_copyOfRangeByte133 5 j_Ar_copyOfRangeByte133 0 = true := by decide +kernel
theorem wm_Ar_copyOfRangeByte133 : wm y_Ar_copyOfRangeByte133 b_Ar_copyOfRangeByte133 5 (some (.array .byte)) 3 := ⟨gw_i 18 (by decide +kernel) (by decide +kernel), gw_i 487 (by decide +kernel) (by decide +kernel), ⟨by decide, by decide⟩, by decide +kernel⟩
theorem wt_Ar_copyOfRangeByte133 : Cond.static y_Ar_copyOfRangeByte133 ∈ gw := gw_i 486 (by decide +kernel) (by decide +kernel)
abbrev b_Ar_checkLength131 : ByteArray := prog_26_method_131_code
def y_Ar_checkLength131 : MethodName := ⟨"java/util/Arrays", "checkLength", "(II)V"⟩
def j_Ar_checkLength131 : wq_J := [(.iload_n 1, (0, 0, 0, 0, 0)), (.iload_n 0, (0, 0, 0, 0, 0)), (.if_icmp .ge 35, (0, 37, 0, 0, 0)), (.new 43, (0, 0, 0, 0, 0)), (.dup, (0, 0, 0, 0, 0)), (.new 45, (0, 0, 0, 0, 0)), (.dup, (0, 0, 0, 0, 0)), (.invokespecial 47, (0, 0, 0, 0, 0)), (.iload_n 0, (0, 0, 0, 0, 0)), (.invokevirtual 54, (0, 0, 0, 0, 0)), (.ldc_w 337, (2, 0, 0, 0, 0)), (.invokevirtual 50, (0, 0, 0, 0, 0)), (.iload_n 1, (0, 0, 0, 0, 0)), (.invokevirtual 54, (0, 0, 0, 0, 0)), (.invokevirtual 61, (0, 0, 0, 0, 0)), (.invokespecial 65, (0, 0, 0, 0, 0)), (.athrow, (0, 0, 0, 0, 0)), (.return_, (0, 0, 0, 0, 0))]
theorem jc_Ar_checkLength131 : wq_c b_Ar_checkLength131 2 j_Ar_checkLength131 0 = true := by decide +kernel
theorem wm_Ar_checkLength131 : wm y_Ar_checkLength131 b_Ar_checkLength131 2 none 2 := ⟨gw_i 18 (by decide +kernel) (by decide +kernel), gw_i 490 (by decide +kernel) (by decide +kernel), ⟨by decide, by decide⟩, by decide +kernel⟩
theorem wt_Ar_checkLength131 : Cond.static y_Ar_checkLength131 ∈ gw := gw_i 489 (by decide +kernel) (by decide +kernel)
abbrev b_Sb_setLength89 : ByteArray := prog_22_method_89_code
def y_Sb_setLength89 : MethodName := ⟨"java/lang/StringBuilder", "setLength", "(I)V"⟩
def j_Sb_setLength89 : wq_J := [(.aload_n 0, (0, 0, 0, 0, 0)), (.iload_n 1, (0, 0, 0, 0, 0)), (.invokespecial 333, (0, 0, 0, 0, 0)), (.return_, (0, 0, 0, 0, 0))]
theorem jc_Sb_setLength89 : wq_c b_Sb_setLength89 2 j_Sb_setLength89 0 = true := by decide +kernel
theorem wm_Sb_setLength89 : wm y_Sb_setLength89 b_Sb_setLength89 2 none 1 := ⟨gw_i 10 (by decide +kernel) (by decide +kernel), gw_i 1065 (by decide +kernel) (by decide +kernel), ⟨by decide, by decide⟩, by decide +kernel⟩
theorem wi_Sb_setLength89 : Cond.instanceMethod y_Sb_setLength89 ∈ gw := gw_i 1063 (by decide +kernel) (by decide +kernel)
theorem ws_Sb_Sb_setLength89 : Cond.selects "java/lang/StringBuilder" y_Sb_setLength89 y_Sb_setLength89 ∈ gw := gw_i 1064 (by decide +kernel) (by decide +kernel)
abbrev b_Ab_setLength13 : ByteArray := prog_15_method_13_code
def y_Ab_setLength13 : MethodName := ⟨"java/lang/AbstractStringBuilder", "setLength", "(I)V"⟩
def j_Ab_setLength13 : wq_J := [(.iload_n 1, (0, 0, 0, 0, 0)), (.ifCond .ge 12, (0, 13, 0, 0, 0)), (.new 129, (0, 0, 0, 0, 0)), (.dup, (0, 0, 0, 0, 0)), (.iload_n 1, (0, 0, 0, 0, 0)), (.invokespecial 131, (0, 0, 0, 0, 0)), (.athrow, (0, 0, 0, 0, 0)), (.aload_n 0, (0, 0, 0, 0, 0)), (.iload_n 1, (0, 0, 0, 0, 0)), (.invokevirtual 100, (0, 0, 0, 0, 0)), (.aload_n 0, (0, 0, 0, 0, 0)), (.getfield 79, (1, 0, 3, 0, 0)), (.iload_n 1, (0, 0, 0, 0, 0)), (.if_icmp .ge 40, (0, 63, 0, 0, 0)), (.aload_n 0, (0, 0, 0, 0, 0)), (.invokevirtual 83, (0, 0, 0, 0, 0)), (.ifCond .eq 18, (0, 48, 0, 0, 0)), (.aload_n 0, (0, 0, 0, 0, 0)), (.getfield 15, (1, 0, 0, 0, 0)), (.aload_n 0, (0, 0, 0, 0, 0)), (.getfield 79, (1, 0, 3, 0, 0)), (.iload_n 1, (0, 0, 0, 0, 0)), (.invokestatic 133, (0, 0, 0, 0, 0)), (.goto 31, (0, 76, 0, 0, 0)), (.aload_n 0, (0, 0, 0, 0, 0)), (.getfield 15, (1, 0, 0, 0, 0)), (.aload_n 0, (0, 0, 0, 0, 0)), (.getfield 79, (1, 0, 3, 0, 0)), (.iload_n 1, (0, 0, 0, 0, 0)), (.invokestatic 137, (0, 0, 0, 0, 0)), (.goto 16, (0, 76, 0, 0, 0)), (.aload_n 0, (0, 0, 0, 0, 0)), (.getfield 79, (1, 0, 3, 0, 0)), (.iload_n 1, (0, 0, 0, 0, 0)), (.if_icmp .le 8, (0, 76, 0, 0, 0)), (.aload_n 0, (0, 0, 0, 0, 0)), (.iconst 1, (0, 0, 0, 1, 0)), (.putfield 73, (1, 0, 2, 0, 0)), (.aload_n 0, (0, 0, 0, 0, 0)), (.iload_n 1, (0, 0, 0, 0, 0)), (.putfield 79, (1, 0, 3, 0, 0)), (.return_, (0, 0, 0, 0, 0))]
theorem jc_Ab_setLength13 : wq_c b_Ab_setLength13 2 j_Ab_setLength13 0 = true := by decide +kernel
theorem wm_Ab_setLength13 : wm y_Ab_setLength13 b_Ab_setLength13 2 none 1 := ⟨gw_i 9 (by decide +kernel) (by decide +kernel), gw_i 1068 (by decide +kernel) (by decide +kernel), ⟨by decide, by decide⟩, by decide +kernel⟩
theorem wi_Ab_setLength13 : Cond.instanceMethod y_Ab_setLength13 ∈ gw := gw_i 1067 (by decide +kernel) (by decide +kernel)
theorem wsm_Ab_setLength13 : Cond.sameMethod y_Ab_setLength13.cls y_Ab_setLength13.cls y_Ab_setLength13.name y_Ab_setLength13.desc ∈ gw := gw_i 1662 (by decide +kernel) (by decide +kernel)
abbrev b_Sb_append7 : ByteArray := prog_22_method_7_code
def y_Sb_append7 : MethodName := ⟨"java/lang/StringBuilder", "append", "(Ljava/lang/String;)Ljava/lang/StringBuilder;"⟩
def j_Sb_append7 : wq_J := [(.aload_n 0, (0, 0, 0, 0, 0)), (.aload_n 1, (0, 0, 0, 0, 0)), (.invokespecial 29, (0, 0, 0, 0, 0)), (.pop, (0, 0, 0, 0, 0)), (.aload_n 0, (0, 0, 0, 0, 0)), (.areturn, (0, 0, 0, 0, 0))]
theorem jc_Sb_append7 : wq_c b_Sb_append7 2 j_Sb_append7 0 = true := by decide +kernel
theorem wm_Sb_append7 : wm y_Sb_append7 b_Sb_append7 2 (some (.object "java/lang/StringBuilder")) 1 := ⟨gw_i 10 (by decide +kernel) (by decide +kernel), gw_i 1086 (by decide +kernel) (by decide +kernel), ⟨by decide, by decide⟩, by decide +kernel⟩
theorem wi_Sb_append7 : Cond.instanceMethod y_Sb_append7 ∈ gw := gw_i 1084 (by decide +kernel) (by decide +kernel)
theorem ws_Sb_Sb_append7 : Cond.selects "java/lang/StringBuilder" y_Sb_append7 y_Sb_append7 ∈ gw := gw_i 1085 (by decide +kernel) (by decide +kernel)
abbrev b_Ab_append22 : ByteArray := prog_15_method_22_code
def y_Ab_append22 : MethodName := ⟨"java/lang/AbstractStringBuilder", "append", "(Ljava/lang/String;)Ljava/lang/AbstractStringBuilder;"⟩
def j_Ab_append22 : wq_J := [(.aload_n 1, (0, 0, 0, 0, 0)), (.ifnonnull 8, (0, 9, 0, 0, 0)), (.aload_n 0, (0, 0, 0, 0, 0)), (.invokevirtual 204, (0, 0, 0, 0, 0)), (.areturn, (0, 0, 0, 0, 0)), (.aload_n 1, (0, 0, 0, 0, 0)), (.invokevirtual 32, (0, 0, 0, 0, 0)), (.istore_n 2, (0, 0, 0, 0, 0)), (.aload_n 0, (0, 0, 0, 0, 0)), (.aload_n 0, (0, 0, 0, 0, 0)), (.getfield 79, (1, 0, 3, 0, 0)), (.iload_n 2, (0, 0, 0, 0, 0)), (.iadd, (0, 0, 0, 0, 0)), (.invokevirtual 100, (0, 0, 0, 0, 0)), (.aload_n 0, (0, 0, 0, 0, 0)), (.aload_n 0, (0, 0, 0, 0, 0)), (.getfield 79, (1, 0, 3, 0, 0)), (.aload_n 1, (0, 0, 0, 0, 0)), (.invokevirtual 208, (0, 0, 0, 0, 0)), (.aload_n 0, (0, 0, 0, 0, 0)), (.dup, (0, 0, 0, 0, 0)), (.getfield 79, (1, 0, 3, 0, 0)), (.iload_n 2, (0, 0, 0, 0, 0)), (.iadd, (0, 0, 0, 0, 0)), (.putfield 79, (1, 0, 3, 0, 0)), (.aload_n 0, (0, 0, 0, 0, 0)), (.areturn, (0, 0, 0, 0, 0))]
theorem jc_Ab_append22 : wq_c b_Ab_append22 3 j_Ab_append22 0 = true := by decide +kernel
theorem wm_Ab_append22 : wm y_Ab_append22 b_Ab_append22 3 (some (.object "java/lang/AbstractStringBuilder")) 1 := ⟨gw_i 9 (by decide +kernel) (by decide +kernel), gw_i 1089 (by decide +kernel) (by decide +kernel), ⟨by decide, by decide⟩, by decide +kernel⟩
theorem wi_Ab_append22 : Cond.instanceMethod y_Ab_append22 ∈ gw := gw_i 1088 (by decide +kernel) (by decide +kernel)
theorem wsm_Ab_append22 : Cond.sameMethod y_Ab_append22.cls y_Ab_append22.cls y_Ab_append22.name y_Ab_append22.desc ∈ gw := gw_i 1663 (by decide +kernel) (by decide +kernel)
abbrev b_Ab_putStringAt73 : ByteArray := prog_15_method_73_code
def y_Ab_putStringAt73 : MethodName := ⟨"java/lang/AbstractStringBuilder", "putStringAt", "(ILjava/lang/String;)V"⟩
def j_Ab_putStringAt73 : wq_J := [(.aload_n 0, (0, 0, 0, 0, 0)), (.aload_n 2, (0, 0, 0, 0, 0)), (.invokevirtual 397, (0, 0, 0, 0, 0)), (.aload_n 2, (0, 0, 0, 0, 0)), (.aload_n 0, (0, 0, 0, 0, 0)), (.getfield 15, (1, 0, 0, 0, 0)), (.iload_n 1, (0, 0, 0, 0, 0)), (.aload_n 0, (0, 0, 0, 0, 0)), (.getfield 22, (1, 0, 1, 0, 0)), (.invokevirtual 399, (0, 0, 0, 0, 0)), (.return_, (0, 0, 0, 0, 0))]
theorem jc_Ab_putStringAt73 : wq_c b_Ab_putStringAt73 3 j_Ab_putStringAt73 0 = true := by decide +kernel
theorem wm_Ab_putStringAt73 : wm y_Ab_putStringAt73 b_Ab_putStringAt73 3 none 2 := ⟨gw_i 9 (by decide +kernel) (by decide +kernel), gw_i 1101 (by decide +kernel) (by decide +kernel), ⟨by decide, by decide⟩, by decide +kernel⟩
theorem wi_Ab_putStringAt73 : Cond.instanceMethod y_Ab_putStringAt73 ∈ gw := gw_i 1100 (by decide +kernel) (by decide +kernel)
theorem wsm_Ab_putStringAt73 : Cond.sameMethod y_Ab_putStringAt73.cls y_Ab_putStringAt73.cls y_Ab_putStringAt73.name y_Ab_putStringAt73.desc ∈ gw := gw_i 1665 (by decide +kernel) (by decide +kernel)
theorem ws_Sb_Ab_putStringAt73 : Cond.selects "java/lang/StringBuilder" y_Ab_putStringAt73 y_Ab_putStringAt73 ∈ gw := gw_say (List.mem_of_getElem? (i := 7) rfl) (by decide +kernel)
abbrev b_Ab_inflateIfNeededFor71 : ByteArray := prog_15_method_71_code
def y_Ab_inflateIfNeededFor71 : MethodName := ⟨"java/lang/AbstractStringBuilder", "inflateIfNeededFor", "(Ljava/lang/String;)V"⟩
def j_Ab_inflateIfNeededFor71 : wq_J := [(.getstatic 18, (2, 0, 0, 0, 0)), (.ifCond .eq 18, (0, 21, 0, 0, 0)), (.aload_n 0, (0, 0, 0, 0, 0)), (.getfield 22, (1, 0, 1, 0, 0)), (.aload_n 1, (0, 0, 0, 0, 0)), (.invokevirtual 40, (0, 0, 0, 0, 0)), (.if_icmp .eq 7, (0, 21, 0, 0, 0)), (.aload_n 0, (0, 0, 0, 0, 0)), (.invokevirtual 195, (0, 0, 0, 0, 0)), (.return_, (0, 0, 0, 0, 0))]
theorem jc_Ab_inflateIfNeededFor71 : wq_c b_Ab_inflateIfNeededFor71 2 j_Ab_inflateIfNeededFor71 0 = true := by decide +kernel
theorem wm_Ab_inflateIfNeededFor71 : wm y_Ab_inflateIfNeededFor71 b_Ab_inflateIfNeededFor71 2 none 1 := ⟨gw_i 9 (by decide +kernel) (by decide +kernel), gw_i 1105 (by decide +kernel) (by decide +kernel), ⟨by decide, by decide⟩, by decide +kernel⟩
theorem wi_Ab_inflateIfNeededFor71 : Cond.instanceMethod y_Ab_inflateIfNeededFor71 ∈ gw := gw_i 1104 (by decide +kernel) (by decide +kernel)
theorem wsm_Ab_inflateIfNeededFor71 : Cond.sameMethod y_Ab_inflateIfNeededFor71.cls y_Ab_inflateIfNeededFor71.cls y_Ab_inflateIfNeededFor71.name y_Ab_inflateIfNeededFor71.desc ∈ gw := gw_i 1666 (by decide +kernel) (by decide +kernel)
theorem ws_Sb_Ab_inflateIfNeededFor71 : Cond.selects "java/lang/StringBuilder" y_Ab_inflateIfNeededFor71 y_Ab_inflateIfNeededFor71 ∈ gw := gw_say (List.mem_of_getElem? (i := 8) rfl) (by decide +kernel)
abbrev b_St_getBytes147 : ByteArray := prog_21_method_147_code
def y_St_getBytes147 : MethodName := ⟨"java/lang/String", "getBytes", "([BIB)V"⟩
def j_St_getBytes147 : wq_J := [(.aload_n 0, (0, 0, 0, 0, 0)), (.invokevirtual 335, (0, 0, 0, 0, 0)), (.iload_n 3, (0, 0, 0, 0, 0)), (.if_icmp .ne 23, (0, 28, 0, 0, 0)), (.aload_n 0, (0, 0, 0, 0, 0)), (.getfield 9, (2, 0, 0, 0, 0)), (.iconst 0, (0, 0, 0, 0, 0)), (.aload_n 1, (0, 0, 0, 0, 0)), (.iload_n 2, (0, 0, 0, 0, 0)), (.iload_n 3, (0, 0, 0, 0, 0)), (.ishl, (0, 0, 0, 0, 0)), (.aload_n 0, (0, 0, 0, 0, 0)), (.getfield 9, (2, 0, 0, 0, 0)), (.arraylength, (2, 0, 0, 0, 0)), (.invokestatic 212, (0, 0, 0, 0, 0)), (.goto 18, (0, 43, 0, 0, 0)), (.aload_n 0, (0, 0, 0, 0, 0)), (.getfield 9, (2, 0, 0, 0, 0)), (.iconst 0, (0, 0, 0, 0, 0)), (.aload_n 1, (0, 0, 0, 0, 0)), (.iload_n 2, (0, 0, 0, 0, 0)), (.aload_n 0, (0, 0, 0, 0, 0)), (.getfield 9, (2, 0, 0, 0, 0)), (.arraylength, (2, 0, 0, 0, 0)), (.invokestatic 106, (0, 0, 0, 0, 0)), (.return_, (0, 0, 0, 0, 0))]
theorem jc_St_getBytes147 : wq_c b_St_getBytes147 4 j_St_getBytes147 0 = true := by decide +kernel
theorem wm_St_getBytes147 : wm y_St_getBytes147 b_St_getBytes147 4 none 3 := ⟨gw_i 11 (by decide +kernel) (by decide +kernel), gw_i 1110 (by decide +kernel) (by decide +kernel), ⟨by decide, by decide⟩, by decide +kernel⟩
theorem wi_St_getBytes147 : Cond.instanceMethod y_St_getBytes147 ∈ gw := gw_i 1108 (by decide +kernel) (by decide +kernel)
theorem ws_St_St_getBytes147 : Cond.selects "java/lang/String" y_St_getBytes147 y_St_getBytes147 ∈ gw := gw_i 1109 (by decide +kernel) (by decide +kernel)
abbrev b_Sb_charAt88 : ByteArray := prog_22_method_88_code
def y_Sb_charAt88 : MethodName := ⟨"java/lang/StringBuilder", "charAt", "(I)C"⟩
def j_Sb_charAt88 : wq_J := [(.aload_n 0, (0, 0, 0, 0, 0)), (.iload_n 1, (0, 0, 0, 0, 0)), (.invokespecial 329, (0, 0, 0, 0, 0)), (.ireturn, (0, 0, 0, 0, 0))]
theorem jc_Sb_charAt88 : wq_c b_Sb_charAt88 2 j_Sb_charAt88 0 = true := by decide +kernel
theorem wm_Sb_charAt88 : wm y_Sb_charAt88 b_Sb_charAt88 2 (some .char) 1 := ⟨gw_i 10 (by decide +kernel) (by decide +kernel), gw_i 1149 (by decide +kernel) (by decide +kernel), ⟨by decide, by decide⟩, by decide +kernel⟩
theorem wi_Sb_charAt88 : Cond.instanceMethod y_Sb_charAt88 ∈ gw := gw_i 1147 (by decide +kernel) (by decide +kernel)
theorem ws_Sb_Sb_charAt88 : Cond.selects "java/lang/StringBuilder" y_Sb_charAt88 y_Sb_charAt88 ∈ gw := gw_i 1148 (by decide +kernel) (by decide +kernel)
abbrev b_Ab_charAt14 : ByteArray := prog_15_method_14_code
def y_Ab_charAt14 : MethodName := ⟨"java/lang/AbstractStringBuilder", "charAt", "(I)C"⟩
def j_Ab_charAt14 : wq_J := [(.aload_n 0, (0, 0, 0, 0, 0)), (.getfield 22, (1, 0, 1, 0, 0)), (.istore_n 2, (0, 0, 0, 0, 0)), (.aload_n 0, (0, 0, 0, 0, 0)), (.getfield 15, (1, 0, 0, 0, 0)), (.astore_n 3, (0, 0, 0, 0, 0)), (.aload_n 0, (0, 0, 0, 0, 0)), (.getfield 79, (1, 0, 3, 0, 0)), (.aload_n 3, (0, 0, 0, 0, 0)), (.arraylength, (1, 1, 0, 0, 0)), (.iload_n 2, (0, 0, 0, 0, 0)), (.ishr, (0, 0, 0, 0, 0)), (.invokestatic 138, (0, 0, 0, 0, 0)), (.istore 4, (0, 0, 0, 0, 0)), (.iload_n 1, (0, 0, 0, 0, 0)), (.iload 4, (0, 0, 0, 0, 0)), (.invokestatic 144, (0, 0, 0, 0, 0)), (.iload_n 2, (0, 0, 0, 0, 0)), (.ifCond .ne 12, (0, 42, 0, 0, 0)), (.aload_n 3, (0, 0, 0, 0, 0)), (.iload_n 1, (0, 0, 0, 0, 0)), (.baload, (1, 1, 0, 0, 0)), (.sipush 255, (0, 0, 0, 255, 0)), (.iand, (0, 0, 0, 0, 0)), (.i2c, (0, 0, 0, 0, 0)), (.ireturn, (0, 0, 0, 0, 0)), (.aload_n 3, (0, 0, 0, 0, 0)), (.iload_n 1, (0, 0, 0, 0, 0)), (.invokestatic 148, (0, 0, 0, 0, 0)), (.ireturn, (0, 0, 0, 0, 0))]
theorem jc_Ab_charAt14 : wq_c b_Ab_charAt14 5 j_Ab_charAt14 0 = true := by decide +kernel
theorem wm_Ab_charAt14 : wm y_Ab_charAt14 b_Ab_charAt14 5 (some .char) 1 := ⟨gw_i 9 (by decide +kernel) (by decide +kernel), gw_i 1152 (by decide +kernel) (by decide +kernel), ⟨by decide, by decide⟩, by decide +kernel⟩
theorem wi_Ab_charAt14 : Cond.instanceMethod y_Ab_charAt14 ∈ gw := gw_i 1151 (by decide +kernel) (by decide +kernel)
theorem wsm_Ab_charAt14 : Cond.sameMethod y_Ab_charAt14.cls y_Ab_charAt14.cls y_Ab_charAt14.name y_Ab_charAt14.desc ∈ gw := gw_i 1668 (by decide +kernel) (by decide +kernel)
theorem ws_Sb_len : Cond.selects "java/lang/StringBuilder" y_Ab_length6 y_Sb_length93 ∈ gw := gw_i 476 (by decide +kernel) (by decide +kernel)
theorem wsu_Sb : Cond.superclass "java/lang/StringBuilder" "java/lang/AbstractStringBuilder" ∈ gw := gw_i 209 (by decide +kernel) (by decide +kernel)
theorem wz_Dk : Cond.initialized "OriginDesk" ∈ gw := gw_i 1 (by decide +kernel) (by decide +kernel)
theorem wz_Rq : Cond.initialized "OriginDesk$Request" ∈ gw := gw_i 2 (by decide +kernel) (by decide +kernel)
theorem wz_Rd : Cond.initialized "OriginDesk$Reader" ∈ gw := gw_i 3 (by decide +kernel) (by decide +kernel)
theorem wz_Ac : Cond.initialized "OriginDesk$Accept" ∈ gw := gw_i 4 (by decide +kernel) (by decide +kernel)
theorem wz_La : Cond.initialized "OriginDesk$Languages" ∈ gw := gw_i 5 (by decide +kernel) (by decide +kernel)
theorem wz_Tg : Cond.initialized "OriginDesk$Tags" ∈ gw := gw_i 6 (by decide +kernel) (by decide +kernel)
theorem wz_Ra : Cond.initialized "OriginDesk$Ranges" ∈ gw := gw_i 7 (by decide +kernel) (by decide +kernel)
theorem wz_Rs : Cond.initialized "OriginDesk$Response" ∈ gw := gw_i 8 (by decide +kernel) (by decide +kernel)
theorem wz_Sb : Cond.initialized "java/lang/StringBuilder" ∈ gw := gw_i 10 (by decide +kernel) (by decide +kernel)
theorem wz_St : Cond.initialized "java/lang/String" ∈ gw := gw_i 11 (by decide +kernel) (by decide +kernel)
theorem wz_Da : Cond.initialized "OriginDesk$Dates" ∈ gw := gw_i 13 (by decide +kernel) (by decide +kernel)
theorem wz_Mo : Cond.initialized "OriginDeskModel" ∈ gw := gw_i 14 (by decide +kernel) (by decide +kernel)
theorem wz_Rp : Cond.initialized "OriginDesk$Representation" ∈ gw := gw_i 15 (by decide +kernel) (by decide +kernel)
theorem wn_Dk : Cond.instantiable "OriginDesk" 9 ∈ gw := gw_i 28 (by decide +kernel) (by decide +kernel)
theorem wl_Dk_1 : Cond.methodLink "OriginDesk" 1 Lib.objectInit ∈ gw := gw_i 32 (by decide +kernel) (by decide +kernel)
theorem wk_Dk_9 : Cond.classLink "OriginDesk" 9 "OriginDesk$Representation" ∈ gw := gw_i 35 (by decide +kernel) (by decide +kernel)
theorem wk_Dk_15 : Cond.classLink "OriginDesk" 15 "OriginDesk$Request" ∈ gw := gw_i 37 (by decide +kernel) (by decide +kernel)
theorem wn_Rq : Cond.instantiable "OriginDesk$Request" 3 ∈ gw := gw_i 38 (by decide +kernel) (by decide +kernel)
theorem wl_Rq_3 : Cond.methodLink "OriginDesk$Request" 3 Lib.objectInit ∈ gw := gw_i 42 (by decide +kernel) (by decide +kernel)
theorem wk_Rq_15 : Cond.classLink "OriginDesk$Request" 15 "[[I" ∈ gw := gw_i 43 (by decide +kernel) (by decide +kernel)
theorem wa_int : Cond.arrayClass .int ∈ gw := gw_i 58 (by decide +kernel) (by decide +kernel)
theorem wk_Dk_22 : Cond.classLink "OriginDesk" 22 "OriginDesk$Accept" ∈ gw := gw_i 59 (by decide +kernel) (by decide +kernel)
theorem wn_Ac : Cond.instantiable "OriginDesk$Accept" 10 ∈ gw := gw_i 60 (by decide +kernel) (by decide +kernel)
theorem wl_Rd_3 : Cond.methodLink "OriginDesk$Reader" 3 Lib.objectInit ∈ gw := gw_i 67 (by decide +kernel) (by decide +kernel)
theorem wk_Dk_29 : Cond.classLink "OriginDesk" 29 "OriginDesk$Languages" ∈ gw := gw_i 100 (by decide +kernel) (by decide +kernel)
theorem wn_La : Cond.instantiable "OriginDesk$Languages" 7 ∈ gw := gw_i 101 (by decide +kernel) (by decide +kernel)
theorem wk_Dk_36 : Cond.classLink "OriginDesk" 36 "OriginDesk$Tags" ∈ gw := gw_i 119 (by decide +kernel) (by decide +kernel)
theorem wn_Tg : Cond.instantiable "OriginDesk$Tags" 8 ∈ gw := gw_i 120 (by decide +kernel) (by decide +kernel)
theorem wk_Dk_43 : Cond.classLink "OriginDesk" 43 "OriginDesk$Ranges" ∈ gw := gw_i 143 (by decide +kernel) (by decide +kernel)
theorem wn_Ra : Cond.instantiable "OriginDesk$Ranges" 9 ∈ gw := gw_i 144 (by decide +kernel) (by decide +kernel)
theorem wk_Dk_50 : Cond.classLink "OriginDesk" 50 "OriginDesk$Response" ∈ gw := gw_i 172 (by decide +kernel) (by decide +kernel)
theorem wn_Rs : Cond.instantiable "OriginDesk$Response" 8 ∈ gw := gw_i 173 (by decide +kernel) (by decide +kernel)
theorem wl_Rs_3 : Cond.methodLink "OriginDesk$Response" 3 Lib.objectInit ∈ gw := gw_i 177 (by decide +kernel) (by decide +kernel)
theorem wk_Rs_22 : Cond.classLink "OriginDesk$Response" 22 "java/lang/StringBuilder" ∈ gw := gw_i 178 (by decide +kernel) (by decide +kernel)
theorem wn_Sb : Cond.instantiable "java/lang/StringBuilder" 4 ∈ gw := gw_i 179 (by decide +kernel) (by decide +kernel)
theorem wl_Rs_24 : Cond.methodLink "OriginDesk$Response" 24 y_Sb_init1 ∈ gw := gw_i 180 (by decide +kernel) (by decide +kernel)
theorem wl_Sb_1 : Cond.methodLink "java/lang/StringBuilder" 1 y_Ab_init2 ∈ gw := gw_i 183 (by decide +kernel) (by decide +kernel)
theorem wl_Ab_3 : Cond.methodLink "java/lang/AbstractStringBuilder" 3 Lib.objectInit ∈ gw := gw_i 186 (by decide +kernel) (by decide +kernel)
theorem wc_U6_20 : Cond.constant "java/lang/StringUTF16" 20 1073741823 ∈ gw := gw_i 195 (by decide +kernel) (by decide +kernel)
theorem wa_byte : Cond.arrayClass .byte ∈ gw := gw_i 210 (by decide +kernel) (by decide +kernel)
theorem wk_Dk_59 : Cond.classLink "OriginDesk" 59 "OriginDesk$Dates" ∈ gw := gw_i 243 (by decide +kernel) (by decide +kernel)
theorem wn_Da : Cond.instantiable "OriginDesk$Dates" 10 ∈ gw := gw_i 244 (by decide +kernel) (by decide +kernel)
theorem wn_Rp : Cond.instantiable "OriginDesk$Representation" 7 ∈ gw := gw_i 319 (by decide +kernel) (by decide +kernel)
theorem wl_Rp_1 : Cond.methodLink "OriginDesk$Representation" 1 Lib.objectInit ∈ gw := gw_i 323 (by decide +kernel) (by decide +kernel)
theorem wk_Rp_24 : Cond.classLink "OriginDesk$Representation" 24 "java/lang/StringBuilder" ∈ gw := gw_i 324 (by decide +kernel) (by decide +kernel)
theorem wl_Rp_26 : Cond.methodLink "OriginDesk$Representation" 26 y_Sb_init1 ∈ gw := gw_i 325 (by decide +kernel) (by decide +kernel)
theorem wl_Rp_27 : Cond.methodLink "OriginDesk$Representation" 27 y_Sb_append14 ∈ gw := gw_i 326 (by decide +kernel) (by decide +kernel)
theorem wl_Sb_50 : Cond.methodLink "java/lang/StringBuilder" 50 y_Ab_append31 ∈ gw := gw_i 330 (by decide +kernel) (by decide +kernel)
theorem wl_Ab_100 : Cond.methodLink "java/lang/AbstractStringBuilder" 100 y_Ab_ensureCapacityInternal9 ∈ gw := gw_i 333 (by decide +kernel) (by decide +kernel)
theorem wl_Ab_104 : Cond.methodLink "java/lang/AbstractStringBuilder" 104 y_Ab_newCapacity10 ∈ gw := gw_i 337 (by decide +kernel) (by decide +kernel)
theorem wl_Ab_114 : Cond.methodLink "java/lang/AbstractStringBuilder" 114 y_Su_newLength27 ∈ gw := gw_i 341 (by decide +kernel) (by decide +kernel)
theorem wl_Su_194 : Cond.methodLink "jdk/internal/util/ArraysSupport" 194 Lib.Math.max.name ∈ gw := gw_i 344 (by decide +kernel) (by decide +kernel)
theorem wc_Su_200 : Cond.constant "jdk/internal/util/ArraysSupport" 200 2147483639 ∈ gw := gw_i 347 (by decide +kernel) (by decide +kernel)
theorem wc_Ab_39 : Cond.constant "java/lang/AbstractStringBuilder" 39 2147483647 ∈ gw := gw_i 351 (by decide +kernel) (by decide +kernel)
theorem wl_Ab_108 : Cond.methodLink "java/lang/AbstractStringBuilder" 108 y_Ar_copyOf121 ∈ gw := gw_i 352 (by decide +kernel) (by decide +kernel)
theorem wk_Ar_311 : Cond.classLink "java/util/Arrays" 311 "[B" ∈ gw := gw_i 361 (by decide +kernel) (by decide +kernel)
theorem wl_Ar_304 : Cond.methodLink "java/util/Arrays" 304 Lib.Math.min.name ∈ gw := gw_i 362 (by decide +kernel) (by decide +kernel)
theorem wl_Ar_150 : Cond.methodLink "java/util/Arrays" 150 arraycopyName ∈ gw := gw_i 365 (by decide +kernel) (by decide +kernel)
theorem wl_Ab_83 : Cond.methodLink "java/lang/AbstractStringBuilder" 83 y_Ab_isLatin168 ∈ gw := gw_i 368 (by decide +kernel) (by decide +kernel)
theorem wl_Ab_191 : Cond.methodLink "java/lang/AbstractStringBuilder" 191 y_L1_canEncode3 ∈ gw := gw_i 373 (by decide +kernel) (by decide +kernel)
theorem wl_Rp_31 : Cond.methodLink "OriginDesk$Representation" 31 y_Sb_append15 ∈ gw := gw_i 421 (by decide +kernel) (by decide +kernel)
theorem wl_Sb_53 : Cond.methodLink "java/lang/StringBuilder" 53 y_Ab_append32 ∈ gw := gw_i 425 (by decide +kernel) (by decide +kernel)
theorem wl_Ab_245 : Cond.methodLink "java/lang/AbstractStringBuilder" 245 y_In_stringSize13 ∈ gw := gw_i 428 (by decide +kernel) (by decide +kernel)
theorem wl_Ab_248 : Cond.methodLink "java/lang/AbstractStringBuilder" 248 y_In_getChars12 ∈ gw := gw_i 431 (by decide +kernel) (by decide +kernel)
theorem wl_Rp_34 : Cond.methodLink "OriginDesk$Representation" 34 y_Sb_toString42 ∈ gw := gw_i 455 (by decide +kernel) (by decide +kernel)
theorem wk_Sb_18 : Cond.classLink "java/lang/StringBuilder" 18 "java/lang/String" ∈ gw := gw_i 459 (by decide +kernel) (by decide +kernel)
theorem wn_St : Cond.instantiable "java/lang/String" 4 ∈ gw := gw_i 460 (by decide +kernel) (by decide +kernel)
theorem wl_Sb_137 : Cond.methodLink "java/lang/StringBuilder" 137 y_St_init53 ∈ gw := gw_i 461 (by decide +kernel) (by decide +kernel)
theorem wl_St_489 : Cond.methodLink "java/lang/String" 489 y_St_init150 ∈ gw := gw_i 464 (by decide +kernel) (by decide +kernel)
theorem wl_St_1 : Cond.methodLink "java/lang/String" 1 Lib.objectInit ∈ gw := gw_i 467 (by decide +kernel) (by decide +kernel)
theorem wl_St_552 : Cond.methodLink "java/lang/String" 552 y_Ab_getValue64 ∈ gw := gw_i 468 (by decide +kernel) (by decide +kernel)
theorem wl_St_549 : Cond.methodLink "java/lang/String" 549 y_Ab_length6 ∈ gw := gw_i 473 (by decide +kernel) (by decide +kernel)
theorem wl_Sb_343 : Cond.methodLink "java/lang/StringBuilder" 343 y_Ab_length6 ∈ gw := gw_i 479 (by decide +kernel) (by decide +kernel)
theorem wl_St_1047 : Cond.methodLink "java/lang/String" 1047 y_Ab_isLatin168 ∈ gw := gw_i 481 (by decide +kernel) (by decide +kernel)
theorem wl_St_54 : Cond.methodLink "java/lang/String" 54 y_Ar_copyOfRange132 ∈ gw := gw_i 482 (by decide +kernel) (by decide +kernel)
theorem wl_Ar_339 : Cond.methodLink "java/util/Arrays" 339 y_Ar_copyOfRangeByte133 ∈ gw := gw_i 485 (by decide +kernel) (by decide +kernel)
theorem wl_Ar_343 : Cond.methodLink "java/util/Arrays" 343 y_Ar_checkLength131 ∈ gw := gw_i 488 (by decide +kernel) (by decide +kernel)
theorem wl_U6_126 : Cond.methodLink "java/lang/StringUTF16" 126 y_Ar_copyOfRange132 ∈ gw := gw_i 501 (by decide +kernel) (by decide +kernel)
theorem wl_L1_92 : Cond.methodLink "java/lang/StringLatin1" 92 Lib.Math.max.name ∈ gw := gw_i 645 (by decide +kernel) (by decide +kernel)
theorem wl_L1_38 : Cond.methodLink "java/lang/StringLatin1" 38 Lib.Math.min.name ∈ gw := gw_i 646 (by decide +kernel) (by decide +kernel)
theorem wl_U6_224 : Cond.methodLink "java/lang/StringUTF16" 224 Lib.Math.max.name ∈ gw := gw_i 653 (by decide +kernel) (by decide +kernel)
theorem wl_U6_183 : Cond.methodLink "java/lang/StringUTF16" 183 Lib.Math.min.name ∈ gw := gw_i 654 (by decide +kernel) (by decide +kernel)
theorem wc_U6_227 : Cond.constant "java/lang/StringUTF16" 227 65536 ∈ gw := gw_i 655 (by decide +kernel) (by decide +kernel)
theorem wc_Ch_110 : Cond.constant "java/lang/Character" 110 55232 ∈ gw := gw_i 671 (by decide +kernel) (by decide +kernel)
theorem wc_Ch_76 : Cond.constant "java/lang/Character" 76 56320 ∈ gw := gw_i 675 (by decide +kernel) (by decide +kernel)
theorem wl_Ra_57 : Cond.methodLink "OriginDesk$Ranges" 57 Lib.Math.max.name ∈ gw := gw_i 1023 (by decide +kernel) (by decide +kernel)
theorem wl_Ra_67 : Cond.methodLink "OriginDesk$Ranges" 67 Lib.Math.min.name ∈ gw := gw_i 1028 (by decide +kernel) (by decide +kernel)
theorem wl_Rs_89 : Cond.methodLink "OriginDesk$Response" 89 y_Sb_setLength89 ∈ gw := gw_i 1062 (by decide +kernel) (by decide +kernel)
theorem wl_Sb_333 : Cond.methodLink "java/lang/StringBuilder" 333 y_Ab_setLength13 ∈ gw := gw_i 1066 (by decide +kernel) (by decide +kernel)
theorem wl_Rs_95 : Cond.methodLink "OriginDesk$Response" 95 y_Sb_append7 ∈ gw := gw_i 1083 (by decide +kernel) (by decide +kernel)
theorem wl_Sb_29 : Cond.methodLink "java/lang/StringBuilder" 29 y_Ab_append22 ∈ gw := gw_i 1087 (by decide +kernel) (by decide +kernel)
theorem wl_Ab_208 : Cond.methodLink "java/lang/AbstractStringBuilder" 208 y_Ab_putStringAt73 ∈ gw := gw_i 1098 (by decide +kernel) (by decide +kernel)
theorem wl_Ab_397 : Cond.methodLink "java/lang/AbstractStringBuilder" 397 y_Ab_inflateIfNeededFor71 ∈ gw := gw_i 1102 (by decide +kernel) (by decide +kernel)
theorem wl_Ab_399 : Cond.methodLink "java/lang/AbstractStringBuilder" 399 y_St_getBytes147 ∈ gw := gw_i 1107 (by decide +kernel) (by decide +kernel)
theorem wl_St_212 : Cond.methodLink "java/lang/String" 212 arraycopyName ∈ gw := gw_i 1111 (by decide +kernel) (by decide +kernel)
theorem wl_Rs_99 : Cond.methodLink "OriginDesk$Response" 99 y_Sb_append15 ∈ gw := gw_i 1113 (by decide +kernel) (by decide +kernel)
theorem wl_Rs_102 : Cond.methodLink "OriginDesk$Response" 102 y_Sb_append14 ∈ gw := gw_i 1114 (by decide +kernel) (by decide +kernel)
theorem wl_Rs_81 : Cond.methodLink "OriginDesk$Response" 81 y_Sb_length93 ∈ gw := gw_i 1116 (by decide +kernel) (by decide +kernel)
theorem wl_Rs_84 : Cond.methodLink "OriginDesk$Response" 84 y_Sb_charAt88 ∈ gw := gw_i 1146 (by decide +kernel) (by decide +kernel)
theorem wl_Sb_329 : Cond.methodLink "java/lang/StringBuilder" 329 y_Ab_charAt14 ∈ gw := gw_i 1150 (by decide +kernel) (by decide +kernel)
theorem wl_Ab_138 : Cond.methodLink "java/lang/AbstractStringBuilder" 138 Lib.Math.min.name ∈ gw := gw_i 1153 (by decide +kernel) (by decide +kernel)
theorem wn_Mo : Cond.instantiable "OriginDeskModel" 31 ∈ gw := gw_i 1194 (by decide +kernel) (by decide +kernel)
theorem wl_Mo_1 : Cond.methodLink "OriginDeskModel" 1 Lib.objectInit ∈ gw := gw_i 1198 (by decide +kernel) (by decide +kernel)
theorem wa_boolean : Cond.arrayClass .boolean ∈ gw := gw_i 1310 (by decide +kernel) (by decide +kernel)
theorem wa_long : Cond.arrayClass .long ∈ gw := gw_i 1311 (by decide +kernel) (by decide +kernel)
def fl_Ab : List Cond := [.fieldLink "java/lang/AbstractStringBuilder" 15 "java/lang/AbstractStringBuilder" "value" "[B", .fieldLink "java/lang/AbstractStringBuilder" 22 "java/lang/AbstractStringBuilder" "coder" "B", .fieldLink "java/lang/AbstractStringBuilder" 73 "java/lang/AbstractStringBuilder" "maybeLatin1" "Z", .fieldLink "java/lang/AbstractStringBuilder" 79 "java/lang/AbstractStringBuilder" "count" "I"]
theorem fl_Ab_in : ∀ w ∈ fl_Ab, w ∈ gw := gw_sub [196, 197, 198, 200] (by decide +kernel) (by decide +kernel)
def ft_Ab : List (Nat × Nat × Nat × Nat) := [(15, 11, 0, 0), (22, 11, 1, 0), (73, 11, 2, 0), (79, 11, 3, 0)]
theorem ft_Ab_b : ft_Ab.all (ft_b "java/lang/AbstractStringBuilder" fl_Ab) = true := by decide +kernel
def fl_St : List Cond := [.fieldLink "java/lang/String" 9 "java/lang/String" "value" "[B", .fieldLink "java/lang/String" 15 "java/lang/String" "coder" "B"]
theorem fl_St_in : ∀ w ∈ fl_St, w ∈ gw := gw_sub [505, 506] (by decide +kernel) (by decide +kernel)
def ft_St : List (Nat × Nat × Nat × Nat) := [(9, 10, 0, 1), (15, 10, 1, 1)]
theorem ft_St_b : ft_St.all (ft_b "java/lang/String" fl_St) = true := by decide +kernel
theorem wm_obj : Cond.instanceMethod Lib.objectInit ∈ gw ∧ Cond.code Lib.objectInit ⟨#[0xb1]⟩ 1 none ∈ gw := ⟨gw_i 33 (by decide +kernel) (by decide +kernel), gw_i 34 (by decide +kernel) (by decide +kernel)⟩
section
variable {p : Program} {l : Launch} {e : Env} {R : Room} {s : State} {m : MethodId} {args : Array Value} {below : List Frame} {meth : Method} {c : Code} {cc : ByteArray} {nL : Nat} {D : va_G} {tys : List (ClassId × FieldType)} {A : Nat → Prop} {tc : Nat → ClassId} {Q : State → Prop} {st rest : List Value} {k n mc ms : Nat} {K : List Value → va_W → Nat → Nat → Prop} {y0 y x : MethodName} {b0 bytes : ByteArray} {n0 index maxL nA fr lo : Nat} {r0 ret : Option FieldType} {own owner C : String} {ws wc wr : va_W} {b : Nat} {As : List Value} {post : Option Value → va_W → Prop} {F : (Nat → Prop) → State → Heap → Prop}
theorem sx_obj (hC : Cx p s m args c cc nL own (yw y0 b0 n0 r0) D cls tys A tc) (hl : Cond.methodLink own index Lib.objectInit ∈ gw) {a : Nat} (hfr : 1 ≤ R.frames) (hlo : (rest.map fun v => v.category).sum + 12 ≤ R.locals) (kk : K rest ws k n) : vx_SX cc (Vx p l e R s m args below meth c nL D cls A Q) (.invokespecial index) 3 (.ref a :: rest) ws k n K := by
  intro pc lv hdg hK H locs ls hP hD hS hl2
  have g : ∀ {w : Cond}, w ∈ gw → w.before args s = true := fun h => hC.2.2.2.2.1 _ (List.mem_cons_of_mem _ h)
  exact W.objInit hC.1 hC.2.1 hC.2.2.2.1 (g hl) (g wm_obj.1) (g wm_obj.2) rfl (hl2.1.trans hC.2.2.1.symm) rfl hdg hfr (by show 2 * 0 + _ + 12 ≤ _; omega) (hK _ _ _ _ kk H locs ls hP hD hS hl2)
theorem cw_SU (h : wm y bytes maxL ret nA) (hl : Cond.methodLink own index y ∈ gw) (hsm : Cond.sameMethod y.cls y.cls y.name y.desc ∈ gw) (hsu : Cond.superclass own y.cls ∈ gw) (hi : Cond.instanceMethod y ∈ gw) (hn : y.name ≠ "<init>") (ht : ∀ w ∈ yw y0 b0 n0 r0, w.before args s = true) (hR : fr + 1 ≤ R.frames ∧ 8 + (maxL + 11) + lo ≤ R.locals) : va_CS R s args own index y bytes maxL ret (yw y bytes maxL ret) { frames := fr, cells := mc, slots := ms, locals := lo } mc ms nA := by
  have hx : ∀ {w : Cond}, w ∈ gw → w.before args s = true := fun h => ht _ (List.mem_cons_of_mem _ h)
  refine ⟨⟨rfl, rfl, hR.1, hR.2, pay_in ht (yw_good h), List.mem_cons_self⟩, hx hl, hx hsm, hx hsu, hx hi, hx h.1, hx h.2.1, hn, fun sig e => ?_⟩
  have hp := h.2.2.2
  rw [e] at hp
  exact (Option.some.inj hp).symm
theorem cw_U2 {b2 : ByteArray} {n2 : Nat} {r2 : Option FieldType} (h : wm y bytes maxL ret nA) (hl : Cond.methodLink own index x ∈ gw) (hsm : Cond.sameMethod x.cls owner x.name x.desc ∈ gw) (hi : Cond.instanceMethod y ∈ gw) (hs : Cond.selects C x y ∈ gw) (hd1 : Cond.instanceMethod ⟨owner, x.name, x.desc⟩ ∈ gw) (hd2 : Cond.code ⟨owner, x.name, x.desc⟩ b2 n2 r2 ∈ gw) (hxd : (parseMethodDescriptor x.desc).map (fun d => d.parameters.length) = some nA) (ht : ∀ w ∈ yw y0 b0 n0 r0, w.before args s = true) (hod : owner ≠ "java/lang/invoke/MethodHandle" ∧ owner ≠ "java/lang/invoke/VarHandle") (hR : fr + 1 ≤ R.frames ∧ 8 + (maxL + 11) + lo ≤ R.locals) : va_CU R s args own C owner index x y bytes maxL ret (yw y bytes maxL ret) { frames := fr, cells := mc, slots := ms, locals := lo } mc ms nA := by
  have hx : ∀ {w : Cond}, w ∈ gw → w.before args s = true := fun h => ht _ (List.mem_cons_of_mem _ h)
  have hd : va_Decl s ⟨owner, x.name, x.desc⟩ := va_Decl.of (hx hd1) (hx hd2)
  refine ⟨⟨rfl, rfl, hR.1, hR.2, pay_in ht (yw_good h), List.mem_cons_self⟩, hx h.2.1, hx h.1, hod, fun sig e => ?_, hx hl, hx hsm, hd, hx hs, hx hi⟩
  rw [e] at hxd
  exact (Option.some.inj hxd).symm
set_option maxHeartbeats 1000000 in
/-- super.m(..) -/
theorem sx_callSU (hC : Cx p s m args c cc nL own (yw y0 b0 n0 r0) D cls tys A tc) (hk : Kt l y (yw y bytes maxL ret) fr lo mc ms D cls tys F (.ref b :: As) wc post) (cw : va_CS R s args own index y bytes maxL ret (yw y bytes maxL ret) { frames := fr, cells := mc, slots := ms, locals := lo } mc ms nA)
    (isC isR : List Nat) (hc : isC.map (fun i => ws[i]?) = wc.map some) (hr : isR.map (fun i => ws[i]?) = wr.map some) (hnC : va_nd isC = true) (hn : va_nd isR = true) (hdis : ∀ i ∈ isR, i ∉ isC)
    {q0 ci : Nat} {fs : List Value} {rc : vw_C} (hq : wc[q0]? = some (b, .inr (ci, fs))) (hci : cls[ci]? = some rc) (hF : ∀ (H : Heap) (locs : List Loc), va_P D cls ws H → va_D A ws → va_S A s.heap H locs → F (va_A wc H.size) s H)
    (hlen : As.length = nA) (hst : st = As.reverse ++ .ref b :: rest) (hW : (rest.map fun v => v.category).sum ≤ 8) (hf : k + mc ≤ R.cells ∧ n + ms ≤ R.slots)
    (kk : ∀ (r : Option Value) (w1 : va_W), post r w1 → K (r.toList ++ rest) (wr ++ w1) (k + mc) (n + ms)) :
    vx_SX cc (Vx p l e R s m args below meth c nL D cls A Q) (.invokespecial index) 3 st ws k n K := by
  intro pc lv hdg hK
  subst hst
  obtain ⟨hx, hb, hml, hown, hts, hKK, hA, hty⟩ := hC
  refine vx_call hA (post := post) (a := (Value.ref b :: As).toArray) (fun H locs ls hP hD hS hl => ?_) isC isR hc hr hn hdis (fun r w1 hp => hK _ _ _ _ (kk r w1 hp))
  have hPc : va_P D cls wc H := va_P.sub2 hc hP
  have hDc := hD.sub isC hnC hc
  exact va_runSU (As := As) (rest := rest) (hKK.1 ci _ hci).2 ⟨hx, hb, hml, hown, hts⟩ (hk.2 H.size) cw ⟨Kp.blind hk.1, va_recv hKK hPc hci hq, fun U hU hW => ⟨rfl, by rw [hU], by rw [hU]; exact hPc, va_K.moved hW.alike hKK, hDc.weaken (fun _ _ _ _ => trivial), by rw [hU]; exact hk.1.1 _ s U H hW (hF H locs hP hD hS)⟩⟩ rfl hlen hl.1 rfl (lv_room hW) hdg hf
set_option maxHeartbeats 1000000 in
/-- a constructor of a nest mate -/
theorem sx_callIN {host : String} (hC : Cx p s m args c cc nL own (yw y0 b0 n0 r0) D cls tys A tc) (hk : Kt l y (yw y bytes maxL none) fr lo mc ms D cls tys F (.ref b :: As) wc post) (hnw : va_Nw (.methodLinkNest own index y host) s) (hwm : wm y bytes maxL none nA) (hi : Cond.instanceMethod y ∈ gw) (hyn : y.name = "<init>") (hR : fr + 1 ≤ R.frames ∧ 8 + (maxL + 11) + lo ≤ R.locals)
    (isC isR : List Nat) (hc : isC.map (fun i => ws[i]?) = wc.map some) (hr : isR.map (fun i => ws[i]?) = wr.map some) (hnC : va_nd isC = true) (hn : va_nd isR = true) (hdis : ∀ i ∈ isR, i ∉ isC)
    (hF : ∀ (H : Heap) (locs : List Loc), va_P D cls ws H → va_D A ws → va_S A s.heap H locs → F (va_A wc H.size) s H)
    (hlen : As.length = nA) (hst : st = As.reverse ++ .ref b :: rest) (hW : (rest.map fun v => v.category).sum ≤ 8) (hf : k + mc ≤ R.cells ∧ n + ms ≤ R.slots)
    (kk : ∀ (r : Option Value) (w1 : va_W), post r w1 → K (r.toList ++ rest) (wr ++ w1) (k + mc) (n + ms)) :
    vx_SX cc (Vx p l e R s m args below meth c nL D cls A Q) (.invokespecial index) 3 st ws k n K := by
  intro pc lv hdg hK
  subst hst
  have g : ∀ {w : Cond}, w ∈ gw → w.before args s = true := fun h => hC.2.2.2.2.1 _ (List.mem_cons_of_mem _ h)
  have cw := va_cnB (R := R) (s := s) (args := args) (own := own) (host := host) (index := index) (maxL := maxL) (mc := mc) (ms := ms) (y := y) (bytes := bytes) (ret := none) (Ts := yw y0 b0 n0 r0) (ws := yw y bytes maxL none) (rm := { frames := fr, cells := mc, slots := ms, locals := lo }) nA hC.2.2.2.2.1 (yw_good hwm) rfl rfl rfl hnw (g hwm.1) ⟨hwm.2.2.1.1, hwm.2.2.1.2, hwm.2.2.2⟩ hR
  have hi2 := g hi
  obtain ⟨hx, hb, hml, hown, hts, hKK, hA, hty⟩ := hC
  refine vx_call hA (post := post) (a := (Value.ref b :: As).toArray) (fun H locs ls hP hD hS hl => ?_) isC isR hc hr hn hdis (fun r w1 hp => hK _ _ _ _ (kk r w1 hp))
  have hPc : va_P D cls wc H := va_P.sub2 hc hP
  have hDc := hD.sub isC hnC hc
  exact va_runIN (As := As) (rest := rest) ⟨hx, hb, hml, hown, hts⟩ (hk.2 H.size) ⟨cw, hyn, hi2⟩ ⟨Kp.blind hk.1, fun U hU hW => ⟨rfl, by rw [hU], by rw [hU]; exact hPc, va_K.moved hW.alike hKK, hDc.weaken (fun _ _ _ _ => trivial), by rw [hU]; exact hk.1.1 _ s U H hW (hF H locs hP hD hS)⟩⟩ rfl hlen hl.1 rfl (lv_room hW) hdg hf
end
