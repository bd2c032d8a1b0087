/-! THE JDK's METHODS, by program out of the Statement's bytes (wip/whole/gen/mkjdk.py) -/
abbrev b_St_checkIndex155 : ByteArray := prog_21_method_155_code
def y_St_checkIndex155 : MethodName := ⟨"java/lang/String", "checkIndex", "(II)V"⟩
def j_St_checkIndex155 : wq_J := [(.iload_n 0, (0, 0, 0, 0, 0)), (.iload_n 1, (0, 0, 0, 0, 0)), (.getstatic 1053, (2, 0, 0, 0, 0)), (.invokestatic 1059, (0, 0, 0, 0, 0)), (.pop, (0, 0, 0, 0, 0)), (.return_, (0, 0, 0, 0, 0))]
theorem jc_St_checkIndex155 : wq_c b_St_checkIndex155 2 j_St_checkIndex155 0 = true := by decide +kernel
theorem wm_St_checkIndex155 : wm y_St_checkIndex155 b_St_checkIndex155 2 none 2 := ⟨gw_i 11 (by decide +kernel) (by decide +kernel), gw_i 417 (by decide +kernel) (by decide +kernel), ⟨by decide, by decide⟩, by decide +kernel⟩
theorem wt_St_checkIndex155 : Cond.static y_St_checkIndex155 ∈ gw := gw_i 416 (by decide +kernel) (by decide +kernel)
abbrev b_Pr_checkIndex11 : ByteArray := prog_28_method_11_code
def y_Pr_checkIndex11 : MethodName := ⟨"jdk/internal/util/Preconditions", "checkIndex", "(IILjava/util/function/BiFunction;)I"⟩
def j_Pr_checkIndex11 : wq_J := [(.iload_n 0, (0, 0, 0, 0, 0)), (.ifCond .lt 8, (0, 9, 0, 0, 0)), (.iload_n 0, (0, 0, 0, 0, 0)), (.iload_n 1, (0, 0, 0, 0, 0)), (.if_icmp .lt 10, (0, 16, 0, 0, 0)), (.aload_n 2, (0, 0, 0, 0, 0)), (.iload_n 0, (0, 0, 0, 0, 0)), (.iload_n 1, (0, 0, 0, 0, 0)), (.invokestatic 95, (0, 0, 0, 0, 0)), (.athrow, (0, 0, 0, 0, 0)), (.iload_n 0, (0, 0, 0, 0, 0)), (.ireturn, (0, 0, 0, 0, 0))]
theorem jc_Pr_checkIndex11 : wq_c b_Pr_checkIndex11 3 j_Pr_checkIndex11 0 = true := by decide +kernel
theorem wm_Pr_checkIndex11 : wm y_Pr_checkIndex11 b_Pr_checkIndex11 3 (some .int) 3 := ⟨gw_i 21 (by decide +kernel) (by decide +kernel), gw_i 420 (by decide +kernel) (by decide +kernel), ⟨by decide, by decide⟩, by decide +kernel⟩
theorem wt_Pr_checkIndex11 : Cond.static y_Pr_checkIndex11 ∈ gw := gw_i 419 (by decide +kernel) (by decide +kernel)
abbrev b_St_indexOf79 : ByteArray := prog_21_method_79_code
def y_St_indexOf79 : MethodName := ⟨"java/lang/String", "indexOf", "(I)I"⟩
def j_St_indexOf79 : wq_J := [(.aload_n 0, (0, 0, 0, 0, 0)), (.iload_n 1, (0, 0, 0, 0, 0)), (.iconst 0, (0, 0, 0, 0, 0)), (.invokevirtual 633, (0, 0, 0, 0, 0)), (.ireturn, (0, 0, 0, 0, 0))]
theorem jc_St_indexOf79 : wq_c b_St_indexOf79 2 j_St_indexOf79 0 = true := by decide +kernel
theorem wm_St_indexOf79 : wm y_St_indexOf79 b_St_indexOf79 2 (some .int) 1 := ⟨gw_i 11 (by decide +kernel) (by decide +kernel), gw_i 622 (by decide +kernel) (by decide +kernel), ⟨by decide, by decide⟩, by decide +kernel⟩
theorem wi_St_indexOf79 : Cond.instanceMethod y_St_indexOf79 ∈ gw := gw_i 620 (by decide +kernel) (by decide +kernel)
theorem ws_St_St_indexOf79 : Cond.selects "java/lang/String" y_St_indexOf79 y_St_indexOf79 ∈ gw := gw_i 621 (by decide +kernel) (by decide +kernel)
abbrev b_St_indexOf80 : ByteArray := prog_21_method_80_code
def y_St_indexOf80 : MethodName := ⟨"java/lang/String", "indexOf", "(II)I"⟩
def j_St_indexOf80 : wq_J := [(.aload_n 0, (0, 0, 0, 0, 0)), (.invokevirtual 492, (0, 0, 0, 0, 0)), (.ifCond .eq 19, (0, 23, 0, 0, 0)), (.aload_n 0, (0, 0, 0, 0, 0)), (.getfield 9, (2, 0, 0, 0, 0)), (.iload_n 1, (0, 0, 0, 0, 0)), (.iload_n 2, (0, 0, 0, 0, 0)), (.aload_n 0, (0, 0, 0, 0, 0)), (.invokevirtual 505, (0, 0, 0, 0, 0)), (.invokestatic 637, (0, 0, 0, 0, 0)), (.goto 16, (0, 36, 0, 0, 0)), (.aload_n 0, (0, 0, 0, 0, 0)), (.getfield 9, (2, 0, 0, 0, 0)), (.iload_n 1, (0, 0, 0, 0, 0)), (.iload_n 2, (0, 0, 0, 0, 0)), (.aload_n 0, (0, 0, 0, 0, 0)), (.invokevirtual 505, (0, 0, 0, 0, 0)), (.invokestatic 640, (0, 0, 0, 0, 0)), (.ireturn, (0, 0, 0, 0, 0))]
theorem jc_St_indexOf80 : wq_c b_St_indexOf80 3 j_St_indexOf80 0 = true := by decide +kernel
theorem wm_St_indexOf80 : wm y_St_indexOf80 b_St_indexOf80 3 (some .int) 2 := ⟨gw_i 11 (by decide +kernel) (by decide +kernel), gw_i 626 (by decide +kernel) (by decide +kernel), ⟨by decide, by decide⟩, by decide +kernel⟩
theorem wi_St_indexOf80 : Cond.instanceMethod y_St_indexOf80 ∈ gw := gw_i 624 (by decide +kernel) (by decide +kernel)
theorem ws_St_St_indexOf80 : Cond.selects "java/lang/String" y_St_indexOf80 y_St_indexOf80 ∈ gw := gw_i 625 (by decide +kernel) (by decide +kernel)
abbrev b_St_isLatin1154 : ByteArray := prog_21_method_154_code
def y_St_isLatin1154 : MethodName := ⟨"java/lang/String", "isLatin1", "()Z"⟩
def j_St_isLatin1154 : wq_J := [(.getstatic 38, (2, 0, 0, 0, 0)), (.ifCond .eq 14, (0, 17, 0, 0, 0)), (.aload_n 0, (0, 0, 0, 0, 0)), (.getfield 15, (2, 0, 0, 0, 0)), (.ifCond .ne 7, (0, 17, 0, 0, 0)), (.iconst 1, (0, 0, 0, 1, 0)), (.goto 4, (0, 18, 0, 0, 0)), (.iconst 0, (0, 0, 0, 0, 0)), (.ireturn, (0, 0, 0, 0, 0))]
theorem jc_St_isLatin1154 : wq_c b_St_isLatin1154 1 j_St_isLatin1154 0 = true := by decide +kernel
theorem wm_St_isLatin1154 : wm y_St_isLatin1154 b_St_isLatin1154 1 (some .boolean) 0 := ⟨gw_i 11 (by decide +kernel) (by decide +kernel), gw_i 630 (by decide +kernel) (by decide +kernel), ⟨by decide, by decide⟩, by decide +kernel⟩
theorem wi_St_isLatin1154 : Cond.instanceMethod y_St_isLatin1154 ∈ gw := gw_i 628 (by decide +kernel) (by decide +kernel)
theorem ws_St_St_isLatin1154 : Cond.selects "java/lang/String" y_St_isLatin1154 y_St_isLatin1154 ∈ gw := gw_i 629 (by decide +kernel) (by decide +kernel)
abbrev b_St_length54 : ByteArray := prog_21_method_54_code
def y_St_length54 : MethodName := ⟨"java/lang/String", "length", "()I"⟩
def j_St_length54 : wq_J := [(.aload_n 0, (0, 0, 0, 0, 0)), (.getfield 9, (2, 0, 0, 0, 0)), (.arraylength, (2, 0, 0, 0, 0)), (.aload_n 0, (0, 0, 0, 0, 0)), (.invokevirtual 335, (0, 0, 0, 0, 0)), (.ishr, (0, 0, 0, 0, 0)), (.ireturn, (0, 0, 0, 0, 0))]
theorem jc_St_length54 : wq_c b_St_length54 1 j_St_length54 0 = true := by decide +kernel
theorem wm_St_length54 : wm y_St_length54 b_St_length54 1 (some .int) 0 := ⟨gw_i 11 (by decide +kernel) (by decide +kernel), gw_i 634 (by decide +kernel) (by decide +kernel), ⟨by decide, by decide⟩, by decide +kernel⟩
theorem wi_St_length54 : Cond.instanceMethod y_St_length54 ∈ gw := gw_i 632 (by decide +kernel) (by decide +kernel)
theorem ws_St_St_length54 : Cond.selects "java/lang/String" y_St_length54 y_St_length54 ∈ gw := gw_i 633 (by decide +kernel) (by decide +kernel)
abbrev b_St_coder152 : ByteArray := prog_21_method_152_code
def y_St_coder152 : MethodName := ⟨"java/lang/String", "coder", "()B"⟩
def j_St_coder152 : wq_J := [(.getstatic 38, (2, 0, 0, 0, 0)), (.ifCond .eq 10, (0, 13, 0, 0, 0)), (.aload_n 0, (0, 0, 0, 0, 0)), (.getfield 15, (2, 0, 0, 0, 0)), (.goto 4, (0, 14, 0, 0, 0)), (.iconst 1, (0, 0, 0, 1, 0)), (.ireturn, (0, 0, 0, 0, 0))]
theorem jc_St_coder152 : wq_c b_St_coder152 1 j_St_coder152 0 = true := by decide +kernel
theorem wm_St_coder152 : wm y_St_coder152 b_St_coder152 1 (some .byte) 0 := ⟨gw_i 11 (by decide +kernel) (by decide +kernel), gw_i 638 (by decide +kernel) (by decide +kernel), ⟨by decide, by decide⟩, by decide +kernel⟩
theorem wi_St_coder152 : Cond.instanceMethod y_St_coder152 ∈ gw := gw_i 636 (by decide +kernel) (by decide +kernel)
theorem ws_St_St_coder152 : Cond.selects "java/lang/String" y_St_coder152 y_St_coder152 ∈ gw := gw_i 637 (by decide +kernel) (by decide +kernel)
abbrev b_L1_indexOf22 : ByteArray := prog_23_method_22_code
def y_L1_indexOf22 : MethodName := ⟨"java/lang/StringLatin1", "indexOf", "([BIII)I"⟩
def j_L1_indexOf22 : wq_J := [(.iload_n 1, (0, 0, 0, 0, 0)), (.invokestatic 88, (0, 0, 0, 0, 0)), (.ifCond .ne 5, (0, 9, 0, 0, 0)), (.iconst (-1), (0, 0, 0, (-1), 0)), (.ireturn, (0, 0, 0, 0, 0)), (.iload_n 2, (0, 0, 0, 0, 0)), (.iconst 0, (0, 0, 0, 0, 0)), (.invokestatic 92, (0, 0, 0, 0, 0)), (.istore_n 2, (0, 0, 0, 0, 0)), (.iload_n 3, (0, 0, 0, 0, 0)), (.aload_n 0, (0, 0, 0, 0, 0)), (.arraylength, (2, 0, 0, 0, 0)), (.invokestatic 38, (0, 0, 0, 0, 0)), (.istore_n 3, (0, 0, 0, 0, 0)), (.iload_n 2, (0, 0, 0, 0, 0)), (.iload_n 3, (0, 0, 0, 0, 0)), (.if_icmp .lt 5, (0, 29, 0, 0, 0)), (.iconst (-1), (0, 0, 0, (-1), 0)), (.ireturn, (0, 0, 0, 0, 0)), (.aload_n 0, (0, 0, 0, 0, 0)), (.iload_n 1, (0, 0, 0, 0, 0)), (.iload_n 2, (0, 0, 0, 0, 0)), (.iload_n 3, (0, 0, 0, 0, 0)), (.invokestatic 95, (0, 0, 0, 0, 0)), (.ireturn, (0, 0, 0, 0, 0))]
theorem jc_L1_indexOf22 : wq_c b_L1_indexOf22 4 j_L1_indexOf22 0 = true := by decide +kernel
theorem wm_L1_indexOf22 : wm y_L1_indexOf22 b_L1_indexOf22 4 (some .int) 4 := ⟨gw_i 20 (by decide +kernel) (by decide +kernel), gw_i 641 (by decide +kernel) (by decide +kernel), ⟨by decide, by decide⟩, by decide +kernel⟩
theorem wt_L1_indexOf22 : Cond.static y_L1_indexOf22 ∈ gw := gw_i 640 (by decide +kernel) (by decide +kernel)
abbrev b_L1_canEncode4 : ByteArray := prog_23_method_4_code
def y_L1_canEncode4 : MethodName := ⟨"java/lang/StringLatin1", "canEncode", "(I)Z"⟩
def j_L1_canEncode4 : wq_J := [(.iload_n 0, (0, 0, 0, 0, 0)), (.ifCond .lt 14, (0, 15, 0, 0, 0)), (.iload_n 0, (0, 0, 0, 0, 0)), (.sipush 255, (0, 0, 0, 255, 0)), (.if_icmp .gt 7, (0, 15, 0, 0, 0)), (.iconst 1, (0, 0, 0, 1, 0)), (.goto 4, (0, 16, 0, 0, 0)), (.iconst 0, (0, 0, 0, 0, 0)), (.ireturn, (0, 0, 0, 0, 0))]
theorem jc_L1_canEncode4 : wq_c b_L1_canEncode4 1 j_L1_canEncode4 0 = true := by decide +kernel
theorem wm_L1_canEncode4 : wm y_L1_canEncode4 b_L1_canEncode4 1 (some .boolean) 1 := ⟨gw_i 20 (by decide +kernel) (by decide +kernel), gw_i 644 (by decide +kernel) (by decide +kernel), ⟨by decide, by decide⟩, by decide +kernel⟩
theorem wt_L1_canEncode4 : Cond.static y_L1_canEncode4 ∈ gw := gw_i 643 (by decide +kernel) (by decide +kernel)
abbrev b_L1_indexOfChar23 : ByteArray := prog_23_method_23_code
def y_L1_indexOfChar23 : MethodName := ⟨"java/lang/StringLatin1", "indexOfChar", "([BIII)I"⟩
def j_L1_indexOfChar23 : wq_J := [(.iload_n 1, (0, 0, 0, 0, 0)), (.i2b, (0, 0, 0, 0, 0)), (.istore 4, (0, 0, 0, 0, 0)), (.iload_n 2, (0, 0, 0, 0, 0)), (.istore 5, (0, 0, 0, 0, 0)), (.iload 5, (0, 0, 0, 0, 0)), (.iload_n 3, (0, 0, 0, 0, 0)), (.if_icmp .ge 21, (0, 31, 0, 0, 0)), (.aload_n 0, (0, 0, 0, 0, 0)), (.iload 5, (0, 0, 0, 0, 0)), (.baload, (2, 0, 0, 0, 0)), (.iload 4, (0, 0, 0, 0, 0)), (.if_icmp .ne 6, (0, 25, 0, 0, 0)), (.iload 5, (0, 0, 0, 0, 0)), (.ireturn, (0, 0, 0, 0, 0)), (.iinc 5 1, (0, 0, 0, 1, 0)), (.goto (-21), (0, 7, 0, 0, 0)), (.iconst (-1), (0, 0, 0, (-1), 0)), (.ireturn, (0, 0, 0, 0, 0))]
theorem jc_L1_indexOfChar23 : wq_c b_L1_indexOfChar23 6 j_L1_indexOfChar23 0 = true := by decide +kernel
theorem wm_L1_indexOfChar23 : wm y_L1_indexOfChar23 b_L1_indexOfChar23 6 (some .int) 4 := ⟨gw_i 20 (by decide +kernel) (by decide +kernel), gw_i 649 (by decide +kernel) (by decide +kernel), ⟨by decide, by decide⟩, by decide +kernel⟩
theorem wt_L1_indexOfChar23 : Cond.static y_L1_indexOfChar23 ∈ gw := gw_i 648 (by decide +kernel) (by decide +kernel)
abbrev b_St_charAt56 : ByteArray := prog_21_method_56_code
def y_St_charAt56 : MethodName := ⟨"java/lang/String", "charAt", "(I)C"⟩
def j_St_charAt56 : wq_J := [(.aload_n 0, (0, 0, 0, 0, 0)), (.invokevirtual 492, (0, 0, 0, 0, 0)), (.ifCond .eq 12, (0, 16, 0, 0, 0)), (.aload_n 0, (0, 0, 0, 0, 0)), (.getfield 9, (2, 0, 0, 0, 0)), (.iload_n 1, (0, 0, 0, 0, 0)), (.invokestatic 495, (0, 0, 0, 0, 0)), (.ireturn, (0, 0, 0, 0, 0)), (.aload_n 0, (0, 0, 0, 0, 0)), (.getfield 9, (2, 0, 0, 0, 0)), (.iload_n 1, (0, 0, 0, 0, 0)), (.invokestatic 498, (0, 0, 0, 0, 0)), (.ireturn, (0, 0, 0, 0, 0))]
theorem jc_St_charAt56 : wq_c b_St_charAt56 2 j_St_charAt56 0 = true := by decide +kernel
theorem wm_St_charAt56 : wm y_St_charAt56 b_St_charAt56 2 (some .char) 1 := ⟨gw_i 11 (by decide +kernel) (by decide +kernel), gw_i 691 (by decide +kernel) (by decide +kernel), ⟨by decide, by decide⟩, by decide +kernel⟩
theorem wi_St_charAt56 : Cond.instanceMethod y_St_charAt56 ∈ gw := gw_i 689 (by decide +kernel) (by decide +kernel)
theorem ws_St_St_charAt56 : Cond.selects "java/lang/String" y_St_charAt56 y_St_charAt56 ∈ gw := gw_i 690 (by decide +kernel) (by decide +kernel)
abbrev b_L1_charAt2 : ByteArray := prog_23_method_2_code
def y_L1_charAt2 : MethodName := ⟨"java/lang/StringLatin1", "charAt", "([BI)C"⟩
def j_L1_charAt2 : wq_J := [(.iload_n 1, (0, 0, 0, 0, 0)), (.aload_n 0, (0, 0, 0, 0, 0)), (.arraylength, (2, 0, 0, 0, 0)), (.invokestatic 9, (0, 0, 0, 0, 0)), (.aload_n 0, (0, 0, 0, 0, 0)), (.iload_n 1, (0, 0, 0, 0, 0)), (.baload, (2, 0, 0, 0, 0)), (.sipush 255, (0, 0, 0, 255, 0)), (.iand, (0, 0, 0, 0, 0)), (.i2c, (0, 0, 0, 0, 0)), (.ireturn, (0, 0, 0, 0, 0))]
theorem jc_L1_charAt2 : wq_c b_L1_charAt2 2 j_L1_charAt2 0 = true := by decide +kernel
theorem wm_L1_charAt2 : wm y_L1_charAt2 b_L1_charAt2 2 (some .char) 2 := ⟨gw_i 20 (by decide +kernel) (by decide +kernel), gw_i 694 (by decide +kernel) (by decide +kernel), ⟨by decide, by decide⟩, by decide +kernel⟩
theorem wt_L1_charAt2 : Cond.static y_L1_charAt2 ∈ gw := gw_i 693 (by decide +kernel) (by decide +kernel)
theorem wf_Ab_18 : Cond.fieldLink "java/lang/AbstractStringBuilder" 18 "java/lang/String" "COMPACT_STRINGS" "Z" ∈ gw := gw_i 187 (by decide +kernel) (by decide +kernel)
theorem wf_Ab_15 : Cond.fieldLink "java/lang/AbstractStringBuilder" 15 "java/lang/AbstractStringBuilder" "value" "[B" ∈ gw := gw_i 196 (by decide +kernel) (by decide +kernel)
theorem wf_Ab_22 : Cond.fieldLink "java/lang/AbstractStringBuilder" 22 "java/lang/AbstractStringBuilder" "coder" "B" ∈ gw := gw_i 197 (by decide +kernel) (by decide +kernel)
theorem wf_Ab_73 : Cond.fieldLink "java/lang/AbstractStringBuilder" 73 "java/lang/AbstractStringBuilder" "maybeLatin1" "Z" ∈ gw := gw_i 198 (by decide +kernel) (by decide +kernel)
theorem wf_St_1048 : Cond.fieldLink "java/lang/String" 1048 "java/lang/AbstractStringBuilder" "maybeLatin1" "Z" ∈ gw := gw_i 199 (by decide +kernel) (by decide +kernel)
theorem wf_Ab_79 : Cond.fieldLink "java/lang/AbstractStringBuilder" 79 "java/lang/AbstractStringBuilder" "count" "I" ∈ gw := gw_i 200 (by decide +kernel) (by decide +kernel)
theorem wf_St_1053 : Cond.fieldLink "java/lang/String" 1053 "jdk/internal/util/Preconditions" "SIOOBE_FORMATTER" "Ljava/util/function/BiFunction;" ∈ gw := gw_i 395 (by decide +kernel) (by decide +kernel)
theorem wf_U6_44 : Cond.fieldLink "java/lang/StringUTF16" 44 "java/lang/StringUTF16" "$assertionsDisabled" "Z" ∈ gw := gw_i 403 (by decide +kernel) (by decide +kernel)
theorem wf_U6_59 : Cond.fieldLink "java/lang/StringUTF16" 59 "java/lang/StringUTF16" "HI_BYTE_SHIFT" "I" ∈ gw := gw_i 405 (by decide +kernel) (by decide +kernel)
theorem wf_U6_63 : Cond.fieldLink "java/lang/StringUTF16" 63 "java/lang/StringUTF16" "LO_BYTE_SHIFT" "I" ∈ gw := gw_i 407 (by decide +kernel) (by decide +kernel)
theorem wl_U6_414 : Cond.methodLink "java/lang/StringUTF16" 414 y_St_checkIndex155 ∈ gw := gw_i 415 (by decide +kernel) (by decide +kernel)
theorem wl_St_1059 : Cond.methodLink "java/lang/String" 1059 y_Pr_checkIndex11 ∈ gw := gw_i 418 (by decide +kernel) (by decide +kernel)
theorem wf_In_83 : Cond.fieldLink "java/lang/Integer" 83 "java/lang/Integer" "DigitOnes" "[B" ∈ gw := gw_i 434 (by decide +kernel) (by decide +kernel)
theorem wf_In_87 : Cond.fieldLink "java/lang/Integer" 87 "java/lang/Integer" "DigitTens" "[B" ∈ gw := gw_i 436 (by decide +kernel) (by decide +kernel)
theorem wf_U6_403 : Cond.fieldLink "java/lang/StringUTF16" 403 "java/lang/Integer" "DigitOnes" "[B" ∈ gw := gw_i 453 (by decide +kernel) (by decide +kernel)
theorem wf_U6_407 : Cond.fieldLink "java/lang/StringUTF16" 407 "java/lang/Integer" "DigitTens" "[B" ∈ gw := gw_i 454 (by decide +kernel) (by decide +kernel)
theorem wf_St_38 : Cond.fieldLink "java/lang/String" 38 "java/lang/String" "COMPACT_STRINGS" "Z" ∈ gw := gw_i 491 (by decide +kernel) (by decide +kernel)
theorem wf_St_9 : Cond.fieldLink "java/lang/String" 9 "java/lang/String" "value" "[B" ∈ gw := gw_i 505 (by decide +kernel) (by decide +kernel)
theorem wf_St_15 : Cond.fieldLink "java/lang/String" 15 "java/lang/String" "coder" "B" ∈ gw := gw_i 506 (by decide +kernel) (by decide +kernel)
theorem wl_Rd_64 : Cond.methodLink "OriginDesk$Reader" 64 y_St_indexOf79 ∈ gw := gw_i 619 (by decide +kernel) (by decide +kernel)
theorem wl_St_633 : Cond.methodLink "java/lang/String" 633 y_St_indexOf80 ∈ gw := gw_i 623 (by decide +kernel) (by decide +kernel)
theorem wl_St_492 : Cond.methodLink "java/lang/String" 492 y_St_isLatin1154 ∈ gw := gw_i 627 (by decide +kernel) (by decide +kernel)
theorem wl_St_505 : Cond.methodLink "java/lang/String" 505 y_St_length54 ∈ gw := gw_i 631 (by decide +kernel) (by decide +kernel)
theorem wl_St_335 : Cond.methodLink "java/lang/String" 335 y_St_coder152 ∈ gw := gw_i 635 (by decide +kernel) (by decide +kernel)
theorem wl_St_637 : Cond.methodLink "java/lang/String" 637 y_L1_indexOf22 ∈ gw := gw_i 639 (by decide +kernel) (by decide +kernel)
theorem wl_L1_88 : Cond.methodLink "java/lang/StringLatin1" 88 y_L1_canEncode4 ∈ gw := gw_i 642 (by decide +kernel) (by decide +kernel)
theorem wl_L1_95 : Cond.methodLink "java/lang/StringLatin1" 95 y_L1_indexOfChar23 ∈ gw := gw_i 647 (by decide +kernel) (by decide +kernel)
theorem wl_Rd_45 : Cond.methodLink "OriginDesk$Reader" 45 y_St_length54 ∈ gw := gw_i 687 (by decide +kernel) (by decide +kernel)
theorem wl_Rd_51 : Cond.methodLink "OriginDesk$Reader" 51 y_St_charAt56 ∈ gw := gw_i 688 (by decide +kernel) (by decide +kernel)
theorem wl_St_495 : Cond.methodLink "java/lang/String" 495 y_L1_charAt2 ∈ gw := gw_i 692 (by decide +kernel) (by decide +kernel)
theorem wl_L1_9 : Cond.methodLink "java/lang/StringLatin1" 9 y_St_checkIndex155 ∈ gw := gw_i 695 (by decide +kernel) (by decide +kernel)
theorem wl_Rs_72 : Cond.methodLink "OriginDesk$Response" 72 y_St_length54 ∈ gw := gw_i 1057 (by decide +kernel) (by decide +kernel)
theorem wl_Ab_32 : Cond.methodLink "java/lang/AbstractStringBuilder" 32 y_St_length54 ∈ gw := gw_i 1097 (by decide +kernel) (by decide +kernel)
theorem wl_Ab_40 : Cond.methodLink "java/lang/AbstractStringBuilder" 40 y_St_coder152 ∈ gw := gw_i 1106 (by decide +kernel) (by decide +kernel)
theorem wl_Ab_144 : Cond.methodLink "java/lang/AbstractStringBuilder" 144 y_St_checkIndex155 ∈ gw := gw_i 1154 (by decide +kernel) (by decide +kernel)
theorem wl_Rs_88 : Cond.methodLink "OriginDesk$Response" 88 y_St_charAt56 ∈ gw := gw_i 1156 (by decide +kernel) (by decide +kernel)
