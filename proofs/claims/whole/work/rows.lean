section
-- ===== PART A: goes FIRST, ahead of the names: the tables' words, and 'selects' of the private methods out of them =====
/-- a private method of a class that the tables say can be made, by its rows of tables_1 -/
def lw_okq (q : MethodName × Nat) : Prop := (q.1.cls ≠ "java/lang/invoke/MethodHandle" ∧ q.1.cls ≠ "java/lang/invoke/VarHandle") ∧ Cond.instantiable q.1.cls q.2 ∈ tables_1 ∧ Cond.privateMethod q.1 ∈ tables_1 ∧ Cond.instanceMethod q.1 ∈ tables_1
theorem lw_p0 : lw_okq (⟨"OriginDesk", "codeWithoutChoice", "()I"⟩, 9) := ⟨⟨by decide +kernel, by decide +kernel⟩, List.mem_of_getElem? (i := 28) (by decide +kernel), List.mem_of_getElem? (i := 577) (by decide +kernel), List.mem_of_getElem? (i := 578) (by decide +kernel)⟩
theorem lw_p1 : lw_okq (⟨"OriginDesk", "choose", "()LOriginDesk$Representation;"⟩, 9) := ⟨⟨by decide +kernel, by decide +kernel⟩, List.mem_of_getElem? (i := 28) (by decide +kernel), List.mem_of_getElem? (i := 581) (by decide +kernel), List.mem_of_getElem? (i := 582) (by decide +kernel)⟩
theorem lw_p2 : lw_okq (⟨"OriginDesk", "scoreOf", "(LOriginDesk$Representation;)I"⟩, 9) := ⟨⟨by decide +kernel, by decide +kernel⟩, List.mem_of_getElem? (i := 28) (by decide +kernel), List.mem_of_getElem? (i := 585) (by decide +kernel), List.mem_of_getElem? (i := 586) (by decide +kernel)⟩
theorem lw_p3 : lw_okq (⟨"OriginDesk$Accept", "readTokens", "(LOriginDesk$MediaType;)Z"⟩, 10) := ⟨⟨by decide +kernel, by decide +kernel⟩, List.mem_of_getElem? (i := 60) (by decide +kernel), List.mem_of_getElem? (i := 609) (by decide +kernel), List.mem_of_getElem? (i := 610) (by decide +kernel)⟩
theorem lw_p4 : lw_okq (⟨"OriginDesk$Accept", "readParameters", "(LOriginDesk$MediaType;)Z"⟩, 10) := ⟨⟨by decide +kernel, by decide +kernel⟩, List.mem_of_getElem? (i := 60) (by decide +kernel), List.mem_of_getElem? (i := 721) (by decide +kernel), List.mem_of_getElem? (i := 722) (by decide +kernel)⟩
theorem lw_p5 : lw_okq (⟨"OriginDesk$Accept", "weigh", "()V"⟩, 10) := ⟨⟨by decide +kernel, by decide +kernel⟩, List.mem_of_getElem? (i := 60) (by decide +kernel), List.mem_of_getElem? (i := 772) (by decide +kernel), List.mem_of_getElem? (i := 773) (by decide +kernel)⟩
theorem lw_p6 : lw_okq (⟨"OriginDesk$Languages", "readRange", "(LOriginDesk$Language;)Z"⟩, 7) := ⟨⟨by decide +kernel, by decide +kernel⟩, List.mem_of_getElem? (i := 101) (by decide +kernel), List.mem_of_getElem? (i := 788) (by decide +kernel), List.mem_of_getElem? (i := 789) (by decide +kernel)⟩
theorem lw_p7 : lw_okq (⟨"OriginDesk$Languages", "fitOf", "(LOriginDesk$Language;)I"⟩, 7) := ⟨⟨by decide +kernel, by decide +kernel⟩, List.mem_of_getElem? (i := 101) (by decide +kernel), List.mem_of_getElem? (i := 810) (by decide +kernel), List.mem_of_getElem? (i := 811) (by decide +kernel)⟩
theorem lw_p8 : lw_okq (⟨"OriginDesk", "codeFor", "(LOriginDesk$Representation;)I"⟩, 9) := ⟨⟨by decide +kernel, by decide +kernel⟩, List.mem_of_getElem? (i := 28) (by decide +kernel), List.mem_of_getElem? (i := 830) (by decide +kernel), List.mem_of_getElem? (i := 831) (by decide +kernel)⟩
theorem lw_p9 : lw_okq (⟨"OriginDesk", "isRefused", "(LOriginDesk$Representation;)Z"⟩, 9) := ⟨⟨by decide +kernel, by decide +kernel⟩, List.mem_of_getElem? (i := 28) (by decide +kernel), List.mem_of_getElem? (i := 834) (by decide +kernel), List.mem_of_getElem? (i := 835) (by decide +kernel)⟩
theorem lw_p10 : lw_okq (⟨"OriginDesk$Tags", "begin", "(LOriginDesk$Request;I)V"⟩, 8) := ⟨⟨by decide +kernel, by decide +kernel⟩, List.mem_of_getElem? (i := 120) (by decide +kernel), List.mem_of_getElem? (i := 843) (by decide +kernel), List.mem_of_getElem? (i := 844) (by decide +kernel)⟩
theorem lw_p11 : lw_okq (⟨"OriginDesk$Tags", "readTag", "(Ljava/lang/String;)Z"⟩, 8) := ⟨⟨by decide +kernel, by decide +kernel⟩, List.mem_of_getElem? (i := 120) (by decide +kernel), List.mem_of_getElem? (i := 866) (by decide +kernel), List.mem_of_getElem? (i := 867) (by decide +kernel)⟩
theorem lw_p12 : lw_okq (⟨"OriginDesk$Dates", "takeCommaForm", "()Z"⟩, 10) := ⟨⟨by decide +kernel, by decide +kernel⟩, List.mem_of_getElem? (i := 244) (by decide +kernel), List.mem_of_getElem? (i := 913) (by decide +kernel), List.mem_of_getElem? (i := 914) (by decide +kernel)⟩
theorem lw_p13 : lw_okq (⟨"OriginDesk$Dates", "takeDay", "()Z"⟩, 10) := ⟨⟨by decide +kernel, by decide +kernel⟩, List.mem_of_getElem? (i := 244) (by decide +kernel), List.mem_of_getElem? (i := 917) (by decide +kernel), List.mem_of_getElem? (i := 918) (by decide +kernel)⟩
theorem lw_p14 : lw_okq (⟨"OriginDesk$Dates", "takeMonth", "()Z"⟩, 10) := ⟨⟨by decide +kernel, by decide +kernel⟩, List.mem_of_getElem? (i := 244) (by decide +kernel), List.mem_of_getElem? (i := 927) (by decide +kernel), List.mem_of_getElem? (i := 928) (by decide +kernel)⟩
theorem lw_p15 : lw_okq (⟨"OriginDesk$Dates", "takeYear", "()Z"⟩, 10) := ⟨⟨by decide +kernel, by decide +kernel⟩, List.mem_of_getElem? (i := 244) (by decide +kernel), List.mem_of_getElem? (i := 932) (by decide +kernel), List.mem_of_getElem? (i := 933) (by decide +kernel)⟩
def lw_privs_1 : List (MethodName × Nat) := [(⟨"OriginDesk", "codeWithoutChoice", "()I"⟩, 9), (⟨"OriginDesk", "choose", "()LOriginDesk$Representation;"⟩, 9), (⟨"OriginDesk", "scoreOf", "(LOriginDesk$Representation;)I"⟩, 9), (⟨"OriginDesk$Accept", "readTokens", "(LOriginDesk$MediaType;)Z"⟩, 10), (⟨"OriginDesk$Accept", "readParameters", "(LOriginDesk$MediaType;)Z"⟩, 10), (⟨"OriginDesk$Accept", "weigh", "()V"⟩, 10), (⟨"OriginDesk$Languages", "readRange", "(LOriginDesk$Language;)Z"⟩, 7), (⟨"OriginDesk$Languages", "fitOf", "(LOriginDesk$Language;)I"⟩, 7), (⟨"OriginDesk", "codeFor", "(LOriginDesk$Representation;)I"⟩, 9), (⟨"OriginDesk", "isRefused", "(LOriginDesk$Representation;)Z"⟩, 9), (⟨"OriginDesk$Tags", "begin", "(LOriginDesk$Request;I)V"⟩, 8), (⟨"OriginDesk$Tags", "readTag", "(Ljava/lang/String;)Z"⟩, 8), (⟨"OriginDesk$Dates", "takeCommaForm", "()Z"⟩, 10), (⟨"OriginDesk$Dates", "takeDay", "()Z"⟩, 10), (⟨"OriginDesk$Dates", "takeMonth", "()Z"⟩, 10), (⟨"OriginDesk$Dates", "takeYear", "()Z"⟩, 10)]
theorem lw_r1 : ∀ q ∈ lw_privs_1, lw_okq q := List.forall_mem_cons.mpr ⟨lw_p0, List.forall_mem_cons.mpr ⟨lw_p1, List.forall_mem_cons.mpr ⟨lw_p2, List.forall_mem_cons.mpr ⟨lw_p3, List.forall_mem_cons.mpr ⟨lw_p4, List.forall_mem_cons.mpr ⟨lw_p5, List.forall_mem_cons.mpr ⟨lw_p6, List.forall_mem_cons.mpr ⟨lw_p7, List.forall_mem_cons.mpr ⟨lw_p8, List.forall_mem_cons.mpr ⟨lw_p9, List.forall_mem_cons.mpr ⟨lw_p10, List.forall_mem_cons.mpr ⟨lw_p11, List.forall_mem_cons.mpr ⟨lw_p12, List.forall_mem_cons.mpr ⟨lw_p13, List.forall_mem_cons.mpr ⟨lw_p14, List.forall_mem_cons.mpr ⟨lw_p15, fun _ h => absurd h List.not_mem_nil⟩⟩⟩⟩⟩⟩⟩⟩⟩⟩⟩⟩⟩⟩⟩⟩
theorem lw_p16 : lw_okq (⟨"OriginDesk$Dates", "takeClock", "()Z"⟩, 10) := ⟨⟨by decide +kernel, by decide +kernel⟩, List.mem_of_getElem? (i := 244) (by decide +kernel), List.mem_of_getElem? (i := 936) (by decide +kernel), List.mem_of_getElem? (i := 937) (by decide +kernel)⟩
theorem lw_p17 : lw_okq (⟨"OriginDesk$Dates", "takeSpaceForm", "()Z"⟩, 10) := ⟨⟨by decide +kernel, by decide +kernel⟩, List.mem_of_getElem? (i := 244) (by decide +kernel), List.mem_of_getElem? (i := 944) (by decide +kernel), List.mem_of_getElem? (i := 945) (by decide +kernel)⟩
theorem lw_p18 : lw_okq (⟨"OriginDesk$Dates", "takeSpacedDay", "()Z"⟩, 10) := ⟨⟨by decide +kernel, by decide +kernel⟩, List.mem_of_getElem? (i := 244) (by decide +kernel), List.mem_of_getElem? (i := 948) (by decide +kernel), List.mem_of_getElem? (i := 949) (by decide +kernel)⟩
theorem lw_p19 : lw_okq (⟨"OriginDesk$Dates", "takeDashForm", "()Z"⟩, 10) := ⟨⟨by decide +kernel, by decide +kernel⟩, List.mem_of_getElem? (i := 244) (by decide +kernel), List.mem_of_getElem? (i := 960) (by decide +kernel), List.mem_of_getElem? (i := 961) (by decide +kernel)⟩
theorem lw_p20 : lw_okq (⟨"OriginDesk$Dates", "takeShortYear", "()Z"⟩, 10) := ⟨⟨by decide +kernel, by decide +kernel⟩, List.mem_of_getElem? (i := 244) (by decide +kernel), List.mem_of_getElem? (i := 965) (by decide +kernel), List.mem_of_getElem? (i := 966) (by decide +kernel)⟩
theorem lw_p21 : lw_okq (⟨"OriginDesk$Dates", "isInCalendar", "()Z"⟩, 10) := ⟨⟨by decide +kernel, by decide +kernel⟩, List.mem_of_getElem? (i := 244) (by decide +kernel), List.mem_of_getElem? (i := 972) (by decide +kernel), List.mem_of_getElem? (i := 973) (by decide +kernel)⟩
theorem lw_p22 : lw_okq (⟨"OriginDesk$Dates", "time", "()J"⟩, 10) := ⟨⟨by decide +kernel, by decide +kernel⟩, List.mem_of_getElem? (i := 244) (by decide +kernel), List.mem_of_getElem? (i := 981) (by decide +kernel), List.mem_of_getElem? (i := 982) (by decide +kernel)⟩
theorem lw_p23 : lw_okq (⟨"OriginDesk", "isUnchanged", "(LOriginDesk$Representation;)Z"⟩, 9) := ⟨⟨by decide +kernel, by decide +kernel⟩, List.mem_of_getElem? (i := 28) (by decide +kernel), List.mem_of_getElem? (i := 986) (by decide +kernel), List.mem_of_getElem? (i := 987) (by decide +kernel)⟩
theorem lw_p24 : lw_okq (⟨"OriginDesk$Ranges", "readSpec", "(I)Z"⟩, 9) := ⟨⟨by decide +kernel, by decide +kernel⟩, List.mem_of_getElem? (i := 144) (by decide +kernel), List.mem_of_getElem? (i := 1013) (by decide +kernel), List.mem_of_getElem? (i := 1014) (by decide +kernel)⟩
theorem lw_p25 : lw_okq (⟨"OriginDesk$Ranges", "keep", "(II)V"⟩, 9) := ⟨⟨by decide +kernel, by decide +kernel⟩, List.mem_of_getElem? (i := 144) (by decide +kernel), List.mem_of_getElem? (i := 1025) (by decide +kernel), List.mem_of_getElem? (i := 1026) (by decide +kernel)⟩
theorem lw_p26 : lw_okq (⟨"OriginDesk", "isRangeWanted", "(LOriginDesk$Representation;)Z"⟩, 9) := ⟨⟨by decide +kernel, by decide +kernel⟩, List.mem_of_getElem? (i := 28) (by decide +kernel), List.mem_of_getElem? (i := 1033) (by decide +kernel), List.mem_of_getElem? (i := 1034) (by decide +kernel)⟩
theorem lw_p27 : lw_okq (⟨"OriginDesk$Response", "measure", "()I"⟩, 8) := ⟨⟨by decide +kernel, by decide +kernel⟩, List.mem_of_getElem? (i := 173) (by decide +kernel), List.mem_of_getElem? (i := 1049) (by decide +kernel), List.mem_of_getElem? (i := 1050) (by decide +kernel)⟩
theorem lw_p28 : lw_okq (⟨"OriginDesk$Response", "partSize", "(I)I"⟩, 8) := ⟨⟨by decide +kernel, by decide +kernel⟩, List.mem_of_getElem? (i := 173) (by decide +kernel), List.mem_of_getElem? (i := 1053) (by decide +kernel), List.mem_of_getElem? (i := 1054) (by decide +kernel)⟩
theorem lw_p29 : lw_okq (⟨"OriginDesk$Response", "writeHeading", "(II)V"⟩, 8) := ⟨⟨by decide +kernel, by decide +kernel⟩, List.mem_of_getElem? (i := 173) (by decide +kernel), List.mem_of_getElem? (i := 1059) (by decide +kernel), List.mem_of_getElem? (i := 1060) (by decide +kernel)⟩
theorem lw_p30 : lw_okq (⟨"OriginDesk$Response", "byteAmongParts", "(LOriginDesk$Representation;I)I"⟩, 8) := ⟨⟨by decide +kernel, by decide +kernel⟩, List.mem_of_getElem? (i := 173) (by decide +kernel), List.mem_of_getElem? (i := 1143) (by decide +kernel), List.mem_of_getElem? (i := 1144) (by decide +kernel)⟩
theorem lw_p31 : lw_okq (⟨"OriginDeskModel", "decide", "()I"⟩, 31) := ⟨⟨by decide +kernel, by decide +kernel⟩, List.mem_of_getElem? (i := 1194) (by decide +kernel), List.mem_of_getElem? (i := 1335) (by decide +kernel), List.mem_of_getElem? (i := 1336) (by decide +kernel)⟩
def lw_privs_2 : List (MethodName × Nat) := [(⟨"OriginDesk$Dates", "takeClock", "()Z"⟩, 10), (⟨"OriginDesk$Dates", "takeSpaceForm", "()Z"⟩, 10), (⟨"OriginDesk$Dates", "takeSpacedDay", "()Z"⟩, 10), (⟨"OriginDesk$Dates", "takeDashForm", "()Z"⟩, 10), (⟨"OriginDesk$Dates", "takeShortYear", "()Z"⟩, 10), (⟨"OriginDesk$Dates", "isInCalendar", "()Z"⟩, 10), (⟨"OriginDesk$Dates", "time", "()J"⟩, 10), (⟨"OriginDesk", "isUnchanged", "(LOriginDesk$Representation;)Z"⟩, 9), (⟨"OriginDesk$Ranges", "readSpec", "(I)Z"⟩, 9), (⟨"OriginDesk$Ranges", "keep", "(II)V"⟩, 9), (⟨"OriginDesk", "isRangeWanted", "(LOriginDesk$Representation;)Z"⟩, 9), (⟨"OriginDesk$Response", "measure", "()I"⟩, 8), (⟨"OriginDesk$Response", "partSize", "(I)I"⟩, 8), (⟨"OriginDesk$Response", "writeHeading", "(II)V"⟩, 8), (⟨"OriginDesk$Response", "byteAmongParts", "(LOriginDesk$Representation;I)I"⟩, 8), (⟨"OriginDeskModel", "decide", "()I"⟩, 31)]
theorem lw_r2 : ∀ q ∈ lw_privs_2, lw_okq q := List.forall_mem_cons.mpr ⟨lw_p16, List.forall_mem_cons.mpr ⟨lw_p17, List.forall_mem_cons.mpr ⟨lw_p18, List.forall_mem_cons.mpr ⟨lw_p19, List.forall_mem_cons.mpr ⟨lw_p20, List.forall_mem_cons.mpr ⟨lw_p21, List.forall_mem_cons.mpr ⟨lw_p22, List.forall_mem_cons.mpr ⟨lw_p23, List.forall_mem_cons.mpr ⟨lw_p24, List.forall_mem_cons.mpr ⟨lw_p25, List.forall_mem_cons.mpr ⟨lw_p26, List.forall_mem_cons.mpr ⟨lw_p27, List.forall_mem_cons.mpr ⟨lw_p28, List.forall_mem_cons.mpr ⟨lw_p29, List.forall_mem_cons.mpr ⟨lw_p30, List.forall_mem_cons.mpr ⟨lw_p31, fun _ h => absurd h List.not_mem_nil⟩⟩⟩⟩⟩⟩⟩⟩⟩⟩⟩⟩⟩⟩⟩⟩
theorem lw_p32 : lw_okq (⟨"OriginDeskModel", "chosenOne", "()I"⟩, 31) := ⟨⟨by decide +kernel, by decide +kernel⟩, List.mem_of_getElem? (i := 1194) (by decide +kernel), List.mem_of_getElem? (i := 1339) (by decide +kernel), List.mem_of_getElem? (i := 1340) (by decide +kernel)⟩
theorem lw_p33 : lw_okq (⟨"OriginDeskModel", "scoreOf", "(I)I"⟩, 31) := ⟨⟨by decide +kernel, by decide +kernel⟩, List.mem_of_getElem? (i := 1194) (by decide +kernel), List.mem_of_getElem? (i := 1343) (by decide +kernel), List.mem_of_getElem? (i := 1344) (by decide +kernel)⟩
theorem lw_p34 : lw_okq (⟨"OriginDeskModel", "there", "(I)Z"⟩, 31) := ⟨⟨by decide +kernel, by decide +kernel⟩, List.mem_of_getElem? (i := 1194) (by decide +kernel), List.mem_of_getElem? (i := 1347) (by decide +kernel), List.mem_of_getElem? (i := 1348) (by decide +kernel)⟩
theorem lw_p35 : lw_okq (⟨"OriginDeskModel", "accepted", "(I)I"⟩, 31) := ⟨⟨by decide +kernel, by decide +kernel⟩, List.mem_of_getElem? (i := 1194) (by decide +kernel), List.mem_of_getElem? (i := 1351) (by decide +kernel), List.mem_of_getElem? (i := 1352) (by decide +kernel)⟩
theorem lw_p36 : lw_okq (⟨"OriginDeskModel", "open", "(I)V"⟩, 31) := ⟨⟨by decide +kernel, by decide +kernel⟩, List.mem_of_getElem? (i := 1194) (by decide +kernel), List.mem_of_getElem? (i := 1355) (by decide +kernel), List.mem_of_getElem? (i := 1356) (by decide +kernel)⟩
theorem lw_p37 : lw_okq (⟨"OriginDeskModel", "element", "()Z"⟩, 31) := ⟨⟨by decide +kernel, by decide +kernel⟩, List.mem_of_getElem? (i := 1194) (by decide +kernel), List.mem_of_getElem? (i := 1359) (by decide +kernel), List.mem_of_getElem? (i := 1360) (by decide +kernel)⟩
theorem lw_p38 : lw_okq (⟨"OriginDeskModel", "gap", "()V"⟩, 31) := ⟨⟨by decide +kernel, by decide +kernel⟩, List.mem_of_getElem? (i := 1194) (by decide +kernel), List.mem_of_getElem? (i := 1363) (by decide +kernel), List.mem_of_getElem? (i := 1364) (by decide +kernel)⟩
theorem lw_p39 : lw_okq (⟨"OriginDeskModel", "next", "()I"⟩, 31) := ⟨⟨by decide +kernel, by decide +kernel⟩, List.mem_of_getElem? (i := 1194) (by decide +kernel), List.mem_of_getElem? (i := 1367) (by decide +kernel), List.mem_of_getElem? (i := 1368) (by decide +kernel)⟩
theorem lw_p40 : lw_okq (⟨"OriginDeskModel", "charAt", "(I)I"⟩, 31) := ⟨⟨by decide +kernel, by decide +kernel⟩, List.mem_of_getElem? (i := 1194) (by decide +kernel), List.mem_of_getElem? (i := 1371) (by decide +kernel), List.mem_of_getElem? (i := 1372) (by decide +kernel)⟩
theorem lw_p41 : lw_okq (⟨"OriginDeskModel", "take", "(I)Z"⟩, 31) := ⟨⟨by decide +kernel, by decide +kernel⟩, List.mem_of_getElem? (i := 1194) (by decide +kernel), List.mem_of_getElem? (i := 1375) (by decide +kernel), List.mem_of_getElem? (i := 1376) (by decide +kernel)⟩
theorem lw_p42 : lw_okq (⟨"OriginDeskModel", "ended", "()Z"⟩, 31) := ⟨⟨by decide +kernel, by decide +kernel⟩, List.mem_of_getElem? (i := 1194) (by decide +kernel), List.mem_of_getElem? (i := 1379) (by decide +kernel), List.mem_of_getElem? (i := 1380) (by decide +kernel)⟩
theorem lw_p43 : lw_okq (⟨"OriginDeskModel", "mediaRange", "(I)I"⟩, 31) := ⟨⟨by decide +kernel, by decide +kernel⟩, List.mem_of_getElem? (i := 1194) (by decide +kernel), List.mem_of_getElem? (i := 1383) (by decide +kernel), List.mem_of_getElem? (i := 1384) (by decide +kernel)⟩
theorem lw_p44 : lw_okq (⟨"OriginDeskModel", "token", "()Z"⟩, 31) := ⟨⟨by decide +kernel, by decide +kernel⟩, List.mem_of_getElem? (i := 1194) (by decide +kernel), List.mem_of_getElem? (i := 1387) (by decide +kernel), List.mem_of_getElem? (i := 1388) (by decide +kernel)⟩
theorem lw_p45 : lw_okq (⟨"OriginDeskModel", "starred", "(II)Z"⟩, 31) := ⟨⟨by decide +kernel, by decide +kernel⟩, List.mem_of_getElem? (i := 1194) (by decide +kernel), List.mem_of_getElem? (i := 1400) (by decide +kernel), List.mem_of_getElem? (i := 1401) (by decide +kernel)⟩
theorem lw_p46 : lw_okq (⟨"OriginDeskModel", "isMain", "(III)Z"⟩, 31) := ⟨⟨by decide +kernel, by decide +kernel⟩, List.mem_of_getElem? (i := 1194) (by decide +kernel), List.mem_of_getElem? (i := 1404) (by decide +kernel), List.mem_of_getElem? (i := 1405) (by decide +kernel)⟩
theorem lw_p47 : lw_okq (⟨"OriginDeskModel", "says", "(IJ)Z"⟩, 31) := ⟨⟨by decide +kernel, by decide +kernel⟩, List.mem_of_getElem? (i := 1194) (by decide +kernel), List.mem_of_getElem? (i := 1408) (by decide +kernel), List.mem_of_getElem? (i := 1409) (by decide +kernel)⟩
def lw_privs_3 : List (MethodName × Nat) := [(⟨"OriginDeskModel", "chosenOne", "()I"⟩, 31), (⟨"OriginDeskModel", "scoreOf", "(I)I"⟩, 31), (⟨"OriginDeskModel", "there", "(I)Z"⟩, 31), (⟨"OriginDeskModel", "accepted", "(I)I"⟩, 31), (⟨"OriginDeskModel", "open", "(I)V"⟩, 31), (⟨"OriginDeskModel", "element", "()Z"⟩, 31), (⟨"OriginDeskModel", "gap", "()V"⟩, 31), (⟨"OriginDeskModel", "next", "()I"⟩, 31), (⟨"OriginDeskModel", "charAt", "(I)I"⟩, 31), (⟨"OriginDeskModel", "take", "(I)Z"⟩, 31), (⟨"OriginDeskModel", "ended", "()Z"⟩, 31), (⟨"OriginDeskModel", "mediaRange", "(I)I"⟩, 31), (⟨"OriginDeskModel", "token", "()Z"⟩, 31), (⟨"OriginDeskModel", "starred", "(II)Z"⟩, 31), (⟨"OriginDeskModel", "isMain", "(III)Z"⟩, 31), (⟨"OriginDeskModel", "says", "(IJ)Z"⟩, 31)]
theorem lw_r3 : ∀ q ∈ lw_privs_3, lw_okq q := List.forall_mem_cons.mpr ⟨lw_p32, List.forall_mem_cons.mpr ⟨lw_p33, List.forall_mem_cons.mpr ⟨lw_p34, List.forall_mem_cons.mpr ⟨lw_p35, List.forall_mem_cons.mpr ⟨lw_p36, List.forall_mem_cons.mpr ⟨lw_p37, List.forall_mem_cons.mpr ⟨lw_p38, List.forall_mem_cons.mpr ⟨lw_p39, List.forall_mem_cons.mpr ⟨lw_p40, List.forall_mem_cons.mpr ⟨lw_p41, List.forall_mem_cons.mpr ⟨lw_p42, List.forall_mem_cons.mpr ⟨lw_p43, List.forall_mem_cons.mpr ⟨lw_p44, List.forall_mem_cons.mpr ⟨lw_p45, List.forall_mem_cons.mpr ⟨lw_p46, List.forall_mem_cons.mpr ⟨lw_p47, fun _ h => absurd h List.not_mem_nil⟩⟩⟩⟩⟩⟩⟩⟩⟩⟩⟩⟩⟩⟩⟩⟩
theorem lw_p48 : lw_okq (⟨"OriginDeskModel", "isWord", "(IIJ)Z"⟩, 31) := ⟨⟨by decide +kernel, by decide +kernel⟩, List.mem_of_getElem? (i := 1194) (by decide +kernel), List.mem_of_getElem? (i := 1418) (by decide +kernel), List.mem_of_getElem? (i := 1419) (by decide +kernel)⟩
theorem lw_p49 : lw_okq (⟨"OriginDeskModel", "isSub", "(III)Z"⟩, 31) := ⟨⟨by decide +kernel, by decide +kernel⟩, List.mem_of_getElem? (i := 1194) (by decide +kernel), List.mem_of_getElem? (i := 1422) (by decide +kernel), List.mem_of_getElem? (i := 1423) (by decide +kernel)⟩
theorem lw_p50 : lw_okq (⟨"OriginDeskModel", "semicolon", "()Z"⟩, 31) := ⟨⟨by decide +kernel, by decide +kernel⟩, List.mem_of_getElem? (i := 1194) (by decide +kernel), List.mem_of_getElem? (i := 1426) (by decide +kernel), List.mem_of_getElem? (i := 1427) (by decide +kernel)⟩
theorem lw_p51 : lw_okq (⟨"OriginDeskModel", "weight", "()Z"⟩, 31) := ⟨⟨by decide +kernel, by decide +kernel⟩, List.mem_of_getElem? (i := 1194) (by decide +kernel), List.mem_of_getElem? (i := 1430) (by decide +kernel), List.mem_of_getElem? (i := 1431) (by decide +kernel)⟩
theorem lw_p52 : lw_okq (⟨"OriginDeskModel", "assigned", "()Z"⟩, 31) := ⟨⟨by decide +kernel, by decide +kernel⟩, List.mem_of_getElem? (i := 1194) (by decide +kernel), List.mem_of_getElem? (i := 1434) (by decide +kernel), List.mem_of_getElem? (i := 1435) (by decide +kernel)⟩
theorem lw_p53 : lw_okq (⟨"OriginDeskModel", "quoted", "()Z"⟩, 31) := ⟨⟨by decide +kernel, by decide +kernel⟩, List.mem_of_getElem? (i := 1194) (by decide +kernel), List.mem_of_getElem? (i := 1438) (by decide +kernel), List.mem_of_getElem? (i := 1439) (by decide +kernel)⟩
theorem lw_p54 : lw_okq (⟨"OriginDeskModel", "separator", "()I"⟩, 31) := ⟨⟨by decide +kernel, by decide +kernel⟩, List.mem_of_getElem? (i := 1194) (by decide +kernel), List.mem_of_getElem? (i := 1442) (by decide +kernel), List.mem_of_getElem? (i := 1443) (by decide +kernel)⟩
theorem lw_p55 : lw_okq (⟨"OriginDeskModel", "spoken", "(I)I"⟩, 31) := ⟨⟨by decide +kernel, by decide +kernel⟩, List.mem_of_getElem? (i := 1194) (by decide +kernel), List.mem_of_getElem? (i := 1446) (by decide +kernel), List.mem_of_getElem? (i := 1447) (by decide +kernel)⟩
theorem lw_p56 : lw_okq (⟨"OriginDeskModel", "tongue", "()Z"⟩, 31) := ⟨⟨by decide +kernel, by decide +kernel⟩, List.mem_of_getElem? (i := 1194) (by decide +kernel), List.mem_of_getElem? (i := 1450) (by decide +kernel), List.mem_of_getElem? (i := 1451) (by decide +kernel)⟩
theorem lw_p57 : lw_okq (⟨"OriginDeskModel", "speaks", "(I)Z"⟩, 31) := ⟨⟨by decide +kernel, by decide +kernel⟩, List.mem_of_getElem? (i := 1194) (by decide +kernel), List.mem_of_getElem? (i := 1454) (by decide +kernel), List.mem_of_getElem? (i := 1455) (by decide +kernel)⟩
theorem lw_p58 : lw_okq (⟨"OriginDeskModel", "weightIfAny", "()Z"⟩, 31) := ⟨⟨by decide +kernel, by decide +kernel⟩, List.mem_of_getElem? (i := 1194) (by decide +kernel), List.mem_of_getElem? (i := 1459) (by decide +kernel), List.mem_of_getElem? (i := 1460) (by decide +kernel)⟩
theorem lw_p59 : lw_okq (⟨"OriginDeskModel", "conditions", "(I)I"⟩, 31) := ⟨⟨by decide +kernel, by decide +kernel⟩, List.mem_of_getElem? (i := 1194) (by decide +kernel), List.mem_of_getElem? (i := 1463) (by decide +kernel), List.mem_of_getElem? (i := 1464) (by decide +kernel)⟩
theorem lw_p60 : lw_okq (⟨"OriginDeskModel", "tags", "(IIZ)I"⟩, 31) := ⟨⟨by decide +kernel, by decide +kernel⟩, List.mem_of_getElem? (i := 1194) (by decide +kernel), List.mem_of_getElem? (i := 1467) (by decide +kernel), List.mem_of_getElem? (i := 1468) (by decide +kernel)⟩
theorem lw_p61 : lw_okq (⟨"OriginDeskModel", "tagText", "()Z"⟩, 31) := ⟨⟨by decide +kernel, by decide +kernel⟩, List.mem_of_getElem? (i := 1194) (by decide +kernel), List.mem_of_getElem? (i := 1471) (by decide +kernel), List.mem_of_getElem? (i := 1472) (by decide +kernel)⟩
theorem lw_p62 : lw_okq (⟨"OriginDeskModel", "isTagOf", "(I)Z"⟩, 31) := ⟨⟨by decide +kernel, by decide +kernel⟩, List.mem_of_getElem? (i := 1194) (by decide +kernel), List.mem_of_getElem? (i := 1475) (by decide +kernel), List.mem_of_getElem? (i := 1476) (by decide +kernel)⟩
theorem lw_p63 : lw_okq (⟨"OriginDeskModel", "dateOf", "(I)J"⟩, 31) := ⟨⟨by decide +kernel, by decide +kernel⟩, List.mem_of_getElem? (i := 1194) (by decide +kernel), List.mem_of_getElem? (i := 1479) (by decide +kernel), List.mem_of_getElem? (i := 1480) (by decide +kernel)⟩
def lw_privs_4 : List (MethodName × Nat) := [(⟨"OriginDeskModel", "isWord", "(IIJ)Z"⟩, 31), (⟨"OriginDeskModel", "isSub", "(III)Z"⟩, 31), (⟨"OriginDeskModel", "semicolon", "()Z"⟩, 31), (⟨"OriginDeskModel", "weight", "()Z"⟩, 31), (⟨"OriginDeskModel", "assigned", "()Z"⟩, 31), (⟨"OriginDeskModel", "quoted", "()Z"⟩, 31), (⟨"OriginDeskModel", "separator", "()I"⟩, 31), (⟨"OriginDeskModel", "spoken", "(I)I"⟩, 31), (⟨"OriginDeskModel", "tongue", "()Z"⟩, 31), (⟨"OriginDeskModel", "speaks", "(I)Z"⟩, 31), (⟨"OriginDeskModel", "weightIfAny", "()Z"⟩, 31), (⟨"OriginDeskModel", "conditions", "(I)I"⟩, 31), (⟨"OriginDeskModel", "tags", "(IIZ)I"⟩, 31), (⟨"OriginDeskModel", "tagText", "()Z"⟩, 31), (⟨"OriginDeskModel", "isTagOf", "(I)Z"⟩, 31), (⟨"OriginDeskModel", "dateOf", "(I)J"⟩, 31)]
theorem lw_r4 : ∀ q ∈ lw_privs_4, lw_okq q := List.forall_mem_cons.mpr ⟨lw_p48, List.forall_mem_cons.mpr ⟨lw_p49, List.forall_mem_cons.mpr ⟨lw_p50, List.forall_mem_cons.mpr ⟨lw_p51, List.forall_mem_cons.mpr ⟨lw_p52, List.forall_mem_cons.mpr ⟨lw_p53, List.forall_mem_cons.mpr ⟨lw_p54, List.forall_mem_cons.mpr ⟨lw_p55, List.forall_mem_cons.mpr ⟨lw_p56, List.forall_mem_cons.mpr ⟨lw_p57, List.forall_mem_cons.mpr ⟨lw_p58, List.forall_mem_cons.mpr ⟨lw_p59, List.forall_mem_cons.mpr ⟨lw_p60, List.forall_mem_cons.mpr ⟨lw_p61, List.forall_mem_cons.mpr ⟨lw_p62, List.forall_mem_cons.mpr ⟨lw_p63, fun _ h => absurd h List.not_mem_nil⟩⟩⟩⟩⟩⟩⟩⟩⟩⟩⟩⟩⟩⟩⟩⟩
theorem lw_p64 : lw_okq (⟨"OriginDeskModel", "dayName", "()I"⟩, 31) := ⟨⟨by decide +kernel, by decide +kernel⟩, List.mem_of_getElem? (i := 1194) (by decide +kernel), List.mem_of_getElem? (i := 1483) (by decide +kernel), List.mem_of_getElem? (i := 1484) (by decide +kernel)⟩
theorem lw_p65 : lw_okq (⟨"OriginDeskModel", "three", "()I"⟩, 31) := ⟨⟨by decide +kernel, by decide +kernel⟩, List.mem_of_getElem? (i := 1194) (by decide +kernel), List.mem_of_getElem? (i := 1487) (by decide +kernel), List.mem_of_getElem? (i := 1488) (by decide +kernel)⟩
theorem lw_p66 : lw_okq (⟨"OriginDeskModel", "dateBehind", "(I)J"⟩, 31) := ⟨⟨by decide +kernel, by decide +kernel⟩, List.mem_of_getElem? (i := 1194) (by decide +kernel), List.mem_of_getElem? (i := 1492) (by decide +kernel), List.mem_of_getElem? (i := 1493) (by decide +kernel)⟩
theorem lw_p67 : lw_okq (⟨"OriginDeskModel", "monthName", "()I"⟩, 31) := ⟨⟨by decide +kernel, by decide +kernel⟩, List.mem_of_getElem? (i := 1194) (by decide +kernel), List.mem_of_getElem? (i := 1496) (by decide +kernel), List.mem_of_getElem? (i := 1497) (by decide +kernel)⟩
theorem lw_p68 : lw_okq (⟨"OriginDeskModel", "paddedDay", "()I"⟩, 31) := ⟨⟨by decide +kernel, by decide +kernel⟩, List.mem_of_getElem? (i := 1194) (by decide +kernel), List.mem_of_getElem? (i := 1500) (by decide +kernel), List.mem_of_getElem? (i := 1501) (by decide +kernel)⟩
theorem lw_p69 : lw_okq (⟨"OriginDeskModel", "digits", "(I)I"⟩, 31) := ⟨⟨by decide +kernel, by decide +kernel⟩, List.mem_of_getElem? (i := 1194) (by decide +kernel), List.mem_of_getElem? (i := 1504) (by decide +kernel), List.mem_of_getElem? (i := 1505) (by decide +kernel)⟩
theorem lw_p70 : lw_okq (⟨"OriginDeskModel", "time", "()I"⟩, 31) := ⟨⟨by decide +kernel, by decide +kernel⟩, List.mem_of_getElem? (i := 1194) (by decide +kernel), List.mem_of_getElem? (i := 1508) (by decide +kernel), List.mem_of_getElem? (i := 1509) (by decide +kernel)⟩
theorem lw_p71 : lw_okq (⟨"OriginDeskModel", "restOf", "(I)Z"⟩, 31) := ⟨⟨by decide +kernel, by decide +kernel⟩, List.mem_of_getElem? (i := 1194) (by decide +kernel), List.mem_of_getElem? (i := 1512) (by decide +kernel), List.mem_of_getElem? (i := 1513) (by decide +kernel)⟩
theorem lw_p72 : lw_okq (⟨"OriginDeskModel", "shortYear", "(I)I"⟩, 31) := ⟨⟨by decide +kernel, by decide +kernel⟩, List.mem_of_getElem? (i := 1194) (by decide +kernel), List.mem_of_getElem? (i := 1521) (by decide +kernel), List.mem_of_getElem? (i := 1522) (by decide +kernel)⟩
theorem lw_p73 : lw_okq (⟨"OriginDeskModel", "zone", "()Z"⟩, 31) := ⟨⟨by decide +kernel, by decide +kernel⟩, List.mem_of_getElem? (i := 1194) (by decide +kernel), List.mem_of_getElem? (i := 1531) (by decide +kernel), List.mem_of_getElem? (i := 1532) (by decide +kernel)⟩
theorem lw_p74 : lw_okq (⟨"OriginDeskModel", "ranged", "(I)I"⟩, 31) := ⟨⟨by decide +kernel, by decide +kernel⟩, List.mem_of_getElem? (i := 1194) (by decide +kernel), List.mem_of_getElem? (i := 1541) (by decide +kernel), List.mem_of_getElem? (i := 1542) (by decide +kernel)⟩
theorem lw_p75 : lw_okq (⟨"OriginDeskModel", "ifRange", "(I)Z"⟩, 31) := ⟨⟨by decide +kernel, by decide +kernel⟩, List.mem_of_getElem? (i := 1194) (by decide +kernel), List.mem_of_getElem? (i := 1545) (by decide +kernel), List.mem_of_getElem? (i := 1546) (by decide +kernel)⟩
theorem lw_p76 : lw_okq (⟨"OriginDeskModel", "ranges", "()Z"⟩, 31) := ⟨⟨by decide +kernel, by decide +kernel⟩, List.mem_of_getElem? (i := 1194) (by decide +kernel), List.mem_of_getElem? (i := 1549) (by decide +kernel), List.mem_of_getElem? (i := 1550) (by decide +kernel)⟩
theorem lw_p77 : lw_okq (⟨"OriginDeskModel", "spec", "()Z"⟩, 31) := ⟨⟨by decide +kernel, by decide +kernel⟩, List.mem_of_getElem? (i := 1194) (by decide +kernel), List.mem_of_getElem? (i := 1554) (by decide +kernel), List.mem_of_getElem? (i := 1555) (by decide +kernel)⟩
theorem lw_p78 : lw_okq (⟨"OriginDeskModel", "many", "()I"⟩, 31) := ⟨⟨by decide +kernel, by decide +kernel⟩, List.mem_of_getElem? (i := 1194) (by decide +kernel), List.mem_of_getElem? (i := 1558) (by decide +kernel), List.mem_of_getElem? (i := 1559) (by decide +kernel)⟩
theorem lw_p79 : lw_okq (⟨"OriginDeskModel", "resolve", "(II)V"⟩, 31) := ⟨⟨by decide +kernel, by decide +kernel⟩, List.mem_of_getElem? (i := 1194) (by decide +kernel), List.mem_of_getElem? (i := 1563) (by decide +kernel), List.mem_of_getElem? (i := 1564) (by decide +kernel)⟩
def lw_privs_5 : List (MethodName × Nat) := [(⟨"OriginDeskModel", "dayName", "()I"⟩, 31), (⟨"OriginDeskModel", "three", "()I"⟩, 31), (⟨"OriginDeskModel", "dateBehind", "(I)J"⟩, 31), (⟨"OriginDeskModel", "monthName", "()I"⟩, 31), (⟨"OriginDeskModel", "paddedDay", "()I"⟩, 31), (⟨"OriginDeskModel", "digits", "(I)I"⟩, 31), (⟨"OriginDeskModel", "time", "()I"⟩, 31), (⟨"OriginDeskModel", "restOf", "(I)Z"⟩, 31), (⟨"OriginDeskModel", "shortYear", "(I)I"⟩, 31), (⟨"OriginDeskModel", "zone", "()Z"⟩, 31), (⟨"OriginDeskModel", "ranged", "(I)I"⟩, 31), (⟨"OriginDeskModel", "ifRange", "(I)Z"⟩, 31), (⟨"OriginDeskModel", "ranges", "()Z"⟩, 31), (⟨"OriginDeskModel", "spec", "()Z"⟩, 31), (⟨"OriginDeskModel", "many", "()I"⟩, 31), (⟨"OriginDeskModel", "resolve", "(II)V"⟩, 31)]
theorem lw_r5 : ∀ q ∈ lw_privs_5, lw_okq q := List.forall_mem_cons.mpr ⟨lw_p64, List.forall_mem_cons.mpr ⟨lw_p65, List.forall_mem_cons.mpr ⟨lw_p66, List.forall_mem_cons.mpr ⟨lw_p67, List.forall_mem_cons.mpr ⟨lw_p68, List.forall_mem_cons.mpr ⟨lw_p69, List.forall_mem_cons.mpr ⟨lw_p70, List.forall_mem_cons.mpr ⟨lw_p71, List.forall_mem_cons.mpr ⟨lw_p72, List.forall_mem_cons.mpr ⟨lw_p73, List.forall_mem_cons.mpr ⟨lw_p74, List.forall_mem_cons.mpr ⟨lw_p75, List.forall_mem_cons.mpr ⟨lw_p76, List.forall_mem_cons.mpr ⟨lw_p77, List.forall_mem_cons.mpr ⟨lw_p78, List.forall_mem_cons.mpr ⟨lw_p79, fun _ h => absurd h List.not_mem_nil⟩⟩⟩⟩⟩⟩⟩⟩⟩⟩⟩⟩⟩⟩⟩⟩
theorem lw_p80 : lw_okq (⟨"OriginDeskModel", "overlap", "()Z"⟩, 31) := ⟨⟨by decide +kernel, by decide +kernel⟩, List.mem_of_getElem? (i := 1194) (by decide +kernel), List.mem_of_getElem? (i := 1567) (by decide +kernel), List.mem_of_getElem? (i := 1568) (by decide +kernel)⟩
theorem lw_p81 : lw_okq (⟨"OriginDeskModel", "partSize", "(I)I"⟩, 31) := ⟨⟨by decide +kernel, by decide +kernel⟩, List.mem_of_getElem? (i := 1194) (by decide +kernel), List.mem_of_getElem? (i := 1584) (by decide +kernel), List.mem_of_getElem? (i := 1585) (by decide +kernel)⟩
theorem lw_p82 : lw_okq (⟨"OriginDeskModel", "headOf", "(I)I"⟩, 31) := ⟨⟨by decide +kernel, by decide +kernel⟩, List.mem_of_getElem? (i := 1194) (by decide +kernel), List.mem_of_getElem? (i := 1588) (by decide +kernel), List.mem_of_getElem? (i := 1589) (by decide +kernel)⟩
theorem lw_p83 : lw_okq (⟨"OriginDeskModel", "byteAt", "(I)I"⟩, 31) := ⟨⟨by decide +kernel, by decide +kernel⟩, List.mem_of_getElem? (i := 1194) (by decide +kernel), List.mem_of_getElem? (i := 1600) (by decide +kernel), List.mem_of_getElem? (i := 1601) (by decide +kernel)⟩
theorem lw_p84 : lw_okq (⟨"OriginDeskModel", "partByte", "(II)I"⟩, 31) := ⟨⟨by decide +kernel, by decide +kernel⟩, List.mem_of_getElem? (i := 1194) (by decide +kernel), List.mem_of_getElem? (i := 1604) (by decide +kernel), List.mem_of_getElem? (i := 1605) (by decide +kernel)⟩
theorem lw_p85 : lw_okq (⟨"OriginDeskModel", "figures", "(III)I"⟩, 31) := ⟨⟨by decide +kernel, by decide +kernel⟩, List.mem_of_getElem? (i := 1194) (by decide +kernel), List.mem_of_getElem? (i := 1610) (by decide +kernel), List.mem_of_getElem? (i := 1611) (by decide +kernel)⟩
theorem lw_p86 : lw_okq (⟨"OriginDeskModel", "loneTag", "()Z"⟩, 31) := ⟨⟨by decide +kernel, by decide +kernel⟩, List.mem_of_getElem? (i := 1194) (by decide +kernel), List.mem_of_getElem? (i := 1642) (by decide +kernel), List.mem_of_getElem? (i := 1643) (by decide +kernel)⟩
def lw_privs_6 : List (MethodName × Nat) := [(⟨"OriginDeskModel", "overlap", "()Z"⟩, 31), (⟨"OriginDeskModel", "partSize", "(I)I"⟩, 31), (⟨"OriginDeskModel", "headOf", "(I)I"⟩, 31), (⟨"OriginDeskModel", "byteAt", "(I)I"⟩, 31), (⟨"OriginDeskModel", "partByte", "(II)I"⟩, 31), (⟨"OriginDeskModel", "figures", "(III)I"⟩, 31), (⟨"OriginDeskModel", "loneTag", "()Z"⟩, 31)]
theorem lw_r6 : ∀ q ∈ lw_privs_6, lw_okq q := List.forall_mem_cons.mpr ⟨lw_p80, List.forall_mem_cons.mpr ⟨lw_p81, List.forall_mem_cons.mpr ⟨lw_p82, List.forall_mem_cons.mpr ⟨lw_p83, List.forall_mem_cons.mpr ⟨lw_p84, List.forall_mem_cons.mpr ⟨lw_p85, List.forall_mem_cons.mpr ⟨lw_p86, fun _ h => absurd h List.not_mem_nil⟩⟩⟩⟩⟩⟩⟩
def lw_privs : List (MethodName × Nat) := lw_privs_1 ++ (lw_privs_2 ++ (lw_privs_3 ++ (lw_privs_4 ++ (lw_privs_5 ++ (lw_privs_6)))))
def lw_tbl : List Cond := k2_sels lw_privs ++ tables_1
theorem lw_privs_ok : ∀ q ∈ lw_privs, lw_okq q := by
  show ∀ q ∈ lw_privs_1 ++ (lw_privs_2 ++ (lw_privs_3 ++ (lw_privs_4 ++ (lw_privs_5 ++ (lw_privs_6))))), lw_okq q
  exact List.forall_mem_append.mpr ⟨lw_r1, List.forall_mem_append.mpr ⟨lw_r2, List.forall_mem_append.mpr ⟨lw_r3, List.forall_mem_append.mpr ⟨lw_r4, List.forall_mem_append.mpr ⟨lw_r5, lw_r6⟩⟩⟩⟩⟩
-- ===== end of PART A; then your names; then what follows =====
end
section
/-! STRAIGHT STRETCHES: 'wq' reads a list of instructions and says what is left to be shown; 'wq_sound' says that it is enough. -/
abbrev wq_L : Type := List (Nat × Value)
/-- an annotation: flag, place, slot, an int, a long -/
abbrev wq_A : Type := Nat × Nat × Nat × Int32 × Int64
abbrev wq_J : Type := List (Jvm.ClassFile.Instr × wq_A)
def wq_lk (lv : wq_L) (i : Nat) : Option Value := (lv.find? (fun q => q.1 == i)).map (fun q => q.2)
def wq_s1 (lv : wq_L) (i : Nat) (v : Value) : wq_L := (i, v) :: lv.filter (fun q => !(q.1 == i) && !(q.1 + 1 == i && q.2.category == 2))
def wq_s2 (lv : wq_L) (i : Nat) (v : Value) : wq_L := (i, v) :: lv.filter (fun q => !(q.1 == i) && (!(q.1 == i + 1) && !(q.1 + 1 == i && q.2.category == 2)))
def wq_ok (ft : List (Nat × Nat × Nat × Nat)) (idx ci k : Nat) : Bool := ft.any (fun q => Nat.beq q.1 idx && (Nat.beq q.2.1 ci && Nat.beq q.2.2.1 k))
def wq_om (ft : List (Nat × Nat × Nat × Nat)) (idx ci k md : Nat) : Bool := ft.any (fun q => (Nat.beq q.1 idx && (Nat.beq q.2.1 ci && Nat.beq q.2.2.1 k)) && Nat.beq q.2.2.2 md)
/-- the length of an instruction (of a switch: its annotation) -/
def wq_il (a : wq_A) : Jvm.ClassFile.Instr → Nat
  | .bipush _ => 2
  | .sipush _ => 3
  | .iload _ => 2
  | .lload _ => 2
  | .aload _ => 2
  | .istore _ => 2
  | .lstore _ => 2
  | .astore _ => 2
  | .ldc _ => 2
  | .ldc2_w _ => 3
  | .ldc_w _ => 3
  | .iinc _ _ => 3
  | .ifCond _ _ => 3
  | .if_icmp _ _ => 3
  | .if_acmp _ _ => 3
  | .ifnull _ => 3
  | .ifnonnull _ => 3
  | .goto _ => 3
  | .getfield _ => 3
  | .putfield _ => 3
  | .getstatic _ => 3
  | .putstatic _ => 3
  | .invokevirtual _ => 3
  | .invokespecial _ => 3
  | .invokestatic _ => 3
  | .invokeinterface _ _ => 5
  | .new _ => 3
  | .newarray _ => 2
  | .anewarray _ => 3
  | .checkcast _ => 3
  | .instanceof _ => 3
  | .multianewarray _ _ => 4
  | .tableswitch _ _ _ _ => a.2.1
  | .lookupswitch _ _ => a.2.1
  | _ => 1

/-- what of an instruction is decided once: its constant, its target, its local -/
def wq_k (nL : Nat) (an : wq_A) (pc : Nat) : Jvm.ClassFile.Instr → Bool
  | .iconst i => decide (Int32.ofInt i = an.2.2.2.1)
  | .bipush i => decide ((Int8.ofInt i).toInt32 = an.2.2.2.1)
  | .sipush i => decide ((Int16.ofInt i).toInt32 = an.2.2.2.1)
  | .lconst i => decide (Int64.ofNat (i : Nat) = an.2.2.2.2)
  | .iinc i d => decide (Int32.ofInt d = an.2.2.2.1) && decide (i < nL)
  | .istore_n i => decide ((i : Nat) < nL)
  | .istore i => decide (i < nL)
  | .astore_n i => decide ((i : Nat) < nL)
  | .astore i => decide (i < nL)
  | .lstore_n i => decide ((i : Nat) + 1 < nL)
  | .lstore i => decide (i + 1 < nL)
  | .ifCond _ off => decide ((pc : Int) + off = (an.2.1 : Nat))
  | .if_icmp _ off => decide ((pc : Int) + off = (an.2.1 : Nat))
  | .if_acmp _ off => decide ((pc : Int) + off = (an.2.1 : Nat))
  | .ifnull off => decide ((pc : Int) + off = (an.2.1 : Nat))
  | .ifnonnull off => decide ((pc : Int) + off = (an.2.1 : Nat))
  | .goto off => decide ((pc : Int) + off = (an.2.1 : Nat))
  | _ => true

def wq (nL : Nat) (ini : Bool) (tc : Nat → ClassId) (ft : List (Nat × Nat × Nat × Nat)) (ty : Nat → Nat → FieldType) (RT : Nat → Nat → Nat → (Nat → Value) → Prop) (RF : Nat → Nat → Value → Prop) (RZ : Nat → Value → Prop) (RS : Nat → Value → Prop) (SX : Jvm.ClassFile.Instr → Nat → List Value → va_W → Nat → Nat → (List Value → va_W → Nat → Nat → Prop) → Prop) (EN : Option Value → va_W → Nat → Nat → Prop) (V : Nat → wq_L → List Value → va_W → Nat → Nat → Prop) : wq_J → Nat → wq_L → List Value → va_W → Nat → Nat → Prop
  | [], pc, lv, st, ws, k, n => V pc lv st ws k n
  | (ins, an) :: r, pc, lv, st, ws, k, n => match ins with
  | .iconst _ => (wq nL ini tc ft ty RT RF RZ RS SX EN V r (pc + 1) lv (.int an.2.2.2.1 :: st) ws k n)
  | .bipush _ => (wq nL ini tc ft ty RT RF RZ RS SX EN V r (pc + 2) lv (.int an.2.2.2.1 :: st) ws k n)
  | .sipush _ => (wq nL ini tc ft ty RT RF RZ RS SX EN V r (pc + 3) lv (.int an.2.2.2.1 :: st) ws k n)
  | .lconst _ => (wq nL ini tc ft ty RT RF RZ RS SX EN V r (pc + 1) lv (.long an.2.2.2.2 :: st) ws k n)
  | .aconst_null => (wq nL ini tc ft ty RT RF RZ RS SX EN V r (pc + 1) lv (.null :: st) ws k n)
  | .iload_n i => (match wq_lk lv i with
    | some (.int x) => wq nL ini tc ft ty RT RF RZ RS SX EN V r (pc + 1) lv (.int x :: st) ws k n
    | _ => V pc lv st ws k n)
  | .iload i => (match wq_lk lv i with
    | some (.int x) => wq nL ini tc ft ty RT RF RZ RS SX EN V r (pc + 2) lv (.int x :: st) ws k n
    | _ => V pc lv st ws k n)
  | .lload_n i => (match wq_lk lv i with
    | some (.long x) => wq nL ini tc ft ty RT RF RZ RS SX EN V r (pc + 1) lv (.long x :: st) ws k n
    | _ => V pc lv st ws k n)
  | .lload i => (match wq_lk lv i with
    | some (.long x) => wq nL ini tc ft ty RT RF RZ RS SX EN V r (pc + 2) lv (.long x :: st) ws k n
    | _ => V pc lv st ws k n)
  | .aload_n i => (match wq_lk lv i with
    | some (.ref x) => wq nL ini tc ft ty RT RF RZ RS SX EN V r (pc + 1) lv (.ref x :: st) ws k n
    | some .null => wq nL ini tc ft ty RT RF RZ RS SX EN V r (pc + 1) lv (.null :: st) ws k n
    | _ => V pc lv st ws k n)
  | .aload i => (match wq_lk lv i with
    | some (.ref x) => wq nL ini tc ft ty RT RF RZ RS SX EN V r (pc + 2) lv (.ref x :: st) ws k n
    | some .null => wq nL ini tc ft ty RT RF RZ RS SX EN V r (pc + 2) lv (.null :: st) ws k n
    | _ => V pc lv st ws k n)
  | .istore_n i => (match st with
    | .int x :: t => wq nL ini tc ft ty RT RF RZ RS SX EN V r (pc + 1) (wq_s1 lv i (.int x)) t ws k n
    | _ => V pc lv st ws k n)
  | .istore i => (match st with
    | .int x :: t => wq nL ini tc ft ty RT RF RZ RS SX EN V r (pc + 2) (wq_s1 lv i (.int x)) t ws k n
    | _ => V pc lv st ws k n)
  | .lstore_n i => (match st with
    | .long x :: t => wq nL ini tc ft ty RT RF RZ RS SX EN V r (pc + 1) (wq_s2 lv i (.long x)) t ws k n
    | _ => V pc lv st ws k n)
  | .lstore i => (match st with
    | .long x :: t => wq nL ini tc ft ty RT RF RZ RS SX EN V r (pc + 2) (wq_s2 lv i (.long x)) t ws k n
    | _ => V pc lv st ws k n)
  | .astore_n i => (match st with
    | .ref x :: t => wq nL ini tc ft ty RT RF RZ RS SX EN V r (pc + 1) (wq_s1 lv i (.ref x)) t ws k n
    | .null :: t => wq nL ini tc ft ty RT RF RZ RS SX EN V r (pc + 1) (wq_s1 lv i .null) t ws k n
    | _ => V pc lv st ws k n)
  | .astore i => (match st with
    | .ref x :: t => wq nL ini tc ft ty RT RF RZ RS SX EN V r (pc + 2) (wq_s1 lv i (.ref x)) t ws k n
    | .null :: t => wq nL ini tc ft ty RT RF RZ RS SX EN V r (pc + 2) (wq_s1 lv i .null) t ws k n
    | _ => V pc lv st ws k n)
  | .iinc i _ => (match wq_lk lv i with
    | some (.int x) => wq nL ini tc ft ty RT RF RZ RS SX EN V r (pc + 3) (wq_s1 lv i (.int (x + an.2.2.2.1))) st ws k n
    | _ => V pc lv st ws k n)
  | .iadd => (match st with
    | .int y :: .int x :: t => wq nL ini tc ft ty RT RF RZ RS SX EN V r (pc + 1) lv (.int (x + y) :: t) ws k n
    | _ => V pc lv st ws k n)
  | .isub => (match st with
    | .int y :: .int x :: t => wq nL ini tc ft ty RT RF RZ RS SX EN V r (pc + 1) lv (.int (x - y) :: t) ws k n
    | _ => V pc lv st ws k n)
  | .imul => (match st with
    | .int y :: .int x :: t => wq nL ini tc ft ty RT RF RZ RS SX EN V r (pc + 1) lv (.int (x * y) :: t) ws k n
    | _ => V pc lv st ws k n)
  | .iand => (match st with
    | .int y :: .int x :: t => wq nL ini tc ft ty RT RF RZ RS SX EN V r (pc + 1) lv (.int (x &&& y) :: t) ws k n
    | _ => V pc lv st ws k n)
  | .ior => (match st with
    | .int y :: .int x :: t => wq nL ini tc ft ty RT RF RZ RS SX EN V r (pc + 1) lv (.int (x ||| y) :: t) ws k n
    | _ => V pc lv st ws k n)
  | .ixor => (match st with
    | .int y :: .int x :: t => wq nL ini tc ft ty RT RF RZ RS SX EN V r (pc + 1) lv (.int (x ^^^ y) :: t) ws k n
    | _ => V pc lv st ws k n)
  | .ishl => (match st with
    | .int y :: .int x :: t => wq nL ini tc ft ty RT RF RZ RS SX EN V r (pc + 1) lv (.int (x <<< (y &&& 31)) :: t) ws k n
    | _ => V pc lv st ws k n)
  | .ishr => (match st with
    | .int y :: .int x :: t => wq nL ini tc ft ty RT RF RZ RS SX EN V r (pc + 1) lv (.int (x >>> (y &&& 31)) :: t) ws k n
    | _ => V pc lv st ws k n)
  | .iushr => (match st with
    | .int y :: .int x :: t => wq nL ini tc ft ty RT RF RZ RS SX EN V r (pc + 1) lv (.int ((x.toUInt32 >>> (y.toUInt32 &&& Int32.toUInt32 31)).toInt32) :: t) ws k n
    | _ => V pc lv st ws k n)
  | .ladd => (match st with
    | .long y :: .long x :: t => wq nL ini tc ft ty RT RF RZ RS SX EN V r (pc + 1) lv (.long (x + y) :: t) ws k n
    | _ => V pc lv st ws k n)
  | .lsub => (match st with
    | .long y :: .long x :: t => wq nL ini tc ft ty RT RF RZ RS SX EN V r (pc + 1) lv (.long (x - y) :: t) ws k n
    | _ => V pc lv st ws k n)
  | .lmul => (match st with
    | .long y :: .long x :: t => wq nL ini tc ft ty RT RF RZ RS SX EN V r (pc + 1) lv (.long (x * y) :: t) ws k n
    | _ => V pc lv st ws k n)
  | .land => (match st with
    | .long y :: .long x :: t => wq nL ini tc ft ty RT RF RZ RS SX EN V r (pc + 1) lv (.long (x &&& y) :: t) ws k n
    | _ => V pc lv st ws k n)
  | .lor => (match st with
    | .long y :: .long x :: t => wq nL ini tc ft ty RT RF RZ RS SX EN V r (pc + 1) lv (.long (x ||| y) :: t) ws k n
    | _ => V pc lv st ws k n)
  | .lxor => (match st with
    | .long y :: .long x :: t => wq nL ini tc ft ty RT RF RZ RS SX EN V r (pc + 1) lv (.long (x ^^^ y) :: t) ws k n
    | _ => V pc lv st ws k n)
  | .lshl => (match st with
    | .int y :: .long x :: t => wq nL ini tc ft ty RT RF RZ RS SX EN V r (pc + 1) lv (.long (x <<< (y.toInt64 &&& 63)) :: t) ws k n
    | _ => V pc lv st ws k n)
  | .lshr => (match st with
    | .int y :: .long x :: t => wq nL ini tc ft ty RT RF RZ RS SX EN V r (pc + 1) lv (.long (x >>> (y.toInt64 &&& 63)) :: t) ws k n
    | _ => V pc lv st ws k n)
  | .lushr => (match st with
    | .int y :: .long x :: t => wq nL ini tc ft ty RT RF RZ RS SX EN V r (pc + 1) lv (.long ((x.toUInt64 >>> (y.toInt64.toUInt64 &&& Int64.toUInt64 63)).toInt64) :: t) ws k n
    | _ => V pc lv st ws k n)
  | .idiv => (match st with
    | .int y :: .int x :: t => ¬ y = 0 ∧ wq nL ini tc ft ty RT RF RZ RS SX EN V r (pc + 1) lv (.int (x / y) :: t) ws k n
    | _ => V pc lv st ws k n)
  | .irem => (match st with
    | .int y :: .int x :: t => ¬ y = 0 ∧ wq nL ini tc ft ty RT RF RZ RS SX EN V r (pc + 1) lv (.int (x - x / y * y) :: t) ws k n
    | _ => V pc lv st ws k n)
  | .ldiv => (match st with
    | .long y :: .long x :: t => ¬ y = 0 ∧ wq nL ini tc ft ty RT RF RZ RS SX EN V r (pc + 1) lv (.long (x / y) :: t) ws k n
    | _ => V pc lv st ws k n)
  | .lrem => (match st with
    | .long y :: .long x :: t => ¬ y = 0 ∧ wq nL ini tc ft ty RT RF RZ RS SX EN V r (pc + 1) lv (.long (x - x / y * y) :: t) ws k n
    | _ => V pc lv st ws k n)
  | .ineg => (match st with
    | .int x :: t => wq nL ini tc ft ty RT RF RZ RS SX EN V r (pc + 1) lv (.int (-x) :: t) ws k n
    | _ => V pc lv st ws k n)
  | .lneg => (match st with
    | .long x :: t => wq nL ini tc ft ty RT RF RZ RS SX EN V r (pc + 1) lv (.long (-x) :: t) ws k n
    | _ => V pc lv st ws k n)
  | .i2l => (match st with
    | .int x :: t => wq nL ini tc ft ty RT RF RZ RS SX EN V r (pc + 1) lv (.long x.toInt64 :: t) ws k n
    | _ => V pc lv st ws k n)
  | .l2i => (match st with
    | .long x :: t => wq nL ini tc ft ty RT RF RZ RS SX EN V r (pc + 1) lv (.int x.toInt32 :: t) ws k n
    | _ => V pc lv st ws k n)
  | .i2b => (match st with
    | .int x :: t => wq nL ini tc ft ty RT RF RZ RS SX EN V r (pc + 1) lv (.int x.toInt8.toInt32 :: t) ws k n
    | _ => V pc lv st ws k n)
  | .i2s => (match st with
    | .int x :: t => wq nL ini tc ft ty RT RF RZ RS SX EN V r (pc + 1) lv (.int x.toInt16.toInt32 :: t) ws k n
    | _ => V pc lv st ws k n)
  | .i2c => (match st with
    | .int x :: t => wq nL ini tc ft ty RT RF RZ RS SX EN V r (pc + 1) lv (.int (x.toUInt32 % 65536).toInt32 :: t) ws k n
    | _ => V pc lv st ws k n)
  | .lcmp => (match st with
    | .long y :: .long x :: t => wq nL ini tc ft ty RT RF RZ RS SX EN V r (pc + 1) lv (.int (lg_cmp x y) :: t) ws k n
    | _ => V pc lv st ws k n)
  | .dup => (match st with
    | va :: t => va.category = 1 ∧ wq nL ini tc ft ty RT RF RZ RS SX EN V r (pc + 1) lv (va :: va :: t) ws k n
    | _ => V pc lv st ws k n)
  | .pop => (match st with
    | va :: t => va.category = 1 ∧ wq nL ini tc ft ty RT RF RZ RS SX EN V r (pc + 1) lv t ws k n
    | _ => V pc lv st ws k n)
  | .dup_x1 => (match st with
    | va :: vb :: t => va.category = 1 ∧ vb.category = 1 ∧ wq nL ini tc ft ty RT RF RZ RS SX EN V r (pc + 1) lv (va :: vb :: va :: t) ws k n
    | _ => V pc lv st ws k n)
  | .dup2 => (match st with
    | .long x :: t => wq nL ini tc ft ty RT RF RZ RS SX EN V r (pc + 1) lv (.long x :: .long x :: t) ws k n
    | va :: vb :: t => va.category = 1 ∧ vb.category = 1 ∧ wq nL ini tc ft ty RT RF RZ RS SX EN V r (pc + 1) lv (va :: vb :: va :: vb :: t) ws k n
    | _ => V pc lv st ws k n)
  | .ifCond .eq _ => (match st with
    | .int x :: t => (x = 0 → V (an.2.1) lv t ws k n) ∧ (¬ x = 0 → wq nL ini tc ft ty RT RF RZ RS SX EN V r (pc + 3) lv t ws k n)
    | _ => V pc lv st ws k n)
  | .ifCond .ne _ => (match st with
    | .int x :: t => (¬ x = 0 → V (an.2.1) lv t ws k n) ∧ (x = 0 → wq nL ini tc ft ty RT RF RZ RS SX EN V r (pc + 3) lv t ws k n)
    | _ => V pc lv st ws k n)
  | .ifCond .lt _ => (match st with
    | .int x :: t => (x < 0 → V (an.2.1) lv t ws k n) ∧ (¬ x < 0 → wq nL ini tc ft ty RT RF RZ RS SX EN V r (pc + 3) lv t ws k n)
    | _ => V pc lv st ws k n)
  | .ifCond .ge _ => (match st with
    | .int x :: t => (0 ≤ x → V (an.2.1) lv t ws k n) ∧ (¬ 0 ≤ x → wq nL ini tc ft ty RT RF RZ RS SX EN V r (pc + 3) lv t ws k n)
    | _ => V pc lv st ws k n)
  | .ifCond .gt _ => (match st with
    | .int x :: t => (0 < x → V (an.2.1) lv t ws k n) ∧ (¬ 0 < x → wq nL ini tc ft ty RT RF RZ RS SX EN V r (pc + 3) lv t ws k n)
    | _ => V pc lv st ws k n)
  | .ifCond .le _ => (match st with
    | .int x :: t => (x ≤ 0 → V (an.2.1) lv t ws k n) ∧ (¬ x ≤ 0 → wq nL ini tc ft ty RT RF RZ RS SX EN V r (pc + 3) lv t ws k n)
    | _ => V pc lv st ws k n)
  | .if_icmp .eq _ => (match st with
    | .int y :: .int x :: t => (x = y → V (an.2.1) lv t ws k n) ∧ (¬ x = y → wq nL ini tc ft ty RT RF RZ RS SX EN V r (pc + 3) lv t ws k n)
    | _ => V pc lv st ws k n)
  | .if_icmp .ne _ => (match st with
    | .int y :: .int x :: t => (¬ x = y → V (an.2.1) lv t ws k n) ∧ (x = y → wq nL ini tc ft ty RT RF RZ RS SX EN V r (pc + 3) lv t ws k n)
    | _ => V pc lv st ws k n)
  | .if_icmp .lt _ => (match st with
    | .int y :: .int x :: t => (x < y → V (an.2.1) lv t ws k n) ∧ (¬ x < y → wq nL ini tc ft ty RT RF RZ RS SX EN V r (pc + 3) lv t ws k n)
    | _ => V pc lv st ws k n)
  | .if_icmp .ge _ => (match st with
    | .int y :: .int x :: t => (y ≤ x → V (an.2.1) lv t ws k n) ∧ (¬ y ≤ x → wq nL ini tc ft ty RT RF RZ RS SX EN V r (pc + 3) lv t ws k n)
    | _ => V pc lv st ws k n)
  | .if_icmp .gt _ => (match st with
    | .int y :: .int x :: t => (y < x → V (an.2.1) lv t ws k n) ∧ (¬ y < x → wq nL ini tc ft ty RT RF RZ RS SX EN V r (pc + 3) lv t ws k n)
    | _ => V pc lv st ws k n)
  | .if_icmp .le _ => (match st with
    | .int y :: .int x :: t => (x ≤ y → V (an.2.1) lv t ws k n) ∧ (¬ x ≤ y → wq nL ini tc ft ty RT RF RZ RS SX EN V r (pc + 3) lv t ws k n)
    | _ => V pc lv st ws k n)
  | .ifnull _ => (match st with
    | .ref _ :: t => wq nL ini tc ft ty RT RF RZ RS SX EN V r (pc + 3) lv t ws k n
    | .null :: t => V (an.2.1) lv t ws k n
    | _ => V pc lv st ws k n)
  | .ifnonnull _ => (match st with
    | .ref _ :: t => V (an.2.1) lv t ws k n
    | .null :: t => wq nL ini tc ft ty RT RF RZ RS SX EN V r (pc + 3) lv t ws k n
    | _ => V pc lv st ws k n)
  | .goto _ => (V (an.2.1) lv st ws k n)
  | .getfield idx => (match an.1 with
    | 1 => (match st, ws[an.2.1]? with
      | .ref a :: t, some (b, .inr (ci, fs)) => (match wq_ok ft idx ci an.2.2.1, fs[an.2.2.1]? with
        | true, some v => a = b ∧ wq nL ini tc ft ty RT RF RZ RS SX EN V r (pc + 3) lv (v :: t) ws k n
        | _, _ => V pc lv st ws k n)
      | _, _ => V pc lv st ws k n)
    | 2 => (match st with
      | .ref a :: t => ∃ v, RF idx a v ∧ wq nL ini tc ft ty RT RF RZ RS SX EN V r (pc + 3) lv (v :: t) ws k n
      | _ => V pc lv st ws k n)
    | _ => SX (.getfield idx) (wq_il an (.getfield idx)) st ws k n (fun st2 ws2 k2 n2 => wq nL ini tc ft ty RT RF RZ RS SX EN V r (pc + wq_il an (.getfield idx)) lv st2 ws2 k2 n2))
  | .putfield idx => (match an.1 with
    | 1 => (match st, ws[an.2.1]? with
      | v :: .ref a :: t, some (b, .inr (ci, fs)) => (match wq_om ft idx ci an.2.2.1 0, Nat.blt an.2.2.1 fs.length with
        | true, true => a = b ∧ (narrow (ty ci an.2.2.1) v = v ∧ fits (ty ci an.2.2.1) v = true) ∧ wq nL ini tc ft ty RT RF RZ RS SX EN V r (pc + 3) lv t (ws.set an.2.1 (b, .inr (ci, fs.set an.2.2.1 v))) k n
        | _, _ => V pc lv st ws k n)
      | _, _ => V pc lv st ws k n)
    | 3 => (match st, ws[an.2.1]? with
      | v :: .ref a :: t, some (b, .inr (ci, fs)) => (match wq_om ft idx ci an.2.2.1 1, Nat.blt an.2.2.1 fs.length, ini with
        | true, true, true => a = b ∧ (narrow (ty ci an.2.2.1) v = v ∧ fits (ty ci an.2.2.1) v = true) ∧ wq nL ini tc ft ty RT RF RZ RS SX EN V r (pc + 3) lv t (ws.set an.2.1 (b, .inr (ci, fs.set an.2.2.1 v))) k n
        | _, _, _ => V pc lv st ws k n)
      | _, _ => V pc lv st ws k n)
    | _ => SX (.putfield idx) (wq_il an (.putfield idx)) st ws k n (fun st2 ws2 k2 n2 => wq nL ini tc ft ty RT RF RZ RS SX EN V r (pc + wq_il an (.putfield idx)) lv st2 ws2 k2 n2))
  | .getstatic idx => (match an.1 with
    | 2 => ∃ v, RZ idx v ∧ wq nL ini tc ft ty RT RF RZ RS SX EN V r (pc + 3) lv (v :: st) ws k n
    | _ => SX (.getstatic idx) (wq_il an (.getstatic idx)) st ws k n (fun st2 ws2 k2 n2 => wq nL ini tc ft ty RT RF RZ RS SX EN V r (pc + wq_il an (.getstatic idx)) lv st2 ws2 k2 n2))
  | .ldc idx => (match an.1 with
    | 1 => RS idx (.int an.2.2.2.1) ∧ wq nL ini tc ft ty RT RF RZ RS SX EN V r (pc + 2) lv (.int an.2.2.2.1 :: st) ws k n
    | 2 => ∃ q : Nat, RS idx (.ref q) ∧ wq nL ini tc ft ty RT RF RZ RS SX EN V r (pc + 2) lv (.ref q :: st) ws k n
    | _ => SX (.ldc idx) (wq_il an (.ldc idx)) st ws k n (fun st2 ws2 k2 n2 => wq nL ini tc ft ty RT RF RZ RS SX EN V r (pc + wq_il an (.ldc idx)) lv st2 ws2 k2 n2))
  | .ldc2_w idx => (match an.1 with
    | 1 => RS idx (.long an.2.2.2.2) ∧ wq nL ini tc ft ty RT RF RZ RS SX EN V r (pc + 3) lv (.long an.2.2.2.2 :: st) ws k n
    | _ => SX (.ldc2_w idx) (wq_il an (.ldc2_w idx)) st ws k n (fun st2 ws2 k2 n2 => wq nL ini tc ft ty RT RF RZ RS SX EN V r (pc + wq_il an (.ldc2_w idx)) lv st2 ws2 k2 n2))
  | .iaload => (match an.1 with
    | 1 => (match st, ws[an.2.1]? with
      | .int x :: .ref a :: t, some (b, .inl (cA, N, .inl f)) => a = b ∧ cA = tc 0 ∧ vp_in x N ∧ wq nL ini tc ft ty RT RF RZ RS SX EN V r (pc + 1) lv (.int (f x.toNatClampNeg) :: t) ws k n
      | _, _ => V pc lv st ws k n)
    | 2 => (match st with
      | .int x :: .ref a :: t => ∃ (N : Nat) (f : Nat → Value), RT 0 a N f ∧ vp_in x N ∧ wq nL ini tc ft ty RT RF RZ RS SX EN V r (pc + 1) lv (f x.toNatClampNeg :: t) ws k n
      | _ => V pc lv st ws k n)
    | _ => SX (.iaload) (wq_il an (.iaload)) st ws k n (fun st2 ws2 k2 n2 => wq nL ini tc ft ty RT RF RZ RS SX EN V r (pc + wq_il an (.iaload)) lv st2 ws2 k2 n2))
  | .baload => (match an.1 with
    | 1 => (match st, ws[an.2.1]? with
      | .int x :: .ref a :: t, some (b, .inl (cA, N, .inl f)) => a = b ∧ cA = tc 1 ∧ vp_in x N ∧ wq nL ini tc ft ty RT RF RZ RS SX EN V r (pc + 1) lv (.int (f x.toNatClampNeg) :: t) ws k n
      | _, _ => V pc lv st ws k n)
    | 4 => (match st, ws[an.2.1]? with
      | .int x :: .ref a :: t, some (b, .inl (cA, N, .inl f)) => a = b ∧ cA = tc 3 ∧ vp_in x N ∧ wq nL ini tc ft ty RT RF RZ RS SX EN V r (pc + 1) lv (.int (f x.toNatClampNeg) :: t) ws k n
      | _, _ => V pc lv st ws k n)
    | 2 => (match st with
      | .int x :: .ref a :: t => ∃ (N : Nat) (f : Nat → Value), RT 1 a N f ∧ vp_in x N ∧ wq nL ini tc ft ty RT RF RZ RS SX EN V r (pc + 1) lv (f x.toNatClampNeg :: t) ws k n
      | _ => V pc lv st ws k n)
    | _ => SX (.baload) (wq_il an (.baload)) st ws k n (fun st2 ws2 k2 n2 => wq nL ini tc ft ty RT RF RZ RS SX EN V r (pc + wq_il an (.baload)) lv st2 ws2 k2 n2))
  | .laload => (match an.1 with
    | 1 => (match st, ws[an.2.1]? with
      | .int x :: .ref a :: t, some (b, .inl (cA, N, .inr (.inl f))) => a = b ∧ cA = tc 2 ∧ vp_in x N ∧ wq nL ini tc ft ty RT RF RZ RS SX EN V r (pc + 1) lv (.long (f x.toNatClampNeg) :: t) ws k n
      | _, _ => V pc lv st ws k n)
    | 2 => (match st with
      | .int x :: .ref a :: t => ∃ (N : Nat) (f : Nat → Value), RT 2 a N f ∧ vp_in x N ∧ wq nL ini tc ft ty RT RF RZ RS SX EN V r (pc + 1) lv (f x.toNatClampNeg :: t) ws k n
      | _ => V pc lv st ws k n)
    | _ => SX (.laload) (wq_il an (.laload)) st ws k n (fun st2 ws2 k2 n2 => wq nL ini tc ft ty RT RF RZ RS SX EN V r (pc + wq_il an (.laload)) lv st2 ws2 k2 n2))
  | .iastore => (match an.1 with
    | 1 => (match st, ws[an.2.1]? with
      | .int v :: .int x :: .ref a :: t, some (b, .inl (cA, N, .inl f)) => a = b ∧ cA = tc 0 ∧ vp_in x N ∧ wq nL ini tc ft ty RT RF RZ RS SX EN V r (pc + 1) lv t (ws.set an.2.1 (b, .inl (cA, N, .inl (upd f x.toNatClampNeg v)))) k n
      | _, _ => V pc lv st ws k n)
    | _ => SX (.iastore) (wq_il an (.iastore)) st ws k n (fun st2 ws2 k2 n2 => wq nL ini tc ft ty RT RF RZ RS SX EN V r (pc + wq_il an (.iastore)) lv st2 ws2 k2 n2))
  | .bastore => (match an.1 with
    | 1 => (match st, ws[an.2.1]? with
      | .int v :: .int x :: .ref a :: t, some (b, .inl (cA, N, .inl f)) => a = b ∧ cA = tc 1 ∧ vp_in x N ∧ wq nL ini tc ft ty RT RF RZ RS SX EN V r (pc + 1) lv t (ws.set an.2.1 (b, .inl (cA, N, .inl (upd f x.toNatClampNeg (vp_nar .byte v))))) k n
      | _, _ => V pc lv st ws k n)
    | 4 => (match st, ws[an.2.1]? with
      | .int v :: .int x :: .ref a :: t, some (b, .inl (cA, N, .inl f)) => a = b ∧ cA = tc 3 ∧ vp_in x N ∧ wq nL ini tc ft ty RT RF RZ RS SX EN V r (pc + 1) lv t (ws.set an.2.1 (b, .inl (cA, N, .inl (upd f x.toNatClampNeg (vp_nar .boolean v))))) k n
      | _, _ => V pc lv st ws k n)
    | _ => SX (.bastore) (wq_il an (.bastore)) st ws k n (fun st2 ws2 k2 n2 => wq nL ini tc ft ty RT RF RZ RS SX EN V r (pc + wq_il an (.bastore)) lv st2 ws2 k2 n2))
  | .lastore => (match an.1 with
    | 1 => (match st, ws[an.2.1]? with
      | .long v :: .int x :: .ref a :: t, some (b, .inl (cA, N, .inr (.inl f))) => a = b ∧ cA = tc 2 ∧ vp_in x N ∧ wq nL ini tc ft ty RT RF RZ RS SX EN V r (pc + 1) lv t (ws.set an.2.1 (b, .inl (cA, N, .inr (.inl (vp_updL f x.toNatClampNeg v))))) k n
      | _, _ => V pc lv st ws k n)
    | _ => SX (.lastore) (wq_il an (.lastore)) st ws k n (fun st2 ws2 k2 n2 => wq nL ini tc ft ty RT RF RZ RS SX EN V r (pc + wq_il an (.lastore)) lv st2 ws2 k2 n2))
  | .arraylength => (match an.1 with
    | 1 => (match st, ws[an.2.1]? with
      | .ref a :: t, some (b, .inl (cA, N, g)) => a = b ∧ (∃ y : Nat, y < 4 ∧ cA = tc y) ∧ wq nL ini tc ft ty RT RF RZ RS SX EN V r (pc + 1) lv (.int (nI N) :: t) ws k n
      | _, _ => V pc lv st ws k n)
    | 2 => (match st with
      | .ref a :: t => ∃ (y : Nat) (N : Nat) (f : Nat → Value), RT y a N f ∧ wq nL ini tc ft ty RT RF RZ RS SX EN V r (pc + 1) lv (.int (nI N) :: t) ws k n
      | _ => V pc lv st ws k n)
    | _ => SX (.arraylength) (wq_il an (.arraylength)) st ws k n (fun st2 ws2 k2 n2 => wq nL ini tc ft ty RT RF RZ RS SX EN V r (pc + wq_il an (.arraylength)) lv st2 ws2 k2 n2))
  | .ireturn => (match st with
    | [.int v] => EN (some (.int v)) ws k n
    | _ => V pc lv st ws k n)
  | .lreturn => (match st with
    | [.long v] => EN (some (.long v)) ws k n
    | _ => V pc lv st ws k n)
  | .return_ => (match st with
    | [] => EN none ws k n
    | _ => V pc lv st ws k n)
  | .areturn => (match st with
    | [.ref v] => EN (some (.ref v)) ws k n
    | [.null] => EN (some .null) ws k n
    | _ => V pc lv st ws k n)
  | .tableswitch _ _ _ _ => V pc lv st ws k n
  | .lookupswitch _ _ => V pc lv st ws k n
  | ins => SX ins (wq_il an ins) st ws k n (fun st2 ws2 k2 n2 => wq nL ini tc ft ty RT RF RZ RS SX EN V r (pc + wq_il an ins) lv st2 ws2 k2 n2)
end
section
/-! THE STRETCHES ARE SOUND -/
theorem wq_at {ls : Array Slot} {nL : Nat} {lv : wq_L} {i : Nat} {v : Value} (h : lv_has ls nL lv) (e : wq_lk lv i = some v) : ls[i]? = some (.val v) := by
  unfold wq_lk at e
  cases hf : lv.find? (fun q => q.1 == i) with
  | none => rw [hf] at e; cases e
  | some q =>
    rw [hf] at e
    have e2 : q.2 = v := Option.some.inj e
    have hq := List.mem_of_find?_eq_some hf
    have hp := List.find?_some hf
    have hi : q.1 = i := by simpa using hp
    have := h.2.2 q hq
    rw [hi, e2] at this
    exact this
theorem wq_ix {lv : wq_L} {i : Nat} {v : Value} (e : wq_lk lv i = some v) : ∃ k : Nat, lv[k]? = some (i, v) := by
  unfold wq_lk at e
  cases hf : lv.find? (fun q => q.1 == i) with
  | none => rw [hf] at e; cases e
  | some q =>
    rw [hf] at e
    have e2 : q.2 = v := Option.some.inj e
    have hq := List.mem_of_find?_eq_some hf
    have hp := List.find?_some hf
    have hi : q.1 = i := by simpa using hp
    obtain ⟨k, hk⟩ := List.getElem?_of_mem hq
    refine ⟨k, ?_⟩
    rw [hk, ← hi, ← e2]
theorem wq_ok_spec {ft : List (Nat × Nat × Nat × Nat)} {idx ci k : Nat} (h : wq_ok ft idx ci k = true) : ∃ q ∈ ft, q.1 = idx ∧ q.2.1 = ci ∧ q.2.2.1 = k := by
  unfold wq_ok at h
  obtain ⟨q, hq, e⟩ := List.any_eq_true.mp h
  simp only [Bool.and_eq_true] at e
  exact ⟨q, hq, Nat.eq_of_beq_eq_true e.1, Nat.eq_of_beq_eq_true e.2.1, Nat.eq_of_beq_eq_true e.2.2⟩
theorem wq_om_spec {ft : List (Nat × Nat × Nat × Nat)} {idx ci k md : Nat} (h : wq_om ft idx ci k md = true) : ∃ q ∈ ft, q.1 = idx ∧ q.2.1 = ci ∧ q.2.2.1 = k ∧ q.2.2.2 = md := by
  unfold wq_om at h
  obtain ⟨q, hq, e⟩ := List.any_eq_true.mp h
  simp only [Bool.and_eq_true] at e
  exact ⟨q, hq, Nat.eq_of_beq_eq_true e.1.1, Nat.eq_of_beq_eq_true e.1.2.1, Nat.eq_of_beq_eq_true e.1.2.2, Nat.eq_of_beq_eq_true e.2⟩
/-- the machine at pc with these locals, stack and cells comes to Q -/
def Vx (p : Program) (l : Launch) (e : Env) (R : Room) (s : State) (m : MethodId) (args : Array Value) (below : List Frame) (meth : Method) (c : Code) (nL : Nat) (D : va_G) (cl : List vw_C) (A : Nat → Prop) (Q : State → Prop) (pc : Nat) (lv : wq_L) (st : List Value) (ws : va_W) (k n : Nat) : Prop :=
  ∀ (H : Heap) (locs : List Loc) (ls : Array Slot), va_P D cl ws H → va_D A ws → va_S A s.heap H locs → lv_has ls nL lv → W p l e R s m args below meth c H locs k n Q (F0 m pc ls st)
def vx_ty (y : Nat) : FieldType := match y with
  | 0 => .int
  | 1 => .byte
  | 2 => .long
  | _ => .boolean
/-- what stays over a method's body -/
def Cx (p : Program) (s : State) (m : MethodId) (args : Array Value) (c : Code) (cc : ByteArray) (nL : Nat) (own : String) (Ts : List Cond) (D : va_G) (cl : List vw_C) (tys : List (ClassId × FieldType)) (A : Nat → Prop) (tc : Nat → ClassId) : Prop :=
  p.tables.exec = Jvm.exec ∧ c.code = cc ∧ c.maxLocals = nL ∧ s.vm.findClass own = some m.cls ∧ (∀ w ∈ Ts, w.before args s = true) ∧ va_K D cl tys s ∧ (∀ q : Nat, s.heap.size ≤ q → A q) ∧ ∀ i : Nat, i < 4 → tys[i]? = some (tc i, vx_ty i)
def vx_RT (A : Nat → Prop) (s : State) (y a N : Nat) (f : Nat → Value) : Prop := va_T (vx_ty y) a N f A s s.heap
def vx_RF (own : String) (args : Array Value) (A : Nat → Prop) (s : State) (idx a : Nat) (v : Value) : Prop := ∃ o n d ref : String, va_OF o n d v a A s s.heap ∧ ((Cond.fieldLink own idx ref n d).before args s = true ∨ ∃ host, (Cond.fieldLinkNest own idx ref n d host).before args s = true) ∧ ∀ x, s.fieldFound? o n d = some x → s.fieldFound? ref n d = some x
def vx_RZ (own : String) (args : Array Value) (A : Nat → Prop) (s : State) (idx : Nat) (v : Value) : Prop := ∃ C n d ref : String, va_Z C n d v A s s.heap ∧ ((Cond.fieldLink own idx ref n d).before args s = true ∨ ∃ host, (Cond.fieldLinkNest own idx ref n d host).before args s = true) ∧ ∀ x, s.fieldFound? C n d = some x → s.fieldFound? ref n d = some x
def vx_RS (own : String) (args : Array Value) (s : State) (idx : Nat) (v : Value) : Prop := (∃ x : Int32, v = .int x ∧ (Jvm.Cond.constant own idx x).before args s = true) ∨ (∃ x : Int64, v = .long x ∧ (Jvm.Cond.constantLong own idx x).before args s = true) ∨ ∃ (tx : String) (q : Nat), v = .ref q ∧ vk_R own idx tx q s
/-- a table of fields: (index, class, slot, 0 or 1 where it is final) -/
def vx_Ft (own : String) (Ts : List Cond) (cl : List vw_C) (ty : Nat → Nat → FieldType) (ft : List (Nat × Nat × Nat × Nat)) : Prop := ∀ q ∈ ft, ∃ (C : String) (T : u_T) (N : Nat), cl[q.2.1]? = some (C, T, N) ∧ q.2.2.1 < N ∧ (∀ w ∈ u_ws C T N, w ∈ Ts) ∧ (∀ j, j < N → parseFieldDescriptor (T j).2.2.1 = some (ty q.2.1 j)) ∧ (∀ a, a < N → ∀ b, b < N → a ≠ b → (T a).2.1 ≠ (T b).2.1) ∧
  (Cond.fieldLink own q.1 (T q.2.2.1).1 (T q.2.2.1).2.1 (T q.2.2.1).2.2.1 ∈ Ts ∨ ∃ host, Cond.fieldLinkNest own q.1 (T q.2.2.1).1 (T q.2.2.1).2.1 (T q.2.2.1).2.2.1 host ∈ Ts) ∧ (q.2.2.2 = 0 → (T q.2.2.1).2.2.2 = false) ∧ (q.2.2.2 = 1 → (T q.2.2.1).2.2.2 = true ∧ (T q.2.2.1).1 = own ∧ Cond.fieldLink own q.1 (T q.2.2.1).1 (T q.2.2.1).2.1 (T q.2.2.1).2.2.1 ∈ Ts)
/-- an instruction by itself: what comes behind it is enough -/
def vx_SX (cc : ByteArray) (V : Nat → wq_L → List Value → va_W → Nat → Nat → Prop) (ins : Jvm.ClassFile.Instr) (len : Nat) (st : List Value) (ws : va_W) (k n : Nat) (K : List Value → va_W → Nat → Nat → Prop) : Prop := ∀ (pc : Nat) (lv : wq_L), decode cc pc = .ok (ins, len) → (∀ (st2 : List Value) (ws2 : va_W) (k2 n2 : Nat), K st2 ws2 k2 n2 → V (pc + len) lv st2 ws2 k2 n2) → V pc lv st ws k n
/-- a method's ends -/
def vx_EN (cc : ByteArray) (EN : Option Value → va_W → Nat → Nat → Prop) (V : Nat → wq_L → List Value → va_W → Nat → Nat → Prop) : Prop := ∀ (r : Option Value) (ws : va_W) (k n pc : Nat) (lv : wq_L), EN r ws k n → (match r with
  | none => decode cc pc = .ok (.return_, 1)
  | some (.int _) => decode cc pc = .ok (.ireturn, 1)
  | some (.long _) => decode cc pc = .ok (.lreturn, 1)
  | some _ => decode cc pc = .ok (.areturn, 1)) → V pc lv r.toList ws k n
def wq_c (cc : ByteArray) (nL : Nat) : wq_J → Nat → Bool
  | [], _ => true
  | (ins, an) :: r, pc => (decide (decode cc pc = .ok (ins, wq_il an ins)) && wq_k nL an pc ins) && wq_c cc nL r (pc + wq_il an ins)
set_option maxHeartbeats 4000000 in
set_option maxRecDepth 100000 in
theorem wq_sound {p : Program} {l : Launch} {e : Env} {R : Room} {s : State} {m : MethodId} {args : Array Value} {below : List Frame} {meth : Method} {c : Code} {cc : ByteArray} {nL : Nat} {own : String} {Ts : List Cond} {D : va_G} {cl : List vw_C} {tys : List (ClassId × FieldType)} {A : Nat → Prop} {tc : Nat → ClassId} {Q : State → Prop} {ini : Bool} {EN : Option Value → va_W → Nat → Nat → Prop} {ft : List (Nat × Nat × Nat × Nat)} {ty : Nat → Nat → FieldType}
    (hC : Cx p s m args c cc nL own Ts D cl tys A tc) (hF : vx_Ft own Ts cl ty ft) (hini : ini = true → meth.name = "<init>") (hE : vx_EN cc EN (Vx p l e R s m args below meth c nL D cl A Q)) :
    ∀ (jc : wq_J) (pc : Nat) (lv : wq_L) (st : List Value) (ws : va_W) (k n : Nat), wq_c cc nL jc pc = true →
      wq nL ini tc ft ty (vx_RT A s) (vx_RF own args A s) (vx_RZ own args A s) (vx_RS own args s) (vx_SX cc (Vx p l e R s m args below meth c nL D cl A Q)) EN (Vx p l e R s m args below meth c nL D cl A Q) jc pc lv st ws k n → Vx p l e R s m args below meth c nL D cl A Q pc lv st ws k n := by
  obtain ⟨hx, hb, hml, hown, hts, hK, hA, hty⟩ := hC
  intro jc
  induction jc with
  | nil => intro pc lv st ws k n _ h; exact h
  | cons q r ih =>
    obtain ⟨ins, an⟩ := q
    intro pc lv st ws k n hc h
    rw [wq_c, Bool.and_eq_true, Bool.and_eq_true] at hc
    obtain ⟨⟨hc1, hk⟩, hc2⟩ := hc
    have hc1 : decode cc pc = .ok (ins, wq_il an ins) := of_decide_eq_true hc1
    cases ins
    case iconst =>
      unfold wq at h; dsimp only at h
      intro H locs ls hP hD hS hl
      exact lv_iconst hx hb hc1 (of_decide_eq_true hk) (ih _ _ _ _ _ _ hc2 h H locs ls hP hD hS hl)
    case bipush =>
      unfold wq at h; dsimp only at h
      intro H locs ls hP hD hS hl
      exact lv_bipush hx hb hc1 (of_decide_eq_true hk) (ih _ _ _ _ _ _ hc2 h H locs ls hP hD hS hl)
    case sipush =>
      unfold wq at h; dsimp only at h
      intro H locs ls hP hD hS hl
      exact lv_sipush hx hb hc1 (of_decide_eq_true hk) (ih _ _ _ _ _ _ hc2 h H locs ls hP hD hS hl)
    case lconst =>
      unfold wq at h; dsimp only at h
      intro H locs ls hP hD hS hl
      exact lv_lconst hx hb hc1 (of_decide_eq_true hk) (ih _ _ _ _ _ _ hc2 h H locs ls hP hD hS hl)
    case aconst_null =>
      unfold wq at h; dsimp only at h
      intro H locs ls hP hD hS hl
      exact lv_null hx hb hc1 (ih _ _ _ _ _ _ hc2 h H locs ls hP hD hS hl)
    case iload_n =>
      unfold wq at h; dsimp only at h
      split at h
      · intro H locs ls hP hD hS hl
        exact lv_iload_n hx hb hc1 rfl (wq_at hl ‹wq_lk _ _ = some _›) (ih _ _ _ _ _ _ hc2 h H locs ls hP hD hS hl)
      · exact h
    case lload_n =>
      unfold wq at h; dsimp only at h
      split at h
      · intro H locs ls hP hD hS hl
        exact lv_lload_n hx hb hc1 rfl (wq_at hl ‹wq_lk _ _ = some _›) (ih _ _ _ _ _ _ hc2 h H locs ls hP hD hS hl)
      · exact h
    case iload =>
      unfold wq at h; dsimp only at h
      split at h
      · intro H locs ls hP hD hS hl
        exact lv_iload hx hb hc1 (wq_at hl ‹wq_lk _ _ = some _›) (ih _ _ _ _ _ _ hc2 h H locs ls hP hD hS hl)
      · exact h
    case lload =>
      unfold wq at h; dsimp only at h
      split at h
      · intro H locs ls hP hD hS hl
        exact lv_lload hx hb hc1 (wq_at hl ‹wq_lk _ _ = some _›) (ih _ _ _ _ _ _ hc2 h H locs ls hP hD hS hl)
      · exact h
    case aload_n =>
      unfold wq at h; dsimp only at h
      split at h
      · intro H locs ls hP hD hS hl
        exact lv_aload_n hx hb hc1 rfl (wq_at hl ‹wq_lk _ _ = some _›) (ih _ _ _ _ _ _ hc2 h H locs ls hP hD hS hl)
      · intro H locs ls hP hD hS hl
        exact lv_aload_nN hx hb hc1 rfl (wq_at hl ‹wq_lk _ _ = some _›) (ih _ _ _ _ _ _ hc2 h H locs ls hP hD hS hl)
      · exact h
    case aload =>
      unfold wq at h; dsimp only at h
      split at h
      · intro H locs ls hP hD hS hl
        exact lv_aload hx hb hc1 (wq_at hl ‹wq_lk _ _ = some _›) (ih _ _ _ _ _ _ hc2 h H locs ls hP hD hS hl)
      · intro H locs ls hP hD hS hl
        exact lv_aloadN hx hb hc1 (wq_at hl ‹wq_lk _ _ = some _›) (ih _ _ _ _ _ _ hc2 h H locs ls hP hD hS hl)
      · exact h
    case istore_n =>
      unfold wq at h; dsimp only at h
      split at h
      · intro H locs ls hP hD hS hl
        exact lv_istore_n hx hb hc1 rfl hl (of_decide_eq_true hk) rfl (fun ls hl => ih _ _ _ _ _ _ hc2 h H locs ls hP hD hS hl)
      · exact h
    case istore =>
      unfold wq at h; dsimp only at h
      split at h
      · intro H locs ls hP hD hS hl
        exact lv_istore hx hb hc1 hl (of_decide_eq_true hk) rfl (fun ls hl => ih _ _ _ _ _ _ hc2 h H locs ls hP hD hS hl)
      · exact h
    case lstore_n =>
      unfold wq at h; dsimp only at h
      split at h
      · intro H locs ls hP hD hS hl
        exact lv_lstore_n hx hb hc1 rfl hl (of_decide_eq_true hk) rfl (fun ls hl => ih _ _ _ _ _ _ hc2 h H locs ls hP hD hS hl)
      · exact h
    case lstore =>
      unfold wq at h; dsimp only at h
      split at h
      · intro H locs ls hP hD hS hl
        exact lv_lstore hx hb hc1 hl (of_decide_eq_true hk) rfl (fun ls hl => ih _ _ _ _ _ _ hc2 h H locs ls hP hD hS hl)
      · exact h
    case astore_n =>
      unfold wq at h; dsimp only at h
      split at h
      · intro H locs ls hP hD hS hl
        exact lv_astore_n hx hb hc1 rfl hl (of_decide_eq_true hk) rfl (fun ls hl => ih _ _ _ _ _ _ hc2 h H locs ls hP hD hS hl)
      · intro H locs ls hP hD hS hl
        exact lv_astore_nN hx hb hc1 rfl hl (of_decide_eq_true hk) rfl (fun ls hl => ih _ _ _ _ _ _ hc2 h H locs ls hP hD hS hl)
      · exact h
    case astore =>
      unfold wq at h; dsimp only at h
      split at h
      · intro H locs ls hP hD hS hl
        exact lv_astore hx hb hc1 hl (of_decide_eq_true hk) rfl (fun ls hl => ih _ _ _ _ _ _ hc2 h H locs ls hP hD hS hl)
      · intro H locs ls hP hD hS hl
        exact lv_astoreN hx hb hc1 hl (of_decide_eq_true hk) rfl (fun ls hl => ih _ _ _ _ _ _ hc2 h H locs ls hP hD hS hl)
      · exact h
    case iinc =>
      unfold wq at h; dsimp only at h
      have hk := Bool.and_eq_true_iff.mp hk
      split at h
      · intro H locs ls hP hD hS hl
        obtain ⟨j, hj⟩ := wq_ix ‹wq_lk _ _ = some _›
        exact lv_iinc hx hb hc1 hl hj (by rw [of_decide_eq_true hk.1]) (of_decide_eq_true hk.2) rfl (fun ls hl => ih _ _ _ _ _ _ hc2 h H locs ls hP hD hS hl)
      · exact h
    case iadd =>
      unfold wq at h; dsimp only at h
      split at h
      · intro H locs ls hP hD hS hl
        exact lv_iadd hx hb hc1 (ih _ _ _ _ _ _ hc2 h H locs ls hP hD hS hl)
      · exact h
    case isub =>
      unfold wq at h; dsimp only at h
      split at h
      · intro H locs ls hP hD hS hl
        exact lv_isub hx hb hc1 (ih _ _ _ _ _ _ hc2 h H locs ls hP hD hS hl)
      · exact h
    case imul =>
      unfold wq at h; dsimp only at h
      split at h
      · intro H locs ls hP hD hS hl
        exact lv_imul hx hb hc1 (ih _ _ _ _ _ _ hc2 h H locs ls hP hD hS hl)
      · exact h
    case iand =>
      unfold wq at h; dsimp only at h
      split at h
      · intro H locs ls hP hD hS hl
        exact lv_iand hx hb hc1 (ih _ _ _ _ _ _ hc2 h H locs ls hP hD hS hl)
      · exact h
    case ior =>
      unfold wq at h; dsimp only at h
      split at h
      · intro H locs ls hP hD hS hl
        exact lv_ior hx hb hc1 (ih _ _ _ _ _ _ hc2 h H locs ls hP hD hS hl)
      · exact h
    case ixor =>
      unfold wq at h; dsimp only at h
      split at h
      · intro H locs ls hP hD hS hl
        exact lv_ixor hx hb hc1 (ih _ _ _ _ _ _ hc2 h H locs ls hP hD hS hl)
      · exact h
    case ladd =>
      unfold wq at h; dsimp only at h
      split at h
      · intro H locs ls hP hD hS hl
        exact lv_ladd hx hb hc1 (ih _ _ _ _ _ _ hc2 h H locs ls hP hD hS hl)
      · exact h
    case lsub =>
      unfold wq at h; dsimp only at h
      split at h
      · intro H locs ls hP hD hS hl
        exact lv_lsub hx hb hc1 (ih _ _ _ _ _ _ hc2 h H locs ls hP hD hS hl)
      · exact h
    case lmul =>
      unfold wq at h; dsimp only at h
      split at h
      · intro H locs ls hP hD hS hl
        exact lv_lmul hx hb hc1 (ih _ _ _ _ _ _ hc2 h H locs ls hP hD hS hl)
      · exact h
    case land =>
      unfold wq at h; dsimp only at h
      split at h
      · intro H locs ls hP hD hS hl
        exact lv_land hx hb hc1 (ih _ _ _ _ _ _ hc2 h H locs ls hP hD hS hl)
      · exact h
    case lor =>
      unfold wq at h; dsimp only at h
      split at h
      · intro H locs ls hP hD hS hl
        exact lv_lor hx hb hc1 (ih _ _ _ _ _ _ hc2 h H locs ls hP hD hS hl)
      · exact h
    case lxor =>
      unfold wq at h; dsimp only at h
      split at h
      · intro H locs ls hP hD hS hl
        exact lv_lxor hx hb hc1 (ih _ _ _ _ _ _ hc2 h H locs ls hP hD hS hl)
      · exact h
    case ishl =>
      unfold wq at h; dsimp only at h
      split at h
      · intro H locs ls hP hD hS hl
        exact lv_ishl hx hb hc1 (ih _ _ _ _ _ _ hc2 h H locs ls hP hD hS hl)
      · exact h
    case ishr =>
      unfold wq at h; dsimp only at h
      split at h
      · intro H locs ls hP hD hS hl
        exact lv_ishr hx hb hc1 (ih _ _ _ _ _ _ hc2 h H locs ls hP hD hS hl)
      · exact h
    case ineg =>
      unfold wq at h; dsimp only at h
      split at h
      · intro H locs ls hP hD hS hl
        exact lv_ineg hx hb hc1 (ih _ _ _ _ _ _ hc2 h H locs ls hP hD hS hl)
      · exact h
    case lneg =>
      unfold wq at h; dsimp only at h
      split at h
      · intro H locs ls hP hD hS hl
        exact lv_lneg hx hb hc1 (ih _ _ _ _ _ _ hc2 h H locs ls hP hD hS hl)
      · exact h
    case iushr =>
      unfold wq at h; dsimp only at h
      split at h
      · intro H locs ls hP hD hS hl
        exact lv_iushr hx hb hc1 rfl (ih _ _ _ _ _ _ hc2 h H locs ls hP hD hS hl)
      · exact h
    case lshl =>
      unfold wq at h; dsimp only at h
      split at h
      · intro H locs ls hP hD hS hl
        exact lv_lshl hx hb hc1 rfl (ih _ _ _ _ _ _ hc2 h H locs ls hP hD hS hl)
      · exact h
    case lshr =>
      unfold wq at h; dsimp only at h
      split at h
      · intro H locs ls hP hD hS hl
        exact lv_lshr hx hb hc1 rfl (ih _ _ _ _ _ _ hc2 h H locs ls hP hD hS hl)
      · exact h
    case lushr =>
      unfold wq at h; dsimp only at h
      split at h
      · intro H locs ls hP hD hS hl
        exact lv_lushr hx hb hc1 rfl (ih _ _ _ _ _ _ hc2 h H locs ls hP hD hS hl)
      · exact h
    case i2l =>
      unfold wq at h; dsimp only at h
      split at h
      · intro H locs ls hP hD hS hl
        exact lv_i2l hx hb hc1 rfl (ih _ _ _ _ _ _ hc2 h H locs ls hP hD hS hl)
      · exact h
    case l2i =>
      unfold wq at h; dsimp only at h
      split at h
      · intro H locs ls hP hD hS hl
        exact lv_l2i hx hb hc1 rfl (ih _ _ _ _ _ _ hc2 h H locs ls hP hD hS hl)
      · exact h
    case i2b =>
      unfold wq at h; dsimp only at h
      split at h
      · intro H locs ls hP hD hS hl
        exact lv_i2b hx hb hc1 rfl (ih _ _ _ _ _ _ hc2 h H locs ls hP hD hS hl)
      · exact h
    case i2s =>
      unfold wq at h; dsimp only at h
      split at h
      · intro H locs ls hP hD hS hl
        exact lv_i2s hx hb hc1 rfl (ih _ _ _ _ _ _ hc2 h H locs ls hP hD hS hl)
      · exact h
    case i2c =>
      unfold wq at h; dsimp only at h
      split at h
      · intro H locs ls hP hD hS hl
        exact lv_i2c hx hb hc1 rfl (ih _ _ _ _ _ _ hc2 h H locs ls hP hD hS hl)
      · exact h
    case idiv =>
      unfold wq at h; dsimp only at h
      split at h
      · obtain ⟨hne, h⟩ := h
        intro H locs ls hP hD hS hl
        exact lv_idiv hx hb hc1 hne (ih _ _ _ _ _ _ hc2 h H locs ls hP hD hS hl)
      · exact h
    case irem =>
      unfold wq at h; dsimp only at h
      split at h
      · obtain ⟨hne, h⟩ := h
        intro H locs ls hP hD hS hl
        exact lv_irem hx hb hc1 hne (ih _ _ _ _ _ _ hc2 h H locs ls hP hD hS hl)
      · exact h
    case ldiv =>
      unfold wq at h; dsimp only at h
      split at h
      · obtain ⟨hne, h⟩ := h
        intro H locs ls hP hD hS hl
        exact lv_ldiv hx hb hc1 hne (ih _ _ _ _ _ _ hc2 h H locs ls hP hD hS hl)
      · exact h
    case lrem =>
      unfold wq at h; dsimp only at h
      split at h
      · obtain ⟨hne, h⟩ := h
        intro H locs ls hP hD hS hl
        exact lv_lrem hx hb hc1 hne (ih _ _ _ _ _ _ hc2 h H locs ls hP hD hS hl)
      · exact h
    case lcmp =>
      unfold wq at h; dsimp only at h
      split at h
      · intro H locs ls hP hD hS hl
        exact W.lcmp hx hb hc1 (ih _ _ _ _ _ _ hc2 h H locs ls hP hD hS hl)
      · exact h
    case dup =>
      unfold wq at h; dsimp only at h
      split at h
      · obtain ⟨h1, h⟩ := h
        intro H locs ls hP hD hS hl
        exact lv_dup hx hb hc1 h1 (ih _ _ _ _ _ _ hc2 h H locs ls hP hD hS hl)
      · exact h
    case pop =>
      unfold wq at h; dsimp only at h
      split at h
      · obtain ⟨h1, h⟩ := h
        intro H locs ls hP hD hS hl
        exact lv_pop hx hb hc1 h1 (ih _ _ _ _ _ _ hc2 h H locs ls hP hD hS hl)
      · exact h
    case dup_x1 =>
      unfold wq at h; dsimp only at h
      split at h
      · obtain ⟨h1, h2, h⟩ := h
        intro H locs ls hP hD hS hl
        exact lv_dup_x1 hx hb hc1 h1 h2 (ih _ _ _ _ _ _ hc2 h H locs ls hP hD hS hl)
      · exact h
    case dup2 =>
      unfold wq at h; dsimp only at h
      split at h
      · intro H locs ls hP hD hS hl
        exact lv_dup2_2 hx hb hc1 rfl (ih _ _ _ _ _ _ hc2 h H locs ls hP hD hS hl)
      · obtain ⟨h1, h2, h⟩ := h
        intro H locs ls hP hD hS hl
        exact lv_dup2_11 hx hb hc1 h1 h2 (ih _ _ _ _ _ _ hc2 h H locs ls hP hD hS hl)
      · exact h
    case ifCond =>
      rename_i cond off _
      cases cond
      case eq =>
        unfold wq at h; dsimp only at h
        split at h
        · intro H locs ls hP hD hS hl
          exact lv_if_eq hx hb hc1 (of_decide_eq_true hk) (fun z => h.1 z H locs ls hP hD hS hl) (fun z => ih _ _ _ _ _ _ hc2 (h.2 z) H locs ls hP hD hS hl)
        · exact h
      case ne =>
        unfold wq at h; dsimp only at h
        split at h
        · intro H locs ls hP hD hS hl
          exact lv_if_ne hx hb hc1 (of_decide_eq_true hk) (fun z => h.1 z H locs ls hP hD hS hl) (fun z => ih _ _ _ _ _ _ hc2 (h.2 z) H locs ls hP hD hS hl)
        · exact h
      case lt =>
        unfold wq at h; dsimp only at h
        split at h
        · intro H locs ls hP hD hS hl
          exact lv_if_lt hx hb hc1 (of_decide_eq_true hk) (fun z => h.1 z H locs ls hP hD hS hl) (fun z => ih _ _ _ _ _ _ hc2 (h.2 z) H locs ls hP hD hS hl)
        · exact h
      case ge =>
        unfold wq at h; dsimp only at h
        split at h
        · intro H locs ls hP hD hS hl
          exact lv_if_ge hx hb hc1 (of_decide_eq_true hk) (fun z => h.1 z H locs ls hP hD hS hl) (fun z => ih _ _ _ _ _ _ hc2 (h.2 z) H locs ls hP hD hS hl)
        · exact h
      case gt =>
        unfold wq at h; dsimp only at h
        split at h
        · intro H locs ls hP hD hS hl
          exact lv_if_gt hx hb hc1 (of_decide_eq_true hk) (fun z => h.1 z H locs ls hP hD hS hl) (fun z => ih _ _ _ _ _ _ hc2 (h.2 z) H locs ls hP hD hS hl)
        · exact h
      case le =>
        unfold wq at h; dsimp only at h
        split at h
        · intro H locs ls hP hD hS hl
          exact lv_if_le hx hb hc1 (of_decide_eq_true hk) (fun z => h.1 z H locs ls hP hD hS hl) (fun z => ih _ _ _ _ _ _ hc2 (h.2 z) H locs ls hP hD hS hl)
        · exact h
    case if_icmp =>
      rename_i cond off _
      cases cond
      case eq =>
        unfold wq at h; dsimp only at h
        split at h
        · intro H locs ls hP hD hS hl
          exact lv_icmp_eq hx hb hc1 (of_decide_eq_true hk) (fun z => h.1 z H locs ls hP hD hS hl) (fun z => ih _ _ _ _ _ _ hc2 (h.2 z) H locs ls hP hD hS hl)
        · exact h
      case ne =>
        unfold wq at h; dsimp only at h
        split at h
        · intro H locs ls hP hD hS hl
          exact lv_icmp_ne hx hb hc1 (of_decide_eq_true hk) (fun z => h.1 z H locs ls hP hD hS hl) (fun z => ih _ _ _ _ _ _ hc2 (h.2 z) H locs ls hP hD hS hl)
        · exact h
      case lt =>
        unfold wq at h; dsimp only at h
        split at h
        · intro H locs ls hP hD hS hl
          exact lv_icmp_lt hx hb hc1 (of_decide_eq_true hk) (fun z => h.1 z H locs ls hP hD hS hl) (fun z => ih _ _ _ _ _ _ hc2 (h.2 z) H locs ls hP hD hS hl)
        · exact h
      case ge =>
        unfold wq at h; dsimp only at h
        split at h
        · intro H locs ls hP hD hS hl
          exact lv_icmp_ge hx hb hc1 (of_decide_eq_true hk) (fun z => h.1 z H locs ls hP hD hS hl) (fun z => ih _ _ _ _ _ _ hc2 (h.2 z) H locs ls hP hD hS hl)
        · exact h
      case gt =>
        unfold wq at h; dsimp only at h
        split at h
        · intro H locs ls hP hD hS hl
          exact lv_icmp_gt hx hb hc1 (of_decide_eq_true hk) (fun z => h.1 z H locs ls hP hD hS hl) (fun z => ih _ _ _ _ _ _ hc2 (h.2 z) H locs ls hP hD hS hl)
        · exact h
      case le =>
        unfold wq at h; dsimp only at h
        split at h
        · intro H locs ls hP hD hS hl
          exact lv_icmp_le hx hb hc1 (of_decide_eq_true hk) (fun z => h.1 z H locs ls hP hD hS hl) (fun z => ih _ _ _ _ _ _ hc2 (h.2 z) H locs ls hP hD hS hl)
        · exact h
    case ifnull =>
      unfold wq at h; dsimp only at h
      split at h
      · intro H locs ls hP hD hS hl
        exact lv_ifnull hx hb hc1 (ih _ _ _ _ _ _ hc2 h H locs ls hP hD hS hl)
      · intro H locs ls hP hD hS hl
        exact lv_ifnullN hx hb hc1 (of_decide_eq_true hk) (h H locs ls hP hD hS hl)
      · exact h
    case ifnonnull =>
      unfold wq at h; dsimp only at h
      split at h
      · intro H locs ls hP hD hS hl
        exact lv_ifnonnull hx hb hc1 (of_decide_eq_true hk) (h H locs ls hP hD hS hl)
      · intro H locs ls hP hD hS hl
        exact lv_ifnonnullN hx hb hc1 (ih _ _ _ _ _ _ hc2 h H locs ls hP hD hS hl)
      · exact h
    case goto =>
      unfold wq at h; dsimp only at h
      intro H locs ls hP hD hS hl
      exact lv_goto hx hb hc1 (of_decide_eq_true hk) (h H locs ls hP hD hS hl)
    case getfield =>
      unfold wq at h; dsimp only at h
      split at h
      · split at h
        · split at h
          · obtain ⟨rfl, h⟩ := h
            obtain ⟨⟨i0, c0, k0, m0⟩, hq, rfl, rfl, e3⟩ := wq_ok_spec ‹wq_ok _ _ _ _ = true›
            obtain ⟨C, T, N, g1, g2, g3, g4, g5, g6, g7⟩ := hF _ hq
            dsimp only at e3 g1 g2 g6
            subst e3
            intro H locs ls hP hD hS hl
            rcases g6 with g6 | ⟨host, g6⟩
            · exact va_get hx hb hts g3 hown hK hP _ ‹ws[_]? = some _› g1 _ g2 (hts _ g6) (fun _ z => z) ‹_[_]? = some _› hc1 (ih _ _ _ _ _ _ hc2 h H locs ls hP hD hS hl)
            · exact va_getN hx hb hts g3 hown hK hP _ ‹ws[_]? = some _› g1 _ g2 (hts _ g6) (fun _ z => z) ‹_[_]? = some _› hc1 (ih _ _ _ _ _ _ hc2 h H locs ls hP hD hS hl)
          · exact h
        · exact h
      · split at h
        · obtain ⟨v, ⟨o, nn, d, ref, q1, q2, q3⟩, h⟩ := h
          intro H locs ls hP hD hS hl
          rcases q2 with q2 | ⟨host, q2⟩
          · exact vk_getf hx hb q1 hS hown q2 q3 hc1 (ih _ _ _ _ _ _ hc2 h H locs ls hP hD hS hl)
          · obtain ⟨cf, kf, fi, ff, cell, z1, z2, z3, z4, z5, z6⟩ := q1
            exact va_Wgetf hx hb hown q2 (q3 _ z1) z2 ((hS.2.1 _ (Array.getElem?_eq_some_iff.mp z3).1 z6).trans z3) z4 z5 rfl rfl hc1 (ih _ _ _ _ _ _ hc2 h H locs ls hP hD hS hl)
        · exact h
      · exact h pc lv hc1 (fun st2 ws2 k2 n2 z => ih _ _ _ _ _ _ hc2 z)
    case putfield =>
      unfold wq at h; dsimp only at h
      split at h
      · split at h
        · split at h
          · obtain ⟨rfl, ⟨h1, h2⟩, h⟩ := h
            obtain ⟨⟨i0, c0, k0, m0⟩, hq, rfl, rfl, e3, e4⟩ := wq_om_spec ‹wq_om _ _ _ _ _ = true›
            obtain ⟨C, T, N, g1, g2, g3, g4, g5, g6, g7, g8⟩ := hF _ hq
            dsimp only at e3 e4 g1 g2 g6 g7 g8
            subst e3
            subst e4
            intro H locs ls hP hD hS hl
            rcases g6 with g6 | ⟨host, g6⟩
            · exact va_put hx hb hts g3 (ty c0) g4 g5 hown hK hP hD hS _ ‹ws[_]? = some _› g1 _ g2 (hts _ g6) (fun _ z => z) (g7 rfl) (g4 _ g2) h1 h2 (Nat.le_of_ble_eq_true ‹Nat.blt _ _ = true›) hc1 (fun H locs hP hD hS => ih _ _ _ _ _ _ hc2 h H locs ls hP hD hS hl)
            · exact va_putN hx hb hts g3 (ty c0) g4 g5 hown hK hP hD hS _ ‹ws[_]? = some _› g1 _ g2 (hts _ g6) (fun _ z => z) (g7 rfl) (g4 _ g2) h1 h2 (Nat.le_of_ble_eq_true ‹Nat.blt _ _ = true›) hc1 (fun H locs hP hD hS => ih _ _ _ _ _ _ hc2 h H locs ls hP hD hS hl)
          · exact h
        · exact h
      · split at h
        · split at h
          · obtain ⟨rfl, ⟨h1, h2⟩, h⟩ := h
            obtain ⟨⟨i0, c0, k0, m0⟩, hq, rfl, rfl, e3, e4⟩ := wq_om_spec ‹wq_om _ _ _ _ _ = true›
            obtain ⟨C, T, N, g1, g2, g3, g4, g5, g6, g7, g8⟩ := hF _ hq
            dsimp only at e3 e4 g1 g2 g6 g7 g8
            subst e3
            subst e4
            intro H locs ls hP hD hS hl
            obtain ⟨f1, f2, f3⟩ := g8 rfl
            exact va_putF hx hb hts g3 (ty c0) g4 g5 hown hK hP hD hS _ ‹ws[_]? = some _› g1 _ g2 (hts _ f3) (fun _ z => z) f1 (hini rfl) f2 (g4 _ g2) h1 h2 (Nat.le_of_ble_eq_true ‹Nat.blt _ _ = true›) hc1 (fun H locs hP hD hS => ih _ _ _ _ _ _ hc2 h H locs ls hP hD hS hl)
          · exact h
        · exact h
      · exact h pc lv hc1 (fun st2 ws2 k2 n2 z => ih _ _ _ _ _ _ hc2 z)
    case getstatic =>
      unfold wq at h; dsimp only at h
      split at h
      · obtain ⟨v, ⟨C, nn, d, ref, q1, q2, q3⟩, h⟩ := h
        intro H locs ls hP hD hS hl
        rcases q2 with q2 | ⟨host, q2⟩
        · exact va_gets hx hb q1 hS hown q2 q3 hc1 (ih _ _ _ _ _ _ hc2 h H locs ls hP hD hS hl)
        · exact va_getsN hx hb q1 hS hown q2 q3 hc1 (ih _ _ _ _ _ _ hc2 h H locs ls hP hD hS hl)
      · exact h pc lv hc1 (fun st2 ws2 k2 n2 z => ih _ _ _ _ _ _ hc2 z)
    case ldc =>
      unfold wq at h; dsimp only at h
      split at h
      · obtain ⟨q1, h⟩ := h
        intro H locs ls hP hD hS hl
        rcases q1 with ⟨x, e1, q1⟩ | ⟨x, e1, q1⟩ | ⟨tx, q, e1, q1⟩
        · cases e1
          exact lv_ldc hx hb hown q1 hc1 (ih _ _ _ _ _ _ hc2 h H locs ls hP hD hS hl)
        · cases e1
        · cases e1
      · obtain ⟨a, q1, h⟩ := h
        intro H locs ls hP hD hS hl
        rcases q1 with ⟨x, e1, q1⟩ | ⟨x, e1, q1⟩ | ⟨tx, q, e1, q1⟩
        · cases e1
        · cases e1
        · cases e1
          exact va_ldcS hx hb hown q1 hc1 (ih _ _ _ _ _ _ hc2 h H locs ls hP hD hS hl)
      · exact h pc lv hc1 (fun st2 ws2 k2 n2 z => ih _ _ _ _ _ _ hc2 z)
    case ldc2_w =>
      unfold wq at h; dsimp only at h
      split at h
      · obtain ⟨q1, h⟩ := h
        intro H locs ls hP hD hS hl
        rcases q1 with ⟨x, e1, q1⟩ | ⟨x, e1, q1⟩ | ⟨tx, q, e1, q1⟩
        · cases e1
        · cases e1
          exact lv_ldc2 hx hb hown q1 hc1 (ih _ _ _ _ _ _ hc2 h H locs ls hP hD hS hl)
        · cases e1
      · exact h pc lv hc1 (fun st2 ws2 k2 n2 z => ih _ _ _ _ _ _ hc2 z)
    case iaload =>
      unfold wq at h; dsimp only at h
      split at h
      · split at h
        · obtain ⟨rfl, rfl, h1, h⟩ := h
          intro H locs ls hP hD hS hl
          exact va_iald hx hb hK hP _ 0 ‹ws[_]? = some _› (hty 0 (by decide)) h1 hc1 (ih _ _ _ _ _ _ hc2 h H locs ls hP hD hS hl)
        · exact h
      · split at h
        · obtain ⟨N, f, h1, h2, h⟩ := h
          intro H locs ls hP hD hS hl
          exact va_ti hx hb h1 hS h2 rfl hc1 (ih _ _ _ _ _ _ hc2 h H locs ls hP hD hS hl)
        · exact h
      · exact h pc lv hc1 (fun st2 ws2 k2 n2 z => ih _ _ _ _ _ _ hc2 z)
    case baload =>
      unfold wq at h; dsimp only at h
      split at h
      · split at h
        · obtain ⟨rfl, rfl, h1, h⟩ := h
          intro H locs ls hP hD hS hl
          exact va_bald hx hb hK hP _ 1 ‹ws[_]? = some _› (hty 1 (by decide)) h1 hc1 (ih _ _ _ _ _ _ hc2 h H locs ls hP hD hS hl)
        · exact h
      · split at h
        · obtain ⟨rfl, rfl, h1, h⟩ := h
          intro H locs ls hP hD hS hl
          exact va_zald hx hb hK hP _ 3 ‹ws[_]? = some _› (hty 3 (by decide)) h1 hc1 (ih _ _ _ _ _ _ hc2 h H locs ls hP hD hS hl)
        · exact h
      · split at h
        · obtain ⟨N, f, h1, h2, h⟩ := h
          intro H locs ls hP hD hS hl
          exact va_tb hx hb h1 hS h2 rfl hc1 (ih _ _ _ _ _ _ hc2 h H locs ls hP hD hS hl)
        · exact h
      · exact h pc lv hc1 (fun st2 ws2 k2 n2 z => ih _ _ _ _ _ _ hc2 z)
    case laload =>
      unfold wq at h; dsimp only at h
      split at h
      · split at h
        · obtain ⟨rfl, rfl, h1, h⟩ := h
          intro H locs ls hP hD hS hl
          exact va_lald hx hb hK hP _ 2 ‹ws[_]? = some _› (hty 2 (by decide)) h1 hc1 (ih _ _ _ _ _ _ hc2 h H locs ls hP hD hS hl)
        · exact h
      · split at h
        · obtain ⟨N, f, h1, h2, h⟩ := h
          intro H locs ls hP hD hS hl
          exact va_tl hx hb h1 hS h2 rfl hc1 (ih _ _ _ _ _ _ hc2 h H locs ls hP hD hS hl)
        · exact h
      · exact h pc lv hc1 (fun st2 ws2 k2 n2 z => ih _ _ _ _ _ _ hc2 z)
    case iastore =>
      unfold wq at h; dsimp only at h
      split at h
      · split at h
        · obtain ⟨rfl, rfl, h1, h⟩ := h
          intro H locs ls hP hD hS hl
          exact va_iast hx hb hK hP hD hS _ 0 ‹ws[_]? = some _› (hty 0 (by decide)) h1 hc1 (fun H locs hP hD hS => ih _ _ _ _ _ _ hc2 h H locs ls hP hD hS hl)
        · exact h
      · exact h pc lv hc1 (fun st2 ws2 k2 n2 z => ih _ _ _ _ _ _ hc2 z)
    case bastore =>
      unfold wq at h; dsimp only at h
      split at h
      · split at h
        · obtain ⟨rfl, rfl, h1, h⟩ := h
          intro H locs ls hP hD hS hl
          exact va_bast hx hb hK hP hD hS _ 1 ‹ws[_]? = some _› (hty 1 (by decide)) h1 hc1 (fun H locs hP hD hS => ih _ _ _ _ _ _ hc2 h H locs ls hP hD hS hl)
        · exact h
      · split at h
        · obtain ⟨rfl, rfl, h1, h⟩ := h
          intro H locs ls hP hD hS hl
          exact va_zast hx hb hK hP hD hS _ 3 ‹ws[_]? = some _› (hty 3 (by decide)) h1 hc1 (fun H locs hP hD hS => ih _ _ _ _ _ _ hc2 h H locs ls hP hD hS hl)
        · exact h
      · exact h pc lv hc1 (fun st2 ws2 k2 n2 z => ih _ _ _ _ _ _ hc2 z)
    case lastore =>
      unfold wq at h; dsimp only at h
      split at h
      · split at h
        · obtain ⟨rfl, rfl, h1, h⟩ := h
          intro H locs ls hP hD hS hl
          exact va_last hx hb hK hP hD hS _ 2 ‹ws[_]? = some _› (hty 2 (by decide)) h1 hc1 (fun H locs hP hD hS => ih _ _ _ _ _ _ hc2 h H locs ls hP hD hS hl)
        · exact h
      · exact h pc lv hc1 (fun st2 ws2 k2 n2 z => ih _ _ _ _ _ _ hc2 z)
    case arraylength =>
      unfold wq at h; dsimp only at h
      split at h
      · split at h
        · obtain ⟨rfl, ⟨y, hy, rfl⟩, h⟩ := h
          intro H locs ls hP hD hS hl
          have he := ‹ws[_]? = some _›
          exact va_alen hx hb hK hP _ y he (hty y hy) rfl hc1 (ih _ _ _ _ _ _ hc2 h H locs ls hP hD hS hl)
        · exact h
      · split at h
        · obtain ⟨y, N, f, h1, h⟩ := h
          intro H locs ls hP hD hS hl
          exact va_tlen hx hb h1 hS rfl hc1 (ih _ _ _ _ _ _ hc2 h H locs ls hP hD hS hl)
        · exact h
      · exact h pc lv hc1 (fun st2 ws2 k2 n2 z => ih _ _ _ _ _ _ hc2 z)
    case ireturn =>
      unfold wq at h; dsimp only at h
      split at h
      · exact hE _ _ _ _ _ _ h hc1
      · exact h
    case lreturn =>
      unfold wq at h; dsimp only at h
      split at h
      · exact hE _ _ _ _ _ _ h hc1
      · exact h
    case return_ =>
      unfold wq at h; dsimp only at h
      split at h
      · exact hE _ _ _ _ _ _ h hc1
      · exact h
    case areturn =>
      unfold wq at h; dsimp only at h
      split at h
      · exact hE _ _ _ _ _ _ h hc1
      · exact hE _ _ _ _ _ _ h hc1
      · exact h
    case tableswitch =>
      unfold wq at h; dsimp only at h
      exact h
    case lookupswitch =>
      unfold wq at h; dsimp only at h
      exact h
    all_goals exact h pc lv hc1 (fun st2 ws2 k2 n2 z => ih _ _ _ _ _ _ hc2 z)
end
section
/-! CONTRACTS over cells, and calls by them -/
def Qp (D : va_G) (cl : List vw_C) (A : Nat → Prop) (post : Option Value → va_W → Prop) : Array Value → State → Outcome → State → Prop := fun _ st oc t => (∃ (r : Option Value) (w1 : va_W), oc = .returned r ∧ post r w1 ∧ va_P D cl w1 t.heap ∧ va_D A w1) ∧ va_F A st t
/-- facts about cells that are only read: they don't mind frames, writes elsewhere, fewer writes -/
def RO (F : (Nat → Prop) → State → Heap → Prop) : Prop := (∀ (A : Nat → Prop) (u U : State) (H : Heap), u.WarmedH U.vm → F A u H → F A U H) ∧ (∀ (A : Nat → Prop) (U : State) (H H1 : Heap), (∀ a : Nat, a < H.size → ¬ A a → H1[a]? = H[a]?) → F A U H → F A U H1) ∧ (∀ (A B : Nat → Prop) (U : State) (H : Heap), (∀ q, B q → A q) → F A U H → F B U H)
def Kp (D : va_G) (cl : List vw_C) (tys : List (ClassId × FieldType)) (F : (Nat → Prop) → State → Heap → Prop) (ar : List Value) (ws : va_W) (sz : Nat) : Array Value → State → Prop := va_Pc ar (fun U => U.heap.size = sz ∧ va_P D cl ws U.heap ∧ va_K D cl tys U ∧ va_D (fun _ => True) ws ∧ F (va_A ws sz) U U.heap)
/-- a method's contract: from the cells ws and the read facts F it answers by post, at most mc cells of ms slots are new -/
def Kt (l : Launch) (y : MethodName) (wds : List Cond) (fr lo mc ms : Nat) (D : va_G) (cl : List vw_C) (tys : List (ClassId × FieldType)) (F : (Nat → Prop) → State → Heap → Prop) (ar : List Value) (ws : va_W) (post : Option Value → va_W → Prop) : Prop :=
  RO F ∧ ∀ sz : Nat, Met l y wds { frames := fr, cells := mc, slots := ms, locals := lo } (Kp D cl tys F ar ws sz) (Qp D cl (va_A ws sz) post) mc ms (va_A ws sz)
theorem Kp.blind {D : va_G} {cl : List vw_C} {tys : List (ClassId × FieldType)} {F : (Nat → Prop) → State → Heap → Prop} {ar : List Value} {ws : va_W} {sz : Nat} (hF : RO F) : FrameBlind (Kp D cl tys F ar ws sz) := by
  intro a U g mk q
  obtain ⟨q0, q1, qP, qK, qD, qF⟩ := q
  exact ⟨q0, q1, qP, va_K.moved (u := U) (U := U.calling g mk a) (Vm.Alike.refl U.vm) qK, qD, hF.1 _ U (U.calling g mk a) _ (State.WarmedH.refl U) qF⟩
set_option maxHeartbeats 1000000 in
/-- a contract out of a walk -/
theorem Kt.of {l : Launch} {y : MethodName} {wds ws' : List Cond} {fr lo mc ms : Nat} {D : va_G} {cl : List vw_C} {tys : List (ClassId × FieldType)} {F : (Nat → Prop) → State → Heap → Prop} {ar : List Value} {ws : va_W} {post : Option Value → va_W → Prop} {cc : ByteArray} {nL : Nat} {ret : Option FieldType} {tc : Nat → ClassId}
    (hF : RO F) (hy : plainName y.cls = true) (hw : wds = Cond.code y cc nL ret :: ws') (hty : ∀ i : Nat, i < 4 → tys[i]? = some (tc i, vx_ty i)) (hlen : (lg_sl ar).length ≤ nL)
    (body : ∀ (p : Program) (e : Env) (s : State) (m : MethodId) (args : Array Value) (below : List Frame) (meth : Method) (c : Code) (A : Nat → Prop), Cx p s m args c cc nL y.cls wds D cl tys A tc → meth.sig.returnType = ret → meth.locks = false → meth.name = y.name → F A s s.heap →
      Vx p l e { frames := fr, cells := mc, slots := ms, locals := lo } s m args below meth c nL D cl A (MQ below (Qp D cl A post) args s mc ms A) 0 (lv_args 0 ar) [] ws 0 0) :
    Kt l y wds fr lo mc ms D cl tys F ar ws post := by
  refine ⟨hF, fun sz => ?_⟩
  refine Met.ofW (cc := cc) (maxL := nL) (ret := ret) hy hw ?_
  intro p e s m args below meth c s₁ B hml hv
  obtain ⟨rfl, hsz, hP, hK, hD0, hf⟩ := hv
  have hts := atoms_spec (ws := wds) B.pre
  have hown : s.vm.findClass y.cls = some m.cls := findClass_of_methodNamed B.named
  have hnm : meth.name = y.name := (name_of_methodNamed B.named B.method).1
  subst hsz
  have hD := hD0.self (sz := s.heap.size)
  generalize hAe : va_A ws s.heap.size = A at hD hf ⊢
  have hA : ∀ q : Nat, s.heap.size ≤ q → A q := fun q h => by rw [← hAe]; exact Or.inr h
  have hS : va_S A s.heap s.heap [] := va_S.rf
  have hl := lv_entry ar (n := nL) hlen
  rw [lg_entry_eq]
  exact body p e s m _ below meth c A ⟨B.exec, B.bytes, hml, hown, hts, hK, hA, hty⟩ B.returns B.notSynchronized hnm hf s.heap [] _ hP hD hS hl
section
variable {p : Program} {l : Launch} {e : Env} {R : Room} {s : State} {m : MethodId} {args : Array Value} {below : List Frame} {meth : Method} {c : Code} {cc : ByteArray} {nL : Nat} {own : String} {Ts : List Cond} {D : va_G} {cl : List vw_C} {tys : List (ClassId × FieldType)} {A : Nat → Prop} {tc : Nat → ClassId} {Q : State → Prop} {pc : Nat} {lv lv' : wq_L} {st rest : List Value} {ws wc wr ws2 : va_W} {k n mc ms : Nat} {post : Option Value → va_W → Prop} {F : (Nat → Prop) → State → Heap → Prop}
/-- fewer locals and cells, in another order -/
theorem Vx.sub (is : List Nat) (hl : lv_pick lv is = lv') (js : List Nat) (hn : va_nd js = true) (hw : js.map (fun i => ws[i]?) = ws2.map some) (h : Vx p l e R s m args below meth c nL D cl A Q pc lv' st ws2 k n) : Vx p l e R s m args below meth c nL D cl A Q pc lv st ws k n := by
  intro H locs ls hP hD hS hl0
  refine h H locs ls ?_ (hD.sub js hn hw) hS (lv_sub hl0 is hl)
  intro j q hq
  have h1 : (js.map (fun i => ws[i]?))[j]? = some (some q) := by rw [hw, List.getElem?_map, hq]; rfl
  rw [List.getElem?_map] at h1
  cases hi : js[j]? with
  | none => rw [hi] at h1; cases h1
  | some i => rw [hi] at h1; exact hP i q (Option.some.inj h1)
theorem Vx.subL (is : List Nat) (hl : lv_pick lv is = lv') (h : Vx p l e R s m args below meth c nL D cl A Q pc lv' st ws k n) : Vx p l e R s m args below meth c nL D cl A Q pc lv st ws k n :=
  fun H locs ls hP hD hS hl0 => h H locs ls hP hD hS (lv_sub hl0 is hl)
theorem Vx.wide {k2 n2 : Nat} (h1 : k ≤ k2) (h2 : n ≤ n2) (h : Vx p l e R s m args below meth c nL D cl A Q pc lv st ws k2 n2) : Vx p l e R s m args below meth c nL D cl A Q pc lv st ws k n :=
  fun H locs ls hP hD hS hl0 => W.widen h1 h2 (h H locs ls hP hD hS hl0)
theorem Vx.eqs {lv2 : wq_L} {st2 : List Value} {w2 : va_W} {pc2 : Nat} (h0 : pc = pc2) (h1 : lv = lv2) (h2 : st = st2) (h3 : ws = w2) (h : Vx p l e R s m args below meth c nL D cl A Q pc2 lv2 st2 w2 k n) : Vx p l e R s m args below meth c nL D cl A Q pc lv st ws k n := by
  subst h0; subst h1; subst h2; subst h3; exact h
theorem vx_iret (hC : Cx p s m args c cc nL own Ts D cl tys A tc) (hr : meth.sig.returnType = some .int) (hlk : meth.locks = false) {v : Int32} (hp : post (some (.int v)) ws) (hk : k ≤ mc) (hn : n ≤ ms) (hdg : decode cc pc = .ok (.ireturn, 1)) :
    Vx p l e R s m args below meth c nL D cl A (MQ below (Qp D cl A post) args s mc ms A) pc lv [.int v] ws k n :=
  fun H locs ls hP hD hS hl0 => W.widen hk hn (W.iret hC.1 hC.2.1 hr (fun t ht hW => ⟨⟨_, ws, rfl, hp, by rw [ht]; exact hP, hD⟩, hS.F ht⟩) hS.2.2 hdg hlk)
theorem vx_zret {ty : FieldType} (hC : Cx p s m args c cc nL own Ts D cl tys A tc) (hr : meth.sig.returnType = some ty) (hlk : meth.locks = false) {v : Int32} (hv : narrow ty (.int v) = .int v) (hp : post (some (.int v)) ws) (hk : k ≤ mc) (hn : n ≤ ms) (hdg : decode cc pc = .ok (.ireturn, 1)) :
    Vx p l e R s m args below meth c nL D cl A (MQ below (Qp D cl A post) args s mc ms A) pc lv [.int v] ws k n :=
  fun H locs ls hP hD hS hl0 => W.widen hk hn (W.zret hC.1 hC.2.1 hr hv (fun t ht hW => ⟨⟨_, ws, rfl, hp, by rw [ht]; exact hP, hD⟩, hS.F ht⟩) hS.2.2 hdg hlk)
theorem vx_lret (hC : Cx p s m args c cc nL own Ts D cl tys A tc) (hr : meth.sig.returnType = some .long) (hlk : meth.locks = false) {v : Int64} (hp : post (some (.long v)) ws) (hk : k ≤ mc) (hn : n ≤ ms) (hdg : decode cc pc = .ok (.lreturn, 1)) :
    Vx p l e R s m args below meth c nL D cl A (MQ below (Qp D cl A post) args s mc ms A) pc lv [.long v] ws k n :=
  fun H locs ls hP hD hS hl0 => W.widen hk hn (W.lret hC.1 hC.2.1 hr (fun t ht hW => ⟨⟨_, ws, rfl, hp, by rw [ht]; exact hP, hD⟩, hS.F ht⟩) hS.2.2 hdg hlk)
theorem vx_vret (hC : Cx p s m args c cc nL own Ts D cl tys A tc) (hr : meth.sig.returnType = none) (hlk : meth.locks = false) (hp : post none ws) (hk : k ≤ mc) (hn : n ≤ ms) (hdg : decode cc pc = .ok (.return_, 1)) :
    Vx p l e R s m args below meth c nL D cl A (MQ below (Qp D cl A post) args s mc ms A) pc lv [] ws k n :=
  fun H locs ls hP hD hS hl0 => W.widen hk hn (W.vret hC.1 hC.2.1 hr (fun t ht hW => ⟨⟨_, ws, rfl, hp, by rw [ht]; exact hP, hD⟩, hS.F ht⟩) hS.2.2 hdg hlk)
theorem vx_aret {rt : FieldType} (hC : Cx p s m args c cc nL own Ts D cl tys A tc) (hr : meth.sig.returnType = some rt) (hrt : (∃ n, rt = .object n) ∨ ∃ t, rt = .array t) (hlk : meth.locks = false) {v : Value} (hv : v = .null ∨ ∃ a, v = .ref a) (hp : post (some v) ws) (hk : k ≤ mc) (hn : n ≤ ms) (hdg : decode cc pc = .ok (.areturn, 1)) :
    Vx p l e R s m args below meth c nL D cl A (MQ below (Qp D cl A post) args s mc ms A) pc lv [v] ws k n :=
  fun H locs ls hP hD hS hl0 => W.widen hk hn (W.aret hC.1 hC.2.1 hr hrt hv (fun t ht hW => ⟨⟨_, ws, rfl, hp, by rw [ht]; exact hP, hD⟩, hS.F ht⟩) hS.2.2 hdg hlk)
set_option maxHeartbeats 1000000 in
/-- the frame rule at a call -/
theorem vx_call (hA : ∀ q : Nat, s.heap.size ≤ q → A q) {a : Array Value}
    (hrun : ∀ (H : Heap) (locs : List Loc) (ls : Array Slot), va_P D cl ws H → va_D A ws → va_S A s.heap H locs → lv_has ls nL lv → va_Run p l e R s m args below meth c H locs k n mc ms (F0 m pc ls st) rest (Qp D cl (va_A wc H.size) post a) (va_A wc H.size))
    (isC isR : List Nat) (hC : isC.map (fun i => ws[i]?) = wc.map some) (hR : isR.map (fun i => ws[i]?) = wr.map some) (hn : va_nd isR = true) (hdis : ∀ i ∈ isR, i ∉ isC)
    (kk : ∀ (r : Option Value) (w1 : va_W), post r w1 → Vx p l e R s m args below meth c nL D cl A Q (pc + 3) lv (r.toList ++ rest) (wr ++ w1) (k + mc) (n + ms)) :
    Vx p l e R s m args below meth c nL D cl A Q pc lv st ws k n := by
  intro H locs ls hP hD hS hl T hT X
  obtain ⟨v, st₀, t, T', L, h0, X', hL, e1, e2, ⟨⟨r, w1, hv, hp, hP1, hD1⟩, hz, hk⟩, stp⟩ := hrun H locs ls hP hD hS hl T hT X
  cases hv
  rw [h0] at hz hk
  have hFc := va_free hD hS hA isC hC
  obtain ⟨hP2, hD2⟩ := va_join hP hD isC isR hC hR hn hdis (H1 := T'.heap) (fun q h1 h2 => by rw [e1]; exact hk q h1 h2) hFc (by rw [e1]; exact hP1) hD1
  have hS2 : va_S A s.heap T'.heap (locs ++ L) := ⟨Nat.le_trans hS.1 (by rw [e1]; exact hz), fun q h1 h2 => by rw [e1, hk q (Nat.lt_of_lt_of_le h1 hS.1) (fun z => h2 (hFc q z))]; exact hS.2.1 q h1 h2, fun q hq => by
      rcases List.mem_append.mp hq with h | h
      · exact hS.2.2 q h
      · exact hFc _ (hL q h)⟩
  obtain ⟨t2, a1, b1⟩ := kk _ w1 hp T'.heap (locs ++ L) ls hP2 hD2 hS2 hl T' rfl X'
  exact ⟨t2, stp t2 a1, b1⟩
/-- read facts at a call: what held at the method's start holds for the callee -/
theorem vx_ro (hF : RO F) (hA : ∀ q : Nat, s.heap.size ≤ q → A q) (h : F A s s.heap) (isC : List Nat) (hC : isC.map (fun i => ws[i]?) = wc.map some) : ∀ (H : Heap) (locs : List Loc), va_P D cl ws H → va_D A ws → va_S A s.heap H locs → F (va_A wc H.size) s H :=
  fun H locs _ hD hS => hF.2.2 A _ s H (va_free hD hS hA isC hC) (hF.2.1 A s s.heap H (fun a h1 h2 => hS.2.1 a h1 h2) h)
variable {y : MethodName} {bytes : ByteArray} {maxL index nA fr lo : Nat} {ret : Option FieldType} {wds : List Cond} {C : String} {b : Nat} {As : List Value}
set_option maxHeartbeats 1000000 in
theorem vx_callV (hC : Cx p s m args c cc nL own Ts D cl tys A tc) (hk : Kt l y wds fr lo mc ms D cl tys F (.ref b :: As) wc post) (cw : CallW R s args own C index y bytes maxL ret wds { frames := fr, cells := mc, slots := ms, locals := lo } mc ms nA)
    (isC isR : List Nat) (hc : isC.map (fun i => ws[i]?) = wc.map some) (hr : isR.map (fun i => ws[i]?) = wr.map some) (hnC : va_nd isC = true) (hn : va_nd isR = true) (hdis : ∀ i ∈ isR, i ∉ isC)
    {q0 ci : Nat} {fs : List Value} {rc : vw_C} (hq : wc[q0]? = some (b, .inr (ci, fs))) (hci : cl[ci]? = some rc) (hrc : rc.1 = C) (hF : ∀ (H : Heap) (locs : List Loc), va_P D cl ws H → va_D A ws → va_S A s.heap H locs → F (va_A wc H.size) s H)
    (hlen : As.length = nA) (hst : st = As.reverse ++ .ref b :: rest) (hW : (rest.map fun v => v.category).sum ≤ 8) (hdg : decode cc pc = .ok (.invokevirtual index, 3)) (hf : k + mc ≤ R.cells ∧ n + ms ≤ R.slots)
    (kk : ∀ (r : Option Value) (w1 : va_W), post r w1 → Vx p l e R s m args below meth c nL D cl A Q (pc + 3) lv (r.toList ++ rest) (wr ++ w1) (k + mc) (n + ms)) :
    Vx p l e R s m args below meth c nL D cl A Q pc lv st ws k n := by
  subst hst
  subst hrc
  obtain ⟨hx, hb, hml, hown, hts, hK, hA, hty⟩ := hC
  refine vx_call hA (post := post) (a := (Value.ref b :: As).toArray) (fun H locs ls hP hD hS hl => ?_) isC isR hc hr hn hdis kk
  have hPc : va_P D cl wc H := by
    intro j q hq
    have h1 : (isC.map (fun i => ws[i]?))[j]? = some (some q) := by rw [hc, List.getElem?_map, hq]; rfl
    rw [List.getElem?_map] at h1
    cases hi : isC[j]? with
    | none => rw [hi] at h1; cases h1
    | some i => rw [hi] at h1; exact hP i q (Option.some.inj h1)
  have hDc := hD.sub isC hnC hc
  exact va_runV (As := As) (rest := rest) ⟨hx, hb, hml, hown, hts⟩ (hk.2 H.size) cw ⟨Kp.blind hk.1, va_recv hK hPc hci hq, fun U hU hW => ⟨rfl, by rw [hU], by rw [hU]; exact hPc, va_K.moved hW.alike hK, hDc.weaken (fun _ _ _ _ => trivial), by rw [hU]; exact hk.1.1 _ s U H hW (hF H locs hP hD hS)⟩⟩ rfl hlen hl.1 rfl (lv_room hW) hdg hf
end
end
section
/-! ENDS, the middle of a method, calls as steps -/
def vx_rt (ret : Option FieldType) (r : Option Value) : Prop := match ret, r with
  | none, none => True
  | some .int, some (.int _) => True
  | some .boolean, some (.int v) => narrow .boolean (.int v) = .int v
  | some .char, some (.int v) => narrow .char (.int v) = .int v
  | some .byte, some (.int v) => narrow .byte (.int v) = .int v
  | some .long, some (.long _) => True
  | some (.object _), some (.ref _) => True
  | some (.object _), some .null => True
  | some (.array _), some (.ref _) => True
  | _, _ => False
def vx_E (ret : Option FieldType) (post : Option Value → va_W → Prop) (mc ms : Nat) : Option Value → va_W → Nat → Nat → Prop := fun r ws k n => vx_rt ret r ∧ post r ws ∧ k ≤ mc ∧ n ≤ ms
def wq_pc : wq_J → Nat → Nat
  | _, 0 => 0
  | [], _ + 1 => 0
  | (ins, an) :: r, i + 1 => wq_il an ins + wq_pc r i
theorem wq_c_drop {cc : ByteArray} {nL : Nat} : ∀ (i : Nat) (j : wq_J) (b : Nat), i ≤ j.length → wq_c cc nL j b = true → wq_c cc nL (j.drop i) (b + wq_pc j i) = true
  | 0, j, b, _, h => by rw [List.drop_zero]; cases j <;> exact h
  | i + 1, [], b, hi, h => by simp at hi
  | i + 1, (ins, an) :: r, b, hi, h => by
    rw [wq_c, Bool.and_eq_true] at h
    have := wq_c_drop i r (b + wq_il an ins) (by simpa using hi) h.2
    rw [List.drop_succ_cons, wq_pc, ← Nat.add_assoc]
    exact this
section
variable {p : Program} {l : Launch} {e : Env} {R : Room} {s : State} {m : MethodId} {args : Array Value} {below : List Frame} {meth : Method} {c : Code} {cc : ByteArray} {nL : Nat} {own : String} {Ts : List Cond} {D : va_G} {cl : List vw_C} {tys : List (ClassId × FieldType)} {A : Nat → Prop} {tc : Nat → ClassId} {Q : State → Prop} {st rest : List Value} {ws wc wr : va_W} {k n mc ms : Nat} {post : Option Value → va_W → Prop} {F : (Nat → Prop) → State → Heap → Prop} {ret : Option FieldType} {ini : Bool} {EN : Option Value → va_W → Nat → Nat → Prop} {ft : List (Nat × Nat × Nat × Nat)} {ty : Nat → Nat → FieldType} {K : List Value → va_W → Nat → Nat → Prop}
theorem vx_ends (hC : Cx p s m args c cc nL own Ts D cl tys A tc) (hr : meth.sig.returnType = ret) (hlk : meth.locks = false) : vx_EN cc (vx_E ret post mc ms) (Vx p l e R s m args below meth c nL D cl A (MQ below (Qp D cl A post) args s mc ms A)) := by
  intro r ws k n pc lv h hd
  obtain ⟨h1, h2, h3, h4⟩ := h
  cases r with
  | none =>
    unfold vx_rt at h1
    split at h1 <;> first | (exact vx_vret hC hr hlk h2 h3 h4 hd) | (exact h1.elim) | skip
    all_goals (rename_i e1 e2; first | cases e2 | skip)
  | some v =>
    cases v with
    | int v =>
      unfold vx_rt at h1
      split at h1
      any_goals (rename_i e2; cases e2)
      · exact vx_zret hC hr hlk rfl h2 h3 h4 hd
      · exact vx_zret hC hr hlk h1 h2 h3 h4 hd
      · exact vx_zret hC hr hlk h1 h2 h3 h4 hd
      · exact vx_zret hC hr hlk h1 h2 h3 h4 hd
      · exact h1.elim
    | long v =>
      unfold vx_rt at h1
      split at h1
      any_goals (rename_i e2; cases e2)
      · exact vx_lret hC hr hlk h2 h3 h4 hd
      · exact h1.elim
    | ref v =>
      unfold vx_rt at h1
      split at h1
      any_goals (rename_i e2; cases e2)
      · exact vx_aret hC hr (Or.inl ⟨_, rfl⟩) hlk (Or.inr ⟨_, rfl⟩) h2 h3 h4 hd
      · exact vx_aret hC hr (Or.inr ⟨_, rfl⟩) hlk (Or.inr ⟨_, rfl⟩) h2 h3 h4 hd
      · exact h1.elim
    | null =>
      unfold vx_rt at h1
      split at h1
      any_goals (rename_i e2; cases e2)
      · exact vx_aret hC hr (Or.inl ⟨_, rfl⟩) hlk (Or.inl rfl) h2 h3 h4 hd
      · exact h1.elim
    | float v => unfold vx_rt at h1; split at h1 <;> first | exact h1.elim | (rename_i e2; cases e2)
    | double v => unfold vx_rt at h1; split at h1 <;> first | exact h1.elim | (rename_i e2; cases e2)
    | retAddr v => unfold vx_rt at h1; split at h1 <;> first | exact h1.elim | (rename_i e2; cases e2)
/-- from any place of a method's list on -/
theorem vx_go {j : wq_J} (hC : Cx p s m args c cc nL own Ts D cl tys A tc) (hF : vx_Ft own Ts cl ty ft) (hini : ini = true → meth.name = "<init>") (hE : vx_EN cc EN (Vx p l e R s m args below meth c nL D cl A Q)) (hj : wq_c cc nL j 0 = true) (i : Nat) {pc : Nat} (hi : i ≤ j.length) (hpc : wq_pc j i = pc) {lv : wq_L}
    (h : wq nL ini tc ft ty (vx_RT A s) (vx_RF own args A s) (vx_RZ own args A s) (vx_RS own args s) (vx_SX cc (Vx p l e R s m args below meth c nL D cl A Q)) EN (Vx p l e R s m args below meth c nL D cl A Q) (j.drop i) pc lv st ws k n) : Vx p l e R s m args below meth c nL D cl A Q pc lv st ws k n := by
  subst hpc
  have h1 := wq_c_drop i j 0 hi hj
  rw [Nat.zero_add] at h1
  exact wq_sound hC hF hini hE _ _ _ _ _ _ _ h1 h
variable {y x : MethodName} {bytes : ByteArray} {maxL index nA fr lo : Nat} {wds : List Cond} {C owner : String} {b : Nat} {As : List Value}
theorem va_P.sub2 {H : Heap} {isC : List Nat} (hc : isC.map (fun i => ws[i]?) = wc.map some) (hP : va_P D cl ws H) : va_P D cl wc H := by
  intro j q hq
  have h1 : (isC.map (fun i => ws[i]?))[j]? = some (some q) := by rw [hc, List.getElem?_map, hq]; rfl
  rw [List.getElem?_map] at h1
  cases hi : isC[j]? with
  | none => rw [hi] at h1; cases h1
  | some i => rw [hi] at h1; exact hP i q (Option.some.inj h1)
theorem sx_callV (hC : Cx p s m args c cc nL own Ts D cl tys A tc) (hk : Kt l y wds fr lo mc ms D cl tys F (.ref b :: As) wc post) (cw : CallW R s args own C index y bytes maxL ret wds { frames := fr, cells := mc, slots := ms, locals := lo } mc ms nA)
    (isC isR : List Nat) (hc : isC.map (fun i => ws[i]?) = wc.map some) (hr : isR.map (fun i => ws[i]?) = wr.map some) (hnC : va_nd isC = true) (hn : va_nd isR = true) (hdis : ∀ i ∈ isR, i ∉ isC)
    {q0 ci : Nat} {fs : List Value} {rc : vw_C} (hq : wc[q0]? = some (b, .inr (ci, fs))) (hci : cl[ci]? = some rc) (hrc : rc.1 = C) (hF : ∀ (H : Heap) (locs : List Loc), va_P D cl ws H → va_D A ws → va_S A s.heap H locs → F (va_A wc H.size) s H)
    (hlen : As.length = nA) (hst : st = As.reverse ++ .ref b :: rest) (hW : (rest.map fun v => v.category).sum ≤ 8) (hf : k + mc ≤ R.cells ∧ n + ms ≤ R.slots)
    (kk : ∀ (r : Option Value) (w1 : va_W), post r w1 → K (r.toList ++ rest) (wr ++ w1) (k + mc) (n + ms)) :
    vx_SX cc (Vx p l e R s m args below meth c nL D cl A Q) (.invokevirtual index) 3 st ws k n K :=
  fun pc lv hdg hK => vx_callV hC hk cw isC isR hc hr hnC hn hdis hq hci hrc hF hlen hst hW hdg hf (fun r w1 hp => hK _ _ _ _ (kk r w1 hp))
set_option maxHeartbeats 1000000 in
theorem sx_callU (hC : Cx p s m args c cc nL own Ts D cl tys A tc) (hk : Kt l y wds fr lo mc ms D cl tys F (.ref b :: As) wc post) (cw : va_CU R s args own C owner index x y bytes maxL ret wds { frames := fr, cells := mc, slots := ms, locals := lo } mc ms nA)
    (isC isR : List Nat) (hc : isC.map (fun i => ws[i]?) = wc.map some) (hr : isR.map (fun i => ws[i]?) = wr.map some) (hnC : va_nd isC = true) (hn : va_nd isR = true) (hdis : ∀ i ∈ isR, i ∉ isC)
    {q0 ci : Nat} {fs : List Value} {rc : vw_C} (hq : wc[q0]? = some (b, .inr (ci, fs))) (hci : cl[ci]? = some rc) (hrc : rc.1 = C) (hF : ∀ (H : Heap) (locs : List Loc), va_P D cl ws H → va_D A ws → va_S A s.heap H locs → F (va_A wc H.size) s H)
    (hlen : As.length = nA) (hst : st = As.reverse ++ .ref b :: rest) (hW : (rest.map fun v => v.category).sum ≤ 8) (hf : k + mc ≤ R.cells ∧ n + ms ≤ R.slots)
    (kk : ∀ (r : Option Value) (w1 : va_W), post r w1 → K (r.toList ++ rest) (wr ++ w1) (k + mc) (n + ms)) :
    vx_SX cc (Vx p l e R s m args below meth c nL D cl A Q) (.invokevirtual index) 3 st ws k n K := by
  intro pc lv hdg hK
  subst hst
  subst hrc
  obtain ⟨hx, hb, hml, hown, hts, hKK, hA, hty⟩ := hC
  refine vx_call hA (post := post) (a := (Value.ref b :: As).toArray) (fun H locs ls hP hD hS hl => ?_) isC isR hc hr hn hdis (fun r w1 hp => hK _ _ _ _ (kk r w1 hp))
  have hPc : va_P D cl wc H := va_P.sub2 hc hP
  have hDc := hD.sub isC hnC hc
  exact va_runU (As := As) (rest := rest) ⟨hx, hb, hml, hown, hts⟩ (hk.2 H.size) cw ⟨Kp.blind hk.1, va_recv hKK hPc hci hq, fun U hU hW => ⟨rfl, by rw [hU], by rw [hU]; exact hPc, va_K.moved hW.alike hKK, hDc.weaken (fun _ _ _ _ => trivial), by rw [hU]; exact hk.1.1 _ s U H hW (hF H locs hP hD hS)⟩⟩ rfl hlen hl.1 rfl (lv_room hW) hdg hf
set_option maxHeartbeats 1000000 in
theorem sx_callS (hC : Cx p s m args c cc nL own Ts D cl tys A tc) (hk : Kt l y wds fr lo mc ms D cl tys F As wc post) (cw : CallB R s args own index y bytes maxL ret wds { frames := fr, cells := mc, slots := ms, locals := lo } mc ms nA ∧ (Cond.static y).before args s = true)
    (isC isR : List Nat) (hc : isC.map (fun i => ws[i]?) = wc.map some) (hr : isR.map (fun i => ws[i]?) = wr.map some) (hnC : va_nd isC = true) (hn : va_nd isR = true) (hdis : ∀ i ∈ isR, i ∉ isC)
    (hF : ∀ (H : Heap) (locs : List Loc), va_P D cl ws H → va_D A ws → va_S A s.heap H locs → F (va_A wc H.size) s H)
    (hlen : As.length = nA) (hst : st = As.reverse ++ rest) (hW : (rest.map fun v => v.category).sum ≤ 8) (hf : k + mc ≤ R.cells ∧ n + ms ≤ R.slots)
    (kk : ∀ (r : Option Value) (w1 : va_W), post r w1 → K (r.toList ++ rest) (wr ++ w1) (k + mc) (n + ms)) :
    vx_SX cc (Vx p l e R s m args below meth c nL D cl A Q) (.invokestatic index) 3 st ws k n K := by
  intro pc lv hdg hK
  subst hst
  obtain ⟨hx, hb, hml, hown, hts, hKK, hA, hty⟩ := hC
  refine vx_call hA (post := post) (a := As.toArray) (fun H locs ls hP hD hS hl => ?_) isC isR hc hr hn hdis (fun r w1 hp => hK _ _ _ _ (kk r w1 hp))
  have hPc : va_P D cl wc H := va_P.sub2 hc hP
  have hDc := hD.sub isC hnC hc
  exact va_runS (As := As) (rest := rest) ⟨hx, hb, hml, hown, hts⟩ (hk.2 H.size) cw ⟨Kp.blind hk.1, fun U hU hW => ⟨rfl, by rw [hU], by rw [hU]; exact hPc, va_K.moved hW.alike hKK, hDc.weaken (fun _ _ _ _ => trivial), by rw [hU]; exact hk.1.1 _ s U H hW (hF H locs hP hD hS)⟩⟩ rfl hlen hl.1 rfl (lv_room hW) hdg hf
set_option maxHeartbeats 1000000 in
theorem sx_callI (hC : Cx p s m args c cc nL own Ts D cl tys A tc) (hk : Kt l y wds fr lo mc ms D cl tys F (.ref b :: As) wc post) (cw : CallB R s args own index y bytes maxL none wds { frames := fr, cells := mc, slots := ms, locals := lo } mc ms nA ∧ y.name = "<init>" ∧ (Cond.instanceMethod y).before args s = true)
    (isC isR : List Nat) (hc : isC.map (fun i => ws[i]?) = wc.map some) (hr : isR.map (fun i => ws[i]?) = wr.map some) (hnC : va_nd isC = true) (hn : va_nd isR = true) (hdis : ∀ i ∈ isR, i ∉ isC)
    (hF : ∀ (H : Heap) (locs : List Loc), va_P D cl ws H → va_D A ws → va_S A s.heap H locs → F (va_A wc H.size) s H)
    (hlen : As.length = nA) (hst : st = As.reverse ++ .ref b :: rest) (hW : (rest.map fun v => v.category).sum ≤ 8) (hf : k + mc ≤ R.cells ∧ n + ms ≤ R.slots)
    (kk : ∀ (r : Option Value) (w1 : va_W), post r w1 → K (r.toList ++ rest) (wr ++ w1) (k + mc) (n + ms)) :
    vx_SX cc (Vx p l e R s m args below meth c nL D cl A Q) (.invokespecial index) 3 st ws k n K := by
  intro pc lv hdg hK
  subst hst
  obtain ⟨hx, hb, hml, hown, hts, hKK, hA, hty⟩ := hC
  refine vx_call hA (post := post) (a := (Value.ref b :: As).toArray) (fun H locs ls hP hD hS hl => ?_) isC isR hc hr hn hdis (fun r w1 hp => hK _ _ _ _ (kk r w1 hp))
  have hPc : va_P D cl wc H := va_P.sub2 hc hP
  have hDc := hD.sub isC hnC hc
  exact va_runI (As := As) (rest := rest) ⟨hx, hb, hml, hown, hts⟩ (hk.2 H.size) cw ⟨Kp.blind hk.1, fun U hU hW => ⟨rfl, by rw [hU], by rw [hU]; exact hPc, va_K.moved hW.alike hKK, hDc.weaken (fun _ _ _ _ => trivial), by rw [hU]; exact hk.1.1 _ s U H hW (hF H locs hP hD hS)⟩⟩ rfl hlen hl.1 rfl (lv_room hW) hdg hf
end
end
section
/-! NAMES, by program: classes and fields, methods, code lists -/
/-- Reader.say is private, its callers are objects of the five subclasses: these five words are shown at the law -/
def sayS : List Cond := [.selects "OriginDesk$Accept" ⟨"OriginDesk$Reader", "say", "(I)V"⟩ ⟨"OriginDesk$Reader", "say", "(I)V"⟩, .selects "OriginDesk$Languages" ⟨"OriginDesk$Reader", "say", "(I)V"⟩ ⟨"OriginDesk$Reader", "say", "(I)V"⟩, .selects "OriginDesk$Tags" ⟨"OriginDesk$Reader", "say", "(I)V"⟩ ⟨"OriginDesk$Reader", "say", "(I)V"⟩, .selects "OriginDesk$Dates" ⟨"OriginDesk$Reader", "say", "(I)V"⟩ ⟨"OriginDesk$Reader", "say", "(I)V"⟩, .selects "OriginDesk$Ranges" ⟨"OriginDesk$Reader", "say", "(I)V"⟩ ⟨"OriginDesk$Reader", "say", "(I)V"⟩]
def gw : List Cond := (sayS ++ lw_tbl).filter goodWord
theorem gw_of {w : Cond} (h : w ∈ lw_tbl) (g : goodWord w = true) : w ∈ gw := List.mem_filter.mpr ⟨List.mem_append_right _ h, g⟩
theorem gw_say {w : Cond} (h : w ∈ sayS) (g : goodWord w = true) : w ∈ gw := List.mem_filter.mpr ⟨List.mem_append_left _ h, g⟩
theorem gw_i (i : Nat) {w : Cond} (h : tables_1[i]? = some w) (g : goodWord w = true) : w ∈ gw := gw_of (List.mem_append_right _ (List.mem_of_getElem? h)) g
theorem gw_sub {ws : List Cond} (ps : List Nat) (hp : ws = ps.filterMap (fun i => tables_1[i]?)) (h : ws.all goodWord = true) : ∀ w ∈ ws, w ∈ gw := by
  intro w hw
  have h1 := List.all_eq_true.mp h w hw
  rw [hp] at hw
  obtain ⟨i, -, hi⟩ := List.mem_filterMap.mp hw
  exact gw_i i hi h1
theorem gw_good : GoodIn gw gw := fun w hw => ⟨hw, good_of_word (List.mem_filter.mp hw).2⟩
def R_Ac : String := "OriginDesk$Accept"
def F_Ac : u_T := fun k => match k with
  | 0 => ("OriginDesk$Reader", "row", "[I", false)
  | 1 => ("OriginDesk$Reader", "size", "I", false)
  | 2 => ("OriginDesk$Reader", "at", "I", false)
  | 3 => ("OriginDesk$Reader", "said", "[I", true)
  | 4 => ("OriginDesk$Reader", "saidSize", "I", false)
  | 5 => ("OriginDesk$Accept", "quality", "I", false)
  | 6 => ("OriginDesk$Accept", "mostTold", "I", false)
  | 7 => ("OriginDesk$Accept", "fits", "Z", false)
  | 8 => ("OriginDesk$Accept", "told", "I", false)
  | _ => ("OriginDesk$Accept", "weight", "I", false)
def t_Ac : Nat → FieldType := fun k => match k with
  | 0 => .array (.int)
  | 1 => .int
  | 2 => .int
  | 3 => .array (.int)
  | 4 => .int
  | 5 => .int
  | 6 => .int
  | 7 => .boolean
  | 8 => .int
  | _ => .int
def R_La : String := "OriginDesk$Languages"
def F_La : u_T := fun k => match k with
  | 0 => ("OriginDesk$Reader", "row", "[I", false)
  | 1 => ("OriginDesk$Reader", "size", "I", false)
  | 2 => ("OriginDesk$Reader", "at", "I", false)
  | 3 => ("OriginDesk$Reader", "said", "[I", true)
  | 4 => ("OriginDesk$Reader", "saidSize", "I", false)
  | 5 => ("OriginDesk$Languages", "quality", "I", false)
  | _ => ("OriginDesk$Languages", "longest", "I", false)
def t_La : Nat → FieldType := fun k => match k with
  | 0 => .array (.int)
  | 1 => .int
  | 2 => .int
  | 3 => .array (.int)
  | 4 => .int
  | 5 => .int
  | _ => .int
def R_Tg : String := "OriginDesk$Tags"
def F_Tg : u_T := fun k => match k with
  | 0 => ("OriginDesk$Reader", "row", "[I", false)
  | 1 => ("OriginDesk$Reader", "size", "I", false)
  | 2 => ("OriginDesk$Reader", "at", "I", false)
  | 3 => ("OriginDesk$Reader", "said", "[I", true)
  | 4 => ("OriginDesk$Reader", "saidSize", "I", false)
  | 5 => ("OriginDesk$Tags", "star", "Z", false)
  | 6 => ("OriginDesk$Tags", "same", "Z", false)
  | _ => ("OriginDesk$Tags", "strong", "Z", false)
def t_Tg : Nat → FieldType := fun k => match k with
  | 0 => .array (.int)
  | 1 => .int
  | 2 => .int
  | 3 => .array (.int)
  | 4 => .int
  | 5 => .boolean
  | 6 => .boolean
  | _ => .boolean
def R_Da : String := "OriginDesk$Dates"
def F_Da : u_T := fun k => match k with
  | 0 => ("OriginDesk$Reader", "row", "[I", false)
  | 1 => ("OriginDesk$Reader", "size", "I", false)
  | 2 => ("OriginDesk$Reader", "at", "I", false)
  | 3 => ("OriginDesk$Reader", "said", "[I", true)
  | 4 => ("OriginDesk$Reader", "saidSize", "I", false)
  | 5 => ("OriginDesk$Dates", "latestYear", "I", true)
  | 6 => ("OriginDesk$Dates", "year", "I", false)
  | 7 => ("OriginDesk$Dates", "month", "I", false)
  | 8 => ("OriginDesk$Dates", "day", "I", false)
  | _ => ("OriginDesk$Dates", "second", "I", false)
def t_Da : Nat → FieldType := fun k => match k with
  | 0 => .array (.int)
  | 1 => .int
  | 2 => .int
  | 3 => .array (.int)
  | 4 => .int
  | 5 => .int
  | 6 => .int
  | 7 => .int
  | 8 => .int
  | _ => .int
def R_Ra : String := "OriginDesk$Ranges"
def F_Ra : u_T := fun k => match k with
  | 0 => ("OriginDesk$Reader", "row", "[I", false)
  | 1 => ("OriginDesk$Reader", "size", "I", false)
  | 2 => ("OriginDesk$Reader", "at", "I", false)
  | 3 => ("OriginDesk$Reader", "said", "[I", true)
  | 4 => ("OriginDesk$Reader", "saidSize", "I", false)
  | 5 => ("OriginDesk$Ranges", "firsts", "[I", true)
  | 6 => ("OriginDesk$Ranges", "lasts", "[I", true)
  | 7 => ("OriginDesk$Ranges", "specs", "I", false)
  | _ => ("OriginDesk$Ranges", "kept", "I", false)
def t_Ra : Nat → FieldType := fun k => match k with
  | 0 => .array (.int)
  | 1 => .int
  | 2 => .int
  | 3 => .array (.int)
  | 4 => .int
  | 5 => .array (.int)
  | 6 => .array (.int)
  | 7 => .int
  | _ => .int
def R_Rq : String := "OriginDesk$Request"
def F_Rq : u_T := fun k => match k with
  | 0 => ("OriginDesk$Request", "method", "I", false)
  | 1 => ("OriginDesk$Request", "texts", "[[I", true)
  | _ => ("OriginDesk$Request", "sizes", "[I", true)
def t_Rq : Nat → FieldType := fun k => match k with
  | 0 => .int
  | 1 => .array (.array (.int))
  | _ => .array (.int)
def R_Rs : String := "OriginDesk$Response"
def F_Rs : u_T := fun k => match k with
  | 0 => ("OriginDesk$Response", "code", "I", false)
  | 1 => ("OriginDesk$Response", "subject", "LOriginDesk$Representation;", false)
  | 2 => ("OriginDesk$Response", "bodySize", "I", false)
  | 3 => ("OriginDesk$Response", "partCount", "I", false)
  | 4 => ("OriginDesk$Response", "firsts", "[I", true)
  | 5 => ("OriginDesk$Response", "lasts", "[I", true)
  | 6 => ("OriginDesk$Response", "bodyless", "Z", false)
  | _ => ("OriginDesk$Response", "heading", "Ljava/lang/StringBuilder;", true)
def t_Rs : Nat → FieldType := fun k => match k with
  | 0 => .int
  | 1 => .object "OriginDesk$Representation"
  | 2 => .int
  | 3 => .int
  | 4 => .array (.int)
  | 5 => .array (.int)
  | 6 => .boolean
  | _ => .object "java/lang/StringBuilder"
def R_Rp : String := "OriginDesk$Representation"
def F_Rp : u_T := fun k => match k with
  | 0 => ("OriginDesk$Representation", "number", "I", true)
  | 1 => ("OriginDesk$Representation", "type", "LOriginDesk$MediaType;", true)
  | 2 => ("OriginDesk$Representation", "language", "LOriginDesk$Language;", true)
  | 3 => ("OriginDesk$Representation", "size", "I", true)
  | 4 => ("OriginDesk$Representation", "tagText", "Ljava/lang/String;", true)
  | 5 => ("OriginDesk$Representation", "weak", "Z", true)
  | _ => ("OriginDesk$Representation", "change", "J", true)
def t_Rp : Nat → FieldType := fun k => match k with
  | 0 => .int
  | 1 => .object "OriginDesk$MediaType"
  | 2 => .object "OriginDesk$Language"
  | 3 => .int
  | 4 => .object "java/lang/String"
  | 5 => .boolean
  | _ => .long
def R_Dk : String := "OriginDesk"
def F_Dk : u_T := fun k => match k with
  | 0 => ("OriginDesk", "shelf", "[LOriginDesk$Representation;", true)
  | 1 => ("OriginDesk", "count", "I", false)
  | 2 => ("OriginDesk", "asked", "LOriginDesk$Request;", true)
  | 3 => ("OriginDesk", "accept", "LOriginDesk$Accept;", true)
  | 4 => ("OriginDesk", "languages", "LOriginDesk$Languages;", true)
  | 5 => ("OriginDesk", "tags", "LOriginDesk$Tags;", true)
  | 6 => ("OriginDesk", "dates", "LOriginDesk$Dates;", true)
  | 7 => ("OriginDesk", "ranges", "LOriginDesk$Ranges;", true)
  | _ => ("OriginDesk", "response", "LOriginDesk$Response;", true)
def t_Dk : Nat → FieldType := fun k => match k with
  | 0 => .array (.object "OriginDesk$Representation")
  | 1 => .int
  | 2 => .object "OriginDesk$Request"
  | 3 => .object "OriginDesk$Accept"
  | 4 => .object "OriginDesk$Languages"
  | 5 => .object "OriginDesk$Tags"
  | 6 => .object "OriginDesk$Dates"
  | 7 => .object "OriginDesk$Ranges"
  | _ => .object "OriginDesk$Response"
def R_Mo : String := "OriginDeskModel"
def F_Mo : u_T := fun k => match k with
  | 0 => ("OriginDeskModel", "now", "J", true)
  | 1 => ("OriginDeskModel", "count", "I", false)
  | 2 => ("OriginDeskModel", "type", "[I", true)
  | 3 => ("OriginDeskModel", "language", "[I", true)
  | 4 => ("OriginDeskModel", "size", "[I", true)
  | 5 => ("OriginDeskModel", "tag", "[I", true)
  | 6 => ("OriginDeskModel", "weak", "[Z", true)
  | 7 => ("OriginDeskModel", "change", "[J", true)
  | 8 => ("OriginDeskModel", "method", "I", false)
  | 9 => ("OriginDeskModel", "text", "[I", true)
  | 10 => ("OriginDeskModel", "length", "[I", true)
  | 11 => ("OriginDeskModel", "f", "I", false)
  | 12 => ("OriginDeskModel", "at", "I", false)
  | 13 => ("OriginDeskModel", "from", "I", false)
  | 14 => ("OriginDeskModel", "to", "I", false)
  | 15 => ("OriginDeskModel", "tagWeak", "Z", false)
  | 16 => ("OriginDeskModel", "value", "I", false)
  | 17 => ("OriginDeskModel", "nameFrom", "I", false)
  | 18 => ("OriginDeskModel", "nameTo", "I", false)
  | 19 => ("OriginDeskModel", "isOne", "Z", false)
  | 20 => ("OriginDeskModel", "specs", "I", false)
  | 21 => ("OriginDeskModel", "specFirst", "[I", true)
  | 22 => ("OriginDeskModel", "specLast", "[I", true)
  | 23 => ("OriginDeskModel", "status", "I", false)
  | 24 => ("OriginDeskModel", "answered", "I", false)
  | 25 => ("OriginDeskModel", "bytes", "I", false)
  | 26 => ("OriginDeskModel", "headOnly", "Z", false)
  | 27 => ("OriginDeskModel", "partCount", "I", false)
  | 28 => ("OriginDeskModel", "partFirst", "[I", true)
  | 29 => ("OriginDeskModel", "partLast", "[I", true)
  | _ => ("OriginDeskModel", "word", "[J", true)
def t_Mo : Nat → FieldType := fun k => match k with
  | 0 => .long
  | 1 => .int
  | 2 => .array (.int)
  | 3 => .array (.int)
  | 4 => .array (.int)
  | 5 => .array (.int)
  | 6 => .array (.boolean)
  | 7 => .array (.long)
  | 8 => .int
  | 9 => .array (.int)
  | 10 => .array (.int)
  | 11 => .int
  | 12 => .int
  | 13 => .int
  | 14 => .int
  | 15 => .boolean
  | 16 => .int
  | 17 => .int
  | 18 => .int
  | 19 => .boolean
  | 20 => .int
  | 21 => .array (.int)
  | 22 => .array (.int)
  | 23 => .int
  | 24 => .int
  | 25 => .int
  | 26 => .boolean
  | 27 => .int
  | 28 => .array (.int)
  | 29 => .array (.int)
  | _ => .array (.long)
def R_St : String := "java/lang/String"
def F_St : u_T := fun k => match k with
  | 0 => ("java/lang/String", "value", "[B", true)
  | 1 => ("java/lang/String", "coder", "B", true)
  | 2 => ("java/lang/String", "hash", "I", false)
  | _ => ("java/lang/String", "hashIsZero", "Z", false)
def t_St : Nat → FieldType := fun k => match k with
  | 0 => .array (.byte)
  | 1 => .byte
  | 2 => .int
  | _ => .boolean
def R_Sb : String := "java/lang/StringBuilder"
def F_Sb : u_T := fun k => match k with
  | 0 => ("java/lang/AbstractStringBuilder", "value", "[B", false)
  | 1 => ("java/lang/AbstractStringBuilder", "coder", "B", false)
  | 2 => ("java/lang/AbstractStringBuilder", "maybeLatin1", "Z", false)
  | _ => ("java/lang/AbstractStringBuilder", "count", "I", false)
def t_Sb : Nat → FieldType := fun k => match k with
  | 0 => .array (.byte)
  | 1 => .byte
  | 2 => .boolean
  | _ => .int
def R_Rd : String := "OriginDesk$Reader"
abbrev cls : List vw_C := [(R_Ac, F_Ac, 10), (R_La, F_La, 7), (R_Tg, F_Tg, 8), (R_Da, F_Da, 10), (R_Ra, F_Ra, 9), (R_Rq, F_Rq, 3), (R_Rs, F_Rs, 8), (R_Rp, F_Rp, 7), (R_Dk, F_Dk, 9), (R_Mo, F_Mo, 31), (R_St, F_St, 4), (R_Sb, F_Sb, 4)]
def cty (ci : Nat) : Nat → FieldType := match ci with
  | 0 => t_Ac
  | 1 => t_La
  | 2 => t_Tg
  | 3 => t_Da
  | 4 => t_Ra
  | 5 => t_Rq
  | 6 => t_Rs
  | 7 => t_Rp
  | 8 => t_Dk
  | 9 => t_Mo
  | 10 => t_St
  | _ => t_Sb
theorem u_Ac : ∀ w ∈ u_ws R_Ac F_Ac 10, w ∈ gw := gw_sub [89, 91, 93, 95, 97, 79, 81, 83, 85, 87] (by decide +kernel) (by decide +kernel)
theorem u_La : ∀ w ∈ u_ws R_La F_La 7, w ∈ gw := gw_sub [113, 114, 115, 116, 117, 109, 111] (by decide +kernel) (by decide +kernel)
theorem u_Tg : ∀ w ∈ u_ws R_Tg F_Tg 8, w ∈ gw := gw_sub [137, 138, 139, 140, 141, 131, 133, 135] (by decide +kernel) (by decide +kernel)
theorem u_Da : ∀ w ∈ u_ws R_Da F_Da 10, w ∈ gw := gw_sub [272, 273, 274, 275, 276, 262, 264, 266, 268, 270] (by decide +kernel) (by decide +kernel)
theorem u_Ra : ∀ w ∈ u_ws R_Ra F_Ra 9, w ∈ gw := gw_sub [166, 167, 168, 169, 170, 158, 160, 162, 164] (by decide +kernel) (by decide +kernel)
theorem u_Rq : ∀ w ∈ u_ws R_Rq F_Rq 3, w ∈ gw := gw_sub [51, 53, 55] (by decide +kernel) (by decide +kernel)
theorem u_Rs : ∀ w ∈ u_ws R_Rs F_Rs 8, w ∈ gw := gw_sub [225, 227, 229, 231, 233, 235, 237, 239] (by decide +kernel) (by decide +kernel)
theorem u_Rp : ∀ w ∈ u_ws R_Rp F_Rp 7, w ∈ gw := gw_sub [531, 533, 535, 537, 539, 541, 543] (by decide +kernel) (by decide +kernel)
theorem u_Dk : ∀ w ∈ u_ws R_Dk F_Dk 9, w ∈ gw := gw_sub [287, 289, 291, 293, 295, 297, 299, 301, 303] (by decide +kernel) (by decide +kernel)
theorem u_Mo : ∀ w ∈ u_ws R_Mo F_Mo 31, w ∈ gw := gw_sub [1247, 1249, 1251, 1253, 1255, 1257, 1259, 1261, 1263, 1265, 1267, 1269, 1271, 1273, 1275, 1277, 1279, 1281, 1283, 1285, 1287, 1289, 1291, 1293, 1295, 1297, 1299, 1301, 1303, 1305, 1307] (by decide +kernel) (by decide +kernel)
theorem u_St : ∀ w ∈ u_ws R_St F_St 4, w ∈ gw := gw_sub [507, 509, 511, 513] (by decide +kernel) (by decide +kernel)
theorem u_Sb : ∀ w ∈ u_ws R_Sb F_Sb 4, w ∈ gw := gw_sub [201, 203, 205, 207] (by decide +kernel) (by decide +kernel)
def cl_ok (q : vw_C) (ci : Nat) : Prop := (∀ w ∈ u_ws q.1 q.2.1 q.2.2, w ∈ gw) ∧ (∀ j, j < q.2.2 → parseFieldDescriptor (q.2.1 j).2.2.1 = some (cty ci j)) ∧ (∀ a, a < q.2.2 → ∀ b, b < q.2.2 → a ≠ b → (q.2.1 a).2.1 ≠ (q.2.1 b).2.1)
theorem k_Ac : cl_ok (R_Ac, F_Ac, 10) 0 := ⟨u_Ac, by decide +kernel, by decide +kernel⟩
theorem k_La : cl_ok (R_La, F_La, 7) 1 := ⟨u_La, by decide +kernel, by decide +kernel⟩
theorem k_Tg : cl_ok (R_Tg, F_Tg, 8) 2 := ⟨u_Tg, by decide +kernel, by decide +kernel⟩
theorem k_Da : cl_ok (R_Da, F_Da, 10) 3 := ⟨u_Da, by decide +kernel, by decide +kernel⟩
theorem k_Ra : cl_ok (R_Ra, F_Ra, 9) 4 := ⟨u_Ra, by decide +kernel, by decide +kernel⟩
theorem k_Rq : cl_ok (R_Rq, F_Rq, 3) 5 := ⟨u_Rq, by decide +kernel, by decide +kernel⟩
theorem k_Rs : cl_ok (R_Rs, F_Rs, 8) 6 := ⟨u_Rs, by decide +kernel, by decide +kernel⟩
theorem k_Rp : cl_ok (R_Rp, F_Rp, 7) 7 := ⟨u_Rp, by decide +kernel, by decide +kernel⟩
theorem k_Dk : cl_ok (R_Dk, F_Dk, 9) 8 := ⟨u_Dk, by decide +kernel, by decide +kernel⟩
theorem k_Mo : cl_ok (R_Mo, F_Mo, 31) 9 := ⟨u_Mo, by decide +kernel, by decide +kernel⟩
theorem k_St : cl_ok (R_St, F_St, 4) 10 := ⟨u_St, by decide +kernel, by decide +kernel⟩
theorem k_Sb : cl_ok (R_Sb, F_Sb, 4) 11 := ⟨u_Sb, by decide +kernel, by decide +kernel⟩
theorem cls_ok : ∀ (ci : Nat) (q : vw_C), cls[ci]? = some q → cl_ok q ci := by
  intro ci q h
  match ci, h with
  | 0, h => cases h; exact k_Ac
  | 1, h => cases h; exact k_La
  | 2, h => cases h; exact k_Tg
  | 3, h => cases h; exact k_Da
  | 4, h => cases h; exact k_Ra
  | 5, h => cases h; exact k_Rq
  | 6, h => cases h; exact k_Rs
  | 7, h => cases h; exact k_Rp
  | 8, h => cases h; exact k_Dk
  | 9, h => cases h; exact k_Mo
  | 10, h => cases h; exact k_St
  | 11, h => cases h; exact k_Sb
  | k + 12, h => simp [cls] at h
/-- one row of a table of fields, checked -/
def ft_b (own : String) (lk : List Cond) (q : Nat × Nat × Nat × Nat) : Bool := match cls[q.2.1]? with
  | none => false
  | some r => Nat.blt q.2.2.1 r.2.2 && (decide (Cond.fieldLink own q.1 (r.2.1 q.2.2.1).1 (r.2.1 q.2.2.1).2.1 (r.2.1 q.2.2.1).2.2.1 ∈ lk) && (match q.2.2.2 with
    | 0 => !(r.2.1 q.2.2.1).2.2.2
    | 1 => (r.2.1 q.2.2.1).2.2.2 && decide ((r.2.1 q.2.2.1).1 = own)
    | _ => true))
theorem ft_of {own : String} {lk Ts : List Cond} {ft : List (Nat × Nat × Nat × Nat)} (hs : ∀ w ∈ gw, w ∈ Ts) (hl : ∀ w ∈ lk, w ∈ gw) (h : ft.all (ft_b own lk) = true) : vx_Ft own Ts cls cty ft := by
  intro q hq
  have h1 := List.all_eq_true.mp h q hq
  unfold ft_b at h1
  cases hc : cls[q.2.1]? with
  | none => rw [hc] at h1; cases h1
  | some r =>
    rw [hc] at h1
    obtain ⟨C, T, N⟩ := r
    dsimp only at h1
    rw [Bool.and_eq_true, Bool.and_eq_true] at h1
    obtain ⟨a1, a2, a3⟩ := h1
    obtain ⟨g1, g2, g3⟩ := cls_ok _ _ hc
    have a2 := of_decide_eq_true a2
    refine ⟨C, T, N, rfl, Nat.le_of_ble_eq_true a1, fun w hw => hs w (g1 w hw), g2, g3, Or.inl (hs _ (hl _ a2)), fun e => ?_, fun e => ?_⟩
    · rw [e] at a3
      simpa using a3
    · rw [e] at a3
      simp only [Bool.and_eq_true, decide_eq_true_eq] at a3
      exact ⟨a3.1, a3.2, hs _ (hl _ a2)⟩
def fl_Dk : List Cond := [.fieldLink "OriginDesk" 113 "OriginDesk$Request" "method" "I", .fieldLink "OriginDesk" 194 "OriginDesk$Accept" "quality" "I", .fieldLink "OriginDesk" 203 "OriginDesk$Languages" "quality" "I", .fieldLink "OriginDesk" 234 "OriginDesk$Tags" "star" "Z", .fieldLink "OriginDesk" 248 "OriginDesk$Tags" "same" "Z", .fieldLink "OriginDesk" 238 "OriginDesk$Tags" "strong" "Z", .fieldLink "OriginDesk" 217 "OriginDesk$Ranges" "specs" "I", .fieldLink "OriginDesk" 224 "OriginDesk$Ranges" "kept" "I", .fieldLink "OriginDesk" 120 "OriginDesk$Response" "code" "I", .fieldLink "OriginDesk" 123 "OriginDesk$Response" "subject" "LOriginDesk$Representation;", .fieldLink "OriginDesk" 130 "OriginDesk$Response" "bodySize" "I", .fieldLink "OriginDesk" 137 "OriginDesk$Response" "partCount" "I", .fieldLink "OriginDesk" 144 "OriginDesk$Response" "firsts" "[I", .fieldLink "OriginDesk" 148 "OriginDesk$Response" "lasts" "[I", .fieldLink "OriginDesk" 11 "OriginDesk" "shelf" "[LOriginDesk$Representation;", .fieldLink "OriginDesk" 86 "OriginDesk" "count" "I", .fieldLink "OriginDesk" 18 "OriginDesk" "asked" "LOriginDesk$Request;", .fieldLink "OriginDesk" 25 "OriginDesk" "accept" "LOriginDesk$Accept;", .fieldLink "OriginDesk" 32 "OriginDesk" "languages" "LOriginDesk$Languages;", .fieldLink "OriginDesk" 39 "OriginDesk" "tags" "LOriginDesk$Tags;", .fieldLink "OriginDesk" 66 "OriginDesk" "dates" "LOriginDesk$Dates;", .fieldLink "OriginDesk" 46 "OriginDesk" "ranges" "LOriginDesk$Ranges;", .fieldLink "OriginDesk" 53 "OriginDesk" "response" "LOriginDesk$Response;", .fieldLink "OriginDesk" 70 "OriginDesk" "TYPES" "[LOriginDesk$MediaType;", .fieldLink "OriginDesk" 78 "OriginDesk" "TONGUES" "[LOriginDesk$Language;", .fieldLink "OriginDesk" 127 "OriginDesk$Representation" "number" "I", .fieldLink "OriginDesk" 191 "OriginDesk$Representation" "type" "LOriginDesk$MediaType;", .fieldLink "OriginDesk" 197 "OriginDesk$Representation" "language" "LOriginDesk$Language;", .fieldLink "OriginDesk" 211 "OriginDesk$Representation" "size" "I", .fieldLink "OriginDesk" 230 "OriginDesk$Representation" "tagText" "Ljava/lang/String;", .fieldLink "OriginDesk" 241 "OriginDesk$Representation" "weak" "Z", .fieldLink "OriginDesk" 244 "OriginDesk$Representation" "change" "J", .fieldLink "OriginDesk" 200 "OriginDesk$Language" "NONE" "LOriginDesk$Language;", .fieldLink "OriginDesk" 154 "OriginDesk$MediaType" "HTML" "LOriginDesk$MediaType;", .fieldLink "OriginDesk" 164 "OriginDesk$Language" "EN" "LOriginDesk$Language;"]
theorem fl_Dk_in : ∀ w ∈ fl_Dk, w ∈ gw := gw_sub [46, 69, 107, 126, 128, 130, 154, 157, 212, 214, 216, 218, 220, 222, 278, 279, 280, 281, 282, 283, 284, 285, 286, 310, 315, 517, 519, 521, 524, 526, 528, 530, 775, 1181, 1183] (by decide +kernel) (by decide +kernel)
def ft_Dk : List (Nat × Nat × Nat × Nat) := [(113, 5, 0, 0), (194, 0, 5, 0), (203, 1, 5, 0), (234, 2, 5, 0), (248, 2, 6, 0), (238, 2, 7, 0), (217, 4, 7, 0), (224, 4, 8, 0), (120, 6, 0, 0), (123, 6, 1, 0), (130, 6, 2, 0), (137, 6, 3, 0), (144, 6, 4, 2), (148, 6, 5, 2), (11, 8, 0, 1), (86, 8, 1, 0), (18, 8, 2, 1), (25, 8, 3, 1), (32, 8, 4, 1), (39, 8, 5, 1), (66, 8, 6, 1), (46, 8, 7, 1), (53, 8, 8, 1), (127, 7, 0, 2), (191, 7, 1, 2), (197, 7, 2, 2), (211, 7, 3, 2), (230, 7, 4, 2), (241, 7, 5, 2), (244, 7, 6, 2)]
theorem ft_Dk_b : ft_Dk.all (ft_b "OriginDesk" fl_Dk) = true := by decide +kernel
def fl_Ac : List Cond := [.fieldLink "OriginDesk$Accept" 15 "OriginDesk$Accept" "quality" "I", .fieldLink "OriginDesk$Accept" 19 "OriginDesk$Accept" "mostTold" "I", .fieldLink "OriginDesk$Accept" 67 "OriginDesk$Accept" "fits" "Z", .fieldLink "OriginDesk$Accept" 71 "OriginDesk$Accept" "told" "I", .fieldLink "OriginDesk$Accept" 74 "OriginDesk$Accept" "weight" "I", .fieldLink "OriginDesk$Accept" 48 "OriginDesk$MediaType" "main" "Ljava/lang/String;", .fieldLink "OriginDesk$Accept" 64 "OriginDesk$MediaType" "sub" "Ljava/lang/String;", .fieldLink "OriginDesk$Accept" 86 "OriginDesk$MediaType" "parameter" "Ljava/lang/String;", .fieldLink "OriginDesk$Accept" 95 "OriginDesk$MediaType" "value" "Ljava/lang/String;"]
theorem fl_Ac_in : ∀ w ∈ fl_Ac, w ∈ gw := gw_sub [68, 70, 71, 72, 73, 1669, 1670, 1671, 1672] (by decide +kernel) (by decide +kernel)
def ft_Ac : List (Nat × Nat × Nat × Nat) := [(15, 0, 5, 0), (19, 0, 6, 0), (67, 0, 7, 0), (71, 0, 8, 0), (74, 0, 9, 0)]
theorem ft_Ac_b : ft_Ac.all (ft_b "OriginDesk$Accept" fl_Ac) = true := by decide +kernel
def fl_La : List Cond := [.fieldLink "OriginDesk$Languages" 15 "OriginDesk$Languages" "quality" "I", .fieldLink "OriginDesk$Languages" 19 "OriginDesk$Languages" "longest" "I", .fieldLink "OriginDesk$Languages" 57 "OriginDesk$Language" "code" "Ljava/lang/String;", .fieldLink "OriginDesk$Languages" 66 "OriginDesk$Language" "beginning" "Ljava/lang/String;"]
theorem fl_La_in : ∀ w ∈ fl_La, w ∈ gw := gw_sub [106, 108, 1673, 1674] (by decide +kernel) (by decide +kernel)
def ft_La : List (Nat × Nat × Nat × Nat) := [(15, 1, 5, 0), (19, 1, 6, 0)]
theorem ft_La_b : ft_La.all (ft_b "OriginDesk$Languages" fl_La) = true := by decide +kernel
def fl_Tg : List Cond := [.fieldLink "OriginDesk$Tags" 19 "OriginDesk$Tags" "star" "Z", .fieldLink "OriginDesk$Tags" 43 "OriginDesk$Tags" "same" "Z", .fieldLink "OriginDesk$Tags" 46 "OriginDesk$Tags" "strong" "Z"]
theorem fl_Tg_in : ∀ w ∈ fl_Tg, w ∈ gw := gw_sub [125, 127, 129] (by decide +kernel) (by decide +kernel)
def ft_Tg : List (Nat × Nat × Nat × Nat) := [(19, 2, 5, 0), (43, 2, 6, 0), (46, 2, 7, 0)]
theorem ft_Tg_b : ft_Tg.all (ft_b "OriginDesk$Tags" fl_Tg) = true := by decide +kernel
def fl_Da : List Cond := [.fieldLink "OriginDesk$Dates" 15 "OriginDesk$Dates" "latestYear" "I", .fieldLink "OriginDesk$Dates" 109 "OriginDesk$Dates" "year" "I", .fieldLink "OriginDesk$Dates" 106 "OriginDesk$Dates" "month" "I", .fieldLink "OriginDesk$Dates" 102 "OriginDesk$Dates" "day" "I", .fieldLink "OriginDesk$Dates" 112 "OriginDesk$Dates" "second" "I", .fieldLink "OriginDesk$Dates" 124 "OriginDesk$Dates" "MONTH_DAYS" "[I"]
theorem fl_Da_in : ∀ w ∈ fl_Da, w ∈ gw := gw_sub [257, 258, 259, 260, 261, 978] (by decide +kernel) (by decide +kernel)
def ft_Da : List (Nat × Nat × Nat × Nat) := [(15, 3, 5, 1), (109, 3, 6, 0), (106, 3, 7, 0), (102, 3, 8, 0), (112, 3, 9, 0)]
theorem ft_Da_b : ft_Da.all (ft_b "OriginDesk$Dates" fl_Da) = true := by decide +kernel
def fl_Ra : List Cond := [.fieldLink "OriginDesk$Ranges" 9 "OriginDesk$Ranges" "firsts" "[I", .fieldLink "OriginDesk$Ranges" 15 "OriginDesk$Ranges" "lasts" "[I", .fieldLink "OriginDesk$Ranges" 22 "OriginDesk$Ranges" "specs" "I", .fieldLink "OriginDesk$Ranges" 26 "OriginDesk$Ranges" "kept" "I"]
theorem fl_Ra_in : ∀ w ∈ fl_Ra, w ∈ gw := gw_sub [149, 151, 153, 155] (by decide +kernel) (by decide +kernel)
def ft_Ra : List (Nat × Nat × Nat × Nat) := [(9, 4, 5, 1), (15, 4, 6, 1), (22, 4, 7, 0), (26, 4, 8, 0)]
theorem ft_Ra_b : ft_Ra.all (ft_b "OriginDesk$Ranges" fl_Ra) = true := by decide +kernel
def fl_Rd : List Cond := [.fieldLink "OriginDesk$Reader" 9 "OriginDesk$Reader" "row" "[I", .fieldLink "OriginDesk$Reader" 22 "OriginDesk$Reader" "size" "I", .fieldLink "OriginDesk$Reader" 18 "OriginDesk$Reader" "at" "I", .fieldLink "OriginDesk$Reader" 15 "OriginDesk$Reader" "said" "[I", .fieldLink "OriginDesk$Reader" 59 "OriginDesk$Reader" "saidSize" "I"]
theorem fl_Rd_in : ∀ w ∈ fl_Rd, w ∈ gw := gw_sub [74, 75, 76, 77, 78] (by decide +kernel) (by decide +kernel)
def ft_Rd : List (Nat × Nat × Nat × Nat) := [(9, 0, 0, 0), (9, 1, 0, 0), (9, 2, 0, 0), (9, 3, 0, 0), (9, 4, 0, 0), (22, 0, 1, 0), (22, 1, 1, 0), (22, 2, 1, 0), (22, 3, 1, 0), (22, 4, 1, 0), (18, 0, 2, 0), (18, 1, 2, 0), (18, 2, 2, 0), (18, 3, 2, 0), (18, 4, 2, 0), (15, 0, 3, 1), (15, 1, 3, 1), (15, 2, 3, 1), (15, 3, 3, 1), (15, 4, 3, 1), (59, 0, 4, 0), (59, 1, 4, 0), (59, 2, 4, 0), (59, 3, 4, 0), (59, 4, 4, 0)]
theorem ft_Rd_b : ft_Rd.all (ft_b "OriginDesk$Reader" fl_Rd) = true := by decide +kernel
def fl_Rq : List Cond := [.fieldLink "OriginDesk$Request" 9 "OriginDesk$Request" "method" "I", .fieldLink "OriginDesk$Request" 17 "OriginDesk$Request" "texts" "[[I", .fieldLink "OriginDesk$Request" 20 "OriginDesk$Request" "sizes" "[I"]
theorem fl_Rq_in : ∀ w ∈ fl_Rq, w ∈ gw := gw_sub [45, 47, 49] (by decide +kernel) (by decide +kernel)
def ft_Rq : List (Nat × Nat × Nat × Nat) := [(9, 5, 0, 0), (17, 5, 1, 1), (20, 5, 2, 1)]
theorem ft_Rq_b : ft_Rq.all (ft_b "OriginDesk$Request" fl_Rq) = true := by decide +kernel
def fl_Rs : List Cond := [.fieldLink "OriginDesk$Response" 45 "OriginDesk$Ranges" "firsts" "[I", .fieldLink "OriginDesk$Response" 46 "OriginDesk$Ranges" "lasts" "[I", .fieldLink "OriginDesk$Response" 37 "OriginDesk$Ranges" "kept" "I", .fieldLink "OriginDesk$Response" 9 "OriginDesk$Response" "code" "I", .fieldLink "OriginDesk$Response" 29 "OriginDesk$Response" "subject" "LOriginDesk$Representation;", .fieldLink "OriginDesk$Response" 51 "OriginDesk$Response" "bodySize" "I", .fieldLink "OriginDesk$Response" 42 "OriginDesk$Response" "partCount" "I", .fieldLink "OriginDesk$Response" 15 "OriginDesk$Response" "firsts" "[I", .fieldLink "OriginDesk$Response" 19 "OriginDesk$Response" "lasts" "[I", .fieldLink "OriginDesk$Response" 33 "OriginDesk$Response" "bodyless" "Z", .fieldLink "OriginDesk$Response" 25 "OriginDesk$Response" "heading" "Ljava/lang/StringBuilder;", .fieldLink "OriginDesk$Response" 64 "OriginDesk$Representation" "size" "I"]
theorem fl_Rs_in : ∀ w ∈ fl_Rs, w ∈ gw := gw_sub [150, 152, 156, 211, 213, 215, 217, 219, 221, 223, 224, 523] (by decide +kernel) (by decide +kernel)
def ft_Rs : List (Nat × Nat × Nat × Nat) := [(45, 4, 5, 2), (46, 4, 6, 2), (37, 4, 8, 0), (9, 6, 0, 0), (29, 6, 1, 0), (51, 6, 2, 0), (42, 6, 3, 0), (15, 6, 4, 1), (19, 6, 5, 1), (33, 6, 6, 0), (25, 6, 7, 1), (64, 7, 3, 2)]
theorem ft_Rs_b : ft_Rs.all (ft_b "OriginDesk$Response" fl_Rs) = true := by decide +kernel
def fl_Rp : List Cond := [.fieldLink "OriginDesk$Representation" 7 "OriginDesk$Representation" "number" "I", .fieldLink "OriginDesk$Representation" 13 "OriginDesk$Representation" "type" "LOriginDesk$MediaType;", .fieldLink "OriginDesk$Representation" 17 "OriginDesk$Representation" "language" "LOriginDesk$Language;", .fieldLink "OriginDesk$Representation" 21 "OriginDesk$Representation" "size" "I", .fieldLink "OriginDesk$Representation" 38 "OriginDesk$Representation" "tagText" "Ljava/lang/String;", .fieldLink "OriginDesk$Representation" 42 "OriginDesk$Representation" "weak" "Z", .fieldLink "OriginDesk$Representation" 46 "OriginDesk$Representation" "change" "J"]
theorem fl_Rp_in : ∀ w ∈ fl_Rp, w ∈ gw := gw_sub [516, 518, 520, 522, 525, 527, 529] (by decide +kernel) (by decide +kernel)
def ft_Rp : List (Nat × Nat × Nat × Nat) := [(7, 7, 0, 1), (13, 7, 1, 1), (17, 7, 2, 1), (21, 7, 3, 1), (38, 7, 4, 1), (42, 7, 5, 1), (46, 7, 6, 1)]
theorem ft_Rp_b : ft_Rp.all (ft_b "OriginDesk$Representation" fl_Rp) = true := by decide +kernel
def fl_Mo : List Cond := [.fieldLink "OriginDeskModel" 62 "OriginDeskModel" "now" "J", .fieldLink "OriginDeskModel" 97 "OriginDeskModel" "count" "I", .fieldLink "OriginDeskModel" 7 "OriginDeskModel" "type" "[I", .fieldLink "OriginDeskModel" 13 "OriginDeskModel" "language" "[I", .fieldLink "OriginDeskModel" 16 "OriginDeskModel" "size" "[I", .fieldLink "OriginDeskModel" 19 "OriginDeskModel" "tag" "[I", .fieldLink "OriginDeskModel" 22 "OriginDeskModel" "weak" "[Z", .fieldLink "OriginDeskModel" 26 "OriginDeskModel" "change" "[J", .fieldLink "OriginDeskModel" 100 "OriginDeskModel" "method" "I", .fieldLink "OriginDeskModel" 30 "OriginDeskModel" "text" "[I", .fieldLink "OriginDeskModel" 33 "OriginDeskModel" "length" "[I", .fieldLink "OriginDeskModel" 105 "OriginDeskModel" "f" "I", .fieldLink "OriginDeskModel" 108 "OriginDeskModel" "at" "I", .fieldLink "OriginDeskModel" 126 "OriginDeskModel" "from" "I", .fieldLink "OriginDeskModel" 132 "OriginDeskModel" "to" "I", .fieldLink "OriginDeskModel" 232 "OriginDeskModel" "tagWeak" "Z", .fieldLink "OriginDeskModel" 150 "OriginDeskModel" "value" "I", .fieldLink "OriginDeskModel" 190 "OriginDeskModel" "nameFrom" "I", .fieldLink "OriginDeskModel" 193 "OriginDeskModel" "nameTo" "I", .fieldLink "OriginDeskModel" 169 "OriginDeskModel" "isOne" "Z", .fieldLink "OriginDeskModel" 305 "OriginDeskModel" "specs" "I", .fieldLink "OriginDeskModel" 36 "OriginDeskModel" "specFirst" "[I", .fieldLink "OriginDeskModel" 39 "OriginDeskModel" "specLast" "[I", .fieldLink "OriginDeskModel" 42 "OriginDeskModel" "status" "I", .fieldLink "OriginDeskModel" 46 "OriginDeskModel" "answered" "I", .fieldLink "OriginDeskModel" 342 "OriginDeskModel" "bytes" "I", .fieldLink "OriginDeskModel" 351 "OriginDeskModel" "headOnly" "Z", .fieldLink "OriginDeskModel" 313 "OriginDeskModel" "partCount" "I", .fieldLink "OriginDeskModel" 49 "OriginDeskModel" "partFirst" "[I", .fieldLink "OriginDeskModel" 52 "OriginDeskModel" "partLast" "[I", .fieldLink "OriginDeskModel" 55 "OriginDeskModel" "word" "[J"]
theorem fl_Mo_in : ∀ w ∈ fl_Mo, w ∈ gw := gw_sub [1216, 1217, 1218, 1219, 1220, 1221, 1222, 1223, 1224, 1225, 1226, 1227, 1228, 1229, 1230, 1231, 1232, 1233, 1234, 1235, 1236, 1237, 1238, 1239, 1240, 1241, 1242, 1243, 1244, 1245, 1246] (by decide +kernel) (by decide +kernel)
def ft_Mo : List (Nat × Nat × Nat × Nat) := [(62, 9, 0, 1), (97, 9, 1, 0), (7, 9, 2, 1), (13, 9, 3, 1), (16, 9, 4, 1), (19, 9, 5, 1), (22, 9, 6, 1), (26, 9, 7, 1), (100, 9, 8, 0), (30, 9, 9, 1), (33, 9, 10, 1), (105, 9, 11, 0), (108, 9, 12, 0), (126, 9, 13, 0), (132, 9, 14, 0), (232, 9, 15, 0), (150, 9, 16, 0), (190, 9, 17, 0), (193, 9, 18, 0), (169, 9, 19, 0), (305, 9, 20, 0), (36, 9, 21, 1), (39, 9, 22, 1), (42, 9, 23, 0), (46, 9, 24, 0), (342, 9, 25, 0), (351, 9, 26, 0), (313, 9, 27, 0), (49, 9, 28, 1), (52, 9, 29, 1), (55, 9, 30, 1)]
theorem ft_Mo_b : ft_Mo.all (ft_b "OriginDeskModel" fl_Mo) = true := by decide +kernel
abbrev b_Dk_init : ByteArray := prog_1_method_1_code
def y_Dk_init : MethodName := ⟨"OriginDesk", "<init>", "(I)V"⟩
abbrev b_Dk_add : ByteArray := prog_1_method_2_code
def y_Dk_add : MethodName := ⟨"OriginDesk", "add", "(IIIIZJ)I"⟩
abbrev b_Dk_clear : ByteArray := prog_1_method_3_code
def y_Dk_clear : MethodName := ⟨"OriginDesk", "clear", "()V"⟩
abbrev b_Dk_request : ByteArray := prog_1_method_4_code
def y_Dk_request : MethodName := ⟨"OriginDesk", "request", "(I)V"⟩
abbrev b_Dk_feed : ByteArray := prog_1_method_5_code
def y_Dk_feed : MethodName := ⟨"OriginDesk", "feed", "(IJ)I"⟩
abbrev b_Dk_respond : ByteArray := prog_1_method_6_code
def y_Dk_respond : MethodName := ⟨"OriginDesk", "respond", "()I"⟩
abbrev b_Dk_status : ByteArray := prog_1_method_7_code
def y_Dk_status : MethodName := ⟨"OriginDesk", "status", "()I"⟩
abbrev b_Dk_chosen : ByteArray := prog_1_method_8_code
def y_Dk_chosen : MethodName := ⟨"OriginDesk", "chosen", "()I"⟩
abbrev b_Dk_length : ByteArray := prog_1_method_9_code
def y_Dk_length : MethodName := ⟨"OriginDesk", "length", "()J"⟩
abbrev b_Dk_body : ByteArray := prog_1_method_10_code
def y_Dk_body : MethodName := ⟨"OriginDesk", "body", "(I)I"⟩
abbrev b_Dk_parts : ByteArray := prog_1_method_11_code
def y_Dk_parts : MethodName := ⟨"OriginDesk", "parts", "()I"⟩
abbrev b_Dk_first : ByteArray := prog_1_method_12_code
def y_Dk_first : MethodName := ⟨"OriginDesk", "first", "(I)I"⟩
abbrev b_Dk_last : ByteArray := prog_1_method_13_code
def y_Dk_last : MethodName := ⟨"OriginDesk", "last", "(I)I"⟩
abbrev b_Dk_score : ByteArray := prog_1_method_14_code
def y_Dk_score : MethodName := ⟨"OriginDesk", "score", "(I)I"⟩
abbrev b_Dk_formed : ByteArray := prog_1_method_15_code
def y_Dk_formed : MethodName := ⟨"OriginDesk", "formed", "(I)Z"⟩
abbrev b_Dk_date : ByteArray := prog_1_method_16_code
def y_Dk_date : MethodName := ⟨"OriginDesk", "date", "(I)J"⟩
abbrev b_Dk_isWithin : ByteArray := prog_1_method_17_code
def y_Dk_isWithin : MethodName := ⟨"OriginDesk", "isWithin", "(JJ)Z"⟩
abbrev b_Dk_codeWithoutChoice : ByteArray := prog_1_method_18_code
def y_Dk_codeWithoutChoice : MethodName := ⟨"OriginDesk", "codeWithoutChoice", "()I"⟩
abbrev b_Dk_choose : ByteArray := prog_1_method_19_code
def y_Dk_choose : MethodName := ⟨"OriginDesk", "choose", "()LOriginDesk$Representation;"⟩
abbrev b_Dk_scoreOf : ByteArray := prog_1_method_20_code
def y_Dk_scoreOf : MethodName := ⟨"OriginDesk", "scoreOf", "(LOriginDesk$Representation;)I"⟩
abbrev b_Dk_codeFor : ByteArray := prog_1_method_21_code
def y_Dk_codeFor : MethodName := ⟨"OriginDesk", "codeFor", "(LOriginDesk$Representation;)I"⟩
abbrev b_Dk_isRefused : ByteArray := prog_1_method_22_code
def y_Dk_isRefused : MethodName := ⟨"OriginDesk", "isRefused", "(LOriginDesk$Representation;)Z"⟩
abbrev b_Dk_isUnchanged : ByteArray := prog_1_method_23_code
def y_Dk_isUnchanged : MethodName := ⟨"OriginDesk", "isUnchanged", "(LOriginDesk$Representation;)Z"⟩
abbrev b_Dk_isRangeWanted : ByteArray := prog_1_method_24_code
def y_Dk_isRangeWanted : MethodName := ⟨"OriginDesk", "isRangeWanted", "(LOriginDesk$Representation;)Z"⟩
abbrev b_Mo_init : ByteArray := prog_14_method_1_code
def y_Mo_init : MethodName := ⟨"OriginDeskModel", "<init>", "(I)V"⟩
abbrev b_Mo_add : ByteArray := prog_14_method_2_code
def y_Mo_add : MethodName := ⟨"OriginDeskModel", "add", "(IIIIZJ)I"⟩
abbrev b_Mo_clear : ByteArray := prog_14_method_3_code
def y_Mo_clear : MethodName := ⟨"OriginDeskModel", "clear", "()V"⟩
abbrev b_Mo_request : ByteArray := prog_14_method_4_code
def y_Mo_request : MethodName := ⟨"OriginDeskModel", "request", "(I)V"⟩
abbrev b_Mo_feed : ByteArray := prog_14_method_5_code
def y_Mo_feed : MethodName := ⟨"OriginDeskModel", "feed", "(IJ)I"⟩
abbrev b_Mo_open : ByteArray := prog_14_method_6_code
def y_Mo_open : MethodName := ⟨"OriginDeskModel", "open", "(I)V"⟩
abbrev b_Mo_there : ByteArray := prog_14_method_7_code
def y_Mo_there : MethodName := ⟨"OriginDeskModel", "there", "(I)Z"⟩
abbrev b_Mo_charAt : ByteArray := prog_14_method_8_code
def y_Mo_charAt : MethodName := ⟨"OriginDeskModel", "charAt", "(I)I"⟩
abbrev b_Mo_next : ByteArray := prog_14_method_9_code
def y_Mo_next : MethodName := ⟨"OriginDeskModel", "next", "()I"⟩
abbrev b_Mo_ended : ByteArray := prog_14_method_10_code
def y_Mo_ended : MethodName := ⟨"OriginDeskModel", "ended", "()Z"⟩
abbrev b_Mo_gap : ByteArray := prog_14_method_11_code
def y_Mo_gap : MethodName := ⟨"OriginDeskModel", "gap", "()V"⟩
abbrev b_Mo_take : ByteArray := prog_14_method_12_code
def y_Mo_take : MethodName := ⟨"OriginDeskModel", "take", "(I)Z"⟩
abbrev b_Mo_isDigit : ByteArray := prog_14_method_13_code
def y_Mo_isDigit : MethodName := ⟨"OriginDeskModel", "isDigit", "(I)Z"⟩
abbrev b_Mo_isLetter : ByteArray := prog_14_method_14_code
def y_Mo_isLetter : MethodName := ⟨"OriginDeskModel", "isLetter", "(I)Z"⟩
abbrev b_Mo_lower : ByteArray := prog_14_method_15_code
def y_Mo_lower : MethodName := ⟨"OriginDeskModel", "lower", "(I)I"⟩
abbrev b_Mo_isToken : ByteArray := prog_14_method_16_code
def y_Mo_isToken : MethodName := ⟨"OriginDeskModel", "isToken", "(I)Z"⟩
abbrev b_Mo_token : ByteArray := prog_14_method_17_code
def y_Mo_token : MethodName := ⟨"OriginDeskModel", "token", "()Z"⟩
abbrev b_Mo_lengthOf : ByteArray := prog_14_method_18_code
def y_Mo_lengthOf : MethodName := ⟨"OriginDeskModel", "lengthOf", "(J)I"⟩
abbrev b_Mo_says : ByteArray := prog_14_method_19_code
def y_Mo_says : MethodName := ⟨"OriginDeskModel", "says", "(IJ)Z"⟩
abbrev b_Mo_isWord : ByteArray := prog_14_method_20_code
def y_Mo_isWord : MethodName := ⟨"OriginDeskModel", "isWord", "(IIJ)Z"⟩
abbrev b_Mo_isMain : ByteArray := prog_14_method_21_code
def y_Mo_isMain : MethodName := ⟨"OriginDeskModel", "isMain", "(III)Z"⟩
abbrev b_Mo_isSub : ByteArray := prog_14_method_22_code
def y_Mo_isSub : MethodName := ⟨"OriginDeskModel", "isSub", "(III)Z"⟩
abbrev b_Mo_weight : ByteArray := prog_14_method_23_code
def y_Mo_weight : MethodName := ⟨"OriginDeskModel", "weight", "()Z"⟩
abbrev b_Mo_semicolon : ByteArray := prog_14_method_24_code
def y_Mo_semicolon : MethodName := ⟨"OriginDeskModel", "semicolon", "()Z"⟩
abbrev b_Mo_weightIfAny : ByteArray := prog_14_method_25_code
def y_Mo_weightIfAny : MethodName := ⟨"OriginDeskModel", "weightIfAny", "()Z"⟩
abbrev b_Mo_separator : ByteArray := prog_14_method_26_code
def y_Mo_separator : MethodName := ⟨"OriginDeskModel", "separator", "()I"⟩
abbrev b_Mo_element : ByteArray := prog_14_method_27_code
def y_Mo_element : MethodName := ⟨"OriginDeskModel", "element", "()Z"⟩
abbrev b_Mo_quoted : ByteArray := prog_14_method_28_code
def y_Mo_quoted : MethodName := ⟨"OriginDeskModel", "quoted", "()Z"⟩
abbrev b_Mo_assigned : ByteArray := prog_14_method_29_code
def y_Mo_assigned : MethodName := ⟨"OriginDeskModel", "assigned", "()Z"⟩
abbrev b_Mo_starred : ByteArray := prog_14_method_30_code
def y_Mo_starred : MethodName := ⟨"OriginDeskModel", "starred", "(II)Z"⟩
abbrev b_Mo_mediaRange : ByteArray := prog_14_method_31_code
def y_Mo_mediaRange : MethodName := ⟨"OriginDeskModel", "mediaRange", "(I)I"⟩
abbrev b_Mo_accepted : ByteArray := prog_14_method_32_code
def y_Mo_accepted : MethodName := ⟨"OriginDeskModel", "accepted", "(I)I"⟩
abbrev b_Mo_tongue : ByteArray := prog_14_method_33_code
def y_Mo_tongue : MethodName := ⟨"OriginDeskModel", "tongue", "()Z"⟩
abbrev b_Mo_speaks : ByteArray := prog_14_method_34_code
def y_Mo_speaks : MethodName := ⟨"OriginDeskModel", "speaks", "(I)Z"⟩
abbrev b_Mo_spoken : ByteArray := prog_14_method_35_code
def y_Mo_spoken : MethodName := ⟨"OriginDeskModel", "spoken", "(I)I"⟩
abbrev b_Mo_scoreOf : ByteArray := prog_14_method_36_code
def y_Mo_scoreOf : MethodName := ⟨"OriginDeskModel", "scoreOf", "(I)I"⟩
abbrev b_Mo_tagText : ByteArray := prog_14_method_37_code
def y_Mo_tagText : MethodName := ⟨"OriginDeskModel", "tagText", "()Z"⟩
abbrev b_Mo_isTagOf : ByteArray := prog_14_method_38_code
def y_Mo_isTagOf : MethodName := ⟨"OriginDeskModel", "isTagOf", "(I)Z"⟩
abbrev b_Mo_tags : ByteArray := prog_14_method_39_code
def y_Mo_tags : MethodName := ⟨"OriginDeskModel", "tags", "(IIZ)I"⟩
abbrev b_Mo_digits : ByteArray := prog_14_method_40_code
def y_Mo_digits : MethodName := ⟨"OriginDeskModel", "digits", "(I)I"⟩
abbrev b_Mo_three : ByteArray := prog_14_method_41_code
def y_Mo_three : MethodName := ⟨"OriginDeskModel", "three", "()I"⟩
abbrev b_Mo_dayName : ByteArray := prog_14_method_42_code
def y_Mo_dayName : MethodName := ⟨"OriginDeskModel", "dayName", "()I"⟩
abbrev b_Mo_monthName : ByteArray := prog_14_method_43_code
def y_Mo_monthName : MethodName := ⟨"OriginDeskModel", "monthName", "()I"⟩
abbrev b_Mo_restOf : ByteArray := prog_14_method_44_code
def y_Mo_restOf : MethodName := ⟨"OriginDeskModel", "restOf", "(I)Z"⟩
abbrev b_Mo_time : ByteArray := prog_14_method_45_code
def y_Mo_time : MethodName := ⟨"OriginDeskModel", "time", "()I"⟩
abbrev b_Mo_daysOf : ByteArray := prog_14_method_46_code
def y_Mo_daysOf : MethodName := ⟨"OriginDeskModel", "daysOf", "(II)I"⟩
abbrev b_Mo_yearOf : ByteArray := prog_14_method_47_code
def y_Mo_yearOf : MethodName := ⟨"OriginDeskModel", "yearOf", "(J)I"⟩
abbrev b_Mo_secondsOf : ByteArray := prog_14_method_48_code
def y_Mo_secondsOf : MethodName := ⟨"OriginDeskModel", "secondsOf", "(IIII)J"⟩
abbrev b_Mo_shortYear : ByteArray := prog_14_method_49_code
def y_Mo_shortYear : MethodName := ⟨"OriginDeskModel", "shortYear", "(I)I"⟩
abbrev b_Mo_zone : ByteArray := prog_14_method_50_code
def y_Mo_zone : MethodName := ⟨"OriginDeskModel", "zone", "()Z"⟩
abbrev b_Mo_paddedDay : ByteArray := prog_14_method_51_code
def y_Mo_paddedDay : MethodName := ⟨"OriginDeskModel", "paddedDay", "()I"⟩
abbrev b_Mo_dateBehind : ByteArray := prog_14_method_52_code
def y_Mo_dateBehind : MethodName := ⟨"OriginDeskModel", "dateBehind", "(I)J"⟩
abbrev b_Mo_dateOf : ByteArray := prog_14_method_53_code
def y_Mo_dateOf : MethodName := ⟨"OriginDeskModel", "dateOf", "(I)J"⟩
abbrev b_Mo_many : ByteArray := prog_14_method_54_code
def y_Mo_many : MethodName := ⟨"OriginDeskModel", "many", "()I"⟩
abbrev b_Mo_spec : ByteArray := prog_14_method_55_code
def y_Mo_spec : MethodName := ⟨"OriginDeskModel", "spec", "()Z"⟩
abbrev b_Mo_ranges : ByteArray := prog_14_method_56_code
def y_Mo_ranges : MethodName := ⟨"OriginDeskModel", "ranges", "()Z"⟩
abbrev b_Mo_resolve : ByteArray := prog_14_method_57_code
def y_Mo_resolve : MethodName := ⟨"OriginDeskModel", "resolve", "(II)V"⟩
abbrev b_Mo_overlap : ByteArray := prog_14_method_58_code
def y_Mo_overlap : MethodName := ⟨"OriginDeskModel", "overlap", "()Z"⟩
abbrev b_Mo_ifRange : ByteArray := prog_14_method_59_code
def y_Mo_ifRange : MethodName := ⟨"OriginDeskModel", "ifRange", "(I)Z"⟩
abbrev b_Mo_chosenOne : ByteArray := prog_14_method_60_code
def y_Mo_chosenOne : MethodName := ⟨"OriginDeskModel", "chosenOne", "()I"⟩
abbrev b_Mo_conditions : ByteArray := prog_14_method_61_code
def y_Mo_conditions : MethodName := ⟨"OriginDeskModel", "conditions", "(I)I"⟩
abbrev b_Mo_ranged : ByteArray := prog_14_method_62_code
def y_Mo_ranged : MethodName := ⟨"OriginDeskModel", "ranged", "(I)I"⟩
abbrev b_Mo_decide : ByteArray := prog_14_method_63_code
def y_Mo_decide : MethodName := ⟨"OriginDeskModel", "decide", "()I"⟩
abbrev b_Mo_respond : ByteArray := prog_14_method_64_code
def y_Mo_respond : MethodName := ⟨"OriginDeskModel", "respond", "()I"⟩
abbrev b_Mo_status : ByteArray := prog_14_method_65_code
def y_Mo_status : MethodName := ⟨"OriginDeskModel", "status", "()I"⟩
abbrev b_Mo_chosen : ByteArray := prog_14_method_66_code
def y_Mo_chosen : MethodName := ⟨"OriginDeskModel", "chosen", "()I"⟩
abbrev b_Mo_digitsOf : ByteArray := prog_14_method_67_code
def y_Mo_digitsOf : MethodName := ⟨"OriginDeskModel", "digitsOf", "(I)I"⟩
abbrev b_Mo_byteAt : ByteArray := prog_14_method_68_code
def y_Mo_byteAt : MethodName := ⟨"OriginDeskModel", "byteAt", "(I)I"⟩
abbrev b_Mo_headOf : ByteArray := prog_14_method_69_code
def y_Mo_headOf : MethodName := ⟨"OriginDeskModel", "headOf", "(I)I"⟩
abbrev b_Mo_partSize : ByteArray := prog_14_method_70_code
def y_Mo_partSize : MethodName := ⟨"OriginDeskModel", "partSize", "(I)I"⟩
abbrev b_Mo_length : ByteArray := prog_14_method_71_code
def y_Mo_length : MethodName := ⟨"OriginDeskModel", "length", "()J"⟩
abbrev b_Mo_digitOf : ByteArray := prog_14_method_72_code
def y_Mo_digitOf : MethodName := ⟨"OriginDeskModel", "digitOf", "(II)I"⟩
abbrev b_Mo_figures : ByteArray := prog_14_method_73_code
def y_Mo_figures : MethodName := ⟨"OriginDeskModel", "figures", "(III)I"⟩
abbrev b_Mo_crlf : ByteArray := prog_14_method_74_code
def y_Mo_crlf : MethodName := ⟨"OriginDeskModel", "crlf", "(I)I"⟩
abbrev b_Mo_partByte : ByteArray := prog_14_method_75_code
def y_Mo_partByte : MethodName := ⟨"OriginDeskModel", "partByte", "(II)I"⟩
abbrev b_Mo_body : ByteArray := prog_14_method_76_code
def y_Mo_body : MethodName := ⟨"OriginDeskModel", "body", "(I)I"⟩
abbrev b_Mo_parts : ByteArray := prog_14_method_77_code
def y_Mo_parts : MethodName := ⟨"OriginDeskModel", "parts", "()I"⟩
abbrev b_Mo_first : ByteArray := prog_14_method_78_code
def y_Mo_first : MethodName := ⟨"OriginDeskModel", "first", "(I)I"⟩
abbrev b_Mo_last : ByteArray := prog_14_method_79_code
def y_Mo_last : MethodName := ⟨"OriginDeskModel", "last", "(I)I"⟩
abbrev b_Mo_score : ByteArray := prog_14_method_80_code
def y_Mo_score : MethodName := ⟨"OriginDeskModel", "score", "(I)I"⟩
abbrev b_Mo_formed : ByteArray := prog_14_method_81_code
def y_Mo_formed : MethodName := ⟨"OriginDeskModel", "formed", "(I)Z"⟩
abbrev b_Mo_loneTag : ByteArray := prog_14_method_82_code
def y_Mo_loneTag : MethodName := ⟨"OriginDeskModel", "loneTag", "()Z"⟩
abbrev b_Mo_date : ByteArray := prog_14_method_83_code
def y_Mo_date : MethodName := ⟨"OriginDeskModel", "date", "(I)J"⟩
abbrev b_Ac_init : ByteArray := prog_2_method_1_code
def y_Ac_init : MethodName := ⟨"OriginDesk$Accept", "<init>", "()V"⟩
abbrev b_Ac_read : ByteArray := prog_2_method_2_code
def y_Ac_read : MethodName := ⟨"OriginDesk$Accept", "read", "(LOriginDesk$Request;LOriginDesk$MediaType;)Z"⟩
abbrev b_Ac_readTokens : ByteArray := prog_2_method_3_code
def y_Ac_readTokens : MethodName := ⟨"OriginDesk$Accept", "readTokens", "(LOriginDesk$MediaType;)Z"⟩
abbrev b_Ac_readParameters : ByteArray := prog_2_method_4_code
def y_Ac_readParameters : MethodName := ⟨"OriginDesk$Accept", "readParameters", "(LOriginDesk$MediaType;)Z"⟩
abbrev b_Ac_weigh : ByteArray := prog_2_method_5_code
def y_Ac_weigh : MethodName := ⟨"OriginDesk$Accept", "weigh", "()V"⟩
abbrev b_Da_init : ByteArray := prog_3_method_1_code
def y_Da_init : MethodName := ⟨"OriginDesk$Dates", "<init>", "(J)V"⟩
abbrev b_Da_timeOf : ByteArray := prog_3_method_2_code
def y_Da_timeOf : MethodName := ⟨"OriginDesk$Dates", "timeOf", "(LOriginDesk$Request;I)J"⟩
abbrev b_Da_takeCommaForm : ByteArray := prog_3_method_3_code
def y_Da_takeCommaForm : MethodName := ⟨"OriginDesk$Dates", "takeCommaForm", "()Z"⟩
abbrev b_Da_takeDashForm : ByteArray := prog_3_method_4_code
def y_Da_takeDashForm : MethodName := ⟨"OriginDesk$Dates", "takeDashForm", "()Z"⟩
abbrev b_Da_takeSpaceForm : ByteArray := prog_3_method_5_code
def y_Da_takeSpaceForm : MethodName := ⟨"OriginDesk$Dates", "takeSpaceForm", "()Z"⟩
abbrev b_Da_restOfName : ByteArray := prog_3_method_6_code
def y_Da_restOfName : MethodName := ⟨"OriginDesk$Dates", "restOfName", "(I)Ljava/lang/String;"⟩
abbrev b_Da_takeDay : ByteArray := prog_3_method_7_code
def y_Da_takeDay : MethodName := ⟨"OriginDesk$Dates", "takeDay", "()Z"⟩
abbrev b_Da_takeSpacedDay : ByteArray := prog_3_method_8_code
def y_Da_takeSpacedDay : MethodName := ⟨"OriginDesk$Dates", "takeSpacedDay", "()Z"⟩
abbrev b_Da_takeMonth : ByteArray := prog_3_method_9_code
def y_Da_takeMonth : MethodName := ⟨"OriginDesk$Dates", "takeMonth", "()Z"⟩
abbrev b_Da_takeYear : ByteArray := prog_3_method_10_code
def y_Da_takeYear : MethodName := ⟨"OriginDesk$Dates", "takeYear", "()Z"⟩
abbrev b_Da_takeShortYear : ByteArray := prog_3_method_11_code
def y_Da_takeShortYear : MethodName := ⟨"OriginDesk$Dates", "takeShortYear", "()Z"⟩
abbrev b_Da_takeClock : ByteArray := prog_3_method_12_code
def y_Da_takeClock : MethodName := ⟨"OriginDesk$Dates", "takeClock", "()Z"⟩
abbrev b_Da_isInCalendar : ByteArray := prog_3_method_13_code
def y_Da_isInCalendar : MethodName := ⟨"OriginDesk$Dates", "isInCalendar", "()Z"⟩
abbrev b_Da_time : ByteArray := prog_3_method_14_code
def y_Da_time : MethodName := ⟨"OriginDesk$Dates", "time", "()J"⟩
abbrev b_Da_daysOf : ByteArray := prog_3_method_15_code
def y_Da_daysOf : MethodName := ⟨"OriginDesk$Dates", "daysOf", "(II)I"⟩
abbrev b_Da_daysBefore : ByteArray := prog_3_method_16_code
def y_Da_daysBefore : MethodName := ⟨"OriginDesk$Dates", "daysBefore", "(I)I"⟩
abbrev b_Da_yearOf : ByteArray := prog_3_method_17_code
def y_Da_yearOf : MethodName := ⟨"OriginDesk$Dates", "yearOf", "(J)I"⟩
abbrev b_La_init : ByteArray := prog_5_method_1_code
def y_La_init : MethodName := ⟨"OriginDesk$Languages", "<init>", "()V"⟩
abbrev b_La_read : ByteArray := prog_5_method_2_code
def y_La_read : MethodName := ⟨"OriginDesk$Languages", "read", "(LOriginDesk$Request;LOriginDesk$Language;)Z"⟩
abbrev b_La_readRange : ByteArray := prog_5_method_3_code
def y_La_readRange : MethodName := ⟨"OriginDesk$Languages", "readRange", "(LOriginDesk$Language;)Z"⟩
abbrev b_La_fitOf : ByteArray := prog_5_method_4_code
def y_La_fitOf : MethodName := ⟨"OriginDesk$Languages", "fitOf", "(LOriginDesk$Language;)I"⟩
abbrev b_Ra_init : ByteArray := prog_7_method_1_code
def y_Ra_init : MethodName := ⟨"OriginDesk$Ranges", "<init>", "()V"⟩
abbrev b_Ra_read : ByteArray := prog_7_method_2_code
def y_Ra_read : MethodName := ⟨"OriginDesk$Ranges", "read", "(LOriginDesk$Request;I)Z"⟩
abbrev b_Ra_overlap : ByteArray := prog_7_method_3_code
def y_Ra_overlap : MethodName := ⟨"OriginDesk$Ranges", "overlap", "()Z"⟩
abbrev b_Ra_readSpec : ByteArray := prog_7_method_4_code
def y_Ra_readSpec : MethodName := ⟨"OriginDesk$Ranges", "readSpec", "(I)Z"⟩
abbrev b_Ra_keep : ByteArray := prog_7_method_5_code
def y_Ra_keep : MethodName := ⟨"OriginDesk$Ranges", "keep", "(II)V"⟩
abbrev b_Rd_init : ByteArray := prog_8_method_1_code
def y_Rd_init : MethodName := ⟨"OriginDesk$Reader", "<init>", "()V"⟩
abbrev b_Rd_open : ByteArray := prog_8_method_2_code
def y_Rd_open : MethodName := ⟨"OriginDesk$Reader", "open", "(LOriginDesk$Request;I)V"⟩
abbrev b_Rd_isEnded : ByteArray := prog_8_method_3_code
def y_Rd_isEnded : MethodName := ⟨"OriginDesk$Reader", "isEnded", "()Z"⟩
abbrev b_Rd_isNext : ByteArray := prog_8_method_4_code
def y_Rd_isNext : MethodName := ⟨"OriginDesk$Reader", "isNext", "(C)Z"⟩
abbrev b_Rd_take : ByteArray := prog_8_method_5_code
def y_Rd_take : MethodName := ⟨"OriginDesk$Reader", "take", "(C)Z"⟩
abbrev b_Rd_skipGap : ByteArray := prog_8_method_6_code
def y_Rd_skipGap : MethodName := ⟨"OriginDesk$Reader", "skipGap", "()V"⟩
abbrev b_Rd_findElement : ByteArray := prog_8_method_7_code
def y_Rd_findElement : MethodName := ⟨"OriginDesk$Reader", "findElement", "()Z"⟩
abbrev b_Rd_endsElement : ByteArray := prog_8_method_8_code
def y_Rd_endsElement : MethodName := ⟨"OriginDesk$Reader", "endsElement", "()Z"⟩
abbrev b_Rd_takeSemicolon : ByteArray := prog_8_method_9_code
def y_Rd_takeSemicolon : MethodName := ⟨"OriginDesk$Reader", "takeSemicolon", "()Z"⟩
abbrev b_Rd_takeText : ByteArray := prog_8_method_10_code
def y_Rd_takeText : MethodName := ⟨"OriginDesk$Reader", "takeText", "(Ljava/lang/String;)Z"⟩
abbrev b_Rd_takeAlike : ByteArray := prog_8_method_11_code
def y_Rd_takeAlike : MethodName := ⟨"OriginDesk$Reader", "takeAlike", "(Ljava/lang/String;)Z"⟩
abbrev b_Rd_takeToken : ByteArray := prog_8_method_12_code
def y_Rd_takeToken : MethodName := ⟨"OriginDesk$Reader", "takeToken", "()Z"⟩
abbrev b_Rd_takeQuotedText : ByteArray := prog_8_method_13_code
def y_Rd_takeQuotedText : MethodName := ⟨"OriginDesk$Reader", "takeQuotedText", "()Z"⟩
abbrev b_Rd_takeOpaque : ByteArray := prog_8_method_14_code
def y_Rd_takeOpaque : MethodName := ⟨"OriginDesk$Reader", "takeOpaque", "()Z"⟩
abbrev b_Rd_takeLanguage : ByteArray := prog_8_method_15_code
def y_Rd_takeLanguage : MethodName := ⟨"OriginDesk$Reader", "takeLanguage", "()Z"⟩
abbrev b_Rd_takeWeight : ByteArray := prog_8_method_16_code
def y_Rd_takeWeight : MethodName := ⟨"OriginDesk$Reader", "takeWeight", "()I"⟩
abbrev b_Rd_takeNumber : ByteArray := prog_8_method_17_code
def y_Rd_takeNumber : MethodName := ⟨"OriginDesk$Reader", "takeNumber", "()I"⟩
abbrev b_Rd_takeDigits : ByteArray := prog_8_method_18_code
def y_Rd_takeDigits : MethodName := ⟨"OriginDesk$Reader", "takeDigits", "(I)I"⟩
abbrev b_Rd_takeName : ByteArray := prog_8_method_19_code
def y_Rd_takeName : MethodName := ⟨"OriginDesk$Reader", "takeName", "(Ljava/lang/String;)I"⟩
abbrev b_Rd_saidSize : ByteArray := prog_8_method_20_code
def y_Rd_saidSize : MethodName := ⟨"OriginDesk$Reader", "saidSize", "()I"⟩
abbrev b_Rd_isSaid : ByteArray := prog_8_method_21_code
def y_Rd_isSaid : MethodName := ⟨"OriginDesk$Reader", "isSaid", "(Ljava/lang/String;)Z"⟩
abbrev b_Rd_isSaidAlike : ByteArray := prog_8_method_22_code
def y_Rd_isSaidAlike : MethodName := ⟨"OriginDesk$Reader", "isSaidAlike", "(Ljava/lang/String;)Z"⟩
abbrev b_Rd_saysStar : ByteArray := prog_8_method_23_code
def y_Rd_saysStar : MethodName := ⟨"OriginDesk$Reader", "saysStar", "()Z"⟩
abbrev b_Rd_say : ByteArray := prog_8_method_24_code
def y_Rd_say : MethodName := ⟨"OriginDesk$Reader", "say", "(I)V"⟩
abbrev b_Rd_isDigit : ByteArray := prog_8_method_25_code
def y_Rd_isDigit : MethodName := ⟨"OriginDesk$Reader", "isDigit", "(I)Z"⟩
abbrev b_Rd_isLetter : ByteArray := prog_8_method_26_code
def y_Rd_isLetter : MethodName := ⟨"OriginDesk$Reader", "isLetter", "(I)Z"⟩
abbrev b_Rd_lower : ByteArray := prog_8_method_27_code
def y_Rd_lower : MethodName := ⟨"OriginDesk$Reader", "lower", "(I)I"⟩
abbrev b_Rd_isQuotable : ByteArray := prog_8_method_28_code
def y_Rd_isQuotable : MethodName := ⟨"OriginDesk$Reader", "isQuotable", "(I)Z"⟩
abbrev b_Rp_init : ByteArray := prog_9_method_1_code
def y_Rp_init : MethodName := ⟨"OriginDesk$Representation", "<init>", "(ILOriginDesk$MediaType;LOriginDesk$Language;IIZJ)V"⟩
abbrev b_Rp_byteAt : ByteArray := prog_9_method_2_code
def y_Rp_byteAt : MethodName := ⟨"OriginDesk$Representation", "byteAt", "(I)I"⟩
abbrev b_Rq_init : ByteArray := prog_10_method_1_code
def y_Rq_init : MethodName := ⟨"OriginDesk$Request", "<init>", "()V"⟩
abbrev b_Rq_restart : ByteArray := prog_10_method_2_code
def y_Rq_restart : MethodName := ⟨"OriginDesk$Request", "restart", "(I)V"⟩
abbrev b_Rq_has : ByteArray := prog_10_method_3_code
def y_Rq_has : MethodName := ⟨"OriginDesk$Request", "has", "(I)Z"⟩
abbrev b_Rq_append : ByteArray := prog_10_method_4_code
def y_Rq_append : MethodName := ⟨"OriginDesk$Request", "append", "(IJ)I"⟩
abbrev b_Rq_countOf : ByteArray := prog_10_method_5_code
def y_Rq_countOf : MethodName := ⟨"OriginDesk$Request", "countOf", "(J)I"⟩
abbrev b_Rq_characterOf : ByteArray := prog_10_method_6_code
def y_Rq_characterOf : MethodName := ⟨"OriginDesk$Request", "characterOf", "(JI)I"⟩
abbrev b_Rs_init : ByteArray := prog_11_method_1_code
def y_Rs_init : MethodName := ⟨"OriginDesk$Response", "<init>", "()V"⟩
abbrev b_Rs_settle : ByteArray := prog_11_method_2_code
def y_Rs_settle : MethodName := ⟨"OriginDesk$Response", "settle", "(ILOriginDesk$Representation;ZLOriginDesk$Ranges;)V"⟩
abbrev b_Rs_hasPart : ByteArray := prog_11_method_3_code
def y_Rs_hasPart : MethodName := ⟨"OriginDesk$Response", "hasPart", "(I)Z"⟩
abbrev b_Rs_byteAt : ByteArray := prog_11_method_4_code
def y_Rs_byteAt : MethodName := ⟨"OriginDesk$Response", "byteAt", "(I)I"⟩
abbrev b_Rs_measure : ByteArray := prog_11_method_5_code
def y_Rs_measure : MethodName := ⟨"OriginDesk$Response", "measure", "()I"⟩
abbrev b_Rs_byteAmongParts : ByteArray := prog_11_method_6_code
def y_Rs_byteAmongParts : MethodName := ⟨"OriginDesk$Response", "byteAmongParts", "(LOriginDesk$Representation;I)I"⟩
abbrev b_Rs_writeHeading : ByteArray := prog_11_method_7_code
def y_Rs_writeHeading : MethodName := ⟨"OriginDesk$Response", "writeHeading", "(II)V"⟩
abbrev b_Rs_partSize : ByteArray := prog_11_method_8_code
def y_Rs_partSize : MethodName := ⟨"OriginDesk$Response", "partSize", "(I)I"⟩
abbrev b_Tg_init : ByteArray := prog_12_method_1_code
def y_Tg_init : MethodName := ⟨"OriginDesk$Tags", "<init>", "()V"⟩
abbrev b_Tg_readList : ByteArray := prog_12_method_2_code
def y_Tg_readList : MethodName := ⟨"OriginDesk$Tags", "readList", "(LOriginDesk$Request;ILjava/lang/String;)Z"⟩
abbrev b_Tg_readOne : ByteArray := prog_12_method_3_code
def y_Tg_readOne : MethodName := ⟨"OriginDesk$Tags", "readOne", "(LOriginDesk$Request;ILjava/lang/String;)Z"⟩
abbrev b_Tg_begin : ByteArray := prog_12_method_4_code
def y_Tg_begin : MethodName := ⟨"OriginDesk$Tags", "begin", "(LOriginDesk$Request;I)V"⟩
abbrev b_Tg_readTag : ByteArray := prog_12_method_5_code
def y_Tg_readTag : MethodName := ⟨"OriginDesk$Tags", "readTag", "(Ljava/lang/String;)Z"⟩
end
section
/-! CODE LISTS, by program -/
def j_Dk_init : wq_J := [(.aload_n 0, (0, 0, 0, 0, 0)), (.invokespecial 1, (0, 0, 0, 0, 0)), (.aload_n 0, (0, 0, 0, 0, 0)), (.iconst 4, (0, 0, 0, 4, 0)), (.anewarray 9, (0, 0, 0, 0, 0)), (.putfield 11, (3, 0, 0, 0, 0)), (.aload_n 0, (0, 0, 0, 0, 0)), (.new 15, (0, 0, 0, 0, 0)), (.dup, (0, 0, 0, 0, 0)), (.invokespecial 17, (0, 0, 0, 0, 0)), (.putfield 18, (3, 0, 2, 0, 0)), (.aload_n 0, (0, 0, 0, 0, 0)), (.new 22, (0, 0, 0, 0, 0)), (.dup, (0, 0, 0, 0, 0)), (.invokespecial 24, (0, 0, 0, 0, 0)), (.putfield 25, (3, 0, 3, 0, 0)), (.aload_n 0, (0, 0, 0, 0, 0)), (.new 29, (0, 0, 0, 0, 0)), (.dup, (0, 0, 0, 0, 0)), (.invokespecial 31, (0, 0, 0, 0, 0)), (.putfield 32, (3, 0, 4, 0, 0)), (.aload_n 0, (0, 0, 0, 0, 0)), (.new 36, (0, 0, 0, 0, 0)), (.dup, (0, 0, 0, 0, 0)), (.invokespecial 38, (0, 0, 0, 0, 0)), (.putfield 39, (3, 0, 5, 0, 0)), (.aload_n 0, (0, 0, 0, 0, 0)), (.new 43, (0, 0, 0, 0, 0)), (.dup, (0, 0, 0, 0, 0)), (.invokespecial 45, (0, 0, 0, 0, 0)), (.putfield 46, (3, 0, 7, 0, 0)), (.aload_n 0, (0, 0, 0, 0, 0)), (.new 50, (0, 0, 0, 0, 0)), (.dup, (0, 0, 0, 0, 0)), (.invokespecial 52, (0, 0, 0, 0, 0)), (.putfield 53, (3, 0, 8, 0, 0)), (.iload_n 1, (0, 0, 0, 0, 0)), (.i2l, (0, 0, 0, 0, 0)), (.ldc2_w 57, (1, 0, 0, 0, 4294967295)), (.land, (0, 0, 0, 0, 0)), (.lstore_n 2, (0, 0, 0, 0, 0)), (.aload_n 0, (0, 0, 0, 0, 0)), (.new 59, (0, 0, 0, 0, 0)), (.dup, (0, 0, 0, 0, 0)), (.lload_n 2, (0, 0, 0, 0, 0)), (.ldc2_w 61, (1, 0, 0, 0, 4102444799)), (.lcmp, (0, 0, 0, 0, 0)), (.ifCond .le 7, (0, 102, 0, 0, 0)), (.lconst 0, (0, 0, 0, 0, 0)), (.goto 4, (0, 103, 0, 0, 0)), (.lload_n 2, (0, 0, 0, 0, 0)), (.invokespecial 63, (0, 0, 0, 0, 0)), (.putfield 66, (3, 0, 6, 0, 0)), (.return_, (0, 0, 0, 0, 0))]
theorem jc_Dk_init : wq_c b_Dk_init 4 j_Dk_init 0 = true := by decide +kernel
def j_Dk_add : wq_J := [(.iload_n 1, (0, 0, 0, 0, 0)), (.i2l, (0, 0, 0, 0, 0)), (.getstatic 70, (2, 0, 0, 0, 0)), (.arraylength, (2, 0, 0, 0, 0)), (.iconst 1, (0, 0, 0, 1, 0)), (.isub, (0, 0, 0, 0, 0)), (.i2l, (0, 0, 0, 0, 0)), (.invokestatic 74, (0, 0, 0, 0, 0)), (.ifCond .eq 22, (0, 34, 0, 0, 0)), (.iload_n 2, (0, 0, 0, 0, 0)), (.i2l, (0, 0, 0, 0, 0)), (.getstatic 78, (2, 0, 0, 0, 0)), (.arraylength, (2, 0, 0, 0, 0)), (.iconst 1, (0, 0, 0, 1, 0)), (.isub, (0, 0, 0, 0, 0)), (.i2l, (0, 0, 0, 0, 0)), (.invokestatic 74, (0, 0, 0, 0, 0)), (.ifCond .eq 7, (0, 34, 0, 0, 0)), (.iconst 1, (0, 0, 0, 1, 0)), (.goto 4, (0, 35, 0, 0, 0)), (.iconst 0, (0, 0, 0, 0, 0)), (.istore 8, (0, 0, 0, 0, 0)), (.iload_n 3, (0, 0, 0, 0, 0)), (.i2l, (0, 0, 0, 0, 0)), (.ldc2_w 82, (1, 0, 0, 0, 100000)), (.invokestatic 74, (0, 0, 0, 0, 0)), (.ifCond .eq 30, (0, 75, 0, 0, 0)), (.iload 4, (0, 0, 0, 0, 0)), (.i2l, (0, 0, 0, 0, 0)), (.ldc2_w 84, (1, 0, 0, 0, 9999)), (.invokestatic 74, (0, 0, 0, 0, 0)), (.ifCond .eq 18, (0, 75, 0, 0, 0)), (.lload 6, (0, 0, 0, 0, 0)), (.ldc2_w 61, (1, 0, 0, 0, 4102444799)), (.invokestatic 74, (0, 0, 0, 0, 0)), (.ifCond .eq 7, (0, 75, 0, 0, 0)), (.iconst 1, (0, 0, 0, 1, 0)), (.goto 4, (0, 76, 0, 0, 0)), (.iconst 0, (0, 0, 0, 0, 0)), (.istore 9, (0, 0, 0, 0, 0)), (.iload 8, (0, 0, 0, 0, 0)), (.ifCond .eq 16, (0, 96, 0, 0, 0)), (.iload 9, (0, 0, 0, 0, 0)), (.ifCond .eq 11, (0, 96, 0, 0, 0)), (.aload_n 0, (0, 0, 0, 0, 0)), (.getfield 86, (1, 0, 1, 0, 0)), (.iconst 4, (0, 0, 0, 4, 0)), (.if_icmp .lt 5, (0, 98, 0, 0, 0)), (.iconst (-1), (0, 0, 0, (-1), 0)), (.ireturn, (0, 0, 0, 0, 0)), (.aload_n 0, (0, 0, 0, 0, 0)), (.getfield 86, (1, 0, 1, 0, 0)), (.istore 10, (0, 0, 0, 0, 0)), (.aload_n 0, (0, 0, 0, 0, 0)), (.getfield 11, (1, 0, 0, 0, 0)), (.iload 10, (0, 0, 0, 0, 0)), (.new 9, (0, 0, 0, 0, 0)), (.dup, (0, 0, 0, 0, 0)), (.iload 10, (0, 0, 0, 0, 0)), (.getstatic 70, (2, 0, 0, 0, 0)), (.iload_n 1, (0, 0, 0, 0, 0)), (.aaload, (0, 0, 0, 0, 0)), (.getstatic 78, (2, 0, 0, 0, 0)), (.iload_n 2, (0, 0, 0, 0, 0)), (.aaload, (0, 0, 0, 0, 0)), (.iload_n 3, (0, 0, 0, 0, 0)), (.iload 4, (0, 0, 0, 0, 0)), (.iload 5, (0, 0, 0, 0, 0)), (.lload 6, (0, 0, 0, 0, 0)), (.invokespecial 90, (0, 0, 0, 0, 0)), (.aastore, (0, 0, 0, 0, 0)), (.aload_n 0, (0, 0, 0, 0, 0)), (.dup, (0, 0, 0, 0, 0)), (.getfield 86, (1, 0, 1, 0, 0)), (.iconst 1, (0, 0, 0, 1, 0)), (.iadd, (0, 0, 0, 0, 0)), (.putfield 86, (1, 0, 1, 0, 0)), (.iload 10, (0, 0, 0, 0, 0)), (.ireturn, (0, 0, 0, 0, 0))]
theorem jc_Dk_add : wq_c b_Dk_add 11 j_Dk_add 0 = true := by decide +kernel
def j_Dk_clear : wq_J := [(.aload_n 0, (0, 0, 0, 0, 0)), (.iconst 0, (0, 0, 0, 0, 0)), (.putfield 86, (1, 0, 1, 0, 0)), (.return_, (0, 0, 0, 0, 0))]
theorem jc_Dk_clear : wq_c b_Dk_clear 1 j_Dk_clear 0 = true := by decide +kernel
def j_Dk_request : wq_J := [(.aload_n 0, (0, 0, 0, 0, 0)), (.getfield 18, (1, 0, 2, 0, 0)), (.iload_n 1, (0, 0, 0, 0, 0)), (.invokevirtual 93, (0, 0, 0, 0, 0)), (.return_, (0, 0, 0, 0, 0))]
theorem jc_Dk_request : wq_c b_Dk_request 2 j_Dk_request 0 = true := by decide +kernel
def j_Dk_feed : wq_J := [(.aload_n 0, (0, 0, 0, 0, 0)), (.getfield 18, (1, 0, 2, 0, 0)), (.iload_n 1, (0, 0, 0, 0, 0)), (.lload_n 2, (0, 0, 0, 0, 0)), (.invokevirtual 97, (0, 0, 0, 0, 0)), (.ireturn, (0, 0, 0, 0, 0))]
theorem jc_Dk_feed : wq_c b_Dk_feed 4 j_Dk_feed 0 = true := by decide +kernel
def j_Dk_respond : wq_J := [(.aconst_null, (0, 0, 0, 0, 0)), (.astore_n 1, (0, 0, 0, 0, 0)), (.aload_n 0, (0, 0, 0, 0, 0)), (.invokevirtual 101, (0, 0, 0, 0, 0)), (.istore_n 2, (0, 0, 0, 0, 0)), (.iload_n 2, (0, 0, 0, 0, 0)), (.sipush 200, (0, 0, 0, 200, 0)), (.if_icmp .ne 24, (0, 35, 0, 0, 0)), (.aload_n 0, (0, 0, 0, 0, 0)), (.invokevirtual 105, (0, 0, 0, 0, 0)), (.astore_n 1, (0, 0, 0, 0, 0)), (.aload_n 1, (0, 0, 0, 0, 0)), (.ifnonnull 9, (0, 29, 0, 0, 0)), (.sipush 406, (0, 0, 0, 406, 0)), (.goto 8, (0, 34, 0, 0, 0)), (.aload_n 0, (0, 0, 0, 0, 0)), (.aload_n 1, (0, 0, 0, 0, 0)), (.invokevirtual 109, (0, 0, 0, 0, 0)), (.istore_n 2, (0, 0, 0, 0, 0)), (.aload_n 0, (0, 0, 0, 0, 0)), (.getfield 53, (1, 0, 8, 0, 0)), (.iload_n 2, (0, 0, 0, 0, 0)), (.aload_n 1, (0, 0, 0, 0, 0)), (.aload_n 0, (0, 0, 0, 0, 0)), (.getfield 18, (1, 0, 2, 0, 0)), (.getfield 113, (2, 0, 0, 0, 0)), (.iconst 1, (0, 0, 0, 1, 0)), (.if_icmp .ne 7, (0, 56, 0, 0, 0)), (.iconst 1, (0, 0, 0, 1, 0)), (.goto 4, (0, 57, 0, 0, 0)), (.iconst 0, (0, 0, 0, 0, 0)), (.aload_n 0, (0, 0, 0, 0, 0)), (.getfield 46, (1, 0, 7, 0, 0)), (.invokevirtual 116, (0, 0, 0, 0, 0)), (.iload_n 2, (0, 0, 0, 0, 0)), (.ireturn, (0, 0, 0, 0, 0))]
theorem jc_Dk_respond : wq_c b_Dk_respond 3 j_Dk_respond 0 = true := by decide +kernel
def j_Dk_status : wq_J := [(.aload_n 0, (0, 0, 0, 0, 0)), (.getfield 53, (1, 0, 8, 0, 0)), (.getfield 120, (2, 0, 0, 0, 0)), (.ireturn, (0, 0, 0, 0, 0))]
theorem jc_Dk_status : wq_c b_Dk_status 1 j_Dk_status 0 = true := by decide +kernel
def j_Dk_chosen : wq_J := [(.aload_n 0, (0, 0, 0, 0, 0)), (.getfield 53, (1, 0, 8, 0, 0)), (.getfield 123, (2, 0, 0, 0, 0)), (.ifnonnull 7, (0, 14, 0, 0, 0)), (.iconst (-1), (0, 0, 0, (-1), 0)), (.goto 13, (0, 24, 0, 0, 0)), (.aload_n 0, (0, 0, 0, 0, 0)), (.getfield 53, (1, 0, 8, 0, 0)), (.getfield 123, (2, 0, 0, 0, 0)), (.getfield 127, (2, 0, 0, 0, 0)), (.ireturn, (0, 0, 0, 0, 0))]
theorem jc_Dk_chosen : wq_c b_Dk_chosen 1 j_Dk_chosen 0 = true := by decide +kernel
def j_Dk_length : wq_J := [(.aload_n 0, (0, 0, 0, 0, 0)), (.getfield 53, (1, 0, 8, 0, 0)), (.getfield 130, (2, 0, 0, 0, 0)), (.i2l, (0, 0, 0, 0, 0)), (.lreturn, (0, 0, 0, 0, 0))]
theorem jc_Dk_length : wq_c b_Dk_length 1 j_Dk_length 0 = true := by decide +kernel
def j_Dk_body : wq_J := [(.aload_n 0, (0, 0, 0, 0, 0)), (.getfield 53, (1, 0, 8, 0, 0)), (.iload_n 1, (0, 0, 0, 0, 0)), (.invokevirtual 133, (0, 0, 0, 0, 0)), (.ireturn, (0, 0, 0, 0, 0))]
theorem jc_Dk_body : wq_c b_Dk_body 2 j_Dk_body 0 = true := by decide +kernel
def j_Dk_parts : wq_J := [(.aload_n 0, (0, 0, 0, 0, 0)), (.getfield 53, (1, 0, 8, 0, 0)), (.getfield 137, (2, 0, 0, 0, 0)), (.ireturn, (0, 0, 0, 0, 0))]
theorem jc_Dk_parts : wq_c b_Dk_parts 1 j_Dk_parts 0 = true := by decide +kernel
def j_Dk_first : wq_J := [(.aload_n 0, (0, 0, 0, 0, 0)), (.getfield 53, (1, 0, 8, 0, 0)), (.iload_n 1, (0, 0, 0, 0, 0)), (.invokevirtual 140, (0, 0, 0, 0, 0)), (.ifCond .eq 15, (0, 23, 0, 0, 0)), (.aload_n 0, (0, 0, 0, 0, 0)), (.getfield 53, (1, 0, 8, 0, 0)), (.getfield 144, (2, 0, 0, 0, 0)), (.iload_n 1, (0, 0, 0, 0, 0)), (.iaload, (2, 0, 0, 0, 0)), (.goto 4, (0, 24, 0, 0, 0)), (.iconst (-1), (0, 0, 0, (-1), 0)), (.ireturn, (0, 0, 0, 0, 0))]
theorem jc_Dk_first : wq_c b_Dk_first 2 j_Dk_first 0 = true := by decide +kernel
def j_Dk_last : wq_J := [(.aload_n 0, (0, 0, 0, 0, 0)), (.getfield 53, (1, 0, 8, 0, 0)), (.iload_n 1, (0, 0, 0, 0, 0)), (.invokevirtual 140, (0, 0, 0, 0, 0)), (.ifCond .eq 15, (0, 23, 0, 0, 0)), (.aload_n 0, (0, 0, 0, 0, 0)), (.getfield 53, (1, 0, 8, 0, 0)), (.getfield 148, (2, 0, 0, 0, 0)), (.iload_n 1, (0, 0, 0, 0, 0)), (.iaload, (2, 0, 0, 0, 0)), (.goto 4, (0, 24, 0, 0, 0)), (.iconst (-1), (0, 0, 0, (-1), 0)), (.ireturn, (0, 0, 0, 0, 0))]
theorem jc_Dk_last : wq_c b_Dk_last 2 j_Dk_last 0 = true := by decide +kernel
def j_Dk_score : wq_J := [(.iload_n 1, (0, 0, 0, 0, 0)), (.ifCond .lt 20, (0, 21, 0, 0, 0)), (.iload_n 1, (0, 0, 0, 0, 0)), (.aload_n 0, (0, 0, 0, 0, 0)), (.getfield 86, (1, 0, 1, 0, 0)), (.if_icmp .ge 12, (0, 21, 0, 0, 0)), (.aload_n 0, (0, 0, 0, 0, 0)), (.getfield 11, (1, 0, 0, 0, 0)), (.iload_n 1, (0, 0, 0, 0, 0)), (.aaload, (0, 0, 0, 0, 0)), (.ifnonnull 5, (0, 23, 0, 0, 0)), (.iconst (-1), (0, 0, 0, (-1), 0)), (.ireturn, (0, 0, 0, 0, 0)), (.aload_n 0, (0, 0, 0, 0, 0)), (.aload_n 0, (0, 0, 0, 0, 0)), (.getfield 11, (1, 0, 0, 0, 0)), (.iload_n 1, (0, 0, 0, 0, 0)), (.aaload, (0, 0, 0, 0, 0)), (.invokevirtual 151, (0, 0, 0, 0, 0)), (.ireturn, (0, 0, 0, 0, 0))]
theorem jc_Dk_score : wq_c b_Dk_score 2 j_Dk_score 0 = true := by decide +kernel
def j_Dk_formed : wq_J := [(.iload_n 1, (0, 0, 0, 0, 0)), (.tableswitch 172 0 7 #[47, 62, 77, 77, 92, 92, 117, 159], (0, 47, 0, 0, 0)), (.aload_n 0, (0, 0, 0, 0, 0)), (.getfield 25, (1, 0, 3, 0, 0)), (.aload_n 0, (0, 0, 0, 0, 0)), (.getfield 18, (1, 0, 2, 0, 0)), (.getstatic 154, (2, 0, 0, 0, 0)), (.invokevirtual 160, (0, 0, 0, 0, 0)), (.ireturn, (0, 0, 0, 0, 0)), (.aload_n 0, (0, 0, 0, 0, 0)), (.getfield 32, (1, 0, 4, 0, 0)), (.aload_n 0, (0, 0, 0, 0, 0)), (.getfield 18, (1, 0, 2, 0, 0)), (.getstatic 164, (2, 0, 0, 0, 0)), (.invokevirtual 170, (0, 0, 0, 0, 0)), (.ireturn, (0, 0, 0, 0, 0)), (.aload_n 0, (0, 0, 0, 0, 0)), (.getfield 39, (1, 0, 5, 0, 0)), (.aload_n 0, (0, 0, 0, 0, 0)), (.getfield 18, (1, 0, 2, 0, 0)), (.iload_n 1, (0, 0, 0, 0, 0)), (.ldc 173, (2, 0, 0, 0, 0)), (.invokevirtual 175, (0, 0, 0, 0, 0)), (.ireturn, (0, 0, 0, 0, 0)), (.aload_n 0, (0, 0, 0, 0, 0)), (.getfield 66, (1, 0, 6, 0, 0)), (.aload_n 0, (0, 0, 0, 0, 0)), (.getfield 18, (1, 0, 2, 0, 0)), (.iload_n 1, (0, 0, 0, 0, 0)), (.invokevirtual 179, (0, 0, 0, 0, 0)), (.ldc2_w 183, (1, 0, 0, 0, (-1))), (.lcmp, (0, 0, 0, 0, 0)), (.ifCond .eq 7, (0, 116, 0, 0, 0)), (.iconst 1, (0, 0, 0, 1, 0)), (.goto 4, (0, 117, 0, 0, 0)), (.iconst 0, (0, 0, 0, 0, 0)), (.ireturn, (0, 0, 0, 0, 0)), (.aload_n 0, (0, 0, 0, 0, 0)), (.getfield 39, (1, 0, 5, 0, 0)), (.aload_n 0, (0, 0, 0, 0, 0)), (.getfield 18, (1, 0, 2, 0, 0)), (.iload_n 1, (0, 0, 0, 0, 0)), (.ldc 173, (2, 0, 0, 0, 0)), (.invokevirtual 185, (0, 0, 0, 0, 0)), (.ifCond .ne 22, (0, 154, 0, 0, 0)), (.aload_n 0, (0, 0, 0, 0, 0)), (.getfield 66, (1, 0, 6, 0, 0)), (.aload_n 0, (0, 0, 0, 0, 0)), (.getfield 18, (1, 0, 2, 0, 0)), (.iload_n 1, (0, 0, 0, 0, 0)), (.invokevirtual 179, (0, 0, 0, 0, 0)), (.ldc2_w 183, (1, 0, 0, 0, (-1))), (.lcmp, (0, 0, 0, 0, 0)), (.ifCond .eq 7, (0, 158, 0, 0, 0)), (.iconst 1, (0, 0, 0, 1, 0)), (.goto 4, (0, 159, 0, 0, 0)), (.iconst 0, (0, 0, 0, 0, 0)), (.ireturn, (0, 0, 0, 0, 0)), (.aload_n 0, (0, 0, 0, 0, 0)), (.getfield 46, (1, 0, 7, 0, 0)), (.aload_n 0, (0, 0, 0, 0, 0)), (.getfield 18, (1, 0, 2, 0, 0)), (.iconst 0, (0, 0, 0, 0, 0)), (.invokevirtual 188, (0, 0, 0, 0, 0)), (.ireturn, (0, 0, 0, 0, 0)), (.iconst 0, (0, 0, 0, 0, 0)), (.ireturn, (0, 0, 0, 0, 0))]
theorem jc_Dk_formed : wq_c b_Dk_formed 2 j_Dk_formed 0 = true := by decide +kernel
def j_Dk_date : wq_J := [(.iload_n 1, (0, 0, 0, 0, 0)), (.iconst 4, (0, 0, 0, 4, 0)), (.if_icmp .lt 24, (0, 26, 0, 0, 0)), (.iload_n 1, (0, 0, 0, 0, 0)), (.bipush 6, (0, 0, 0, 6, 0)), (.if_icmp .gt 18, (0, 26, 0, 0, 0)), (.aload_n 0, (0, 0, 0, 0, 0)), (.getfield 66, (1, 0, 6, 0, 0)), (.aload_n 0, (0, 0, 0, 0, 0)), (.getfield 18, (1, 0, 2, 0, 0)), (.iload_n 1, (0, 0, 0, 0, 0)), (.invokevirtual 179, (0, 0, 0, 0, 0)), (.goto 6, (0, 29, 0, 0, 0)), (.ldc2_w 183, (1, 0, 0, 0, (-1))), (.lreturn, (0, 0, 0, 0, 0))]
theorem jc_Dk_date : wq_c b_Dk_date 2 j_Dk_date 0 = true := by decide +kernel
def j_Dk_isWithin : wq_J := [(.lload_n 0, (0, 0, 0, 0, 0)), (.lconst 0, (0, 0, 0, 0, 0)), (.lcmp, (0, 0, 0, 0, 0)), (.ifCond .lt 13, (0, 16, 0, 0, 0)), (.lload_n 0, (0, 0, 0, 0, 0)), (.lload_n 2, (0, 0, 0, 0, 0)), (.lcmp, (0, 0, 0, 0, 0)), (.ifCond .gt 7, (0, 16, 0, 0, 0)), (.iconst 1, (0, 0, 0, 1, 0)), (.goto 4, (0, 17, 0, 0, 0)), (.iconst 0, (0, 0, 0, 0, 0)), (.ireturn, (0, 0, 0, 0, 0))]
theorem jc_Dk_isWithin : wq_c b_Dk_isWithin 4 j_Dk_isWithin 0 = true := by decide +kernel
def j_Dk_codeWithoutChoice : wq_J := [(.aload_n 0, (0, 0, 0, 0, 0)), (.getfield 18, (1, 0, 2, 0, 0)), (.getfield 113, (2, 0, 0, 0, 0)), (.ifCond .eq 29, (0, 36, 0, 0, 0)), (.aload_n 0, (0, 0, 0, 0, 0)), (.getfield 18, (1, 0, 2, 0, 0)), (.getfield 113, (2, 0, 0, 0, 0)), (.iconst 1, (0, 0, 0, 1, 0)), (.if_icmp .eq 18, (0, 36, 0, 0, 0)), (.aload_n 0, (0, 0, 0, 0, 0)), (.getfield 18, (1, 0, 2, 0, 0)), (.getfield 113, (2, 0, 0, 0, 0)), (.iconst 2, (0, 0, 0, 2, 0)), (.if_icmp .eq 7, (0, 36, 0, 0, 0)), (.sipush 501, (0, 0, 0, 501, 0)), (.ireturn, (0, 0, 0, 0, 0)), (.aload_n 0, (0, 0, 0, 0, 0)), (.getfield 86, (1, 0, 1, 0, 0)), (.ifCond .ne 7, (0, 47, 0, 0, 0)), (.sipush 404, (0, 0, 0, 404, 0)), (.ireturn, (0, 0, 0, 0, 0)), (.aload_n 0, (0, 0, 0, 0, 0)), (.getfield 18, (1, 0, 2, 0, 0)), (.getfield 113, (2, 0, 0, 0, 0)), (.iconst 2, (0, 0, 0, 2, 0)), (.if_icmp .ne 9, (0, 64, 0, 0, 0)), (.sipush 204, (0, 0, 0, 204, 0)), (.goto 6, (0, 67, 0, 0, 0)), (.sipush 200, (0, 0, 0, 200, 0)), (.ireturn, (0, 0, 0, 0, 0))]
theorem jc_Dk_codeWithoutChoice : wq_c b_Dk_codeWithoutChoice 1 j_Dk_codeWithoutChoice 0 = true := by decide +kernel
def j_Dk_choose : wq_J := [(.aconst_null, (0, 0, 0, 0, 0)), (.astore_n 1, (0, 0, 0, 0, 0)), (.iconst 0, (0, 0, 0, 0, 0)), (.istore_n 2, (0, 0, 0, 0, 0)), (.iconst 0, (0, 0, 0, 0, 0)), (.istore_n 3, (0, 0, 0, 0, 0)), (.iload_n 3, (0, 0, 0, 0, 0)), (.aload_n 0, (0, 0, 0, 0, 0)), (.getfield 86, (1, 0, 1, 0, 0)), (.if_icmp .ge 46, (0, 57, 0, 0, 0)), (.aload_n 0, (0, 0, 0, 0, 0)), (.getfield 11, (1, 0, 0, 0, 0)), (.iload_n 3, (0, 0, 0, 0, 0)), (.aaload, (0, 0, 0, 0, 0)), (.astore 4, (0, 0, 0, 0, 0)), (.aload 4, (0, 0, 0, 0, 0)), (.ifnonnull 7, (0, 31, 0, 0, 0)), (.iconst 0, (0, 0, 0, 0, 0)), (.goto 9, (0, 37, 0, 0, 0)), (.aload_n 0, (0, 0, 0, 0, 0)), (.aload 4, (0, 0, 0, 0, 0)), (.invokevirtual 151, (0, 0, 0, 0, 0)), (.istore 5, (0, 0, 0, 0, 0)), (.iload 5, (0, 0, 0, 0, 0)), (.iload_n 2, (0, 0, 0, 0, 0)), (.if_icmp .le 9, (0, 51, 0, 0, 0)), (.aload 4, (0, 0, 0, 0, 0)), (.astore_n 1, (0, 0, 0, 0, 0)), (.iload 5, (0, 0, 0, 0, 0)), (.istore_n 2, (0, 0, 0, 0, 0)), (.iinc 3 1, (0, 0, 0, 1, 0)), (.goto (-48), (0, 6, 0, 0, 0)), (.aload_n 1, (0, 0, 0, 0, 0)), (.areturn, (0, 0, 0, 0, 0))]
theorem jc_Dk_choose : wq_c b_Dk_choose 6 j_Dk_choose 0 = true := by decide +kernel
def j_Dk_scoreOf : wq_J := [(.aload_n 0, (0, 0, 0, 0, 0)), (.getfield 25, (1, 0, 3, 0, 0)), (.aload_n 0, (0, 0, 0, 0, 0)), (.getfield 18, (1, 0, 2, 0, 0)), (.aload_n 1, (0, 0, 0, 0, 0)), (.getfield 191, (2, 0, 0, 0, 0)), (.invokevirtual 160, (0, 0, 0, 0, 0)), (.ifCond .eq 13, (0, 28, 0, 0, 0)), (.aload_n 0, (0, 0, 0, 0, 0)), (.getfield 25, (1, 0, 3, 0, 0)), (.getfield 194, (2, 0, 0, 0, 0)), (.goto 6, (0, 31, 0, 0, 0)), (.sipush 1000, (0, 0, 0, 1000, 0)), (.istore_n 2, (0, 0, 0, 0, 0)), (.aload_n 1, (0, 0, 0, 0, 0)), (.getfield 197, (2, 0, 0, 0, 0)), (.getstatic 200, (2, 0, 0, 0, 0)), (.if_acmp .eq 25, (0, 64, 0, 0, 0)), (.aload_n 0, (0, 0, 0, 0, 0)), (.getfield 32, (1, 0, 4, 0, 0)), (.aload_n 0, (0, 0, 0, 0, 0)), (.getfield 18, (1, 0, 2, 0, 0)), (.aload_n 1, (0, 0, 0, 0, 0)), (.getfield 197, (2, 0, 0, 0, 0)), (.invokevirtual 170, (0, 0, 0, 0, 0)), (.ifCond .eq 7, (0, 64, 0, 0, 0)), (.iconst 1, (0, 0, 0, 1, 0)), (.goto 4, (0, 65, 0, 0, 0)), (.iconst 0, (0, 0, 0, 0, 0)), (.istore_n 3, (0, 0, 0, 0, 0)), (.iload_n 2, (0, 0, 0, 0, 0)), (.iload_n 3, (0, 0, 0, 0, 0)), (.ifCond .eq 13, (0, 81, 0, 0, 0)), (.aload_n 0, (0, 0, 0, 0, 0)), (.getfield 32, (1, 0, 4, 0, 0)), (.getfield 203, (2, 0, 0, 0, 0)), (.goto 6, (0, 84, 0, 0, 0)), (.sipush 1000, (0, 0, 0, 1000, 0)), (.imul, (0, 0, 0, 0, 0)), (.ireturn, (0, 0, 0, 0, 0))]
theorem jc_Dk_scoreOf : wq_c b_Dk_scoreOf 4 j_Dk_scoreOf 0 = true := by decide +kernel
def j_Dk_codeFor : wq_J := [(.aload_n 0, (0, 0, 0, 0, 0)), (.aload_n 1, (0, 0, 0, 0, 0)), (.invokevirtual 204, (0, 0, 0, 0, 0)), (.ifCond .eq 7, (0, 12, 0, 0, 0)), (.sipush 412, (0, 0, 0, 412, 0)), (.ireturn, (0, 0, 0, 0, 0)), (.aload_n 0, (0, 0, 0, 0, 0)), (.aload_n 1, (0, 0, 0, 0, 0)), (.invokevirtual 208, (0, 0, 0, 0, 0)), (.ifCond .eq 7, (0, 24, 0, 0, 0)), (.sipush 304, (0, 0, 0, 304, 0)), (.ireturn, (0, 0, 0, 0, 0)), (.aload_n 0, (0, 0, 0, 0, 0)), (.getfield 18, (1, 0, 2, 0, 0)), (.getfield 113, (2, 0, 0, 0, 0)), (.ifCond .ne 29, (0, 60, 0, 0, 0)), (.aload_n 0, (0, 0, 0, 0, 0)), (.getfield 46, (1, 0, 7, 0, 0)), (.aload_n 0, (0, 0, 0, 0, 0)), (.getfield 18, (1, 0, 2, 0, 0)), (.aload_n 1, (0, 0, 0, 0, 0)), (.getfield 211, (2, 0, 0, 0, 0)), (.invokevirtual 188, (0, 0, 0, 0, 0)), (.ifCond .eq 11, (0, 60, 0, 0, 0)), (.aload_n 0, (0, 0, 0, 0, 0)), (.aload_n 1, (0, 0, 0, 0, 0)), (.invokevirtual 214, (0, 0, 0, 0, 0)), (.ifCond .ne 7, (0, 64, 0, 0, 0)), (.sipush 200, (0, 0, 0, 200, 0)), (.ireturn, (0, 0, 0, 0, 0)), (.aload_n 0, (0, 0, 0, 0, 0)), (.getfield 46, (1, 0, 7, 0, 0)), (.getfield 217, (2, 0, 0, 0, 0)), (.iconst 4, (0, 0, 0, 4, 0)), (.if_icmp .gt 13, (0, 85, 0, 0, 0)), (.aload_n 0, (0, 0, 0, 0, 0)), (.getfield 46, (1, 0, 7, 0, 0)), (.invokevirtual 220, (0, 0, 0, 0, 0)), (.ifCond .eq 7, (0, 89, 0, 0, 0)), (.sipush 200, (0, 0, 0, 200, 0)), (.ireturn, (0, 0, 0, 0, 0)), (.aload_n 0, (0, 0, 0, 0, 0)), (.getfield 46, (1, 0, 7, 0, 0)), (.getfield 224, (2, 0, 0, 0, 0)), (.ifCond .ne 9, (0, 105, 0, 0, 0)), (.sipush 416, (0, 0, 0, 416, 0)), (.goto 6, (0, 108, 0, 0, 0)), (.sipush 206, (0, 0, 0, 206, 0)), (.ireturn, (0, 0, 0, 0, 0))]
theorem jc_Dk_codeFor : wq_c b_Dk_codeFor 2 j_Dk_codeFor 0 = true := by decide +kernel
def j_Dk_isRefused : wq_J := [(.aload_n 0, (0, 0, 0, 0, 0)), (.getfield 18, (1, 0, 2, 0, 0)), (.iconst 2, (0, 0, 0, 2, 0)), (.invokevirtual 227, (0, 0, 0, 0, 0)), (.ifCond .eq 57, (0, 65, 0, 0, 0)), (.aload_n 0, (0, 0, 0, 0, 0)), (.getfield 39, (1, 0, 5, 0, 0)), (.aload_n 0, (0, 0, 0, 0, 0)), (.getfield 18, (1, 0, 2, 0, 0)), (.iconst 2, (0, 0, 0, 2, 0)), (.aload_n 1, (0, 0, 0, 0, 0)), (.getfield 230, (2, 0, 0, 0, 0)), (.invokevirtual 175, (0, 0, 0, 0, 0)), (.istore_n 2, (0, 0, 0, 0, 0)), (.iload_n 2, (0, 0, 0, 0, 0)), (.ifCond .eq 30, (0, 59, 0, 0, 0)), (.aload_n 0, (0, 0, 0, 0, 0)), (.getfield 39, (1, 0, 5, 0, 0)), (.getfield 234, (2, 0, 0, 0, 0)), (.ifCond .ne 24, (0, 63, 0, 0, 0)), (.aload_n 0, (0, 0, 0, 0, 0)), (.getfield 39, (1, 0, 5, 0, 0)), (.getfield 238, (2, 0, 0, 0, 0)), (.ifCond .eq 10, (0, 59, 0, 0, 0)), (.aload_n 1, (0, 0, 0, 0, 0)), (.getfield 241, (2, 0, 0, 0, 0)), (.ifCond .eq 7, (0, 63, 0, 0, 0)), (.iconst 1, (0, 0, 0, 1, 0)), (.goto 4, (0, 64, 0, 0, 0)), (.iconst 0, (0, 0, 0, 0, 0)), (.ireturn, (0, 0, 0, 0, 0)), (.aload_n 0, (0, 0, 0, 0, 0)), (.getfield 66, (1, 0, 6, 0, 0)), (.aload_n 0, (0, 0, 0, 0, 0)), (.getfield 18, (1, 0, 2, 0, 0)), (.iconst 5, (0, 0, 0, 5, 0)), (.invokevirtual 179, (0, 0, 0, 0, 0)), (.lstore_n 2, (0, 0, 0, 0, 0)), (.lload_n 2, (0, 0, 0, 0, 0)), (.ldc2_w 183, (1, 0, 0, 0, (-1))), (.lcmp, (0, 0, 0, 0, 0)), (.ifCond .eq 16, (0, 99, 0, 0, 0)), (.lload_n 2, (0, 0, 0, 0, 0)), (.aload_n 1, (0, 0, 0, 0, 0)), (.getfield 244, (2, 0, 0, 0, 0)), (.lcmp, (0, 0, 0, 0, 0)), (.ifCond .ge 7, (0, 99, 0, 0, 0)), (.iconst 1, (0, 0, 0, 1, 0)), (.goto 4, (0, 100, 0, 0, 0)), (.iconst 0, (0, 0, 0, 0, 0)), (.ireturn, (0, 0, 0, 0, 0))]
theorem jc_Dk_isRefused : wq_c b_Dk_isRefused 4 j_Dk_isRefused 0 = true := by decide +kernel
def j_Dk_isUnchanged : wq_J := [(.aload_n 0, (0, 0, 0, 0, 0)), (.getfield 18, (1, 0, 2, 0, 0)), (.iconst 3, (0, 0, 0, 3, 0)), (.invokevirtual 227, (0, 0, 0, 0, 0)), (.ifCond .eq 48, (0, 56, 0, 0, 0)), (.aload_n 0, (0, 0, 0, 0, 0)), (.getfield 39, (1, 0, 5, 0, 0)), (.aload_n 0, (0, 0, 0, 0, 0)), (.getfield 18, (1, 0, 2, 0, 0)), (.iconst 3, (0, 0, 0, 3, 0)), (.aload_n 1, (0, 0, 0, 0, 0)), (.getfield 230, (2, 0, 0, 0, 0)), (.invokevirtual 175, (0, 0, 0, 0, 0)), (.ifCond .eq 27, (0, 54, 0, 0, 0)), (.aload_n 0, (0, 0, 0, 0, 0)), (.getfield 39, (1, 0, 5, 0, 0)), (.getfield 234, (2, 0, 0, 0, 0)), (.ifCond .ne 13, (0, 50, 0, 0, 0)), (.aload_n 0, (0, 0, 0, 0, 0)), (.getfield 39, (1, 0, 5, 0, 0)), (.getfield 248, (2, 0, 0, 0, 0)), (.ifCond .eq 7, (0, 54, 0, 0, 0)), (.iconst 1, (0, 0, 0, 1, 0)), (.goto 4, (0, 55, 0, 0, 0)), (.iconst 0, (0, 0, 0, 0, 0)), (.ireturn, (0, 0, 0, 0, 0)), (.aload_n 0, (0, 0, 0, 0, 0)), (.getfield 66, (1, 0, 6, 0, 0)), (.aload_n 0, (0, 0, 0, 0, 0)), (.getfield 18, (1, 0, 2, 0, 0)), (.iconst 4, (0, 0, 0, 4, 0)), (.invokevirtual 179, (0, 0, 0, 0, 0)), (.lstore_n 2, (0, 0, 0, 0, 0)), (.lload_n 2, (0, 0, 0, 0, 0)), (.ldc2_w 183, (1, 0, 0, 0, (-1))), (.lcmp, (0, 0, 0, 0, 0)), (.ifCond .eq 16, (0, 90, 0, 0, 0)), (.lload_n 2, (0, 0, 0, 0, 0)), (.aload_n 1, (0, 0, 0, 0, 0)), (.getfield 244, (2, 0, 0, 0, 0)), (.lcmp, (0, 0, 0, 0, 0)), (.ifCond .lt 7, (0, 90, 0, 0, 0)), (.iconst 1, (0, 0, 0, 1, 0)), (.goto 4, (0, 91, 0, 0, 0)), (.iconst 0, (0, 0, 0, 0, 0)), (.ireturn, (0, 0, 0, 0, 0))]
theorem jc_Dk_isUnchanged : wq_c b_Dk_isUnchanged 4 j_Dk_isUnchanged 0 = true := by decide +kernel
def j_Dk_isRangeWanted : wq_J := [(.aload_n 0, (0, 0, 0, 0, 0)), (.getfield 18, (1, 0, 2, 0, 0)), (.bipush 6, (0, 0, 0, 6, 0)), (.invokevirtual 227, (0, 0, 0, 0, 0)), (.ifCond .ne 5, (0, 14, 0, 0, 0)), (.iconst 1, (0, 0, 0, 1, 0)), (.ireturn, (0, 0, 0, 0, 0)), (.aload_n 0, (0, 0, 0, 0, 0)), (.getfield 39, (1, 0, 5, 0, 0)), (.aload_n 0, (0, 0, 0, 0, 0)), (.getfield 18, (1, 0, 2, 0, 0)), (.bipush 6, (0, 0, 0, 6, 0)), (.aload_n 1, (0, 0, 0, 0, 0)), (.getfield 230, (2, 0, 0, 0, 0)), (.invokevirtual 185, (0, 0, 0, 0, 0)), (.ifCond .eq 26, (0, 57, 0, 0, 0)), (.aload_n 0, (0, 0, 0, 0, 0)), (.getfield 39, (1, 0, 5, 0, 0)), (.getfield 238, (2, 0, 0, 0, 0)), (.ifCond .eq 14, (0, 55, 0, 0, 0)), (.aload_n 1, (0, 0, 0, 0, 0)), (.getfield 241, (2, 0, 0, 0, 0)), (.ifCond .ne 7, (0, 55, 0, 0, 0)), (.iconst 1, (0, 0, 0, 1, 0)), (.goto 4, (0, 56, 0, 0, 0)), (.iconst 0, (0, 0, 0, 0, 0)), (.ireturn, (0, 0, 0, 0, 0)), (.aload_n 0, (0, 0, 0, 0, 0)), (.getfield 66, (1, 0, 6, 0, 0)), (.aload_n 0, (0, 0, 0, 0, 0)), (.getfield 18, (1, 0, 2, 0, 0)), (.bipush 6, (0, 0, 0, 6, 0)), (.invokevirtual 179, (0, 0, 0, 0, 0)), (.aload_n 1, (0, 0, 0, 0, 0)), (.getfield 244, (2, 0, 0, 0, 0)), (.lcmp, (0, 0, 0, 0, 0)), (.ifCond .ne 7, (0, 82, 0, 0, 0)), (.iconst 1, (0, 0, 0, 1, 0)), (.goto 4, (0, 83, 0, 0, 0)), (.iconst 0, (0, 0, 0, 0, 0)), (.ireturn, (0, 0, 0, 0, 0))]
theorem jc_Dk_isRangeWanted : wq_c b_Dk_isRangeWanted 2 j_Dk_isRangeWanted 0 = true := by decide +kernel
def j_Mo_init : wq_J := [(.aload_n 0, (0, 0, 0, 0, 0)), (.invokespecial 1, (0, 0, 0, 0, 0)), (.aload_n 0, (0, 0, 0, 0, 0)), (.iconst 4, (0, 0, 0, 4, 0)), (.newarray .int, (0, 0, 0, 0, 0)), (.putfield 7, (3, 0, 2, 0, 0)), (.aload_n 0, (0, 0, 0, 0, 0)), (.iconst 4, (0, 0, 0, 4, 0)), (.newarray .int, (0, 0, 0, 0, 0)), (.putfield 13, (3, 0, 3, 0, 0)), (.aload_n 0, (0, 0, 0, 0, 0)), (.iconst 4, (0, 0, 0, 4, 0)), (.newarray .int, (0, 0, 0, 0, 0)), (.putfield 16, (3, 0, 4, 0, 0)), (.aload_n 0, (0, 0, 0, 0, 0)), (.iconst 4, (0, 0, 0, 4, 0)), (.newarray .int, (0, 0, 0, 0, 0)), (.putfield 19, (3, 0, 5, 0, 0)), (.aload_n 0, (0, 0, 0, 0, 0)), (.iconst 4, (0, 0, 0, 4, 0)), (.newarray .boolean, (0, 0, 0, 0, 0)), (.putfield 22, (3, 0, 6, 0, 0)), (.aload_n 0, (0, 0, 0, 0, 0)), (.iconst 4, (0, 0, 0, 4, 0)), (.newarray .long, (0, 0, 0, 0, 0)), (.putfield 26, (3, 0, 7, 0, 0)), (.aload_n 0, (0, 0, 0, 0, 0)), (.sipush 768, (0, 0, 0, 768, 0)), (.newarray .int, (0, 0, 0, 0, 0)), (.putfield 30, (3, 0, 9, 0, 0)), (.aload_n 0, (0, 0, 0, 0, 0)), (.bipush 8, (0, 0, 0, 8, 0)), (.newarray .int, (0, 0, 0, 0, 0)), (.putfield 33, (3, 0, 10, 0, 0)), (.aload_n 0, (0, 0, 0, 0, 0)), (.bipush 96, (0, 0, 0, 96, 0)), (.newarray .int, (0, 0, 0, 0, 0)), (.putfield 36, (3, 0, 21, 0, 0)), (.aload_n 0, (0, 0, 0, 0, 0)), (.bipush 96, (0, 0, 0, 96, 0)), (.newarray .int, (0, 0, 0, 0, 0)), (.putfield 39, (3, 0, 22, 0, 0)), (.aload_n 0, (0, 0, 0, 0, 0)), (.iconst (-1), (0, 0, 0, (-1), 0)), (.putfield 42, (1, 0, 23, 0, 0)), (.aload_n 0, (0, 0, 0, 0, 0)), (.iconst (-1), (0, 0, 0, (-1), 0)), (.putfield 46, (1, 0, 24, 0, 0)), (.aload_n 0, (0, 0, 0, 0, 0)), (.iconst 4, (0, 0, 0, 4, 0)), (.newarray .int, (0, 0, 0, 0, 0)), (.putfield 49, (3, 0, 28, 0, 0)), (.aload_n 0, (0, 0, 0, 0, 0)), (.iconst 4, (0, 0, 0, 4, 0)), (.newarray .int, (0, 0, 0, 0, 0)), (.putfield 52, (3, 0, 29, 0, 0)), (.aload_n 0, (0, 0, 0, 0, 0)), (.bipush 15, (0, 0, 0, 15, 0)), (.newarray .long, (0, 0, 0, 0, 0)), (.putfield 55, (3, 0, 30, 0, 0)), (.iload_n 1, (0, 0, 0, 0, 0)), (.i2l, (0, 0, 0, 0, 0)), (.ldc2_w 58, (1, 0, 0, 0, 4294967295)), (.land, (0, 0, 0, 0, 0)), (.lstore_n 2, (0, 0, 0, 0, 0)), (.aload_n 0, (0, 0, 0, 0, 0)), (.lload_n 2, (0, 0, 0, 0, 0)), (.ldc2_w 60, (1, 0, 0, 0, 4102444799)), (.lcmp, (0, 0, 0, 0, 0)), (.ifCond .le 7, (0, 131, 0, 0, 0)), (.lconst 0, (0, 0, 0, 0, 0)), (.goto 4, (0, 132, 0, 0, 0)), (.lload_n 2, (0, 0, 0, 0, 0)), (.putfield 62, (3, 0, 0, 0, 0)), (.aload_n 0, (0, 0, 0, 0, 0)), (.getfield 55, (1, 0, 30, 0, 0)), (.iconst 0, (0, 0, 0, 0, 0)), (.ldc2_w 66, (1, 0, 0, 0, 1954047348)), (.lastore, (1, 13, 0, 0, 0)), (.aload_n 0, (0, 0, 0, 0, 0)), (.getfield 55, (1, 0, 30, 0, 0)), (.iconst 1, (0, 0, 0, 1, 0)), (.ldc2_w 68, (1, 0, 0, 0, 1819112552)), (.lastore, (1, 13, 0, 0, 0)), (.aload_n 0, (0, 0, 0, 0, 0)), (.getfield 55, (1, 0, 30, 0, 0)), (.iconst 2, (0, 0, 0, 2, 0)), (.ldc2_w 70, (1, 0, 0, 0, 474214394992)), (.lastore, (1, 13, 0, 0, 0)), (.aload_n 0, (0, 0, 0, 0, 0)), (.getfield 55, (1, 0, 30, 0, 0)), (.iconst 3, (0, 0, 0, 3, 0)), (.ldc2_w 72, (1, 0, 0, 0, 1852797802)), (.lastore, (1, 13, 0, 0, 0)), (.aload_n 0, (0, 0, 0, 0, 0)), (.getfield 55, (1, 0, 30, 0, 0)), (.iconst 4, (0, 0, 0, 4, 0)), (.ldc2_w 74, (1, 0, 0, 0, 435526135145)), (.lastore, (1, 13, 0, 0, 0)), (.aload_n 0, (0, 0, 0, 0, 0)), (.getfield 55, (1, 0, 30, 0, 0)), (.iconst 5, (0, 0, 0, 5, 0)), (.ldc2_w 76, (1, 0, 0, 0, 6778480)), (.lastore, (1, 13, 0, 0, 0)), (.aload_n 0, (0, 0, 0, 0, 0)), (.getfield 55, (1, 0, 30, 0, 0)), (.bipush 6, (0, 0, 0, 6, 0)), (.ldc2_w 78, (1, 0, 0, 0, 30519660376454771)), (.lastore, (1, 13, 0, 0, 0)), (.aload_n 0, (0, 0, 0, 0, 0)), (.getfield 55, (1, 0, 30, 0, 0)), (.bipush 7, (0, 0, 0, 7, 0)), (.ldc2_w 80, (1, 0, 0, 0, 465558725996)), (.lastore, (1, 13, 0, 0, 0)), (.aload_n 0, (0, 0, 0, 0, 0)), (.getfield 55, (1, 0, 30, 0, 0)), (.bipush 8, (0, 0, 0, 8, 0)), (.ldc2_w 82, (1, 0, 0, 0, 8386093285582598241)), (.lastore, (1, 13, 0, 0, 0)), (.aload_n 0, (0, 0, 0, 0, 0)), (.getfield 55, (1, 0, 30, 0, 0)), (.bipush 9, (0, 0, 0, 9, 0)), (.ldc2_w 84, (1, 0, 0, 0, 7237481)), (.lastore, (1, 13, 0, 0, 0)), (.aload_n 0, (0, 0, 0, 0, 0)), (.getfield 55, (1, 0, 30, 0, 0)), (.bipush 10, (0, 0, 0, 10, 0)), (.ldc2_w 86, (1, 0, 0, 0, 28261)), (.lastore, (1, 13, 0, 0, 0)), (.aload_n 0, (0, 0, 0, 0, 0)), (.getfield 55, (1, 0, 30, 0, 0)), (.bipush 11, (0, 0, 0, 11, 0)), (.ldc2_w 88, (1, 0, 0, 0, 495887150693)), (.lastore, (1, 13, 0, 0, 0)), (.aload_n 0, (0, 0, 0, 0, 0)), (.getfield 55, (1, 0, 30, 0, 0)), (.bipush 12, (0, 0, 0, 12, 0)), (.ldc2_w 90, (1, 0, 0, 0, 25956)), (.lastore, (1, 13, 0, 0, 0)), (.aload_n 0, (0, 0, 0, 0, 0)), (.getfield 55, (1, 0, 30, 0, 0)), (.bipush 13, (0, 0, 0, 13, 0)), (.ldc2_w 92, (1, 0, 0, 0, 499846571364)), (.lastore, (1, 13, 0, 0, 0)), (.aload_n 0, (0, 0, 0, 0, 0)), (.getfield 55, (1, 0, 30, 0, 0)), (.bipush 14, (0, 0, 0, 14, 0)), (.ldc2_w 94, (1, 0, 0, 0, 29286)), (.lastore, (1, 13, 0, 0, 0)), (.return_, (0, 0, 0, 0, 0))]
theorem jc_Mo_init : wq_c b_Mo_init 4 j_Mo_init 0 = true := by decide +kernel
def j_Mo_add : wq_J := [(.iload_n 1, (0, 0, 0, 0, 0)), (.ifCond .lt 60, (0, 61, 0, 0, 0)), (.iload_n 1, (0, 0, 0, 0, 0)), (.iconst 5, (0, 0, 0, 5, 0)), (.if_icmp .gt 55, (0, 61, 0, 0, 0)), (.iload_n 2, (0, 0, 0, 0, 0)), (.ifCond .lt 51, (0, 61, 0, 0, 0)), (.iload_n 2, (0, 0, 0, 0, 0)), (.iconst 5, (0, 0, 0, 5, 0)), (.if_icmp .gt 46, (0, 61, 0, 0, 0)), (.iload_n 3, (0, 0, 0, 0, 0)), (.ifCond .lt 42, (0, 61, 0, 0, 0)), (.iload_n 3, (0, 0, 0, 0, 0)), (.ldc 96, (1, 0, 0, 100000, 0)), (.if_icmp .gt 36, (0, 61, 0, 0, 0)), (.iload 4, (0, 0, 0, 0, 0)), (.ifCond .lt 31, (0, 61, 0, 0, 0)), (.iload 4, (0, 0, 0, 0, 0)), (.sipush 9999, (0, 0, 0, 9999, 0)), (.if_icmp .gt 23, (0, 61, 0, 0, 0)), (.lload 6, (0, 0, 0, 0, 0)), (.lconst 0, (0, 0, 0, 0, 0)), (.lcmp, (0, 0, 0, 0, 0)), (.ifCond .lt 16, (0, 61, 0, 0, 0)), (.lload 6, (0, 0, 0, 0, 0)), (.ldc2_w 60, (1, 0, 0, 0, 4102444799)), (.lcmp, (0, 0, 0, 0, 0)), (.ifCond .gt 7, (0, 61, 0, 0, 0)), (.iconst 1, (0, 0, 0, 1, 0)), (.goto 4, (0, 62, 0, 0, 0)), (.iconst 0, (0, 0, 0, 0, 0)), (.istore 8, (0, 0, 0, 0, 0)), (.iload 8, (0, 0, 0, 0, 0)), (.ifCond .eq 11, (0, 77, 0, 0, 0)), (.aload_n 0, (0, 0, 0, 0, 0)), (.getfield 97, (1, 0, 1, 0, 0)), (.iconst 4, (0, 0, 0, 4, 0)), (.if_icmp .ne 5, (0, 79, 0, 0, 0)), (.iconst (-1), (0, 0, 0, (-1), 0)), (.ireturn, (0, 0, 0, 0, 0)), (.aload_n 0, (0, 0, 0, 0, 0)), (.getfield 7, (1, 0, 2, 0, 0)), (.aload_n 0, (0, 0, 0, 0, 0)), (.getfield 97, (1, 0, 1, 0, 0)), (.iload_n 1, (0, 0, 0, 0, 0)), (.iastore, (1, 1, 0, 0, 0)), (.aload_n 0, (0, 0, 0, 0, 0)), (.getfield 13, (1, 0, 3, 0, 0)), (.aload_n 0, (0, 0, 0, 0, 0)), (.getfield 97, (1, 0, 1, 0, 0)), (.iload_n 2, (0, 0, 0, 0, 0)), (.iastore, (1, 2, 0, 0, 0)), (.aload_n 0, (0, 0, 0, 0, 0)), (.getfield 16, (1, 0, 4, 0, 0)), (.aload_n 0, (0, 0, 0, 0, 0)), (.getfield 97, (1, 0, 1, 0, 0)), (.iload_n 3, (0, 0, 0, 0, 0)), (.iastore, (1, 3, 0, 0, 0)), (.aload_n 0, (0, 0, 0, 0, 0)), (.getfield 19, (1, 0, 5, 0, 0)), (.aload_n 0, (0, 0, 0, 0, 0)), (.getfield 97, (1, 0, 1, 0, 0)), (.iload 4, (0, 0, 0, 0, 0)), (.iastore, (1, 4, 0, 0, 0)), (.aload_n 0, (0, 0, 0, 0, 0)), (.getfield 22, (1, 0, 6, 0, 0)), (.aload_n 0, (0, 0, 0, 0, 0)), (.getfield 97, (1, 0, 1, 0, 0)), (.iload 5, (0, 0, 0, 0, 0)), (.bastore, (4, 5, 0, 0, 0)), (.aload_n 0, (0, 0, 0, 0, 0)), (.getfield 26, (1, 0, 7, 0, 0)), (.aload_n 0, (0, 0, 0, 0, 0)), (.getfield 97, (1, 0, 1, 0, 0)), (.lload 6, (0, 0, 0, 0, 0)), (.lastore, (1, 6, 0, 0, 0)), (.aload_n 0, (0, 0, 0, 0, 0)), (.dup, (0, 0, 0, 0, 0)), (.getfield 97, (1, 0, 1, 0, 0)), (.iconst 1, (0, 0, 0, 1, 0)), (.iadd, (0, 0, 0, 0, 0)), (.putfield 97, (1, 0, 1, 0, 0)), (.aload_n 0, (0, 0, 0, 0, 0)), (.getfield 97, (1, 0, 1, 0, 0)), (.iconst 1, (0, 0, 0, 1, 0)), (.isub, (0, 0, 0, 0, 0)), (.ireturn, (0, 0, 0, 0, 0))]
theorem jc_Mo_add : wq_c b_Mo_add 9 j_Mo_add 0 = true := by decide +kernel
def j_Mo_clear : wq_J := [(.aload_n 0, (0, 0, 0, 0, 0)), (.iconst 0, (0, 0, 0, 0, 0)), (.putfield 97, (1, 0, 1, 0, 0)), (.return_, (0, 0, 0, 0, 0))]
theorem jc_Mo_clear : wq_c b_Mo_clear 1 j_Mo_clear 0 = true := by decide +kernel
def j_Mo_request : wq_J := [(.aload_n 0, (0, 0, 0, 0, 0)), (.iload_n 1, (0, 0, 0, 0, 0)), (.putfield 100, (1, 0, 8, 0, 0)), (.iconst 0, (0, 0, 0, 0, 0)), (.istore_n 2, (0, 0, 0, 0, 0)), (.iload_n 2, (0, 0, 0, 0, 0)), (.bipush 8, (0, 0, 0, 8, 0)), (.if_icmp .ge 16, (0, 26, 0, 0, 0)), (.aload_n 0, (0, 0, 0, 0, 0)), (.getfield 33, (1, 0, 10, 0, 0)), (.iload_n 2, (0, 0, 0, 0, 0)), (.iconst 0, (0, 0, 0, 0, 0)), (.iastore, (1, 8, 0, 0, 0)), (.iinc 2 1, (0, 0, 0, 1, 0)), (.goto (-16), (0, 7, 0, 0, 0)), (.return_, (0, 0, 0, 0, 0))]
theorem jc_Mo_request : wq_c b_Mo_request 3 j_Mo_request 0 = true := by decide +kernel
def j_Mo_feed : wq_J := [(.iload_n 1, (0, 0, 0, 0, 0)), (.ifCond .lt 9, (0, 10, 0, 0, 0)), (.iload_n 1, (0, 0, 0, 0, 0)), (.bipush 7, (0, 0, 0, 7, 0)), (.if_icmp .le 5, (0, 12, 0, 0, 0)), (.iconst (-1), (0, 0, 0, (-1), 0)), (.ireturn, (0, 0, 0, 0, 0)), (.iconst 0, (0, 0, 0, 0, 0)), (.istore 4, (0, 0, 0, 0, 0)), (.iload 4, (0, 0, 0, 0, 0)), (.bipush 8, (0, 0, 0, 8, 0)), (.if_icmp .ge 25, (0, 44, 0, 0, 0)), (.lload_n 2, (0, 0, 0, 0, 0)), (.bipush 8, (0, 0, 0, 8, 0)), (.iload 4, (0, 0, 0, 0, 0)), (.imul, (0, 0, 0, 0, 0)), (.lshr, (0, 0, 0, 0, 0)), (.ldc2_w 103, (1, 0, 0, 0, 255)), (.land, (0, 0, 0, 0, 0)), (.lconst 0, (0, 0, 0, 0, 0)), (.lcmp, (0, 0, 0, 0, 0)), (.ifCond .eq 9, (0, 44, 0, 0, 0)), (.iinc 4 1, (0, 0, 0, 1, 0)), (.goto (-26), (0, 15, 0, 0, 0)), (.aload_n 0, (0, 0, 0, 0, 0)), (.getfield 33, (1, 0, 10, 0, 0)), (.iload_n 1, (0, 0, 0, 0, 0)), (.iaload, (1, 8, 0, 0, 0)), (.iload 4, (0, 0, 0, 0, 0)), (.iadd, (0, 0, 0, 0, 0)), (.bipush 96, (0, 0, 0, 96, 0)), (.if_icmp .le 5, (0, 60, 0, 0, 0)), (.iconst (-1), (0, 0, 0, (-1), 0)), (.ireturn, (0, 0, 0, 0, 0)), (.iconst 0, (0, 0, 0, 0, 0)), (.istore 5, (0, 0, 0, 0, 0)), (.iload 5, (0, 0, 0, 0, 0)), (.iload 4, (0, 0, 0, 0, 0)), (.if_icmp .ge 40, (0, 107, 0, 0, 0)), (.aload_n 0, (0, 0, 0, 0, 0)), (.getfield 30, (1, 0, 9, 0, 0)), (.bipush 96, (0, 0, 0, 96, 0)), (.iload_n 1, (0, 0, 0, 0, 0)), (.imul, (0, 0, 0, 0, 0)), (.aload_n 0, (0, 0, 0, 0, 0)), (.getfield 33, (1, 0, 10, 0, 0)), (.iload_n 1, (0, 0, 0, 0, 0)), (.iaload, (1, 8, 0, 0, 0)), (.iadd, (0, 0, 0, 0, 0)), (.iload 5, (0, 0, 0, 0, 0)), (.iadd, (0, 0, 0, 0, 0)), (.lload_n 2, (0, 0, 0, 0, 0)), (.bipush 8, (0, 0, 0, 8, 0)), (.iload 5, (0, 0, 0, 0, 0)), (.imul, (0, 0, 0, 0, 0)), (.lshr, (0, 0, 0, 0, 0)), (.ldc2_w 103, (1, 0, 0, 0, 255)), (.land, (0, 0, 0, 0, 0)), (.l2i, (0, 0, 0, 0, 0)), (.iastore, (1, 7, 0, 0, 0)), (.iinc 5 1, (0, 0, 0, 1, 0)), (.goto (-41), (0, 63, 0, 0, 0)), (.aload_n 0, (0, 0, 0, 0, 0)), (.getfield 33, (1, 0, 10, 0, 0)), (.iload_n 1, (0, 0, 0, 0, 0)), (.dup2, (0, 0, 0, 0, 0)), (.iaload, (1, 8, 0, 0, 0)), (.iload 4, (0, 0, 0, 0, 0)), (.iadd, (0, 0, 0, 0, 0)), (.iastore, (1, 8, 0, 0, 0)), (.aload_n 0, (0, 0, 0, 0, 0)), (.getfield 33, (1, 0, 10, 0, 0)), (.iload_n 1, (0, 0, 0, 0, 0)), (.iaload, (1, 8, 0, 0, 0)), (.ireturn, (0, 0, 0, 0, 0))]
theorem jc_Mo_feed : wq_c b_Mo_feed 6 j_Mo_feed 0 = true := by decide +kernel
def j_Mo_open : wq_J := [(.aload_n 0, (0, 0, 0, 0, 0)), (.iload_n 1, (0, 0, 0, 0, 0)), (.putfield 105, (1, 0, 11, 0, 0)), (.aload_n 0, (0, 0, 0, 0, 0)), (.iconst 0, (0, 0, 0, 0, 0)), (.putfield 108, (1, 0, 12, 0, 0)), (.return_, (0, 0, 0, 0, 0))]
theorem jc_Mo_open : wq_c b_Mo_open 2 j_Mo_open 0 = true := by decide +kernel
def j_Mo_there : wq_J := [(.aload_n 0, (0, 0, 0, 0, 0)), (.getfield 33, (1, 0, 10, 0, 0)), (.iload_n 1, (0, 0, 0, 0, 0)), (.iaload, (1, 8, 0, 0, 0)), (.ifCond .le 7, (0, 13, 0, 0, 0)), (.iconst 1, (0, 0, 0, 1, 0)), (.goto 4, (0, 14, 0, 0, 0)), (.iconst 0, (0, 0, 0, 0, 0)), (.ireturn, (0, 0, 0, 0, 0))]
theorem jc_Mo_there : wq_c b_Mo_there 2 j_Mo_there 0 = true := by decide +kernel
def j_Mo_charAt : wq_J := [(.iload_n 1, (0, 0, 0, 0, 0)), (.aload_n 0, (0, 0, 0, 0, 0)), (.getfield 33, (1, 0, 10, 0, 0)), (.aload_n 0, (0, 0, 0, 0, 0)), (.getfield 105, (1, 0, 11, 0, 0)), (.iaload, (1, 8, 0, 0, 0)), (.if_icmp .ge 20, (0, 30, 0, 0, 0)), (.aload_n 0, (0, 0, 0, 0, 0)), (.getfield 30, (1, 0, 9, 0, 0)), (.bipush 96, (0, 0, 0, 96, 0)), (.aload_n 0, (0, 0, 0, 0, 0)), (.getfield 105, (1, 0, 11, 0, 0)), (.imul, (0, 0, 0, 0, 0)), (.iload_n 1, (0, 0, 0, 0, 0)), (.iadd, (0, 0, 0, 0, 0)), (.iaload, (1, 7, 0, 0, 0)), (.goto 4, (0, 31, 0, 0, 0)), (.iconst 0, (0, 0, 0, 0, 0)), (.ireturn, (0, 0, 0, 0, 0))]
theorem jc_Mo_charAt : wq_c b_Mo_charAt 2 j_Mo_charAt 0 = true := by decide +kernel
def j_Mo_next : wq_J := [(.aload_n 0, (0, 0, 0, 0, 0)), (.aload_n 0, (0, 0, 0, 0, 0)), (.getfield 108, (1, 0, 12, 0, 0)), (.invokevirtual 111, (0, 0, 0, 0, 0)), (.ireturn, (0, 0, 0, 0, 0))]
theorem jc_Mo_next : wq_c b_Mo_next 1 j_Mo_next 0 = true := by decide +kernel
def j_Mo_ended : wq_J := [(.aload_n 0, (0, 0, 0, 0, 0)), (.getfield 108, (1, 0, 12, 0, 0)), (.aload_n 0, (0, 0, 0, 0, 0)), (.getfield 33, (1, 0, 10, 0, 0)), (.aload_n 0, (0, 0, 0, 0, 0)), (.getfield 105, (1, 0, 11, 0, 0)), (.iaload, (1, 8, 0, 0, 0)), (.if_icmp .lt 7, (0, 20, 0, 0, 0)), (.iconst 1, (0, 0, 0, 1, 0)), (.goto 4, (0, 21, 0, 0, 0)), (.iconst 0, (0, 0, 0, 0, 0)), (.ireturn, (0, 0, 0, 0, 0))]
theorem jc_Mo_ended : wq_c b_Mo_ended 1 j_Mo_ended 0 = true := by decide +kernel
def j_Mo_gap : wq_J := [(.aload_n 0, (0, 0, 0, 0, 0)), (.invokevirtual 115, (0, 0, 0, 0, 0)), (.bipush 32, (0, 0, 0, 32, 0)), (.if_icmp .eq 12, (0, 18, 0, 0, 0)), (.aload_n 0, (0, 0, 0, 0, 0)), (.invokevirtual 115, (0, 0, 0, 0, 0)), (.bipush 9, (0, 0, 0, 9, 0)), (.if_icmp .ne 16, (0, 31, 0, 0, 0)), (.aload_n 0, (0, 0, 0, 0, 0)), (.dup, (0, 0, 0, 0, 0)), (.getfield 108, (1, 0, 12, 0, 0)), (.iconst 1, (0, 0, 0, 1, 0)), (.iadd, (0, 0, 0, 0, 0)), (.putfield 108, (1, 0, 12, 0, 0)), (.goto (-28), (0, 0, 0, 0, 0)), (.return_, (0, 0, 0, 0, 0))]
theorem jc_Mo_gap : wq_c b_Mo_gap 1 j_Mo_gap 0 = true := by decide +kernel
def j_Mo_take : wq_J := [(.aload_n 0, (0, 0, 0, 0, 0)), (.invokevirtual 115, (0, 0, 0, 0, 0)), (.iload_n 1, (0, 0, 0, 0, 0)), (.if_icmp .ne 7, (0, 12, 0, 0, 0)), (.iconst 1, (0, 0, 0, 1, 0)), (.goto 4, (0, 13, 0, 0, 0)), (.iconst 0, (0, 0, 0, 0, 0)), (.istore_n 2, (0, 0, 0, 0, 0)), (.aload_n 0, (0, 0, 0, 0, 0)), (.iload_n 2, (0, 0, 0, 0, 0)), (.ifCond .eq 12, (0, 28, 0, 0, 0)), (.aload_n 0, (0, 0, 0, 0, 0)), (.getfield 108, (1, 0, 12, 0, 0)), (.iconst 1, (0, 0, 0, 1, 0)), (.iadd, (0, 0, 0, 0, 0)), (.goto 7, (0, 32, 0, 0, 0)), (.aload_n 0, (0, 0, 0, 0, 0)), (.getfield 108, (1, 0, 12, 0, 0)), (.putfield 108, (1, 0, 12, 0, 0)), (.iload_n 2, (0, 0, 0, 0, 0)), (.ireturn, (0, 0, 0, 0, 0))]
theorem jc_Mo_take : wq_c b_Mo_take 3 j_Mo_take 0 = true := by decide +kernel
def j_Mo_isDigit : wq_J := [(.iload_n 0, (0, 0, 0, 0, 0)), (.bipush 48, (0, 0, 0, 48, 0)), (.if_icmp .lt 13, (0, 16, 0, 0, 0)), (.iload_n 0, (0, 0, 0, 0, 0)), (.bipush 57, (0, 0, 0, 57, 0)), (.if_icmp .gt 7, (0, 16, 0, 0, 0)), (.iconst 1, (0, 0, 0, 1, 0)), (.goto 4, (0, 17, 0, 0, 0)), (.iconst 0, (0, 0, 0, 0, 0)), (.ireturn, (0, 0, 0, 0, 0))]
theorem jc_Mo_isDigit : wq_c b_Mo_isDigit 1 j_Mo_isDigit 0 = true := by decide +kernel
def j_Mo_isLetter : wq_J := [(.iload_n 0, (0, 0, 0, 0, 0)), (.bipush 65, (0, 0, 0, 65, 0)), (.if_icmp .lt 9, (0, 12, 0, 0, 0)), (.iload_n 0, (0, 0, 0, 0, 0)), (.bipush 90, (0, 0, 0, 90, 0)), (.if_icmp .le 15, (0, 24, 0, 0, 0)), (.iload_n 0, (0, 0, 0, 0, 0)), (.bipush 97, (0, 0, 0, 97, 0)), (.if_icmp .lt 13, (0, 28, 0, 0, 0)), (.iload_n 0, (0, 0, 0, 0, 0)), (.bipush 122, (0, 0, 0, 122, 0)), (.if_icmp .gt 7, (0, 28, 0, 0, 0)), (.iconst 1, (0, 0, 0, 1, 0)), (.goto 4, (0, 29, 0, 0, 0)), (.iconst 0, (0, 0, 0, 0, 0)), (.ireturn, (0, 0, 0, 0, 0))]
theorem jc_Mo_isLetter : wq_c b_Mo_isLetter 1 j_Mo_isLetter 0 = true := by decide +kernel
def j_Mo_lower : wq_J := [(.iload_n 0, (0, 0, 0, 0, 0)), (.bipush 65, (0, 0, 0, 65, 0)), (.if_icmp .lt 16, (0, 19, 0, 0, 0)), (.iload_n 0, (0, 0, 0, 0, 0)), (.bipush 90, (0, 0, 0, 90, 0)), (.if_icmp .gt 10, (0, 19, 0, 0, 0)), (.iload_n 0, (0, 0, 0, 0, 0)), (.bipush 32, (0, 0, 0, 32, 0)), (.iadd, (0, 0, 0, 0, 0)), (.goto 4, (0, 20, 0, 0, 0)), (.iload_n 0, (0, 0, 0, 0, 0)), (.ireturn, (0, 0, 0, 0, 0))]
theorem jc_Mo_lower : wq_c b_Mo_lower 1 j_Mo_lower 0 = true := by decide +kernel
def j_Mo_isToken : wq_J := [(.iload_n 0, (0, 0, 0, 0, 0)), (.bipush 33, (0, 0, 0, 33, 0)), (.if_icmp .eq 69, (0, 72, 0, 0, 0)), (.iload_n 0, (0, 0, 0, 0, 0)), (.bipush 35, (0, 0, 0, 35, 0)), (.if_icmp .lt 9, (0, 18, 0, 0, 0)), (.iload_n 0, (0, 0, 0, 0, 0)), (.bipush 39, (0, 0, 0, 39, 0)), (.if_icmp .le 57, (0, 72, 0, 0, 0)), (.iload_n 0, (0, 0, 0, 0, 0)), (.bipush 42, (0, 0, 0, 42, 0)), (.if_icmp .eq 51, (0, 72, 0, 0, 0)), (.iload_n 0, (0, 0, 0, 0, 0)), (.bipush 43, (0, 0, 0, 43, 0)), (.if_icmp .eq 45, (0, 72, 0, 0, 0)), (.iload_n 0, (0, 0, 0, 0, 0)), (.bipush 45, (0, 0, 0, 45, 0)), (.if_icmp .eq 39, (0, 72, 0, 0, 0)), (.iload_n 0, (0, 0, 0, 0, 0)), (.bipush 46, (0, 0, 0, 46, 0)), (.if_icmp .eq 33, (0, 72, 0, 0, 0)), (.iload_n 0, (0, 0, 0, 0, 0)), (.bipush 94, (0, 0, 0, 94, 0)), (.if_icmp .eq 27, (0, 72, 0, 0, 0)), (.iload_n 0, (0, 0, 0, 0, 0)), (.bipush 95, (0, 0, 0, 95, 0)), (.if_icmp .eq 21, (0, 72, 0, 0, 0)), (.iload_n 0, (0, 0, 0, 0, 0)), (.bipush 96, (0, 0, 0, 96, 0)), (.if_icmp .eq 15, (0, 72, 0, 0, 0)), (.iload_n 0, (0, 0, 0, 0, 0)), (.bipush 124, (0, 0, 0, 124, 0)), (.if_icmp .eq 9, (0, 72, 0, 0, 0)), (.iload_n 0, (0, 0, 0, 0, 0)), (.bipush 126, (0, 0, 0, 126, 0)), (.if_icmp .ne 7, (0, 76, 0, 0, 0)), (.iconst 1, (0, 0, 0, 1, 0)), (.goto 4, (0, 77, 0, 0, 0)), (.iconst 0, (0, 0, 0, 0, 0)), (.istore_n 1, (0, 0, 0, 0, 0)), (.iload_n 0, (0, 0, 0, 0, 0)), (.invokestatic 119, (0, 0, 0, 0, 0)), (.ifCond .ne 14, (0, 96, 0, 0, 0)), (.iload_n 0, (0, 0, 0, 0, 0)), (.invokestatic 123, (0, 0, 0, 0, 0)), (.ifCond .ne 7, (0, 96, 0, 0, 0)), (.iload_n 1, (0, 0, 0, 0, 0)), (.ifCond .eq 7, (0, 100, 0, 0, 0)), (.iconst 1, (0, 0, 0, 1, 0)), (.goto 4, (0, 101, 0, 0, 0)), (.iconst 0, (0, 0, 0, 0, 0)), (.ireturn, (0, 0, 0, 0, 0))]
theorem jc_Mo_isToken : wq_c b_Mo_isToken 2 j_Mo_isToken 0 = true := by decide +kernel
def j_Mo_token : wq_J := [(.aload_n 0, (0, 0, 0, 0, 0)), (.aload_n 0, (0, 0, 0, 0, 0)), (.getfield 108, (1, 0, 12, 0, 0)), (.putfield 126, (1, 0, 13, 0, 0)), (.aload_n 0, (0, 0, 0, 0, 0)), (.invokevirtual 115, (0, 0, 0, 0, 0)), (.invokestatic 129, (0, 0, 0, 0, 0)), (.ifCond .eq 16, (0, 31, 0, 0, 0)), (.aload_n 0, (0, 0, 0, 0, 0)), (.dup, (0, 0, 0, 0, 0)), (.getfield 108, (1, 0, 12, 0, 0)), (.iconst 1, (0, 0, 0, 1, 0)), (.iadd, (0, 0, 0, 0, 0)), (.putfield 108, (1, 0, 12, 0, 0)), (.goto (-20), (0, 8, 0, 0, 0)), (.aload_n 0, (0, 0, 0, 0, 0)), (.aload_n 0, (0, 0, 0, 0, 0)), (.getfield 108, (1, 0, 12, 0, 0)), (.putfield 132, (1, 0, 14, 0, 0)), (.aload_n 0, (0, 0, 0, 0, 0)), (.getfield 132, (1, 0, 14, 0, 0)), (.aload_n 0, (0, 0, 0, 0, 0)), (.getfield 126, (1, 0, 13, 0, 0)), (.if_icmp .le 7, (0, 54, 0, 0, 0)), (.iconst 1, (0, 0, 0, 1, 0)), (.goto 4, (0, 55, 0, 0, 0)), (.iconst 0, (0, 0, 0, 0, 0)), (.ireturn, (0, 0, 0, 0, 0))]
theorem jc_Mo_token : wq_c b_Mo_token 1 j_Mo_token 0 = true := by decide +kernel
def j_Mo_lengthOf : wq_J := [(.iconst 0, (0, 0, 0, 0, 0)), (.istore_n 2, (0, 0, 0, 0, 0)), (.iload_n 2, (0, 0, 0, 0, 0)), (.bipush 8, (0, 0, 0, 8, 0)), (.if_icmp .ge 24, (0, 29, 0, 0, 0)), (.lload_n 0, (0, 0, 0, 0, 0)), (.bipush 8, (0, 0, 0, 8, 0)), (.iload_n 2, (0, 0, 0, 0, 0)), (.imul, (0, 0, 0, 0, 0)), (.lshr, (0, 0, 0, 0, 0)), (.ldc2_w 103, (1, 0, 0, 0, 255)), (.land, (0, 0, 0, 0, 0)), (.lconst 0, (0, 0, 0, 0, 0)), (.lcmp, (0, 0, 0, 0, 0)), (.ifCond .eq 9, (0, 29, 0, 0, 0)), (.iinc 2 1, (0, 0, 0, 1, 0)), (.goto (-24), (0, 2, 0, 0, 0)), (.iload_n 2, (0, 0, 0, 0, 0)), (.ireturn, (0, 0, 0, 0, 0))]
theorem jc_Mo_lengthOf : wq_c b_Mo_lengthOf 3 j_Mo_lengthOf 0 = true := by decide +kernel
def j_Mo_says : wq_J := [(.lload_n 2, (0, 0, 0, 0, 0)), (.invokestatic 135, (0, 0, 0, 0, 0)), (.istore 4, (0, 0, 0, 0, 0)), (.iconst 1, (0, 0, 0, 1, 0)), (.istore 5, (0, 0, 0, 0, 0)), (.iconst 0, (0, 0, 0, 0, 0)), (.istore 6, (0, 0, 0, 0, 0)), (.iload 6, (0, 0, 0, 0, 0)), (.iload 4, (0, 0, 0, 0, 0)), (.if_icmp .ge 47, (0, 63, 0, 0, 0)), (.iload 5, (0, 0, 0, 0, 0)), (.ifCond .eq 33, (0, 54, 0, 0, 0)), (.aload_n 0, (0, 0, 0, 0, 0)), (.iload_n 1, (0, 0, 0, 0, 0)), (.iload 6, (0, 0, 0, 0, 0)), (.iadd, (0, 0, 0, 0, 0)), (.invokevirtual 111, (0, 0, 0, 0, 0)), (.invokestatic 139, (0, 0, 0, 0, 0)), (.lload_n 2, (0, 0, 0, 0, 0)), (.bipush 8, (0, 0, 0, 8, 0)), (.iload 6, (0, 0, 0, 0, 0)), (.imul, (0, 0, 0, 0, 0)), (.lshr, (0, 0, 0, 0, 0)), (.ldc2_w 103, (1, 0, 0, 0, 255)), (.land, (0, 0, 0, 0, 0)), (.l2i, (0, 0, 0, 0, 0)), (.if_icmp .ne 7, (0, 54, 0, 0, 0)), (.iconst 1, (0, 0, 0, 1, 0)), (.goto 4, (0, 55, 0, 0, 0)), (.iconst 0, (0, 0, 0, 0, 0)), (.istore 5, (0, 0, 0, 0, 0)), (.iinc 6 1, (0, 0, 0, 1, 0)), (.goto (-48), (0, 12, 0, 0, 0)), (.iload 5, (0, 0, 0, 0, 0)), (.ireturn, (0, 0, 0, 0, 0))]
theorem jc_Mo_says : wq_c b_Mo_says 7 j_Mo_says 0 = true := by decide +kernel
def j_Mo_isWord : wq_J := [(.iload_n 2, (0, 0, 0, 0, 0)), (.iload_n 1, (0, 0, 0, 0, 0)), (.isub, (0, 0, 0, 0, 0)), (.lload_n 3, (0, 0, 0, 0, 0)), (.invokestatic 135, (0, 0, 0, 0, 0)), (.if_icmp .ne 16, (0, 23, 0, 0, 0)), (.aload_n 0, (0, 0, 0, 0, 0)), (.iload_n 1, (0, 0, 0, 0, 0)), (.lload_n 3, (0, 0, 0, 0, 0)), (.invokevirtual 142, (0, 0, 0, 0, 0)), (.ifCond .eq 7, (0, 23, 0, 0, 0)), (.iconst 1, (0, 0, 0, 1, 0)), (.goto 4, (0, 24, 0, 0, 0)), (.iconst 0, (0, 0, 0, 0, 0)), (.ireturn, (0, 0, 0, 0, 0))]
theorem jc_Mo_isWord : wq_c b_Mo_isWord 5 j_Mo_isWord 0 = true := by decide +kernel
def j_Mo_isMain : wq_J := [(.iload_n 3, (0, 0, 0, 0, 0)), (.iconst 2, (0, 0, 0, 2, 0)), (.if_icmp .ne 50, (0, 52, 0, 0, 0)), (.iload_n 2, (0, 0, 0, 0, 0)), (.iload_n 1, (0, 0, 0, 0, 0)), (.isub, (0, 0, 0, 0, 0)), (.bipush 11, (0, 0, 0, 11, 0)), (.if_icmp .ne 40, (0, 50, 0, 0, 0)), (.aload_n 0, (0, 0, 0, 0, 0)), (.iload_n 1, (0, 0, 0, 0, 0)), (.aload_n 0, (0, 0, 0, 0, 0)), (.getfield 55, (1, 0, 30, 0, 0)), (.bipush 8, (0, 0, 0, 8, 0)), (.laload, (1, 13, 0, 0, 0)), (.invokevirtual 142, (0, 0, 0, 0, 0)), (.ifCond .eq 25, (0, 50, 0, 0, 0)), (.aload_n 0, (0, 0, 0, 0, 0)), (.iload_n 1, (0, 0, 0, 0, 0)), (.bipush 8, (0, 0, 0, 8, 0)), (.iadd, (0, 0, 0, 0, 0)), (.aload_n 0, (0, 0, 0, 0, 0)), (.getfield 55, (1, 0, 30, 0, 0)), (.bipush 9, (0, 0, 0, 9, 0)), (.laload, (1, 13, 0, 0, 0)), (.invokevirtual 142, (0, 0, 0, 0, 0)), (.ifCond .eq 7, (0, 50, 0, 0, 0)), (.iconst 1, (0, 0, 0, 1, 0)), (.goto 4, (0, 51, 0, 0, 0)), (.iconst 0, (0, 0, 0, 0, 0)), (.ireturn, (0, 0, 0, 0, 0)), (.aload_n 0, (0, 0, 0, 0, 0)), (.iload_n 1, (0, 0, 0, 0, 0)), (.iload_n 2, (0, 0, 0, 0, 0)), (.iload_n 3, (0, 0, 0, 0, 0)), (.iconst 3, (0, 0, 0, 3, 0)), (.if_icmp .eq 8, (0, 65, 0, 0, 0)), (.iload_n 3, (0, 0, 0, 0, 0)), (.iconst 5, (0, 0, 0, 5, 0)), (.if_icmp .ne 12, (0, 74, 0, 0, 0)), (.aload_n 0, (0, 0, 0, 0, 0)), (.getfield 55, (1, 0, 30, 0, 0)), (.iconst 4, (0, 0, 0, 4, 0)), (.laload, (1, 13, 0, 0, 0)), (.goto 9, (0, 80, 0, 0, 0)), (.aload_n 0, (0, 0, 0, 0, 0)), (.getfield 55, (1, 0, 30, 0, 0)), (.iconst 0, (0, 0, 0, 0, 0)), (.laload, (1, 13, 0, 0, 0)), (.invokevirtual 146, (0, 0, 0, 0, 0)), (.ireturn, (0, 0, 0, 0, 0))]
theorem jc_Mo_isMain : wq_c b_Mo_isMain 4 j_Mo_isMain 0 = true := by decide +kernel
def j_Mo_isSub : wq_J := [(.iload_n 3, (0, 0, 0, 0, 0)), (.ifCond .eq 8, (0, 9, 0, 0, 0)), (.iload_n 3, (0, 0, 0, 0, 0)), (.iconst 4, (0, 0, 0, 4, 0)), (.if_icmp .ne 7, (0, 13, 0, 0, 0)), (.iconst 1, (0, 0, 0, 1, 0)), (.goto 32, (0, 42, 0, 0, 0)), (.iload_n 3, (0, 0, 0, 0, 0)), (.iconst 1, (0, 0, 0, 1, 0)), (.if_icmp .ne 7, (0, 22, 0, 0, 0)), (.iconst 2, (0, 0, 0, 2, 0)), (.goto 23, (0, 42, 0, 0, 0)), (.iload_n 3, (0, 0, 0, 0, 0)), (.iconst 2, (0, 0, 0, 2, 0)), (.if_icmp .ne 7, (0, 31, 0, 0, 0)), (.iconst 3, (0, 0, 0, 3, 0)), (.goto 14, (0, 42, 0, 0, 0)), (.iload_n 3, (0, 0, 0, 0, 0)), (.iconst 3, (0, 0, 0, 3, 0)), (.if_icmp .ne 7, (0, 40, 0, 0, 0)), (.iconst 5, (0, 0, 0, 5, 0)), (.goto 5, (0, 42, 0, 0, 0)), (.bipush 6, (0, 0, 0, 6, 0)), (.istore 4, (0, 0, 0, 0, 0)), (.aload_n 0, (0, 0, 0, 0, 0)), (.iload_n 1, (0, 0, 0, 0, 0)), (.iload_n 2, (0, 0, 0, 0, 0)), (.aload_n 0, (0, 0, 0, 0, 0)), (.getfield 55, (1, 0, 30, 0, 0)), (.iload 4, (0, 0, 0, 0, 0)), (.laload, (1, 13, 0, 0, 0)), (.invokevirtual 146, (0, 0, 0, 0, 0)), (.ireturn, (0, 0, 0, 0, 0))]
theorem jc_Mo_isSub : wq_c b_Mo_isSub 5 j_Mo_isSub 0 = true := by decide +kernel
def j_Mo_weight : wq_J := [(.aload_n 0, (0, 0, 0, 0, 0)), (.invokevirtual 115, (0, 0, 0, 0, 0)), (.istore_n 1, (0, 0, 0, 0, 0)), (.iload_n 1, (0, 0, 0, 0, 0)), (.bipush 48, (0, 0, 0, 48, 0)), (.if_icmp .eq 11, (0, 19, 0, 0, 0)), (.iload_n 1, (0, 0, 0, 0, 0)), (.bipush 49, (0, 0, 0, 49, 0)), (.if_icmp .eq 5, (0, 19, 0, 0, 0)), (.iconst 0, (0, 0, 0, 0, 0)), (.ireturn, (0, 0, 0, 0, 0)), (.aload_n 0, (0, 0, 0, 0, 0)), (.dup, (0, 0, 0, 0, 0)), (.getfield 108, (1, 0, 12, 0, 0)), (.iconst 1, (0, 0, 0, 1, 0)), (.iadd, (0, 0, 0, 0, 0)), (.putfield 108, (1, 0, 12, 0, 0)), (.aload_n 0, (0, 0, 0, 0, 0)), (.sipush 1000, (0, 0, 0, 1000, 0)), (.iload_n 1, (0, 0, 0, 0, 0)), (.bipush 48, (0, 0, 0, 48, 0)), (.isub, (0, 0, 0, 0, 0)), (.imul, (0, 0, 0, 0, 0)), (.putfield 150, (1, 0, 16, 0, 0)), (.aload_n 0, (0, 0, 0, 0, 0)), (.bipush 46, (0, 0, 0, 46, 0)), (.invokevirtual 153, (0, 0, 0, 0, 0)), (.ifCond .eq 70, (0, 117, 0, 0, 0)), (.bipush 100, (0, 0, 0, 100, 0)), (.istore_n 2, (0, 0, 0, 0, 0)), (.iload_n 2, (0, 0, 0, 0, 0)), (.ifCond .le 63, (0, 117, 0, 0, 0)), (.aload_n 0, (0, 0, 0, 0, 0)), (.invokevirtual 115, (0, 0, 0, 0, 0)), (.invokestatic 119, (0, 0, 0, 0, 0)), (.ifCond .eq 53, (0, 117, 0, 0, 0)), (.aload_n 0, (0, 0, 0, 0, 0)), (.invokevirtual 115, (0, 0, 0, 0, 0)), (.bipush 48, (0, 0, 0, 48, 0)), (.isub, (0, 0, 0, 0, 0)), (.istore_n 3, (0, 0, 0, 0, 0)), (.iload_n 1, (0, 0, 0, 0, 0)), (.bipush 49, (0, 0, 0, 49, 0)), (.if_icmp .ne 9, (0, 87, 0, 0, 0)), (.iload_n 3, (0, 0, 0, 0, 0)), (.ifCond .le 5, (0, 87, 0, 0, 0)), (.iconst 0, (0, 0, 0, 0, 0)), (.ireturn, (0, 0, 0, 0, 0)), (.aload_n 0, (0, 0, 0, 0, 0)), (.dup, (0, 0, 0, 0, 0)), (.getfield 150, (1, 0, 16, 0, 0)), (.iload_n 2, (0, 0, 0, 0, 0)), (.iload_n 3, (0, 0, 0, 0, 0)), (.imul, (0, 0, 0, 0, 0)), (.iadd, (0, 0, 0, 0, 0)), (.putfield 150, (1, 0, 16, 0, 0)), (.iload_n 2, (0, 0, 0, 0, 0)), (.bipush 10, (0, 0, 0, 10, 0)), (.idiv, (0, 0, 0, 0, 0)), (.istore_n 2, (0, 0, 0, 0, 0)), (.aload_n 0, (0, 0, 0, 0, 0)), (.dup, (0, 0, 0, 0, 0)), (.getfield 108, (1, 0, 12, 0, 0)), (.iconst 1, (0, 0, 0, 1, 0)), (.iadd, (0, 0, 0, 0, 0)), (.putfield 108, (1, 0, 12, 0, 0)), (.goto (-61), (0, 53, 0, 0, 0)), (.iconst 1, (0, 0, 0, 1, 0)), (.ireturn, (0, 0, 0, 0, 0))]
theorem jc_Mo_weight : wq_c b_Mo_weight 4 j_Mo_weight 0 = true := by decide +kernel
def j_Mo_semicolon : wq_J := [(.aload_n 0, (0, 0, 0, 0, 0)), (.getfield 108, (1, 0, 12, 0, 0)), (.istore_n 1, (0, 0, 0, 0, 0)), (.aload_n 0, (0, 0, 0, 0, 0)), (.invokevirtual 156, (0, 0, 0, 0, 0)), (.aload_n 0, (0, 0, 0, 0, 0)), (.bipush 59, (0, 0, 0, 59, 0)), (.invokevirtual 153, (0, 0, 0, 0, 0)), (.ifCond .eq 9, (0, 24, 0, 0, 0)), (.aload_n 0, (0, 0, 0, 0, 0)), (.invokevirtual 156, (0, 0, 0, 0, 0)), (.iconst 1, (0, 0, 0, 1, 0)), (.ireturn, (0, 0, 0, 0, 0)), (.aload_n 0, (0, 0, 0, 0, 0)), (.iload_n 1, (0, 0, 0, 0, 0)), (.putfield 108, (1, 0, 12, 0, 0)), (.iconst 0, (0, 0, 0, 0, 0)), (.ireturn, (0, 0, 0, 0, 0))]
theorem jc_Mo_semicolon : wq_c b_Mo_semicolon 2 j_Mo_semicolon 0 = true := by decide +kernel
def j_Mo_weightIfAny : wq_J := [(.aload_n 0, (0, 0, 0, 0, 0)), (.sipush 1000, (0, 0, 0, 1000, 0)), (.putfield 150, (1, 0, 16, 0, 0)), (.aload_n 0, (0, 0, 0, 0, 0)), (.invokevirtual 159, (0, 0, 0, 0, 0)), (.ifCond .ne 5, (0, 16, 0, 0, 0)), (.iconst 1, (0, 0, 0, 1, 0)), (.ireturn, (0, 0, 0, 0, 0)), (.aload_n 0, (0, 0, 0, 0, 0)), (.invokevirtual 115, (0, 0, 0, 0, 0)), (.invokestatic 139, (0, 0, 0, 0, 0)), (.bipush 113, (0, 0, 0, 113, 0)), (.if_icmp .eq 5, (0, 30, 0, 0, 0)), (.iconst 0, (0, 0, 0, 0, 0)), (.ireturn, (0, 0, 0, 0, 0)), (.aload_n 0, (0, 0, 0, 0, 0)), (.dup, (0, 0, 0, 0, 0)), (.getfield 108, (1, 0, 12, 0, 0)), (.iconst 1, (0, 0, 0, 1, 0)), (.iadd, (0, 0, 0, 0, 0)), (.putfield 108, (1, 0, 12, 0, 0)), (.aload_n 0, (0, 0, 0, 0, 0)), (.bipush 61, (0, 0, 0, 61, 0)), (.invokevirtual 153, (0, 0, 0, 0, 0)), (.ifCond .eq 14, (0, 60, 0, 0, 0)), (.aload_n 0, (0, 0, 0, 0, 0)), (.invokevirtual 163, (0, 0, 0, 0, 0)), (.ifCond .eq 7, (0, 60, 0, 0, 0)), (.iconst 1, (0, 0, 0, 1, 0)), (.goto 4, (0, 61, 0, 0, 0)), (.iconst 0, (0, 0, 0, 0, 0)), (.ireturn, (0, 0, 0, 0, 0))]
theorem jc_Mo_weightIfAny : wq_c b_Mo_weightIfAny 1 j_Mo_weightIfAny 0 = true := by decide +kernel
def j_Mo_separator : wq_J := [(.aload_n 0, (0, 0, 0, 0, 0)), (.invokevirtual 156, (0, 0, 0, 0, 0)), (.aload_n 0, (0, 0, 0, 0, 0)), (.invokevirtual 166, (0, 0, 0, 0, 0)), (.ifCond .eq 5, (0, 13, 0, 0, 0)), (.iconst 0, (0, 0, 0, 0, 0)), (.ireturn, (0, 0, 0, 0, 0)), (.aload_n 0, (0, 0, 0, 0, 0)), (.bipush 44, (0, 0, 0, 44, 0)), (.invokevirtual 153, (0, 0, 0, 0, 0)), (.ifCond .eq 7, (0, 26, 0, 0, 0)), (.iconst 1, (0, 0, 0, 1, 0)), (.goto 4, (0, 27, 0, 0, 0)), (.iconst (-1), (0, 0, 0, (-1), 0)), (.ireturn, (0, 0, 0, 0, 0))]
theorem jc_Mo_separator : wq_c b_Mo_separator 1 j_Mo_separator 0 = true := by decide +kernel
def j_Mo_element : wq_J := [(.aload_n 0, (0, 0, 0, 0, 0)), (.invokevirtual 156, (0, 0, 0, 0, 0)), (.aload_n 0, (0, 0, 0, 0, 0)), (.bipush 44, (0, 0, 0, 44, 0)), (.invokevirtual 153, (0, 0, 0, 0, 0)), (.ifCond .eq 10, (0, 20, 0, 0, 0)), (.aload_n 0, (0, 0, 0, 0, 0)), (.invokevirtual 156, (0, 0, 0, 0, 0)), (.goto (-13), (0, 4, 0, 0, 0)), (.aload_n 0, (0, 0, 0, 0, 0)), (.invokevirtual 166, (0, 0, 0, 0, 0)), (.ifCond .ne 7, (0, 31, 0, 0, 0)), (.iconst 1, (0, 0, 0, 1, 0)), (.goto 4, (0, 32, 0, 0, 0)), (.iconst 0, (0, 0, 0, 0, 0)), (.ireturn, (0, 0, 0, 0, 0))]
theorem jc_Mo_element : wq_c b_Mo_element 1 j_Mo_element 0 = true := by decide +kernel
def j_Mo_quoted : wq_J := [(.aload_n 0, (0, 0, 0, 0, 0)), (.dup, (0, 0, 0, 0, 0)), (.getfield 108, (1, 0, 12, 0, 0)), (.iconst 1, (0, 0, 0, 1, 0)), (.iadd, (0, 0, 0, 0, 0)), (.putfield 108, (1, 0, 12, 0, 0)), (.iconst 0, (0, 0, 0, 0, 0)), (.istore_n 1, (0, 0, 0, 0, 0)), (.iconst 0, (0, 0, 0, 0, 0)), (.istore_n 2, (0, 0, 0, 0, 0)), (.aload_n 0, (0, 0, 0, 0, 0)), (.invokevirtual 115, (0, 0, 0, 0, 0)), (.bipush 34, (0, 0, 0, 34, 0)), (.if_icmp .eq 79, (0, 99, 0, 0, 0)), (.aload_n 0, (0, 0, 0, 0, 0)), (.bipush 92, (0, 0, 0, 92, 0)), (.invokevirtual 153, (0, 0, 0, 0, 0)), (.ifCond .eq 12, (0, 41, 0, 0, 0)), (.aload_n 0, (0, 0, 0, 0, 0)), (.invokevirtual 166, (0, 0, 0, 0, 0)), (.ifCond .eq 5, (0, 41, 0, 0, 0)), (.iconst 0, (0, 0, 0, 0, 0)), (.ireturn, (0, 0, 0, 0, 0)), (.aload_n 0, (0, 0, 0, 0, 0)), (.invokevirtual 115, (0, 0, 0, 0, 0)), (.istore_n 3, (0, 0, 0, 0, 0)), (.iload_n 3, (0, 0, 0, 0, 0)), (.bipush 9, (0, 0, 0, 9, 0)), (.if_icmp .eq 17, (0, 66, 0, 0, 0)), (.iload_n 3, (0, 0, 0, 0, 0)), (.bipush 32, (0, 0, 0, 32, 0)), (.if_icmp .lt 9, (0, 64, 0, 0, 0)), (.iload_n 3, (0, 0, 0, 0, 0)), (.bipush 127, (0, 0, 0, 127, 0)), (.if_icmp .ne 5, (0, 66, 0, 0, 0)), (.iconst 0, (0, 0, 0, 0, 0)), (.ireturn, (0, 0, 0, 0, 0)), (.iinc 1 1, (0, 0, 0, 1, 0)), (.iload_n 1, (0, 0, 0, 0, 0)), (.iconst 1, (0, 0, 0, 1, 0)), (.if_icmp .ne 13, (0, 84, 0, 0, 0)), (.iload_n 3, (0, 0, 0, 0, 0)), (.bipush 49, (0, 0, 0, 49, 0)), (.if_icmp .ne 7, (0, 84, 0, 0, 0)), (.iconst 1, (0, 0, 0, 1, 0)), (.goto 4, (0, 85, 0, 0, 0)), (.iconst 0, (0, 0, 0, 0, 0)), (.istore_n 2, (0, 0, 0, 0, 0)), (.aload_n 0, (0, 0, 0, 0, 0)), (.dup, (0, 0, 0, 0, 0)), (.getfield 108, (1, 0, 12, 0, 0)), (.iconst 1, (0, 0, 0, 1, 0)), (.iadd, (0, 0, 0, 0, 0)), (.putfield 108, (1, 0, 12, 0, 0)), (.goto (-82), (0, 14, 0, 0, 0)), (.aload_n 0, (0, 0, 0, 0, 0)), (.iload_n 2, (0, 0, 0, 0, 0)), (.putfield 169, (1, 0, 19, 0, 0)), (.aload_n 0, (0, 0, 0, 0, 0)), (.bipush 34, (0, 0, 0, 34, 0)), (.invokevirtual 153, (0, 0, 0, 0, 0)), (.ireturn, (0, 0, 0, 0, 0))]
theorem jc_Mo_quoted : wq_c b_Mo_quoted 4 j_Mo_quoted 0 = true := by decide +kernel
def j_Mo_assigned : wq_J := [(.aload_n 0, (0, 0, 0, 0, 0)), (.bipush 61, (0, 0, 0, 61, 0)), (.invokevirtual 153, (0, 0, 0, 0, 0)), (.ifCond .ne 5, (0, 11, 0, 0, 0)), (.iconst 0, (0, 0, 0, 0, 0)), (.ireturn, (0, 0, 0, 0, 0)), (.aload_n 0, (0, 0, 0, 0, 0)), (.invokevirtual 115, (0, 0, 0, 0, 0)), (.bipush 34, (0, 0, 0, 34, 0)), (.if_icmp .ne 8, (0, 25, 0, 0, 0)), (.aload_n 0, (0, 0, 0, 0, 0)), (.invokevirtual 173, (0, 0, 0, 0, 0)), (.ireturn, (0, 0, 0, 0, 0)), (.aload_n 0, (0, 0, 0, 0, 0)), (.invokevirtual 176, (0, 0, 0, 0, 0)), (.ifCond .ne 5, (0, 34, 0, 0, 0)), (.iconst 0, (0, 0, 0, 0, 0)), (.ireturn, (0, 0, 0, 0, 0)), (.aload_n 0, (0, 0, 0, 0, 0)), (.aload_n 0, (0, 0, 0, 0, 0)), (.getfield 132, (1, 0, 14, 0, 0)), (.aload_n 0, (0, 0, 0, 0, 0)), (.getfield 126, (1, 0, 13, 0, 0)), (.isub, (0, 0, 0, 0, 0)), (.iconst 1, (0, 0, 0, 1, 0)), (.if_icmp .ne 20, (0, 65, 0, 0, 0)), (.aload_n 0, (0, 0, 0, 0, 0)), (.aload_n 0, (0, 0, 0, 0, 0)), (.getfield 126, (1, 0, 13, 0, 0)), (.invokevirtual 111, (0, 0, 0, 0, 0)), (.bipush 49, (0, 0, 0, 49, 0)), (.if_icmp .ne 7, (0, 65, 0, 0, 0)), (.iconst 1, (0, 0, 0, 1, 0)), (.goto 4, (0, 66, 0, 0, 0)), (.iconst 0, (0, 0, 0, 0, 0)), (.putfield 169, (1, 0, 19, 0, 0)), (.iconst 1, (0, 0, 0, 1, 0)), (.ireturn, (0, 0, 0, 0, 0))]
theorem jc_Mo_assigned : wq_c b_Mo_assigned 1 j_Mo_assigned 0 = true := by decide +kernel
def j_Mo_starred : wq_J := [(.iconst 0, (0, 0, 0, 0, 0)), (.istore_n 3, (0, 0, 0, 0, 0)), (.iload_n 1, (0, 0, 0, 0, 0)), (.istore 4, (0, 0, 0, 0, 0)), (.iload 4, (0, 0, 0, 0, 0)), (.iload_n 2, (0, 0, 0, 0, 0)), (.if_icmp .ge 30, (0, 38, 0, 0, 0)), (.iload_n 3, (0, 0, 0, 0, 0)), (.ifCond .ne 14, (0, 26, 0, 0, 0)), (.aload_n 0, (0, 0, 0, 0, 0)), (.iload 4, (0, 0, 0, 0, 0)), (.invokevirtual 111, (0, 0, 0, 0, 0)), (.bipush 42, (0, 0, 0, 42, 0)), (.if_icmp .ne 7, (0, 30, 0, 0, 0)), (.iconst 1, (0, 0, 0, 1, 0)), (.goto 4, (0, 31, 0, 0, 0)), (.iconst 0, (0, 0, 0, 0, 0)), (.istore_n 3, (0, 0, 0, 0, 0)), (.iinc 4 1, (0, 0, 0, 1, 0)), (.goto (-30), (0, 5, 0, 0, 0)), (.iload_n 3, (0, 0, 0, 0, 0)), (.ireturn, (0, 0, 0, 0, 0))]
theorem jc_Mo_starred : wq_c b_Mo_starred 5 j_Mo_starred 0 = true := by decide +kernel
def j_Mo_mediaRange : wq_J := [(.aload_n 0, (0, 0, 0, 0, 0)), (.invokevirtual 176, (0, 0, 0, 0, 0)), (.ifCond .ne 5, (0, 9, 0, 0, 0)), (.iconst (-1), (0, 0, 0, (-1), 0)), (.ireturn, (0, 0, 0, 0, 0)), (.aload_n 0, (0, 0, 0, 0, 0)), (.getfield 126, (1, 0, 13, 0, 0)), (.istore_n 2, (0, 0, 0, 0, 0)), (.aload_n 0, (0, 0, 0, 0, 0)), (.getfield 132, (1, 0, 14, 0, 0)), (.istore_n 3, (0, 0, 0, 0, 0)), (.aload_n 0, (0, 0, 0, 0, 0)), (.bipush 47, (0, 0, 0, 47, 0)), (.invokevirtual 153, (0, 0, 0, 0, 0)), (.ifCond .eq 10, (0, 35, 0, 0, 0)), (.aload_n 0, (0, 0, 0, 0, 0)), (.invokevirtual 176, (0, 0, 0, 0, 0)), (.ifCond .ne 5, (0, 37, 0, 0, 0)), (.iconst (-1), (0, 0, 0, (-1), 0)), (.ireturn, (0, 0, 0, 0, 0)), (.iload_n 3, (0, 0, 0, 0, 0)), (.iload_n 2, (0, 0, 0, 0, 0)), (.isub, (0, 0, 0, 0, 0)), (.iconst 1, (0, 0, 0, 1, 0)), (.if_icmp .ne 17, (0, 58, 0, 0, 0)), (.aload_n 0, (0, 0, 0, 0, 0)), (.iload_n 2, (0, 0, 0, 0, 0)), (.invokevirtual 111, (0, 0, 0, 0, 0)), (.bipush 42, (0, 0, 0, 42, 0)), (.if_icmp .ne 7, (0, 58, 0, 0, 0)), (.iconst 1, (0, 0, 0, 1, 0)), (.goto 4, (0, 59, 0, 0, 0)), (.iconst 0, (0, 0, 0, 0, 0)), (.istore 4, (0, 0, 0, 0, 0)), (.aload_n 0, (0, 0, 0, 0, 0)), (.getfield 132, (1, 0, 14, 0, 0)), (.aload_n 0, (0, 0, 0, 0, 0)), (.getfield 126, (1, 0, 13, 0, 0)), (.isub, (0, 0, 0, 0, 0)), (.iconst 1, (0, 0, 0, 1, 0)), (.if_icmp .ne 20, (0, 91, 0, 0, 0)), (.aload_n 0, (0, 0, 0, 0, 0)), (.aload_n 0, (0, 0, 0, 0, 0)), (.getfield 126, (1, 0, 13, 0, 0)), (.invokevirtual 111, (0, 0, 0, 0, 0)), (.bipush 42, (0, 0, 0, 42, 0)), (.if_icmp .ne 7, (0, 91, 0, 0, 0)), (.iconst 1, (0, 0, 0, 1, 0)), (.goto 4, (0, 92, 0, 0, 0)), (.iconst 0, (0, 0, 0, 0, 0)), (.istore 5, (0, 0, 0, 0, 0)), (.iload 4, (0, 0, 0, 0, 0)), (.ifCond .eq 8, (0, 104, 0, 0, 0)), (.iload 5, (0, 0, 0, 0, 0)), (.ifCond .eq 37, (0, 138, 0, 0, 0)), (.iload 4, (0, 0, 0, 0, 0)), (.ifCond .ne 12, (0, 118, 0, 0, 0)), (.aload_n 0, (0, 0, 0, 0, 0)), (.iload_n 2, (0, 0, 0, 0, 0)), (.iload_n 3, (0, 0, 0, 0, 0)), (.invokevirtual 179, (0, 0, 0, 0, 0)), (.ifCond .ne 23, (0, 138, 0, 0, 0)), (.iload 5, (0, 0, 0, 0, 0)), (.ifCond .ne 20, (0, 140, 0, 0, 0)), (.aload_n 0, (0, 0, 0, 0, 0)), (.aload_n 0, (0, 0, 0, 0, 0)), (.getfield 126, (1, 0, 13, 0, 0)), (.aload_n 0, (0, 0, 0, 0, 0)), (.getfield 132, (1, 0, 14, 0, 0)), (.invokevirtual 179, (0, 0, 0, 0, 0)), (.ifCond .eq 5, (0, 140, 0, 0, 0)), (.iconst (-1), (0, 0, 0, (-1), 0)), (.ireturn, (0, 0, 0, 0, 0)), (.iload 4, (0, 0, 0, 0, 0)), (.ifCond .ne 13, (0, 155, 0, 0, 0)), (.aload_n 0, (0, 0, 0, 0, 0)), (.iload_n 2, (0, 0, 0, 0, 0)), (.iload_n 3, (0, 0, 0, 0, 0)), (.iload_n 1, (0, 0, 0, 0, 0)), (.invokevirtual 183, (0, 0, 0, 0, 0)), (.ifCond .eq 28, (0, 180, 0, 0, 0)), (.iload 5, (0, 0, 0, 0, 0)), (.ifCond .ne 19, (0, 176, 0, 0, 0)), (.aload_n 0, (0, 0, 0, 0, 0)), (.aload_n 0, (0, 0, 0, 0, 0)), (.getfield 126, (1, 0, 13, 0, 0)), (.aload_n 0, (0, 0, 0, 0, 0)), (.getfield 132, (1, 0, 14, 0, 0)), (.iload_n 1, (0, 0, 0, 0, 0)), (.invokevirtual 187, (0, 0, 0, 0, 0)), (.ifCond .eq 7, (0, 180, 0, 0, 0)), (.iconst 1, (0, 0, 0, 1, 0)), (.goto 4, (0, 181, 0, 0, 0)), (.iconst 0, (0, 0, 0, 0, 0)), (.istore 6, (0, 0, 0, 0, 0)), (.iload 4, (0, 0, 0, 0, 0)), (.ifCond .eq 7, (0, 192, 0, 0, 0)), (.iconst 0, (0, 0, 0, 0, 0)), (.goto 13, (0, 202, 0, 0, 0)), (.iload 5, (0, 0, 0, 0, 0)), (.ifCond .eq 7, (0, 201, 0, 0, 0)), (.iconst 1, (0, 0, 0, 1, 0)), (.goto 4, (0, 202, 0, 0, 0)), (.iconst 2, (0, 0, 0, 2, 0)), (.istore 7, (0, 0, 0, 0, 0)), (.aload_n 0, (0, 0, 0, 0, 0)), (.sipush 1000, (0, 0, 0, 1000, 0)), (.putfield 150, (1, 0, 16, 0, 0)), (.aload_n 0, (0, 0, 0, 0, 0)), (.invokevirtual 159, (0, 0, 0, 0, 0)), (.ifCond .eq 155, (0, 370, 0, 0, 0)), (.aload_n 0, (0, 0, 0, 0, 0)), (.invokevirtual 176, (0, 0, 0, 0, 0)), (.ifCond .ne 5, (0, 227, 0, 0, 0)), (.iconst (-1), (0, 0, 0, (-1), 0)), (.ireturn, (0, 0, 0, 0, 0)), (.aload_n 0, (0, 0, 0, 0, 0)), (.aload_n 0, (0, 0, 0, 0, 0)), (.getfield 126, (1, 0, 13, 0, 0)), (.putfield 190, (1, 0, 17, 0, 0)), (.aload_n 0, (0, 0, 0, 0, 0)), (.aload_n 0, (0, 0, 0, 0, 0)), (.getfield 132, (1, 0, 14, 0, 0)), (.putfield 193, (1, 0, 18, 0, 0)), (.aload_n 0, (0, 0, 0, 0, 0)), (.getfield 132, (1, 0, 14, 0, 0)), (.aload_n 0, (0, 0, 0, 0, 0)), (.getfield 126, (1, 0, 13, 0, 0)), (.isub, (0, 0, 0, 0, 0)), (.iconst 1, (0, 0, 0, 1, 0)), (.if_icmp .ne 56, (0, 309, 0, 0, 0)), (.aload_n 0, (0, 0, 0, 0, 0)), (.aload_n 0, (0, 0, 0, 0, 0)), (.getfield 126, (1, 0, 13, 0, 0)), (.invokevirtual 111, (0, 0, 0, 0, 0)), (.invokestatic 139, (0, 0, 0, 0, 0)), (.bipush 113, (0, 0, 0, 113, 0)), (.if_icmp .ne 40, (0, 309, 0, 0, 0)), (.aload_n 0, (0, 0, 0, 0, 0)), (.bipush 61, (0, 0, 0, 61, 0)), (.invokevirtual 153, (0, 0, 0, 0, 0)), (.ifCond .eq 29, (0, 307, 0, 0, 0)), (.aload_n 0, (0, 0, 0, 0, 0)), (.invokevirtual 163, (0, 0, 0, 0, 0)), (.ifCond .eq 22, (0, 307, 0, 0, 0)), (.bipush 8, (0, 0, 0, 8, 0)), (.iload 7, (0, 0, 0, 0, 0)), (.imul, (0, 0, 0, 0, 0)), (.iload 6, (0, 0, 0, 0, 0)), (.ifCond .eq 7, (0, 302, 0, 0, 0)), (.iconst 1, (0, 0, 0, 1, 0)), (.goto 4, (0, 303, 0, 0, 0)), (.iconst 0, (0, 0, 0, 0, 0)), (.iadd, (0, 0, 0, 0, 0)), (.goto 4, (0, 308, 0, 0, 0)), (.iconst (-1), (0, 0, 0, (-1), 0)), (.ireturn, (0, 0, 0, 0, 0)), (.aload_n 0, (0, 0, 0, 0, 0)), (.invokevirtual 196, (0, 0, 0, 0, 0)), (.ifCond .ne 5, (0, 318, 0, 0, 0)), (.iconst (-1), (0, 0, 0, (-1), 0)), (.ireturn, (0, 0, 0, 0, 0)), (.iload 6, (0, 0, 0, 0, 0)), (.ifCond .eq 41, (0, 361, 0, 0, 0)), (.iload_n 1, (0, 0, 0, 0, 0)), (.iconst 4, (0, 0, 0, 4, 0)), (.if_icmp .ne 36, (0, 361, 0, 0, 0)), (.aload_n 0, (0, 0, 0, 0, 0)), (.getfield 169, (1, 0, 19, 0, 0)), (.ifCond .eq 29, (0, 361, 0, 0, 0)), (.aload_n 0, (0, 0, 0, 0, 0)), (.aload_n 0, (0, 0, 0, 0, 0)), (.getfield 190, (1, 0, 17, 0, 0)), (.aload_n 0, (0, 0, 0, 0, 0)), (.getfield 193, (1, 0, 18, 0, 0)), (.aload_n 0, (0, 0, 0, 0, 0)), (.getfield 55, (1, 0, 30, 0, 0)), (.bipush 7, (0, 0, 0, 7, 0)), (.laload, (1, 13, 0, 0, 0)), (.invokevirtual 146, (0, 0, 0, 0, 0)), (.ifCond .eq 7, (0, 361, 0, 0, 0)), (.iconst 1, (0, 0, 0, 1, 0)), (.goto 4, (0, 362, 0, 0, 0)), (.iconst 0, (0, 0, 0, 0, 0)), (.istore 6, (0, 0, 0, 0, 0)), (.iinc 7 1, (0, 0, 0, 1, 0)), (.goto (-156), (0, 211, 0, 0, 0)), (.bipush 8, (0, 0, 0, 8, 0)), (.iload 7, (0, 0, 0, 0, 0)), (.imul, (0, 0, 0, 0, 0)), (.iload 6, (0, 0, 0, 0, 0)), (.ifCond .eq 7, (0, 384, 0, 0, 0)), (.iconst 1, (0, 0, 0, 1, 0)), (.goto 4, (0, 385, 0, 0, 0)), (.iconst 0, (0, 0, 0, 0, 0)), (.iadd, (0, 0, 0, 0, 0)), (.ireturn, (0, 0, 0, 0, 0))]
theorem jc_Mo_mediaRange : wq_c b_Mo_mediaRange 8 j_Mo_mediaRange 0 = true := by decide +kernel
def j_Mo_accepted : wq_J := [(.aload_n 0, (0, 0, 0, 0, 0)), (.iconst 0, (0, 0, 0, 0, 0)), (.invokevirtual 199, (0, 0, 0, 0, 0)), (.iconst (-1), (0, 0, 0, (-1), 0)), (.istore_n 2, (0, 0, 0, 0, 0)), (.iconst 0, (0, 0, 0, 0, 0)), (.istore_n 3, (0, 0, 0, 0, 0)), (.iconst 0, (0, 0, 0, 0, 0)), (.istore 4, (0, 0, 0, 0, 0)), (.iconst 1, (0, 0, 0, 1, 0)), (.istore 5, (0, 0, 0, 0, 0)), (.iload 5, (0, 0, 0, 0, 0)), (.iconst 1, (0, 0, 0, 1, 0)), (.if_icmp .ne 65, (0, 83, 0, 0, 0)), (.aload_n 0, (0, 0, 0, 0, 0)), (.invokevirtual 203, (0, 0, 0, 0, 0)), (.ifCond .eq 58, (0, 83, 0, 0, 0)), (.aload_n 0, (0, 0, 0, 0, 0)), (.iload_n 1, (0, 0, 0, 0, 0)), (.invokevirtual 206, (0, 0, 0, 0, 0)), (.istore 6, (0, 0, 0, 0, 0)), (.iload 6, (0, 0, 0, 0, 0)), (.ifCond .ge 5, (0, 42, 0, 0, 0)), (.iconst (-1), (0, 0, 0, (-1), 0)), (.ireturn, (0, 0, 0, 0, 0)), (.iinc 4 1, (0, 0, 0, 1, 0)), (.iload 6, (0, 0, 0, 0, 0)), (.iconst 2, (0, 0, 0, 2, 0)), (.irem, (0, 0, 0, 0, 0)), (.iconst 1, (0, 0, 0, 1, 0)), (.if_icmp .ne 17, (0, 67, 0, 0, 0)), (.iload 6, (0, 0, 0, 0, 0)), (.iload_n 2, (0, 0, 0, 0, 0)), (.if_icmp .le 11, (0, 67, 0, 0, 0)), (.iload 6, (0, 0, 0, 0, 0)), (.istore_n 2, (0, 0, 0, 0, 0)), (.aload_n 0, (0, 0, 0, 0, 0)), (.getfield 150, (1, 0, 16, 0, 0)), (.istore_n 3, (0, 0, 0, 0, 0)), (.aload_n 0, (0, 0, 0, 0, 0)), (.invokevirtual 209, (0, 0, 0, 0, 0)), (.istore 5, (0, 0, 0, 0, 0)), (.iload 5, (0, 0, 0, 0, 0)), (.ifCond .ge 5, (0, 80, 0, 0, 0)), (.iconst (-1), (0, 0, 0, (-1), 0)), (.ireturn, (0, 0, 0, 0, 0)), (.goto (-65), (0, 15, 0, 0, 0)), (.iload 4, (0, 0, 0, 0, 0)), (.ifCond .ne 7, (0, 92, 0, 0, 0)), (.iconst (-1), (0, 0, 0, (-1), 0)), (.goto 4, (0, 93, 0, 0, 0)), (.iload_n 3, (0, 0, 0, 0, 0)), (.ireturn, (0, 0, 0, 0, 0))]
theorem jc_Mo_accepted : wq_c b_Mo_accepted 7 j_Mo_accepted 0 = true := by decide +kernel
def j_Mo_tongue : wq_J := [(.aload_n 0, (0, 0, 0, 0, 0)), (.getfield 108, (1, 0, 12, 0, 0)), (.istore_n 1, (0, 0, 0, 0, 0)), (.iconst 0, (0, 0, 0, 0, 0)), (.istore_n 2, (0, 0, 0, 0, 0)), (.iconst 1, (0, 0, 0, 1, 0)), (.istore_n 3, (0, 0, 0, 0, 0)), (.iconst 1, (0, 0, 0, 1, 0)), (.istore 4, (0, 0, 0, 0, 0)), (.iload_n 3, (0, 0, 0, 0, 0)), (.ifCond .eq 93, (0, 106, 0, 0, 0)), (.aload_n 0, (0, 0, 0, 0, 0)), (.invokevirtual 115, (0, 0, 0, 0, 0)), (.invokestatic 123, (0, 0, 0, 0, 0)), (.ifCond .ne 27, (0, 50, 0, 0, 0)), (.iload 4, (0, 0, 0, 0, 0)), (.ifCond .ne 13, (0, 41, 0, 0, 0)), (.aload_n 0, (0, 0, 0, 0, 0)), (.invokevirtual 115, (0, 0, 0, 0, 0)), (.invokestatic 119, (0, 0, 0, 0, 0)), (.ifCond .ne 12, (0, 50, 0, 0, 0)), (.aload_n 0, (0, 0, 0, 0, 0)), (.invokevirtual 115, (0, 0, 0, 0, 0)), (.bipush 45, (0, 0, 0, 45, 0)), (.if_icmp .ne 59, (0, 106, 0, 0, 0)), (.aload_n 0, (0, 0, 0, 0, 0)), (.invokevirtual 115, (0, 0, 0, 0, 0)), (.bipush 45, (0, 0, 0, 45, 0)), (.if_icmp .ne 22, (0, 78, 0, 0, 0)), (.iload_n 2, (0, 0, 0, 0, 0)), (.iconst 1, (0, 0, 0, 1, 0)), (.if_icmp .lt 7, (0, 68, 0, 0, 0)), (.iconst 1, (0, 0, 0, 1, 0)), (.goto 4, (0, 69, 0, 0, 0)), (.iconst 0, (0, 0, 0, 0, 0)), (.istore_n 3, (0, 0, 0, 0, 0)), (.iconst 0, (0, 0, 0, 0, 0)), (.istore_n 2, (0, 0, 0, 0, 0)), (.iconst 0, (0, 0, 0, 0, 0)), (.istore 4, (0, 0, 0, 0, 0)), (.goto 18, (0, 93, 0, 0, 0)), (.iinc 2 1, (0, 0, 0, 1, 0)), (.iload_n 2, (0, 0, 0, 0, 0)), (.bipush 8, (0, 0, 0, 8, 0)), (.if_icmp .gt 7, (0, 91, 0, 0, 0)), (.iconst 1, (0, 0, 0, 1, 0)), (.goto 4, (0, 92, 0, 0, 0)), (.iconst 0, (0, 0, 0, 0, 0)), (.istore_n 3, (0, 0, 0, 0, 0)), (.aload_n 0, (0, 0, 0, 0, 0)), (.dup, (0, 0, 0, 0, 0)), (.getfield 108, (1, 0, 12, 0, 0)), (.iconst 1, (0, 0, 0, 1, 0)), (.iadd, (0, 0, 0, 0, 0)), (.putfield 108, (1, 0, 12, 0, 0)), (.goto (-91), (0, 12, 0, 0, 0)), (.aload_n 0, (0, 0, 0, 0, 0)), (.iload_n 1, (0, 0, 0, 0, 0)), (.putfield 126, (1, 0, 13, 0, 0)), (.aload_n 0, (0, 0, 0, 0, 0)), (.aload_n 0, (0, 0, 0, 0, 0)), (.getfield 108, (1, 0, 12, 0, 0)), (.putfield 132, (1, 0, 14, 0, 0)), (.iload_n 3, (0, 0, 0, 0, 0)), (.ifCond .eq 12, (0, 132, 0, 0, 0)), (.iload_n 2, (0, 0, 0, 0, 0)), (.iconst 1, (0, 0, 0, 1, 0)), (.if_icmp .lt 7, (0, 132, 0, 0, 0)), (.iconst 1, (0, 0, 0, 1, 0)), (.goto 4, (0, 133, 0, 0, 0)), (.iconst 0, (0, 0, 0, 0, 0)), (.ireturn, (0, 0, 0, 0, 0))]
theorem jc_Mo_tongue : wq_c b_Mo_tongue 5 j_Mo_tongue 0 = true := by decide +kernel
def j_Mo_speaks : wq_J := [(.aload_n 0, (0, 0, 0, 0, 0)), (.getfield 55, (1, 0, 30, 0, 0)), (.bipush 10, (0, 0, 0, 10, 0)), (.iload_n 1, (0, 0, 0, 0, 0)), (.iadd, (0, 0, 0, 0, 0)), (.laload, (1, 13, 0, 0, 0)), (.lstore_n 2, (0, 0, 0, 0, 0)), (.aload_n 0, (0, 0, 0, 0, 0)), (.getfield 132, (1, 0, 14, 0, 0)), (.aload_n 0, (0, 0, 0, 0, 0)), (.getfield 126, (1, 0, 13, 0, 0)), (.isub, (0, 0, 0, 0, 0)), (.istore 4, (0, 0, 0, 0, 0)), (.iload 4, (0, 0, 0, 0, 0)), (.lload_n 2, (0, 0, 0, 0, 0)), (.invokestatic 135, (0, 0, 0, 0, 0)), (.if_icmp .le 5, (0, 32, 0, 0, 0)), (.iconst 0, (0, 0, 0, 0, 0)), (.ireturn, (0, 0, 0, 0, 0)), (.iconst 0, (0, 0, 0, 0, 0)), (.istore 5, (0, 0, 0, 0, 0)), (.iload 5, (0, 0, 0, 0, 0)), (.iload 4, (0, 0, 0, 0, 0)), (.if_icmp .ge 40, (0, 79, 0, 0, 0)), (.aload_n 0, (0, 0, 0, 0, 0)), (.aload_n 0, (0, 0, 0, 0, 0)), (.getfield 126, (1, 0, 13, 0, 0)), (.iload 5, (0, 0, 0, 0, 0)), (.iadd, (0, 0, 0, 0, 0)), (.invokevirtual 111, (0, 0, 0, 0, 0)), (.invokestatic 139, (0, 0, 0, 0, 0)), (.lload_n 2, (0, 0, 0, 0, 0)), (.bipush 8, (0, 0, 0, 8, 0)), (.iload 5, (0, 0, 0, 0, 0)), (.imul, (0, 0, 0, 0, 0)), (.lshr, (0, 0, 0, 0, 0)), (.ldc2_w 103, (1, 0, 0, 0, 255)), (.land, (0, 0, 0, 0, 0)), (.l2i, (0, 0, 0, 0, 0)), (.if_icmp .eq 5, (0, 73, 0, 0, 0)), (.iconst 0, (0, 0, 0, 0, 0)), (.ireturn, (0, 0, 0, 0, 0)), (.iinc 5 1, (0, 0, 0, 1, 0)), (.goto (-41), (0, 35, 0, 0, 0)), (.iload 4, (0, 0, 0, 0, 0)), (.lload_n 2, (0, 0, 0, 0, 0)), (.invokestatic 135, (0, 0, 0, 0, 0)), (.if_icmp .eq 21, (0, 106, 0, 0, 0)), (.lload_n 2, (0, 0, 0, 0, 0)), (.bipush 8, (0, 0, 0, 8, 0)), (.iload 4, (0, 0, 0, 0, 0)), (.imul, (0, 0, 0, 0, 0)), (.lshr, (0, 0, 0, 0, 0)), (.ldc2_w 103, (1, 0, 0, 0, 255)), (.land, (0, 0, 0, 0, 0)), (.ldc2_w 212, (1, 0, 0, 0, 45)), (.lcmp, (0, 0, 0, 0, 0)), (.ifCond .ne 7, (0, 110, 0, 0, 0)), (.iconst 1, (0, 0, 0, 1, 0)), (.goto 4, (0, 111, 0, 0, 0)), (.iconst 0, (0, 0, 0, 0, 0)), (.ireturn, (0, 0, 0, 0, 0))]
theorem jc_Mo_speaks : wq_c b_Mo_speaks 6 j_Mo_speaks 0 = true := by decide +kernel
def j_Mo_spoken : wq_J := [(.aload_n 0, (0, 0, 0, 0, 0)), (.iconst 1, (0, 0, 0, 1, 0)), (.invokevirtual 199, (0, 0, 0, 0, 0)), (.iconst 0, (0, 0, 0, 0, 0)), (.istore_n 2, (0, 0, 0, 0, 0)), (.iconst 0, (0, 0, 0, 0, 0)), (.istore_n 3, (0, 0, 0, 0, 0)), (.iconst (-1), (0, 0, 0, (-1), 0)), (.istore 4, (0, 0, 0, 0, 0)), (.iconst 0, (0, 0, 0, 0, 0)), (.istore 5, (0, 0, 0, 0, 0)), (.iconst 1, (0, 0, 0, 1, 0)), (.istore 6, (0, 0, 0, 0, 0)), (.iload 6, (0, 0, 0, 0, 0)), (.iconst 1, (0, 0, 0, 1, 0)), (.if_icmp .ne 145, (0, 166, 0, 0, 0)), (.aload_n 0, (0, 0, 0, 0, 0)), (.invokevirtual 203, (0, 0, 0, 0, 0)), (.ifCond .eq 138, (0, 166, 0, 0, 0)), (.aload_n 0, (0, 0, 0, 0, 0)), (.bipush 42, (0, 0, 0, 42, 0)), (.invokevirtual 153, (0, 0, 0, 0, 0)), (.istore 7, (0, 0, 0, 0, 0)), (.iload 7, (0, 0, 0, 0, 0)), (.ifCond .ne 12, (0, 53, 0, 0, 0)), (.aload_n 0, (0, 0, 0, 0, 0)), (.invokevirtual 214, (0, 0, 0, 0, 0)), (.ifCond .ne 5, (0, 53, 0, 0, 0)), (.iconst (-1), (0, 0, 0, (-1), 0)), (.ireturn, (0, 0, 0, 0, 0)), (.iload 7, (0, 0, 0, 0, 0)), (.ifCond .eq 7, (0, 62, 0, 0, 0)), (.iconst 0, (0, 0, 0, 0, 0)), (.goto 12, (0, 71, 0, 0, 0)), (.aload_n 0, (0, 0, 0, 0, 0)), (.getfield 132, (1, 0, 14, 0, 0)), (.aload_n 0, (0, 0, 0, 0, 0)), (.getfield 126, (1, 0, 13, 0, 0)), (.isub, (0, 0, 0, 0, 0)), (.istore 8, (0, 0, 0, 0, 0)), (.iload 7, (0, 0, 0, 0, 0)), (.ifCond .ne 20, (0, 95, 0, 0, 0)), (.iload_n 1, (0, 0, 0, 0, 0)), (.iconst 5, (0, 0, 0, 5, 0)), (.if_icmp .ge 15, (0, 95, 0, 0, 0)), (.aload_n 0, (0, 0, 0, 0, 0)), (.iload_n 1, (0, 0, 0, 0, 0)), (.invokevirtual 217, (0, 0, 0, 0, 0)), (.ifCond .eq 7, (0, 95, 0, 0, 0)), (.iconst 1, (0, 0, 0, 1, 0)), (.goto 4, (0, 96, 0, 0, 0)), (.iconst 0, (0, 0, 0, 0, 0)), (.istore 9, (0, 0, 0, 0, 0)), (.aload_n 0, (0, 0, 0, 0, 0)), (.invokevirtual 220, (0, 0, 0, 0, 0)), (.ifCond .ne 5, (0, 107, 0, 0, 0)), (.iconst (-1), (0, 0, 0, (-1), 0)), (.ireturn, (0, 0, 0, 0, 0)), (.iinc 5 1, (0, 0, 0, 1, 0)), (.iload 7, (0, 0, 0, 0, 0)), (.ifCond .eq 15, (0, 127, 0, 0, 0)), (.iload 4, (0, 0, 0, 0, 0)), (.ifCond .ge 10, (0, 127, 0, 0, 0)), (.aload_n 0, (0, 0, 0, 0, 0)), (.getfield 150, (1, 0, 16, 0, 0)), (.goto 5, (0, 129, 0, 0, 0)), (.iload 4, (0, 0, 0, 0, 0)), (.istore 4, (0, 0, 0, 0, 0)), (.iload 9, (0, 0, 0, 0, 0)), (.ifCond .eq 17, (0, 150, 0, 0, 0)), (.iload 8, (0, 0, 0, 0, 0)), (.iload_n 2, (0, 0, 0, 0, 0)), (.if_icmp .le 11, (0, 150, 0, 0, 0)), (.iload 8, (0, 0, 0, 0, 0)), (.istore_n 2, (0, 0, 0, 0, 0)), (.aload_n 0, (0, 0, 0, 0, 0)), (.getfield 150, (1, 0, 16, 0, 0)), (.istore_n 3, (0, 0, 0, 0, 0)), (.aload_n 0, (0, 0, 0, 0, 0)), (.invokevirtual 209, (0, 0, 0, 0, 0)), (.istore 6, (0, 0, 0, 0, 0)), (.iload 6, (0, 0, 0, 0, 0)), (.ifCond .ge 5, (0, 163, 0, 0, 0)), (.iconst (-1), (0, 0, 0, (-1), 0)), (.ireturn, (0, 0, 0, 0, 0)), (.goto (-145), (0, 18, 0, 0, 0)), (.iload 5, (0, 0, 0, 0, 0)), (.ifCond .ne 7, (0, 175, 0, 0, 0)), (.iconst (-1), (0, 0, 0, (-1), 0)), (.goto 22, (0, 194, 0, 0, 0)), (.iload_n 2, (0, 0, 0, 0, 0)), (.ifCond .le 7, (0, 183, 0, 0, 0)), (.iload_n 3, (0, 0, 0, 0, 0)), (.goto 14, (0, 194, 0, 0, 0)), (.iload 4, (0, 0, 0, 0, 0)), (.ifCond .ge 7, (0, 192, 0, 0, 0)), (.iconst 0, (0, 0, 0, 0, 0)), (.goto 5, (0, 194, 0, 0, 0)), (.iload 4, (0, 0, 0, 0, 0)), (.ireturn, (0, 0, 0, 0, 0))]
theorem jc_Mo_spoken : wq_c b_Mo_spoken 10 j_Mo_spoken 0 = true := by decide +kernel
def j_Mo_scoreOf : wq_J := [(.aload_n 0, (0, 0, 0, 0, 0)), (.iconst 0, (0, 0, 0, 0, 0)), (.invokevirtual 223, (0, 0, 0, 0, 0)), (.ifCond .eq 16, (0, 21, 0, 0, 0)), (.aload_n 0, (0, 0, 0, 0, 0)), (.aload_n 0, (0, 0, 0, 0, 0)), (.getfield 7, (1, 0, 2, 0, 0)), (.iload_n 1, (0, 0, 0, 0, 0)), (.iaload, (1, 1, 0, 0, 0)), (.invokevirtual 226, (0, 0, 0, 0, 0)), (.goto 4, (0, 22, 0, 0, 0)), (.iconst (-1), (0, 0, 0, (-1), 0)), (.istore_n 2, (0, 0, 0, 0, 0)), (.aload_n 0, (0, 0, 0, 0, 0)), (.iconst 1, (0, 0, 0, 1, 0)), (.invokevirtual 223, (0, 0, 0, 0, 0)), (.ifCond .eq 16, (0, 44, 0, 0, 0)), (.aload_n 0, (0, 0, 0, 0, 0)), (.aload_n 0, (0, 0, 0, 0, 0)), (.getfield 13, (1, 0, 3, 0, 0)), (.iload_n 1, (0, 0, 0, 0, 0)), (.iaload, (1, 2, 0, 0, 0)), (.invokevirtual 229, (0, 0, 0, 0, 0)), (.goto 4, (0, 45, 0, 0, 0)), (.iconst (-1), (0, 0, 0, (-1), 0)), (.istore_n 3, (0, 0, 0, 0, 0)), (.iload_n 2, (0, 0, 0, 0, 0)), (.ifCond .ge 9, (0, 56, 0, 0, 0)), (.sipush 1000, (0, 0, 0, 1000, 0)), (.goto 4, (0, 57, 0, 0, 0)), (.iload_n 2, (0, 0, 0, 0, 0)), (.istore_n 2, (0, 0, 0, 0, 0)), (.iload_n 3, (0, 0, 0, 0, 0)), (.ifCond .lt 13, (0, 72, 0, 0, 0)), (.aload_n 0, (0, 0, 0, 0, 0)), (.getfield 13, (1, 0, 3, 0, 0)), (.iload_n 1, (0, 0, 0, 0, 0)), (.iaload, (1, 2, 0, 0, 0)), (.iconst 5, (0, 0, 0, 5, 0)), (.if_icmp .ne 9, (0, 78, 0, 0, 0)), (.sipush 1000, (0, 0, 0, 1000, 0)), (.goto 4, (0, 79, 0, 0, 0)), (.iload_n 3, (0, 0, 0, 0, 0)), (.istore_n 3, (0, 0, 0, 0, 0)), (.iload_n 2, (0, 0, 0, 0, 0)), (.iload_n 3, (0, 0, 0, 0, 0)), (.imul, (0, 0, 0, 0, 0)), (.ireturn, (0, 0, 0, 0, 0))]
theorem jc_Mo_scoreOf : wq_c b_Mo_scoreOf 4 j_Mo_scoreOf 0 = true := by decide +kernel
def j_Mo_tagText : wq_J := [(.aload_n 0, (0, 0, 0, 0, 0)), (.aload_n 0, (0, 0, 0, 0, 0)), (.invokevirtual 115, (0, 0, 0, 0, 0)), (.bipush 87, (0, 0, 0, 87, 0)), (.if_icmp .ne 22, (0, 29, 0, 0, 0)), (.aload_n 0, (0, 0, 0, 0, 0)), (.aload_n 0, (0, 0, 0, 0, 0)), (.getfield 108, (1, 0, 12, 0, 0)), (.iconst 1, (0, 0, 0, 1, 0)), (.iadd, (0, 0, 0, 0, 0)), (.invokevirtual 111, (0, 0, 0, 0, 0)), (.bipush 47, (0, 0, 0, 47, 0)), (.if_icmp .ne 7, (0, 29, 0, 0, 0)), (.iconst 1, (0, 0, 0, 1, 0)), (.goto 4, (0, 30, 0, 0, 0)), (.iconst 0, (0, 0, 0, 0, 0)), (.putfield 232, (1, 0, 15, 0, 0)), (.aload_n 0, (0, 0, 0, 0, 0)), (.aload_n 0, (0, 0, 0, 0, 0)), (.getfield 232, (1, 0, 15, 0, 0)), (.ifCond .eq 12, (0, 50, 0, 0, 0)), (.aload_n 0, (0, 0, 0, 0, 0)), (.getfield 108, (1, 0, 12, 0, 0)), (.iconst 2, (0, 0, 0, 2, 0)), (.iadd, (0, 0, 0, 0, 0)), (.goto 7, (0, 54, 0, 0, 0)), (.aload_n 0, (0, 0, 0, 0, 0)), (.getfield 108, (1, 0, 12, 0, 0)), (.putfield 108, (1, 0, 12, 0, 0)), (.aload_n 0, (0, 0, 0, 0, 0)), (.bipush 34, (0, 0, 0, 34, 0)), (.invokevirtual 153, (0, 0, 0, 0, 0)), (.ifCond .ne 5, (0, 68, 0, 0, 0)), (.iconst 0, (0, 0, 0, 0, 0)), (.ireturn, (0, 0, 0, 0, 0)), (.aload_n 0, (0, 0, 0, 0, 0)), (.aload_n 0, (0, 0, 0, 0, 0)), (.getfield 108, (1, 0, 12, 0, 0)), (.putfield 126, (1, 0, 13, 0, 0)), (.aload_n 0, (0, 0, 0, 0, 0)), (.invokevirtual 115, (0, 0, 0, 0, 0)), (.bipush 33, (0, 0, 0, 33, 0)), (.if_icmp .eq 31, (0, 113, 0, 0, 0)), (.aload_n 0, (0, 0, 0, 0, 0)), (.invokevirtual 115, (0, 0, 0, 0, 0)), (.bipush 35, (0, 0, 0, 35, 0)), (.if_icmp .lt 12, (0, 103, 0, 0, 0)), (.aload_n 0, (0, 0, 0, 0, 0)), (.invokevirtual 115, (0, 0, 0, 0, 0)), (.bipush 126, (0, 0, 0, 126, 0)), (.if_icmp .le 13, (0, 113, 0, 0, 0)), (.aload_n 0, (0, 0, 0, 0, 0)), (.invokevirtual 115, (0, 0, 0, 0, 0)), (.sipush 128, (0, 0, 0, 128, 0)), (.if_icmp .lt 16, (0, 126, 0, 0, 0)), (.aload_n 0, (0, 0, 0, 0, 0)), (.dup, (0, 0, 0, 0, 0)), (.getfield 108, (1, 0, 12, 0, 0)), (.iconst 1, (0, 0, 0, 1, 0)), (.iadd, (0, 0, 0, 0, 0)), (.putfield 108, (1, 0, 12, 0, 0)), (.goto (-47), (0, 76, 0, 0, 0)), (.aload_n 0, (0, 0, 0, 0, 0)), (.aload_n 0, (0, 0, 0, 0, 0)), (.getfield 108, (1, 0, 12, 0, 0)), (.putfield 132, (1, 0, 14, 0, 0)), (.aload_n 0, (0, 0, 0, 0, 0)), (.bipush 34, (0, 0, 0, 34, 0)), (.invokevirtual 153, (0, 0, 0, 0, 0)), (.ireturn, (0, 0, 0, 0, 0))]
theorem jc_Mo_tagText : wq_c b_Mo_tagText 1 j_Mo_tagText 0 = true := by decide +kernel
def j_Mo_isTagOf : wq_J := [(.aload_n 0, (0, 0, 0, 0, 0)), (.getfield 19, (1, 0, 5, 0, 0)), (.iload_n 1, (0, 0, 0, 0, 0)), (.iaload, (1, 4, 0, 0, 0)), (.bipush 10, (0, 0, 0, 10, 0)), (.if_icmp .ge 7, (0, 15, 0, 0, 0)), (.iconst 1, (0, 0, 0, 1, 0)), (.goto 35, (0, 47, 0, 0, 0)), (.aload_n 0, (0, 0, 0, 0, 0)), (.getfield 19, (1, 0, 5, 0, 0)), (.iload_n 1, (0, 0, 0, 0, 0)), (.iaload, (1, 4, 0, 0, 0)), (.bipush 100, (0, 0, 0, 100, 0)), (.if_icmp .ge 7, (0, 30, 0, 0, 0)), (.iconst 2, (0, 0, 0, 2, 0)), (.goto 20, (0, 47, 0, 0, 0)), (.aload_n 0, (0, 0, 0, 0, 0)), (.getfield 19, (1, 0, 5, 0, 0)), (.iload_n 1, (0, 0, 0, 0, 0)), (.iaload, (1, 4, 0, 0, 0)), (.sipush 1000, (0, 0, 0, 1000, 0)), (.if_icmp .ge 7, (0, 46, 0, 0, 0)), (.iconst 3, (0, 0, 0, 3, 0)), (.goto 4, (0, 47, 0, 0, 0)), (.iconst 4, (0, 0, 0, 4, 0)), (.istore_n 2, (0, 0, 0, 0, 0)), (.aload_n 0, (0, 0, 0, 0, 0)), (.getfield 132, (1, 0, 14, 0, 0)), (.aload_n 0, (0, 0, 0, 0, 0)), (.getfield 126, (1, 0, 13, 0, 0)), (.isub, (0, 0, 0, 0, 0)), (.iload_n 2, (0, 0, 0, 0, 0)), (.iconst 1, (0, 0, 0, 1, 0)), (.iadd, (0, 0, 0, 0, 0)), (.if_icmp .ne 20, (0, 80, 0, 0, 0)), (.aload_n 0, (0, 0, 0, 0, 0)), (.aload_n 0, (0, 0, 0, 0, 0)), (.getfield 126, (1, 0, 13, 0, 0)), (.invokevirtual 111, (0, 0, 0, 0, 0)), (.bipush 118, (0, 0, 0, 118, 0)), (.if_icmp .ne 7, (0, 80, 0, 0, 0)), (.iconst 1, (0, 0, 0, 1, 0)), (.goto 4, (0, 81, 0, 0, 0)), (.iconst 0, (0, 0, 0, 0, 0)), (.istore_n 3, (0, 0, 0, 0, 0)), (.aload_n 0, (0, 0, 0, 0, 0)), (.getfield 19, (1, 0, 5, 0, 0)), (.iload_n 1, (0, 0, 0, 0, 0)), (.iaload, (1, 4, 0, 0, 0)), (.istore 4, (0, 0, 0, 0, 0)), (.iload_n 2, (0, 0, 0, 0, 0)), (.istore 5, (0, 0, 0, 0, 0)), (.iload 5, (0, 0, 0, 0, 0)), (.ifCond .le 48, (0, 143, 0, 0, 0)), (.iload_n 3, (0, 0, 0, 0, 0)), (.ifCond .eq 29, (0, 128, 0, 0, 0)), (.aload_n 0, (0, 0, 0, 0, 0)), (.aload_n 0, (0, 0, 0, 0, 0)), (.getfield 126, (1, 0, 13, 0, 0)), (.iload 5, (0, 0, 0, 0, 0)), (.iadd, (0, 0, 0, 0, 0)), (.invokevirtual 111, (0, 0, 0, 0, 0)), (.bipush 48, (0, 0, 0, 48, 0)), (.iload 4, (0, 0, 0, 0, 0)), (.bipush 10, (0, 0, 0, 10, 0)), (.irem, (0, 0, 0, 0, 0)), (.iadd, (0, 0, 0, 0, 0)), (.if_icmp .ne 7, (0, 128, 0, 0, 0)), (.iconst 1, (0, 0, 0, 1, 0)), (.goto 4, (0, 129, 0, 0, 0)), (.iconst 0, (0, 0, 0, 0, 0)), (.istore_n 3, (0, 0, 0, 0, 0)), (.iload 4, (0, 0, 0, 0, 0)), (.bipush 10, (0, 0, 0, 10, 0)), (.idiv, (0, 0, 0, 0, 0)), (.istore 4, (0, 0, 0, 0, 0)), (.iinc 5 (-1), (0, 0, 0, (-1), 0)), (.goto (-47), (0, 93, 0, 0, 0)), (.iload_n 3, (0, 0, 0, 0, 0)), (.ireturn, (0, 0, 0, 0, 0))]
theorem jc_Mo_isTagOf : wq_c b_Mo_isTagOf 6 j_Mo_isTagOf 0 = true := by decide +kernel
def j_Mo_tags : wq_J := [(.aload_n 0, (0, 0, 0, 0, 0)), (.iload_n 1, (0, 0, 0, 0, 0)), (.invokevirtual 199, (0, 0, 0, 0, 0)), (.aload_n 0, (0, 0, 0, 0, 0)), (.invokevirtual 156, (0, 0, 0, 0, 0)), (.aload_n 0, (0, 0, 0, 0, 0)), (.bipush 42, (0, 0, 0, 42, 0)), (.invokevirtual 153, (0, 0, 0, 0, 0)), (.ifCond .eq 20, (0, 35, 0, 0, 0)), (.aload_n 0, (0, 0, 0, 0, 0)), (.invokevirtual 156, (0, 0, 0, 0, 0)), (.aload_n 0, (0, 0, 0, 0, 0)), (.invokevirtual 166, (0, 0, 0, 0, 0)), (.ifCond .eq 7, (0, 33, 0, 0, 0)), (.iconst 1, (0, 0, 0, 1, 0)), (.goto 4, (0, 34, 0, 0, 0)), (.iconst (-1), (0, 0, 0, (-1), 0)), (.ireturn, (0, 0, 0, 0, 0)), (.iconst 0, (0, 0, 0, 0, 0)), (.istore 4, (0, 0, 0, 0, 0)), (.iconst 0, (0, 0, 0, 0, 0)), (.istore 5, (0, 0, 0, 0, 0)), (.iconst 1, (0, 0, 0, 1, 0)), (.istore 6, (0, 0, 0, 0, 0)), (.iload 6, (0, 0, 0, 0, 0)), (.iconst 1, (0, 0, 0, 1, 0)), (.if_icmp .ne 90, (0, 137, 0, 0, 0)), (.aload_n 0, (0, 0, 0, 0, 0)), (.invokevirtual 203, (0, 0, 0, 0, 0)), (.ifCond .eq 83, (0, 137, 0, 0, 0)), (.aload_n 0, (0, 0, 0, 0, 0)), (.invokevirtual 235, (0, 0, 0, 0, 0)), (.ifCond .ne 5, (0, 66, 0, 0, 0)), (.iconst (-1), (0, 0, 0, (-1), 0)), (.ireturn, (0, 0, 0, 0, 0)), (.iinc 5 1, (0, 0, 0, 1, 0)), (.iload_n 2, (0, 0, 0, 0, 0)), (.ifCond .lt 35, (0, 105, 0, 0, 0)), (.aload_n 0, (0, 0, 0, 0, 0)), (.iload_n 2, (0, 0, 0, 0, 0)), (.invokevirtual 238, (0, 0, 0, 0, 0)), (.ifCond .eq 27, (0, 105, 0, 0, 0)), (.iload_n 3, (0, 0, 0, 0, 0)), (.ifCond .eq 19, (0, 101, 0, 0, 0)), (.aload_n 0, (0, 0, 0, 0, 0)), (.getfield 232, (1, 0, 15, 0, 0)), (.ifCond .ne 16, (0, 105, 0, 0, 0)), (.aload_n 0, (0, 0, 0, 0, 0)), (.getfield 22, (1, 0, 6, 0, 0)), (.iload_n 2, (0, 0, 0, 0, 0)), (.baload, (4, 5, 0, 0, 0)), (.ifCond .ne 7, (0, 105, 0, 0, 0)), (.iconst 1, (0, 0, 0, 1, 0)), (.goto 4, (0, 106, 0, 0, 0)), (.iconst 0, (0, 0, 0, 0, 0)), (.istore 7, (0, 0, 0, 0, 0)), (.iload 7, (0, 0, 0, 0, 0)), (.ifCond .eq 7, (0, 117, 0, 0, 0)), (.iconst 1, (0, 0, 0, 1, 0)), (.goto 5, (0, 119, 0, 0, 0)), (.iload 4, (0, 0, 0, 0, 0)), (.istore 4, (0, 0, 0, 0, 0)), (.aload_n 0, (0, 0, 0, 0, 0)), (.invokevirtual 209, (0, 0, 0, 0, 0)), (.istore 6, (0, 0, 0, 0, 0)), (.iload 6, (0, 0, 0, 0, 0)), (.ifCond .ge 5, (0, 134, 0, 0, 0)), (.iconst (-1), (0, 0, 0, (-1), 0)), (.ireturn, (0, 0, 0, 0, 0)), (.goto (-90), (0, 44, 0, 0, 0)), (.iload 5, (0, 0, 0, 0, 0)), (.ifCond .ne 7, (0, 146, 0, 0, 0)), (.iconst (-1), (0, 0, 0, (-1), 0)), (.goto 5, (0, 148, 0, 0, 0)), (.iload 4, (0, 0, 0, 0, 0)), (.ireturn, (0, 0, 0, 0, 0))]
theorem jc_Mo_tags : wq_c b_Mo_tags 8 j_Mo_tags 0 = true := by decide +kernel
def j_Mo_digits : wq_J := [(.iconst 0, (0, 0, 0, 0, 0)), (.istore_n 2, (0, 0, 0, 0, 0)), (.iconst 0, (0, 0, 0, 0, 0)), (.istore_n 3, (0, 0, 0, 0, 0)), (.iload_n 3, (0, 0, 0, 0, 0)), (.iload_n 1, (0, 0, 0, 0, 0)), (.if_icmp .ge 44, (0, 50, 0, 0, 0)), (.aload_n 0, (0, 0, 0, 0, 0)), (.invokevirtual 115, (0, 0, 0, 0, 0)), (.invokestatic 119, (0, 0, 0, 0, 0)), (.ifCond .ne 5, (0, 21, 0, 0, 0)), (.iconst (-1), (0, 0, 0, (-1), 0)), (.ireturn, (0, 0, 0, 0, 0)), (.bipush 10, (0, 0, 0, 10, 0)), (.iload_n 2, (0, 0, 0, 0, 0)), (.imul, (0, 0, 0, 0, 0)), (.aload_n 0, (0, 0, 0, 0, 0)), (.invokevirtual 115, (0, 0, 0, 0, 0)), (.iadd, (0, 0, 0, 0, 0)), (.bipush 48, (0, 0, 0, 48, 0)), (.isub, (0, 0, 0, 0, 0)), (.istore_n 2, (0, 0, 0, 0, 0)), (.aload_n 0, (0, 0, 0, 0, 0)), (.dup, (0, 0, 0, 0, 0)), (.getfield 108, (1, 0, 12, 0, 0)), (.iconst 1, (0, 0, 0, 1, 0)), (.iadd, (0, 0, 0, 0, 0)), (.putfield 108, (1, 0, 12, 0, 0)), (.iinc 3 1, (0, 0, 0, 1, 0)), (.goto (-43), (0, 4, 0, 0, 0)), (.iload_n 2, (0, 0, 0, 0, 0)), (.ireturn, (0, 0, 0, 0, 0))]
theorem jc_Mo_digits : wq_c b_Mo_digits 4 j_Mo_digits 0 = true := by decide +kernel
def j_Mo_three : wq_J := [(.aload_n 0, (0, 0, 0, 0, 0)), (.aload_n 0, (0, 0, 0, 0, 0)), (.getfield 108, (1, 0, 12, 0, 0)), (.invokevirtual 111, (0, 0, 0, 0, 0)), (.aload_n 0, (0, 0, 0, 0, 0)), (.aload_n 0, (0, 0, 0, 0, 0)), (.getfield 108, (1, 0, 12, 0, 0)), (.iconst 1, (0, 0, 0, 1, 0)), (.iadd, (0, 0, 0, 0, 0)), (.invokevirtual 111, (0, 0, 0, 0, 0)), (.bipush 8, (0, 0, 0, 8, 0)), (.ishl, (0, 0, 0, 0, 0)), (.ior, (0, 0, 0, 0, 0)), (.aload_n 0, (0, 0, 0, 0, 0)), (.aload_n 0, (0, 0, 0, 0, 0)), (.getfield 108, (1, 0, 12, 0, 0)), (.iconst 2, (0, 0, 0, 2, 0)), (.iadd, (0, 0, 0, 0, 0)), (.invokevirtual 111, (0, 0, 0, 0, 0)), (.bipush 16, (0, 0, 0, 16, 0)), (.ishl, (0, 0, 0, 0, 0)), (.ior, (0, 0, 0, 0, 0)), (.istore_n 1, (0, 0, 0, 0, 0)), (.aload_n 0, (0, 0, 0, 0, 0)), (.dup, (0, 0, 0, 0, 0)), (.getfield 108, (1, 0, 12, 0, 0)), (.iconst 3, (0, 0, 0, 3, 0)), (.iadd, (0, 0, 0, 0, 0)), (.putfield 108, (1, 0, 12, 0, 0)), (.iload_n 1, (0, 0, 0, 0, 0)), (.ireturn, (0, 0, 0, 0, 0))]
theorem jc_Mo_three : wq_c b_Mo_three 2 j_Mo_three 0 = true := by decide +kernel
def j_Mo_dayName : wq_J := [(.aload_n 0, (0, 0, 0, 0, 0)), (.invokevirtual 241, (0, 0, 0, 0, 0)), (.lookupswitch 83 #[(6579543, 74), (6649172, 72), (6910534, 78), (7237453, 70), (7238995, 68), (7627091, 80), (7694420, 76)], (0, 68, 0, 0, 0)), (.iconst 0, (0, 0, 0, 0, 0)), (.ireturn, (0, 0, 0, 0, 0)), (.iconst 1, (0, 0, 0, 1, 0)), (.ireturn, (0, 0, 0, 0, 0)), (.iconst 2, (0, 0, 0, 2, 0)), (.ireturn, (0, 0, 0, 0, 0)), (.iconst 3, (0, 0, 0, 3, 0)), (.ireturn, (0, 0, 0, 0, 0)), (.iconst 4, (0, 0, 0, 4, 0)), (.ireturn, (0, 0, 0, 0, 0)), (.iconst 5, (0, 0, 0, 5, 0)), (.ireturn, (0, 0, 0, 0, 0)), (.bipush 6, (0, 0, 0, 6, 0)), (.ireturn, (0, 0, 0, 0, 0)), (.iconst (-1), (0, 0, 0, (-1), 0)), (.ireturn, (0, 0, 0, 0, 0))]
theorem jc_Mo_dayName : wq_c b_Mo_dayName 1 j_Mo_dayName 0 = true := by decide +kernel
def j_Mo_monthName : wq_J := [(.aload_n 0, (0, 0, 0, 0, 0)), (.invokevirtual 241, (0, 0, 0, 0, 0)), (.lookupswitch 139 #[(6448454, 110), (6513988, 136), (6780225, 124), (7107914, 121), (7233866, 108), (7238986, 118), (7365971, 127), (7496013, 112), (7499841, 114), (7627599, 130), (7761742, 133), (7954765, 116)], (0, 108, 0, 0, 0)), (.iconst 1, (0, 0, 0, 1, 0)), (.ireturn, (0, 0, 0, 0, 0)), (.iconst 2, (0, 0, 0, 2, 0)), (.ireturn, (0, 0, 0, 0, 0)), (.iconst 3, (0, 0, 0, 3, 0)), (.ireturn, (0, 0, 0, 0, 0)), (.iconst 4, (0, 0, 0, 4, 0)), (.ireturn, (0, 0, 0, 0, 0)), (.iconst 5, (0, 0, 0, 5, 0)), (.ireturn, (0, 0, 0, 0, 0)), (.bipush 6, (0, 0, 0, 6, 0)), (.ireturn, (0, 0, 0, 0, 0)), (.bipush 7, (0, 0, 0, 7, 0)), (.ireturn, (0, 0, 0, 0, 0)), (.bipush 8, (0, 0, 0, 8, 0)), (.ireturn, (0, 0, 0, 0, 0)), (.bipush 9, (0, 0, 0, 9, 0)), (.ireturn, (0, 0, 0, 0, 0)), (.bipush 10, (0, 0, 0, 10, 0)), (.ireturn, (0, 0, 0, 0, 0)), (.bipush 11, (0, 0, 0, 11, 0)), (.ireturn, (0, 0, 0, 0, 0)), (.bipush 12, (0, 0, 0, 12, 0)), (.ireturn, (0, 0, 0, 0, 0)), (.iconst (-1), (0, 0, 0, (-1), 0)), (.ireturn, (0, 0, 0, 0, 0))]
theorem jc_Mo_monthName : wq_c b_Mo_monthName 1 j_Mo_monthName 0 = true := by decide +kernel
def j_Mo_restOf : wq_J := [(.iload_n 1, (0, 0, 0, 0, 0)), (.iconst 2, (0, 0, 0, 2, 0)), (.if_icmp .ne 9, (0, 11, 0, 0, 0)), (.ldc2_w 244, (1, 0, 0, 0, 2036425843)), (.goto 40, (0, 48, 0, 0, 0)), (.iload_n 1, (0, 0, 0, 0, 0)), (.iconst 3, (0, 0, 0, 3, 0)), (.if_icmp .ne 9, (0, 22, 0, 0, 0)), (.ldc2_w 246, (1, 0, 0, 0, 133459204072814)), (.goto 29, (0, 48, 0, 0, 0)), (.iload_n 1, (0, 0, 0, 0, 0)), (.iconst 4, (0, 0, 0, 4, 0)), (.if_icmp .ne 9, (0, 33, 0, 0, 0)), (.ldc2_w 248, (1, 0, 0, 0, 521325015922)), (.goto 18, (0, 48, 0, 0, 0)), (.iload_n 1, (0, 0, 0, 0, 0)), (.bipush 6, (0, 0, 0, 6, 0)), (.if_icmp .ne 9, (0, 45, 0, 0, 0)), (.ldc2_w 250, (1, 0, 0, 0, 521325015669)), (.goto 6, (0, 48, 0, 0, 0)), (.ldc2_w 252, (1, 0, 0, 0, 7954788)), (.lstore_n 2, (0, 0, 0, 0, 0)), (.iconst 1, (0, 0, 0, 1, 0)), (.istore 4, (0, 0, 0, 0, 0)), (.iconst 0, (0, 0, 0, 0, 0)), (.istore 5, (0, 0, 0, 0, 0)), (.iload 5, (0, 0, 0, 0, 0)), (.lload_n 2, (0, 0, 0, 0, 0)), (.invokestatic 135, (0, 0, 0, 0, 0)), (.if_icmp .ge 40, (0, 101, 0, 0, 0)), (.iload 4, (0, 0, 0, 0, 0)), (.ifCond .eq 26, (0, 92, 0, 0, 0)), (.aload_n 0, (0, 0, 0, 0, 0)), (.lload_n 2, (0, 0, 0, 0, 0)), (.bipush 8, (0, 0, 0, 8, 0)), (.iload 5, (0, 0, 0, 0, 0)), (.imul, (0, 0, 0, 0, 0)), (.lshr, (0, 0, 0, 0, 0)), (.ldc2_w 103, (1, 0, 0, 0, 255)), (.land, (0, 0, 0, 0, 0)), (.l2i, (0, 0, 0, 0, 0)), (.invokevirtual 153, (0, 0, 0, 0, 0)), (.ifCond .eq 7, (0, 92, 0, 0, 0)), (.iconst 1, (0, 0, 0, 1, 0)), (.goto 4, (0, 93, 0, 0, 0)), (.iconst 0, (0, 0, 0, 0, 0)), (.istore 4, (0, 0, 0, 0, 0)), (.iinc 5 1, (0, 0, 0, 1, 0)), (.goto (-43), (0, 55, 0, 0, 0)), (.iload 4, (0, 0, 0, 0, 0)), (.ireturn, (0, 0, 0, 0, 0))]
theorem jc_Mo_restOf : wq_c b_Mo_restOf 6 j_Mo_restOf 0 = true := by decide +kernel
def j_Mo_time : wq_J := [(.aload_n 0, (0, 0, 0, 0, 0)), (.iconst 2, (0, 0, 0, 2, 0)), (.invokevirtual 254, (0, 0, 0, 0, 0)), (.istore_n 1, (0, 0, 0, 0, 0)), (.aload_n 0, (0, 0, 0, 0, 0)), (.bipush 58, (0, 0, 0, 58, 0)), (.invokevirtual 153, (0, 0, 0, 0, 0)), (.istore_n 2, (0, 0, 0, 0, 0)), (.aload_n 0, (0, 0, 0, 0, 0)), (.iconst 2, (0, 0, 0, 2, 0)), (.invokevirtual 254, (0, 0, 0, 0, 0)), (.istore_n 3, (0, 0, 0, 0, 0)), (.aload_n 0, (0, 0, 0, 0, 0)), (.bipush 58, (0, 0, 0, 58, 0)), (.invokevirtual 153, (0, 0, 0, 0, 0)), (.ifCond .eq 11, (0, 36, 0, 0, 0)), (.iload_n 2, (0, 0, 0, 0, 0)), (.ifCond .eq 7, (0, 36, 0, 0, 0)), (.iconst 1, (0, 0, 0, 1, 0)), (.goto 4, (0, 37, 0, 0, 0)), (.iconst 0, (0, 0, 0, 0, 0)), (.istore_n 2, (0, 0, 0, 0, 0)), (.aload_n 0, (0, 0, 0, 0, 0)), (.iconst 2, (0, 0, 0, 2, 0)), (.invokevirtual 254, (0, 0, 0, 0, 0)), (.istore 4, (0, 0, 0, 0, 0)), (.iload_n 2, (0, 0, 0, 0, 0)), (.ifCond .eq 51, (0, 97, 0, 0, 0)), (.iload_n 1, (0, 0, 0, 0, 0)), (.ifCond .lt 47, (0, 97, 0, 0, 0)), (.iload_n 1, (0, 0, 0, 0, 0)), (.bipush 23, (0, 0, 0, 23, 0)), (.if_icmp .gt 41, (0, 97, 0, 0, 0)), (.iload_n 3, (0, 0, 0, 0, 0)), (.ifCond .lt 37, (0, 97, 0, 0, 0)), (.iload_n 3, (0, 0, 0, 0, 0)), (.bipush 59, (0, 0, 0, 59, 0)), (.if_icmp .gt 31, (0, 97, 0, 0, 0)), (.iload 4, (0, 0, 0, 0, 0)), (.ifCond .lt 26, (0, 97, 0, 0, 0)), (.iload 4, (0, 0, 0, 0, 0)), (.bipush 59, (0, 0, 0, 59, 0)), (.if_icmp .gt 19, (0, 97, 0, 0, 0)), (.sipush 3600, (0, 0, 0, 3600, 0)), (.iload_n 1, (0, 0, 0, 0, 0)), (.imul, (0, 0, 0, 0, 0)), (.bipush 60, (0, 0, 0, 60, 0)), (.iload_n 3, (0, 0, 0, 0, 0)), (.imul, (0, 0, 0, 0, 0)), (.iadd, (0, 0, 0, 0, 0)), (.iload 4, (0, 0, 0, 0, 0)), (.iadd, (0, 0, 0, 0, 0)), (.goto 4, (0, 98, 0, 0, 0)), (.iconst (-1), (0, 0, 0, (-1), 0)), (.ireturn, (0, 0, 0, 0, 0))]
theorem jc_Mo_time : wq_c b_Mo_time 5 j_Mo_time 0 = true := by decide +kernel
def j_Mo_daysOf : wq_J := [(.iload_n 0, (0, 0, 0, 0, 0)), (.iconst 2, (0, 0, 0, 2, 0)), (.if_icmp .ne 19, (0, 21, 0, 0, 0)), (.iload_n 1, (0, 0, 0, 0, 0)), (.iconst 4, (0, 0, 0, 4, 0)), (.irem, (0, 0, 0, 0, 0)), (.ifCond .ne 8, (0, 16, 0, 0, 0)), (.bipush 29, (0, 0, 0, 29, 0)), (.goto 38, (0, 51, 0, 0, 0)), (.bipush 28, (0, 0, 0, 28, 0)), (.goto 33, (0, 51, 0, 0, 0)), (.iload_n 0, (0, 0, 0, 0, 0)), (.iconst 4, (0, 0, 0, 4, 0)), (.if_icmp .eq 21, (0, 44, 0, 0, 0)), (.iload_n 0, (0, 0, 0, 0, 0)), (.bipush 6, (0, 0, 0, 6, 0)), (.if_icmp .eq 15, (0, 44, 0, 0, 0)), (.iload_n 0, (0, 0, 0, 0, 0)), (.bipush 9, (0, 0, 0, 9, 0)), (.if_icmp .eq 9, (0, 44, 0, 0, 0)), (.iload_n 0, (0, 0, 0, 0, 0)), (.bipush 11, (0, 0, 0, 11, 0)), (.if_icmp .ne 8, (0, 49, 0, 0, 0)), (.bipush 30, (0, 0, 0, 30, 0)), (.goto 5, (0, 51, 0, 0, 0)), (.bipush 31, (0, 0, 0, 31, 0)), (.ireturn, (0, 0, 0, 0, 0))]
theorem jc_Mo_daysOf : wq_c b_Mo_daysOf 2 j_Mo_daysOf 0 = true := by decide +kernel
def j_Mo_yearOf : wq_J := [(.sipush 1970, (0, 0, 0, 1970, 0)), (.istore_n 2, (0, 0, 0, 0, 0)), (.lload_n 0, (0, 0, 0, 0, 0)), (.ldc2_w 257, (1, 0, 0, 0, 86400)), (.ldiv, (0, 0, 0, 0, 0)), (.lstore_n 3, (0, 0, 0, 0, 0)), (.lload_n 3, (0, 0, 0, 0, 0)), (.iload_n 2, (0, 0, 0, 0, 0)), (.iconst 4, (0, 0, 0, 4, 0)), (.irem, (0, 0, 0, 0, 0)), (.ifCond .ne 9, (0, 23, 0, 0, 0)), (.sipush 366, (0, 0, 0, 366, 0)), (.goto 6, (0, 26, 0, 0, 0)), (.sipush 365, (0, 0, 0, 365, 0)), (.i2l, (0, 0, 0, 0, 0)), (.lcmp, (0, 0, 0, 0, 0)), (.ifCond .lt 27, (0, 55, 0, 0, 0)), (.lload_n 3, (0, 0, 0, 0, 0)), (.iload_n 2, (0, 0, 0, 0, 0)), (.iconst 4, (0, 0, 0, 4, 0)), (.irem, (0, 0, 0, 0, 0)), (.ifCond .ne 9, (0, 44, 0, 0, 0)), (.ldc2_w 259, (1, 0, 0, 0, 366)), (.goto 6, (0, 47, 0, 0, 0)), (.ldc2_w 261, (1, 0, 0, 0, 365)), (.lsub, (0, 0, 0, 0, 0)), (.lstore_n 3, (0, 0, 0, 0, 0)), (.iinc 2 1, (0, 0, 0, 1, 0)), (.goto (-42), (0, 10, 0, 0, 0)), (.iload_n 2, (0, 0, 0, 0, 0)), (.ireturn, (0, 0, 0, 0, 0))]
theorem jc_Mo_yearOf : wq_c b_Mo_yearOf 5 j_Mo_yearOf 0 = true := by decide +kernel
def j_Mo_secondsOf : wq_J := [(.iload_n 0, (0, 0, 0, 0, 0)), (.sipush 1970, (0, 0, 0, 1970, 0)), (.if_icmp .lt 33, (0, 37, 0, 0, 0)), (.iload_n 0, (0, 0, 0, 0, 0)), (.sipush 2099, (0, 0, 0, 2099, 0)), (.if_icmp .gt 26, (0, 37, 0, 0, 0)), (.iload_n 1, (0, 0, 0, 0, 0)), (.iconst 1, (0, 0, 0, 1, 0)), (.if_icmp .lt 21, (0, 37, 0, 0, 0)), (.iload_n 2, (0, 0, 0, 0, 0)), (.iconst 1, (0, 0, 0, 1, 0)), (.if_icmp .lt 16, (0, 37, 0, 0, 0)), (.iload_n 2, (0, 0, 0, 0, 0)), (.iload_n 1, (0, 0, 0, 0, 0)), (.iload_n 0, (0, 0, 0, 0, 0)), (.invokestatic 263, (0, 0, 0, 0, 0)), (.if_icmp .gt 7, (0, 37, 0, 0, 0)), (.iload_n 3, (0, 0, 0, 0, 0)), (.ifCond .ge 7, (0, 41, 0, 0, 0)), (.ldc2_w 267, (1, 0, 0, 0, (-1))), (.lreturn, (0, 0, 0, 0, 0)), (.iload_n 2, (0, 0, 0, 0, 0)), (.iconst 1, (0, 0, 0, 1, 0)), (.isub, (0, 0, 0, 0, 0)), (.i2l, (0, 0, 0, 0, 0)), (.lstore 4, (0, 0, 0, 0, 0)), (.sipush 1970, (0, 0, 0, 1970, 0)), (.istore 6, (0, 0, 0, 0, 0)), (.iload 6, (0, 0, 0, 0, 0)), (.iload_n 0, (0, 0, 0, 0, 0)), (.if_icmp .ge 30, (0, 85, 0, 0, 0)), (.lload 4, (0, 0, 0, 0, 0)), (.iload 6, (0, 0, 0, 0, 0)), (.iconst 4, (0, 0, 0, 4, 0)), (.irem, (0, 0, 0, 0, 0)), (.ifCond .ne 9, (0, 73, 0, 0, 0)), (.ldc2_w 259, (1, 0, 0, 0, 366)), (.goto 6, (0, 76, 0, 0, 0)), (.ldc2_w 261, (1, 0, 0, 0, 365)), (.ladd, (0, 0, 0, 0, 0)), (.lstore 4, (0, 0, 0, 0, 0)), (.iinc 6 1, (0, 0, 0, 1, 0)), (.goto (-30), (0, 52, 0, 0, 0)), (.iconst 1, (0, 0, 0, 1, 0)), (.istore 6, (0, 0, 0, 0, 0)), (.iload 6, (0, 0, 0, 0, 0)), (.iload_n 1, (0, 0, 0, 0, 0)), (.if_icmp .ge 21, (0, 112, 0, 0, 0)), (.lload 4, (0, 0, 0, 0, 0)), (.iload 6, (0, 0, 0, 0, 0)), (.iload_n 0, (0, 0, 0, 0, 0)), (.invokestatic 263, (0, 0, 0, 0, 0)), (.i2l, (0, 0, 0, 0, 0)), (.ladd, (0, 0, 0, 0, 0)), (.lstore 4, (0, 0, 0, 0, 0)), (.iinc 6 1, (0, 0, 0, 1, 0)), (.goto (-21), (0, 88, 0, 0, 0)), (.ldc2_w 257, (1, 0, 0, 0, 86400)), (.lload 4, (0, 0, 0, 0, 0)), (.lmul, (0, 0, 0, 0, 0)), (.iload_n 3, (0, 0, 0, 0, 0)), (.i2l, (0, 0, 0, 0, 0)), (.ladd, (0, 0, 0, 0, 0)), (.lreturn, (0, 0, 0, 0, 0))]
theorem jc_Mo_secondsOf : wq_c b_Mo_secondsOf 7 j_Mo_secondsOf 0 = true := by decide +kernel
def j_Mo_shortYear : wq_J := [(.aload_n 0, (0, 0, 0, 0, 0)), (.getfield 62, (1, 0, 0, 0, 0)), (.invokestatic 269, (0, 0, 0, 0, 0)), (.bipush 50, (0, 0, 0, 50, 0)), (.iadd, (0, 0, 0, 0, 0)), (.sipush 2099, (0, 0, 0, 2099, 0)), (.if_icmp .le 9, (0, 22, 0, 0, 0)), (.sipush 2099, (0, 0, 0, 2099, 0)), (.goto 13, (0, 32, 0, 0, 0)), (.aload_n 0, (0, 0, 0, 0, 0)), (.getfield 62, (1, 0, 0, 0, 0)), (.invokestatic 269, (0, 0, 0, 0, 0)), (.bipush 50, (0, 0, 0, 50, 0)), (.iadd, (0, 0, 0, 0, 0)), (.istore_n 2, (0, 0, 0, 0, 0)), (.iload_n 2, (0, 0, 0, 0, 0)), (.sipush 1970, (0, 0, 0, 1970, 0)), (.if_icmp .lt 17, (0, 54, 0, 0, 0)), (.iload_n 2, (0, 0, 0, 0, 0)), (.bipush 100, (0, 0, 0, 100, 0)), (.irem, (0, 0, 0, 0, 0)), (.iload_n 1, (0, 0, 0, 0, 0)), (.if_icmp .eq 9, (0, 54, 0, 0, 0)), (.iinc 2 (-1), (0, 0, 0, (-1), 0)), (.goto (-18), (0, 33, 0, 0, 0)), (.iload_n 1, (0, 0, 0, 0, 0)), (.ifCond .lt 10, (0, 65, 0, 0, 0)), (.iload_n 2, (0, 0, 0, 0, 0)), (.sipush 1970, (0, 0, 0, 1970, 0)), (.if_icmp .ge 7, (0, 69, 0, 0, 0)), (.iconst (-1), (0, 0, 0, (-1), 0)), (.goto 4, (0, 70, 0, 0, 0)), (.iload_n 2, (0, 0, 0, 0, 0)), (.ireturn, (0, 0, 0, 0, 0))]
theorem jc_Mo_shortYear : wq_c b_Mo_shortYear 3 j_Mo_shortYear 0 = true := by decide +kernel
def j_Mo_zone : wq_J := [(.aload_n 0, (0, 0, 0, 0, 0)), (.bipush 32, (0, 0, 0, 32, 0)), (.invokevirtual 153, (0, 0, 0, 0, 0)), (.ifCond .eq 34, (0, 40, 0, 0, 0)), (.aload_n 0, (0, 0, 0, 0, 0)), (.bipush 71, (0, 0, 0, 71, 0)), (.invokevirtual 153, (0, 0, 0, 0, 0)), (.ifCond .eq 25, (0, 40, 0, 0, 0)), (.aload_n 0, (0, 0, 0, 0, 0)), (.bipush 77, (0, 0, 0, 77, 0)), (.invokevirtual 153, (0, 0, 0, 0, 0)), (.ifCond .eq 16, (0, 40, 0, 0, 0)), (.aload_n 0, (0, 0, 0, 0, 0)), (.bipush 84, (0, 0, 0, 84, 0)), (.invokevirtual 153, (0, 0, 0, 0, 0)), (.ifCond .eq 7, (0, 40, 0, 0, 0)), (.iconst 1, (0, 0, 0, 1, 0)), (.goto 4, (0, 41, 0, 0, 0)), (.iconst 0, (0, 0, 0, 0, 0)), (.ireturn, (0, 0, 0, 0, 0))]
theorem jc_Mo_zone : wq_c b_Mo_zone 1 j_Mo_zone 0 = true := by decide +kernel
def j_Mo_paddedDay : wq_J := [(.aload_n 0, (0, 0, 0, 0, 0)), (.bipush 32, (0, 0, 0, 32, 0)), (.invokevirtual 153, (0, 0, 0, 0, 0)), (.ifCond .eq 9, (0, 15, 0, 0, 0)), (.aload_n 0, (0, 0, 0, 0, 0)), (.iconst 1, (0, 0, 0, 1, 0)), (.invokevirtual 254, (0, 0, 0, 0, 0)), (.ireturn, (0, 0, 0, 0, 0)), (.aload_n 0, (0, 0, 0, 0, 0)), (.iconst 2, (0, 0, 0, 2, 0)), (.invokevirtual 254, (0, 0, 0, 0, 0)), (.istore_n 1, (0, 0, 0, 0, 0)), (.iload_n 1, (0, 0, 0, 0, 0)), (.bipush 10, (0, 0, 0, 10, 0)), (.if_icmp .ge 7, (0, 31, 0, 0, 0)), (.iconst (-1), (0, 0, 0, (-1), 0)), (.goto 4, (0, 32, 0, 0, 0)), (.iload_n 1, (0, 0, 0, 0, 0)), (.ireturn, (0, 0, 0, 0, 0))]
theorem jc_Mo_paddedDay : wq_c b_Mo_paddedDay 2 j_Mo_paddedDay 0 = true := by decide +kernel
def j_Mo_dateBehind : wq_J := [(.iconst 1, (0, 0, 0, 1, 0)), (.istore_n 2, (0, 0, 0, 0, 0)), (.aload_n 0, (0, 0, 0, 0, 0)), (.invokevirtual 115, (0, 0, 0, 0, 0)), (.bipush 32, (0, 0, 0, 32, 0)), (.if_icmp .ne 85, (0, 93, 0, 0, 0)), (.aload_n 0, (0, 0, 0, 0, 0)), (.dup, (0, 0, 0, 0, 0)), (.getfield 108, (1, 0, 12, 0, 0)), (.iconst 1, (0, 0, 0, 1, 0)), (.iadd, (0, 0, 0, 0, 0)), (.putfield 108, (1, 0, 12, 0, 0)), (.aload_n 0, (0, 0, 0, 0, 0)), (.invokevirtual 272, (0, 0, 0, 0, 0)), (.istore 4, (0, 0, 0, 0, 0)), (.aload_n 0, (0, 0, 0, 0, 0)), (.bipush 32, (0, 0, 0, 32, 0)), (.invokevirtual 153, (0, 0, 0, 0, 0)), (.istore_n 2, (0, 0, 0, 0, 0)), (.aload_n 0, (0, 0, 0, 0, 0)), (.invokevirtual 275, (0, 0, 0, 0, 0)), (.istore_n 3, (0, 0, 0, 0, 0)), (.aload_n 0, (0, 0, 0, 0, 0)), (.bipush 32, (0, 0, 0, 32, 0)), (.invokevirtual 153, (0, 0, 0, 0, 0)), (.ifCond .eq 11, (0, 56, 0, 0, 0)), (.iload_n 2, (0, 0, 0, 0, 0)), (.ifCond .eq 7, (0, 56, 0, 0, 0)), (.iconst 1, (0, 0, 0, 1, 0)), (.goto 4, (0, 57, 0, 0, 0)), (.iconst 0, (0, 0, 0, 0, 0)), (.istore_n 2, (0, 0, 0, 0, 0)), (.aload_n 0, (0, 0, 0, 0, 0)), (.invokevirtual 278, (0, 0, 0, 0, 0)), (.istore 6, (0, 0, 0, 0, 0)), (.aload_n 0, (0, 0, 0, 0, 0)), (.bipush 32, (0, 0, 0, 32, 0)), (.invokevirtual 153, (0, 0, 0, 0, 0)), (.ifCond .eq 11, (0, 81, 0, 0, 0)), (.iload_n 2, (0, 0, 0, 0, 0)), (.ifCond .eq 7, (0, 81, 0, 0, 0)), (.iconst 1, (0, 0, 0, 1, 0)), (.goto 4, (0, 82, 0, 0, 0)), (.iconst 0, (0, 0, 0, 0, 0)), (.istore_n 2, (0, 0, 0, 0, 0)), (.aload_n 0, (0, 0, 0, 0, 0)), (.iconst 4, (0, 0, 0, 4, 0)), (.invokevirtual 254, (0, 0, 0, 0, 0)), (.istore 5, (0, 0, 0, 0, 0)), (.goto 192, (0, 282, 0, 0, 0)), (.aload_n 0, (0, 0, 0, 0, 0)), (.invokevirtual 115, (0, 0, 0, 0, 0)), (.bipush 44, (0, 0, 0, 44, 0)), (.if_icmp .eq 7, (0, 106, 0, 0, 0)), (.iconst 1, (0, 0, 0, 1, 0)), (.goto 4, (0, 107, 0, 0, 0)), (.iconst 0, (0, 0, 0, 0, 0)), (.istore 7, (0, 0, 0, 0, 0)), (.iload 7, (0, 0, 0, 0, 0)), (.ifCond .eq 11, (0, 122, 0, 0, 0)), (.aload_n 0, (0, 0, 0, 0, 0)), (.iload_n 1, (0, 0, 0, 0, 0)), (.invokevirtual 281, (0, 0, 0, 0, 0)), (.ifCond .eq 25, (0, 144, 0, 0, 0)), (.aload_n 0, (0, 0, 0, 0, 0)), (.bipush 44, (0, 0, 0, 44, 0)), (.invokevirtual 153, (0, 0, 0, 0, 0)), (.ifCond .eq 16, (0, 144, 0, 0, 0)), (.aload_n 0, (0, 0, 0, 0, 0)), (.bipush 32, (0, 0, 0, 32, 0)), (.invokevirtual 153, (0, 0, 0, 0, 0)), (.ifCond .eq 7, (0, 144, 0, 0, 0)), (.iconst 1, (0, 0, 0, 1, 0)), (.goto 4, (0, 145, 0, 0, 0)), (.iconst 0, (0, 0, 0, 0, 0)), (.istore_n 2, (0, 0, 0, 0, 0)), (.aload_n 0, (0, 0, 0, 0, 0)), (.iconst 2, (0, 0, 0, 2, 0)), (.invokevirtual 254, (0, 0, 0, 0, 0)), (.istore_n 3, (0, 0, 0, 0, 0)), (.aload_n 0, (0, 0, 0, 0, 0)), (.iload 7, (0, 0, 0, 0, 0)), (.ifCond .eq 8, (0, 163, 0, 0, 0)), (.bipush 45, (0, 0, 0, 45, 0)), (.goto 5, (0, 165, 0, 0, 0)), (.bipush 32, (0, 0, 0, 32, 0)), (.invokevirtual 153, (0, 0, 0, 0, 0)), (.ifCond .eq 11, (0, 179, 0, 0, 0)), (.iload_n 2, (0, 0, 0, 0, 0)), (.ifCond .eq 7, (0, 179, 0, 0, 0)), (.iconst 1, (0, 0, 0, 1, 0)), (.goto 4, (0, 180, 0, 0, 0)), (.iconst 0, (0, 0, 0, 0, 0)), (.istore_n 2, (0, 0, 0, 0, 0)), (.aload_n 0, (0, 0, 0, 0, 0)), (.invokevirtual 272, (0, 0, 0, 0, 0)), (.istore 4, (0, 0, 0, 0, 0)), (.aload_n 0, (0, 0, 0, 0, 0)), (.iload 7, (0, 0, 0, 0, 0)), (.ifCond .eq 8, (0, 198, 0, 0, 0)), (.bipush 45, (0, 0, 0, 45, 0)), (.goto 5, (0, 200, 0, 0, 0)), (.bipush 32, (0, 0, 0, 32, 0)), (.invokevirtual 153, (0, 0, 0, 0, 0)), (.ifCond .eq 11, (0, 214, 0, 0, 0)), (.iload_n 2, (0, 0, 0, 0, 0)), (.ifCond .eq 7, (0, 214, 0, 0, 0)), (.iconst 1, (0, 0, 0, 1, 0)), (.goto 4, (0, 215, 0, 0, 0)), (.iconst 0, (0, 0, 0, 0, 0)), (.istore_n 2, (0, 0, 0, 0, 0)), (.iload 7, (0, 0, 0, 0, 0)), (.ifCond .eq 15, (0, 233, 0, 0, 0)), (.aload_n 0, (0, 0, 0, 0, 0)), (.aload_n 0, (0, 0, 0, 0, 0)), (.iconst 2, (0, 0, 0, 2, 0)), (.invokevirtual 254, (0, 0, 0, 0, 0)), (.invokevirtual 284, (0, 0, 0, 0, 0)), (.goto 8, (0, 238, 0, 0, 0)), (.aload_n 0, (0, 0, 0, 0, 0)), (.iconst 4, (0, 0, 0, 4, 0)), (.invokevirtual 254, (0, 0, 0, 0, 0)), (.istore 5, (0, 0, 0, 0, 0)), (.aload_n 0, (0, 0, 0, 0, 0)), (.bipush 32, (0, 0, 0, 32, 0)), (.invokevirtual 153, (0, 0, 0, 0, 0)), (.ifCond .eq 11, (0, 257, 0, 0, 0)), (.iload_n 2, (0, 0, 0, 0, 0)), (.ifCond .eq 7, (0, 257, 0, 0, 0)), (.iconst 1, (0, 0, 0, 1, 0)), (.goto 4, (0, 258, 0, 0, 0)), (.iconst 0, (0, 0, 0, 0, 0)), (.istore_n 2, (0, 0, 0, 0, 0)), (.aload_n 0, (0, 0, 0, 0, 0)), (.invokevirtual 278, (0, 0, 0, 0, 0)), (.istore 6, (0, 0, 0, 0, 0)), (.aload_n 0, (0, 0, 0, 0, 0)), (.invokevirtual 287, (0, 0, 0, 0, 0)), (.ifCond .eq 11, (0, 280, 0, 0, 0)), (.iload_n 2, (0, 0, 0, 0, 0)), (.ifCond .eq 7, (0, 280, 0, 0, 0)), (.iconst 1, (0, 0, 0, 1, 0)), (.goto 4, (0, 281, 0, 0, 0)), (.iconst 0, (0, 0, 0, 0, 0)), (.istore_n 2, (0, 0, 0, 0, 0)), (.iload_n 2, (0, 0, 0, 0, 0)), (.ifCond .eq 16, (0, 299, 0, 0, 0)), (.iload 5, (0, 0, 0, 0, 0)), (.iload 4, (0, 0, 0, 0, 0)), (.iload_n 3, (0, 0, 0, 0, 0)), (.iload 6, (0, 0, 0, 0, 0)), (.invokestatic 290, (0, 0, 0, 0, 0)), (.goto 6, (0, 302, 0, 0, 0)), (.ldc2_w 267, (1, 0, 0, 0, (-1))), (.lreturn, (0, 0, 0, 0, 0))]
theorem jc_Mo_dateBehind : wq_c b_Mo_dateBehind 8 j_Mo_dateBehind 0 = true := by decide +kernel
def j_Mo_dateOf : wq_J := [(.aload_n 0, (0, 0, 0, 0, 0)), (.iload_n 1, (0, 0, 0, 0, 0)), (.invokevirtual 199, (0, 0, 0, 0, 0)), (.aload_n 0, (0, 0, 0, 0, 0)), (.invokevirtual 156, (0, 0, 0, 0, 0)), (.aload_n 0, (0, 0, 0, 0, 0)), (.invokevirtual 294, (0, 0, 0, 0, 0)), (.istore_n 2, (0, 0, 0, 0, 0)), (.iload_n 2, (0, 0, 0, 0, 0)), (.ifCond .ge 7, (0, 22, 0, 0, 0)), (.ldc2_w 267, (1, 0, 0, 0, (-1))), (.lreturn, (0, 0, 0, 0, 0)), (.aload_n 0, (0, 0, 0, 0, 0)), (.iload_n 2, (0, 0, 0, 0, 0)), (.invokevirtual 297, (0, 0, 0, 0, 0)), (.lstore_n 3, (0, 0, 0, 0, 0)), (.aload_n 0, (0, 0, 0, 0, 0)), (.invokevirtual 156, (0, 0, 0, 0, 0)), (.aload_n 0, (0, 0, 0, 0, 0)), (.invokevirtual 166, (0, 0, 0, 0, 0)), (.ifCond .eq 23, (0, 59, 0, 0, 0)), (.aload_n 0, (0, 0, 0, 0, 0)), (.getfield 108, (1, 0, 12, 0, 0)), (.aload_n 0, (0, 0, 0, 0, 0)), (.getfield 33, (1, 0, 10, 0, 0)), (.aload_n 0, (0, 0, 0, 0, 0)), (.getfield 105, (1, 0, 11, 0, 0)), (.iaload, (1, 8, 0, 0, 0)), (.if_icmp .ne 7, (0, 59, 0, 0, 0)), (.lload_n 3, (0, 0, 0, 0, 0)), (.goto 6, (0, 62, 0, 0, 0)), (.ldc2_w 267, (1, 0, 0, 0, (-1))), (.lreturn, (0, 0, 0, 0, 0))]
theorem jc_Mo_dateOf : wq_c b_Mo_dateOf 5 j_Mo_dateOf 0 = true := by decide +kernel
def j_Mo_many : wq_J := [(.aload_n 0, (0, 0, 0, 0, 0)), (.getfield 108, (1, 0, 12, 0, 0)), (.istore_n 1, (0, 0, 0, 0, 0)), (.iconst 0, (0, 0, 0, 0, 0)), (.istore_n 2, (0, 0, 0, 0, 0)), (.aload_n 0, (0, 0, 0, 0, 0)), (.invokevirtual 115, (0, 0, 0, 0, 0)), (.invokestatic 119, (0, 0, 0, 0, 0)), (.ifCond .eq 46, (0, 60, 0, 0, 0)), (.aload_n 0, (0, 0, 0, 0, 0)), (.getfield 108, (1, 0, 12, 0, 0)), (.iload_n 1, (0, 0, 0, 0, 0)), (.isub, (0, 0, 0, 0, 0)), (.bipush 9, (0, 0, 0, 9, 0)), (.if_icmp .ge 18, (0, 43, 0, 0, 0)), (.bipush 10, (0, 0, 0, 10, 0)), (.iload_n 2, (0, 0, 0, 0, 0)), (.imul, (0, 0, 0, 0, 0)), (.aload_n 0, (0, 0, 0, 0, 0)), (.invokevirtual 115, (0, 0, 0, 0, 0)), (.iadd, (0, 0, 0, 0, 0)), (.bipush 48, (0, 0, 0, 48, 0)), (.isub, (0, 0, 0, 0, 0)), (.goto 6, (0, 46, 0, 0, 0)), (.ldc_w 301, (1, 0, 0, 999999999, 0)), (.istore_n 2, (0, 0, 0, 0, 0)), (.aload_n 0, (0, 0, 0, 0, 0)), (.dup, (0, 0, 0, 0, 0)), (.getfield 108, (1, 0, 12, 0, 0)), (.iconst 1, (0, 0, 0, 1, 0)), (.iadd, (0, 0, 0, 0, 0)), (.putfield 108, (1, 0, 12, 0, 0)), (.goto (-50), (0, 7, 0, 0, 0)), (.aload_n 0, (0, 0, 0, 0, 0)), (.getfield 108, (1, 0, 12, 0, 0)), (.iload_n 1, (0, 0, 0, 0, 0)), (.if_icmp .ne 7, (0, 72, 0, 0, 0)), (.iconst (-1), (0, 0, 0, (-1), 0)), (.goto 4, (0, 73, 0, 0, 0)), (.iload_n 2, (0, 0, 0, 0, 0)), (.ireturn, (0, 0, 0, 0, 0))]
theorem jc_Mo_many : wq_c b_Mo_many 3 j_Mo_many 0 = true := by decide +kernel
def j_Mo_spec : wq_J := [(.aload_n 0, (0, 0, 0, 0, 0)), (.invokevirtual 302, (0, 0, 0, 0, 0)), (.istore_n 1, (0, 0, 0, 0, 0)), (.aload_n 0, (0, 0, 0, 0, 0)), (.bipush 45, (0, 0, 0, 45, 0)), (.invokevirtual 153, (0, 0, 0, 0, 0)), (.ifCond .ne 5, (0, 16, 0, 0, 0)), (.iconst 0, (0, 0, 0, 0, 0)), (.ireturn, (0, 0, 0, 0, 0)), (.aload_n 0, (0, 0, 0, 0, 0)), (.invokevirtual 302, (0, 0, 0, 0, 0)), (.istore_n 2, (0, 0, 0, 0, 0)), (.iload_n 1, (0, 0, 0, 0, 0)), (.ifCond .ge 10, (0, 32, 0, 0, 0)), (.iload_n 2, (0, 0, 0, 0, 0)), (.ifCond .ge 17, (0, 43, 0, 0, 0)), (.goto 12, (0, 41, 0, 0, 0)), (.iload_n 2, (0, 0, 0, 0, 0)), (.ifCond .lt 10, (0, 43, 0, 0, 0)), (.iload_n 2, (0, 0, 0, 0, 0)), (.iload_n 1, (0, 0, 0, 0, 0)), (.if_icmp .ge 5, (0, 43, 0, 0, 0)), (.iconst 0, (0, 0, 0, 0, 0)), (.ireturn, (0, 0, 0, 0, 0)), (.aload_n 0, (0, 0, 0, 0, 0)), (.getfield 36, (1, 0, 21, 0, 0)), (.aload_n 0, (0, 0, 0, 0, 0)), (.getfield 305, (1, 0, 20, 0, 0)), (.iload_n 1, (0, 0, 0, 0, 0)), (.iastore, (1, 9, 0, 0, 0)), (.aload_n 0, (0, 0, 0, 0, 0)), (.getfield 39, (1, 0, 22, 0, 0)), (.aload_n 0, (0, 0, 0, 0, 0)), (.getfield 305, (1, 0, 20, 0, 0)), (.iload_n 2, (0, 0, 0, 0, 0)), (.iastore, (1, 10, 0, 0, 0)), (.aload_n 0, (0, 0, 0, 0, 0)), (.dup, (0, 0, 0, 0, 0)), (.getfield 305, (1, 0, 20, 0, 0)), (.iconst 1, (0, 0, 0, 1, 0)), (.iadd, (0, 0, 0, 0, 0)), (.putfield 305, (1, 0, 20, 0, 0)), (.iconst 1, (0, 0, 0, 1, 0)), (.ireturn, (0, 0, 0, 0, 0))]
theorem jc_Mo_spec : wq_c b_Mo_spec 3 j_Mo_spec 0 = true := by decide +kernel
def j_Mo_ranges : wq_J := [(.aload_n 0, (0, 0, 0, 0, 0)), (.bipush 7, (0, 0, 0, 7, 0)), (.invokevirtual 199, (0, 0, 0, 0, 0)), (.aload_n 0, (0, 0, 0, 0, 0)), (.iconst 0, (0, 0, 0, 0, 0)), (.putfield 305, (1, 0, 20, 0, 0)), (.aload_n 0, (0, 0, 0, 0, 0)), (.invokevirtual 156, (0, 0, 0, 0, 0)), (.aload_n 0, (0, 0, 0, 0, 0)), (.aload_n 0, (0, 0, 0, 0, 0)), (.getfield 108, (1, 0, 12, 0, 0)), (.ldc2_w 308, (1, 0, 0, 0, 495623371106)), (.invokevirtual 142, (0, 0, 0, 0, 0)), (.ifCond .ne 5, (0, 31, 0, 0, 0)), (.iconst 0, (0, 0, 0, 0, 0)), (.ireturn, (0, 0, 0, 0, 0)), (.aload_n 0, (0, 0, 0, 0, 0)), (.dup, (0, 0, 0, 0, 0)), (.getfield 108, (1, 0, 12, 0, 0)), (.iconst 5, (0, 0, 0, 5, 0)), (.iadd, (0, 0, 0, 0, 0)), (.putfield 108, (1, 0, 12, 0, 0)), (.aload_n 0, (0, 0, 0, 0, 0)), (.bipush 61, (0, 0, 0, 61, 0)), (.invokevirtual 153, (0, 0, 0, 0, 0)), (.ifCond .ne 5, (0, 52, 0, 0, 0)), (.iconst 0, (0, 0, 0, 0, 0)), (.ireturn, (0, 0, 0, 0, 0)), (.iconst 1, (0, 0, 0, 1, 0)), (.istore_n 1, (0, 0, 0, 0, 0)), (.iload_n 1, (0, 0, 0, 0, 0)), (.iconst 1, (0, 0, 0, 1, 0)), (.if_icmp .ne 30, (0, 86, 0, 0, 0)), (.aload_n 0, (0, 0, 0, 0, 0)), (.invokevirtual 203, (0, 0, 0, 0, 0)), (.ifCond .eq 23, (0, 86, 0, 0, 0)), (.aload_n 0, (0, 0, 0, 0, 0)), (.invokevirtual 310, (0, 0, 0, 0, 0)), (.ifCond .ne 5, (0, 75, 0, 0, 0)), (.iconst 0, (0, 0, 0, 0, 0)), (.ireturn, (0, 0, 0, 0, 0)), (.aload_n 0, (0, 0, 0, 0, 0)), (.invokevirtual 209, (0, 0, 0, 0, 0)), (.istore_n 1, (0, 0, 0, 0, 0)), (.iload_n 1, (0, 0, 0, 0, 0)), (.ifCond .ge (-27), (0, 54, 0, 0, 0)), (.iconst 0, (0, 0, 0, 0, 0)), (.ireturn, (0, 0, 0, 0, 0)), (.aload_n 0, (0, 0, 0, 0, 0)), (.getfield 305, (1, 0, 20, 0, 0)), (.ifCond .le 7, (0, 97, 0, 0, 0)), (.iconst 1, (0, 0, 0, 1, 0)), (.goto 4, (0, 98, 0, 0, 0)), (.iconst 0, (0, 0, 0, 0, 0)), (.ireturn, (0, 0, 0, 0, 0))]
theorem jc_Mo_ranges : wq_c b_Mo_ranges 2 j_Mo_ranges 0 = true := by decide +kernel
def j_Mo_resolve : wq_J := [(.aload_n 0, (0, 0, 0, 0, 0)), (.getfield 36, (1, 0, 21, 0, 0)), (.iload_n 1, (0, 0, 0, 0, 0)), (.iaload, (1, 9, 0, 0, 0)), (.istore_n 3, (0, 0, 0, 0, 0)), (.aload_n 0, (0, 0, 0, 0, 0)), (.getfield 39, (1, 0, 22, 0, 0)), (.iload_n 1, (0, 0, 0, 0, 0)), (.iaload, (1, 10, 0, 0, 0)), (.istore 4, (0, 0, 0, 0, 0)), (.iload_n 3, (0, 0, 0, 0, 0)), (.ifCond .lt 7, (0, 23, 0, 0, 0)), (.iload_n 3, (0, 0, 0, 0, 0)), (.goto 17, (0, 37, 0, 0, 0)), (.iload_n 2, (0, 0, 0, 0, 0)), (.iload 4, (0, 0, 0, 0, 0)), (.if_icmp .le 10, (0, 36, 0, 0, 0)), (.iload_n 2, (0, 0, 0, 0, 0)), (.iload 4, (0, 0, 0, 0, 0)), (.isub, (0, 0, 0, 0, 0)), (.goto 4, (0, 37, 0, 0, 0)), (.iconst 0, (0, 0, 0, 0, 0)), (.istore 5, (0, 0, 0, 0, 0)), (.iload_n 3, (0, 0, 0, 0, 0)), (.ifCond .lt 21, (0, 61, 0, 0, 0)), (.iload 4, (0, 0, 0, 0, 0)), (.ifCond .lt 16, (0, 61, 0, 0, 0)), (.iload 4, (0, 0, 0, 0, 0)), (.iload_n 2, (0, 0, 0, 0, 0)), (.iconst 1, (0, 0, 0, 1, 0)), (.isub, (0, 0, 0, 0, 0)), (.if_icmp .ge 8, (0, 61, 0, 0, 0)), (.iload 4, (0, 0, 0, 0, 0)), (.goto 6, (0, 64, 0, 0, 0)), (.iload_n 2, (0, 0, 0, 0, 0)), (.iconst 1, (0, 0, 0, 1, 0)), (.isub, (0, 0, 0, 0, 0)), (.istore 6, (0, 0, 0, 0, 0)), (.iload 5, (0, 0, 0, 0, 0)), (.iload 6, (0, 0, 0, 0, 0)), (.if_icmp .gt 35, (0, 105, 0, 0, 0)), (.aload_n 0, (0, 0, 0, 0, 0)), (.getfield 49, (1, 0, 28, 0, 0)), (.aload_n 0, (0, 0, 0, 0, 0)), (.getfield 313, (1, 0, 27, 0, 0)), (.iload 5, (0, 0, 0, 0, 0)), (.iastore, (1, 11, 0, 0, 0)), (.aload_n 0, (0, 0, 0, 0, 0)), (.getfield 52, (1, 0, 29, 0, 0)), (.aload_n 0, (0, 0, 0, 0, 0)), (.getfield 313, (1, 0, 27, 0, 0)), (.iload 6, (0, 0, 0, 0, 0)), (.iastore, (1, 12, 0, 0, 0)), (.aload_n 0, (0, 0, 0, 0, 0)), (.dup, (0, 0, 0, 0, 0)), (.getfield 313, (1, 0, 27, 0, 0)), (.iconst 1, (0, 0, 0, 1, 0)), (.iadd, (0, 0, 0, 0, 0)), (.putfield 313, (1, 0, 27, 0, 0)), (.return_, (0, 0, 0, 0, 0))]
theorem jc_Mo_resolve : wq_c b_Mo_resolve 7 j_Mo_resolve 0 = true := by decide +kernel
def j_Mo_overlap : wq_J := [(.iconst 0, (0, 0, 0, 0, 0)), (.istore_n 1, (0, 0, 0, 0, 0)), (.iconst 0, (0, 0, 0, 0, 0)), (.istore_n 2, (0, 0, 0, 0, 0)), (.iload_n 2, (0, 0, 0, 0, 0)), (.aload_n 0, (0, 0, 0, 0, 0)), (.getfield 313, (1, 0, 27, 0, 0)), (.if_icmp .ge 62, (0, 71, 0, 0, 0)), (.iconst 0, (0, 0, 0, 0, 0)), (.istore_n 3, (0, 0, 0, 0, 0)), (.iload_n 3, (0, 0, 0, 0, 0)), (.iload_n 2, (0, 0, 0, 0, 0)), (.if_icmp .ge 49, (0, 65, 0, 0, 0)), (.iload_n 1, (0, 0, 0, 0, 0)), (.ifCond .ne 33, (0, 53, 0, 0, 0)), (.aload_n 0, (0, 0, 0, 0, 0)), (.getfield 49, (1, 0, 28, 0, 0)), (.iload_n 2, (0, 0, 0, 0, 0)), (.iaload, (1, 11, 0, 0, 0)), (.aload_n 0, (0, 0, 0, 0, 0)), (.getfield 52, (1, 0, 29, 0, 0)), (.iload_n 3, (0, 0, 0, 0, 0)), (.iaload, (1, 12, 0, 0, 0)), (.if_icmp .gt 22, (0, 57, 0, 0, 0)), (.aload_n 0, (0, 0, 0, 0, 0)), (.getfield 49, (1, 0, 28, 0, 0)), (.iload_n 3, (0, 0, 0, 0, 0)), (.iaload, (1, 11, 0, 0, 0)), (.aload_n 0, (0, 0, 0, 0, 0)), (.getfield 52, (1, 0, 29, 0, 0)), (.iload_n 2, (0, 0, 0, 0, 0)), (.iaload, (1, 12, 0, 0, 0)), (.if_icmp .gt 7, (0, 57, 0, 0, 0)), (.iconst 1, (0, 0, 0, 1, 0)), (.goto 4, (0, 58, 0, 0, 0)), (.iconst 0, (0, 0, 0, 0, 0)), (.istore_n 1, (0, 0, 0, 0, 0)), (.iinc 3 1, (0, 0, 0, 1, 0)), (.goto (-48), (0, 14, 0, 0, 0)), (.iinc 2 1, (0, 0, 0, 1, 0)), (.goto (-64), (0, 4, 0, 0, 0)), (.iload_n 1, (0, 0, 0, 0, 0)), (.ireturn, (0, 0, 0, 0, 0))]
theorem jc_Mo_overlap : wq_c b_Mo_overlap 4 j_Mo_overlap 0 = true := by decide +kernel
def j_Mo_ifRange : wq_J := [(.aload_n 0, (0, 0, 0, 0, 0)), (.bipush 6, (0, 0, 0, 6, 0)), (.invokevirtual 223, (0, 0, 0, 0, 0)), (.ifCond .ne 5, (0, 11, 0, 0, 0)), (.iconst 1, (0, 0, 0, 1, 0)), (.ireturn, (0, 0, 0, 0, 0)), (.aload_n 0, (0, 0, 0, 0, 0)), (.bipush 6, (0, 0, 0, 6, 0)), (.invokevirtual 199, (0, 0, 0, 0, 0)), (.aload_n 0, (0, 0, 0, 0, 0)), (.invokevirtual 156, (0, 0, 0, 0, 0)), (.aload_n 0, (0, 0, 0, 0, 0)), (.invokevirtual 115, (0, 0, 0, 0, 0)), (.bipush 34, (0, 0, 0, 34, 0)), (.if_icmp .eq 27, (0, 54, 0, 0, 0)), (.aload_n 0, (0, 0, 0, 0, 0)), (.invokevirtual 115, (0, 0, 0, 0, 0)), (.bipush 87, (0, 0, 0, 87, 0)), (.if_icmp .ne 78, (0, 114, 0, 0, 0)), (.aload_n 0, (0, 0, 0, 0, 0)), (.aload_n 0, (0, 0, 0, 0, 0)), (.getfield 108, (1, 0, 12, 0, 0)), (.iconst 1, (0, 0, 0, 1, 0)), (.iadd, (0, 0, 0, 0, 0)), (.invokevirtual 111, (0, 0, 0, 0, 0)), (.bipush 47, (0, 0, 0, 47, 0)), (.if_icmp .ne 63, (0, 114, 0, 0, 0)), (.aload_n 0, (0, 0, 0, 0, 0)), (.invokevirtual 235, (0, 0, 0, 0, 0)), (.istore_n 2, (0, 0, 0, 0, 0)), (.iload_n 2, (0, 0, 0, 0, 0)), (.ifCond .eq 31, (0, 91, 0, 0, 0)), (.aload_n 0, (0, 0, 0, 0, 0)), (.getfield 232, (1, 0, 15, 0, 0)), (.ifCond .ne 24, (0, 91, 0, 0, 0)), (.aload_n 0, (0, 0, 0, 0, 0)), (.getfield 22, (1, 0, 6, 0, 0)), (.iload_n 1, (0, 0, 0, 0, 0)), (.baload, (4, 5, 0, 0, 0)), (.ifCond .ne 15, (0, 91, 0, 0, 0)), (.aload_n 0, (0, 0, 0, 0, 0)), (.iload_n 1, (0, 0, 0, 0, 0)), (.invokevirtual 238, (0, 0, 0, 0, 0)), (.ifCond .eq 7, (0, 91, 0, 0, 0)), (.iconst 1, (0, 0, 0, 1, 0)), (.goto 4, (0, 92, 0, 0, 0)), (.iconst 0, (0, 0, 0, 0, 0)), (.istore_n 3, (0, 0, 0, 0, 0)), (.aload_n 0, (0, 0, 0, 0, 0)), (.invokevirtual 156, (0, 0, 0, 0, 0)), (.iload_n 3, (0, 0, 0, 0, 0)), (.ifCond .eq 14, (0, 112, 0, 0, 0)), (.aload_n 0, (0, 0, 0, 0, 0)), (.invokevirtual 166, (0, 0, 0, 0, 0)), (.ifCond .eq 7, (0, 112, 0, 0, 0)), (.iconst 1, (0, 0, 0, 1, 0)), (.goto 4, (0, 113, 0, 0, 0)), (.iconst 0, (0, 0, 0, 0, 0)), (.ireturn, (0, 0, 0, 0, 0)), (.aload_n 0, (0, 0, 0, 0, 0)), (.bipush 6, (0, 0, 0, 6, 0)), (.invokevirtual 316, (0, 0, 0, 0, 0)), (.aload_n 0, (0, 0, 0, 0, 0)), (.getfield 26, (1, 0, 7, 0, 0)), (.iload_n 1, (0, 0, 0, 0, 0)), (.laload, (1, 6, 0, 0, 0)), (.lcmp, (0, 0, 0, 0, 0)), (.ifCond .ne 7, (0, 134, 0, 0, 0)), (.iconst 1, (0, 0, 0, 1, 0)), (.goto 4, (0, 135, 0, 0, 0)), (.iconst 0, (0, 0, 0, 0, 0)), (.ireturn, (0, 0, 0, 0, 0))]
theorem jc_Mo_ifRange : wq_c b_Mo_ifRange 4 j_Mo_ifRange 0 = true := by decide +kernel
def j_Mo_chosenOne : wq_J := [(.iconst (-1), (0, 0, 0, (-1), 0)), (.istore_n 1, (0, 0, 0, 0, 0)), (.iconst 0, (0, 0, 0, 0, 0)), (.istore_n 2, (0, 0, 0, 0, 0)), (.iconst 0, (0, 0, 0, 0, 0)), (.istore_n 3, (0, 0, 0, 0, 0)), (.iload_n 3, (0, 0, 0, 0, 0)), (.aload_n 0, (0, 0, 0, 0, 0)), (.getfield 97, (1, 0, 1, 0, 0)), (.if_icmp .ge 27, (0, 38, 0, 0, 0)), (.aload_n 0, (0, 0, 0, 0, 0)), (.iload_n 3, (0, 0, 0, 0, 0)), (.invokevirtual 319, (0, 0, 0, 0, 0)), (.istore 4, (0, 0, 0, 0, 0)), (.iload 4, (0, 0, 0, 0, 0)), (.iload_n 2, (0, 0, 0, 0, 0)), (.if_icmp .le 8, (0, 32, 0, 0, 0)), (.iload 4, (0, 0, 0, 0, 0)), (.istore_n 2, (0, 0, 0, 0, 0)), (.iload_n 3, (0, 0, 0, 0, 0)), (.istore_n 1, (0, 0, 0, 0, 0)), (.iinc 3 1, (0, 0, 0, 1, 0)), (.goto (-29), (0, 6, 0, 0, 0)), (.iload_n 1, (0, 0, 0, 0, 0)), (.ireturn, (0, 0, 0, 0, 0))]
theorem jc_Mo_chosenOne : wq_c b_Mo_chosenOne 5 j_Mo_chosenOne 0 = true := by decide +kernel
def j_Mo_conditions : wq_J := [(.aload_n 0, (0, 0, 0, 0, 0)), (.iconst 2, (0, 0, 0, 2, 0)), (.invokevirtual 223, (0, 0, 0, 0, 0)), (.ifCond .eq 18, (0, 23, 0, 0, 0)), (.aload_n 0, (0, 0, 0, 0, 0)), (.iconst 2, (0, 0, 0, 2, 0)), (.iload_n 1, (0, 0, 0, 0, 0)), (.iconst 1, (0, 0, 0, 1, 0)), (.invokevirtual 322, (0, 0, 0, 0, 0)), (.iconst 1, (0, 0, 0, 1, 0)), (.if_icmp .eq 34, (0, 50, 0, 0, 0)), (.sipush 412, (0, 0, 0, 412, 0)), (.ireturn, (0, 0, 0, 0, 0)), (.aload_n 0, (0, 0, 0, 0, 0)), (.iconst 5, (0, 0, 0, 5, 0)), (.invokevirtual 316, (0, 0, 0, 0, 0)), (.lstore_n 2, (0, 0, 0, 0, 0)), (.lload_n 2, (0, 0, 0, 0, 0)), (.lconst 0, (0, 0, 0, 0, 0)), (.lcmp, (0, 0, 0, 0, 0)), (.ifCond .lt 18, (0, 50, 0, 0, 0)), (.lload_n 2, (0, 0, 0, 0, 0)), (.aload_n 0, (0, 0, 0, 0, 0)), (.getfield 26, (1, 0, 7, 0, 0)), (.iload_n 1, (0, 0, 0, 0, 0)), (.laload, (1, 6, 0, 0, 0)), (.lcmp, (0, 0, 0, 0, 0)), (.ifCond .ge 7, (0, 50, 0, 0, 0)), (.sipush 412, (0, 0, 0, 412, 0)), (.ireturn, (0, 0, 0, 0, 0)), (.aload_n 0, (0, 0, 0, 0, 0)), (.iconst 3, (0, 0, 0, 3, 0)), (.invokevirtual 223, (0, 0, 0, 0, 0)), (.ifCond .eq 22, (0, 77, 0, 0, 0)), (.aload_n 0, (0, 0, 0, 0, 0)), (.iconst 3, (0, 0, 0, 3, 0)), (.iload_n 1, (0, 0, 0, 0, 0)), (.iconst 0, (0, 0, 0, 0, 0)), (.invokevirtual 322, (0, 0, 0, 0, 0)), (.iconst 1, (0, 0, 0, 1, 0)), (.if_icmp .ne 9, (0, 75, 0, 0, 0)), (.sipush 304, (0, 0, 0, 304, 0)), (.goto 4, (0, 76, 0, 0, 0)), (.iconst 0, (0, 0, 0, 0, 0)), (.ireturn, (0, 0, 0, 0, 0)), (.aload_n 0, (0, 0, 0, 0, 0)), (.iconst 4, (0, 0, 0, 4, 0)), (.invokevirtual 316, (0, 0, 0, 0, 0)), (.lstore_n 2, (0, 0, 0, 0, 0)), (.lload_n 2, (0, 0, 0, 0, 0)), (.aload_n 0, (0, 0, 0, 0, 0)), (.getfield 26, (1, 0, 7, 0, 0)), (.iload_n 1, (0, 0, 0, 0, 0)), (.laload, (1, 6, 0, 0, 0)), (.lcmp, (0, 0, 0, 0, 0)), (.ifCond .lt 15, (0, 106, 0, 0, 0)), (.lload_n 2, (0, 0, 0, 0, 0)), (.lconst 0, (0, 0, 0, 0, 0)), (.lcmp, (0, 0, 0, 0, 0)), (.ifCond .lt 9, (0, 106, 0, 0, 0)), (.sipush 304, (0, 0, 0, 304, 0)), (.goto 4, (0, 107, 0, 0, 0)), (.iconst 0, (0, 0, 0, 0, 0)), (.ireturn, (0, 0, 0, 0, 0))]
theorem jc_Mo_conditions : wq_c b_Mo_conditions 4 j_Mo_conditions 0 = true := by decide +kernel
def j_Mo_ranged : wq_J := [(.aload_n 0, (0, 0, 0, 0, 0)), (.getfield 100, (1, 0, 8, 0, 0)), (.ifCond .ne 35, (0, 39, 0, 0, 0)), (.aload_n 0, (0, 0, 0, 0, 0)), (.bipush 7, (0, 0, 0, 7, 0)), (.invokevirtual 223, (0, 0, 0, 0, 0)), (.ifCond .eq 26, (0, 39, 0, 0, 0)), (.aload_n 0, (0, 0, 0, 0, 0)), (.iload_n 1, (0, 0, 0, 0, 0)), (.invokevirtual 326, (0, 0, 0, 0, 0)), (.ifCond .eq 18, (0, 39, 0, 0, 0)), (.aload_n 0, (0, 0, 0, 0, 0)), (.invokevirtual 329, (0, 0, 0, 0, 0)), (.ifCond .eq 11, (0, 39, 0, 0, 0)), (.aload_n 0, (0, 0, 0, 0, 0)), (.getfield 305, (1, 0, 20, 0, 0)), (.iconst 4, (0, 0, 0, 4, 0)), (.if_icmp .le 7, (0, 43, 0, 0, 0)), (.sipush 200, (0, 0, 0, 200, 0)), (.ireturn, (0, 0, 0, 0, 0)), (.iconst 0, (0, 0, 0, 0, 0)), (.istore_n 2, (0, 0, 0, 0, 0)), (.iload_n 2, (0, 0, 0, 0, 0)), (.aload_n 0, (0, 0, 0, 0, 0)), (.getfield 305, (1, 0, 20, 0, 0)), (.if_icmp .ge 20, (0, 70, 0, 0, 0)), (.aload_n 0, (0, 0, 0, 0, 0)), (.iload_n 2, (0, 0, 0, 0, 0)), (.aload_n 0, (0, 0, 0, 0, 0)), (.getfield 16, (1, 0, 4, 0, 0)), (.iload_n 1, (0, 0, 0, 0, 0)), (.iaload, (1, 3, 0, 0, 0)), (.invokevirtual 332, (0, 0, 0, 0, 0)), (.iinc 2 1, (0, 0, 0, 1, 0)), (.goto (-22), (0, 45, 0, 0, 0)), (.aload_n 0, (0, 0, 0, 0, 0)), (.invokevirtual 336, (0, 0, 0, 0, 0)), (.ifCond .eq 12, (0, 86, 0, 0, 0)), (.aload_n 0, (0, 0, 0, 0, 0)), (.iconst 0, (0, 0, 0, 0, 0)), (.putfield 313, (1, 0, 27, 0, 0)), (.sipush 200, (0, 0, 0, 200, 0)), (.ireturn, (0, 0, 0, 0, 0)), (.aload_n 0, (0, 0, 0, 0, 0)), (.getfield 313, (1, 0, 27, 0, 0)), (.ifCond .ne 9, (0, 99, 0, 0, 0)), (.sipush 416, (0, 0, 0, 416, 0)), (.goto 6, (0, 102, 0, 0, 0)), (.sipush 206, (0, 0, 0, 206, 0)), (.ireturn, (0, 0, 0, 0, 0))]
theorem jc_Mo_ranged : wq_c b_Mo_ranged 3 j_Mo_ranged 0 = true := by decide +kernel
def j_Mo_decide : wq_J := [(.aload_n 0, (0, 0, 0, 0, 0)), (.getfield 100, (1, 0, 8, 0, 0)), (.ifCond .lt 11, (0, 15, 0, 0, 0)), (.aload_n 0, (0, 0, 0, 0, 0)), (.getfield 100, (1, 0, 8, 0, 0)), (.iconst 2, (0, 0, 0, 2, 0)), (.if_icmp .le 7, (0, 19, 0, 0, 0)), (.sipush 501, (0, 0, 0, 501, 0)), (.ireturn, (0, 0, 0, 0, 0)), (.aload_n 0, (0, 0, 0, 0, 0)), (.getfield 97, (1, 0, 1, 0, 0)), (.ifCond .ne 7, (0, 30, 0, 0, 0)), (.sipush 404, (0, 0, 0, 404, 0)), (.ireturn, (0, 0, 0, 0, 0)), (.aload_n 0, (0, 0, 0, 0, 0)), (.getfield 100, (1, 0, 8, 0, 0)), (.iconst 2, (0, 0, 0, 2, 0)), (.if_icmp .ne 7, (0, 42, 0, 0, 0)), (.sipush 204, (0, 0, 0, 204, 0)), (.ireturn, (0, 0, 0, 0, 0)), (.aload_n 0, (0, 0, 0, 0, 0)), (.invokevirtual 339, (0, 0, 0, 0, 0)), (.istore_n 1, (0, 0, 0, 0, 0)), (.iload_n 1, (0, 0, 0, 0, 0)), (.ifCond .ge 7, (0, 55, 0, 0, 0)), (.sipush 406, (0, 0, 0, 406, 0)), (.ireturn, (0, 0, 0, 0, 0)), (.aload_n 0, (0, 0, 0, 0, 0)), (.iload_n 1, (0, 0, 0, 0, 0)), (.putfield 46, (1, 0, 24, 0, 0)), (.aload_n 0, (0, 0, 0, 0, 0)), (.aload_n 0, (0, 0, 0, 0, 0)), (.getfield 16, (1, 0, 4, 0, 0)), (.iload_n 1, (0, 0, 0, 0, 0)), (.iaload, (1, 3, 0, 0, 0)), (.putfield 342, (1, 0, 25, 0, 0)), (.aload_n 0, (0, 0, 0, 0, 0)), (.iload_n 1, (0, 0, 0, 0, 0)), (.invokevirtual 345, (0, 0, 0, 0, 0)), (.istore_n 2, (0, 0, 0, 0, 0)), (.iload_n 2, (0, 0, 0, 0, 0)), (.ifCond .le 7, (0, 84, 0, 0, 0)), (.iload_n 2, (0, 0, 0, 0, 0)), (.goto 8, (0, 89, 0, 0, 0)), (.aload_n 0, (0, 0, 0, 0, 0)), (.iload_n 1, (0, 0, 0, 0, 0)), (.invokevirtual 348, (0, 0, 0, 0, 0)), (.ireturn, (0, 0, 0, 0, 0))]
theorem jc_Mo_decide : wq_c b_Mo_decide 3 j_Mo_decide 0 = true := by decide +kernel
def j_Mo_respond : wq_J := [(.aload_n 0, (0, 0, 0, 0, 0)), (.iconst (-1), (0, 0, 0, (-1), 0)), (.putfield 46, (1, 0, 24, 0, 0)), (.aload_n 0, (0, 0, 0, 0, 0)), (.iconst 0, (0, 0, 0, 0, 0)), (.putfield 342, (1, 0, 25, 0, 0)), (.aload_n 0, (0, 0, 0, 0, 0)), (.iconst 0, (0, 0, 0, 0, 0)), (.putfield 313, (1, 0, 27, 0, 0)), (.aload_n 0, (0, 0, 0, 0, 0)), (.aload_n 0, (0, 0, 0, 0, 0)), (.getfield 100, (1, 0, 8, 0, 0)), (.iconst 1, (0, 0, 0, 1, 0)), (.if_icmp .ne 7, (0, 28, 0, 0, 0)), (.iconst 1, (0, 0, 0, 1, 0)), (.goto 4, (0, 29, 0, 0, 0)), (.iconst 0, (0, 0, 0, 0, 0)), (.putfield 351, (1, 0, 26, 0, 0)), (.aload_n 0, (0, 0, 0, 0, 0)), (.aload_n 0, (0, 0, 0, 0, 0)), (.invokevirtual 354, (0, 0, 0, 0, 0)), (.putfield 42, (1, 0, 23, 0, 0)), (.aload_n 0, (0, 0, 0, 0, 0)), (.getfield 42, (1, 0, 23, 0, 0)), (.ireturn, (0, 0, 0, 0, 0))]
theorem jc_Mo_respond : wq_c b_Mo_respond 1 j_Mo_respond 0 = true := by decide +kernel
def j_Mo_status : wq_J := [(.aload_n 0, (0, 0, 0, 0, 0)), (.getfield 42, (1, 0, 23, 0, 0)), (.ireturn, (0, 0, 0, 0, 0))]
theorem jc_Mo_status : wq_c b_Mo_status 1 j_Mo_status 0 = true := by decide +kernel
def j_Mo_chosen : wq_J := [(.aload_n 0, (0, 0, 0, 0, 0)), (.getfield 46, (1, 0, 24, 0, 0)), (.ireturn, (0, 0, 0, 0, 0))]
theorem jc_Mo_chosen : wq_c b_Mo_chosen 1 j_Mo_chosen 0 = true := by decide +kernel
def j_Mo_digitsOf : wq_J := [(.iconst 1, (0, 0, 0, 1, 0)), (.istore_n 1, (0, 0, 0, 0, 0)), (.iload_n 0, (0, 0, 0, 0, 0)), (.bipush 10, (0, 0, 0, 10, 0)), (.idiv, (0, 0, 0, 0, 0)), (.istore_n 2, (0, 0, 0, 0, 0)), (.iload_n 2, (0, 0, 0, 0, 0)), (.ifCond .le 14, (0, 22, 0, 0, 0)), (.iinc 1 1, (0, 0, 0, 1, 0)), (.iload_n 2, (0, 0, 0, 0, 0)), (.bipush 10, (0, 0, 0, 10, 0)), (.idiv, (0, 0, 0, 0, 0)), (.istore_n 2, (0, 0, 0, 0, 0)), (.goto (-12), (0, 7, 0, 0, 0)), (.iload_n 1, (0, 0, 0, 0, 0)), (.ireturn, (0, 0, 0, 0, 0))]
theorem jc_Mo_digitsOf : wq_c b_Mo_digitsOf 3 j_Mo_digitsOf 0 = true := by decide +kernel
def j_Mo_byteAt : wq_J := [(.bipush 7, (0, 0, 0, 7, 0)), (.iload_n 1, (0, 0, 0, 0, 0)), (.imul, (0, 0, 0, 0, 0)), (.bipush 13, (0, 0, 0, 13, 0)), (.aload_n 0, (0, 0, 0, 0, 0)), (.getfield 46, (1, 0, 24, 0, 0)), (.imul, (0, 0, 0, 0, 0)), (.iadd, (0, 0, 0, 0, 0)), (.iconst 1, (0, 0, 0, 1, 0)), (.iadd, (0, 0, 0, 0, 0)), (.sipush 251, (0, 0, 0, 251, 0)), (.irem, (0, 0, 0, 0, 0)), (.ireturn, (0, 0, 0, 0, 0))]
theorem jc_Mo_byteAt : wq_c b_Mo_byteAt 2 j_Mo_byteAt 0 = true := by decide +kernel
def j_Mo_headOf : wq_J := [(.bipush 15, (0, 0, 0, 15, 0)), (.aload_n 0, (0, 0, 0, 0, 0)), (.getfield 49, (1, 0, 28, 0, 0)), (.iload_n 1, (0, 0, 0, 0, 0)), (.iaload, (1, 11, 0, 0, 0)), (.invokestatic 357, (0, 0, 0, 0, 0)), (.iadd, (0, 0, 0, 0, 0)), (.iconst 1, (0, 0, 0, 1, 0)), (.iadd, (0, 0, 0, 0, 0)), (.aload_n 0, (0, 0, 0, 0, 0)), (.getfield 52, (1, 0, 29, 0, 0)), (.iload_n 1, (0, 0, 0, 0, 0)), (.iaload, (1, 12, 0, 0, 0)), (.invokestatic 357, (0, 0, 0, 0, 0)), (.iadd, (0, 0, 0, 0, 0)), (.iconst 1, (0, 0, 0, 1, 0)), (.iadd, (0, 0, 0, 0, 0)), (.aload_n 0, (0, 0, 0, 0, 0)), (.getfield 342, (1, 0, 25, 0, 0)), (.invokestatic 357, (0, 0, 0, 0, 0)), (.iadd, (0, 0, 0, 0, 0)), (.iconst 4, (0, 0, 0, 4, 0)), (.iadd, (0, 0, 0, 0, 0)), (.ireturn, (0, 0, 0, 0, 0))]
theorem jc_Mo_headOf : wq_c b_Mo_headOf 2 j_Mo_headOf 0 = true := by decide +kernel
def j_Mo_partSize : wq_J := [(.aload_n 0, (0, 0, 0, 0, 0)), (.iload_n 1, (0, 0, 0, 0, 0)), (.invokevirtual 360, (0, 0, 0, 0, 0)), (.aload_n 0, (0, 0, 0, 0, 0)), (.getfield 52, (1, 0, 29, 0, 0)), (.iload_n 1, (0, 0, 0, 0, 0)), (.iaload, (1, 12, 0, 0, 0)), (.iadd, (0, 0, 0, 0, 0)), (.aload_n 0, (0, 0, 0, 0, 0)), (.getfield 49, (1, 0, 28, 0, 0)), (.iload_n 1, (0, 0, 0, 0, 0)), (.iaload, (1, 11, 0, 0, 0)), (.isub, (0, 0, 0, 0, 0)), (.iconst 1, (0, 0, 0, 1, 0)), (.iadd, (0, 0, 0, 0, 0)), (.iconst 2, (0, 0, 0, 2, 0)), (.iadd, (0, 0, 0, 0, 0)), (.ireturn, (0, 0, 0, 0, 0))]
theorem jc_Mo_partSize : wq_c b_Mo_partSize 2 j_Mo_partSize 0 = true := by decide +kernel
def j_Mo_length : wq_J := [(.aload_n 0, (0, 0, 0, 0, 0)), (.getfield 42, (1, 0, 23, 0, 0)), (.sipush 200, (0, 0, 0, 200, 0)), (.if_icmp .ne 9, (0, 16, 0, 0, 0)), (.aload_n 0, (0, 0, 0, 0, 0)), (.getfield 342, (1, 0, 25, 0, 0)), (.i2l, (0, 0, 0, 0, 0)), (.lreturn, (0, 0, 0, 0, 0)), (.aload_n 0, (0, 0, 0, 0, 0)), (.getfield 42, (1, 0, 23, 0, 0)), (.sipush 206, (0, 0, 0, 206, 0)), (.if_icmp .eq 5, (0, 28, 0, 0, 0)), (.lconst 0, (0, 0, 0, 0, 0)), (.lreturn, (0, 0, 0, 0, 0)), (.aload_n 0, (0, 0, 0, 0, 0)), (.getfield 313, (1, 0, 27, 0, 0)), (.iconst 1, (0, 0, 0, 1, 0)), (.if_icmp .ne 20, (0, 53, 0, 0, 0)), (.aload_n 0, (0, 0, 0, 0, 0)), (.getfield 52, (1, 0, 29, 0, 0)), (.iconst 0, (0, 0, 0, 0, 0)), (.iaload, (1, 12, 0, 0, 0)), (.aload_n 0, (0, 0, 0, 0, 0)), (.getfield 49, (1, 0, 28, 0, 0)), (.iconst 0, (0, 0, 0, 0, 0)), (.iaload, (1, 11, 0, 0, 0)), (.isub, (0, 0, 0, 0, 0)), (.iconst 1, (0, 0, 0, 1, 0)), (.iadd, (0, 0, 0, 0, 0)), (.i2l, (0, 0, 0, 0, 0)), (.lreturn, (0, 0, 0, 0, 0)), (.ldc2_w 363, (1, 0, 0, 0, 10)), (.lstore_n 1, (0, 0, 0, 0, 0)), (.iconst 0, (0, 0, 0, 0, 0)), (.istore_n 3, (0, 0, 0, 0, 0)), (.iload_n 3, (0, 0, 0, 0, 0)), (.aload_n 0, (0, 0, 0, 0, 0)), (.getfield 313, (1, 0, 27, 0, 0)), (.if_icmp .ge 18, (0, 82, 0, 0, 0)), (.lload_n 1, (0, 0, 0, 0, 0)), (.aload_n 0, (0, 0, 0, 0, 0)), (.iload_n 3, (0, 0, 0, 0, 0)), (.invokevirtual 365, (0, 0, 0, 0, 0)), (.i2l, (0, 0, 0, 0, 0)), (.ladd, (0, 0, 0, 0, 0)), (.lstore_n 1, (0, 0, 0, 0, 0)), (.iinc 3 1, (0, 0, 0, 1, 0)), (.goto (-20), (0, 59, 0, 0, 0)), (.lload_n 1, (0, 0, 0, 0, 0)), (.lreturn, (0, 0, 0, 0, 0))]
theorem jc_Mo_length : wq_c b_Mo_length 4 j_Mo_length 0 = true := by decide +kernel
def j_Mo_digitOf : wq_J := [(.iload_n 0, (0, 0, 0, 0, 0)), (.istore_n 2, (0, 0, 0, 0, 0)), (.iload_n 0, (0, 0, 0, 0, 0)), (.invokestatic 357, (0, 0, 0, 0, 0)), (.iconst 1, (0, 0, 0, 1, 0)), (.isub, (0, 0, 0, 0, 0)), (.istore_n 3, (0, 0, 0, 0, 0)), (.iload_n 3, (0, 0, 0, 0, 0)), (.iload_n 1, (0, 0, 0, 0, 0)), (.if_icmp .le 14, (0, 25, 0, 0, 0)), (.iload_n 2, (0, 0, 0, 0, 0)), (.bipush 10, (0, 0, 0, 10, 0)), (.idiv, (0, 0, 0, 0, 0)), (.istore_n 2, (0, 0, 0, 0, 0)), (.iinc 3 (-1), (0, 0, 0, (-1), 0)), (.goto (-13), (0, 9, 0, 0, 0)), (.bipush 48, (0, 0, 0, 48, 0)), (.iload_n 2, (0, 0, 0, 0, 0)), (.bipush 10, (0, 0, 0, 10, 0)), (.irem, (0, 0, 0, 0, 0)), (.iadd, (0, 0, 0, 0, 0)), (.ireturn, (0, 0, 0, 0, 0))]
theorem jc_Mo_digitOf : wq_c b_Mo_digitOf 4 j_Mo_digitOf 0 = true := by decide +kernel
def j_Mo_figures : wq_J := [(.iload_n 1, (0, 0, 0, 0, 0)), (.invokestatic 357, (0, 0, 0, 0, 0)), (.istore 4, (0, 0, 0, 0, 0)), (.iload_n 2, (0, 0, 0, 0, 0)), (.invokestatic 357, (0, 0, 0, 0, 0)), (.istore 5, (0, 0, 0, 0, 0)), (.iload_n 3, (0, 0, 0, 0, 0)), (.iload 4, (0, 0, 0, 0, 0)), (.if_icmp .ge 9, (0, 24, 0, 0, 0)), (.iload_n 1, (0, 0, 0, 0, 0)), (.iload_n 3, (0, 0, 0, 0, 0)), (.invokestatic 368, (0, 0, 0, 0, 0)), (.ireturn, (0, 0, 0, 0, 0)), (.iload_n 3, (0, 0, 0, 0, 0)), (.iload 4, (0, 0, 0, 0, 0)), (.if_icmp .ne 6, (0, 33, 0, 0, 0)), (.bipush 45, (0, 0, 0, 45, 0)), (.ireturn, (0, 0, 0, 0, 0)), (.iload_n 3, (0, 0, 0, 0, 0)), (.iload 4, (0, 0, 0, 0, 0)), (.iconst 1, (0, 0, 0, 1, 0)), (.iadd, (0, 0, 0, 0, 0)), (.iload 5, (0, 0, 0, 0, 0)), (.iadd, (0, 0, 0, 0, 0)), (.if_icmp .ge 14, (0, 55, 0, 0, 0)), (.iload_n 2, (0, 0, 0, 0, 0)), (.iload_n 3, (0, 0, 0, 0, 0)), (.iload 4, (0, 0, 0, 0, 0)), (.isub, (0, 0, 0, 0, 0)), (.iconst 1, (0, 0, 0, 1, 0)), (.isub, (0, 0, 0, 0, 0)), (.invokestatic 368, (0, 0, 0, 0, 0)), (.ireturn, (0, 0, 0, 0, 0)), (.iload_n 3, (0, 0, 0, 0, 0)), (.iload 4, (0, 0, 0, 0, 0)), (.iconst 1, (0, 0, 0, 1, 0)), (.iadd, (0, 0, 0, 0, 0)), (.iload 5, (0, 0, 0, 0, 0)), (.iadd, (0, 0, 0, 0, 0)), (.if_icmp .ne 8, (0, 71, 0, 0, 0)), (.bipush 47, (0, 0, 0, 47, 0)), (.goto 19, (0, 87, 0, 0, 0)), (.aload_n 0, (0, 0, 0, 0, 0)), (.getfield 342, (1, 0, 25, 0, 0)), (.iload_n 3, (0, 0, 0, 0, 0)), (.iload 4, (0, 0, 0, 0, 0)), (.isub, (0, 0, 0, 0, 0)), (.iload 5, (0, 0, 0, 0, 0)), (.isub, (0, 0, 0, 0, 0)), (.iconst 2, (0, 0, 0, 2, 0)), (.isub, (0, 0, 0, 0, 0)), (.invokestatic 368, (0, 0, 0, 0, 0)), (.ireturn, (0, 0, 0, 0, 0))]
theorem jc_Mo_figures : wq_c b_Mo_figures 6 j_Mo_figures 0 = true := by decide +kernel
def j_Mo_crlf : wq_J := [(.iload_n 0, (0, 0, 0, 0, 0)), (.iconst 2, (0, 0, 0, 2, 0)), (.irem, (0, 0, 0, 0, 0)), (.ifCond .ne 8, (0, 11, 0, 0, 0)), (.bipush 13, (0, 0, 0, 13, 0)), (.goto 5, (0, 13, 0, 0, 0)), (.bipush 10, (0, 0, 0, 10, 0)), (.ireturn, (0, 0, 0, 0, 0))]
theorem jc_Mo_crlf : wq_c b_Mo_crlf 1 j_Mo_crlf 0 = true := by decide +kernel
def j_Mo_partByte : wq_J := [(.aload_n 0, (0, 0, 0, 0, 0)), (.iload_n 1, (0, 0, 0, 0, 0)), (.invokevirtual 360, (0, 0, 0, 0, 0)), (.istore_n 3, (0, 0, 0, 0, 0)), (.iload_n 2, (0, 0, 0, 0, 0)), (.bipush 8, (0, 0, 0, 8, 0)), (.if_icmp .ge 17, (0, 26, 0, 0, 0)), (.ldc2_w 371, (1, 0, 0, 0, 724327827336342829)), (.bipush 8, (0, 0, 0, 8, 0)), (.iload_n 2, (0, 0, 0, 0, 0)), (.imul, (0, 0, 0, 0, 0)), (.lshr, (0, 0, 0, 0, 0)), (.ldc2_w 103, (1, 0, 0, 0, 255)), (.land, (0, 0, 0, 0, 0)), (.l2i, (0, 0, 0, 0, 0)), (.ireturn, (0, 0, 0, 0, 0)), (.iload_n 2, (0, 0, 0, 0, 0)), (.bipush 15, (0, 0, 0, 15, 0)), (.if_icmp .ge 20, (0, 49, 0, 0, 0)), (.ldc2_w 373, (1, 0, 0, 0, 9071406456136018)), (.bipush 8, (0, 0, 0, 8, 0)), (.iload_n 2, (0, 0, 0, 0, 0)), (.bipush 8, (0, 0, 0, 8, 0)), (.isub, (0, 0, 0, 0, 0)), (.imul, (0, 0, 0, 0, 0)), (.lshr, (0, 0, 0, 0, 0)), (.ldc2_w 103, (1, 0, 0, 0, 255)), (.land, (0, 0, 0, 0, 0)), (.l2i, (0, 0, 0, 0, 0)), (.ireturn, (0, 0, 0, 0, 0)), (.iload_n 2, (0, 0, 0, 0, 0)), (.iload_n 3, (0, 0, 0, 0, 0)), (.iconst 4, (0, 0, 0, 4, 0)), (.isub, (0, 0, 0, 0, 0)), (.if_icmp .ge 24, (0, 77, 0, 0, 0)), (.aload_n 0, (0, 0, 0, 0, 0)), (.aload_n 0, (0, 0, 0, 0, 0)), (.getfield 49, (1, 0, 28, 0, 0)), (.iload_n 1, (0, 0, 0, 0, 0)), (.iaload, (1, 11, 0, 0, 0)), (.aload_n 0, (0, 0, 0, 0, 0)), (.getfield 52, (1, 0, 29, 0, 0)), (.iload_n 1, (0, 0, 0, 0, 0)), (.iaload, (1, 12, 0, 0, 0)), (.iload_n 2, (0, 0, 0, 0, 0)), (.bipush 15, (0, 0, 0, 15, 0)), (.isub, (0, 0, 0, 0, 0)), (.invokevirtual 375, (0, 0, 0, 0, 0)), (.ireturn, (0, 0, 0, 0, 0)), (.iload_n 2, (0, 0, 0, 0, 0)), (.iload_n 3, (0, 0, 0, 0, 0)), (.if_icmp .ge 12, (0, 91, 0, 0, 0)), (.iload_n 2, (0, 0, 0, 0, 0)), (.iload_n 3, (0, 0, 0, 0, 0)), (.isub, (0, 0, 0, 0, 0)), (.iconst 4, (0, 0, 0, 4, 0)), (.iadd, (0, 0, 0, 0, 0)), (.invokestatic 379, (0, 0, 0, 0, 0)), (.ireturn, (0, 0, 0, 0, 0)), (.aload_n 0, (0, 0, 0, 0, 0)), (.getfield 49, (1, 0, 28, 0, 0)), (.iload_n 1, (0, 0, 0, 0, 0)), (.iaload, (1, 11, 0, 0, 0)), (.iload_n 2, (0, 0, 0, 0, 0)), (.iadd, (0, 0, 0, 0, 0)), (.iload_n 3, (0, 0, 0, 0, 0)), (.isub, (0, 0, 0, 0, 0)), (.istore 4, (0, 0, 0, 0, 0)), (.iload 4, (0, 0, 0, 0, 0)), (.aload_n 0, (0, 0, 0, 0, 0)), (.getfield 52, (1, 0, 29, 0, 0)), (.iload_n 1, (0, 0, 0, 0, 0)), (.iaload, (1, 12, 0, 0, 0)), (.if_icmp .gt 12, (0, 123, 0, 0, 0)), (.aload_n 0, (0, 0, 0, 0, 0)), (.iload 4, (0, 0, 0, 0, 0)), (.invokevirtual 382, (0, 0, 0, 0, 0)), (.goto 17, (0, 137, 0, 0, 0)), (.iload 4, (0, 0, 0, 0, 0)), (.aload_n 0, (0, 0, 0, 0, 0)), (.getfield 52, (1, 0, 29, 0, 0)), (.iload_n 1, (0, 0, 0, 0, 0)), (.iaload, (1, 12, 0, 0, 0)), (.isub, (0, 0, 0, 0, 0)), (.iconst 1, (0, 0, 0, 1, 0)), (.isub, (0, 0, 0, 0, 0)), (.invokestatic 379, (0, 0, 0, 0, 0)), (.ireturn, (0, 0, 0, 0, 0))]
theorem jc_Mo_partByte : wq_c b_Mo_partByte 5 j_Mo_partByte 0 = true := by decide +kernel
def j_Mo_body : wq_J := [(.iload_n 1, (0, 0, 0, 0, 0)), (.ifCond .lt 20, (0, 21, 0, 0, 0)), (.iload_n 1, (0, 0, 0, 0, 0)), (.i2l, (0, 0, 0, 0, 0)), (.aload_n 0, (0, 0, 0, 0, 0)), (.invokevirtual 385, (0, 0, 0, 0, 0)), (.lcmp, (0, 0, 0, 0, 0)), (.ifCond .ge 10, (0, 21, 0, 0, 0)), (.aload_n 0, (0, 0, 0, 0, 0)), (.getfield 351, (1, 0, 26, 0, 0)), (.ifCond .eq 5, (0, 23, 0, 0, 0)), (.iconst (-1), (0, 0, 0, (-1), 0)), (.ireturn, (0, 0, 0, 0, 0)), (.aload_n 0, (0, 0, 0, 0, 0)), (.getfield 42, (1, 0, 23, 0, 0)), (.sipush 200, (0, 0, 0, 200, 0)), (.if_icmp .ne 9, (0, 39, 0, 0, 0)), (.aload_n 0, (0, 0, 0, 0, 0)), (.iload_n 1, (0, 0, 0, 0, 0)), (.invokevirtual 382, (0, 0, 0, 0, 0)), (.ireturn, (0, 0, 0, 0, 0)), (.aload_n 0, (0, 0, 0, 0, 0)), (.getfield 313, (1, 0, 27, 0, 0)), (.iconst 1, (0, 0, 0, 1, 0)), (.if_icmp .ne 16, (0, 60, 0, 0, 0)), (.aload_n 0, (0, 0, 0, 0, 0)), (.aload_n 0, (0, 0, 0, 0, 0)), (.getfield 49, (1, 0, 28, 0, 0)), (.iconst 0, (0, 0, 0, 0, 0)), (.iaload, (1, 11, 0, 0, 0)), (.iload_n 1, (0, 0, 0, 0, 0)), (.iadd, (0, 0, 0, 0, 0)), (.invokevirtual 382, (0, 0, 0, 0, 0)), (.ireturn, (0, 0, 0, 0, 0)), (.iload_n 1, (0, 0, 0, 0, 0)), (.istore_n 2, (0, 0, 0, 0, 0)), (.iconst 0, (0, 0, 0, 0, 0)), (.istore_n 3, (0, 0, 0, 0, 0)), (.iload_n 3, (0, 0, 0, 0, 0)), (.aload_n 0, (0, 0, 0, 0, 0)), (.getfield 313, (1, 0, 27, 0, 0)), (.if_icmp .ge 33, (0, 102, 0, 0, 0)), (.iload_n 2, (0, 0, 0, 0, 0)), (.aload_n 0, (0, 0, 0, 0, 0)), (.iload_n 3, (0, 0, 0, 0, 0)), (.invokevirtual 365, (0, 0, 0, 0, 0)), (.if_icmp .ge 10, (0, 88, 0, 0, 0)), (.aload_n 0, (0, 0, 0, 0, 0)), (.iload_n 3, (0, 0, 0, 0, 0)), (.iload_n 2, (0, 0, 0, 0, 0)), (.invokevirtual 388, (0, 0, 0, 0, 0)), (.ireturn, (0, 0, 0, 0, 0)), (.iload_n 2, (0, 0, 0, 0, 0)), (.aload_n 0, (0, 0, 0, 0, 0)), (.iload_n 3, (0, 0, 0, 0, 0)), (.invokevirtual 365, (0, 0, 0, 0, 0)), (.isub, (0, 0, 0, 0, 0)), (.istore_n 2, (0, 0, 0, 0, 0)), (.iinc 3 1, (0, 0, 0, 1, 0)), (.goto (-35), (0, 64, 0, 0, 0)), (.iload_n 2, (0, 0, 0, 0, 0)), (.bipush 8, (0, 0, 0, 8, 0)), (.if_icmp .ge 19, (0, 124, 0, 0, 0)), (.ldc2_w 391, (1, 0, 0, 0, 3255350817918561581)), (.bipush 8, (0, 0, 0, 8, 0)), (.iload_n 2, (0, 0, 0, 0, 0)), (.imul, (0, 0, 0, 0, 0)), (.lshr, (0, 0, 0, 0, 0)), (.ldc2_w 103, (1, 0, 0, 0, 255)), (.land, (0, 0, 0, 0, 0)), (.l2i, (0, 0, 0, 0, 0)), (.goto 7, (0, 128, 0, 0, 0)), (.iload_n 2, (0, 0, 0, 0, 0)), (.invokestatic 379, (0, 0, 0, 0, 0)), (.ireturn, (0, 0, 0, 0, 0))]
theorem jc_Mo_body : wq_c b_Mo_body 4 j_Mo_body 0 = true := by decide +kernel
def j_Mo_parts : wq_J := [(.aload_n 0, (0, 0, 0, 0, 0)), (.getfield 42, (1, 0, 23, 0, 0)), (.sipush 206, (0, 0, 0, 206, 0)), (.if_icmp .ne 10, (0, 17, 0, 0, 0)), (.aload_n 0, (0, 0, 0, 0, 0)), (.getfield 313, (1, 0, 27, 0, 0)), (.goto 4, (0, 18, 0, 0, 0)), (.iconst 0, (0, 0, 0, 0, 0)), (.ireturn, (0, 0, 0, 0, 0))]
theorem jc_Mo_parts : wq_c b_Mo_parts 1 j_Mo_parts 0 = true := by decide +kernel
def j_Mo_first : wq_J := [(.iload_n 1, (0, 0, 0, 0, 0)), (.ifCond .lt 20, (0, 21, 0, 0, 0)), (.iload_n 1, (0, 0, 0, 0, 0)), (.aload_n 0, (0, 0, 0, 0, 0)), (.invokevirtual 393, (0, 0, 0, 0, 0)), (.if_icmp .ge 12, (0, 21, 0, 0, 0)), (.aload_n 0, (0, 0, 0, 0, 0)), (.getfield 49, (1, 0, 28, 0, 0)), (.iload_n 1, (0, 0, 0, 0, 0)), (.iaload, (1, 11, 0, 0, 0)), (.goto 4, (0, 22, 0, 0, 0)), (.iconst (-1), (0, 0, 0, (-1), 0)), (.ireturn, (0, 0, 0, 0, 0))]
theorem jc_Mo_first : wq_c b_Mo_first 2 j_Mo_first 0 = true := by decide +kernel
def j_Mo_last : wq_J := [(.iload_n 1, (0, 0, 0, 0, 0)), (.ifCond .lt 20, (0, 21, 0, 0, 0)), (.iload_n 1, (0, 0, 0, 0, 0)), (.aload_n 0, (0, 0, 0, 0, 0)), (.invokevirtual 393, (0, 0, 0, 0, 0)), (.if_icmp .ge 12, (0, 21, 0, 0, 0)), (.aload_n 0, (0, 0, 0, 0, 0)), (.getfield 52, (1, 0, 29, 0, 0)), (.iload_n 1, (0, 0, 0, 0, 0)), (.iaload, (1, 12, 0, 0, 0)), (.goto 4, (0, 22, 0, 0, 0)), (.iconst (-1), (0, 0, 0, (-1), 0)), (.ireturn, (0, 0, 0, 0, 0))]
theorem jc_Mo_last : wq_c b_Mo_last 2 j_Mo_last 0 = true := by decide +kernel
def j_Mo_score : wq_J := [(.iload_n 1, (0, 0, 0, 0, 0)), (.ifCond .lt 19, (0, 20, 0, 0, 0)), (.iload_n 1, (0, 0, 0, 0, 0)), (.aload_n 0, (0, 0, 0, 0, 0)), (.getfield 97, (1, 0, 1, 0, 0)), (.if_icmp .ge 11, (0, 20, 0, 0, 0)), (.aload_n 0, (0, 0, 0, 0, 0)), (.iload_n 1, (0, 0, 0, 0, 0)), (.invokevirtual 319, (0, 0, 0, 0, 0)), (.goto 4, (0, 21, 0, 0, 0)), (.iconst (-1), (0, 0, 0, (-1), 0)), (.ireturn, (0, 0, 0, 0, 0))]
theorem jc_Mo_score : wq_c b_Mo_score 2 j_Mo_score 0 = true := by decide +kernel
def j_Mo_formed : wq_J := [(.iload_n 1, (0, 0, 0, 0, 0)), (.ifCond .lt 17, (0, 18, 0, 0, 0)), (.iload_n 1, (0, 0, 0, 0, 0)), (.bipush 7, (0, 0, 0, 7, 0)), (.if_icmp .gt 11, (0, 18, 0, 0, 0)), (.aload_n 0, (0, 0, 0, 0, 0)), (.iload_n 1, (0, 0, 0, 0, 0)), (.invokevirtual 223, (0, 0, 0, 0, 0)), (.ifCond .ne 5, (0, 20, 0, 0, 0)), (.iconst 0, (0, 0, 0, 0, 0)), (.ireturn, (0, 0, 0, 0, 0)), (.iload_n 1, (0, 0, 0, 0, 0)), (.tableswitch 112 0 7 #[47, 61, 75, 91, 112, 112, 112, 107], (0, 47, 0, 0, 0)), (.aload_n 0, (0, 0, 0, 0, 0)), (.iconst 0, (0, 0, 0, 0, 0)), (.invokevirtual 226, (0, 0, 0, 0, 0)), (.ifCond .lt 7, (0, 80, 0, 0, 0)), (.iconst 1, (0, 0, 0, 1, 0)), (.goto 4, (0, 81, 0, 0, 0)), (.iconst 0, (0, 0, 0, 0, 0)), (.ireturn, (0, 0, 0, 0, 0)), (.aload_n 0, (0, 0, 0, 0, 0)), (.iconst 0, (0, 0, 0, 0, 0)), (.invokevirtual 229, (0, 0, 0, 0, 0)), (.ifCond .lt 7, (0, 94, 0, 0, 0)), (.iconst 1, (0, 0, 0, 1, 0)), (.goto 4, (0, 95, 0, 0, 0)), (.iconst 0, (0, 0, 0, 0, 0)), (.ireturn, (0, 0, 0, 0, 0)), (.aload_n 0, (0, 0, 0, 0, 0)), (.iconst 2, (0, 0, 0, 2, 0)), (.iconst (-1), (0, 0, 0, (-1), 0)), (.iconst 1, (0, 0, 0, 1, 0)), (.invokevirtual 322, (0, 0, 0, 0, 0)), (.ifCond .lt 7, (0, 110, 0, 0, 0)), (.iconst 1, (0, 0, 0, 1, 0)), (.goto 4, (0, 111, 0, 0, 0)), (.iconst 0, (0, 0, 0, 0, 0)), (.ireturn, (0, 0, 0, 0, 0)), (.aload_n 0, (0, 0, 0, 0, 0)), (.iconst 3, (0, 0, 0, 3, 0)), (.iconst (-1), (0, 0, 0, (-1), 0)), (.iconst 0, (0, 0, 0, 0, 0)), (.invokevirtual 322, (0, 0, 0, 0, 0)), (.ifCond .lt 7, (0, 126, 0, 0, 0)), (.iconst 1, (0, 0, 0, 1, 0)), (.goto 4, (0, 127, 0, 0, 0)), (.iconst 0, (0, 0, 0, 0, 0)), (.ireturn, (0, 0, 0, 0, 0)), (.aload_n 0, (0, 0, 0, 0, 0)), (.invokevirtual 329, (0, 0, 0, 0, 0)), (.ireturn, (0, 0, 0, 0, 0)), (.aload_n 0, (0, 0, 0, 0, 0)), (.iload_n 1, (0, 0, 0, 0, 0)), (.invokevirtual 316, (0, 0, 0, 0, 0)), (.lconst 0, (0, 0, 0, 0, 0)), (.lcmp, (0, 0, 0, 0, 0)), (.ifCond .ge 16, (0, 156, 0, 0, 0)), (.iload_n 1, (0, 0, 0, 0, 0)), (.bipush 6, (0, 0, 0, 6, 0)), (.if_icmp .ne 14, (0, 160, 0, 0, 0)), (.aload_n 0, (0, 0, 0, 0, 0)), (.invokevirtual 396, (0, 0, 0, 0, 0)), (.ifCond .eq 7, (0, 160, 0, 0, 0)), (.iconst 1, (0, 0, 0, 1, 0)), (.goto 4, (0, 161, 0, 0, 0)), (.iconst 0, (0, 0, 0, 0, 0)), (.ireturn, (0, 0, 0, 0, 0))]
theorem jc_Mo_formed : wq_c b_Mo_formed 2 j_Mo_formed 0 = true := by decide +kernel
def j_Mo_loneTag : wq_J := [(.aload_n 0, (0, 0, 0, 0, 0)), (.bipush 6, (0, 0, 0, 6, 0)), (.invokevirtual 199, (0, 0, 0, 0, 0)), (.aload_n 0, (0, 0, 0, 0, 0)), (.invokevirtual 156, (0, 0, 0, 0, 0)), (.aload_n 0, (0, 0, 0, 0, 0)), (.invokevirtual 235, (0, 0, 0, 0, 0)), (.istore_n 1, (0, 0, 0, 0, 0)), (.aload_n 0, (0, 0, 0, 0, 0)), (.invokevirtual 156, (0, 0, 0, 0, 0)), (.iload_n 1, (0, 0, 0, 0, 0)), (.ifCond .eq 14, (0, 34, 0, 0, 0)), (.aload_n 0, (0, 0, 0, 0, 0)), (.invokevirtual 166, (0, 0, 0, 0, 0)), (.ifCond .eq 7, (0, 34, 0, 0, 0)), (.iconst 1, (0, 0, 0, 1, 0)), (.goto 4, (0, 35, 0, 0, 0)), (.iconst 0, (0, 0, 0, 0, 0)), (.ireturn, (0, 0, 0, 0, 0))]
theorem jc_Mo_loneTag : wq_c b_Mo_loneTag 2 j_Mo_loneTag 0 = true := by decide +kernel
def j_Mo_date : wq_J := [(.iload_n 1, (0, 0, 0, 0, 0)), (.iconst 4, (0, 0, 0, 4, 0)), (.if_icmp .lt 17, (0, 19, 0, 0, 0)), (.iload_n 1, (0, 0, 0, 0, 0)), (.bipush 6, (0, 0, 0, 6, 0)), (.if_icmp .gt 11, (0, 19, 0, 0, 0)), (.aload_n 0, (0, 0, 0, 0, 0)), (.iload_n 1, (0, 0, 0, 0, 0)), (.invokevirtual 316, (0, 0, 0, 0, 0)), (.goto 6, (0, 22, 0, 0, 0)), (.ldc2_w 267, (1, 0, 0, 0, (-1))), (.lreturn, (0, 0, 0, 0, 0))]
theorem jc_Mo_date : wq_c b_Mo_date 2 j_Mo_date 0 = true := by decide +kernel
def j_Ac_init : wq_J := [(.aload_n 0, (0, 0, 0, 0, 0)), (.invokespecial 3, (0, 0, 0, 0, 0)), (.return_, (0, 0, 0, 0, 0))]
theorem jc_Ac_init : wq_c b_Ac_init 1 j_Ac_init 0 = true := by decide +kernel
def j_Ac_read : wq_J := [(.aload_n 0, (0, 0, 0, 0, 0)), (.aload_n 1, (0, 0, 0, 0, 0)), (.iconst 0, (0, 0, 0, 0, 0)), (.invokevirtual 9, (0, 0, 0, 0, 0)), (.aload_n 0, (0, 0, 0, 0, 0)), (.iconst 0, (0, 0, 0, 0, 0)), (.putfield 15, (1, 0, 5, 0, 0)), (.aload_n 0, (0, 0, 0, 0, 0)), (.iconst (-1), (0, 0, 0, (-1), 0)), (.putfield 19, (1, 0, 6, 0, 0)), (.iconst 0, (0, 0, 0, 0, 0)), (.istore_n 3, (0, 0, 0, 0, 0)), (.iload_n 3, (0, 0, 0, 0, 0)), (.bipush 96, (0, 0, 0, 96, 0)), (.if_icmp .ge 45, (0, 66, 0, 0, 0)), (.aload_n 0, (0, 0, 0, 0, 0)), (.invokevirtual 22, (0, 0, 0, 0, 0)), (.ifCond .eq 38, (0, 66, 0, 0, 0)), (.aload_n 0, (0, 0, 0, 0, 0)), (.aload_n 2, (0, 0, 0, 0, 0)), (.invokevirtual 26, (0, 0, 0, 0, 0)), (.ifCond .eq 18, (0, 54, 0, 0, 0)), (.aload_n 0, (0, 0, 0, 0, 0)), (.aload_n 2, (0, 0, 0, 0, 0)), (.invokevirtual 30, (0, 0, 0, 0, 0)), (.ifCond .eq 10, (0, 54, 0, 0, 0)), (.aload_n 0, (0, 0, 0, 0, 0)), (.invokevirtual 33, (0, 0, 0, 0, 0)), (.ifCond .ne 5, (0, 56, 0, 0, 0)), (.iconst 0, (0, 0, 0, 0, 0)), (.ireturn, (0, 0, 0, 0, 0)), (.aload_n 0, (0, 0, 0, 0, 0)), (.invokevirtual 36, (0, 0, 0, 0, 0)), (.iinc 3 1, (0, 0, 0, 1, 0)), (.goto (-45), (0, 18, 0, 0, 0)), (.iload_n 3, (0, 0, 0, 0, 0)), (.ifCond .le 7, (0, 74, 0, 0, 0)), (.iconst 1, (0, 0, 0, 1, 0)), (.goto 4, (0, 75, 0, 0, 0)), (.iconst 0, (0, 0, 0, 0, 0)), (.ireturn, (0, 0, 0, 0, 0))]
theorem jc_Ac_read : wq_c b_Ac_read 4 j_Ac_read 0 = true := by decide +kernel
def j_Ac_readTokens : wq_J := [(.aload_n 0, (0, 0, 0, 0, 0)), (.invokevirtual 39, (0, 0, 0, 0, 0)), (.ifCond .ne 5, (0, 9, 0, 0, 0)), (.iconst 0, (0, 0, 0, 0, 0)), (.ireturn, (0, 0, 0, 0, 0)), (.aload_n 0, (0, 0, 0, 0, 0)), (.ldc 42, (2, 0, 0, 0, 0)), (.invokevirtual 44, (0, 0, 0, 0, 0)), (.istore_n 2, (0, 0, 0, 0, 0)), (.iload_n 2, (0, 0, 0, 0, 0)), (.ifCond .ne 14, (0, 31, 0, 0, 0)), (.aload_n 0, (0, 0, 0, 0, 0)), (.aload_n 1, (0, 0, 0, 0, 0)), (.getfield 48, (2, 0, 0, 0, 0)), (.invokevirtual 54, (0, 0, 0, 0, 0)), (.ifCond .eq 7, (0, 35, 0, 0, 0)), (.iconst 1, (0, 0, 0, 1, 0)), (.goto 4, (0, 36, 0, 0, 0)), (.iconst 0, (0, 0, 0, 0, 0)), (.istore_n 3, (0, 0, 0, 0, 0)), (.aload_n 0, (0, 0, 0, 0, 0)), (.invokevirtual 57, (0, 0, 0, 0, 0)), (.ifCond .eq 7, (0, 48, 0, 0, 0)), (.iload_n 2, (0, 0, 0, 0, 0)), (.ifCond .eq 19, (0, 64, 0, 0, 0)), (.aload_n 0, (0, 0, 0, 0, 0)), (.bipush 47, (0, 0, 0, 47, 0)), (.invokevirtual 60, (0, 0, 0, 0, 0)), (.ifCond .eq 10, (0, 64, 0, 0, 0)), (.aload_n 0, (0, 0, 0, 0, 0)), (.invokevirtual 39, (0, 0, 0, 0, 0)), (.ifCond .ne 5, (0, 66, 0, 0, 0)), (.iconst 0, (0, 0, 0, 0, 0)), (.ireturn, (0, 0, 0, 0, 0)), (.aload_n 0, (0, 0, 0, 0, 0)), (.ldc 42, (2, 0, 0, 0, 0)), (.invokevirtual 44, (0, 0, 0, 0, 0)), (.istore 4, (0, 0, 0, 0, 0)), (.iload 4, (0, 0, 0, 0, 0)), (.ifCond .ne 16, (0, 92, 0, 0, 0)), (.iload_n 2, (0, 0, 0, 0, 0)), (.ifCond .ne 10, (0, 90, 0, 0, 0)), (.aload_n 0, (0, 0, 0, 0, 0)), (.invokevirtual 57, (0, 0, 0, 0, 0)), (.ifCond .eq 5, (0, 92, 0, 0, 0)), (.iconst 0, (0, 0, 0, 0, 0)), (.ireturn, (0, 0, 0, 0, 0)), (.aload_n 0, (0, 0, 0, 0, 0)), (.iload_n 3, (0, 0, 0, 0, 0)), (.ifCond .eq 23, (0, 117, 0, 0, 0)), (.iload 4, (0, 0, 0, 0, 0)), (.ifCond .ne 14, (0, 113, 0, 0, 0)), (.aload_n 0, (0, 0, 0, 0, 0)), (.aload_n 1, (0, 0, 0, 0, 0)), (.getfield 64, (2, 0, 0, 0, 0)), (.invokevirtual 54, (0, 0, 0, 0, 0)), (.ifCond .eq 7, (0, 117, 0, 0, 0)), (.iconst 1, (0, 0, 0, 1, 0)), (.goto 4, (0, 118, 0, 0, 0)), (.iconst 0, (0, 0, 0, 0, 0)), (.putfield 67, (1, 0, 7, 0, 0)), (.aload_n 0, (0, 0, 0, 0, 0)), (.iload_n 2, (0, 0, 0, 0, 0)), (.ifCond .eq 7, (0, 130, 0, 0, 0)), (.iconst 0, (0, 0, 0, 0, 0)), (.goto 4, (0, 131, 0, 0, 0)), (.iconst 1, (0, 0, 0, 1, 0)), (.iload 4, (0, 0, 0, 0, 0)), (.ifCond .eq 7, (0, 140, 0, 0, 0)), (.iconst 0, (0, 0, 0, 0, 0)), (.goto 4, (0, 141, 0, 0, 0)), (.iconst 1, (0, 0, 0, 1, 0)), (.iadd, (0, 0, 0, 0, 0)), (.putfield 71, (1, 0, 8, 0, 0)), (.iconst 1, (0, 0, 0, 1, 0)), (.ireturn, (0, 0, 0, 0, 0))]
theorem jc_Ac_readTokens : wq_c b_Ac_readTokens 5 j_Ac_readTokens 0 = true := by decide +kernel
def j_Ac_readParameters : wq_J := [(.aload_n 0, (0, 0, 0, 0, 0)), (.sipush 1000, (0, 0, 0, 1000, 0)), (.putfield 74, (1, 0, 9, 0, 0)), (.iconst 0, (0, 0, 0, 0, 0)), (.istore_n 2, (0, 0, 0, 0, 0)), (.iload_n 2, (0, 0, 0, 0, 0)), (.bipush 96, (0, 0, 0, 96, 0)), (.if_icmp .ge 143, (0, 155, 0, 0, 0)), (.aload_n 0, (0, 0, 0, 0, 0)), (.invokevirtual 77, (0, 0, 0, 0, 0)), (.ifCond .eq 136, (0, 155, 0, 0, 0)), (.aload_n 0, (0, 0, 0, 0, 0)), (.invokevirtual 39, (0, 0, 0, 0, 0)), (.ifCond .ne 5, (0, 31, 0, 0, 0)), (.iconst 0, (0, 0, 0, 0, 0)), (.ireturn, (0, 0, 0, 0, 0)), (.aload_n 0, (0, 0, 0, 0, 0)), (.ldc 80, (2, 0, 0, 0, 0)), (.invokevirtual 54, (0, 0, 0, 0, 0)), (.ifCond .eq 25, (0, 62, 0, 0, 0)), (.aload_n 0, (0, 0, 0, 0, 0)), (.aload_n 0, (0, 0, 0, 0, 0)), (.invokevirtual 82, (0, 0, 0, 0, 0)), (.putfield 74, (1, 0, 9, 0, 0)), (.aload_n 0, (0, 0, 0, 0, 0)), (.getfield 74, (1, 0, 9, 0, 0)), (.iconst (-1), (0, 0, 0, (-1), 0)), (.if_icmp .eq 7, (0, 60, 0, 0, 0)), (.iconst 1, (0, 0, 0, 1, 0)), (.goto 4, (0, 61, 0, 0, 0)), (.iconst 0, (0, 0, 0, 0, 0)), (.ireturn, (0, 0, 0, 0, 0)), (.aload_n 0, (0, 0, 0, 0, 0)), (.aload_n 1, (0, 0, 0, 0, 0)), (.getfield 86, (2, 0, 0, 0, 0)), (.invokevirtual 54, (0, 0, 0, 0, 0)), (.istore_n 3, (0, 0, 0, 0, 0)), (.aload_n 0, (0, 0, 0, 0, 0)), (.bipush 61, (0, 0, 0, 61, 0)), (.invokevirtual 60, (0, 0, 0, 0, 0)), (.ifCond .eq 29, (0, 106, 0, 0, 0)), (.aload_n 0, (0, 0, 0, 0, 0)), (.bipush 34, (0, 0, 0, 34, 0)), (.invokevirtual 89, (0, 0, 0, 0, 0)), (.ifCond .eq 13, (0, 99, 0, 0, 0)), (.aload_n 0, (0, 0, 0, 0, 0)), (.invokevirtual 92, (0, 0, 0, 0, 0)), (.ifCond .eq 13, (0, 106, 0, 0, 0)), (.goto 12, (0, 108, 0, 0, 0)), (.aload_n 0, (0, 0, 0, 0, 0)), (.invokevirtual 39, (0, 0, 0, 0, 0)), (.ifCond .ne 5, (0, 108, 0, 0, 0)), (.iconst 0, (0, 0, 0, 0, 0)), (.ireturn, (0, 0, 0, 0, 0)), (.aload_n 0, (0, 0, 0, 0, 0)), (.aload_n 0, (0, 0, 0, 0, 0)), (.getfield 67, (1, 0, 7, 0, 0)), (.ifCond .eq 22, (0, 135, 0, 0, 0)), (.iload_n 3, (0, 0, 0, 0, 0)), (.ifCond .eq 18, (0, 135, 0, 0, 0)), (.aload_n 0, (0, 0, 0, 0, 0)), (.aload_n 1, (0, 0, 0, 0, 0)), (.getfield 95, (2, 0, 0, 0, 0)), (.invokevirtual 44, (0, 0, 0, 0, 0)), (.ifCond .eq 7, (0, 135, 0, 0, 0)), (.iconst 1, (0, 0, 0, 1, 0)), (.goto 4, (0, 136, 0, 0, 0)), (.iconst 0, (0, 0, 0, 0, 0)), (.putfield 67, (1, 0, 7, 0, 0)), (.aload_n 0, (0, 0, 0, 0, 0)), (.dup, (0, 0, 0, 0, 0)), (.getfield 71, (1, 0, 8, 0, 0)), (.iconst 1, (0, 0, 0, 1, 0)), (.iadd, (0, 0, 0, 0, 0)), (.putfield 71, (1, 0, 8, 0, 0)), (.iinc 2 1, (0, 0, 0, 1, 0)), (.goto (-143), (0, 9, 0, 0, 0)), (.iconst 1, (0, 0, 0, 1, 0)), (.ireturn, (0, 0, 0, 0, 0))]
theorem jc_Ac_readParameters : wq_c b_Ac_readParameters 4 j_Ac_readParameters 0 = true := by decide +kernel
def j_Ac_weigh : wq_J := [(.aload_n 0, (0, 0, 0, 0, 0)), (.getfield 67, (1, 0, 7, 0, 0)), (.ifCond .eq 30, (0, 34, 0, 0, 0)), (.aload_n 0, (0, 0, 0, 0, 0)), (.getfield 71, (1, 0, 8, 0, 0)), (.aload_n 0, (0, 0, 0, 0, 0)), (.getfield 19, (1, 0, 6, 0, 0)), (.if_icmp .le 19, (0, 34, 0, 0, 0)), (.aload_n 0, (0, 0, 0, 0, 0)), (.aload_n 0, (0, 0, 0, 0, 0)), (.getfield 71, (1, 0, 8, 0, 0)), (.putfield 19, (1, 0, 6, 0, 0)), (.aload_n 0, (0, 0, 0, 0, 0)), (.aload_n 0, (0, 0, 0, 0, 0)), (.getfield 74, (1, 0, 9, 0, 0)), (.putfield 15, (1, 0, 5, 0, 0)), (.return_, (0, 0, 0, 0, 0))]
theorem jc_Ac_weigh : wq_c b_Ac_weigh 1 j_Ac_weigh 0 = true := by decide +kernel
def j_Da_init : wq_J := [(.aload_n 0, (0, 0, 0, 0, 0)), (.invokespecial 3, (0, 0, 0, 0, 0)), (.aload_n 0, (0, 0, 0, 0, 0)), (.lload_n 1, (0, 0, 0, 0, 0)), (.invokestatic 9, (0, 0, 0, 0, 0)), (.bipush 50, (0, 0, 0, 50, 0)), (.iadd, (0, 0, 0, 0, 0)), (.putfield 15, (3, 0, 5, 0, 0)), (.return_, (0, 0, 0, 0, 0))]
theorem jc_Da_init : wq_c b_Da_init 3 j_Da_init 0 = true := by decide +kernel
def j_Da_timeOf : wq_J := [(.aload_n 0, (0, 0, 0, 0, 0)), (.aload_n 1, (0, 0, 0, 0, 0)), (.iload_n 2, (0, 0, 0, 0, 0)), (.invokevirtual 19, (0, 0, 0, 0, 0)), (.aload_n 0, (0, 0, 0, 0, 0)), (.invokevirtual 23, (0, 0, 0, 0, 0)), (.aload_n 0, (0, 0, 0, 0, 0)), (.ldc 26, (2, 0, 0, 0, 0)), (.invokevirtual 28, (0, 0, 0, 0, 0)), (.istore_n 3, (0, 0, 0, 0, 0)), (.iload_n 3, (0, 0, 0, 0, 0)), (.iconst (-1), (0, 0, 0, (-1), 0)), (.if_icmp .ne 7, (0, 26, 0, 0, 0)), (.ldc2_w 32, (1, 0, 0, 0, (-1))), (.lreturn, (0, 0, 0, 0, 0)), (.aload_n 0, (0, 0, 0, 0, 0)), (.bipush 44, (0, 0, 0, 44, 0)), (.invokevirtual 34, (0, 0, 0, 0, 0)), (.ifCond .eq 12, (0, 44, 0, 0, 0)), (.aload_n 0, (0, 0, 0, 0, 0)), (.invokevirtual 38, (0, 0, 0, 0, 0)), (.istore 4, (0, 0, 0, 0, 0)), (.goto 46, (0, 87, 0, 0, 0)), (.aload_n 0, (0, 0, 0, 0, 0)), (.bipush 32, (0, 0, 0, 32, 0)), (.invokevirtual 34, (0, 0, 0, 0, 0)), (.ifCond .eq 12, (0, 62, 0, 0, 0)), (.aload_n 0, (0, 0, 0, 0, 0)), (.invokevirtual 42, (0, 0, 0, 0, 0)), (.istore 4, (0, 0, 0, 0, 0)), (.goto 28, (0, 87, 0, 0, 0)), (.aload_n 0, (0, 0, 0, 0, 0)), (.iload_n 3, (0, 0, 0, 0, 0)), (.invokestatic 45, (0, 0, 0, 0, 0)), (.invokevirtual 49, (0, 0, 0, 0, 0)), (.ifCond .eq 14, (0, 84, 0, 0, 0)), (.aload_n 0, (0, 0, 0, 0, 0)), (.invokevirtual 53, (0, 0, 0, 0, 0)), (.ifCond .eq 7, (0, 84, 0, 0, 0)), (.iconst 1, (0, 0, 0, 1, 0)), (.goto 4, (0, 85, 0, 0, 0)), (.iconst 0, (0, 0, 0, 0, 0)), (.istore 4, (0, 0, 0, 0, 0)), (.aload_n 0, (0, 0, 0, 0, 0)), (.invokevirtual 23, (0, 0, 0, 0, 0)), (.iload 4, (0, 0, 0, 0, 0)), (.ifCond .eq 24, (0, 117, 0, 0, 0)), (.aload_n 0, (0, 0, 0, 0, 0)), (.invokevirtual 56, (0, 0, 0, 0, 0)), (.ifCond .eq 17, (0, 117, 0, 0, 0)), (.aload_n 0, (0, 0, 0, 0, 0)), (.invokevirtual 59, (0, 0, 0, 0, 0)), (.ifCond .eq 10, (0, 117, 0, 0, 0)), (.aload_n 0, (0, 0, 0, 0, 0)), (.invokevirtual 62, (0, 0, 0, 0, 0)), (.goto 6, (0, 120, 0, 0, 0)), (.ldc2_w 32, (1, 0, 0, 0, (-1))), (.lreturn, (0, 0, 0, 0, 0))]
theorem jc_Da_timeOf : wq_c b_Da_timeOf 5 j_Da_timeOf 0 = true := by decide +kernel
def j_Da_takeCommaForm : wq_J := [(.aload_n 0, (0, 0, 0, 0, 0)), (.bipush 32, (0, 0, 0, 32, 0)), (.invokevirtual 34, (0, 0, 0, 0, 0)), (.ifCond .eq 46, (0, 52, 0, 0, 0)), (.aload_n 0, (0, 0, 0, 0, 0)), (.invokevirtual 66, (0, 0, 0, 0, 0)), (.ifCond .eq 39, (0, 52, 0, 0, 0)), (.aload_n 0, (0, 0, 0, 0, 0)), (.bipush 32, (0, 0, 0, 32, 0)), (.invokevirtual 34, (0, 0, 0, 0, 0)), (.ifCond .eq 30, (0, 52, 0, 0, 0)), (.aload_n 0, (0, 0, 0, 0, 0)), (.invokevirtual 69, (0, 0, 0, 0, 0)), (.ifCond .eq 23, (0, 52, 0, 0, 0)), (.aload_n 0, (0, 0, 0, 0, 0)), (.bipush 32, (0, 0, 0, 32, 0)), (.invokevirtual 34, (0, 0, 0, 0, 0)), (.ifCond .eq 14, (0, 52, 0, 0, 0)), (.aload_n 0, (0, 0, 0, 0, 0)), (.invokevirtual 72, (0, 0, 0, 0, 0)), (.ifCond .eq 7, (0, 52, 0, 0, 0)), (.iconst 1, (0, 0, 0, 1, 0)), (.goto 4, (0, 53, 0, 0, 0)), (.iconst 0, (0, 0, 0, 0, 0)), (.istore_n 1, (0, 0, 0, 0, 0)), (.iload_n 1, (0, 0, 0, 0, 0)), (.ifCond .eq 32, (0, 87, 0, 0, 0)), (.aload_n 0, (0, 0, 0, 0, 0)), (.bipush 32, (0, 0, 0, 32, 0)), (.invokevirtual 34, (0, 0, 0, 0, 0)), (.ifCond .eq 23, (0, 87, 0, 0, 0)), (.aload_n 0, (0, 0, 0, 0, 0)), (.invokevirtual 75, (0, 0, 0, 0, 0)), (.ifCond .eq 16, (0, 87, 0, 0, 0)), (.aload_n 0, (0, 0, 0, 0, 0)), (.ldc 78, (2, 0, 0, 0, 0)), (.invokevirtual 49, (0, 0, 0, 0, 0)), (.ifCond .eq 7, (0, 87, 0, 0, 0)), (.iconst 1, (0, 0, 0, 1, 0)), (.goto 4, (0, 88, 0, 0, 0)), (.iconst 0, (0, 0, 0, 0, 0)), (.ireturn, (0, 0, 0, 0, 0))]
theorem jc_Da_takeCommaForm : wq_c b_Da_takeCommaForm 2 j_Da_takeCommaForm 0 = true := by decide +kernel
def j_Da_takeDashForm : wq_J := [(.aload_n 0, (0, 0, 0, 0, 0)), (.ldc 80, (2, 0, 0, 0, 0)), (.invokevirtual 49, (0, 0, 0, 0, 0)), (.ifCond .eq 46, (0, 52, 0, 0, 0)), (.aload_n 0, (0, 0, 0, 0, 0)), (.invokevirtual 66, (0, 0, 0, 0, 0)), (.ifCond .eq 39, (0, 52, 0, 0, 0)), (.aload_n 0, (0, 0, 0, 0, 0)), (.bipush 45, (0, 0, 0, 45, 0)), (.invokevirtual 34, (0, 0, 0, 0, 0)), (.ifCond .eq 30, (0, 52, 0, 0, 0)), (.aload_n 0, (0, 0, 0, 0, 0)), (.invokevirtual 69, (0, 0, 0, 0, 0)), (.ifCond .eq 23, (0, 52, 0, 0, 0)), (.aload_n 0, (0, 0, 0, 0, 0)), (.bipush 45, (0, 0, 0, 45, 0)), (.invokevirtual 34, (0, 0, 0, 0, 0)), (.ifCond .eq 14, (0, 52, 0, 0, 0)), (.aload_n 0, (0, 0, 0, 0, 0)), (.invokevirtual 82, (0, 0, 0, 0, 0)), (.ifCond .eq 7, (0, 52, 0, 0, 0)), (.iconst 1, (0, 0, 0, 1, 0)), (.goto 4, (0, 53, 0, 0, 0)), (.iconst 0, (0, 0, 0, 0, 0)), (.istore_n 1, (0, 0, 0, 0, 0)), (.iload_n 1, (0, 0, 0, 0, 0)), (.ifCond .eq 32, (0, 87, 0, 0, 0)), (.aload_n 0, (0, 0, 0, 0, 0)), (.bipush 32, (0, 0, 0, 32, 0)), (.invokevirtual 34, (0, 0, 0, 0, 0)), (.ifCond .eq 23, (0, 87, 0, 0, 0)), (.aload_n 0, (0, 0, 0, 0, 0)), (.invokevirtual 75, (0, 0, 0, 0, 0)), (.ifCond .eq 16, (0, 87, 0, 0, 0)), (.aload_n 0, (0, 0, 0, 0, 0)), (.ldc 78, (2, 0, 0, 0, 0)), (.invokevirtual 49, (0, 0, 0, 0, 0)), (.ifCond .eq 7, (0, 87, 0, 0, 0)), (.iconst 1, (0, 0, 0, 1, 0)), (.goto 4, (0, 88, 0, 0, 0)), (.iconst 0, (0, 0, 0, 0, 0)), (.ireturn, (0, 0, 0, 0, 0))]
theorem jc_Da_takeDashForm : wq_c b_Da_takeDashForm 2 j_Da_takeDashForm 0 = true := by decide +kernel
def j_Da_takeSpaceForm : wq_J := [(.aload_n 0, (0, 0, 0, 0, 0)), (.invokevirtual 69, (0, 0, 0, 0, 0)), (.ifCond .eq 32, (0, 36, 0, 0, 0)), (.aload_n 0, (0, 0, 0, 0, 0)), (.bipush 32, (0, 0, 0, 32, 0)), (.invokevirtual 34, (0, 0, 0, 0, 0)), (.ifCond .eq 23, (0, 36, 0, 0, 0)), (.aload_n 0, (0, 0, 0, 0, 0)), (.invokevirtual 85, (0, 0, 0, 0, 0)), (.ifCond .eq 16, (0, 36, 0, 0, 0)), (.aload_n 0, (0, 0, 0, 0, 0)), (.bipush 32, (0, 0, 0, 32, 0)), (.invokevirtual 34, (0, 0, 0, 0, 0)), (.ifCond .eq 7, (0, 36, 0, 0, 0)), (.iconst 1, (0, 0, 0, 1, 0)), (.goto 4, (0, 37, 0, 0, 0)), (.iconst 0, (0, 0, 0, 0, 0)), (.istore_n 1, (0, 0, 0, 0, 0)), (.iload_n 1, (0, 0, 0, 0, 0)), (.ifCond .eq 30, (0, 69, 0, 0, 0)), (.aload_n 0, (0, 0, 0, 0, 0)), (.invokevirtual 75, (0, 0, 0, 0, 0)), (.ifCond .eq 23, (0, 69, 0, 0, 0)), (.aload_n 0, (0, 0, 0, 0, 0)), (.bipush 32, (0, 0, 0, 32, 0)), (.invokevirtual 34, (0, 0, 0, 0, 0)), (.ifCond .eq 14, (0, 69, 0, 0, 0)), (.aload_n 0, (0, 0, 0, 0, 0)), (.invokevirtual 72, (0, 0, 0, 0, 0)), (.ifCond .eq 7, (0, 69, 0, 0, 0)), (.iconst 1, (0, 0, 0, 1, 0)), (.goto 4, (0, 70, 0, 0, 0)), (.iconst 0, (0, 0, 0, 0, 0)), (.ireturn, (0, 0, 0, 0, 0))]
theorem jc_Da_takeSpaceForm : wq_c b_Da_takeSpaceForm 2 j_Da_takeSpaceForm 0 = true := by decide +kernel
def j_Da_restOfName : wq_J := [(.iload_n 0, (0, 0, 0, 0, 0)), (.tableswitch 47 2 6 #[35, 38, 41, 47, 44], (0, 35, 0, 0, 0)), (.ldc 88, (2, 0, 0, 0, 0)), (.areturn, (0, 0, 0, 0, 0)), (.ldc 90, (2, 0, 0, 0, 0)), (.areturn, (0, 0, 0, 0, 0)), (.ldc 92, (2, 0, 0, 0, 0)), (.areturn, (0, 0, 0, 0, 0)), (.ldc 94, (2, 0, 0, 0, 0)), (.areturn, (0, 0, 0, 0, 0)), (.ldc 96, (2, 0, 0, 0, 0)), (.areturn, (0, 0, 0, 0, 0))]
theorem jc_Da_restOfName : wq_c b_Da_restOfName 1 j_Da_restOfName 0 = true := by decide +kernel
def j_Da_takeDay : wq_J := [(.aload_n 0, (0, 0, 0, 0, 0)), (.aload_n 0, (0, 0, 0, 0, 0)), (.iconst 2, (0, 0, 0, 2, 0)), (.invokevirtual 98, (0, 0, 0, 0, 0)), (.putfield 102, (1, 0, 8, 0, 0)), (.aload_n 0, (0, 0, 0, 0, 0)), (.getfield 102, (1, 0, 8, 0, 0)), (.iconst (-1), (0, 0, 0, (-1), 0)), (.if_icmp .eq 7, (0, 21, 0, 0, 0)), (.iconst 1, (0, 0, 0, 1, 0)), (.goto 4, (0, 22, 0, 0, 0)), (.iconst 0, (0, 0, 0, 0, 0)), (.ireturn, (0, 0, 0, 0, 0))]
theorem jc_Da_takeDay : wq_c b_Da_takeDay 1 j_Da_takeDay 0 = true := by decide +kernel
def j_Da_takeSpacedDay : wq_J := [(.aload_n 0, (0, 0, 0, 0, 0)), (.bipush 32, (0, 0, 0, 32, 0)), (.invokevirtual 34, (0, 0, 0, 0, 0)), (.istore_n 1, (0, 0, 0, 0, 0)), (.aload_n 0, (0, 0, 0, 0, 0)), (.aload_n 0, (0, 0, 0, 0, 0)), (.iload_n 1, (0, 0, 0, 0, 0)), (.ifCond .eq 7, (0, 17, 0, 0, 0)), (.iconst 1, (0, 0, 0, 1, 0)), (.goto 4, (0, 18, 0, 0, 0)), (.iconst 2, (0, 0, 0, 2, 0)), (.invokevirtual 98, (0, 0, 0, 0, 0)), (.putfield 102, (1, 0, 8, 0, 0)), (.iload_n 1, (0, 0, 0, 0, 0)), (.ifCond .eq 19, (0, 44, 0, 0, 0)), (.aload_n 0, (0, 0, 0, 0, 0)), (.getfield 102, (1, 0, 8, 0, 0)), (.iconst (-1), (0, 0, 0, (-1), 0)), (.if_icmp .eq 7, (0, 40, 0, 0, 0)), (.iconst 1, (0, 0, 0, 1, 0)), (.goto 21, (0, 58, 0, 0, 0)), (.iconst 0, (0, 0, 0, 0, 0)), (.goto 17, (0, 58, 0, 0, 0)), (.aload_n 0, (0, 0, 0, 0, 0)), (.getfield 102, (1, 0, 8, 0, 0)), (.bipush 10, (0, 0, 0, 10, 0)), (.if_icmp .lt 7, (0, 57, 0, 0, 0)), (.iconst 1, (0, 0, 0, 1, 0)), (.goto 4, (0, 58, 0, 0, 0)), (.iconst 0, (0, 0, 0, 0, 0)), (.ireturn, (0, 0, 0, 0, 0))]
theorem jc_Da_takeSpacedDay : wq_c b_Da_takeSpacedDay 2 j_Da_takeSpacedDay 0 = true := by decide +kernel
def j_Da_takeMonth : wq_J := [(.aload_n 0, (0, 0, 0, 0, 0)), (.aload_n 0, (0, 0, 0, 0, 0)), (.ldc 104, (2, 0, 0, 0, 0)), (.invokevirtual 28, (0, 0, 0, 0, 0)), (.putfield 106, (1, 0, 7, 0, 0)), (.aload_n 0, (0, 0, 0, 0, 0)), (.getfield 106, (1, 0, 7, 0, 0)), (.iconst (-1), (0, 0, 0, (-1), 0)), (.if_icmp .eq 7, (0, 22, 0, 0, 0)), (.iconst 1, (0, 0, 0, 1, 0)), (.goto 4, (0, 23, 0, 0, 0)), (.iconst 0, (0, 0, 0, 0, 0)), (.ireturn, (0, 0, 0, 0, 0))]
theorem jc_Da_takeMonth : wq_c b_Da_takeMonth 1 j_Da_takeMonth 0 = true := by decide +kernel
def j_Da_takeYear : wq_J := [(.aload_n 0, (0, 0, 0, 0, 0)), (.aload_n 0, (0, 0, 0, 0, 0)), (.iconst 4, (0, 0, 0, 4, 0)), (.invokevirtual 98, (0, 0, 0, 0, 0)), (.putfield 109, (1, 0, 6, 0, 0)), (.aload_n 0, (0, 0, 0, 0, 0)), (.getfield 109, (1, 0, 6, 0, 0)), (.iconst (-1), (0, 0, 0, (-1), 0)), (.if_icmp .eq 7, (0, 21, 0, 0, 0)), (.iconst 1, (0, 0, 0, 1, 0)), (.goto 4, (0, 22, 0, 0, 0)), (.iconst 0, (0, 0, 0, 0, 0)), (.ireturn, (0, 0, 0, 0, 0))]
theorem jc_Da_takeYear : wq_c b_Da_takeYear 1 j_Da_takeYear 0 = true := by decide +kernel
def j_Da_takeShortYear : wq_J := [(.aload_n 0, (0, 0, 0, 0, 0)), (.iconst 2, (0, 0, 0, 2, 0)), (.invokevirtual 98, (0, 0, 0, 0, 0)), (.istore_n 1, (0, 0, 0, 0, 0)), (.aload_n 0, (0, 0, 0, 0, 0)), (.sipush 2000, (0, 0, 0, 2000, 0)), (.iload_n 1, (0, 0, 0, 0, 0)), (.iadd, (0, 0, 0, 0, 0)), (.aload_n 0, (0, 0, 0, 0, 0)), (.getfield 15, (1, 0, 5, 0, 0)), (.if_icmp .le 11, (0, 27, 0, 0, 0)), (.sipush 1900, (0, 0, 0, 1900, 0)), (.iload_n 1, (0, 0, 0, 0, 0)), (.iadd, (0, 0, 0, 0, 0)), (.goto 8, (0, 32, 0, 0, 0)), (.sipush 2000, (0, 0, 0, 2000, 0)), (.iload_n 1, (0, 0, 0, 0, 0)), (.iadd, (0, 0, 0, 0, 0)), (.putfield 109, (1, 0, 6, 0, 0)), (.iload_n 1, (0, 0, 0, 0, 0)), (.iconst (-1), (0, 0, 0, (-1), 0)), (.if_icmp .eq 7, (0, 44, 0, 0, 0)), (.iconst 1, (0, 0, 0, 1, 0)), (.goto 4, (0, 45, 0, 0, 0)), (.iconst 0, (0, 0, 0, 0, 0)), (.ireturn, (0, 0, 0, 0, 0))]
theorem jc_Da_takeShortYear : wq_c b_Da_takeShortYear 2 j_Da_takeShortYear 0 = true := by decide +kernel
def j_Da_takeClock : wq_J := [(.aload_n 0, (0, 0, 0, 0, 0)), (.iconst 2, (0, 0, 0, 2, 0)), (.invokevirtual 98, (0, 0, 0, 0, 0)), (.istore_n 1, (0, 0, 0, 0, 0)), (.iload_n 1, (0, 0, 0, 0, 0)), (.iconst (-1), (0, 0, 0, (-1), 0)), (.if_icmp .eq 18, (0, 26, 0, 0, 0)), (.iload_n 1, (0, 0, 0, 0, 0)), (.bipush 23, (0, 0, 0, 23, 0)), (.if_icmp .gt 12, (0, 26, 0, 0, 0)), (.aload_n 0, (0, 0, 0, 0, 0)), (.bipush 58, (0, 0, 0, 58, 0)), (.invokevirtual 34, (0, 0, 0, 0, 0)), (.ifCond .ne 5, (0, 28, 0, 0, 0)), (.iconst 0, (0, 0, 0, 0, 0)), (.ireturn, (0, 0, 0, 0, 0)), (.aload_n 0, (0, 0, 0, 0, 0)), (.iconst 2, (0, 0, 0, 2, 0)), (.invokevirtual 98, (0, 0, 0, 0, 0)), (.istore_n 2, (0, 0, 0, 0, 0)), (.iload_n 2, (0, 0, 0, 0, 0)), (.iconst (-1), (0, 0, 0, (-1), 0)), (.if_icmp .eq 18, (0, 54, 0, 0, 0)), (.iload_n 2, (0, 0, 0, 0, 0)), (.bipush 59, (0, 0, 0, 59, 0)), (.if_icmp .gt 12, (0, 54, 0, 0, 0)), (.aload_n 0, (0, 0, 0, 0, 0)), (.bipush 58, (0, 0, 0, 58, 0)), (.invokevirtual 34, (0, 0, 0, 0, 0)), (.ifCond .ne 5, (0, 56, 0, 0, 0)), (.iconst 0, (0, 0, 0, 0, 0)), (.ireturn, (0, 0, 0, 0, 0)), (.aload_n 0, (0, 0, 0, 0, 0)), (.iconst 2, (0, 0, 0, 2, 0)), (.invokevirtual 98, (0, 0, 0, 0, 0)), (.istore_n 3, (0, 0, 0, 0, 0)), (.aload_n 0, (0, 0, 0, 0, 0)), (.sipush 3600, (0, 0, 0, 3600, 0)), (.iload_n 1, (0, 0, 0, 0, 0)), (.imul, (0, 0, 0, 0, 0)), (.bipush 60, (0, 0, 0, 60, 0)), (.iload_n 2, (0, 0, 0, 0, 0)), (.imul, (0, 0, 0, 0, 0)), (.iadd, (0, 0, 0, 0, 0)), (.iload_n 3, (0, 0, 0, 0, 0)), (.iadd, (0, 0, 0, 0, 0)), (.putfield 112, (1, 0, 9, 0, 0)), (.iload_n 3, (0, 0, 0, 0, 0)), (.iconst (-1), (0, 0, 0, (-1), 0)), (.if_icmp .eq 13, (0, 93, 0, 0, 0)), (.iload_n 3, (0, 0, 0, 0, 0)), (.bipush 59, (0, 0, 0, 59, 0)), (.if_icmp .gt 7, (0, 93, 0, 0, 0)), (.iconst 1, (0, 0, 0, 1, 0)), (.goto 4, (0, 94, 0, 0, 0)), (.iconst 0, (0, 0, 0, 0, 0)), (.ireturn, (0, 0, 0, 0, 0))]
theorem jc_Da_takeClock : wq_c b_Da_takeClock 4 j_Da_takeClock 0 = true := by decide +kernel
def j_Da_isInCalendar : wq_J := [(.aload_n 0, (0, 0, 0, 0, 0)), (.getfield 109, (1, 0, 6, 0, 0)), (.sipush 1970, (0, 0, 0, 1970, 0)), (.if_icmp .lt 43, (0, 50, 0, 0, 0)), (.aload_n 0, (0, 0, 0, 0, 0)), (.getfield 109, (1, 0, 6, 0, 0)), (.sipush 2099, (0, 0, 0, 2099, 0)), (.if_icmp .gt 33, (0, 50, 0, 0, 0)), (.aload_n 0, (0, 0, 0, 0, 0)), (.getfield 102, (1, 0, 8, 0, 0)), (.iconst 1, (0, 0, 0, 1, 0)), (.if_icmp .lt 25, (0, 50, 0, 0, 0)), (.aload_n 0, (0, 0, 0, 0, 0)), (.getfield 102, (1, 0, 8, 0, 0)), (.aload_n 0, (0, 0, 0, 0, 0)), (.getfield 106, (1, 0, 7, 0, 0)), (.aload_n 0, (0, 0, 0, 0, 0)), (.getfield 109, (1, 0, 6, 0, 0)), (.invokestatic 115, (0, 0, 0, 0, 0)), (.if_icmp .gt 7, (0, 50, 0, 0, 0)), (.iconst 1, (0, 0, 0, 1, 0)), (.goto 4, (0, 51, 0, 0, 0)), (.iconst 0, (0, 0, 0, 0, 0)), (.ireturn, (0, 0, 0, 0, 0))]
theorem jc_Da_isInCalendar : wq_c b_Da_isInCalendar 1 j_Da_isInCalendar 0 = true := by decide +kernel
def j_Da_time : wq_J := [(.aload_n 0, (0, 0, 0, 0, 0)), (.getfield 109, (1, 0, 6, 0, 0)), (.invokestatic 119, (0, 0, 0, 0, 0)), (.aload_n 0, (0, 0, 0, 0, 0)), (.getfield 102, (1, 0, 8, 0, 0)), (.iadd, (0, 0, 0, 0, 0)), (.iconst 1, (0, 0, 0, 1, 0)), (.isub, (0, 0, 0, 0, 0)), (.i2l, (0, 0, 0, 0, 0)), (.lstore_n 1, (0, 0, 0, 0, 0)), (.iconst 0, (0, 0, 0, 0, 0)), (.istore_n 3, (0, 0, 0, 0, 0)), (.iload_n 3, (0, 0, 0, 0, 0)), (.aload_n 0, (0, 0, 0, 0, 0)), (.getfield 106, (1, 0, 7, 0, 0)), (.if_icmp .ge 21, (0, 44, 0, 0, 0)), (.lload_n 1, (0, 0, 0, 0, 0)), (.iload_n 3, (0, 0, 0, 0, 0)), (.aload_n 0, (0, 0, 0, 0, 0)), (.getfield 109, (1, 0, 6, 0, 0)), (.invokestatic 115, (0, 0, 0, 0, 0)), (.i2l, (0, 0, 0, 0, 0)), (.ladd, (0, 0, 0, 0, 0)), (.lstore_n 1, (0, 0, 0, 0, 0)), (.iinc 3 1, (0, 0, 0, 1, 0)), (.goto (-23), (0, 18, 0, 0, 0)), (.ldc2_w 122, (1, 0, 0, 0, 86400)), (.lload_n 1, (0, 0, 0, 0, 0)), (.lmul, (0, 0, 0, 0, 0)), (.aload_n 0, (0, 0, 0, 0, 0)), (.getfield 112, (1, 0, 9, 0, 0)), (.i2l, (0, 0, 0, 0, 0)), (.ladd, (0, 0, 0, 0, 0)), (.lreturn, (0, 0, 0, 0, 0))]
theorem jc_Da_time : wq_c b_Da_time 4 j_Da_time 0 = true := by decide +kernel
def j_Da_daysOf : wq_J := [(.iload_n 0, (0, 0, 0, 0, 0)), (.ifCond .lt 11, (0, 12, 0, 0, 0)), (.iload_n 0, (0, 0, 0, 0, 0)), (.getstatic 124, (2, 0, 0, 0, 0)), (.arraylength, (2, 0, 0, 0, 0)), (.if_icmp .lt 5, (0, 14, 0, 0, 0)), (.iconst 0, (0, 0, 0, 0, 0)), (.ireturn, (0, 0, 0, 0, 0)), (.iload_n 0, (0, 0, 0, 0, 0)), (.iconst 1, (0, 0, 0, 1, 0)), (.if_icmp .ne 14, (0, 30, 0, 0, 0)), (.iload_n 1, (0, 0, 0, 0, 0)), (.iconst 4, (0, 0, 0, 4, 0)), (.irem, (0, 0, 0, 0, 0)), (.ifCond .ne 8, (0, 30, 0, 0, 0)), (.bipush 29, (0, 0, 0, 29, 0)), (.goto 8, (0, 35, 0, 0, 0)), (.getstatic 124, (2, 0, 0, 0, 0)), (.iload_n 0, (0, 0, 0, 0, 0)), (.iaload, (2, 0, 0, 0, 0)), (.ireturn, (0, 0, 0, 0, 0))]
theorem jc_Da_daysOf : wq_c b_Da_daysOf 2 j_Da_daysOf 0 = true := by decide +kernel
def j_Da_daysBefore : wq_J := [(.sipush 365, (0, 0, 0, 365, 0)), (.iload_n 0, (0, 0, 0, 0, 0)), (.sipush 1970, (0, 0, 0, 1970, 0)), (.isub, (0, 0, 0, 0, 0)), (.imul, (0, 0, 0, 0, 0)), (.iload_n 0, (0, 0, 0, 0, 0)), (.sipush 1970, (0, 0, 0, 1970, 0)), (.isub, (0, 0, 0, 0, 0)), (.iconst 1, (0, 0, 0, 1, 0)), (.iadd, (0, 0, 0, 0, 0)), (.iconst 4, (0, 0, 0, 4, 0)), (.idiv, (0, 0, 0, 0, 0)), (.iadd, (0, 0, 0, 0, 0)), (.ireturn, (0, 0, 0, 0, 0))]
theorem jc_Da_daysBefore : wq_c b_Da_daysBefore 1 j_Da_daysBefore 0 = true := by decide +kernel
def j_Da_yearOf : wq_J := [(.lload_n 0, (0, 0, 0, 0, 0)), (.ldc2_w 122, (1, 0, 0, 0, 86400)), (.ldiv, (0, 0, 0, 0, 0)), (.lstore_n 2, (0, 0, 0, 0, 0)), (.sipush 1970, (0, 0, 0, 1970, 0)), (.istore 4, (0, 0, 0, 0, 0)), (.iload 4, (0, 0, 0, 0, 0)), (.sipush 2099, (0, 0, 0, 2099, 0)), (.if_icmp .ge 22, (0, 38, 0, 0, 0)), (.iload 4, (0, 0, 0, 0, 0)), (.iconst 1, (0, 0, 0, 1, 0)), (.iadd, (0, 0, 0, 0, 0)), (.invokestatic 119, (0, 0, 0, 0, 0)), (.i2l, (0, 0, 0, 0, 0)), (.lload_n 2, (0, 0, 0, 0, 0)), (.lcmp, (0, 0, 0, 0, 0)), (.ifCond .gt 9, (0, 38, 0, 0, 0)), (.iinc 4 1, (0, 0, 0, 1, 0)), (.goto (-24), (0, 11, 0, 0, 0)), (.iload 4, (0, 0, 0, 0, 0)), (.ireturn, (0, 0, 0, 0, 0))]
theorem jc_Da_yearOf : wq_c b_Da_yearOf 5 j_Da_yearOf 0 = true := by decide +kernel
def j_La_init : wq_J := [(.aload_n 0, (0, 0, 0, 0, 0)), (.invokespecial 3, (0, 0, 0, 0, 0)), (.return_, (0, 0, 0, 0, 0))]
theorem jc_La_init : wq_c b_La_init 1 j_La_init 0 = true := by decide +kernel
def j_La_read : wq_J := [(.aload_n 0, (0, 0, 0, 0, 0)), (.aload_n 1, (0, 0, 0, 0, 0)), (.iconst 1, (0, 0, 0, 1, 0)), (.invokevirtual 9, (0, 0, 0, 0, 0)), (.aload_n 0, (0, 0, 0, 0, 0)), (.iconst 0, (0, 0, 0, 0, 0)), (.putfield 15, (1, 0, 5, 0, 0)), (.aload_n 0, (0, 0, 0, 0, 0)), (.iconst (-1), (0, 0, 0, (-1), 0)), (.putfield 19, (1, 0, 6, 0, 0)), (.iconst 0, (0, 0, 0, 0, 0)), (.istore_n 3, (0, 0, 0, 0, 0)), (.iload_n 3, (0, 0, 0, 0, 0)), (.bipush 96, (0, 0, 0, 96, 0)), (.if_icmp .ge 33, (0, 54, 0, 0, 0)), (.aload_n 0, (0, 0, 0, 0, 0)), (.invokevirtual 22, (0, 0, 0, 0, 0)), (.ifCond .eq 26, (0, 54, 0, 0, 0)), (.aload_n 0, (0, 0, 0, 0, 0)), (.aload_n 2, (0, 0, 0, 0, 0)), (.invokevirtual 26, (0, 0, 0, 0, 0)), (.ifCond .eq 10, (0, 46, 0, 0, 0)), (.aload_n 0, (0, 0, 0, 0, 0)), (.invokevirtual 30, (0, 0, 0, 0, 0)), (.ifCond .ne 5, (0, 48, 0, 0, 0)), (.iconst 0, (0, 0, 0, 0, 0)), (.ireturn, (0, 0, 0, 0, 0)), (.iinc 3 1, (0, 0, 0, 1, 0)), (.goto (-33), (0, 18, 0, 0, 0)), (.iload_n 3, (0, 0, 0, 0, 0)), (.ifCond .le 7, (0, 62, 0, 0, 0)), (.iconst 1, (0, 0, 0, 1, 0)), (.goto 4, (0, 63, 0, 0, 0)), (.iconst 0, (0, 0, 0, 0, 0)), (.ireturn, (0, 0, 0, 0, 0))]
theorem jc_La_read : wq_c b_La_read 4 j_La_read 0 = true := by decide +kernel
def j_La_readRange : wq_J := [(.aload_n 0, (0, 0, 0, 0, 0)), (.invokevirtual 33, (0, 0, 0, 0, 0)), (.ifCond .ne 5, (0, 9, 0, 0, 0)), (.iconst 0, (0, 0, 0, 0, 0)), (.ireturn, (0, 0, 0, 0, 0)), (.sipush 1000, (0, 0, 0, 1000, 0)), (.istore_n 2, (0, 0, 0, 0, 0)), (.aload_n 0, (0, 0, 0, 0, 0)), (.invokevirtual 36, (0, 0, 0, 0, 0)), (.ifCond .eq 30, (0, 47, 0, 0, 0)), (.aload_n 0, (0, 0, 0, 0, 0)), (.bipush 113, (0, 0, 0, 113, 0)), (.invokevirtual 39, (0, 0, 0, 0, 0)), (.ifCond .ne 12, (0, 38, 0, 0, 0)), (.aload_n 0, (0, 0, 0, 0, 0)), (.bipush 81, (0, 0, 0, 81, 0)), (.invokevirtual 39, (0, 0, 0, 0, 0)), (.ifCond .eq 10, (0, 45, 0, 0, 0)), (.aload_n 0, (0, 0, 0, 0, 0)), (.invokevirtual 43, (0, 0, 0, 0, 0)), (.goto 4, (0, 46, 0, 0, 0)), (.iconst (-1), (0, 0, 0, (-1), 0)), (.istore_n 2, (0, 0, 0, 0, 0)), (.aload_n 0, (0, 0, 0, 0, 0)), (.aload_n 1, (0, 0, 0, 0, 0)), (.invokevirtual 47, (0, 0, 0, 0, 0)), (.istore_n 3, (0, 0, 0, 0, 0)), (.iload_n 3, (0, 0, 0, 0, 0)), (.aload_n 0, (0, 0, 0, 0, 0)), (.getfield 19, (1, 0, 6, 0, 0)), (.if_icmp .le 13, (0, 71, 0, 0, 0)), (.aload_n 0, (0, 0, 0, 0, 0)), (.iload_n 3, (0, 0, 0, 0, 0)), (.putfield 19, (1, 0, 6, 0, 0)), (.aload_n 0, (0, 0, 0, 0, 0)), (.iload_n 2, (0, 0, 0, 0, 0)), (.putfield 15, (1, 0, 5, 0, 0)), (.iload_n 2, (0, 0, 0, 0, 0)), (.iconst (-1), (0, 0, 0, (-1), 0)), (.if_icmp .eq 7, (0, 80, 0, 0, 0)), (.iconst 1, (0, 0, 0, 1, 0)), (.goto 4, (0, 81, 0, 0, 0)), (.iconst 0, (0, 0, 0, 0, 0)), (.ireturn, (0, 0, 0, 0, 0))]
theorem jc_La_readRange : wq_c b_La_readRange 4 j_La_readRange 0 = true := by decide +kernel
def j_La_fitOf : wq_J := [(.aload_n 0, (0, 0, 0, 0, 0)), (.ldc 51, (2, 0, 0, 0, 0)), (.invokevirtual 53, (0, 0, 0, 0, 0)), (.ifCond .eq 5, (0, 11, 0, 0, 0)), (.iconst 0, (0, 0, 0, 0, 0)), (.ireturn, (0, 0, 0, 0, 0)), (.aload_n 0, (0, 0, 0, 0, 0)), (.aload_n 1, (0, 0, 0, 0, 0)), (.getfield 57, (2, 0, 0, 0, 0)), (.invokevirtual 63, (0, 0, 0, 0, 0)), (.ifCond .ne 14, (0, 33, 0, 0, 0)), (.aload_n 0, (0, 0, 0, 0, 0)), (.aload_n 1, (0, 0, 0, 0, 0)), (.getfield 66, (2, 0, 0, 0, 0)), (.invokevirtual 63, (0, 0, 0, 0, 0)), (.ifCond .eq 10, (0, 40, 0, 0, 0)), (.aload_n 0, (0, 0, 0, 0, 0)), (.invokevirtual 69, (0, 0, 0, 0, 0)), (.goto 4, (0, 41, 0, 0, 0)), (.iconst (-1), (0, 0, 0, (-1), 0)), (.ireturn, (0, 0, 0, 0, 0))]
theorem jc_La_fitOf : wq_c b_La_fitOf 2 j_La_fitOf 0 = true := by decide +kernel
def j_Ra_init : wq_J := [(.aload_n 0, (0, 0, 0, 0, 0)), (.invokespecial 3, (0, 0, 0, 0, 0)), (.aload_n 0, (0, 0, 0, 0, 0)), (.iconst 4, (0, 0, 0, 4, 0)), (.newarray .int, (0, 0, 0, 0, 0)), (.putfield 9, (3, 0, 5, 0, 0)), (.aload_n 0, (0, 0, 0, 0, 0)), (.iconst 4, (0, 0, 0, 4, 0)), (.newarray .int, (0, 0, 0, 0, 0)), (.putfield 15, (3, 0, 6, 0, 0)), (.return_, (0, 0, 0, 0, 0))]
theorem jc_Ra_init : wq_c b_Ra_init 1 j_Ra_init 0 = true := by decide +kernel
def j_Ra_read : wq_J := [(.aload_n 0, (0, 0, 0, 0, 0)), (.aload_n 1, (0, 0, 0, 0, 0)), (.bipush 7, (0, 0, 0, 7, 0)), (.invokevirtual 18, (0, 0, 0, 0, 0)), (.aload_n 0, (0, 0, 0, 0, 0)), (.iconst 0, (0, 0, 0, 0, 0)), (.putfield 22, (1, 0, 7, 0, 0)), (.aload_n 0, (0, 0, 0, 0, 0)), (.iconst 0, (0, 0, 0, 0, 0)), (.putfield 26, (1, 0, 8, 0, 0)), (.aload_n 0, (0, 0, 0, 0, 0)), (.invokevirtual 29, (0, 0, 0, 0, 0)), (.aload_n 0, (0, 0, 0, 0, 0)), (.ldc 32, (2, 0, 0, 0, 0)), (.invokevirtual 34, (0, 0, 0, 0, 0)), (.ifCond .eq 12, (0, 39, 0, 0, 0)), (.aload_n 0, (0, 0, 0, 0, 0)), (.bipush 61, (0, 0, 0, 61, 0)), (.invokevirtual 38, (0, 0, 0, 0, 0)), (.ifCond .ne 5, (0, 41, 0, 0, 0)), (.iconst 0, (0, 0, 0, 0, 0)), (.ireturn, (0, 0, 0, 0, 0)), (.aload_n 0, (0, 0, 0, 0, 0)), (.getfield 22, (1, 0, 7, 0, 0)), (.bipush 96, (0, 0, 0, 96, 0)), (.if_icmp .ge 40, (0, 87, 0, 0, 0)), (.aload_n 0, (0, 0, 0, 0, 0)), (.invokevirtual 42, (0, 0, 0, 0, 0)), (.ifCond .eq 33, (0, 87, 0, 0, 0)), (.aload_n 0, (0, 0, 0, 0, 0)), (.iload_n 2, (0, 0, 0, 0, 0)), (.invokevirtual 46, (0, 0, 0, 0, 0)), (.ifCond .eq 10, (0, 72, 0, 0, 0)), (.aload_n 0, (0, 0, 0, 0, 0)), (.invokevirtual 50, (0, 0, 0, 0, 0)), (.ifCond .ne 5, (0, 74, 0, 0, 0)), (.iconst 0, (0, 0, 0, 0, 0)), (.ireturn, (0, 0, 0, 0, 0)), (.aload_n 0, (0, 0, 0, 0, 0)), (.dup, (0, 0, 0, 0, 0)), (.getfield 22, (1, 0, 7, 0, 0)), (.iconst 1, (0, 0, 0, 1, 0)), (.iadd, (0, 0, 0, 0, 0)), (.putfield 22, (1, 0, 7, 0, 0)), (.goto (-43), (0, 41, 0, 0, 0)), (.aload_n 0, (0, 0, 0, 0, 0)), (.getfield 22, (1, 0, 7, 0, 0)), (.ifCond .le 7, (0, 98, 0, 0, 0)), (.iconst 1, (0, 0, 0, 1, 0)), (.goto 4, (0, 99, 0, 0, 0)), (.iconst 0, (0, 0, 0, 0, 0)), (.ireturn, (0, 0, 0, 0, 0))]
theorem jc_Ra_read : wq_c b_Ra_read 3 j_Ra_read 0 = true := by decide +kernel
def j_Ra_overlap : wq_J := [(.iconst 1, (0, 0, 0, 1, 0)), (.istore_n 1, (0, 0, 0, 0, 0)), (.iload_n 1, (0, 0, 0, 0, 0)), (.aload_n 0, (0, 0, 0, 0, 0)), (.getfield 26, (1, 0, 8, 0, 0)), (.if_icmp .ge 54, (0, 61, 0, 0, 0)), (.iconst 0, (0, 0, 0, 0, 0)), (.istore_n 2, (0, 0, 0, 0, 0)), (.iload_n 2, (0, 0, 0, 0, 0)), (.iload_n 1, (0, 0, 0, 0, 0)), (.if_icmp .ge 41, (0, 55, 0, 0, 0)), (.aload_n 0, (0, 0, 0, 0, 0)), (.getfield 9, (1, 0, 5, 0, 0)), (.iload_n 1, (0, 0, 0, 0, 0)), (.iaload, (1, 2, 0, 0, 0)), (.aload_n 0, (0, 0, 0, 0, 0)), (.getfield 15, (1, 0, 6, 0, 0)), (.iload_n 2, (0, 0, 0, 0, 0)), (.iaload, (1, 3, 0, 0, 0)), (.if_icmp .gt 20, (0, 49, 0, 0, 0)), (.aload_n 0, (0, 0, 0, 0, 0)), (.getfield 9, (1, 0, 5, 0, 0)), (.iload_n 2, (0, 0, 0, 0, 0)), (.iaload, (1, 2, 0, 0, 0)), (.aload_n 0, (0, 0, 0, 0, 0)), (.getfield 15, (1, 0, 6, 0, 0)), (.iload_n 1, (0, 0, 0, 0, 0)), (.iaload, (1, 3, 0, 0, 0)), (.if_icmp .gt 5, (0, 49, 0, 0, 0)), (.iconst 1, (0, 0, 0, 1, 0)), (.ireturn, (0, 0, 0, 0, 0)), (.iinc 2 1, (0, 0, 0, 1, 0)), (.goto (-40), (0, 12, 0, 0, 0)), (.iinc 1 1, (0, 0, 0, 1, 0)), (.goto (-56), (0, 2, 0, 0, 0)), (.iconst 0, (0, 0, 0, 0, 0)), (.ireturn, (0, 0, 0, 0, 0))]
theorem jc_Ra_overlap : wq_c b_Ra_overlap 3 j_Ra_overlap 0 = true := by decide +kernel
def j_Ra_readSpec : wq_J := [(.aload_n 0, (0, 0, 0, 0, 0)), (.invokevirtual 53, (0, 0, 0, 0, 0)), (.istore_n 2, (0, 0, 0, 0, 0)), (.aload_n 0, (0, 0, 0, 0, 0)), (.bipush 45, (0, 0, 0, 45, 0)), (.invokevirtual 38, (0, 0, 0, 0, 0)), (.ifCond .ne 5, (0, 16, 0, 0, 0)), (.iconst 0, (0, 0, 0, 0, 0)), (.ireturn, (0, 0, 0, 0, 0)), (.aload_n 0, (0, 0, 0, 0, 0)), (.invokevirtual 53, (0, 0, 0, 0, 0)), (.istore_n 3, (0, 0, 0, 0, 0)), (.iload_n 2, (0, 0, 0, 0, 0)), (.iconst (-1), (0, 0, 0, (-1), 0)), (.if_icmp .ne 28, (0, 51, 0, 0, 0)), (.aload_n 0, (0, 0, 0, 0, 0)), (.iconst 0, (0, 0, 0, 0, 0)), (.iload_n 1, (0, 0, 0, 0, 0)), (.iload_n 3, (0, 0, 0, 0, 0)), (.isub, (0, 0, 0, 0, 0)), (.invokestatic 57, (0, 0, 0, 0, 0)), (.iload_n 1, (0, 0, 0, 0, 0)), (.iconst 1, (0, 0, 0, 1, 0)), (.isub, (0, 0, 0, 0, 0)), (.invokevirtual 63, (0, 0, 0, 0, 0)), (.iload_n 3, (0, 0, 0, 0, 0)), (.iconst (-1), (0, 0, 0, (-1), 0)), (.if_icmp .eq 7, (0, 49, 0, 0, 0)), (.iconst 1, (0, 0, 0, 1, 0)), (.goto 4, (0, 50, 0, 0, 0)), (.iconst 0, (0, 0, 0, 0, 0)), (.ireturn, (0, 0, 0, 0, 0)), (.aload_n 0, (0, 0, 0, 0, 0)), (.iload_n 2, (0, 0, 0, 0, 0)), (.iload_n 3, (0, 0, 0, 0, 0)), (.iconst (-1), (0, 0, 0, (-1), 0)), (.if_icmp .ne 9, (0, 64, 0, 0, 0)), (.iload_n 1, (0, 0, 0, 0, 0)), (.iconst 1, (0, 0, 0, 1, 0)), (.isub, (0, 0, 0, 0, 0)), (.goto 10, (0, 71, 0, 0, 0)), (.iload_n 3, (0, 0, 0, 0, 0)), (.iload_n 1, (0, 0, 0, 0, 0)), (.iconst 1, (0, 0, 0, 1, 0)), (.isub, (0, 0, 0, 0, 0)), (.invokestatic 67, (0, 0, 0, 0, 0)), (.invokevirtual 63, (0, 0, 0, 0, 0)), (.iload_n 3, (0, 0, 0, 0, 0)), (.iconst (-1), (0, 0, 0, (-1), 0)), (.if_icmp .eq 8, (0, 84, 0, 0, 0)), (.iload_n 3, (0, 0, 0, 0, 0)), (.iload_n 2, (0, 0, 0, 0, 0)), (.if_icmp .lt 7, (0, 88, 0, 0, 0)), (.iconst 1, (0, 0, 0, 1, 0)), (.goto 4, (0, 89, 0, 0, 0)), (.iconst 0, (0, 0, 0, 0, 0)), (.ireturn, (0, 0, 0, 0, 0))]
theorem jc_Ra_readSpec : wq_c b_Ra_readSpec 4 j_Ra_readSpec 0 = true := by decide +kernel
def j_Ra_keep : wq_J := [(.iload_n 1, (0, 0, 0, 0, 0)), (.iload_n 2, (0, 0, 0, 0, 0)), (.if_icmp .gt 41, (0, 43, 0, 0, 0)), (.aload_n 0, (0, 0, 0, 0, 0)), (.getfield 26, (1, 0, 8, 0, 0)), (.iconst 4, (0, 0, 0, 4, 0)), (.if_icmp .ge 33, (0, 43, 0, 0, 0)), (.aload_n 0, (0, 0, 0, 0, 0)), (.getfield 9, (1, 0, 5, 0, 0)), (.aload_n 0, (0, 0, 0, 0, 0)), (.getfield 26, (1, 0, 8, 0, 0)), (.iload_n 1, (0, 0, 0, 0, 0)), (.iastore, (1, 2, 0, 0, 0)), (.aload_n 0, (0, 0, 0, 0, 0)), (.getfield 15, (1, 0, 6, 0, 0)), (.aload_n 0, (0, 0, 0, 0, 0)), (.getfield 26, (1, 0, 8, 0, 0)), (.iload_n 2, (0, 0, 0, 0, 0)), (.iastore, (1, 3, 0, 0, 0)), (.aload_n 0, (0, 0, 0, 0, 0)), (.dup, (0, 0, 0, 0, 0)), (.getfield 26, (1, 0, 8, 0, 0)), (.iconst 1, (0, 0, 0, 1, 0)), (.iadd, (0, 0, 0, 0, 0)), (.putfield 26, (1, 0, 8, 0, 0)), (.return_, (0, 0, 0, 0, 0))]
theorem jc_Ra_keep : wq_c b_Ra_keep 3 j_Ra_keep 0 = true := by decide +kernel
def j_Rd_init : wq_J := [(.aload_n 0, (0, 0, 0, 0, 0)), (.invokespecial 3, (0, 0, 0, 0, 0)), (.aload_n 0, (0, 0, 0, 0, 0)), (.iconst 0, (0, 0, 0, 0, 0)), (.newarray .int, (0, 0, 0, 0, 0)), (.putfield 9, (1, 0, 0, 0, 0)), (.aload_n 0, (0, 0, 0, 0, 0)), (.bipush 96, (0, 0, 0, 96, 0)), (.newarray .int, (0, 0, 0, 0, 0)), (.putfield 15, (3, 0, 3, 0, 0)), (.return_, (0, 0, 0, 0, 0))]
theorem jc_Rd_init : wq_c b_Rd_init 1 j_Rd_init 0 = true := by decide +kernel
def j_Rd_open : wq_J := [(.aload_n 0, (0, 0, 0, 0, 0)), (.iconst 0, (0, 0, 0, 0, 0)), (.putfield 18, (1, 0, 2, 0, 0)), (.aload_n 0, (0, 0, 0, 0, 0)), (.iconst 0, (0, 0, 0, 0, 0)), (.putfield 22, (1, 0, 1, 0, 0)), (.aload_n 1, (0, 0, 0, 0, 0)), (.iload_n 2, (0, 0, 0, 0, 0)), (.invokevirtual 25, (0, 0, 0, 0, 0)), (.ifCond .eq 23, (0, 38, 0, 0, 0)), (.aload_n 0, (0, 0, 0, 0, 0)), (.aload_n 1, (0, 0, 0, 0, 0)), (.getfield 31, (2, 0, 0, 0, 0)), (.iload_n 2, (0, 0, 0, 0, 0)), (.aaload, (0, 0, 0, 0, 0)), (.putfield 9, (1, 0, 0, 0, 0)), (.aload_n 0, (0, 0, 0, 0, 0)), (.aload_n 1, (0, 0, 0, 0, 0)), (.getfield 35, (2, 0, 0, 0, 0)), (.iload_n 2, (0, 0, 0, 0, 0)), (.iaload, (2, 0, 0, 0, 0)), (.putfield 22, (1, 0, 1, 0, 0)), (.return_, (0, 0, 0, 0, 0))]
theorem jc_Rd_open : wq_c b_Rd_open 3 j_Rd_open 0 = true := by decide +kernel
def j_Rd_isEnded : wq_J := [(.aload_n 0, (0, 0, 0, 0, 0)), (.getfield 18, (1, 0, 2, 0, 0)), (.aload_n 0, (0, 0, 0, 0, 0)), (.getfield 22, (1, 0, 1, 0, 0)), (.if_icmp .lt 7, (0, 15, 0, 0, 0)), (.iconst 1, (0, 0, 0, 1, 0)), (.goto 4, (0, 16, 0, 0, 0)), (.iconst 0, (0, 0, 0, 0, 0)), (.ireturn, (0, 0, 0, 0, 0))]
theorem jc_Rd_isEnded : wq_c b_Rd_isEnded 1 j_Rd_isEnded 0 = true := by decide +kernel
def j_Rd_isNext : wq_J := [(.aload_n 0, (0, 0, 0, 0, 0)), (.getfield 18, (1, 0, 2, 0, 0)), (.aload_n 0, (0, 0, 0, 0, 0)), (.getfield 22, (1, 0, 1, 0, 0)), (.if_icmp .ge 20, (0, 28, 0, 0, 0)), (.aload_n 0, (0, 0, 0, 0, 0)), (.getfield 9, (1, 0, 0, 0, 0)), (.aload_n 0, (0, 0, 0, 0, 0)), (.getfield 18, (1, 0, 2, 0, 0)), (.iaload, (2, 0, 0, 0, 0)), (.iload_n 1, (0, 0, 0, 0, 0)), (.if_icmp .ne 7, (0, 28, 0, 0, 0)), (.iconst 1, (0, 0, 0, 1, 0)), (.goto 4, (0, 29, 0, 0, 0)), (.iconst 0, (0, 0, 0, 0, 0)), (.ireturn, (0, 0, 0, 0, 0))]
theorem jc_Rd_isNext : wq_c b_Rd_isNext 2 j_Rd_isNext 0 = true := by decide +kernel
def j_Rd_take : wq_J := [(.aload_n 0, (0, 0, 0, 0, 0)), (.getfield 18, (1, 0, 2, 0, 0)), (.aload_n 0, (0, 0, 0, 0, 0)), (.getfield 22, (1, 0, 1, 0, 0)), (.if_icmp .ge 16, (0, 24, 0, 0, 0)), (.aload_n 0, (0, 0, 0, 0, 0)), (.getfield 9, (1, 0, 0, 0, 0)), (.aload_n 0, (0, 0, 0, 0, 0)), (.getfield 18, (1, 0, 2, 0, 0)), (.iaload, (2, 0, 0, 0, 0)), (.iload_n 1, (0, 0, 0, 0, 0)), (.if_icmp .eq 5, (0, 26, 0, 0, 0)), (.iconst 0, (0, 0, 0, 0, 0)), (.ireturn, (0, 0, 0, 0, 0)), (.aload_n 0, (0, 0, 0, 0, 0)), (.dup, (0, 0, 0, 0, 0)), (.getfield 18, (1, 0, 2, 0, 0)), (.iconst 1, (0, 0, 0, 1, 0)), (.iadd, (0, 0, 0, 0, 0)), (.putfield 18, (1, 0, 2, 0, 0)), (.iconst 1, (0, 0, 0, 1, 0)), (.ireturn, (0, 0, 0, 0, 0))]
theorem jc_Rd_take : wq_c b_Rd_take 2 j_Rd_take 0 = true := by decide +kernel
def j_Rd_skipGap : wq_J := [(.aload_n 0, (0, 0, 0, 0, 0)), (.getfield 18, (1, 0, 2, 0, 0)), (.aload_n 0, (0, 0, 0, 0, 0)), (.getfield 22, (1, 0, 1, 0, 0)), (.if_icmp .ge 44, (0, 52, 0, 0, 0)), (.aload_n 0, (0, 0, 0, 0, 0)), (.getfield 9, (1, 0, 0, 0, 0)), (.aload_n 0, (0, 0, 0, 0, 0)), (.getfield 18, (1, 0, 2, 0, 0)), (.iaload, (2, 0, 0, 0, 0)), (.bipush 32, (0, 0, 0, 32, 0)), (.if_icmp .eq 17, (0, 39, 0, 0, 0)), (.aload_n 0, (0, 0, 0, 0, 0)), (.getfield 9, (1, 0, 0, 0, 0)), (.aload_n 0, (0, 0, 0, 0, 0)), (.getfield 18, (1, 0, 2, 0, 0)), (.iaload, (2, 0, 0, 0, 0)), (.bipush 9, (0, 0, 0, 9, 0)), (.if_icmp .ne 16, (0, 52, 0, 0, 0)), (.aload_n 0, (0, 0, 0, 0, 0)), (.dup, (0, 0, 0, 0, 0)), (.getfield 18, (1, 0, 2, 0, 0)), (.iconst 1, (0, 0, 0, 1, 0)), (.iadd, (0, 0, 0, 0, 0)), (.putfield 18, (1, 0, 2, 0, 0)), (.goto (-49), (0, 0, 0, 0, 0)), (.return_, (0, 0, 0, 0, 0))]
theorem jc_Rd_skipGap : wq_c b_Rd_skipGap 1 j_Rd_skipGap 0 = true := by decide +kernel
def j_Rd_findElement : wq_J := [(.aload_n 0, (0, 0, 0, 0, 0)), (.getfield 18, (1, 0, 2, 0, 0)), (.aload_n 0, (0, 0, 0, 0, 0)), (.getfield 22, (1, 0, 1, 0, 0)), (.if_icmp .ge 58, (0, 66, 0, 0, 0)), (.aload_n 0, (0, 0, 0, 0, 0)), (.getfield 9, (1, 0, 0, 0, 0)), (.aload_n 0, (0, 0, 0, 0, 0)), (.getfield 18, (1, 0, 2, 0, 0)), (.iaload, (2, 0, 0, 0, 0)), (.bipush 32, (0, 0, 0, 32, 0)), (.if_icmp .eq 31, (0, 53, 0, 0, 0)), (.aload_n 0, (0, 0, 0, 0, 0)), (.getfield 9, (1, 0, 0, 0, 0)), (.aload_n 0, (0, 0, 0, 0, 0)), (.getfield 18, (1, 0, 2, 0, 0)), (.iaload, (2, 0, 0, 0, 0)), (.bipush 9, (0, 0, 0, 9, 0)), (.if_icmp .eq 17, (0, 53, 0, 0, 0)), (.aload_n 0, (0, 0, 0, 0, 0)), (.getfield 9, (1, 0, 0, 0, 0)), (.aload_n 0, (0, 0, 0, 0, 0)), (.getfield 18, (1, 0, 2, 0, 0)), (.iaload, (2, 0, 0, 0, 0)), (.bipush 44, (0, 0, 0, 44, 0)), (.if_icmp .ne 16, (0, 66, 0, 0, 0)), (.aload_n 0, (0, 0, 0, 0, 0)), (.dup, (0, 0, 0, 0, 0)), (.getfield 18, (1, 0, 2, 0, 0)), (.iconst 1, (0, 0, 0, 1, 0)), (.iadd, (0, 0, 0, 0, 0)), (.putfield 18, (1, 0, 2, 0, 0)), (.goto (-63), (0, 0, 0, 0, 0)), (.aload_n 0, (0, 0, 0, 0, 0)), (.getfield 18, (1, 0, 2, 0, 0)), (.aload_n 0, (0, 0, 0, 0, 0)), (.getfield 22, (1, 0, 1, 0, 0)), (.if_icmp .ge 7, (0, 81, 0, 0, 0)), (.iconst 1, (0, 0, 0, 1, 0)), (.goto 4, (0, 82, 0, 0, 0)), (.iconst 0, (0, 0, 0, 0, 0)), (.ireturn, (0, 0, 0, 0, 0))]
theorem jc_Rd_findElement : wq_c b_Rd_findElement 1 j_Rd_findElement 0 = true := by decide +kernel
def j_Rd_endsElement : wq_J := [(.aload_n 0, (0, 0, 0, 0, 0)), (.invokevirtual 38, (0, 0, 0, 0, 0)), (.aload_n 0, (0, 0, 0, 0, 0)), (.getfield 18, (1, 0, 2, 0, 0)), (.aload_n 0, (0, 0, 0, 0, 0)), (.getfield 22, (1, 0, 1, 0, 0)), (.if_icmp .ge 17, (0, 29, 0, 0, 0)), (.aload_n 0, (0, 0, 0, 0, 0)), (.getfield 9, (1, 0, 0, 0, 0)), (.aload_n 0, (0, 0, 0, 0, 0)), (.getfield 18, (1, 0, 2, 0, 0)), (.iaload, (2, 0, 0, 0, 0)), (.bipush 44, (0, 0, 0, 44, 0)), (.if_icmp .ne 7, (0, 33, 0, 0, 0)), (.iconst 1, (0, 0, 0, 1, 0)), (.goto 4, (0, 34, 0, 0, 0)), (.iconst 0, (0, 0, 0, 0, 0)), (.ireturn, (0, 0, 0, 0, 0))]
theorem jc_Rd_endsElement : wq_c b_Rd_endsElement 1 j_Rd_endsElement 0 = true := by decide +kernel
def j_Rd_takeSemicolon : wq_J := [(.aload_n 0, (0, 0, 0, 0, 0)), (.invokevirtual 38, (0, 0, 0, 0, 0)), (.aload_n 0, (0, 0, 0, 0, 0)), (.bipush 59, (0, 0, 0, 59, 0)), (.invokevirtual 41, (0, 0, 0, 0, 0)), (.ifCond .ne 5, (0, 15, 0, 0, 0)), (.iconst 0, (0, 0, 0, 0, 0)), (.ireturn, (0, 0, 0, 0, 0)), (.aload_n 0, (0, 0, 0, 0, 0)), (.invokevirtual 38, (0, 0, 0, 0, 0)), (.iconst 1, (0, 0, 0, 1, 0)), (.ireturn, (0, 0, 0, 0, 0))]
theorem jc_Rd_takeSemicolon : wq_c b_Rd_takeSemicolon 1 j_Rd_takeSemicolon 0 = true := by decide +kernel
def j_Rd_takeText : wq_J := [(.iconst 0, (0, 0, 0, 0, 0)), (.istore_n 2, (0, 0, 0, 0, 0)), (.iload_n 2, (0, 0, 0, 0, 0)), (.aload_n 1, (0, 0, 0, 0, 0)), (.invokevirtual 45, (0, 0, 0, 0, 0)), (.if_icmp .ge 23, (0, 30, 0, 0, 0)), (.aload_n 0, (0, 0, 0, 0, 0)), (.aload_n 1, (0, 0, 0, 0, 0)), (.iload_n 2, (0, 0, 0, 0, 0)), (.invokevirtual 51, (0, 0, 0, 0, 0)), (.invokevirtual 41, (0, 0, 0, 0, 0)), (.ifCond .ne 5, (0, 24, 0, 0, 0)), (.iconst 0, (0, 0, 0, 0, 0)), (.ireturn, (0, 0, 0, 0, 0)), (.iinc 2 1, (0, 0, 0, 1, 0)), (.goto (-25), (0, 2, 0, 0, 0)), (.iconst 1, (0, 0, 0, 1, 0)), (.ireturn, (0, 0, 0, 0, 0))]
theorem jc_Rd_takeText : wq_c b_Rd_takeText 3 j_Rd_takeText 0 = true := by decide +kernel
def j_Rd_takeAlike : wq_J := [(.iconst 0, (0, 0, 0, 0, 0)), (.istore_n 2, (0, 0, 0, 0, 0)), (.iload_n 2, (0, 0, 0, 0, 0)), (.aload_n 1, (0, 0, 0, 0, 0)), (.invokevirtual 45, (0, 0, 0, 0, 0)), (.if_icmp .ge 55, (0, 62, 0, 0, 0)), (.aload_n 0, (0, 0, 0, 0, 0)), (.getfield 18, (1, 0, 2, 0, 0)), (.aload_n 0, (0, 0, 0, 0, 0)), (.getfield 22, (1, 0, 1, 0, 0)), (.if_icmp .ge 26, (0, 44, 0, 0, 0)), (.aload_n 0, (0, 0, 0, 0, 0)), (.getfield 9, (1, 0, 0, 0, 0)), (.aload_n 0, (0, 0, 0, 0, 0)), (.getfield 18, (1, 0, 2, 0, 0)), (.iaload, (2, 0, 0, 0, 0)), (.invokestatic 55, (0, 0, 0, 0, 0)), (.aload_n 1, (0, 0, 0, 0, 0)), (.iload_n 2, (0, 0, 0, 0, 0)), (.invokevirtual 51, (0, 0, 0, 0, 0)), (.invokestatic 55, (0, 0, 0, 0, 0)), (.if_icmp .eq 5, (0, 46, 0, 0, 0)), (.iconst 0, (0, 0, 0, 0, 0)), (.ireturn, (0, 0, 0, 0, 0)), (.aload_n 0, (0, 0, 0, 0, 0)), (.dup, (0, 0, 0, 0, 0)), (.getfield 18, (1, 0, 2, 0, 0)), (.iconst 1, (0, 0, 0, 1, 0)), (.iadd, (0, 0, 0, 0, 0)), (.putfield 18, (1, 0, 2, 0, 0)), (.iinc 2 1, (0, 0, 0, 1, 0)), (.goto (-57), (0, 2, 0, 0, 0)), (.iconst 1, (0, 0, 0, 1, 0)), (.ireturn, (0, 0, 0, 0, 0))]
theorem jc_Rd_takeAlike : wq_c b_Rd_takeAlike 3 j_Rd_takeAlike 0 = true := by decide +kernel
def j_Rd_takeToken : wq_J := [(.aload_n 0, (0, 0, 0, 0, 0)), (.iconst 0, (0, 0, 0, 0, 0)), (.putfield 59, (1, 0, 4, 0, 0)), (.aload_n 0, (0, 0, 0, 0, 0)), (.getfield 18, (1, 0, 2, 0, 0)), (.aload_n 0, (0, 0, 0, 0, 0)), (.getfield 22, (1, 0, 1, 0, 0)), (.if_icmp .ge 47, (0, 60, 0, 0, 0)), (.ldc 62, (2, 0, 0, 0, 0)), (.aload_n 0, (0, 0, 0, 0, 0)), (.getfield 9, (1, 0, 0, 0, 0)), (.aload_n 0, (0, 0, 0, 0, 0)), (.getfield 18, (1, 0, 2, 0, 0)), (.iaload, (2, 0, 0, 0, 0)), (.i2c, (0, 0, 0, 0, 0)), (.invokevirtual 64, (0, 0, 0, 0, 0)), (.ifCond .lt 29, (0, 60, 0, 0, 0)), (.aload_n 0, (0, 0, 0, 0, 0)), (.aload_n 0, (0, 0, 0, 0, 0)), (.getfield 9, (1, 0, 0, 0, 0)), (.aload_n 0, (0, 0, 0, 0, 0)), (.getfield 18, (1, 0, 2, 0, 0)), (.iaload, (2, 0, 0, 0, 0)), (.invokevirtual 67, (0, 0, 0, 0, 0)), (.aload_n 0, (0, 0, 0, 0, 0)), (.dup, (0, 0, 0, 0, 0)), (.getfield 18, (1, 0, 2, 0, 0)), (.iconst 1, (0, 0, 0, 1, 0)), (.iadd, (0, 0, 0, 0, 0)), (.putfield 18, (1, 0, 2, 0, 0)), (.goto (-52), (0, 5, 0, 0, 0)), (.aload_n 0, (0, 0, 0, 0, 0)), (.getfield 59, (1, 0, 4, 0, 0)), (.ifCond .le 7, (0, 71, 0, 0, 0)), (.iconst 1, (0, 0, 0, 1, 0)), (.goto 4, (0, 72, 0, 0, 0)), (.iconst 0, (0, 0, 0, 0, 0)), (.ireturn, (0, 0, 0, 0, 0))]
theorem jc_Rd_takeToken : wq_c b_Rd_takeToken 1 j_Rd_takeToken 0 = true := by decide +kernel
def j_Rd_takeQuotedText : wq_J := [(.aload_n 0, (0, 0, 0, 0, 0)), (.iconst 0, (0, 0, 0, 0, 0)), (.putfield 59, (1, 0, 4, 0, 0)), (.aload_n 0, (0, 0, 0, 0, 0)), (.bipush 34, (0, 0, 0, 34, 0)), (.invokevirtual 41, (0, 0, 0, 0, 0)), (.ifCond .ne 5, (0, 16, 0, 0, 0)), (.iconst 0, (0, 0, 0, 0, 0)), (.ireturn, (0, 0, 0, 0, 0)), (.aload_n 0, (0, 0, 0, 0, 0)), (.getfield 18, (1, 0, 2, 0, 0)), (.aload_n 0, (0, 0, 0, 0, 0)), (.getfield 22, (1, 0, 1, 0, 0)), (.if_icmp .ge 95, (0, 119, 0, 0, 0)), (.aload_n 0, (0, 0, 0, 0, 0)), (.getfield 9, (1, 0, 0, 0, 0)), (.aload_n 0, (0, 0, 0, 0, 0)), (.getfield 18, (1, 0, 2, 0, 0)), (.iaload, (2, 0, 0, 0, 0)), (.bipush 34, (0, 0, 0, 34, 0)), (.if_icmp .eq 81, (0, 119, 0, 0, 0)), (.aload_n 0, (0, 0, 0, 0, 0)), (.getfield 9, (1, 0, 0, 0, 0)), (.aload_n 0, (0, 0, 0, 0, 0)), (.getfield 18, (1, 0, 2, 0, 0)), (.iaload, (2, 0, 0, 0, 0)), (.bipush 92, (0, 0, 0, 92, 0)), (.if_icmp .ne 13, (0, 65, 0, 0, 0)), (.aload_n 0, (0, 0, 0, 0, 0)), (.dup, (0, 0, 0, 0, 0)), (.getfield 18, (1, 0, 2, 0, 0)), (.iconst 1, (0, 0, 0, 1, 0)), (.iadd, (0, 0, 0, 0, 0)), (.putfield 18, (1, 0, 2, 0, 0)), (.aload_n 0, (0, 0, 0, 0, 0)), (.getfield 18, (1, 0, 2, 0, 0)), (.aload_n 0, (0, 0, 0, 0, 0)), (.getfield 22, (1, 0, 1, 0, 0)), (.if_icmp .ge 18, (0, 91, 0, 0, 0)), (.aload_n 0, (0, 0, 0, 0, 0)), (.getfield 9, (1, 0, 0, 0, 0)), (.aload_n 0, (0, 0, 0, 0, 0)), (.getfield 18, (1, 0, 2, 0, 0)), (.iaload, (2, 0, 0, 0, 0)), (.invokestatic 71, (0, 0, 0, 0, 0)), (.ifCond .ne 5, (0, 93, 0, 0, 0)), (.iconst 0, (0, 0, 0, 0, 0)), (.ireturn, (0, 0, 0, 0, 0)), (.aload_n 0, (0, 0, 0, 0, 0)), (.aload_n 0, (0, 0, 0, 0, 0)), (.getfield 9, (1, 0, 0, 0, 0)), (.aload_n 0, (0, 0, 0, 0, 0)), (.getfield 18, (1, 0, 2, 0, 0)), (.iaload, (2, 0, 0, 0, 0)), (.invokevirtual 67, (0, 0, 0, 0, 0)), (.aload_n 0, (0, 0, 0, 0, 0)), (.dup, (0, 0, 0, 0, 0)), (.getfield 18, (1, 0, 2, 0, 0)), (.iconst 1, (0, 0, 0, 1, 0)), (.iadd, (0, 0, 0, 0, 0)), (.putfield 18, (1, 0, 2, 0, 0)), (.goto (-100), (0, 16, 0, 0, 0)), (.aload_n 0, (0, 0, 0, 0, 0)), (.bipush 34, (0, 0, 0, 34, 0)), (.invokevirtual 41, (0, 0, 0, 0, 0)), (.ireturn, (0, 0, 0, 0, 0))]
theorem jc_Rd_takeQuotedText : wq_c b_Rd_takeQuotedText 1 j_Rd_takeQuotedText 0 = true := by decide +kernel
def j_Rd_takeOpaque : wq_J := [(.aload_n 0, (0, 0, 0, 0, 0)), (.iconst 0, (0, 0, 0, 0, 0)), (.putfield 59, (1, 0, 4, 0, 0)), (.aload_n 0, (0, 0, 0, 0, 0)), (.bipush 34, (0, 0, 0, 34, 0)), (.invokevirtual 41, (0, 0, 0, 0, 0)), (.ifCond .ne 5, (0, 16, 0, 0, 0)), (.iconst 0, (0, 0, 0, 0, 0)), (.ireturn, (0, 0, 0, 0, 0)), (.aload_n 0, (0, 0, 0, 0, 0)), (.getfield 18, (1, 0, 2, 0, 0)), (.aload_n 0, (0, 0, 0, 0, 0)), (.getfield 22, (1, 0, 1, 0, 0)), (.if_icmp .ge 71, (0, 95, 0, 0, 0)), (.aload_n 0, (0, 0, 0, 0, 0)), (.getfield 9, (1, 0, 0, 0, 0)), (.aload_n 0, (0, 0, 0, 0, 0)), (.getfield 18, (1, 0, 2, 0, 0)), (.iaload, (2, 0, 0, 0, 0)), (.bipush 32, (0, 0, 0, 32, 0)), (.if_icmp .le 57, (0, 95, 0, 0, 0)), (.aload_n 0, (0, 0, 0, 0, 0)), (.getfield 9, (1, 0, 0, 0, 0)), (.aload_n 0, (0, 0, 0, 0, 0)), (.getfield 18, (1, 0, 2, 0, 0)), (.iaload, (2, 0, 0, 0, 0)), (.bipush 34, (0, 0, 0, 34, 0)), (.if_icmp .eq 43, (0, 95, 0, 0, 0)), (.aload_n 0, (0, 0, 0, 0, 0)), (.getfield 9, (1, 0, 0, 0, 0)), (.aload_n 0, (0, 0, 0, 0, 0)), (.getfield 18, (1, 0, 2, 0, 0)), (.iaload, (2, 0, 0, 0, 0)), (.bipush 127, (0, 0, 0, 127, 0)), (.if_icmp .eq 29, (0, 95, 0, 0, 0)), (.aload_n 0, (0, 0, 0, 0, 0)), (.aload_n 0, (0, 0, 0, 0, 0)), (.getfield 9, (1, 0, 0, 0, 0)), (.aload_n 0, (0, 0, 0, 0, 0)), (.getfield 18, (1, 0, 2, 0, 0)), (.iaload, (2, 0, 0, 0, 0)), (.invokevirtual 67, (0, 0, 0, 0, 0)), (.aload_n 0, (0, 0, 0, 0, 0)), (.dup, (0, 0, 0, 0, 0)), (.getfield 18, (1, 0, 2, 0, 0)), (.iconst 1, (0, 0, 0, 1, 0)), (.iadd, (0, 0, 0, 0, 0)), (.putfield 18, (1, 0, 2, 0, 0)), (.goto (-76), (0, 16, 0, 0, 0)), (.aload_n 0, (0, 0, 0, 0, 0)), (.bipush 34, (0, 0, 0, 34, 0)), (.invokevirtual 41, (0, 0, 0, 0, 0)), (.ireturn, (0, 0, 0, 0, 0))]
theorem jc_Rd_takeOpaque : wq_c b_Rd_takeOpaque 1 j_Rd_takeOpaque 0 = true := by decide +kernel
def j_Rd_takeLanguage : wq_J := [(.aload_n 0, (0, 0, 0, 0, 0)), (.iconst 0, (0, 0, 0, 0, 0)), (.putfield 59, (1, 0, 4, 0, 0)), (.aload_n 0, (0, 0, 0, 0, 0)), (.bipush 42, (0, 0, 0, 42, 0)), (.invokevirtual 41, (0, 0, 0, 0, 0)), (.ifCond .eq 11, (0, 22, 0, 0, 0)), (.aload_n 0, (0, 0, 0, 0, 0)), (.bipush 42, (0, 0, 0, 42, 0)), (.invokevirtual 67, (0, 0, 0, 0, 0)), (.iconst 1, (0, 0, 0, 1, 0)), (.ireturn, (0, 0, 0, 0, 0)), (.iconst 0, (0, 0, 0, 0, 0)), (.istore_n 1, (0, 0, 0, 0, 0)), (.iconst 0, (0, 0, 0, 0, 0)), (.istore_n 2, (0, 0, 0, 0, 0)), (.aload_n 0, (0, 0, 0, 0, 0)), (.getfield 18, (1, 0, 2, 0, 0)), (.aload_n 0, (0, 0, 0, 0, 0)), (.getfield 22, (1, 0, 1, 0, 0)), (.if_icmp .ge 142, (0, 176, 0, 0, 0)), (.aload_n 0, (0, 0, 0, 0, 0)), (.getfield 9, (1, 0, 0, 0, 0)), (.aload_n 0, (0, 0, 0, 0, 0)), (.getfield 18, (1, 0, 2, 0, 0)), (.iaload, (2, 0, 0, 0, 0)), (.bipush 45, (0, 0, 0, 45, 0)), (.if_icmp .eq 37, (0, 85, 0, 0, 0)), (.aload_n 0, (0, 0, 0, 0, 0)), (.getfield 9, (1, 0, 0, 0, 0)), (.aload_n 0, (0, 0, 0, 0, 0)), (.getfield 18, (1, 0, 2, 0, 0)), (.iaload, (2, 0, 0, 0, 0)), (.invokestatic 74, (0, 0, 0, 0, 0)), (.ifCond .ne 22, (0, 85, 0, 0, 0)), (.iload_n 2, (0, 0, 0, 0, 0)), (.ifCond .eq 109, (0, 176, 0, 0, 0)), (.aload_n 0, (0, 0, 0, 0, 0)), (.getfield 9, (1, 0, 0, 0, 0)), (.aload_n 0, (0, 0, 0, 0, 0)), (.getfield 18, (1, 0, 2, 0, 0)), (.iaload, (2, 0, 0, 0, 0)), (.invokestatic 77, (0, 0, 0, 0, 0)), (.ifCond .eq 94, (0, 176, 0, 0, 0)), (.aload_n 0, (0, 0, 0, 0, 0)), (.getfield 9, (1, 0, 0, 0, 0)), (.aload_n 0, (0, 0, 0, 0, 0)), (.getfield 18, (1, 0, 2, 0, 0)), (.iaload, (2, 0, 0, 0, 0)), (.bipush 45, (0, 0, 0, 45, 0)), (.if_icmp .ne 7, (0, 103, 0, 0, 0)), (.iconst 1, (0, 0, 0, 1, 0)), (.goto 4, (0, 104, 0, 0, 0)), (.iconst 0, (0, 0, 0, 0, 0)), (.istore_n 3, (0, 0, 0, 0, 0)), (.iload_n 3, (0, 0, 0, 0, 0)), (.ifCond .eq 10, (0, 116, 0, 0, 0)), (.iload_n 1, (0, 0, 0, 0, 0)), (.ifCond .ne 14, (0, 124, 0, 0, 0)), (.goto 9, (0, 122, 0, 0, 0)), (.iload_n 1, (0, 0, 0, 0, 0)), (.bipush 8, (0, 0, 0, 8, 0)), (.if_icmp .ne 5, (0, 124, 0, 0, 0)), (.iconst 0, (0, 0, 0, 0, 0)), (.ireturn, (0, 0, 0, 0, 0)), (.iload_n 3, (0, 0, 0, 0, 0)), (.ifCond .eq 7, (0, 132, 0, 0, 0)), (.iconst 0, (0, 0, 0, 0, 0)), (.goto 6, (0, 135, 0, 0, 0)), (.iload_n 1, (0, 0, 0, 0, 0)), (.iconst 1, (0, 0, 0, 1, 0)), (.iadd, (0, 0, 0, 0, 0)), (.istore_n 1, (0, 0, 0, 0, 0)), (.iload_n 2, (0, 0, 0, 0, 0)), (.ifCond .ne 7, (0, 144, 0, 0, 0)), (.iload_n 3, (0, 0, 0, 0, 0)), (.ifCond .eq 7, (0, 148, 0, 0, 0)), (.iconst 1, (0, 0, 0, 1, 0)), (.goto 4, (0, 149, 0, 0, 0)), (.iconst 0, (0, 0, 0, 0, 0)), (.istore_n 2, (0, 0, 0, 0, 0)), (.aload_n 0, (0, 0, 0, 0, 0)), (.aload_n 0, (0, 0, 0, 0, 0)), (.getfield 9, (1, 0, 0, 0, 0)), (.aload_n 0, (0, 0, 0, 0, 0)), (.getfield 18, (1, 0, 2, 0, 0)), (.iaload, (2, 0, 0, 0, 0)), (.invokevirtual 67, (0, 0, 0, 0, 0)), (.aload_n 0, (0, 0, 0, 0, 0)), (.dup, (0, 0, 0, 0, 0)), (.getfield 18, (1, 0, 2, 0, 0)), (.iconst 1, (0, 0, 0, 1, 0)), (.iadd, (0, 0, 0, 0, 0)), (.putfield 18, (1, 0, 2, 0, 0)), (.goto (-147), (0, 26, 0, 0, 0)), (.iload_n 1, (0, 0, 0, 0, 0)), (.ifCond .le 7, (0, 184, 0, 0, 0)), (.iconst 1, (0, 0, 0, 1, 0)), (.goto 4, (0, 185, 0, 0, 0)), (.iconst 0, (0, 0, 0, 0, 0)), (.ireturn, (0, 0, 0, 0, 0))]
theorem jc_Rd_takeLanguage : wq_c b_Rd_takeLanguage 4 j_Rd_takeLanguage 0 = true := by decide +kernel
def j_Rd_takeWeight : wq_J := [(.aload_n 0, (0, 0, 0, 0, 0)), (.bipush 61, (0, 0, 0, 61, 0)), (.invokevirtual 41, (0, 0, 0, 0, 0)), (.ifCond .ne 5, (0, 11, 0, 0, 0)), (.iconst (-1), (0, 0, 0, (-1), 0)), (.ireturn, (0, 0, 0, 0, 0)), (.aload_n 0, (0, 0, 0, 0, 0)), (.bipush 49, (0, 0, 0, 49, 0)), (.invokevirtual 41, (0, 0, 0, 0, 0)), (.istore_n 1, (0, 0, 0, 0, 0)), (.iload_n 1, (0, 0, 0, 0, 0)), (.ifCond .ne 14, (0, 33, 0, 0, 0)), (.aload_n 0, (0, 0, 0, 0, 0)), (.bipush 48, (0, 0, 0, 48, 0)), (.invokevirtual 41, (0, 0, 0, 0, 0)), (.ifCond .ne 5, (0, 33, 0, 0, 0)), (.iconst (-1), (0, 0, 0, (-1), 0)), (.ireturn, (0, 0, 0, 0, 0)), (.iload_n 1, (0, 0, 0, 0, 0)), (.ifCond .eq 9, (0, 43, 0, 0, 0)), (.sipush 1000, (0, 0, 0, 1000, 0)), (.goto 4, (0, 44, 0, 0, 0)), (.iconst 0, (0, 0, 0, 0, 0)), (.istore_n 2, (0, 0, 0, 0, 0)), (.aload_n 0, (0, 0, 0, 0, 0)), (.bipush 46, (0, 0, 0, 46, 0)), (.invokevirtual 41, (0, 0, 0, 0, 0)), (.ifCond .ne 5, (0, 56, 0, 0, 0)), (.iload_n 2, (0, 0, 0, 0, 0)), (.ireturn, (0, 0, 0, 0, 0)), (.bipush 100, (0, 0, 0, 100, 0)), (.istore_n 3, (0, 0, 0, 0, 0)), (.iload_n 3, (0, 0, 0, 0, 0)), (.ifCond .le 64, (0, 124, 0, 0, 0)), (.aload_n 0, (0, 0, 0, 0, 0)), (.getfield 18, (1, 0, 2, 0, 0)), (.aload_n 0, (0, 0, 0, 0, 0)), (.getfield 22, (1, 0, 1, 0, 0)), (.if_icmp .ge 53, (0, 124, 0, 0, 0)), (.aload_n 0, (0, 0, 0, 0, 0)), (.getfield 9, (1, 0, 0, 0, 0)), (.aload_n 0, (0, 0, 0, 0, 0)), (.getfield 18, (1, 0, 2, 0, 0)), (.iaload, (2, 0, 0, 0, 0)), (.invokestatic 77, (0, 0, 0, 0, 0)), (.ifCond .eq 38, (0, 124, 0, 0, 0)), (.iload_n 2, (0, 0, 0, 0, 0)), (.iload_n 3, (0, 0, 0, 0, 0)), (.aload_n 0, (0, 0, 0, 0, 0)), (.getfield 9, (1, 0, 0, 0, 0)), (.aload_n 0, (0, 0, 0, 0, 0)), (.getfield 18, (1, 0, 2, 0, 0)), (.iaload, (2, 0, 0, 0, 0)), (.bipush 48, (0, 0, 0, 48, 0)), (.isub, (0, 0, 0, 0, 0)), (.imul, (0, 0, 0, 0, 0)), (.iadd, (0, 0, 0, 0, 0)), (.istore_n 2, (0, 0, 0, 0, 0)), (.aload_n 0, (0, 0, 0, 0, 0)), (.dup, (0, 0, 0, 0, 0)), (.getfield 18, (1, 0, 2, 0, 0)), (.iconst 1, (0, 0, 0, 1, 0)), (.iadd, (0, 0, 0, 0, 0)), (.putfield 18, (1, 0, 2, 0, 0)), (.iload_n 3, (0, 0, 0, 0, 0)), (.bipush 10, (0, 0, 0, 10, 0)), (.idiv, (0, 0, 0, 0, 0)), (.istore_n 3, (0, 0, 0, 0, 0)), (.goto (-62), (0, 59, 0, 0, 0)), (.iload_n 2, (0, 0, 0, 0, 0)), (.sipush 1000, (0, 0, 0, 1000, 0)), (.if_icmp .le 7, (0, 135, 0, 0, 0)), (.iconst (-1), (0, 0, 0, (-1), 0)), (.goto 4, (0, 136, 0, 0, 0)), (.iload_n 2, (0, 0, 0, 0, 0)), (.ireturn, (0, 0, 0, 0, 0))]
theorem jc_Rd_takeWeight : wq_c b_Rd_takeWeight 4 j_Rd_takeWeight 0 = true := by decide +kernel
def j_Rd_takeNumber : wq_J := [(.iconst 0, (0, 0, 0, 0, 0)), (.istore_n 1, (0, 0, 0, 0, 0)), (.iconst 0, (0, 0, 0, 0, 0)), (.istore_n 2, (0, 0, 0, 0, 0)), (.aload_n 0, (0, 0, 0, 0, 0)), (.getfield 18, (1, 0, 2, 0, 0)), (.aload_n 0, (0, 0, 0, 0, 0)), (.getfield 22, (1, 0, 1, 0, 0)), (.if_icmp .ge 62, (0, 74, 0, 0, 0)), (.aload_n 0, (0, 0, 0, 0, 0)), (.getfield 9, (1, 0, 0, 0, 0)), (.aload_n 0, (0, 0, 0, 0, 0)), (.getfield 18, (1, 0, 2, 0, 0)), (.iaload, (2, 0, 0, 0, 0)), (.invokestatic 77, (0, 0, 0, 0, 0)), (.ifCond .eq 47, (0, 74, 0, 0, 0)), (.iload_n 1, (0, 0, 0, 0, 0)), (.bipush 9, (0, 0, 0, 9, 0)), (.if_icmp .ge 23, (0, 56, 0, 0, 0)), (.bipush 10, (0, 0, 0, 10, 0)), (.iload_n 2, (0, 0, 0, 0, 0)), (.imul, (0, 0, 0, 0, 0)), (.aload_n 0, (0, 0, 0, 0, 0)), (.getfield 9, (1, 0, 0, 0, 0)), (.aload_n 0, (0, 0, 0, 0, 0)), (.getfield 18, (1, 0, 2, 0, 0)), (.iaload, (2, 0, 0, 0, 0)), (.iadd, (0, 0, 0, 0, 0)), (.bipush 48, (0, 0, 0, 48, 0)), (.isub, (0, 0, 0, 0, 0)), (.goto 4, (0, 57, 0, 0, 0)), (.iload_n 2, (0, 0, 0, 0, 0)), (.istore_n 2, (0, 0, 0, 0, 0)), (.iinc 1 1, (0, 0, 0, 1, 0)), (.aload_n 0, (0, 0, 0, 0, 0)), (.dup, (0, 0, 0, 0, 0)), (.getfield 18, (1, 0, 2, 0, 0)), (.iconst 1, (0, 0, 0, 1, 0)), (.iadd, (0, 0, 0, 0, 0)), (.putfield 18, (1, 0, 2, 0, 0)), (.goto (-67), (0, 4, 0, 0, 0)), (.iload_n 1, (0, 0, 0, 0, 0)), (.ifCond .ne 5, (0, 80, 0, 0, 0)), (.iconst (-1), (0, 0, 0, (-1), 0)), (.ireturn, (0, 0, 0, 0, 0)), (.iload_n 1, (0, 0, 0, 0, 0)), (.bipush 9, (0, 0, 0, 9, 0)), (.if_icmp .le 8, (0, 91, 0, 0, 0)), (.ldc 80, (1, 0, 0, 999999999, 0)), (.goto 4, (0, 92, 0, 0, 0)), (.iload_n 2, (0, 0, 0, 0, 0)), (.ireturn, (0, 0, 0, 0, 0))]
theorem jc_Rd_takeNumber : wq_c b_Rd_takeNumber 3 j_Rd_takeNumber 0 = true := by decide +kernel
def j_Rd_takeDigits : wq_J := [(.iconst 0, (0, 0, 0, 0, 0)), (.istore_n 2, (0, 0, 0, 0, 0)), (.iconst 0, (0, 0, 0, 0, 0)), (.istore_n 3, (0, 0, 0, 0, 0)), (.iload_n 3, (0, 0, 0, 0, 0)), (.iload_n 1, (0, 0, 0, 0, 0)), (.if_icmp .ge 78, (0, 84, 0, 0, 0)), (.aload_n 0, (0, 0, 0, 0, 0)), (.getfield 18, (1, 0, 2, 0, 0)), (.aload_n 0, (0, 0, 0, 0, 0)), (.getfield 22, (1, 0, 1, 0, 0)), (.if_icmp .ge 31, (0, 48, 0, 0, 0)), (.aload_n 0, (0, 0, 0, 0, 0)), (.getfield 9, (1, 0, 0, 0, 0)), (.aload_n 0, (0, 0, 0, 0, 0)), (.getfield 18, (1, 0, 2, 0, 0)), (.iaload, (2, 0, 0, 0, 0)), (.bipush 48, (0, 0, 0, 48, 0)), (.if_icmp .lt 17, (0, 48, 0, 0, 0)), (.aload_n 0, (0, 0, 0, 0, 0)), (.getfield 9, (1, 0, 0, 0, 0)), (.aload_n 0, (0, 0, 0, 0, 0)), (.getfield 18, (1, 0, 2, 0, 0)), (.iaload, (2, 0, 0, 0, 0)), (.bipush 57, (0, 0, 0, 57, 0)), (.if_icmp .le 5, (0, 50, 0, 0, 0)), (.iconst (-1), (0, 0, 0, (-1), 0)), (.ireturn, (0, 0, 0, 0, 0)), (.bipush 10, (0, 0, 0, 10, 0)), (.iload_n 2, (0, 0, 0, 0, 0)), (.imul, (0, 0, 0, 0, 0)), (.aload_n 0, (0, 0, 0, 0, 0)), (.getfield 9, (1, 0, 0, 0, 0)), (.aload_n 0, (0, 0, 0, 0, 0)), (.getfield 18, (1, 0, 2, 0, 0)), (.iaload, (2, 0, 0, 0, 0)), (.iadd, (0, 0, 0, 0, 0)), (.bipush 48, (0, 0, 0, 48, 0)), (.isub, (0, 0, 0, 0, 0)), (.istore_n 2, (0, 0, 0, 0, 0)), (.aload_n 0, (0, 0, 0, 0, 0)), (.dup, (0, 0, 0, 0, 0)), (.getfield 18, (1, 0, 2, 0, 0)), (.iconst 1, (0, 0, 0, 1, 0)), (.iadd, (0, 0, 0, 0, 0)), (.putfield 18, (1, 0, 2, 0, 0)), (.iinc 3 1, (0, 0, 0, 1, 0)), (.goto (-77), (0, 4, 0, 0, 0)), (.iload_n 2, (0, 0, 0, 0, 0)), (.ireturn, (0, 0, 0, 0, 0))]
theorem jc_Rd_takeDigits : wq_c b_Rd_takeDigits 4 j_Rd_takeDigits 0 = true := by decide +kernel
def j_Rd_takeName : wq_J := [(.aload_n 0, (0, 0, 0, 0, 0)), (.getfield 22, (1, 0, 1, 0, 0)), (.aload_n 0, (0, 0, 0, 0, 0)), (.getfield 18, (1, 0, 2, 0, 0)), (.isub, (0, 0, 0, 0, 0)), (.iconst 3, (0, 0, 0, 3, 0)), (.if_icmp .ge 5, (0, 15, 0, 0, 0)), (.iconst (-1), (0, 0, 0, (-1), 0)), (.ireturn, (0, 0, 0, 0, 0)), (.iconst 0, (0, 0, 0, 0, 0)), (.istore_n 2, (0, 0, 0, 0, 0)), (.iload_n 2, (0, 0, 0, 0, 0)), (.iconst 2, (0, 0, 0, 2, 0)), (.iadd, (0, 0, 0, 0, 0)), (.aload_n 1, (0, 0, 0, 0, 0)), (.invokevirtual 45, (0, 0, 0, 0, 0)), (.if_icmp .ge 92, (0, 116, 0, 0, 0)), (.aload_n 0, (0, 0, 0, 0, 0)), (.getfield 9, (1, 0, 0, 0, 0)), (.aload_n 0, (0, 0, 0, 0, 0)), (.getfield 18, (1, 0, 2, 0, 0)), (.iaload, (2, 0, 0, 0, 0)), (.aload_n 1, (0, 0, 0, 0, 0)), (.iload_n 2, (0, 0, 0, 0, 0)), (.invokevirtual 51, (0, 0, 0, 0, 0)), (.if_icmp .ne 28, (0, 69, 0, 0, 0)), (.aload_n 0, (0, 0, 0, 0, 0)), (.getfield 9, (1, 0, 0, 0, 0)), (.aload_n 0, (0, 0, 0, 0, 0)), (.getfield 18, (1, 0, 2, 0, 0)), (.iconst 1, (0, 0, 0, 1, 0)), (.iadd, (0, 0, 0, 0, 0)), (.iaload, (2, 0, 0, 0, 0)), (.aload_n 1, (0, 0, 0, 0, 0)), (.iload_n 2, (0, 0, 0, 0, 0)), (.iconst 1, (0, 0, 0, 1, 0)), (.iadd, (0, 0, 0, 0, 0)), (.invokevirtual 51, (0, 0, 0, 0, 0)), (.if_icmp .ne 7, (0, 69, 0, 0, 0)), (.iconst 1, (0, 0, 0, 1, 0)), (.goto 4, (0, 70, 0, 0, 0)), (.iconst 0, (0, 0, 0, 0, 0)), (.istore_n 3, (0, 0, 0, 0, 0)), (.iload_n 3, (0, 0, 0, 0, 0)), (.ifCond .eq 38, (0, 110, 0, 0, 0)), (.aload_n 0, (0, 0, 0, 0, 0)), (.getfield 9, (1, 0, 0, 0, 0)), (.aload_n 0, (0, 0, 0, 0, 0)), (.getfield 18, (1, 0, 2, 0, 0)), (.iconst 2, (0, 0, 0, 2, 0)), (.iadd, (0, 0, 0, 0, 0)), (.iaload, (2, 0, 0, 0, 0)), (.aload_n 1, (0, 0, 0, 0, 0)), (.iload_n 2, (0, 0, 0, 0, 0)), (.iconst 2, (0, 0, 0, 2, 0)), (.iadd, (0, 0, 0, 0, 0)), (.invokevirtual 51, (0, 0, 0, 0, 0)), (.if_icmp .ne 17, (0, 110, 0, 0, 0)), (.aload_n 0, (0, 0, 0, 0, 0)), (.dup, (0, 0, 0, 0, 0)), (.getfield 18, (1, 0, 2, 0, 0)), (.iconst 3, (0, 0, 0, 3, 0)), (.iadd, (0, 0, 0, 0, 0)), (.putfield 18, (1, 0, 2, 0, 0)), (.iload_n 2, (0, 0, 0, 0, 0)), (.iconst 3, (0, 0, 0, 3, 0)), (.idiv, (0, 0, 0, 0, 0)), (.ireturn, (0, 0, 0, 0, 0)), (.iinc 2 3, (0, 0, 0, 3, 0)), (.goto (-96), (0, 17, 0, 0, 0)), (.iconst (-1), (0, 0, 0, (-1), 0)), (.ireturn, (0, 0, 0, 0, 0))]
theorem jc_Rd_takeName : wq_c b_Rd_takeName 4 j_Rd_takeName 0 = true := by decide +kernel
def j_Rd_saidSize : wq_J := [(.aload_n 0, (0, 0, 0, 0, 0)), (.getfield 59, (1, 0, 4, 0, 0)), (.ireturn, (0, 0, 0, 0, 0))]
theorem jc_Rd_saidSize : wq_c b_Rd_saidSize 1 j_Rd_saidSize 0 = true := by decide +kernel
def j_Rd_isSaid : wq_J := [(.aload_n 0, (0, 0, 0, 0, 0)), (.getfield 59, (1, 0, 4, 0, 0)), (.aload_n 1, (0, 0, 0, 0, 0)), (.invokevirtual 45, (0, 0, 0, 0, 0)), (.if_icmp .eq 5, (0, 13, 0, 0, 0)), (.iconst 0, (0, 0, 0, 0, 0)), (.ireturn, (0, 0, 0, 0, 0)), (.iconst 0, (0, 0, 0, 0, 0)), (.istore_n 2, (0, 0, 0, 0, 0)), (.iload_n 2, (0, 0, 0, 0, 0)), (.aload_n 0, (0, 0, 0, 0, 0)), (.getfield 59, (1, 0, 4, 0, 0)), (.if_icmp .ge 25, (0, 45, 0, 0, 0)), (.aload_n 0, (0, 0, 0, 0, 0)), (.getfield 15, (1, 0, 3, 0, 0)), (.iload_n 2, (0, 0, 0, 0, 0)), (.iaload, (1, 1, 0, 0, 0)), (.aload_n 1, (0, 0, 0, 0, 0)), (.iload_n 2, (0, 0, 0, 0, 0)), (.invokevirtual 51, (0, 0, 0, 0, 0)), (.if_icmp .eq 5, (0, 39, 0, 0, 0)), (.iconst 0, (0, 0, 0, 0, 0)), (.ireturn, (0, 0, 0, 0, 0)), (.iinc 2 1, (0, 0, 0, 1, 0)), (.goto (-27), (0, 15, 0, 0, 0)), (.iconst 1, (0, 0, 0, 1, 0)), (.ireturn, (0, 0, 0, 0, 0))]
theorem jc_Rd_isSaid : wq_c b_Rd_isSaid 3 j_Rd_isSaid 0 = true := by decide +kernel
def j_Rd_isSaidAlike : wq_J := [(.aload_n 0, (0, 0, 0, 0, 0)), (.getfield 59, (1, 0, 4, 0, 0)), (.aload_n 1, (0, 0, 0, 0, 0)), (.invokevirtual 45, (0, 0, 0, 0, 0)), (.if_icmp .eq 5, (0, 13, 0, 0, 0)), (.iconst 0, (0, 0, 0, 0, 0)), (.ireturn, (0, 0, 0, 0, 0)), (.iconst 0, (0, 0, 0, 0, 0)), (.istore_n 2, (0, 0, 0, 0, 0)), (.iload_n 2, (0, 0, 0, 0, 0)), (.aload_n 0, (0, 0, 0, 0, 0)), (.getfield 59, (1, 0, 4, 0, 0)), (.if_icmp .ge 31, (0, 51, 0, 0, 0)), (.aload_n 0, (0, 0, 0, 0, 0)), (.getfield 15, (1, 0, 3, 0, 0)), (.iload_n 2, (0, 0, 0, 0, 0)), (.iaload, (1, 1, 0, 0, 0)), (.invokestatic 55, (0, 0, 0, 0, 0)), (.aload_n 1, (0, 0, 0, 0, 0)), (.iload_n 2, (0, 0, 0, 0, 0)), (.invokevirtual 51, (0, 0, 0, 0, 0)), (.invokestatic 55, (0, 0, 0, 0, 0)), (.if_icmp .eq 5, (0, 45, 0, 0, 0)), (.iconst 0, (0, 0, 0, 0, 0)), (.ireturn, (0, 0, 0, 0, 0)), (.iinc 2 1, (0, 0, 0, 1, 0)), (.goto (-33), (0, 15, 0, 0, 0)), (.iconst 1, (0, 0, 0, 1, 0)), (.ireturn, (0, 0, 0, 0, 0))]
theorem jc_Rd_isSaidAlike : wq_c b_Rd_isSaidAlike 3 j_Rd_isSaidAlike 0 = true := by decide +kernel
def j_Rd_saysStar : wq_J := [(.iconst 0, (0, 0, 0, 0, 0)), (.istore_n 1, (0, 0, 0, 0, 0)), (.iload_n 1, (0, 0, 0, 0, 0)), (.aload_n 0, (0, 0, 0, 0, 0)), (.getfield 59, (1, 0, 4, 0, 0)), (.if_icmp .ge 22, (0, 29, 0, 0, 0)), (.aload_n 0, (0, 0, 0, 0, 0)), (.getfield 15, (1, 0, 3, 0, 0)), (.iload_n 1, (0, 0, 0, 0, 0)), (.iaload, (1, 1, 0, 0, 0)), (.bipush 42, (0, 0, 0, 42, 0)), (.if_icmp .ne 5, (0, 23, 0, 0, 0)), (.iconst 1, (0, 0, 0, 1, 0)), (.ireturn, (0, 0, 0, 0, 0)), (.iinc 1 1, (0, 0, 0, 1, 0)), (.goto (-24), (0, 2, 0, 0, 0)), (.iconst 0, (0, 0, 0, 0, 0)), (.ireturn, (0, 0, 0, 0, 0))]
theorem jc_Rd_saysStar : wq_c b_Rd_saysStar 2 j_Rd_saysStar 0 = true := by decide +kernel
def j_Rd_say : wq_J := [(.aload_n 0, (0, 0, 0, 0, 0)), (.getfield 59, (1, 0, 4, 0, 0)), (.bipush 96, (0, 0, 0, 96, 0)), (.if_icmp .ge 23, (0, 29, 0, 0, 0)), (.aload_n 0, (0, 0, 0, 0, 0)), (.getfield 15, (1, 0, 3, 0, 0)), (.aload_n 0, (0, 0, 0, 0, 0)), (.getfield 59, (1, 0, 4, 0, 0)), (.iload_n 1, (0, 0, 0, 0, 0)), (.iastore, (1, 1, 0, 0, 0)), (.aload_n 0, (0, 0, 0, 0, 0)), (.dup, (0, 0, 0, 0, 0)), (.getfield 59, (1, 0, 4, 0, 0)), (.iconst 1, (0, 0, 0, 1, 0)), (.iadd, (0, 0, 0, 0, 0)), (.putfield 59, (1, 0, 4, 0, 0)), (.return_, (0, 0, 0, 0, 0))]
theorem jc_Rd_say : wq_c b_Rd_say 2 j_Rd_say 0 = true := by decide +kernel
def j_Rd_isDigit : wq_J := [(.iload_n 0, (0, 0, 0, 0, 0)), (.bipush 48, (0, 0, 0, 48, 0)), (.if_icmp .lt 13, (0, 16, 0, 0, 0)), (.iload_n 0, (0, 0, 0, 0, 0)), (.bipush 57, (0, 0, 0, 57, 0)), (.if_icmp .gt 7, (0, 16, 0, 0, 0)), (.iconst 1, (0, 0, 0, 1, 0)), (.goto 4, (0, 17, 0, 0, 0)), (.iconst 0, (0, 0, 0, 0, 0)), (.ireturn, (0, 0, 0, 0, 0))]
theorem jc_Rd_isDigit : wq_c b_Rd_isDigit 1 j_Rd_isDigit 0 = true := by decide +kernel
def j_Rd_isLetter : wq_J := [(.iload_n 0, (0, 0, 0, 0, 0)), (.bipush 32, (0, 0, 0, 32, 0)), (.ior, (0, 0, 0, 0, 0)), (.istore_n 1, (0, 0, 0, 0, 0)), (.iload_n 1, (0, 0, 0, 0, 0)), (.bipush 97, (0, 0, 0, 97, 0)), (.if_icmp .lt 13, (0, 21, 0, 0, 0)), (.iload_n 1, (0, 0, 0, 0, 0)), (.bipush 122, (0, 0, 0, 122, 0)), (.if_icmp .gt 7, (0, 21, 0, 0, 0)), (.iconst 1, (0, 0, 0, 1, 0)), (.goto 4, (0, 22, 0, 0, 0)), (.iconst 0, (0, 0, 0, 0, 0)), (.ireturn, (0, 0, 0, 0, 0))]
theorem jc_Rd_isLetter : wq_c b_Rd_isLetter 2 j_Rd_isLetter 0 = true := by decide +kernel
def j_Rd_lower : wq_J := [(.iload_n 0, (0, 0, 0, 0, 0)), (.bipush 65, (0, 0, 0, 65, 0)), (.if_icmp .lt 16, (0, 19, 0, 0, 0)), (.iload_n 0, (0, 0, 0, 0, 0)), (.bipush 90, (0, 0, 0, 90, 0)), (.if_icmp .gt 10, (0, 19, 0, 0, 0)), (.iload_n 0, (0, 0, 0, 0, 0)), (.bipush 32, (0, 0, 0, 32, 0)), (.iadd, (0, 0, 0, 0, 0)), (.goto 4, (0, 20, 0, 0, 0)), (.iload_n 0, (0, 0, 0, 0, 0)), (.ireturn, (0, 0, 0, 0, 0))]
theorem jc_Rd_lower : wq_c b_Rd_lower 1 j_Rd_lower 0 = true := by decide +kernel
def j_Rd_isQuotable : wq_J := [(.iload_n 0, (0, 0, 0, 0, 0)), (.bipush 9, (0, 0, 0, 9, 0)), (.if_icmp .eq 15, (0, 18, 0, 0, 0)), (.iload_n 0, (0, 0, 0, 0, 0)), (.bipush 32, (0, 0, 0, 32, 0)), (.if_icmp .lt 13, (0, 22, 0, 0, 0)), (.iload_n 0, (0, 0, 0, 0, 0)), (.bipush 127, (0, 0, 0, 127, 0)), (.if_icmp .eq 7, (0, 22, 0, 0, 0)), (.iconst 1, (0, 0, 0, 1, 0)), (.goto 4, (0, 23, 0, 0, 0)), (.iconst 0, (0, 0, 0, 0, 0)), (.ireturn, (0, 0, 0, 0, 0))]
theorem jc_Rd_isQuotable : wq_c b_Rd_isQuotable 1 j_Rd_isQuotable 0 = true := by decide +kernel
def j_Rp_init : wq_J := [(.aload_n 0, (0, 0, 0, 0, 0)), (.invokespecial 1, (0, 0, 0, 0, 0)), (.aload_n 0, (0, 0, 0, 0, 0)), (.iload_n 1, (0, 0, 0, 0, 0)), (.putfield 7, (3, 0, 0, 0, 0)), (.aload_n 0, (0, 0, 0, 0, 0)), (.aload_n 2, (0, 0, 0, 0, 0)), (.putfield 13, (3, 0, 1, 0, 0)), (.aload_n 0, (0, 0, 0, 0, 0)), (.aload_n 3, (0, 0, 0, 0, 0)), (.putfield 17, (3, 0, 2, 0, 0)), (.aload_n 0, (0, 0, 0, 0, 0)), (.iload 4, (0, 0, 0, 0, 0)), (.putfield 21, (3, 0, 3, 0, 0)), (.aload_n 0, (0, 0, 0, 0, 0)), (.new 24, (0, 0, 0, 0, 0)), (.dup, (0, 0, 0, 0, 0)), (.invokespecial 26, (0, 0, 0, 0, 0)), (.bipush 118, (0, 0, 0, 118, 0)), (.invokevirtual 27, (0, 0, 0, 0, 0)), (.iload 5, (0, 0, 0, 0, 0)), (.invokevirtual 31, (0, 0, 0, 0, 0)), (.invokevirtual 34, (0, 0, 0, 0, 0)), (.putfield 38, (3, 0, 4, 0, 0)), (.aload_n 0, (0, 0, 0, 0, 0)), (.iload 6, (0, 0, 0, 0, 0)), (.putfield 42, (3, 0, 5, 0, 0)), (.aload_n 0, (0, 0, 0, 0, 0)), (.lload 7, (0, 0, 0, 0, 0)), (.putfield 46, (3, 0, 6, 0, 0)), (.return_, (0, 0, 0, 0, 0))]
theorem jc_Rp_init : wq_c b_Rp_init 9 j_Rp_init 0 = true := by decide +kernel
def j_Rp_byteAt : wq_J := [(.bipush 7, (0, 0, 0, 7, 0)), (.iload_n 1, (0, 0, 0, 0, 0)), (.imul, (0, 0, 0, 0, 0)), (.bipush 13, (0, 0, 0, 13, 0)), (.aload_n 0, (0, 0, 0, 0, 0)), (.getfield 7, (1, 0, 0, 0, 0)), (.imul, (0, 0, 0, 0, 0)), (.iadd, (0, 0, 0, 0, 0)), (.iconst 1, (0, 0, 0, 1, 0)), (.iadd, (0, 0, 0, 0, 0)), (.sipush 251, (0, 0, 0, 251, 0)), (.irem, (0, 0, 0, 0, 0)), (.ireturn, (0, 0, 0, 0, 0))]
theorem jc_Rp_byteAt : wq_c b_Rp_byteAt 2 j_Rp_byteAt 0 = true := by decide +kernel
def j_Rq_init : wq_J := [(.aload_n 0, (0, 0, 0, 0, 0)), (.invokespecial 3, (0, 0, 0, 0, 0)), (.aload_n 0, (0, 0, 0, 0, 0)), (.iconst 0, (0, 0, 0, 0, 0)), (.putfield 9, (1, 0, 0, 0, 0)), (.aload_n 0, (0, 0, 0, 0, 0)), (.bipush 8, (0, 0, 0, 8, 0)), (.bipush 96, (0, 0, 0, 96, 0)), (.multianewarray 15 2, (0, 0, 0, 0, 0)), (.putfield 17, (3, 0, 1, 0, 0)), (.aload_n 0, (0, 0, 0, 0, 0)), (.bipush 8, (0, 0, 0, 8, 0)), (.newarray .int, (0, 0, 0, 0, 0)), (.putfield 20, (3, 0, 2, 0, 0)), (.return_, (0, 0, 0, 0, 0))]
theorem jc_Rq_init : wq_c b_Rq_init 1 j_Rq_init 0 = true := by decide +kernel
def j_Rq_restart : wq_J := [(.aload_n 0, (0, 0, 0, 0, 0)), (.iload_n 1, (0, 0, 0, 0, 0)), (.putfield 9, (1, 0, 0, 0, 0)), (.iconst 0, (0, 0, 0, 0, 0)), (.istore_n 2, (0, 0, 0, 0, 0)), (.iload_n 2, (0, 0, 0, 0, 0)), (.bipush 8, (0, 0, 0, 8, 0)), (.if_icmp .ge 16, (0, 26, 0, 0, 0)), (.aload_n 0, (0, 0, 0, 0, 0)), (.getfield 20, (1, 0, 2, 0, 0)), (.iload_n 2, (0, 0, 0, 0, 0)), (.iconst 0, (0, 0, 0, 0, 0)), (.iastore, (1, 1, 0, 0, 0)), (.iinc 2 1, (0, 0, 0, 1, 0)), (.goto (-16), (0, 7, 0, 0, 0)), (.return_, (0, 0, 0, 0, 0))]
theorem jc_Rq_restart : wq_c b_Rq_restart 3 j_Rq_restart 0 = true := by decide +kernel
def j_Rq_has : wq_J := [(.iload_n 1, (0, 0, 0, 0, 0)), (.ifCond .lt 22, (0, 23, 0, 0, 0)), (.iload_n 1, (0, 0, 0, 0, 0)), (.bipush 8, (0, 0, 0, 8, 0)), (.if_icmp .ge 16, (0, 23, 0, 0, 0)), (.aload_n 0, (0, 0, 0, 0, 0)), (.getfield 20, (1, 0, 2, 0, 0)), (.iload_n 1, (0, 0, 0, 0, 0)), (.iaload, (1, 1, 0, 0, 0)), (.ifCond .le 7, (0, 23, 0, 0, 0)), (.iconst 1, (0, 0, 0, 1, 0)), (.goto 4, (0, 24, 0, 0, 0)), (.iconst 0, (0, 0, 0, 0, 0)), (.ireturn, (0, 0, 0, 0, 0))]
theorem jc_Rq_has : wq_c b_Rq_has 2 j_Rq_has 0 = true := by decide +kernel
def j_Rq_append : wq_J := [(.iload_n 1, (0, 0, 0, 0, 0)), (.ifCond .lt 9, (0, 10, 0, 0, 0)), (.iload_n 1, (0, 0, 0, 0, 0)), (.bipush 8, (0, 0, 0, 8, 0)), (.if_icmp .lt 5, (0, 12, 0, 0, 0)), (.iconst (-1), (0, 0, 0, (-1), 0)), (.ireturn, (0, 0, 0, 0, 0)), (.lload_n 2, (0, 0, 0, 0, 0)), (.invokestatic 24, (0, 0, 0, 0, 0)), (.istore 4, (0, 0, 0, 0, 0)), (.aload_n 0, (0, 0, 0, 0, 0)), (.getfield 20, (1, 0, 2, 0, 0)), (.iload_n 1, (0, 0, 0, 0, 0)), (.iaload, (1, 1, 0, 0, 0)), (.istore 5, (0, 0, 0, 0, 0)), (.iload 5, (0, 0, 0, 0, 0)), (.iload 4, (0, 0, 0, 0, 0)), (.iadd, (0, 0, 0, 0, 0)), (.bipush 96, (0, 0, 0, 96, 0)), (.if_icmp .le 5, (0, 38, 0, 0, 0)), (.iconst (-1), (0, 0, 0, (-1), 0)), (.ireturn, (0, 0, 0, 0, 0)), (.iconst 0, (0, 0, 0, 0, 0)), (.istore 6, (0, 0, 0, 0, 0)), (.iload 6, (0, 0, 0, 0, 0)), (.iload 4, (0, 0, 0, 0, 0)), (.if_icmp .ge 27, (0, 72, 0, 0, 0)), (.aload_n 0, (0, 0, 0, 0, 0)), (.getfield 17, (1, 0, 1, 0, 0)), (.iload_n 1, (0, 0, 0, 0, 0)), (.aaload, (0, 0, 0, 0, 0)), (.iload 5, (0, 0, 0, 0, 0)), (.iload 6, (0, 0, 0, 0, 0)), (.iadd, (0, 0, 0, 0, 0)), (.lload_n 2, (0, 0, 0, 0, 0)), (.iload 6, (0, 0, 0, 0, 0)), (.invokestatic 28, (0, 0, 0, 0, 0)), (.iastore, (0, 0, 0, 0, 0)), (.iinc 6 1, (0, 0, 0, 1, 0)), (.goto (-28), (0, 41, 0, 0, 0)), (.aload_n 0, (0, 0, 0, 0, 0)), (.getfield 20, (1, 0, 2, 0, 0)), (.iload_n 1, (0, 0, 0, 0, 0)), (.iload 5, (0, 0, 0, 0, 0)), (.iload 4, (0, 0, 0, 0, 0)), (.iadd, (0, 0, 0, 0, 0)), (.iastore, (1, 1, 0, 0, 0)), (.iload 5, (0, 0, 0, 0, 0)), (.iload 4, (0, 0, 0, 0, 0)), (.iadd, (0, 0, 0, 0, 0)), (.ireturn, (0, 0, 0, 0, 0))]
theorem jc_Rq_append : wq_c b_Rq_append 7 j_Rq_append 0 = true := by decide +kernel
def j_Rq_countOf : wq_J := [(.iconst 0, (0, 0, 0, 0, 0)), (.istore_n 2, (0, 0, 0, 0, 0)), (.iload_n 2, (0, 0, 0, 0, 0)), (.bipush 8, (0, 0, 0, 8, 0)), (.if_icmp .ge 17, (0, 22, 0, 0, 0)), (.lload_n 0, (0, 0, 0, 0, 0)), (.iload_n 2, (0, 0, 0, 0, 0)), (.invokestatic 28, (0, 0, 0, 0, 0)), (.ifCond .eq 9, (0, 22, 0, 0, 0)), (.iinc 2 1, (0, 0, 0, 1, 0)), (.goto (-17), (0, 2, 0, 0, 0)), (.iload_n 2, (0, 0, 0, 0, 0)), (.ireturn, (0, 0, 0, 0, 0))]
theorem jc_Rq_countOf : wq_c b_Rq_countOf 3 j_Rq_countOf 0 = true := by decide +kernel
def j_Rq_characterOf : wq_J := [(.lload_n 0, (0, 0, 0, 0, 0)), (.bipush 8, (0, 0, 0, 8, 0)), (.iload_n 2, (0, 0, 0, 0, 0)), (.imul, (0, 0, 0, 0, 0)), (.lushr, (0, 0, 0, 0, 0)), (.l2i, (0, 0, 0, 0, 0)), (.sipush 255, (0, 0, 0, 255, 0)), (.iand, (0, 0, 0, 0, 0)), (.ireturn, (0, 0, 0, 0, 0))]
theorem jc_Rq_characterOf : wq_c b_Rq_characterOf 3 j_Rq_characterOf 0 = true := by decide +kernel
def j_Rs_init : wq_J := [(.aload_n 0, (0, 0, 0, 0, 0)), (.invokespecial 3, (0, 0, 0, 0, 0)), (.aload_n 0, (0, 0, 0, 0, 0)), (.iconst (-1), (0, 0, 0, (-1), 0)), (.putfield 9, (1, 0, 0, 0, 0)), (.aload_n 0, (0, 0, 0, 0, 0)), (.iconst 4, (0, 0, 0, 4, 0)), (.newarray .int, (0, 0, 0, 0, 0)), (.putfield 15, (3, 0, 4, 0, 0)), (.aload_n 0, (0, 0, 0, 0, 0)), (.iconst 4, (0, 0, 0, 4, 0)), (.newarray .int, (0, 0, 0, 0, 0)), (.putfield 19, (3, 0, 5, 0, 0)), (.aload_n 0, (0, 0, 0, 0, 0)), (.new 22, (0, 0, 0, 0, 0)), (.dup, (0, 0, 0, 0, 0)), (.invokespecial 24, (0, 0, 0, 0, 0)), (.putfield 25, (3, 0, 7, 0, 0)), (.return_, (0, 0, 0, 0, 0))]
theorem jc_Rs_init : wq_c b_Rs_init 1 j_Rs_init 0 = true := by decide +kernel
def j_Rs_settle : wq_J := [(.aload_n 0, (0, 0, 0, 0, 0)), (.iload_n 1, (0, 0, 0, 0, 0)), (.putfield 9, (1, 0, 0, 0, 0)), (.aload_n 0, (0, 0, 0, 0, 0)), (.aload_n 2, (0, 0, 0, 0, 0)), (.putfield 29, (1, 0, 1, 0, 0)), (.aload_n 0, (0, 0, 0, 0, 0)), (.iload_n 3, (0, 0, 0, 0, 0)), (.putfield 33, (1, 0, 6, 0, 0)), (.aload_n 0, (0, 0, 0, 0, 0)), (.aload_n 0, (0, 0, 0, 0, 0)), (.getfield 9, (1, 0, 0, 0, 0)), (.sipush 206, (0, 0, 0, 206, 0)), (.if_icmp .ne 11, (0, 34, 0, 0, 0)), (.aload 4, (0, 0, 0, 0, 0)), (.getfield 37, (2, 0, 0, 0, 0)), (.goto 4, (0, 35, 0, 0, 0)), (.iconst 0, (0, 0, 0, 0, 0)), (.putfield 42, (1, 0, 3, 0, 0)), (.iconst 0, (0, 0, 0, 0, 0)), (.istore 5, (0, 0, 0, 0, 0)), (.iload 5, (0, 0, 0, 0, 0)), (.aload_n 0, (0, 0, 0, 0, 0)), (.getfield 42, (1, 0, 3, 0, 0)), (.if_icmp .ge 45, (0, 92, 0, 0, 0)), (.iload 5, (0, 0, 0, 0, 0)), (.iconst 4, (0, 0, 0, 4, 0)), (.if_icmp .ge 39, (0, 92, 0, 0, 0)), (.aload_n 0, (0, 0, 0, 0, 0)), (.getfield 15, (1, 0, 4, 0, 0)), (.iload 5, (0, 0, 0, 0, 0)), (.aload 4, (0, 0, 0, 0, 0)), (.getfield 45, (2, 0, 0, 0, 0)), (.iload 5, (0, 0, 0, 0, 0)), (.iaload, (2, 0, 0, 0, 0)), (.iastore, (1, 1, 0, 0, 0)), (.aload_n 0, (0, 0, 0, 0, 0)), (.getfield 19, (1, 0, 5, 0, 0)), (.iload 5, (0, 0, 0, 0, 0)), (.aload 4, (0, 0, 0, 0, 0)), (.getfield 46, (2, 0, 0, 0, 0)), (.iload 5, (0, 0, 0, 0, 0)), (.iaload, (2, 0, 0, 0, 0)), (.iastore, (1, 2, 0, 0, 0)), (.iinc 5 1, (0, 0, 0, 1, 0)), (.goto (-48), (0, 41, 0, 0, 0)), (.aload_n 0, (0, 0, 0, 0, 0)), (.aload_n 0, (0, 0, 0, 0, 0)), (.invokevirtual 47, (0, 0, 0, 0, 0)), (.putfield 51, (1, 0, 2, 0, 0)), (.return_, (0, 0, 0, 0, 0))]
theorem jc_Rs_settle : wq_c b_Rs_settle 6 j_Rs_settle 0 = true := by decide +kernel
def j_Rs_hasPart : wq_J := [(.iload_n 1, (0, 0, 0, 0, 0)), (.ifCond .lt 20, (0, 21, 0, 0, 0)), (.iload_n 1, (0, 0, 0, 0, 0)), (.aload_n 0, (0, 0, 0, 0, 0)), (.getfield 42, (1, 0, 3, 0, 0)), (.if_icmp .ge 12, (0, 21, 0, 0, 0)), (.iload_n 1, (0, 0, 0, 0, 0)), (.iconst 4, (0, 0, 0, 4, 0)), (.if_icmp .ge 7, (0, 21, 0, 0, 0)), (.iconst 1, (0, 0, 0, 1, 0)), (.goto 4, (0, 22, 0, 0, 0)), (.iconst 0, (0, 0, 0, 0, 0)), (.ireturn, (0, 0, 0, 0, 0))]
theorem jc_Rs_hasPart : wq_c b_Rs_hasPart 2 j_Rs_hasPart 0 = true := by decide +kernel
def j_Rs_byteAt : wq_J := [(.aload_n 0, (0, 0, 0, 0, 0)), (.getfield 29, (1, 0, 1, 0, 0)), (.ifnull 22, (0, 26, 0, 0, 0)), (.aload_n 0, (0, 0, 0, 0, 0)), (.getfield 33, (1, 0, 6, 0, 0)), (.ifCond .ne 15, (0, 26, 0, 0, 0)), (.iload_n 1, (0, 0, 0, 0, 0)), (.ifCond .lt 11, (0, 26, 0, 0, 0)), (.iload_n 1, (0, 0, 0, 0, 0)), (.aload_n 0, (0, 0, 0, 0, 0)), (.getfield 51, (1, 0, 2, 0, 0)), (.if_icmp .lt 5, (0, 28, 0, 0, 0)), (.iconst (-1), (0, 0, 0, (-1), 0)), (.ireturn, (0, 0, 0, 0, 0)), (.aload_n 0, (0, 0, 0, 0, 0)), (.getfield 42, (1, 0, 3, 0, 0)), (.ifCond .ne 12, (0, 44, 0, 0, 0)), (.aload_n 0, (0, 0, 0, 0, 0)), (.getfield 29, (1, 0, 1, 0, 0)), (.iload_n 1, (0, 0, 0, 0, 0)), (.invokevirtual 54, (0, 0, 0, 0, 0)), (.ireturn, (0, 0, 0, 0, 0)), (.aload_n 0, (0, 0, 0, 0, 0)), (.getfield 42, (1, 0, 3, 0, 0)), (.iconst 1, (0, 0, 0, 1, 0)), (.if_icmp .ne 21, (0, 70, 0, 0, 0)), (.aload_n 0, (0, 0, 0, 0, 0)), (.getfield 29, (1, 0, 1, 0, 0)), (.aload_n 0, (0, 0, 0, 0, 0)), (.getfield 15, (1, 0, 4, 0, 0)), (.iconst 0, (0, 0, 0, 0, 0)), (.iaload, (1, 1, 0, 0, 0)), (.iload_n 1, (0, 0, 0, 0, 0)), (.iadd, (0, 0, 0, 0, 0)), (.invokevirtual 54, (0, 0, 0, 0, 0)), (.goto 12, (0, 79, 0, 0, 0)), (.aload_n 0, (0, 0, 0, 0, 0)), (.aload_n 0, (0, 0, 0, 0, 0)), (.getfield 29, (1, 0, 1, 0, 0)), (.iload_n 1, (0, 0, 0, 0, 0)), (.invokevirtual 60, (0, 0, 0, 0, 0)), (.ireturn, (0, 0, 0, 0, 0))]
theorem jc_Rs_byteAt : wq_c b_Rs_byteAt 2 j_Rs_byteAt 0 = true := by decide +kernel
def j_Rs_measure : wq_J := [(.aload_n 0, (0, 0, 0, 0, 0)), (.getfield 9, (1, 0, 0, 0, 0)), (.sipush 200, (0, 0, 0, 200, 0)), (.if_icmp .ne 18, (0, 25, 0, 0, 0)), (.aload_n 0, (0, 0, 0, 0, 0)), (.getfield 29, (1, 0, 1, 0, 0)), (.ifnull 11, (0, 25, 0, 0, 0)), (.aload_n 0, (0, 0, 0, 0, 0)), (.getfield 29, (1, 0, 1, 0, 0)), (.getfield 64, (2, 0, 0, 0, 0)), (.ireturn, (0, 0, 0, 0, 0)), (.aload_n 0, (0, 0, 0, 0, 0)), (.getfield 42, (1, 0, 3, 0, 0)), (.iconst 2, (0, 0, 0, 2, 0)), (.if_icmp .lt 10, (0, 40, 0, 0, 0)), (.aload_n 0, (0, 0, 0, 0, 0)), (.getfield 29, (1, 0, 1, 0, 0)), (.ifnonnull 20, (0, 57, 0, 0, 0)), (.aload_n 0, (0, 0, 0, 0, 0)), (.getfield 42, (1, 0, 3, 0, 0)), (.ifCond .ne 7, (0, 51, 0, 0, 0)), (.iconst 0, (0, 0, 0, 0, 0)), (.goto 8, (0, 56, 0, 0, 0)), (.aload_n 0, (0, 0, 0, 0, 0)), (.iconst 0, (0, 0, 0, 0, 0)), (.invokevirtual 67, (0, 0, 0, 0, 0)), (.ireturn, (0, 0, 0, 0, 0)), (.ldc 70, (2, 0, 0, 0, 0)), (.invokevirtual 72, (0, 0, 0, 0, 0)), (.istore_n 1, (0, 0, 0, 0, 0)), (.iconst 0, (0, 0, 0, 0, 0)), (.istore_n 2, (0, 0, 0, 0, 0)), (.iload_n 2, (0, 0, 0, 0, 0)), (.aload_n 0, (0, 0, 0, 0, 0)), (.getfield 42, (1, 0, 3, 0, 0)), (.if_icmp .ge 43, (0, 113, 0, 0, 0)), (.aload_n 0, (0, 0, 0, 0, 0)), (.iload_n 2, (0, 0, 0, 0, 0)), (.aload_n 0, (0, 0, 0, 0, 0)), (.getfield 29, (1, 0, 1, 0, 0)), (.getfield 64, (2, 0, 0, 0, 0)), (.invokevirtual 77, (0, 0, 0, 0, 0)), (.iload_n 1, (0, 0, 0, 0, 0)), (.aload_n 0, (0, 0, 0, 0, 0)), (.getfield 25, (1, 0, 7, 0, 0)), (.invokevirtual 81, (0, 0, 0, 0, 0)), (.aload_n 0, (0, 0, 0, 0, 0)), (.iload_n 2, (0, 0, 0, 0, 0)), (.invokevirtual 67, (0, 0, 0, 0, 0)), (.iadd, (0, 0, 0, 0, 0)), (.ldc 82, (2, 0, 0, 0, 0)), (.invokevirtual 72, (0, 0, 0, 0, 0)), (.iadd, (0, 0, 0, 0, 0)), (.iadd, (0, 0, 0, 0, 0)), (.istore_n 1, (0, 0, 0, 0, 0)), (.iinc 2 1, (0, 0, 0, 1, 0)), (.goto (-45), (0, 65, 0, 0, 0)), (.iload_n 1, (0, 0, 0, 0, 0)), (.ireturn, (0, 0, 0, 0, 0))]
theorem jc_Rs_measure : wq_c b_Rs_measure 3 j_Rs_measure 0 = true := by decide +kernel
def j_Rs_byteAmongParts : wq_J := [(.iload_n 2, (0, 0, 0, 0, 0)), (.istore_n 3, (0, 0, 0, 0, 0)), (.iconst 0, (0, 0, 0, 0, 0)), (.istore 4, (0, 0, 0, 0, 0)), (.iload 4, (0, 0, 0, 0, 0)), (.aload_n 0, (0, 0, 0, 0, 0)), (.getfield 42, (1, 0, 3, 0, 0)), (.if_icmp .ge 106, (0, 117, 0, 0, 0)), (.aload_n 0, (0, 0, 0, 0, 0)), (.iload 4, (0, 0, 0, 0, 0)), (.aload_n 1, (0, 0, 0, 0, 0)), (.getfield 64, (2, 0, 0, 0, 0)), (.invokevirtual 77, (0, 0, 0, 0, 0)), (.iload_n 3, (0, 0, 0, 0, 0)), (.aload_n 0, (0, 0, 0, 0, 0)), (.getfield 25, (1, 0, 7, 0, 0)), (.invokevirtual 81, (0, 0, 0, 0, 0)), (.if_icmp .ge 12, (0, 44, 0, 0, 0)), (.aload_n 0, (0, 0, 0, 0, 0)), (.getfield 25, (1, 0, 7, 0, 0)), (.iload_n 3, (0, 0, 0, 0, 0)), (.invokevirtual 84, (0, 0, 0, 0, 0)), (.ireturn, (0, 0, 0, 0, 0)), (.iload_n 3, (0, 0, 0, 0, 0)), (.aload_n 0, (0, 0, 0, 0, 0)), (.getfield 25, (1, 0, 7, 0, 0)), (.invokevirtual 81, (0, 0, 0, 0, 0)), (.isub, (0, 0, 0, 0, 0)), (.istore_n 3, (0, 0, 0, 0, 0)), (.iload_n 3, (0, 0, 0, 0, 0)), (.aload_n 0, (0, 0, 0, 0, 0)), (.iload 4, (0, 0, 0, 0, 0)), (.invokevirtual 67, (0, 0, 0, 0, 0)), (.if_icmp .ge 17, (0, 78, 0, 0, 0)), (.aload_n 1, (0, 0, 0, 0, 0)), (.aload_n 0, (0, 0, 0, 0, 0)), (.getfield 15, (1, 0, 4, 0, 0)), (.iload 4, (0, 0, 0, 0, 0)), (.iaload, (1, 1, 0, 0, 0)), (.iload_n 3, (0, 0, 0, 0, 0)), (.iadd, (0, 0, 0, 0, 0)), (.invokevirtual 54, (0, 0, 0, 0, 0)), (.ireturn, (0, 0, 0, 0, 0)), (.iload_n 3, (0, 0, 0, 0, 0)), (.aload_n 0, (0, 0, 0, 0, 0)), (.iload 4, (0, 0, 0, 0, 0)), (.invokevirtual 67, (0, 0, 0, 0, 0)), (.isub, (0, 0, 0, 0, 0)), (.istore_n 3, (0, 0, 0, 0, 0)), (.iload_n 3, (0, 0, 0, 0, 0)), (.ldc 82, (2, 0, 0, 0, 0)), (.invokevirtual 72, (0, 0, 0, 0, 0)), (.if_icmp .ge 10, (0, 103, 0, 0, 0)), (.ldc 82, (2, 0, 0, 0, 0)), (.iload_n 3, (0, 0, 0, 0, 0)), (.invokevirtual 88, (0, 0, 0, 0, 0)), (.ireturn, (0, 0, 0, 0, 0)), (.iload_n 3, (0, 0, 0, 0, 0)), (.ldc 82, (2, 0, 0, 0, 0)), (.invokevirtual 72, (0, 0, 0, 0, 0)), (.isub, (0, 0, 0, 0, 0)), (.istore_n 3, (0, 0, 0, 0, 0)), (.iinc 4 1, (0, 0, 0, 1, 0)), (.goto (-109), (0, 5, 0, 0, 0)), (.iload_n 3, (0, 0, 0, 0, 0)), (.ldc 70, (2, 0, 0, 0, 0)), (.invokevirtual 72, (0, 0, 0, 0, 0)), (.if_icmp .ge 12, (0, 135, 0, 0, 0)), (.ldc 70, (2, 0, 0, 0, 0)), (.iload_n 3, (0, 0, 0, 0, 0)), (.invokevirtual 88, (0, 0, 0, 0, 0)), (.goto 4, (0, 136, 0, 0, 0)), (.iconst (-1), (0, 0, 0, (-1), 0)), (.ireturn, (0, 0, 0, 0, 0))]
theorem jc_Rs_byteAmongParts : wq_c b_Rs_byteAmongParts 5 j_Rs_byteAmongParts 0 = true := by decide +kernel
def j_Rs_writeHeading : wq_J := [(.aload_n 0, (0, 0, 0, 0, 0)), (.getfield 25, (1, 0, 7, 0, 0)), (.iconst 0, (0, 0, 0, 0, 0)), (.invokevirtual 89, (0, 0, 0, 0, 0)), (.aload_n 0, (0, 0, 0, 0, 0)), (.getfield 25, (1, 0, 7, 0, 0)), (.ldc 93, (2, 0, 0, 0, 0)), (.invokevirtual 95, (0, 0, 0, 0, 0)), (.aload_n 0, (0, 0, 0, 0, 0)), (.getfield 15, (1, 0, 4, 0, 0)), (.iload_n 1, (0, 0, 0, 0, 0)), (.iaload, (1, 1, 0, 0, 0)), (.invokevirtual 99, (0, 0, 0, 0, 0)), (.bipush 45, (0, 0, 0, 45, 0)), (.invokevirtual 102, (0, 0, 0, 0, 0)), (.aload_n 0, (0, 0, 0, 0, 0)), (.getfield 19, (1, 0, 5, 0, 0)), (.iload_n 1, (0, 0, 0, 0, 0)), (.iaload, (1, 2, 0, 0, 0)), (.invokevirtual 99, (0, 0, 0, 0, 0)), (.pop, (0, 0, 0, 0, 0)), (.aload_n 0, (0, 0, 0, 0, 0)), (.getfield 25, (1, 0, 7, 0, 0)), (.bipush 47, (0, 0, 0, 47, 0)), (.invokevirtual 102, (0, 0, 0, 0, 0)), (.iload_n 2, (0, 0, 0, 0, 0)), (.invokevirtual 99, (0, 0, 0, 0, 0)), (.ldc 105, (2, 0, 0, 0, 0)), (.invokevirtual 95, (0, 0, 0, 0, 0)), (.pop, (0, 0, 0, 0, 0)), (.return_, (0, 0, 0, 0, 0))]
theorem jc_Rs_writeHeading : wq_c b_Rs_writeHeading 3 j_Rs_writeHeading 0 = true := by decide +kernel
def j_Rs_partSize : wq_J := [(.aload_n 0, (0, 0, 0, 0, 0)), (.getfield 19, (1, 0, 5, 0, 0)), (.iload_n 1, (0, 0, 0, 0, 0)), (.iaload, (1, 2, 0, 0, 0)), (.aload_n 0, (0, 0, 0, 0, 0)), (.getfield 15, (1, 0, 4, 0, 0)), (.iload_n 1, (0, 0, 0, 0, 0)), (.iaload, (1, 1, 0, 0, 0)), (.isub, (0, 0, 0, 0, 0)), (.iconst 1, (0, 0, 0, 1, 0)), (.iadd, (0, 0, 0, 0, 0)), (.ireturn, (0, 0, 0, 0, 0))]
theorem jc_Rs_partSize : wq_c b_Rs_partSize 2 j_Rs_partSize 0 = true := by decide +kernel
def j_Tg_init : wq_J := [(.aload_n 0, (0, 0, 0, 0, 0)), (.invokespecial 3, (0, 0, 0, 0, 0)), (.return_, (0, 0, 0, 0, 0))]
theorem jc_Tg_init : wq_c b_Tg_init 1 j_Tg_init 0 = true := by decide +kernel
def j_Tg_readList : wq_J := [(.aload_n 0, (0, 0, 0, 0, 0)), (.aload_n 1, (0, 0, 0, 0, 0)), (.iload_n 2, (0, 0, 0, 0, 0)), (.invokevirtual 9, (0, 0, 0, 0, 0)), (.aload_n 0, (0, 0, 0, 0, 0)), (.bipush 42, (0, 0, 0, 42, 0)), (.invokevirtual 15, (0, 0, 0, 0, 0)), (.ifCond .eq 17, (0, 29, 0, 0, 0)), (.aload_n 0, (0, 0, 0, 0, 0)), (.iconst 1, (0, 0, 0, 1, 0)), (.putfield 19, (1, 0, 5, 0, 0)), (.aload_n 0, (0, 0, 0, 0, 0)), (.invokevirtual 23, (0, 0, 0, 0, 0)), (.aload_n 0, (0, 0, 0, 0, 0)), (.invokevirtual 26, (0, 0, 0, 0, 0)), (.ireturn, (0, 0, 0, 0, 0)), (.iconst 0, (0, 0, 0, 0, 0)), (.istore 4, (0, 0, 0, 0, 0)), (.iload 4, (0, 0, 0, 0, 0)), (.bipush 96, (0, 0, 0, 96, 0)), (.if_icmp .ge 33, (0, 69, 0, 0, 0)), (.aload_n 0, (0, 0, 0, 0, 0)), (.invokevirtual 30, (0, 0, 0, 0, 0)), (.ifCond .eq 26, (0, 69, 0, 0, 0)), (.aload_n 0, (0, 0, 0, 0, 0)), (.aload_n 3, (0, 0, 0, 0, 0)), (.invokevirtual 33, (0, 0, 0, 0, 0)), (.ifCond .eq 10, (0, 61, 0, 0, 0)), (.aload_n 0, (0, 0, 0, 0, 0)), (.invokevirtual 37, (0, 0, 0, 0, 0)), (.ifCond .ne 5, (0, 63, 0, 0, 0)), (.iconst 0, (0, 0, 0, 0, 0)), (.ireturn, (0, 0, 0, 0, 0)), (.iinc 4 1, (0, 0, 0, 1, 0)), (.goto (-34), (0, 32, 0, 0, 0)), (.iload 4, (0, 0, 0, 0, 0)), (.ifCond .le 7, (0, 78, 0, 0, 0)), (.iconst 1, (0, 0, 0, 1, 0)), (.goto 4, (0, 79, 0, 0, 0)), (.iconst 0, (0, 0, 0, 0, 0)), (.ireturn, (0, 0, 0, 0, 0))]
theorem jc_Tg_readList : wq_c b_Tg_readList 5 j_Tg_readList 0 = true := by decide +kernel
def j_Tg_readOne : wq_J := [(.aload_n 0, (0, 0, 0, 0, 0)), (.aload_n 1, (0, 0, 0, 0, 0)), (.iload_n 2, (0, 0, 0, 0, 0)), (.invokevirtual 9, (0, 0, 0, 0, 0)), (.aload_n 0, (0, 0, 0, 0, 0)), (.aload_n 3, (0, 0, 0, 0, 0)), (.invokevirtual 33, (0, 0, 0, 0, 0)), (.ifCond .ne 5, (0, 16, 0, 0, 0)), (.iconst 0, (0, 0, 0, 0, 0)), (.ireturn, (0, 0, 0, 0, 0)), (.aload_n 0, (0, 0, 0, 0, 0)), (.invokevirtual 23, (0, 0, 0, 0, 0)), (.aload_n 0, (0, 0, 0, 0, 0)), (.invokevirtual 26, (0, 0, 0, 0, 0)), (.ireturn, (0, 0, 0, 0, 0))]
theorem jc_Tg_readOne : wq_c b_Tg_readOne 4 j_Tg_readOne 0 = true := by decide +kernel
def j_Tg_begin : wq_J := [(.aload_n 0, (0, 0, 0, 0, 0)), (.aload_n 1, (0, 0, 0, 0, 0)), (.iload_n 2, (0, 0, 0, 0, 0)), (.invokevirtual 40, (0, 0, 0, 0, 0)), (.aload_n 0, (0, 0, 0, 0, 0)), (.iconst 0, (0, 0, 0, 0, 0)), (.putfield 19, (1, 0, 5, 0, 0)), (.aload_n 0, (0, 0, 0, 0, 0)), (.iconst 0, (0, 0, 0, 0, 0)), (.putfield 43, (1, 0, 6, 0, 0)), (.aload_n 0, (0, 0, 0, 0, 0)), (.iconst 0, (0, 0, 0, 0, 0)), (.putfield 46, (1, 0, 7, 0, 0)), (.aload_n 0, (0, 0, 0, 0, 0)), (.invokevirtual 23, (0, 0, 0, 0, 0)), (.return_, (0, 0, 0, 0, 0))]
theorem jc_Tg_begin : wq_c b_Tg_begin 3 j_Tg_begin 0 = true := by decide +kernel
def j_Tg_readTag : wq_J := [(.aload_n 0, (0, 0, 0, 0, 0)), (.bipush 87, (0, 0, 0, 87, 0)), (.invokevirtual 49, (0, 0, 0, 0, 0)), (.istore_n 2, (0, 0, 0, 0, 0)), (.iload_n 2, (0, 0, 0, 0, 0)), (.ifCond .eq 12, (0, 20, 0, 0, 0)), (.aload_n 0, (0, 0, 0, 0, 0)), (.ldc 52, (2, 0, 0, 0, 0)), (.invokevirtual 54, (0, 0, 0, 0, 0)), (.ifCond .eq 10, (0, 27, 0, 0, 0)), (.aload_n 0, (0, 0, 0, 0, 0)), (.invokevirtual 57, (0, 0, 0, 0, 0)), (.ifCond .ne 5, (0, 29, 0, 0, 0)), (.iconst 0, (0, 0, 0, 0, 0)), (.ireturn, (0, 0, 0, 0, 0)), (.aload_n 0, (0, 0, 0, 0, 0)), (.aload_n 1, (0, 0, 0, 0, 0)), (.invokevirtual 60, (0, 0, 0, 0, 0)), (.istore_n 3, (0, 0, 0, 0, 0)), (.aload_n 0, (0, 0, 0, 0, 0)), (.aload_n 0, (0, 0, 0, 0, 0)), (.getfield 43, (1, 0, 6, 0, 0)), (.ifCond .ne 7, (0, 47, 0, 0, 0)), (.iload_n 3, (0, 0, 0, 0, 0)), (.ifCond .eq 7, (0, 51, 0, 0, 0)), (.iconst 1, (0, 0, 0, 1, 0)), (.goto 4, (0, 52, 0, 0, 0)), (.iconst 0, (0, 0, 0, 0, 0)), (.putfield 43, (1, 0, 6, 0, 0)), (.aload_n 0, (0, 0, 0, 0, 0)), (.aload_n 0, (0, 0, 0, 0, 0)), (.getfield 46, (1, 0, 7, 0, 0)), (.ifCond .ne 11, (0, 71, 0, 0, 0)), (.iload_n 3, (0, 0, 0, 0, 0)), (.ifCond .eq 11, (0, 75, 0, 0, 0)), (.iload_n 2, (0, 0, 0, 0, 0)), (.ifCond .ne 7, (0, 75, 0, 0, 0)), (.iconst 1, (0, 0, 0, 1, 0)), (.goto 4, (0, 76, 0, 0, 0)), (.iconst 0, (0, 0, 0, 0, 0)), (.putfield 46, (1, 0, 7, 0, 0)), (.iconst 1, (0, 0, 0, 1, 0)), (.ireturn, (0, 0, 0, 0, 0))]
theorem jc_Tg_readTag : wq_c b_Tg_readTag 4 j_Tg_readTag 0 = true := by decide +kernel
end
section
/-! THE WORDS OF CALLS -/
def yw (y : MethodName) (bytes : ByteArray) (maxL : Nat) (ret : Option FieldType) : List Cond := Cond.code y bytes maxL ret :: gw
/-- what is to know of a method that is called -/
def wm (y : MethodName) (bytes : ByteArray) (maxL : Nat) (ret : Option FieldType) (nA : Nat) : Prop := Cond.initialized y.cls ∈ gw ∧ Cond.code y bytes maxL ret ∈ gw ∧ (y.cls ≠ "java/lang/invoke/MethodHandle" ∧ y.cls ≠ "java/lang/invoke/VarHandle") ∧ (parseMethodDescriptor y.desc).map (fun d => d.parameters.length) = some nA
theorem yw_good {y y0 : MethodName} {bytes b0 : ByteArray} {maxL n0 nA : Nat} {ret r0 : Option FieldType} (h : wm y bytes maxL ret nA) : GoodIn (yw y0 b0 n0 r0) (yw y bytes maxL ret) := by
  intro w hw
  have h1 : w ∈ gw := by
    rcases List.mem_cons.mp hw with e | e
    · rw [e]; exact h.2.1
    · exact e
  exact ⟨List.mem_cons_of_mem _ h1, (gw_good w h1).2⟩
section
variable {R : Room} {s : State} {args : Array Value} {own C owner : String} {idx maxL n0 nA fr lo mc ms : Nat} {y y0 x : MethodName} {bytes b0 : ByteArray} {ret r0 : Option FieldType}
theorem cw_B (h : wm y bytes maxL ret nA) (hl : Cond.methodLink own idx y ∈ gw) (ht : ∀ w ∈ yw y0 b0 n0 r0, w.before args s = true) (hR : fr + 1 ≤ R.frames ∧ 8 + (maxL + 11) + lo ≤ R.locals) : CallB R s args own idx y bytes maxL ret (yw y bytes maxL ret) { frames := fr, cells := mc, slots := ms, locals := lo } mc ms nA :=
  callB_of nA ht (yw_good h) rfl rfl rfl (ht _ (List.mem_cons_of_mem _ h.1)) (ht _ (List.mem_cons_of_mem _ hl)) ⟨h.2.2.1.1, h.2.2.1.2, h.2.2.2⟩ hR
theorem cw_V (h : wm y bytes maxL ret nA) (hl : Cond.methodLink own idx y ∈ gw) (hi : Cond.instanceMethod y ∈ gw) (hs : Cond.selects C y y ∈ gw) (ht : ∀ w ∈ yw y0 b0 n0 r0, w.before args s = true) (hR : fr + 1 ≤ R.frames ∧ 8 + (maxL + 11) + lo ≤ R.locals) : CallW R s args own C idx y bytes maxL ret (yw y bytes maxL ret) { frames := fr, cells := mc, slots := ms, locals := lo } mc ms nA :=
  ⟨cw_B h hl ht hR, ht _ (List.mem_cons_of_mem _ hi), ht _ (List.mem_cons_of_mem _ hs)⟩
theorem cw_S (h : wm y bytes maxL ret nA) (hl : Cond.methodLink own idx y ∈ gw) (hi : Cond.static y ∈ gw) (ht : ∀ w ∈ yw y0 b0 n0 r0, w.before args s = true) (hR : fr + 1 ≤ R.frames ∧ 8 + (maxL + 11) + lo ≤ R.locals) : CallB R s args own idx y bytes maxL ret (yw y bytes maxL ret) { frames := fr, cells := mc, slots := ms, locals := lo } mc ms nA ∧ (Cond.static y).before args s = true :=
  ⟨cw_B h hl ht hR, ht _ (List.mem_cons_of_mem _ hi)⟩
theorem cw_I2 (h : wm y bytes maxL none nA) (hl : Cond.methodLink own idx y ∈ gw) (hi : Cond.instanceMethod y ∈ gw) (hn : y.name = "<init>") (ht : ∀ w ∈ yw y0 b0 n0 r0, w.before args s = true) (hR : fr + 1 ≤ R.frames ∧ 8 + (maxL + 11) + lo ≤ R.locals) : CallB R s args own idx y bytes maxL none (yw y bytes maxL none) { frames := fr, cells := mc, slots := ms, locals := lo } mc ms nA ∧ y.name = "<init>" ∧ (Cond.instanceMethod y).before args s = true :=
  ⟨cw_B h hl ht hR, hn, ht _ (List.mem_cons_of_mem _ hi)⟩
theorem cw_U (h : wm y bytes maxL ret nA) (hl : Cond.methodLink own idx x ∈ gw) (hsm : Cond.sameMethod x.cls owner x.name x.desc ∈ gw) (hi : Cond.instanceMethod y ∈ gw) (hs : Cond.selects C x y ∈ gw) (hyx : y = ⟨owner, x.name, x.desc⟩) (ht : ∀ w ∈ yw y0 b0 n0 r0, w.before args s = true) (hR : fr + 1 ≤ R.frames ∧ 8 + (maxL + 11) + lo ≤ R.locals) : va_CU R s args own C owner idx x y bytes maxL ret (yw y bytes maxL ret) { frames := fr, cells := mc, slots := ms, locals := lo } mc ms nA := by
  have hx : ∀ {w : Cond}, w ∈ gw → w.before args s = true := fun h => ht _ (List.mem_cons_of_mem _ h)
  have hd : va_Decl s y := va_Decl.of (hx hi) (hx h.2.1)
  have hp := h.2.2.2
  subst hyx
  refine ⟨⟨rfl, rfl, hR.1, hR.2, pay_in ht (yw_good h), List.mem_cons_self⟩, hx h.2.1, hx h.1, h.2.2.1, fun sig e => ?_, hx hl, hx hsm, hd, hx hs, hx hi⟩
  rw [show x.desc = (MethodName.mk owner x.name x.desc).desc from rfl] at e
  rw [e] at hp
  exact (Option.some.inj hp).symm
end
theorem wm_Dk_init : wm y_Dk_init b_Dk_init 4 (none) 1 := ⟨gw_i 1 (by decide +kernel) (by decide +kernel), gw_i 31 (by decide +kernel) (by decide +kernel), ⟨by decide, by decide⟩, by decide +kernel⟩
theorem wi_Dk_init : Cond.instanceMethod y_Dk_init ∈ gw := gw_i 30 (by decide +kernel) (by decide +kernel)
theorem wm_Dk_add : wm y_Dk_add b_Dk_add 11 (some FieldType.int) 6 := ⟨gw_i 1 (by decide +kernel) (by decide +kernel), gw_i 309 (by decide +kernel) (by decide +kernel), ⟨by decide, by decide⟩, by decide +kernel⟩
theorem wi_Dk_add : Cond.instanceMethod y_Dk_add ∈ gw := gw_i 307 (by decide +kernel) (by decide +kernel)
theorem wm_Dk_clear : wm y_Dk_clear b_Dk_clear 1 (none) 0 := ⟨gw_i 1 (by decide +kernel) (by decide +kernel), gw_i 549 (by decide +kernel) (by decide +kernel), ⟨by decide, by decide⟩, by decide +kernel⟩
theorem wi_Dk_clear : Cond.instanceMethod y_Dk_clear ∈ gw := gw_i 547 (by decide +kernel) (by decide +kernel)
theorem wm_Dk_request : wm y_Dk_request b_Dk_request 2 (none) 1 := ⟨gw_i 1 (by decide +kernel) (by decide +kernel), gw_i 553 (by decide +kernel) (by decide +kernel), ⟨by decide, by decide⟩, by decide +kernel⟩
theorem wi_Dk_request : Cond.instanceMethod y_Dk_request ∈ gw := gw_i 551 (by decide +kernel) (by decide +kernel)
theorem wm_Dk_feed : wm y_Dk_feed b_Dk_feed 4 (some FieldType.int) 2 := ⟨gw_i 1 (by decide +kernel) (by decide +kernel), gw_i 561 (by decide +kernel) (by decide +kernel), ⟨by decide, by decide⟩, by decide +kernel⟩
theorem wi_Dk_feed : Cond.instanceMethod y_Dk_feed ∈ gw := gw_i 559 (by decide +kernel) (by decide +kernel)
theorem wm_Dk_respond : wm y_Dk_respond b_Dk_respond 3 (some FieldType.int) 0 := ⟨gw_i 1 (by decide +kernel) (by decide +kernel), gw_i 575 (by decide +kernel) (by decide +kernel), ⟨by decide, by decide⟩, by decide +kernel⟩
theorem wi_Dk_respond : Cond.instanceMethod y_Dk_respond ∈ gw := gw_i 573 (by decide +kernel) (by decide +kernel)
theorem wm_Dk_status : wm y_Dk_status b_Dk_status 1 (some FieldType.int) 0 := ⟨gw_i 1 (by decide +kernel) (by decide +kernel), gw_i 1121 (by decide +kernel) (by decide +kernel), ⟨by decide, by decide⟩, by decide +kernel⟩
theorem wi_Dk_status : Cond.instanceMethod y_Dk_status ∈ gw := gw_i 1119 (by decide +kernel) (by decide +kernel)
theorem wm_Dk_chosen : wm y_Dk_chosen b_Dk_chosen 1 (some FieldType.int) 0 := ⟨gw_i 1 (by decide +kernel) (by decide +kernel), gw_i 1125 (by decide +kernel) (by decide +kernel), ⟨by decide, by decide⟩, by decide +kernel⟩
theorem wi_Dk_chosen : Cond.instanceMethod y_Dk_chosen ∈ gw := gw_i 1123 (by decide +kernel) (by decide +kernel)
theorem wm_Dk_length : wm y_Dk_length b_Dk_length 1 (some FieldType.long) 0 := ⟨gw_i 1 (by decide +kernel) (by decide +kernel), gw_i 1129 (by decide +kernel) (by decide +kernel), ⟨by decide, by decide⟩, by decide +kernel⟩
theorem wi_Dk_length : Cond.instanceMethod y_Dk_length ∈ gw := gw_i 1127 (by decide +kernel) (by decide +kernel)
theorem wm_Dk_body : wm y_Dk_body b_Dk_body 2 (some FieldType.int) 1 := ⟨gw_i 1 (by decide +kernel) (by decide +kernel), gw_i 1133 (by decide +kernel) (by decide +kernel), ⟨by decide, by decide⟩, by decide +kernel⟩
theorem wi_Dk_body : Cond.instanceMethod y_Dk_body ∈ gw := gw_i 1131 (by decide +kernel) (by decide +kernel)
theorem wm_Dk_parts : wm y_Dk_parts b_Dk_parts 1 (some FieldType.int) 0 := ⟨gw_i 1 (by decide +kernel) (by decide +kernel), gw_i 1160 (by decide +kernel) (by decide +kernel), ⟨by decide, by decide⟩, by decide +kernel⟩
theorem wi_Dk_parts : Cond.instanceMethod y_Dk_parts ∈ gw := gw_i 1158 (by decide +kernel) (by decide +kernel)
theorem wm_Dk_first : wm y_Dk_first b_Dk_first 2 (some FieldType.int) 1 := ⟨gw_i 1 (by decide +kernel) (by decide +kernel), gw_i 1164 (by decide +kernel) (by decide +kernel), ⟨by decide, by decide⟩, by decide +kernel⟩
theorem wi_Dk_first : Cond.instanceMethod y_Dk_first ∈ gw := gw_i 1162 (by decide +kernel) (by decide +kernel)
theorem wm_Dk_last : wm y_Dk_last b_Dk_last 2 (some FieldType.int) 1 := ⟨gw_i 1 (by decide +kernel) (by decide +kernel), gw_i 1172 (by decide +kernel) (by decide +kernel), ⟨by decide, by decide⟩, by decide +kernel⟩
theorem wi_Dk_last : Cond.instanceMethod y_Dk_last ∈ gw := gw_i 1170 (by decide +kernel) (by decide +kernel)
theorem wm_Dk_score : wm y_Dk_score b_Dk_score 2 (some FieldType.int) 1 := ⟨gw_i 1 (by decide +kernel) (by decide +kernel), gw_i 1176 (by decide +kernel) (by decide +kernel), ⟨by decide, by decide⟩, by decide +kernel⟩
theorem wi_Dk_score : Cond.instanceMethod y_Dk_score ∈ gw := gw_i 1174 (by decide +kernel) (by decide +kernel)
theorem wm_Dk_formed : wm y_Dk_formed b_Dk_formed 2 (some FieldType.boolean) 1 := ⟨gw_i 1 (by decide +kernel) (by decide +kernel), gw_i 1180 (by decide +kernel) (by decide +kernel), ⟨by decide, by decide⟩, by decide +kernel⟩
theorem wi_Dk_formed : Cond.instanceMethod y_Dk_formed ∈ gw := gw_i 1178 (by decide +kernel) (by decide +kernel)
theorem wm_Dk_date : wm y_Dk_date b_Dk_date 2 (some FieldType.long) 1 := ⟨gw_i 1 (by decide +kernel) (by decide +kernel), gw_i 1189 (by decide +kernel) (by decide +kernel), ⟨by decide, by decide⟩, by decide +kernel⟩
theorem wi_Dk_date : Cond.instanceMethod y_Dk_date ∈ gw := gw_i 1187 (by decide +kernel) (by decide +kernel)
theorem wm_Dk_isWithin : wm y_Dk_isWithin b_Dk_isWithin 4 (some FieldType.boolean) 2 := ⟨gw_i 1 (by decide +kernel) (by decide +kernel), gw_i 314 (by decide +kernel) (by decide +kernel), ⟨by decide, by decide⟩, by decide +kernel⟩
theorem wt_Dk_isWithin : Cond.static y_Dk_isWithin ∈ gw := gw_i 313 (by decide +kernel) (by decide +kernel)
theorem wm_Dk_codeWithoutChoice : wm y_Dk_codeWithoutChoice b_Dk_codeWithoutChoice 1 (some FieldType.int) 0 := ⟨gw_i 1 (by decide +kernel) (by decide +kernel), gw_i 579 (by decide +kernel) (by decide +kernel), ⟨by decide, by decide⟩, by decide +kernel⟩
theorem wi_Dk_codeWithoutChoice : Cond.instanceMethod y_Dk_codeWithoutChoice ∈ gw := gw_i 578 (by decide +kernel) (by decide +kernel)
theorem wm_Dk_choose : wm y_Dk_choose b_Dk_choose 6 (some (FieldType.object "OriginDesk$Representation")) 0 := ⟨gw_i 1 (by decide +kernel) (by decide +kernel), gw_i 583 (by decide +kernel) (by decide +kernel), ⟨by decide, by decide⟩, by decide +kernel⟩
theorem wi_Dk_choose : Cond.instanceMethod y_Dk_choose ∈ gw := gw_i 582 (by decide +kernel) (by decide +kernel)
theorem wm_Dk_scoreOf : wm y_Dk_scoreOf b_Dk_scoreOf 4 (some FieldType.int) 1 := ⟨gw_i 1 (by decide +kernel) (by decide +kernel), gw_i 587 (by decide +kernel) (by decide +kernel), ⟨by decide, by decide⟩, by decide +kernel⟩
theorem wi_Dk_scoreOf : Cond.instanceMethod y_Dk_scoreOf ∈ gw := gw_i 586 (by decide +kernel) (by decide +kernel)
theorem wm_Dk_codeFor : wm y_Dk_codeFor b_Dk_codeFor 2 (some FieldType.int) 1 := ⟨gw_i 1 (by decide +kernel) (by decide +kernel), gw_i 832 (by decide +kernel) (by decide +kernel), ⟨by decide, by decide⟩, by decide +kernel⟩
theorem wi_Dk_codeFor : Cond.instanceMethod y_Dk_codeFor ∈ gw := gw_i 831 (by decide +kernel) (by decide +kernel)
theorem wm_Dk_isRefused : wm y_Dk_isRefused b_Dk_isRefused 4 (some FieldType.boolean) 1 := ⟨gw_i 1 (by decide +kernel) (by decide +kernel), gw_i 836 (by decide +kernel) (by decide +kernel), ⟨by decide, by decide⟩, by decide +kernel⟩
theorem wi_Dk_isRefused : Cond.instanceMethod y_Dk_isRefused ∈ gw := gw_i 835 (by decide +kernel) (by decide +kernel)
theorem wm_Dk_isUnchanged : wm y_Dk_isUnchanged b_Dk_isUnchanged 4 (some FieldType.boolean) 1 := ⟨gw_i 1 (by decide +kernel) (by decide +kernel), gw_i 988 (by decide +kernel) (by decide +kernel), ⟨by decide, by decide⟩, by decide +kernel⟩
theorem wi_Dk_isUnchanged : Cond.instanceMethod y_Dk_isUnchanged ∈ gw := gw_i 987 (by decide +kernel) (by decide +kernel)
theorem wm_Dk_isRangeWanted : wm y_Dk_isRangeWanted b_Dk_isRangeWanted 2 (some FieldType.boolean) 1 := ⟨gw_i 1 (by decide +kernel) (by decide +kernel), gw_i 1035 (by decide +kernel) (by decide +kernel), ⟨by decide, by decide⟩, by decide +kernel⟩
theorem wi_Dk_isRangeWanted : Cond.instanceMethod y_Dk_isRangeWanted ∈ gw := gw_i 1034 (by decide +kernel) (by decide +kernel)
theorem wm_Mo_init : wm y_Mo_init b_Mo_init 4 (none) 1 := ⟨gw_i 14 (by decide +kernel) (by decide +kernel), gw_i 1197 (by decide +kernel) (by decide +kernel), ⟨by decide, by decide⟩, by decide +kernel⟩
theorem wi_Mo_init : Cond.instanceMethod y_Mo_init ∈ gw := gw_i 1196 (by decide +kernel) (by decide +kernel)
theorem wm_Mo_add : wm y_Mo_add b_Mo_add 9 (some FieldType.int) 6 := ⟨gw_i 14 (by decide +kernel) (by decide +kernel), gw_i 1315 (by decide +kernel) (by decide +kernel), ⟨by decide, by decide⟩, by decide +kernel⟩
theorem wi_Mo_add : Cond.instanceMethod y_Mo_add ∈ gw := gw_i 1313 (by decide +kernel) (by decide +kernel)
theorem wm_Mo_clear : wm y_Mo_clear b_Mo_clear 1 (none) 0 := ⟨gw_i 14 (by decide +kernel) (by decide +kernel), gw_i 1320 (by decide +kernel) (by decide +kernel), ⟨by decide, by decide⟩, by decide +kernel⟩
theorem wi_Mo_clear : Cond.instanceMethod y_Mo_clear ∈ gw := gw_i 1318 (by decide +kernel) (by decide +kernel)
theorem wm_Mo_request : wm y_Mo_request b_Mo_request 3 (none) 1 := ⟨gw_i 14 (by decide +kernel) (by decide +kernel), gw_i 1324 (by decide +kernel) (by decide +kernel), ⟨by decide, by decide⟩, by decide +kernel⟩
theorem wi_Mo_request : Cond.instanceMethod y_Mo_request ∈ gw := gw_i 1322 (by decide +kernel) (by decide +kernel)
theorem wm_Mo_feed : wm y_Mo_feed b_Mo_feed 6 (some FieldType.int) 2 := ⟨gw_i 14 (by decide +kernel) (by decide +kernel), gw_i 1328 (by decide +kernel) (by decide +kernel), ⟨by decide, by decide⟩, by decide +kernel⟩
theorem wi_Mo_feed : Cond.instanceMethod y_Mo_feed ∈ gw := gw_i 1326 (by decide +kernel) (by decide +kernel)
theorem wm_Mo_open : wm y_Mo_open b_Mo_open 2 (none) 1 := ⟨gw_i 14 (by decide +kernel) (by decide +kernel), gw_i 1357 (by decide +kernel) (by decide +kernel), ⟨by decide, by decide⟩, by decide +kernel⟩
theorem wi_Mo_open : Cond.instanceMethod y_Mo_open ∈ gw := gw_i 1356 (by decide +kernel) (by decide +kernel)
theorem wm_Mo_there : wm y_Mo_there b_Mo_there 2 (some FieldType.boolean) 1 := ⟨gw_i 14 (by decide +kernel) (by decide +kernel), gw_i 1349 (by decide +kernel) (by decide +kernel), ⟨by decide, by decide⟩, by decide +kernel⟩
theorem wi_Mo_there : Cond.instanceMethod y_Mo_there ∈ gw := gw_i 1348 (by decide +kernel) (by decide +kernel)
theorem wm_Mo_charAt : wm y_Mo_charAt b_Mo_charAt 2 (some FieldType.int) 1 := ⟨gw_i 14 (by decide +kernel) (by decide +kernel), gw_i 1373 (by decide +kernel) (by decide +kernel), ⟨by decide, by decide⟩, by decide +kernel⟩
theorem wi_Mo_charAt : Cond.instanceMethod y_Mo_charAt ∈ gw := gw_i 1372 (by decide +kernel) (by decide +kernel)
theorem wm_Mo_next : wm y_Mo_next b_Mo_next 1 (some FieldType.int) 0 := ⟨gw_i 14 (by decide +kernel) (by decide +kernel), gw_i 1369 (by decide +kernel) (by decide +kernel), ⟨by decide, by decide⟩, by decide +kernel⟩
theorem wi_Mo_next : Cond.instanceMethod y_Mo_next ∈ gw := gw_i 1368 (by decide +kernel) (by decide +kernel)
theorem wm_Mo_ended : wm y_Mo_ended b_Mo_ended 1 (some FieldType.boolean) 0 := ⟨gw_i 14 (by decide +kernel) (by decide +kernel), gw_i 1381 (by decide +kernel) (by decide +kernel), ⟨by decide, by decide⟩, by decide +kernel⟩
theorem wi_Mo_ended : Cond.instanceMethod y_Mo_ended ∈ gw := gw_i 1380 (by decide +kernel) (by decide +kernel)
theorem wm_Mo_gap : wm y_Mo_gap b_Mo_gap 1 (none) 0 := ⟨gw_i 14 (by decide +kernel) (by decide +kernel), gw_i 1365 (by decide +kernel) (by decide +kernel), ⟨by decide, by decide⟩, by decide +kernel⟩
theorem wi_Mo_gap : Cond.instanceMethod y_Mo_gap ∈ gw := gw_i 1364 (by decide +kernel) (by decide +kernel)
theorem wm_Mo_take : wm y_Mo_take b_Mo_take 3 (some FieldType.boolean) 1 := ⟨gw_i 14 (by decide +kernel) (by decide +kernel), gw_i 1377 (by decide +kernel) (by decide +kernel), ⟨by decide, by decide⟩, by decide +kernel⟩
theorem wi_Mo_take : Cond.instanceMethod y_Mo_take ∈ gw := gw_i 1376 (by decide +kernel) (by decide +kernel)
theorem wm_Mo_isDigit : wm y_Mo_isDigit b_Mo_isDigit 1 (some FieldType.boolean) 1 := ⟨gw_i 14 (by decide +kernel) (by decide +kernel), gw_i 1395 (by decide +kernel) (by decide +kernel), ⟨by decide, by decide⟩, by decide +kernel⟩
theorem wt_Mo_isDigit : Cond.static y_Mo_isDigit ∈ gw := gw_i 1394 (by decide +kernel) (by decide +kernel)
theorem wm_Mo_isLetter : wm y_Mo_isLetter b_Mo_isLetter 1 (some FieldType.boolean) 1 := ⟨gw_i 14 (by decide +kernel) (by decide +kernel), gw_i 1398 (by decide +kernel) (by decide +kernel), ⟨by decide, by decide⟩, by decide +kernel⟩
theorem wt_Mo_isLetter : Cond.static y_Mo_isLetter ∈ gw := gw_i 1397 (by decide +kernel) (by decide +kernel)
theorem wm_Mo_lower : wm y_Mo_lower b_Mo_lower 1 (some FieldType.int) 1 := ⟨gw_i 14 (by decide +kernel) (by decide +kernel), gw_i 1416 (by decide +kernel) (by decide +kernel), ⟨by decide, by decide⟩, by decide +kernel⟩
theorem wt_Mo_lower : Cond.static y_Mo_lower ∈ gw := gw_i 1415 (by decide +kernel) (by decide +kernel)
theorem wm_Mo_isToken : wm y_Mo_isToken b_Mo_isToken 2 (some FieldType.boolean) 1 := ⟨gw_i 14 (by decide +kernel) (by decide +kernel), gw_i 1392 (by decide +kernel) (by decide +kernel), ⟨by decide, by decide⟩, by decide +kernel⟩
theorem wt_Mo_isToken : Cond.static y_Mo_isToken ∈ gw := gw_i 1391 (by decide +kernel) (by decide +kernel)
theorem wm_Mo_token : wm y_Mo_token b_Mo_token 1 (some FieldType.boolean) 0 := ⟨gw_i 14 (by decide +kernel) (by decide +kernel), gw_i 1389 (by decide +kernel) (by decide +kernel), ⟨by decide, by decide⟩, by decide +kernel⟩
theorem wi_Mo_token : Cond.instanceMethod y_Mo_token ∈ gw := gw_i 1388 (by decide +kernel) (by decide +kernel)
theorem wm_Mo_lengthOf : wm y_Mo_lengthOf b_Mo_lengthOf 3 (some FieldType.int) 1 := ⟨gw_i 14 (by decide +kernel) (by decide +kernel), gw_i 1413 (by decide +kernel) (by decide +kernel), ⟨by decide, by decide⟩, by decide +kernel⟩
theorem wt_Mo_lengthOf : Cond.static y_Mo_lengthOf ∈ gw := gw_i 1412 (by decide +kernel) (by decide +kernel)
theorem wm_Mo_says : wm y_Mo_says b_Mo_says 7 (some FieldType.boolean) 2 := ⟨gw_i 14 (by decide +kernel) (by decide +kernel), gw_i 1410 (by decide +kernel) (by decide +kernel), ⟨by decide, by decide⟩, by decide +kernel⟩
theorem wi_Mo_says : Cond.instanceMethod y_Mo_says ∈ gw := gw_i 1409 (by decide +kernel) (by decide +kernel)
theorem wm_Mo_isWord : wm y_Mo_isWord b_Mo_isWord 5 (some FieldType.boolean) 3 := ⟨gw_i 14 (by decide +kernel) (by decide +kernel), gw_i 1420 (by decide +kernel) (by decide +kernel), ⟨by decide, by decide⟩, by decide +kernel⟩
theorem wi_Mo_isWord : Cond.instanceMethod y_Mo_isWord ∈ gw := gw_i 1419 (by decide +kernel) (by decide +kernel)
theorem wm_Mo_isMain : wm y_Mo_isMain b_Mo_isMain 4 (some FieldType.boolean) 3 := ⟨gw_i 14 (by decide +kernel) (by decide +kernel), gw_i 1406 (by decide +kernel) (by decide +kernel), ⟨by decide, by decide⟩, by decide +kernel⟩
theorem wi_Mo_isMain : Cond.instanceMethod y_Mo_isMain ∈ gw := gw_i 1405 (by decide +kernel) (by decide +kernel)
theorem wm_Mo_isSub : wm y_Mo_isSub b_Mo_isSub 5 (some FieldType.boolean) 3 := ⟨gw_i 14 (by decide +kernel) (by decide +kernel), gw_i 1424 (by decide +kernel) (by decide +kernel), ⟨by decide, by decide⟩, by decide +kernel⟩
theorem wi_Mo_isSub : Cond.instanceMethod y_Mo_isSub ∈ gw := gw_i 1423 (by decide +kernel) (by decide +kernel)
theorem wm_Mo_weight : wm y_Mo_weight b_Mo_weight 4 (some FieldType.boolean) 0 := ⟨gw_i 14 (by decide +kernel) (by decide +kernel), gw_i 1432 (by decide +kernel) (by decide +kernel), ⟨by decide, by decide⟩, by decide +kernel⟩
theorem wi_Mo_weight : Cond.instanceMethod y_Mo_weight ∈ gw := gw_i 1431 (by decide +kernel) (by decide +kernel)
theorem wm_Mo_semicolon : wm y_Mo_semicolon b_Mo_semicolon 2 (some FieldType.boolean) 0 := ⟨gw_i 14 (by decide +kernel) (by decide +kernel), gw_i 1428 (by decide +kernel) (by decide +kernel), ⟨by decide, by decide⟩, by decide +kernel⟩
theorem wi_Mo_semicolon : Cond.instanceMethod y_Mo_semicolon ∈ gw := gw_i 1427 (by decide +kernel) (by decide +kernel)
theorem wm_Mo_weightIfAny : wm y_Mo_weightIfAny b_Mo_weightIfAny 1 (some FieldType.boolean) 0 := ⟨gw_i 14 (by decide +kernel) (by decide +kernel), gw_i 1461 (by decide +kernel) (by decide +kernel), ⟨by decide, by decide⟩, by decide +kernel⟩
theorem wi_Mo_weightIfAny : Cond.instanceMethod y_Mo_weightIfAny ∈ gw := gw_i 1460 (by decide +kernel) (by decide +kernel)
theorem wm_Mo_separator : wm y_Mo_separator b_Mo_separator 1 (some FieldType.int) 0 := ⟨gw_i 14 (by decide +kernel) (by decide +kernel), gw_i 1444 (by decide +kernel) (by decide +kernel), ⟨by decide, by decide⟩, by decide +kernel⟩
theorem wi_Mo_separator : Cond.instanceMethod y_Mo_separator ∈ gw := gw_i 1443 (by decide +kernel) (by decide +kernel)
theorem wm_Mo_element : wm y_Mo_element b_Mo_element 1 (some FieldType.boolean) 0 := ⟨gw_i 14 (by decide +kernel) (by decide +kernel), gw_i 1361 (by decide +kernel) (by decide +kernel), ⟨by decide, by decide⟩, by decide +kernel⟩
theorem wi_Mo_element : Cond.instanceMethod y_Mo_element ∈ gw := gw_i 1360 (by decide +kernel) (by decide +kernel)
theorem wm_Mo_quoted : wm y_Mo_quoted b_Mo_quoted 4 (some FieldType.boolean) 0 := ⟨gw_i 14 (by decide +kernel) (by decide +kernel), gw_i 1440 (by decide +kernel) (by decide +kernel), ⟨by decide, by decide⟩, by decide +kernel⟩
theorem wi_Mo_quoted : Cond.instanceMethod y_Mo_quoted ∈ gw := gw_i 1439 (by decide +kernel) (by decide +kernel)
theorem wm_Mo_assigned : wm y_Mo_assigned b_Mo_assigned 1 (some FieldType.boolean) 0 := ⟨gw_i 14 (by decide +kernel) (by decide +kernel), gw_i 1436 (by decide +kernel) (by decide +kernel), ⟨by decide, by decide⟩, by decide +kernel⟩
theorem wi_Mo_assigned : Cond.instanceMethod y_Mo_assigned ∈ gw := gw_i 1435 (by decide +kernel) (by decide +kernel)
theorem wm_Mo_starred : wm y_Mo_starred b_Mo_starred 5 (some FieldType.boolean) 2 := ⟨gw_i 14 (by decide +kernel) (by decide +kernel), gw_i 1402 (by decide +kernel) (by decide +kernel), ⟨by decide, by decide⟩, by decide +kernel⟩
theorem wi_Mo_starred : Cond.instanceMethod y_Mo_starred ∈ gw := gw_i 1401 (by decide +kernel) (by decide +kernel)
theorem wm_Mo_mediaRange : wm y_Mo_mediaRange b_Mo_mediaRange 8 (some FieldType.int) 1 := ⟨gw_i 14 (by decide +kernel) (by decide +kernel), gw_i 1385 (by decide +kernel) (by decide +kernel), ⟨by decide, by decide⟩, by decide +kernel⟩
theorem wi_Mo_mediaRange : Cond.instanceMethod y_Mo_mediaRange ∈ gw := gw_i 1384 (by decide +kernel) (by decide +kernel)
theorem wm_Mo_accepted : wm y_Mo_accepted b_Mo_accepted 7 (some FieldType.int) 1 := ⟨gw_i 14 (by decide +kernel) (by decide +kernel), gw_i 1353 (by decide +kernel) (by decide +kernel), ⟨by decide, by decide⟩, by decide +kernel⟩
theorem wi_Mo_accepted : Cond.instanceMethod y_Mo_accepted ∈ gw := gw_i 1352 (by decide +kernel) (by decide +kernel)
theorem wm_Mo_tongue : wm y_Mo_tongue b_Mo_tongue 5 (some FieldType.boolean) 0 := ⟨gw_i 14 (by decide +kernel) (by decide +kernel), gw_i 1452 (by decide +kernel) (by decide +kernel), ⟨by decide, by decide⟩, by decide +kernel⟩
theorem wi_Mo_tongue : Cond.instanceMethod y_Mo_tongue ∈ gw := gw_i 1451 (by decide +kernel) (by decide +kernel)
theorem wm_Mo_speaks : wm y_Mo_speaks b_Mo_speaks 6 (some FieldType.boolean) 1 := ⟨gw_i 14 (by decide +kernel) (by decide +kernel), gw_i 1456 (by decide +kernel) (by decide +kernel), ⟨by decide, by decide⟩, by decide +kernel⟩
theorem wi_Mo_speaks : Cond.instanceMethod y_Mo_speaks ∈ gw := gw_i 1455 (by decide +kernel) (by decide +kernel)
theorem wm_Mo_spoken : wm y_Mo_spoken b_Mo_spoken 10 (some FieldType.int) 1 := ⟨gw_i 14 (by decide +kernel) (by decide +kernel), gw_i 1448 (by decide +kernel) (by decide +kernel), ⟨by decide, by decide⟩, by decide +kernel⟩
theorem wi_Mo_spoken : Cond.instanceMethod y_Mo_spoken ∈ gw := gw_i 1447 (by decide +kernel) (by decide +kernel)
theorem wm_Mo_scoreOf : wm y_Mo_scoreOf b_Mo_scoreOf 4 (some FieldType.int) 1 := ⟨gw_i 14 (by decide +kernel) (by decide +kernel), gw_i 1345 (by decide +kernel) (by decide +kernel), ⟨by decide, by decide⟩, by decide +kernel⟩
theorem wi_Mo_scoreOf : Cond.instanceMethod y_Mo_scoreOf ∈ gw := gw_i 1344 (by decide +kernel) (by decide +kernel)
theorem wm_Mo_tagText : wm y_Mo_tagText b_Mo_tagText 1 (some FieldType.boolean) 0 := ⟨gw_i 14 (by decide +kernel) (by decide +kernel), gw_i 1473 (by decide +kernel) (by decide +kernel), ⟨by decide, by decide⟩, by decide +kernel⟩
theorem wi_Mo_tagText : Cond.instanceMethod y_Mo_tagText ∈ gw := gw_i 1472 (by decide +kernel) (by decide +kernel)
theorem wm_Mo_isTagOf : wm y_Mo_isTagOf b_Mo_isTagOf 6 (some FieldType.boolean) 1 := ⟨gw_i 14 (by decide +kernel) (by decide +kernel), gw_i 1477 (by decide +kernel) (by decide +kernel), ⟨by decide, by decide⟩, by decide +kernel⟩
theorem wi_Mo_isTagOf : Cond.instanceMethod y_Mo_isTagOf ∈ gw := gw_i 1476 (by decide +kernel) (by decide +kernel)
theorem wm_Mo_tags : wm y_Mo_tags b_Mo_tags 8 (some FieldType.int) 3 := ⟨gw_i 14 (by decide +kernel) (by decide +kernel), gw_i 1469 (by decide +kernel) (by decide +kernel), ⟨by decide, by decide⟩, by decide +kernel⟩
theorem wi_Mo_tags : Cond.instanceMethod y_Mo_tags ∈ gw := gw_i 1468 (by decide +kernel) (by decide +kernel)
theorem wm_Mo_digits : wm y_Mo_digits b_Mo_digits 4 (some FieldType.int) 1 := ⟨gw_i 14 (by decide +kernel) (by decide +kernel), gw_i 1506 (by decide +kernel) (by decide +kernel), ⟨by decide, by decide⟩, by decide +kernel⟩
theorem wi_Mo_digits : Cond.instanceMethod y_Mo_digits ∈ gw := gw_i 1505 (by decide +kernel) (by decide +kernel)
theorem wm_Mo_three : wm y_Mo_three b_Mo_three 2 (some FieldType.int) 0 := ⟨gw_i 14 (by decide +kernel) (by decide +kernel), gw_i 1489 (by decide +kernel) (by decide +kernel), ⟨by decide, by decide⟩, by decide +kernel⟩
theorem wi_Mo_three : Cond.instanceMethod y_Mo_three ∈ gw := gw_i 1488 (by decide +kernel) (by decide +kernel)
theorem wm_Mo_dayName : wm y_Mo_dayName b_Mo_dayName 1 (some FieldType.int) 0 := ⟨gw_i 14 (by decide +kernel) (by decide +kernel), gw_i 1485 (by decide +kernel) (by decide +kernel), ⟨by decide, by decide⟩, by decide +kernel⟩
theorem wi_Mo_dayName : Cond.instanceMethod y_Mo_dayName ∈ gw := gw_i 1484 (by decide +kernel) (by decide +kernel)
theorem wm_Mo_monthName : wm y_Mo_monthName b_Mo_monthName 1 (some FieldType.int) 0 := ⟨gw_i 14 (by decide +kernel) (by decide +kernel), gw_i 1498 (by decide +kernel) (by decide +kernel), ⟨by decide, by decide⟩, by decide +kernel⟩
theorem wi_Mo_monthName : Cond.instanceMethod y_Mo_monthName ∈ gw := gw_i 1497 (by decide +kernel) (by decide +kernel)
theorem wm_Mo_restOf : wm y_Mo_restOf b_Mo_restOf 6 (some FieldType.boolean) 1 := ⟨gw_i 14 (by decide +kernel) (by decide +kernel), gw_i 1514 (by decide +kernel) (by decide +kernel), ⟨by decide, by decide⟩, by decide +kernel⟩
theorem wi_Mo_restOf : Cond.instanceMethod y_Mo_restOf ∈ gw := gw_i 1513 (by decide +kernel) (by decide +kernel)
theorem wm_Mo_time : wm y_Mo_time b_Mo_time 5 (some FieldType.int) 0 := ⟨gw_i 14 (by decide +kernel) (by decide +kernel), gw_i 1510 (by decide +kernel) (by decide +kernel), ⟨by decide, by decide⟩, by decide +kernel⟩
theorem wi_Mo_time : Cond.instanceMethod y_Mo_time ∈ gw := gw_i 1509 (by decide +kernel) (by decide +kernel)
theorem wm_Mo_daysOf : wm y_Mo_daysOf b_Mo_daysOf 2 (some FieldType.int) 2 := ⟨gw_i 14 (by decide +kernel) (by decide +kernel), gw_i 1539 (by decide +kernel) (by decide +kernel), ⟨by decide, by decide⟩, by decide +kernel⟩
theorem wt_Mo_daysOf : Cond.static y_Mo_daysOf ∈ gw := gw_i 1538 (by decide +kernel) (by decide +kernel)
theorem wm_Mo_yearOf : wm y_Mo_yearOf b_Mo_yearOf 5 (some FieldType.int) 1 := ⟨gw_i 14 (by decide +kernel) (by decide +kernel), gw_i 1526 (by decide +kernel) (by decide +kernel), ⟨by decide, by decide⟩, by decide +kernel⟩
theorem wt_Mo_yearOf : Cond.static y_Mo_yearOf ∈ gw := gw_i 1525 (by decide +kernel) (by decide +kernel)
theorem wm_Mo_secondsOf : wm y_Mo_secondsOf b_Mo_secondsOf 7 (some FieldType.long) 4 := ⟨gw_i 14 (by decide +kernel) (by decide +kernel), gw_i 1536 (by decide +kernel) (by decide +kernel), ⟨by decide, by decide⟩, by decide +kernel⟩
theorem wt_Mo_secondsOf : Cond.static y_Mo_secondsOf ∈ gw := gw_i 1535 (by decide +kernel) (by decide +kernel)
theorem wm_Mo_shortYear : wm y_Mo_shortYear b_Mo_shortYear 3 (some FieldType.int) 1 := ⟨gw_i 14 (by decide +kernel) (by decide +kernel), gw_i 1523 (by decide +kernel) (by decide +kernel), ⟨by decide, by decide⟩, by decide +kernel⟩
theorem wi_Mo_shortYear : Cond.instanceMethod y_Mo_shortYear ∈ gw := gw_i 1522 (by decide +kernel) (by decide +kernel)
theorem wm_Mo_zone : wm y_Mo_zone b_Mo_zone 1 (some FieldType.boolean) 0 := ⟨gw_i 14 (by decide +kernel) (by decide +kernel), gw_i 1533 (by decide +kernel) (by decide +kernel), ⟨by decide, by decide⟩, by decide +kernel⟩
theorem wi_Mo_zone : Cond.instanceMethod y_Mo_zone ∈ gw := gw_i 1532 (by decide +kernel) (by decide +kernel)
theorem wm_Mo_paddedDay : wm y_Mo_paddedDay b_Mo_paddedDay 2 (some FieldType.int) 0 := ⟨gw_i 14 (by decide +kernel) (by decide +kernel), gw_i 1502 (by decide +kernel) (by decide +kernel), ⟨by decide, by decide⟩, by decide +kernel⟩
theorem wi_Mo_paddedDay : Cond.instanceMethod y_Mo_paddedDay ∈ gw := gw_i 1501 (by decide +kernel) (by decide +kernel)
theorem wm_Mo_dateBehind : wm y_Mo_dateBehind b_Mo_dateBehind 8 (some FieldType.long) 1 := ⟨gw_i 14 (by decide +kernel) (by decide +kernel), gw_i 1494 (by decide +kernel) (by decide +kernel), ⟨by decide, by decide⟩, by decide +kernel⟩
theorem wi_Mo_dateBehind : Cond.instanceMethod y_Mo_dateBehind ∈ gw := gw_i 1493 (by decide +kernel) (by decide +kernel)
theorem wm_Mo_dateOf : wm y_Mo_dateOf b_Mo_dateOf 5 (some FieldType.long) 1 := ⟨gw_i 14 (by decide +kernel) (by decide +kernel), gw_i 1481 (by decide +kernel) (by decide +kernel), ⟨by decide, by decide⟩, by decide +kernel⟩
theorem wi_Mo_dateOf : Cond.instanceMethod y_Mo_dateOf ∈ gw := gw_i 1480 (by decide +kernel) (by decide +kernel)
theorem wm_Mo_many : wm y_Mo_many b_Mo_many 3 (some FieldType.int) 0 := ⟨gw_i 14 (by decide +kernel) (by decide +kernel), gw_i 1560 (by decide +kernel) (by decide +kernel), ⟨by decide, by decide⟩, by decide +kernel⟩
theorem wi_Mo_many : Cond.instanceMethod y_Mo_many ∈ gw := gw_i 1559 (by decide +kernel) (by decide +kernel)
theorem wm_Mo_spec : wm y_Mo_spec b_Mo_spec 3 (some FieldType.boolean) 0 := ⟨gw_i 14 (by decide +kernel) (by decide +kernel), gw_i 1556 (by decide +kernel) (by decide +kernel), ⟨by decide, by decide⟩, by decide +kernel⟩
theorem wi_Mo_spec : Cond.instanceMethod y_Mo_spec ∈ gw := gw_i 1555 (by decide +kernel) (by decide +kernel)
theorem wm_Mo_ranges : wm y_Mo_ranges b_Mo_ranges 2 (some FieldType.boolean) 0 := ⟨gw_i 14 (by decide +kernel) (by decide +kernel), gw_i 1551 (by decide +kernel) (by decide +kernel), ⟨by decide, by decide⟩, by decide +kernel⟩
theorem wi_Mo_ranges : Cond.instanceMethod y_Mo_ranges ∈ gw := gw_i 1550 (by decide +kernel) (by decide +kernel)
theorem wm_Mo_resolve : wm y_Mo_resolve b_Mo_resolve 7 (none) 2 := ⟨gw_i 14 (by decide +kernel) (by decide +kernel), gw_i 1565 (by decide +kernel) (by decide +kernel), ⟨by decide, by decide⟩, by decide +kernel⟩
theorem wi_Mo_resolve : Cond.instanceMethod y_Mo_resolve ∈ gw := gw_i 1564 (by decide +kernel) (by decide +kernel)
theorem wm_Mo_overlap : wm y_Mo_overlap b_Mo_overlap 4 (some FieldType.boolean) 0 := ⟨gw_i 14 (by decide +kernel) (by decide +kernel), gw_i 1569 (by decide +kernel) (by decide +kernel), ⟨by decide, by decide⟩, by decide +kernel⟩
theorem wi_Mo_overlap : Cond.instanceMethod y_Mo_overlap ∈ gw := gw_i 1568 (by decide +kernel) (by decide +kernel)
theorem wm_Mo_ifRange : wm y_Mo_ifRange b_Mo_ifRange 4 (some FieldType.boolean) 1 := ⟨gw_i 14 (by decide +kernel) (by decide +kernel), gw_i 1547 (by decide +kernel) (by decide +kernel), ⟨by decide, by decide⟩, by decide +kernel⟩
theorem wi_Mo_ifRange : Cond.instanceMethod y_Mo_ifRange ∈ gw := gw_i 1546 (by decide +kernel) (by decide +kernel)
theorem wm_Mo_chosenOne : wm y_Mo_chosenOne b_Mo_chosenOne 5 (some FieldType.int) 0 := ⟨gw_i 14 (by decide +kernel) (by decide +kernel), gw_i 1341 (by decide +kernel) (by decide +kernel), ⟨by decide, by decide⟩, by decide +kernel⟩
theorem wi_Mo_chosenOne : Cond.instanceMethod y_Mo_chosenOne ∈ gw := gw_i 1340 (by decide +kernel) (by decide +kernel)
theorem wm_Mo_conditions : wm y_Mo_conditions b_Mo_conditions 4 (some FieldType.int) 1 := ⟨gw_i 14 (by decide +kernel) (by decide +kernel), gw_i 1465 (by decide +kernel) (by decide +kernel), ⟨by decide, by decide⟩, by decide +kernel⟩
theorem wi_Mo_conditions : Cond.instanceMethod y_Mo_conditions ∈ gw := gw_i 1464 (by decide +kernel) (by decide +kernel)
theorem wm_Mo_ranged : wm y_Mo_ranged b_Mo_ranged 3 (some FieldType.int) 1 := ⟨gw_i 14 (by decide +kernel) (by decide +kernel), gw_i 1543 (by decide +kernel) (by decide +kernel), ⟨by decide, by decide⟩, by decide +kernel⟩
theorem wi_Mo_ranged : Cond.instanceMethod y_Mo_ranged ∈ gw := gw_i 1542 (by decide +kernel) (by decide +kernel)
theorem wm_Mo_decide : wm y_Mo_decide b_Mo_decide 3 (some FieldType.int) 0 := ⟨gw_i 14 (by decide +kernel) (by decide +kernel), gw_i 1337 (by decide +kernel) (by decide +kernel), ⟨by decide, by decide⟩, by decide +kernel⟩
theorem wi_Mo_decide : Cond.instanceMethod y_Mo_decide ∈ gw := gw_i 1336 (by decide +kernel) (by decide +kernel)
theorem wm_Mo_respond : wm y_Mo_respond b_Mo_respond 1 (some FieldType.int) 0 := ⟨gw_i 14 (by decide +kernel) (by decide +kernel), gw_i 1333 (by decide +kernel) (by decide +kernel), ⟨by decide, by decide⟩, by decide +kernel⟩
theorem wi_Mo_respond : Cond.instanceMethod y_Mo_respond ∈ gw := gw_i 1331 (by decide +kernel) (by decide +kernel)
theorem wm_Mo_status : wm y_Mo_status b_Mo_status 1 (some FieldType.int) 0 := ⟨gw_i 14 (by decide +kernel) (by decide +kernel), gw_i 1573 (by decide +kernel) (by decide +kernel), ⟨by decide, by decide⟩, by decide +kernel⟩
theorem wi_Mo_status : Cond.instanceMethod y_Mo_status ∈ gw := gw_i 1571 (by decide +kernel) (by decide +kernel)
theorem wm_Mo_chosen : wm y_Mo_chosen b_Mo_chosen 1 (some FieldType.int) 0 := ⟨gw_i 14 (by decide +kernel) (by decide +kernel), gw_i 1577 (by decide +kernel) (by decide +kernel), ⟨by decide, by decide⟩, by decide +kernel⟩
theorem wi_Mo_chosen : Cond.instanceMethod y_Mo_chosen ∈ gw := gw_i 1575 (by decide +kernel) (by decide +kernel)
theorem wm_Mo_digitsOf : wm y_Mo_digitsOf b_Mo_digitsOf 3 (some FieldType.int) 1 := ⟨gw_i 14 (by decide +kernel) (by decide +kernel), gw_i 1593 (by decide +kernel) (by decide +kernel), ⟨by decide, by decide⟩, by decide +kernel⟩
theorem wt_Mo_digitsOf : Cond.static y_Mo_digitsOf ∈ gw := gw_i 1592 (by decide +kernel) (by decide +kernel)
theorem wm_Mo_byteAt : wm y_Mo_byteAt b_Mo_byteAt 2 (some FieldType.int) 1 := ⟨gw_i 14 (by decide +kernel) (by decide +kernel), gw_i 1602 (by decide +kernel) (by decide +kernel), ⟨by decide, by decide⟩, by decide +kernel⟩
theorem wi_Mo_byteAt : Cond.instanceMethod y_Mo_byteAt ∈ gw := gw_i 1601 (by decide +kernel) (by decide +kernel)
theorem wm_Mo_headOf : wm y_Mo_headOf b_Mo_headOf 2 (some FieldType.int) 1 := ⟨gw_i 14 (by decide +kernel) (by decide +kernel), gw_i 1590 (by decide +kernel) (by decide +kernel), ⟨by decide, by decide⟩, by decide +kernel⟩
theorem wi_Mo_headOf : Cond.instanceMethod y_Mo_headOf ∈ gw := gw_i 1589 (by decide +kernel) (by decide +kernel)
theorem wm_Mo_partSize : wm y_Mo_partSize b_Mo_partSize 2 (some FieldType.int) 1 := ⟨gw_i 14 (by decide +kernel) (by decide +kernel), gw_i 1586 (by decide +kernel) (by decide +kernel), ⟨by decide, by decide⟩, by decide +kernel⟩
theorem wi_Mo_partSize : Cond.instanceMethod y_Mo_partSize ∈ gw := gw_i 1585 (by decide +kernel) (by decide +kernel)
theorem wm_Mo_length : wm y_Mo_length b_Mo_length 4 (some FieldType.long) 0 := ⟨gw_i 14 (by decide +kernel) (by decide +kernel), gw_i 1581 (by decide +kernel) (by decide +kernel), ⟨by decide, by decide⟩, by decide +kernel⟩
theorem wi_Mo_length : Cond.instanceMethod y_Mo_length ∈ gw := gw_i 1579 (by decide +kernel) (by decide +kernel)
theorem wm_Mo_digitOf : wm y_Mo_digitOf b_Mo_digitOf 4 (some FieldType.int) 2 := ⟨gw_i 14 (by decide +kernel) (by decide +kernel), gw_i 1615 (by decide +kernel) (by decide +kernel), ⟨by decide, by decide⟩, by decide +kernel⟩
theorem wt_Mo_digitOf : Cond.static y_Mo_digitOf ∈ gw := gw_i 1614 (by decide +kernel) (by decide +kernel)
theorem wm_Mo_figures : wm y_Mo_figures b_Mo_figures 6 (some FieldType.int) 3 := ⟨gw_i 14 (by decide +kernel) (by decide +kernel), gw_i 1612 (by decide +kernel) (by decide +kernel), ⟨by decide, by decide⟩, by decide +kernel⟩
theorem wi_Mo_figures : Cond.instanceMethod y_Mo_figures ∈ gw := gw_i 1611 (by decide +kernel) (by decide +kernel)
theorem wm_Mo_crlf : wm y_Mo_crlf b_Mo_crlf 1 (some FieldType.int) 1 := ⟨gw_i 14 (by decide +kernel) (by decide +kernel), gw_i 1618 (by decide +kernel) (by decide +kernel), ⟨by decide, by decide⟩, by decide +kernel⟩
theorem wt_Mo_crlf : Cond.static y_Mo_crlf ∈ gw := gw_i 1617 (by decide +kernel) (by decide +kernel)
theorem wm_Mo_partByte : wm y_Mo_partByte b_Mo_partByte 5 (some FieldType.int) 2 := ⟨gw_i 14 (by decide +kernel) (by decide +kernel), gw_i 1606 (by decide +kernel) (by decide +kernel), ⟨by decide, by decide⟩, by decide +kernel⟩
theorem wi_Mo_partByte : Cond.instanceMethod y_Mo_partByte ∈ gw := gw_i 1605 (by decide +kernel) (by decide +kernel)
theorem wm_Mo_body : wm y_Mo_body b_Mo_body 4 (some FieldType.int) 1 := ⟨gw_i 14 (by decide +kernel) (by decide +kernel), gw_i 1597 (by decide +kernel) (by decide +kernel), ⟨by decide, by decide⟩, by decide +kernel⟩
theorem wi_Mo_body : Cond.instanceMethod y_Mo_body ∈ gw := gw_i 1595 (by decide +kernel) (by decide +kernel)
theorem wm_Mo_parts : wm y_Mo_parts b_Mo_parts 1 (some FieldType.int) 0 := ⟨gw_i 14 (by decide +kernel) (by decide +kernel), gw_i 1623 (by decide +kernel) (by decide +kernel), ⟨by decide, by decide⟩, by decide +kernel⟩
theorem wi_Mo_parts : Cond.instanceMethod y_Mo_parts ∈ gw := gw_i 1621 (by decide +kernel) (by decide +kernel)
theorem wm_Mo_first : wm y_Mo_first b_Mo_first 2 (some FieldType.int) 1 := ⟨gw_i 14 (by decide +kernel) (by decide +kernel), gw_i 1627 (by decide +kernel) (by decide +kernel), ⟨by decide, by decide⟩, by decide +kernel⟩
theorem wi_Mo_first : Cond.instanceMethod y_Mo_first ∈ gw := gw_i 1625 (by decide +kernel) (by decide +kernel)
theorem wm_Mo_last : wm y_Mo_last b_Mo_last 2 (some FieldType.int) 1 := ⟨gw_i 14 (by decide +kernel) (by decide +kernel), gw_i 1632 (by decide +kernel) (by decide +kernel), ⟨by decide, by decide⟩, by decide +kernel⟩
theorem wi_Mo_last : Cond.instanceMethod y_Mo_last ∈ gw := gw_i 1630 (by decide +kernel) (by decide +kernel)
theorem wm_Mo_score : wm y_Mo_score b_Mo_score 2 (some FieldType.int) 1 := ⟨gw_i 14 (by decide +kernel) (by decide +kernel), gw_i 1636 (by decide +kernel) (by decide +kernel), ⟨by decide, by decide⟩, by decide +kernel⟩
theorem wi_Mo_score : Cond.instanceMethod y_Mo_score ∈ gw := gw_i 1634 (by decide +kernel) (by decide +kernel)
theorem wm_Mo_formed : wm y_Mo_formed b_Mo_formed 2 (some FieldType.boolean) 1 := ⟨gw_i 14 (by decide +kernel) (by decide +kernel), gw_i 1640 (by decide +kernel) (by decide +kernel), ⟨by decide, by decide⟩, by decide +kernel⟩
theorem wi_Mo_formed : Cond.instanceMethod y_Mo_formed ∈ gw := gw_i 1638 (by decide +kernel) (by decide +kernel)
theorem wm_Mo_loneTag : wm y_Mo_loneTag b_Mo_loneTag 2 (some FieldType.boolean) 0 := ⟨gw_i 14 (by decide +kernel) (by decide +kernel), gw_i 1644 (by decide +kernel) (by decide +kernel), ⟨by decide, by decide⟩, by decide +kernel⟩
theorem wi_Mo_loneTag : Cond.instanceMethod y_Mo_loneTag ∈ gw := gw_i 1643 (by decide +kernel) (by decide +kernel)
theorem wm_Mo_date : wm y_Mo_date b_Mo_date 2 (some FieldType.long) 1 := ⟨gw_i 14 (by decide +kernel) (by decide +kernel), gw_i 1648 (by decide +kernel) (by decide +kernel), ⟨by decide, by decide⟩, by decide +kernel⟩
theorem wi_Mo_date : Cond.instanceMethod y_Mo_date ∈ gw := gw_i 1646 (by decide +kernel) (by decide +kernel)
theorem wm_Ac_init : wm y_Ac_init b_Ac_init 1 (none) 0 := ⟨gw_i 4 (by decide +kernel) (by decide +kernel), gw_i 63 (by decide +kernel) (by decide +kernel), ⟨by decide, by decide⟩, by decide +kernel⟩
theorem wi_Ac_init : Cond.instanceMethod y_Ac_init ∈ gw := gw_i 62 (by decide +kernel) (by decide +kernel)
theorem wm_Ac_read : wm y_Ac_read b_Ac_read 4 (some FieldType.boolean) 2 := ⟨gw_i 4 (by decide +kernel) (by decide +kernel), gw_i 591 (by decide +kernel) (by decide +kernel), ⟨by decide, by decide⟩, by decide +kernel⟩
theorem wi_Ac_read : Cond.instanceMethod y_Ac_read ∈ gw := gw_i 589 (by decide +kernel) (by decide +kernel)
theorem wm_Ac_readTokens : wm y_Ac_readTokens b_Ac_readTokens 5 (some FieldType.boolean) 1 := ⟨gw_i 4 (by decide +kernel) (by decide +kernel), gw_i 611 (by decide +kernel) (by decide +kernel), ⟨by decide, by decide⟩, by decide +kernel⟩
theorem wi_Ac_readTokens : Cond.instanceMethod y_Ac_readTokens ∈ gw := gw_i 610 (by decide +kernel) (by decide +kernel)
theorem wm_Ac_readParameters : wm y_Ac_readParameters b_Ac_readParameters 4 (some FieldType.boolean) 1 := ⟨gw_i 4 (by decide +kernel) (by decide +kernel), gw_i 723 (by decide +kernel) (by decide +kernel), ⟨by decide, by decide⟩, by decide +kernel⟩
theorem wi_Ac_readParameters : Cond.instanceMethod y_Ac_readParameters ∈ gw := gw_i 722 (by decide +kernel) (by decide +kernel)
theorem wm_Ac_weigh : wm y_Ac_weigh b_Ac_weigh 1 (none) 0 := ⟨gw_i 4 (by decide +kernel) (by decide +kernel), gw_i 774 (by decide +kernel) (by decide +kernel), ⟨by decide, by decide⟩, by decide +kernel⟩
theorem wi_Ac_weigh : Cond.instanceMethod y_Ac_weigh ∈ gw := gw_i 773 (by decide +kernel) (by decide +kernel)
theorem wm_Da_init : wm y_Da_init b_Da_init 3 (none) 1 := ⟨gw_i 13 (by decide +kernel) (by decide +kernel), gw_i 248 (by decide +kernel) (by decide +kernel), ⟨by decide, by decide⟩, by decide +kernel⟩
theorem wi_Da_init : Cond.instanceMethod y_Da_init ∈ gw := gw_i 247 (by decide +kernel) (by decide +kernel)
theorem wm_Da_timeOf : wm y_Da_timeOf b_Da_timeOf 5 (some FieldType.long) 2 := ⟨gw_i 13 (by decide +kernel) (by decide +kernel), gw_i 894 (by decide +kernel) (by decide +kernel), ⟨by decide, by decide⟩, by decide +kernel⟩
theorem wi_Da_timeOf : Cond.instanceMethod y_Da_timeOf ∈ gw := gw_i 892 (by decide +kernel) (by decide +kernel)
theorem wm_Da_takeCommaForm : wm y_Da_takeCommaForm b_Da_takeCommaForm 2 (some FieldType.boolean) 0 := ⟨gw_i 13 (by decide +kernel) (by decide +kernel), gw_i 915 (by decide +kernel) (by decide +kernel), ⟨by decide, by decide⟩, by decide +kernel⟩
theorem wi_Da_takeCommaForm : Cond.instanceMethod y_Da_takeCommaForm ∈ gw := gw_i 914 (by decide +kernel) (by decide +kernel)
theorem wm_Da_takeDashForm : wm y_Da_takeDashForm b_Da_takeDashForm 2 (some FieldType.boolean) 0 := ⟨gw_i 13 (by decide +kernel) (by decide +kernel), gw_i 962 (by decide +kernel) (by decide +kernel), ⟨by decide, by decide⟩, by decide +kernel⟩
theorem wi_Da_takeDashForm : Cond.instanceMethod y_Da_takeDashForm ∈ gw := gw_i 961 (by decide +kernel) (by decide +kernel)
theorem wm_Da_takeSpaceForm : wm y_Da_takeSpaceForm b_Da_takeSpaceForm 2 (some FieldType.boolean) 0 := ⟨gw_i 13 (by decide +kernel) (by decide +kernel), gw_i 946 (by decide +kernel) (by decide +kernel), ⟨by decide, by decide⟩, by decide +kernel⟩
theorem wi_Da_takeSpaceForm : Cond.instanceMethod y_Da_takeSpaceForm ∈ gw := gw_i 945 (by decide +kernel) (by decide +kernel)
theorem wm_Da_restOfName : wm y_Da_restOfName b_Da_restOfName 1 (some (FieldType.object "java/lang/String")) 1 := ⟨gw_i 13 (by decide +kernel) (by decide +kernel), gw_i 953 (by decide +kernel) (by decide +kernel), ⟨by decide, by decide⟩, by decide +kernel⟩
theorem wt_Da_restOfName : Cond.static y_Da_restOfName ∈ gw := gw_i 952 (by decide +kernel) (by decide +kernel)
theorem wm_Da_takeDay : wm y_Da_takeDay b_Da_takeDay 1 (some FieldType.boolean) 0 := ⟨gw_i 13 (by decide +kernel) (by decide +kernel), gw_i 919 (by decide +kernel) (by decide +kernel), ⟨by decide, by decide⟩, by decide +kernel⟩
theorem wi_Da_takeDay : Cond.instanceMethod y_Da_takeDay ∈ gw := gw_i 918 (by decide +kernel) (by decide +kernel)
theorem wm_Da_takeSpacedDay : wm y_Da_takeSpacedDay b_Da_takeSpacedDay 2 (some FieldType.boolean) 0 := ⟨gw_i 13 (by decide +kernel) (by decide +kernel), gw_i 950 (by decide +kernel) (by decide +kernel), ⟨by decide, by decide⟩, by decide +kernel⟩
theorem wi_Da_takeSpacedDay : Cond.instanceMethod y_Da_takeSpacedDay ∈ gw := gw_i 949 (by decide +kernel) (by decide +kernel)
theorem wm_Da_takeMonth : wm y_Da_takeMonth b_Da_takeMonth 1 (some FieldType.boolean) 0 := ⟨gw_i 13 (by decide +kernel) (by decide +kernel), gw_i 929 (by decide +kernel) (by decide +kernel), ⟨by decide, by decide⟩, by decide +kernel⟩
theorem wi_Da_takeMonth : Cond.instanceMethod y_Da_takeMonth ∈ gw := gw_i 928 (by decide +kernel) (by decide +kernel)
theorem wm_Da_takeYear : wm y_Da_takeYear b_Da_takeYear 1 (some FieldType.boolean) 0 := ⟨gw_i 13 (by decide +kernel) (by decide +kernel), gw_i 934 (by decide +kernel) (by decide +kernel), ⟨by decide, by decide⟩, by decide +kernel⟩
theorem wi_Da_takeYear : Cond.instanceMethod y_Da_takeYear ∈ gw := gw_i 933 (by decide +kernel) (by decide +kernel)
theorem wm_Da_takeShortYear : wm y_Da_takeShortYear b_Da_takeShortYear 2 (some FieldType.boolean) 0 := ⟨gw_i 13 (by decide +kernel) (by decide +kernel), gw_i 967 (by decide +kernel) (by decide +kernel), ⟨by decide, by decide⟩, by decide +kernel⟩
theorem wi_Da_takeShortYear : Cond.instanceMethod y_Da_takeShortYear ∈ gw := gw_i 966 (by decide +kernel) (by decide +kernel)
theorem wm_Da_takeClock : wm y_Da_takeClock b_Da_takeClock 4 (some FieldType.boolean) 0 := ⟨gw_i 13 (by decide +kernel) (by decide +kernel), gw_i 938 (by decide +kernel) (by decide +kernel), ⟨by decide, by decide⟩, by decide +kernel⟩
theorem wi_Da_takeClock : Cond.instanceMethod y_Da_takeClock ∈ gw := gw_i 937 (by decide +kernel) (by decide +kernel)
theorem wm_Da_isInCalendar : wm y_Da_isInCalendar b_Da_isInCalendar 1 (some FieldType.boolean) 0 := ⟨gw_i 13 (by decide +kernel) (by decide +kernel), gw_i 974 (by decide +kernel) (by decide +kernel), ⟨by decide, by decide⟩, by decide +kernel⟩
theorem wi_Da_isInCalendar : Cond.instanceMethod y_Da_isInCalendar ∈ gw := gw_i 973 (by decide +kernel) (by decide +kernel)
theorem wm_Da_time : wm y_Da_time b_Da_time 4 (some FieldType.long) 0 := ⟨gw_i 13 (by decide +kernel) (by decide +kernel), gw_i 983 (by decide +kernel) (by decide +kernel), ⟨by decide, by decide⟩, by decide +kernel⟩
theorem wi_Da_time : Cond.instanceMethod y_Da_time ∈ gw := gw_i 982 (by decide +kernel) (by decide +kernel)
theorem wm_Da_daysOf : wm y_Da_daysOf b_Da_daysOf 2 (some FieldType.int) 2 := ⟨gw_i 13 (by decide +kernel) (by decide +kernel), gw_i 977 (by decide +kernel) (by decide +kernel), ⟨by decide, by decide⟩, by decide +kernel⟩
theorem wt_Da_daysOf : Cond.static y_Da_daysOf ∈ gw := gw_i 976 (by decide +kernel) (by decide +kernel)
theorem wm_Da_daysBefore : wm y_Da_daysBefore b_Da_daysBefore 1 (some FieldType.int) 1 := ⟨gw_i 13 (by decide +kernel) (by decide +kernel), gw_i 256 (by decide +kernel) (by decide +kernel), ⟨by decide, by decide⟩, by decide +kernel⟩
theorem wt_Da_daysBefore : Cond.static y_Da_daysBefore ∈ gw := gw_i 255 (by decide +kernel) (by decide +kernel)
theorem wm_Da_yearOf : wm y_Da_yearOf b_Da_yearOf 5 (some FieldType.int) 1 := ⟨gw_i 13 (by decide +kernel) (by decide +kernel), gw_i 252 (by decide +kernel) (by decide +kernel), ⟨by decide, by decide⟩, by decide +kernel⟩
theorem wt_Da_yearOf : Cond.static y_Da_yearOf ∈ gw := gw_i 251 (by decide +kernel) (by decide +kernel)
theorem wm_La_init : wm y_La_init b_La_init 1 (none) 0 := ⟨gw_i 5 (by decide +kernel) (by decide +kernel), gw_i 104 (by decide +kernel) (by decide +kernel), ⟨by decide, by decide⟩, by decide +kernel⟩
theorem wi_La_init : Cond.instanceMethod y_La_init ∈ gw := gw_i 103 (by decide +kernel) (by decide +kernel)
theorem wm_La_read : wm y_La_read b_La_read 4 (some FieldType.boolean) 2 := ⟨gw_i 5 (by decide +kernel) (by decide +kernel), gw_i 780 (by decide +kernel) (by decide +kernel), ⟨by decide, by decide⟩, by decide +kernel⟩
theorem wi_La_read : Cond.instanceMethod y_La_read ∈ gw := gw_i 778 (by decide +kernel) (by decide +kernel)
theorem wm_La_readRange : wm y_La_readRange b_La_readRange 4 (some FieldType.boolean) 1 := ⟨gw_i 5 (by decide +kernel) (by decide +kernel), gw_i 790 (by decide +kernel) (by decide +kernel), ⟨by decide, by decide⟩, by decide +kernel⟩
theorem wi_La_readRange : Cond.instanceMethod y_La_readRange ∈ gw := gw_i 789 (by decide +kernel) (by decide +kernel)
theorem wm_La_fitOf : wm y_La_fitOf b_La_fitOf 2 (some FieldType.int) 1 := ⟨gw_i 5 (by decide +kernel) (by decide +kernel), gw_i 812 (by decide +kernel) (by decide +kernel), ⟨by decide, by decide⟩, by decide +kernel⟩
theorem wi_La_fitOf : Cond.instanceMethod y_La_fitOf ∈ gw := gw_i 811 (by decide +kernel) (by decide +kernel)
theorem wm_Ra_init : wm y_Ra_init b_Ra_init 1 (none) 0 := ⟨gw_i 7 (by decide +kernel) (by decide +kernel), gw_i 147 (by decide +kernel) (by decide +kernel), ⟨by decide, by decide⟩, by decide +kernel⟩
theorem wi_Ra_init : Cond.instanceMethod y_Ra_init ∈ gw := gw_i 146 (by decide +kernel) (by decide +kernel)
theorem wm_Ra_read : wm y_Ra_read b_Ra_read 3 (some FieldType.boolean) 2 := ⟨gw_i 7 (by decide +kernel) (by decide +kernel), gw_i 992 (by decide +kernel) (by decide +kernel), ⟨by decide, by decide⟩, by decide +kernel⟩
theorem wi_Ra_read : Cond.instanceMethod y_Ra_read ∈ gw := gw_i 990 (by decide +kernel) (by decide +kernel)
theorem wm_Ra_overlap : wm y_Ra_overlap b_Ra_overlap 3 (some FieldType.boolean) 0 := ⟨gw_i 7 (by decide +kernel) (by decide +kernel), gw_i 1043 (by decide +kernel) (by decide +kernel), ⟨by decide, by decide⟩, by decide +kernel⟩
theorem wi_Ra_overlap : Cond.instanceMethod y_Ra_overlap ∈ gw := gw_i 1041 (by decide +kernel) (by decide +kernel)
theorem wm_Ra_readSpec : wm y_Ra_readSpec b_Ra_readSpec 4 (some FieldType.boolean) 1 := ⟨gw_i 7 (by decide +kernel) (by decide +kernel), gw_i 1015 (by decide +kernel) (by decide +kernel), ⟨by decide, by decide⟩, by decide +kernel⟩
theorem wi_Ra_readSpec : Cond.instanceMethod y_Ra_readSpec ∈ gw := gw_i 1014 (by decide +kernel) (by decide +kernel)
theorem wm_Ra_keep : wm y_Ra_keep b_Ra_keep 3 (none) 2 := ⟨gw_i 7 (by decide +kernel) (by decide +kernel), gw_i 1027 (by decide +kernel) (by decide +kernel), ⟨by decide, by decide⟩, by decide +kernel⟩
theorem wi_Ra_keep : Cond.instanceMethod y_Ra_keep ∈ gw := gw_i 1026 (by decide +kernel) (by decide +kernel)
theorem wm_Rd_init : wm y_Rd_init b_Rd_init 1 (none) 0 := ⟨gw_i 3 (by decide +kernel) (by decide +kernel), gw_i 66 (by decide +kernel) (by decide +kernel), ⟨by decide, by decide⟩, by decide +kernel⟩
theorem wi_Rd_init : Cond.instanceMethod y_Rd_init ∈ gw := gw_i 65 (by decide +kernel) (by decide +kernel)
theorem wm_Rd_open : wm y_Rd_open b_Rd_open 3 (none) 2 := ⟨gw_i 3 (by decide +kernel) (by decide +kernel), gw_i 597 (by decide +kernel) (by decide +kernel), ⟨by decide, by decide⟩, by decide +kernel⟩
theorem wi_Rd_open : Cond.instanceMethod y_Rd_open ∈ gw := gw_i 596 (by decide +kernel) (by decide +kernel)
theorem wm_Rd_isEnded : wm y_Rd_isEnded b_Rd_isEnded 1 (some FieldType.boolean) 0 := ⟨gw_i 3 (by decide +kernel) (by decide +kernel), gw_i 861 (by decide +kernel) (by decide +kernel), ⟨by decide, by decide⟩, by decide +kernel⟩
theorem wi_Rd_isEnded : Cond.instanceMethod y_Rd_isEnded ∈ gw := gw_i 860 (by decide +kernel) (by decide +kernel)
theorem wm_Rd_isNext : wm y_Rd_isNext b_Rd_isNext 2 (some FieldType.boolean) 1 := ⟨gw_i 3 (by decide +kernel) (by decide +kernel), gw_i 755 (by decide +kernel) (by decide +kernel), ⟨by decide, by decide⟩, by decide +kernel⟩
theorem wi_Rd_isNext : Cond.instanceMethod y_Rd_isNext ∈ gw := gw_i 754 (by decide +kernel) (by decide +kernel)
theorem wm_Rd_take : wm y_Rd_take b_Rd_take 2 (some FieldType.boolean) 1 := ⟨gw_i 3 (by decide +kernel) (by decide +kernel), gw_i 719 (by decide +kernel) (by decide +kernel), ⟨by decide, by decide⟩, by decide +kernel⟩
theorem wi_Rd_take : Cond.instanceMethod y_Rd_take ∈ gw := gw_i 718 (by decide +kernel) (by decide +kernel)
theorem wm_Rd_skipGap : wm y_Rd_skipGap b_Rd_skipGap 1 (none) 0 := ⟨gw_i 3 (by decide +kernel) (by decide +kernel), gw_i 738 (by decide +kernel) (by decide +kernel), ⟨by decide, by decide⟩, by decide +kernel⟩
theorem wi_Rd_skipGap : Cond.instanceMethod y_Rd_skipGap ∈ gw := gw_i 731 (by decide +kernel) (by decide +kernel)
theorem wm_Rd_findElement : wm y_Rd_findElement b_Rd_findElement 1 (some FieldType.boolean) 0 := ⟨gw_i 3 (by decide +kernel) (by decide +kernel), gw_i 607 (by decide +kernel) (by decide +kernel), ⟨by decide, by decide⟩, by decide +kernel⟩
theorem wi_Rd_findElement : Cond.instanceMethod y_Rd_findElement ∈ gw := gw_i 606 (by decide +kernel) (by decide +kernel)
theorem wm_Rd_endsElement : wm y_Rd_endsElement b_Rd_endsElement 1 (some FieldType.boolean) 0 := ⟨gw_i 3 (by decide +kernel) (by decide +kernel), gw_i 770 (by decide +kernel) (by decide +kernel), ⟨by decide, by decide⟩, by decide +kernel⟩
theorem wi_Rd_endsElement : Cond.instanceMethod y_Rd_endsElement ∈ gw := gw_i 769 (by decide +kernel) (by decide +kernel)
theorem wm_Rd_takeSemicolon : wm y_Rd_takeSemicolon b_Rd_takeSemicolon 1 (some FieldType.boolean) 0 := ⟨gw_i 3 (by decide +kernel) (by decide +kernel), gw_i 729 (by decide +kernel) (by decide +kernel), ⟨by decide, by decide⟩, by decide +kernel⟩
theorem wi_Rd_takeSemicolon : Cond.instanceMethod y_Rd_takeSemicolon ∈ gw := gw_i 728 (by decide +kernel) (by decide +kernel)
theorem wm_Rd_takeText : wm y_Rd_takeText b_Rd_takeText 3 (some FieldType.boolean) 1 := ⟨gw_i 3 (by decide +kernel) (by decide +kernel), gw_i 878 (by decide +kernel) (by decide +kernel), ⟨by decide, by decide⟩, by decide +kernel⟩
theorem wi_Rd_takeText : Cond.instanceMethod y_Rd_takeText ∈ gw := gw_i 877 (by decide +kernel) (by decide +kernel)
theorem wm_Rd_takeAlike : wm y_Rd_takeAlike b_Rd_takeAlike 3 (some FieldType.boolean) 1 := ⟨gw_i 3 (by decide +kernel) (by decide +kernel), gw_i 1005 (by decide +kernel) (by decide +kernel), ⟨by decide, by decide⟩, by decide +kernel⟩
theorem wi_Rd_takeAlike : Cond.instanceMethod y_Rd_takeAlike ∈ gw := gw_i 1004 (by decide +kernel) (by decide +kernel)
theorem wm_Rd_takeToken : wm y_Rd_takeToken b_Rd_takeToken 1 (some FieldType.boolean) 0 := ⟨gw_i 3 (by decide +kernel) (by decide +kernel), gw_i 617 (by decide +kernel) (by decide +kernel), ⟨by decide, by decide⟩, by decide +kernel⟩
theorem wi_Rd_takeToken : Cond.instanceMethod y_Rd_takeToken ∈ gw := gw_i 616 (by decide +kernel) (by decide +kernel)
theorem wm_Rd_takeQuotedText : wm y_Rd_takeQuotedText b_Rd_takeQuotedText 1 (some FieldType.boolean) 0 := ⟨gw_i 3 (by decide +kernel) (by decide +kernel), gw_i 761 (by decide +kernel) (by decide +kernel), ⟨by decide, by decide⟩, by decide +kernel⟩
theorem wi_Rd_takeQuotedText : Cond.instanceMethod y_Rd_takeQuotedText ∈ gw := gw_i 760 (by decide +kernel) (by decide +kernel)
theorem wm_Rd_takeOpaque : wm y_Rd_takeOpaque b_Rd_takeOpaque 1 (some FieldType.boolean) 0 := ⟨gw_i 3 (by decide +kernel) (by decide +kernel), gw_i 884 (by decide +kernel) (by decide +kernel), ⟨by decide, by decide⟩, by decide +kernel⟩
theorem wi_Rd_takeOpaque : Cond.instanceMethod y_Rd_takeOpaque ∈ gw := gw_i 883 (by decide +kernel) (by decide +kernel)
theorem wm_Rd_takeLanguage : wm y_Rd_takeLanguage b_Rd_takeLanguage 4 (some FieldType.boolean) 0 := ⟨gw_i 3 (by decide +kernel) (by decide +kernel), gw_i 796 (by decide +kernel) (by decide +kernel), ⟨by decide, by decide⟩, by decide +kernel⟩
theorem wi_Rd_takeLanguage : Cond.instanceMethod y_Rd_takeLanguage ∈ gw := gw_i 795 (by decide +kernel) (by decide +kernel)
theorem wm_Rd_takeWeight : wm y_Rd_takeWeight b_Rd_takeWeight 4 (some FieldType.int) 0 := ⟨gw_i 3 (by decide +kernel) (by decide +kernel), gw_i 746 (by decide +kernel) (by decide +kernel), ⟨by decide, by decide⟩, by decide +kernel⟩
theorem wi_Rd_takeWeight : Cond.instanceMethod y_Rd_takeWeight ∈ gw := gw_i 745 (by decide +kernel) (by decide +kernel)
theorem wm_Rd_takeNumber : wm y_Rd_takeNumber b_Rd_takeNumber 3 (some FieldType.int) 0 := ⟨gw_i 3 (by decide +kernel) (by decide +kernel), gw_i 1021 (by decide +kernel) (by decide +kernel), ⟨by decide, by decide⟩, by decide +kernel⟩
theorem wi_Rd_takeNumber : Cond.instanceMethod y_Rd_takeNumber ∈ gw := gw_i 1020 (by decide +kernel) (by decide +kernel)
theorem wm_Rd_takeDigits : wm y_Rd_takeDigits b_Rd_takeDigits 4 (some FieldType.int) 1 := ⟨gw_i 3 (by decide +kernel) (by decide +kernel), gw_i 925 (by decide +kernel) (by decide +kernel), ⟨by decide, by decide⟩, by decide +kernel⟩
theorem wi_Rd_takeDigits : Cond.instanceMethod y_Rd_takeDigits ∈ gw := gw_i 924 (by decide +kernel) (by decide +kernel)
theorem wm_Rd_takeName : wm y_Rd_takeName b_Rd_takeName 4 (some FieldType.int) 1 := ⟨gw_i 3 (by decide +kernel) (by decide +kernel), gw_i 907 (by decide +kernel) (by decide +kernel), ⟨by decide, by decide⟩, by decide +kernel⟩
theorem wi_Rd_takeName : Cond.instanceMethod y_Rd_takeName ∈ gw := gw_i 906 (by decide +kernel) (by decide +kernel)
theorem wm_Rd_saidSize : wm y_Rd_saidSize b_Rd_saidSize 1 (some FieldType.int) 0 := ⟨gw_i 3 (by decide +kernel) (by decide +kernel), gw_i 825 (by decide +kernel) (by decide +kernel), ⟨by decide, by decide⟩, by decide +kernel⟩
theorem wi_Rd_saidSize : Cond.instanceMethod y_Rd_saidSize ∈ gw := gw_i 824 (by decide +kernel) (by decide +kernel)
theorem wm_Rd_isSaid : wm y_Rd_isSaid b_Rd_isSaid 3 (some FieldType.boolean) 1 := ⟨gw_i 3 (by decide +kernel) (by decide +kernel), gw_i 686 (by decide +kernel) (by decide +kernel), ⟨by decide, by decide⟩, by decide +kernel⟩
theorem wi_Rd_isSaid : Cond.instanceMethod y_Rd_isSaid ∈ gw := gw_i 685 (by decide +kernel) (by decide +kernel)
theorem wm_Rd_isSaidAlike : wm y_Rd_isSaidAlike b_Rd_isSaidAlike 3 (some FieldType.boolean) 1 := ⟨gw_i 3 (by decide +kernel) (by decide +kernel), gw_i 704 (by decide +kernel) (by decide +kernel), ⟨by decide, by decide⟩, by decide +kernel⟩
theorem wi_Rd_isSaidAlike : Cond.instanceMethod y_Rd_isSaidAlike ∈ gw := gw_i 703 (by decide +kernel) (by decide +kernel)
theorem wm_Rd_saysStar : wm y_Rd_saysStar b_Rd_saysStar 2 (some FieldType.boolean) 0 := ⟨gw_i 3 (by decide +kernel) (by decide +kernel), gw_i 713 (by decide +kernel) (by decide +kernel), ⟨by decide, by decide⟩, by decide +kernel⟩
theorem wi_Rd_saysStar : Cond.instanceMethod y_Rd_saysStar ∈ gw := gw_i 712 (by decide +kernel) (by decide +kernel)
theorem wm_Rd_say : wm y_Rd_say b_Rd_say 2 (none) 1 := ⟨gw_i 3 (by decide +kernel) (by decide +kernel), gw_i 679 (by decide +kernel) (by decide +kernel), ⟨by decide, by decide⟩, by decide +kernel⟩
theorem wi_Rd_say : Cond.instanceMethod y_Rd_say ∈ gw := gw_i 678 (by decide +kernel) (by decide +kernel)
theorem wm_Rd_isDigit : wm y_Rd_isDigit b_Rd_isDigit 1 (some FieldType.boolean) 1 := ⟨gw_i 3 (by decide +kernel) (by decide +kernel), gw_i 749 (by decide +kernel) (by decide +kernel), ⟨by decide, by decide⟩, by decide +kernel⟩
theorem wt_Rd_isDigit : Cond.static y_Rd_isDigit ∈ gw := gw_i 748 (by decide +kernel) (by decide +kernel)
theorem wm_Rd_isLetter : wm y_Rd_isLetter b_Rd_isLetter 2 (some FieldType.boolean) 1 := ⟨gw_i 3 (by decide +kernel) (by decide +kernel), gw_i 799 (by decide +kernel) (by decide +kernel), ⟨by decide, by decide⟩, by decide +kernel⟩
theorem wt_Rd_isLetter : Cond.static y_Rd_isLetter ∈ gw := gw_i 798 (by decide +kernel) (by decide +kernel)
theorem wm_Rd_lower : wm y_Rd_lower b_Rd_lower 1 (some FieldType.int) 1 := ⟨gw_i 3 (by decide +kernel) (by decide +kernel), gw_i 707 (by decide +kernel) (by decide +kernel), ⟨by decide, by decide⟩, by decide +kernel⟩
theorem wt_Rd_lower : Cond.static y_Rd_lower ∈ gw := gw_i 706 (by decide +kernel) (by decide +kernel)
theorem wm_Rd_isQuotable : wm y_Rd_isQuotable b_Rd_isQuotable 1 (some FieldType.boolean) 1 := ⟨gw_i 3 (by decide +kernel) (by decide +kernel), gw_i 764 (by decide +kernel) (by decide +kernel), ⟨by decide, by decide⟩, by decide +kernel⟩
theorem wt_Rd_isQuotable : Cond.static y_Rd_isQuotable ∈ gw := gw_i 763 (by decide +kernel) (by decide +kernel)
theorem wm_Rp_init : wm y_Rp_init b_Rp_init 9 (none) 7 := ⟨gw_i 15 (by decide +kernel) (by decide +kernel), gw_i 322 (by decide +kernel) (by decide +kernel), ⟨by decide, by decide⟩, by decide +kernel⟩
theorem wi_Rp_init : Cond.instanceMethod y_Rp_init ∈ gw := gw_i 321 (by decide +kernel) (by decide +kernel)
theorem wm_Rp_byteAt : wm y_Rp_byteAt b_Rp_byteAt 2 (some FieldType.int) 1 := ⟨gw_i 15 (by decide +kernel) (by decide +kernel), gw_i 1141 (by decide +kernel) (by decide +kernel), ⟨by decide, by decide⟩, by decide +kernel⟩
theorem wi_Rp_byteAt : Cond.instanceMethod y_Rp_byteAt ∈ gw := gw_i 1139 (by decide +kernel) (by decide +kernel)
theorem wm_Rq_init : wm y_Rq_init b_Rq_init 1 (none) 0 := ⟨gw_i 2 (by decide +kernel) (by decide +kernel), gw_i 41 (by decide +kernel) (by decide +kernel), ⟨by decide, by decide⟩, by decide +kernel⟩
theorem wi_Rq_init : Cond.instanceMethod y_Rq_init ∈ gw := gw_i 40 (by decide +kernel) (by decide +kernel)
theorem wm_Rq_restart : wm y_Rq_restart b_Rq_restart 3 (none) 1 := ⟨gw_i 2 (by decide +kernel) (by decide +kernel), gw_i 557 (by decide +kernel) (by decide +kernel), ⟨by decide, by decide⟩, by decide +kernel⟩
theorem wi_Rq_restart : Cond.instanceMethod y_Rq_restart ∈ gw := gw_i 555 (by decide +kernel) (by decide +kernel)
theorem wm_Rq_has : wm y_Rq_has b_Rq_has 2 (some FieldType.boolean) 1 := ⟨gw_i 2 (by decide +kernel) (by decide +kernel), gw_i 601 (by decide +kernel) (by decide +kernel), ⟨by decide, by decide⟩, by decide +kernel⟩
theorem wi_Rq_has : Cond.instanceMethod y_Rq_has ∈ gw := gw_i 599 (by decide +kernel) (by decide +kernel)
theorem wm_Rq_append : wm y_Rq_append b_Rq_append 7 (some FieldType.int) 2 := ⟨gw_i 2 (by decide +kernel) (by decide +kernel), gw_i 565 (by decide +kernel) (by decide +kernel), ⟨by decide, by decide⟩, by decide +kernel⟩
theorem wi_Rq_append : Cond.instanceMethod y_Rq_append ∈ gw := gw_i 563 (by decide +kernel) (by decide +kernel)
theorem wm_Rq_countOf : wm y_Rq_countOf b_Rq_countOf 3 (some FieldType.int) 1 := ⟨gw_i 2 (by decide +kernel) (by decide +kernel), gw_i 568 (by decide +kernel) (by decide +kernel), ⟨by decide, by decide⟩, by decide +kernel⟩
theorem wt_Rq_countOf : Cond.static y_Rq_countOf ∈ gw := gw_i 567 (by decide +kernel) (by decide +kernel)
theorem wm_Rq_characterOf : wm y_Rq_characterOf b_Rq_characterOf 3 (some FieldType.int) 2 := ⟨gw_i 2 (by decide +kernel) (by decide +kernel), gw_i 571 (by decide +kernel) (by decide +kernel), ⟨by decide, by decide⟩, by decide +kernel⟩
theorem wt_Rq_characterOf : Cond.static y_Rq_characterOf ∈ gw := gw_i 570 (by decide +kernel) (by decide +kernel)
theorem wm_Rs_init : wm y_Rs_init b_Rs_init 1 (none) 0 := ⟨gw_i 8 (by decide +kernel) (by decide +kernel), gw_i 176 (by decide +kernel) (by decide +kernel), ⟨by decide, by decide⟩, by decide +kernel⟩
theorem wi_Rs_init : Cond.instanceMethod y_Rs_init ∈ gw := gw_i 175 (by decide +kernel) (by decide +kernel)
theorem wm_Rs_settle : wm y_Rs_settle b_Rs_settle 6 (none) 4 := ⟨gw_i 8 (by decide +kernel) (by decide +kernel), gw_i 1047 (by decide +kernel) (by decide +kernel), ⟨by decide, by decide⟩, by decide +kernel⟩
theorem wi_Rs_settle : Cond.instanceMethod y_Rs_settle ∈ gw := gw_i 1045 (by decide +kernel) (by decide +kernel)
theorem wm_Rs_hasPart : wm y_Rs_hasPart b_Rs_hasPart 2 (some FieldType.boolean) 1 := ⟨gw_i 8 (by decide +kernel) (by decide +kernel), gw_i 1168 (by decide +kernel) (by decide +kernel), ⟨by decide, by decide⟩, by decide +kernel⟩
theorem wi_Rs_hasPart : Cond.instanceMethod y_Rs_hasPart ∈ gw := gw_i 1166 (by decide +kernel) (by decide +kernel)
theorem wm_Rs_byteAt : wm y_Rs_byteAt b_Rs_byteAt 2 (some FieldType.int) 1 := ⟨gw_i 8 (by decide +kernel) (by decide +kernel), gw_i 1137 (by decide +kernel) (by decide +kernel), ⟨by decide, by decide⟩, by decide +kernel⟩
theorem wi_Rs_byteAt : Cond.instanceMethod y_Rs_byteAt ∈ gw := gw_i 1135 (by decide +kernel) (by decide +kernel)
theorem wm_Rs_measure : wm y_Rs_measure b_Rs_measure 3 (some FieldType.int) 0 := ⟨gw_i 8 (by decide +kernel) (by decide +kernel), gw_i 1051 (by decide +kernel) (by decide +kernel), ⟨by decide, by decide⟩, by decide +kernel⟩
theorem wi_Rs_measure : Cond.instanceMethod y_Rs_measure ∈ gw := gw_i 1050 (by decide +kernel) (by decide +kernel)
theorem wm_Rs_byteAmongParts : wm y_Rs_byteAmongParts b_Rs_byteAmongParts 5 (some FieldType.int) 2 := ⟨gw_i 8 (by decide +kernel) (by decide +kernel), gw_i 1145 (by decide +kernel) (by decide +kernel), ⟨by decide, by decide⟩, by decide +kernel⟩
theorem wi_Rs_byteAmongParts : Cond.instanceMethod y_Rs_byteAmongParts ∈ gw := gw_i 1144 (by decide +kernel) (by decide +kernel)
theorem wm_Rs_writeHeading : wm y_Rs_writeHeading b_Rs_writeHeading 3 (none) 2 := ⟨gw_i 8 (by decide +kernel) (by decide +kernel), gw_i 1061 (by decide +kernel) (by decide +kernel), ⟨by decide, by decide⟩, by decide +kernel⟩
theorem wi_Rs_writeHeading : Cond.instanceMethod y_Rs_writeHeading ∈ gw := gw_i 1060 (by decide +kernel) (by decide +kernel)
theorem wm_Rs_partSize : wm y_Rs_partSize b_Rs_partSize 2 (some FieldType.int) 1 := ⟨gw_i 8 (by decide +kernel) (by decide +kernel), gw_i 1055 (by decide +kernel) (by decide +kernel), ⟨by decide, by decide⟩, by decide +kernel⟩
theorem wi_Rs_partSize : Cond.instanceMethod y_Rs_partSize ∈ gw := gw_i 1054 (by decide +kernel) (by decide +kernel)
theorem wm_Tg_init : wm y_Tg_init b_Tg_init 1 (none) 0 := ⟨gw_i 6 (by decide +kernel) (by decide +kernel), gw_i 123 (by decide +kernel) (by decide +kernel), ⟨by decide, by decide⟩, by decide +kernel⟩
theorem wi_Tg_init : Cond.instanceMethod y_Tg_init ∈ gw := gw_i 122 (by decide +kernel) (by decide +kernel)
theorem wm_Tg_readList : wm y_Tg_readList b_Tg_readList 5 (some FieldType.boolean) 3 := ⟨gw_i 6 (by decide +kernel) (by decide +kernel), gw_i 841 (by decide +kernel) (by decide +kernel), ⟨by decide, by decide⟩, by decide +kernel⟩
theorem wi_Tg_readList : Cond.instanceMethod y_Tg_readList ∈ gw := gw_i 839 (by decide +kernel) (by decide +kernel)
theorem wm_Tg_readOne : wm y_Tg_readOne b_Tg_readOne 4 (some FieldType.boolean) 3 := ⟨gw_i 6 (by decide +kernel) (by decide +kernel), gw_i 1039 (by decide +kernel) (by decide +kernel), ⟨by decide, by decide⟩, by decide +kernel⟩
theorem wi_Tg_readOne : Cond.instanceMethod y_Tg_readOne ∈ gw := gw_i 1037 (by decide +kernel) (by decide +kernel)
theorem wm_Tg_begin : wm y_Tg_begin b_Tg_begin 3 (none) 2 := ⟨gw_i 6 (by decide +kernel) (by decide +kernel), gw_i 845 (by decide +kernel) (by decide +kernel), ⟨by decide, by decide⟩, by decide +kernel⟩
theorem wi_Tg_begin : Cond.instanceMethod y_Tg_begin ∈ gw := gw_i 844 (by decide +kernel) (by decide +kernel)
theorem wm_Tg_readTag : wm y_Tg_readTag b_Tg_readTag 4 (some FieldType.boolean) 1 := ⟨gw_i 6 (by decide +kernel) (by decide +kernel), gw_i 868 (by decide +kernel) (by decide +kernel), ⟨by decide, by decide⟩, by decide +kernel⟩
theorem wi_Tg_readTag : Cond.instanceMethod y_Tg_readTag ∈ gw := gw_i 867 (by decide +kernel) (by decide +kernel)
theorem wl_Dk_63 : Cond.methodLink "OriginDesk" 63 ⟨"OriginDesk$Dates", "<init>", "(J)V"⟩ ∈ gw := gw_i 246 (by decide +kernel) (by decide +kernel)
theorem wl_Da_9 : Cond.methodLink "OriginDesk$Dates" 9 ⟨"OriginDesk$Dates", "yearOf", "(J)I"⟩ ∈ gw := gw_i 250 (by decide +kernel) (by decide +kernel)
theorem wl_Da_119 : Cond.methodLink "OriginDesk$Dates" 119 ⟨"OriginDesk$Dates", "daysBefore", "(I)I"⟩ ∈ gw := gw_i 254 (by decide +kernel) (by decide +kernel)
theorem wl_Dk_74 : Cond.methodLink "OriginDesk" 74 ⟨"OriginDesk", "isWithin", "(JJ)Z"⟩ ∈ gw := gw_i 312 (by decide +kernel) (by decide +kernel)
theorem wl_Dk_90 : Cond.methodLink "OriginDesk" 90 ⟨"OriginDesk$Representation", "<init>", "(ILOriginDesk$MediaType;LOriginDesk$Language;IIZJ)V"⟩ ∈ gw := gw_i 320 (by decide +kernel) (by decide +kernel)
theorem wl_Dk_93 : Cond.methodLink "OriginDesk" 93 ⟨"OriginDesk$Request", "restart", "(I)V"⟩ ∈ gw := gw_i 554 (by decide +kernel) (by decide +kernel)
theorem wl_Dk_97 : Cond.methodLink "OriginDesk" 97 ⟨"OriginDesk$Request", "append", "(IJ)I"⟩ ∈ gw := gw_i 562 (by decide +kernel) (by decide +kernel)
theorem wl_Rq_24 : Cond.methodLink "OriginDesk$Request" 24 ⟨"OriginDesk$Request", "countOf", "(J)I"⟩ ∈ gw := gw_i 566 (by decide +kernel) (by decide +kernel)
theorem wl_Rq_28 : Cond.methodLink "OriginDesk$Request" 28 ⟨"OriginDesk$Request", "characterOf", "(JI)I"⟩ ∈ gw := gw_i 569 (by decide +kernel) (by decide +kernel)
theorem wl_Dk_101 : Cond.methodLink "OriginDesk" 101 ⟨"OriginDesk", "codeWithoutChoice", "()I"⟩ ∈ gw := gw_i 576 (by decide +kernel) (by decide +kernel)
theorem wl_Dk_105 : Cond.methodLink "OriginDesk" 105 ⟨"OriginDesk", "choose", "()LOriginDesk$Representation;"⟩ ∈ gw := gw_i 580 (by decide +kernel) (by decide +kernel)
theorem wl_Dk_151 : Cond.methodLink "OriginDesk" 151 ⟨"OriginDesk", "scoreOf", "(LOriginDesk$Representation;)I"⟩ ∈ gw := gw_i 584 (by decide +kernel) (by decide +kernel)
theorem wl_Dk_160 : Cond.methodLink "OriginDesk" 160 ⟨"OriginDesk$Accept", "read", "(LOriginDesk$Request;LOriginDesk$MediaType;)Z"⟩ ∈ gw := gw_i 588 (by decide +kernel) (by decide +kernel)
theorem wl_Ac_9 : Cond.methodLink "OriginDesk$Accept" 9 ⟨"OriginDesk$Accept", "open", "(LOriginDesk$Request;I)V"⟩ ∈ gw := gw_i 592 (by decide +kernel) (by decide +kernel)
theorem wl_Rd_25 : Cond.methodLink "OriginDesk$Reader" 25 ⟨"OriginDesk$Request", "has", "(I)Z"⟩ ∈ gw := gw_i 598 (by decide +kernel) (by decide +kernel)
theorem wl_Ac_22 : Cond.methodLink "OriginDesk$Accept" 22 ⟨"OriginDesk$Accept", "findElement", "()Z"⟩ ∈ gw := gw_i 602 (by decide +kernel) (by decide +kernel)
theorem wl_Ac_26 : Cond.methodLink "OriginDesk$Accept" 26 ⟨"OriginDesk$Accept", "readTokens", "(LOriginDesk$MediaType;)Z"⟩ ∈ gw := gw_i 608 (by decide +kernel) (by decide +kernel)
theorem wl_Ac_39 : Cond.methodLink "OriginDesk$Accept" 39 ⟨"OriginDesk$Accept", "takeToken", "()Z"⟩ ∈ gw := gw_i 612 (by decide +kernel) (by decide +kernel)
theorem wl_Rd_67 : Cond.methodLink "OriginDesk$Reader" 67 ⟨"OriginDesk$Reader", "say", "(I)V"⟩ ∈ gw := gw_i 676 (by decide +kernel) (by decide +kernel)
theorem wl_Ac_44 : Cond.methodLink "OriginDesk$Accept" 44 ⟨"OriginDesk$Accept", "isSaid", "(Ljava/lang/String;)Z"⟩ ∈ gw := gw_i 681 (by decide +kernel) (by decide +kernel)
theorem wl_Ac_54 : Cond.methodLink "OriginDesk$Accept" 54 ⟨"OriginDesk$Accept", "isSaidAlike", "(Ljava/lang/String;)Z"⟩ ∈ gw := gw_i 699 (by decide +kernel) (by decide +kernel)
theorem wl_Rd_55 : Cond.methodLink "OriginDesk$Reader" 55 ⟨"OriginDesk$Reader", "lower", "(I)I"⟩ ∈ gw := gw_i 705 (by decide +kernel) (by decide +kernel)
theorem wl_Ac_57 : Cond.methodLink "OriginDesk$Accept" 57 ⟨"OriginDesk$Accept", "saysStar", "()Z"⟩ ∈ gw := gw_i 708 (by decide +kernel) (by decide +kernel)
theorem wl_Ac_60 : Cond.methodLink "OriginDesk$Accept" 60 ⟨"OriginDesk$Accept", "take", "(C)Z"⟩ ∈ gw := gw_i 714 (by decide +kernel) (by decide +kernel)
theorem wl_Ac_30 : Cond.methodLink "OriginDesk$Accept" 30 ⟨"OriginDesk$Accept", "readParameters", "(LOriginDesk$MediaType;)Z"⟩ ∈ gw := gw_i 720 (by decide +kernel) (by decide +kernel)
theorem wl_Ac_77 : Cond.methodLink "OriginDesk$Accept" 77 ⟨"OriginDesk$Accept", "takeSemicolon", "()Z"⟩ ∈ gw := gw_i 724 (by decide +kernel) (by decide +kernel)
theorem wl_Rd_38 : Cond.methodLink "OriginDesk$Reader" 38 ⟨"OriginDesk$Reader", "skipGap", "()V"⟩ ∈ gw := gw_i 730 (by decide +kernel) (by decide +kernel)
theorem wl_Rd_41 : Cond.methodLink "OriginDesk$Reader" 41 ⟨"OriginDesk$Reader", "take", "(C)Z"⟩ ∈ gw := gw_i 739 (by decide +kernel) (by decide +kernel)
theorem wl_Ac_82 : Cond.methodLink "OriginDesk$Accept" 82 ⟨"OriginDesk$Accept", "takeWeight", "()I"⟩ ∈ gw := gw_i 741 (by decide +kernel) (by decide +kernel)
theorem wl_Rd_77 : Cond.methodLink "OriginDesk$Reader" 77 ⟨"OriginDesk$Reader", "isDigit", "(I)Z"⟩ ∈ gw := gw_i 747 (by decide +kernel) (by decide +kernel)
theorem wl_Ac_89 : Cond.methodLink "OriginDesk$Accept" 89 ⟨"OriginDesk$Accept", "isNext", "(C)Z"⟩ ∈ gw := gw_i 750 (by decide +kernel) (by decide +kernel)
theorem wl_Ac_92 : Cond.methodLink "OriginDesk$Accept" 92 ⟨"OriginDesk$Accept", "takeQuotedText", "()Z"⟩ ∈ gw := gw_i 756 (by decide +kernel) (by decide +kernel)
theorem wl_Rd_71 : Cond.methodLink "OriginDesk$Reader" 71 ⟨"OriginDesk$Reader", "isQuotable", "(I)Z"⟩ ∈ gw := gw_i 762 (by decide +kernel) (by decide +kernel)
theorem wl_Ac_33 : Cond.methodLink "OriginDesk$Accept" 33 ⟨"OriginDesk$Accept", "endsElement", "()Z"⟩ ∈ gw := gw_i 765 (by decide +kernel) (by decide +kernel)
theorem wl_Ac_36 : Cond.methodLink "OriginDesk$Accept" 36 ⟨"OriginDesk$Accept", "weigh", "()V"⟩ ∈ gw := gw_i 771 (by decide +kernel) (by decide +kernel)
theorem wl_Dk_170 : Cond.methodLink "OriginDesk" 170 ⟨"OriginDesk$Languages", "read", "(LOriginDesk$Request;LOriginDesk$Language;)Z"⟩ ∈ gw := gw_i 777 (by decide +kernel) (by decide +kernel)
theorem wl_La_9 : Cond.methodLink "OriginDesk$Languages" 9 ⟨"OriginDesk$Languages", "open", "(LOriginDesk$Request;I)V"⟩ ∈ gw := gw_i 781 (by decide +kernel) (by decide +kernel)
theorem wl_La_22 : Cond.methodLink "OriginDesk$Languages" 22 ⟨"OriginDesk$Languages", "findElement", "()Z"⟩ ∈ gw := gw_i 784 (by decide +kernel) (by decide +kernel)
theorem wl_La_26 : Cond.methodLink "OriginDesk$Languages" 26 ⟨"OriginDesk$Languages", "readRange", "(LOriginDesk$Language;)Z"⟩ ∈ gw := gw_i 787 (by decide +kernel) (by decide +kernel)
theorem wl_La_33 : Cond.methodLink "OriginDesk$Languages" 33 ⟨"OriginDesk$Languages", "takeLanguage", "()Z"⟩ ∈ gw := gw_i 791 (by decide +kernel) (by decide +kernel)
theorem wl_Rd_74 : Cond.methodLink "OriginDesk$Reader" 74 ⟨"OriginDesk$Reader", "isLetter", "(I)Z"⟩ ∈ gw := gw_i 797 (by decide +kernel) (by decide +kernel)
theorem wl_La_36 : Cond.methodLink "OriginDesk$Languages" 36 ⟨"OriginDesk$Languages", "takeSemicolon", "()Z"⟩ ∈ gw := gw_i 800 (by decide +kernel) (by decide +kernel)
theorem wl_La_39 : Cond.methodLink "OriginDesk$Languages" 39 ⟨"OriginDesk$Languages", "take", "(C)Z"⟩ ∈ gw := gw_i 803 (by decide +kernel) (by decide +kernel)
theorem wl_La_43 : Cond.methodLink "OriginDesk$Languages" 43 ⟨"OriginDesk$Languages", "takeWeight", "()I"⟩ ∈ gw := gw_i 806 (by decide +kernel) (by decide +kernel)
theorem wl_La_47 : Cond.methodLink "OriginDesk$Languages" 47 ⟨"OriginDesk$Languages", "fitOf", "(LOriginDesk$Language;)I"⟩ ∈ gw := gw_i 809 (by decide +kernel) (by decide +kernel)
theorem wl_La_53 : Cond.methodLink "OriginDesk$Languages" 53 ⟨"OriginDesk$Languages", "isSaid", "(Ljava/lang/String;)Z"⟩ ∈ gw := gw_i 814 (by decide +kernel) (by decide +kernel)
theorem wl_La_63 : Cond.methodLink "OriginDesk$Languages" 63 ⟨"OriginDesk$Languages", "isSaidAlike", "(Ljava/lang/String;)Z"⟩ ∈ gw := gw_i 817 (by decide +kernel) (by decide +kernel)
theorem wl_La_69 : Cond.methodLink "OriginDesk$Languages" 69 ⟨"OriginDesk$Languages", "saidSize", "()I"⟩ ∈ gw := gw_i 820 (by decide +kernel) (by decide +kernel)
theorem wl_La_30 : Cond.methodLink "OriginDesk$Languages" 30 ⟨"OriginDesk$Languages", "endsElement", "()Z"⟩ ∈ gw := gw_i 826 (by decide +kernel) (by decide +kernel)
theorem wl_Dk_109 : Cond.methodLink "OriginDesk" 109 ⟨"OriginDesk", "codeFor", "(LOriginDesk$Representation;)I"⟩ ∈ gw := gw_i 829 (by decide +kernel) (by decide +kernel)
theorem wl_Dk_204 : Cond.methodLink "OriginDesk" 204 ⟨"OriginDesk", "isRefused", "(LOriginDesk$Representation;)Z"⟩ ∈ gw := gw_i 833 (by decide +kernel) (by decide +kernel)
theorem wl_Dk_227 : Cond.methodLink "OriginDesk" 227 ⟨"OriginDesk$Request", "has", "(I)Z"⟩ ∈ gw := gw_i 837 (by decide +kernel) (by decide +kernel)
theorem wl_Dk_175 : Cond.methodLink "OriginDesk" 175 ⟨"OriginDesk$Tags", "readList", "(LOriginDesk$Request;ILjava/lang/String;)Z"⟩ ∈ gw := gw_i 838 (by decide +kernel) (by decide +kernel)
theorem wl_Tg_9 : Cond.methodLink "OriginDesk$Tags" 9 ⟨"OriginDesk$Tags", "begin", "(LOriginDesk$Request;I)V"⟩ ∈ gw := gw_i 842 (by decide +kernel) (by decide +kernel)
theorem wl_Tg_40 : Cond.methodLink "OriginDesk$Tags" 40 ⟨"OriginDesk$Tags", "open", "(LOriginDesk$Request;I)V"⟩ ∈ gw := gw_i 846 (by decide +kernel) (by decide +kernel)
theorem wl_Tg_23 : Cond.methodLink "OriginDesk$Tags" 23 ⟨"OriginDesk$Tags", "skipGap", "()V"⟩ ∈ gw := gw_i 849 (by decide +kernel) (by decide +kernel)
theorem wl_Tg_15 : Cond.methodLink "OriginDesk$Tags" 15 ⟨"OriginDesk$Tags", "take", "(C)Z"⟩ ∈ gw := gw_i 853 (by decide +kernel) (by decide +kernel)
theorem wl_Tg_26 : Cond.methodLink "OriginDesk$Tags" 26 ⟨"OriginDesk$Tags", "isEnded", "()Z"⟩ ∈ gw := gw_i 856 (by decide +kernel) (by decide +kernel)
theorem wl_Tg_30 : Cond.methodLink "OriginDesk$Tags" 30 ⟨"OriginDesk$Tags", "findElement", "()Z"⟩ ∈ gw := gw_i 862 (by decide +kernel) (by decide +kernel)
theorem wl_Tg_33 : Cond.methodLink "OriginDesk$Tags" 33 ⟨"OriginDesk$Tags", "readTag", "(Ljava/lang/String;)Z"⟩ ∈ gw := gw_i 865 (by decide +kernel) (by decide +kernel)
theorem wl_Tg_49 : Cond.methodLink "OriginDesk$Tags" 49 ⟨"OriginDesk$Tags", "isNext", "(C)Z"⟩ ∈ gw := gw_i 869 (by decide +kernel) (by decide +kernel)
theorem wl_Tg_54 : Cond.methodLink "OriginDesk$Tags" 54 ⟨"OriginDesk$Tags", "takeText", "(Ljava/lang/String;)Z"⟩ ∈ gw := gw_i 873 (by decide +kernel) (by decide +kernel)
theorem wl_Tg_57 : Cond.methodLink "OriginDesk$Tags" 57 ⟨"OriginDesk$Tags", "takeOpaque", "()Z"⟩ ∈ gw := gw_i 879 (by decide +kernel) (by decide +kernel)
theorem wl_Tg_60 : Cond.methodLink "OriginDesk$Tags" 60 ⟨"OriginDesk$Tags", "isSaid", "(Ljava/lang/String;)Z"⟩ ∈ gw := gw_i 885 (by decide +kernel) (by decide +kernel)
theorem wl_Tg_37 : Cond.methodLink "OriginDesk$Tags" 37 ⟨"OriginDesk$Tags", "endsElement", "()Z"⟩ ∈ gw := gw_i 888 (by decide +kernel) (by decide +kernel)
theorem wl_Dk_179 : Cond.methodLink "OriginDesk" 179 ⟨"OriginDesk$Dates", "timeOf", "(LOriginDesk$Request;I)J"⟩ ∈ gw := gw_i 891 (by decide +kernel) (by decide +kernel)
theorem wl_Da_19 : Cond.methodLink "OriginDesk$Dates" 19 ⟨"OriginDesk$Dates", "open", "(LOriginDesk$Request;I)V"⟩ ∈ gw := gw_i 895 (by decide +kernel) (by decide +kernel)
theorem wl_Da_23 : Cond.methodLink "OriginDesk$Dates" 23 ⟨"OriginDesk$Dates", "skipGap", "()V"⟩ ∈ gw := gw_i 898 (by decide +kernel) (by decide +kernel)
theorem wl_Da_28 : Cond.methodLink "OriginDesk$Dates" 28 ⟨"OriginDesk$Dates", "takeName", "(Ljava/lang/String;)I"⟩ ∈ gw := gw_i 902 (by decide +kernel) (by decide +kernel)
theorem wl_Da_34 : Cond.methodLink "OriginDesk$Dates" 34 ⟨"OriginDesk$Dates", "take", "(C)Z"⟩ ∈ gw := gw_i 909 (by decide +kernel) (by decide +kernel)
theorem wl_Da_38 : Cond.methodLink "OriginDesk$Dates" 38 ⟨"OriginDesk$Dates", "takeCommaForm", "()Z"⟩ ∈ gw := gw_i 912 (by decide +kernel) (by decide +kernel)
theorem wl_Da_66 : Cond.methodLink "OriginDesk$Dates" 66 ⟨"OriginDesk$Dates", "takeDay", "()Z"⟩ ∈ gw := gw_i 916 (by decide +kernel) (by decide +kernel)
theorem wl_Da_98 : Cond.methodLink "OriginDesk$Dates" 98 ⟨"OriginDesk$Dates", "takeDigits", "(I)I"⟩ ∈ gw := gw_i 920 (by decide +kernel) (by decide +kernel)
theorem wl_Da_69 : Cond.methodLink "OriginDesk$Dates" 69 ⟨"OriginDesk$Dates", "takeMonth", "()Z"⟩ ∈ gw := gw_i 926 (by decide +kernel) (by decide +kernel)
theorem wl_Da_72 : Cond.methodLink "OriginDesk$Dates" 72 ⟨"OriginDesk$Dates", "takeYear", "()Z"⟩ ∈ gw := gw_i 931 (by decide +kernel) (by decide +kernel)
theorem wl_Da_75 : Cond.methodLink "OriginDesk$Dates" 75 ⟨"OriginDesk$Dates", "takeClock", "()Z"⟩ ∈ gw := gw_i 935 (by decide +kernel) (by decide +kernel)
theorem wl_Da_49 : Cond.methodLink "OriginDesk$Dates" 49 ⟨"OriginDesk$Dates", "takeText", "(Ljava/lang/String;)Z"⟩ ∈ gw := gw_i 940 (by decide +kernel) (by decide +kernel)
theorem wl_Da_42 : Cond.methodLink "OriginDesk$Dates" 42 ⟨"OriginDesk$Dates", "takeSpaceForm", "()Z"⟩ ∈ gw := gw_i 943 (by decide +kernel) (by decide +kernel)
theorem wl_Da_85 : Cond.methodLink "OriginDesk$Dates" 85 ⟨"OriginDesk$Dates", "takeSpacedDay", "()Z"⟩ ∈ gw := gw_i 947 (by decide +kernel) (by decide +kernel)
theorem wl_Da_45 : Cond.methodLink "OriginDesk$Dates" 45 ⟨"OriginDesk$Dates", "restOfName", "(I)Ljava/lang/String;"⟩ ∈ gw := gw_i 951 (by decide +kernel) (by decide +kernel)
theorem wl_Da_53 : Cond.methodLink "OriginDesk$Dates" 53 ⟨"OriginDesk$Dates", "takeDashForm", "()Z"⟩ ∈ gw := gw_i 959 (by decide +kernel) (by decide +kernel)
theorem wl_Da_82 : Cond.methodLink "OriginDesk$Dates" 82 ⟨"OriginDesk$Dates", "takeShortYear", "()Z"⟩ ∈ gw := gw_i 964 (by decide +kernel) (by decide +kernel)
theorem wl_Da_56 : Cond.methodLink "OriginDesk$Dates" 56 ⟨"OriginDesk$Dates", "isEnded", "()Z"⟩ ∈ gw := gw_i 968 (by decide +kernel) (by decide +kernel)
theorem wl_Da_59 : Cond.methodLink "OriginDesk$Dates" 59 ⟨"OriginDesk$Dates", "isInCalendar", "()Z"⟩ ∈ gw := gw_i 971 (by decide +kernel) (by decide +kernel)
theorem wl_Da_115 : Cond.methodLink "OriginDesk$Dates" 115 ⟨"OriginDesk$Dates", "daysOf", "(II)I"⟩ ∈ gw := gw_i 975 (by decide +kernel) (by decide +kernel)
theorem wl_Da_62 : Cond.methodLink "OriginDesk$Dates" 62 ⟨"OriginDesk$Dates", "time", "()J"⟩ ∈ gw := gw_i 980 (by decide +kernel) (by decide +kernel)
theorem wl_Dk_208 : Cond.methodLink "OriginDesk" 208 ⟨"OriginDesk", "isUnchanged", "(LOriginDesk$Representation;)Z"⟩ ∈ gw := gw_i 985 (by decide +kernel) (by decide +kernel)
theorem wl_Dk_188 : Cond.methodLink "OriginDesk" 188 ⟨"OriginDesk$Ranges", "read", "(LOriginDesk$Request;I)Z"⟩ ∈ gw := gw_i 989 (by decide +kernel) (by decide +kernel)
theorem wl_Ra_18 : Cond.methodLink "OriginDesk$Ranges" 18 ⟨"OriginDesk$Ranges", "open", "(LOriginDesk$Request;I)V"⟩ ∈ gw := gw_i 993 (by decide +kernel) (by decide +kernel)
theorem wl_Ra_29 : Cond.methodLink "OriginDesk$Ranges" 29 ⟨"OriginDesk$Ranges", "skipGap", "()V"⟩ ∈ gw := gw_i 996 (by decide +kernel) (by decide +kernel)
theorem wl_Ra_34 : Cond.methodLink "OriginDesk$Ranges" 34 ⟨"OriginDesk$Ranges", "takeAlike", "(Ljava/lang/String;)Z"⟩ ∈ gw := gw_i 1000 (by decide +kernel) (by decide +kernel)
theorem wl_Ra_38 : Cond.methodLink "OriginDesk$Ranges" 38 ⟨"OriginDesk$Ranges", "take", "(C)Z"⟩ ∈ gw := gw_i 1006 (by decide +kernel) (by decide +kernel)
theorem wl_Ra_42 : Cond.methodLink "OriginDesk$Ranges" 42 ⟨"OriginDesk$Ranges", "findElement", "()Z"⟩ ∈ gw := gw_i 1009 (by decide +kernel) (by decide +kernel)
theorem wl_Ra_46 : Cond.methodLink "OriginDesk$Ranges" 46 ⟨"OriginDesk$Ranges", "readSpec", "(I)Z"⟩ ∈ gw := gw_i 1012 (by decide +kernel) (by decide +kernel)
theorem wl_Ra_53 : Cond.methodLink "OriginDesk$Ranges" 53 ⟨"OriginDesk$Ranges", "takeNumber", "()I"⟩ ∈ gw := gw_i 1016 (by decide +kernel) (by decide +kernel)
theorem wl_Ra_63 : Cond.methodLink "OriginDesk$Ranges" 63 ⟨"OriginDesk$Ranges", "keep", "(II)V"⟩ ∈ gw := gw_i 1024 (by decide +kernel) (by decide +kernel)
theorem wl_Ra_50 : Cond.methodLink "OriginDesk$Ranges" 50 ⟨"OriginDesk$Ranges", "endsElement", "()Z"⟩ ∈ gw := gw_i 1029 (by decide +kernel) (by decide +kernel)
theorem wl_Dk_214 : Cond.methodLink "OriginDesk" 214 ⟨"OriginDesk", "isRangeWanted", "(LOriginDesk$Representation;)Z"⟩ ∈ gw := gw_i 1032 (by decide +kernel) (by decide +kernel)
theorem wl_Dk_185 : Cond.methodLink "OriginDesk" 185 ⟨"OriginDesk$Tags", "readOne", "(LOriginDesk$Request;ILjava/lang/String;)Z"⟩ ∈ gw := gw_i 1036 (by decide +kernel) (by decide +kernel)
theorem wl_Dk_220 : Cond.methodLink "OriginDesk" 220 ⟨"OriginDesk$Ranges", "overlap", "()Z"⟩ ∈ gw := gw_i 1040 (by decide +kernel) (by decide +kernel)
theorem wl_Dk_116 : Cond.methodLink "OriginDesk" 116 ⟨"OriginDesk$Response", "settle", "(ILOriginDesk$Representation;ZLOriginDesk$Ranges;)V"⟩ ∈ gw := gw_i 1044 (by decide +kernel) (by decide +kernel)
theorem wl_Rs_47 : Cond.methodLink "OriginDesk$Response" 47 ⟨"OriginDesk$Response", "measure", "()I"⟩ ∈ gw := gw_i 1048 (by decide +kernel) (by decide +kernel)
theorem wl_Rs_67 : Cond.methodLink "OriginDesk$Response" 67 ⟨"OriginDesk$Response", "partSize", "(I)I"⟩ ∈ gw := gw_i 1052 (by decide +kernel) (by decide +kernel)
theorem wl_Rs_77 : Cond.methodLink "OriginDesk$Response" 77 ⟨"OriginDesk$Response", "writeHeading", "(II)V"⟩ ∈ gw := gw_i 1058 (by decide +kernel) (by decide +kernel)
theorem wl_Dk_133 : Cond.methodLink "OriginDesk" 133 ⟨"OriginDesk$Response", "byteAt", "(I)I"⟩ ∈ gw := gw_i 1134 (by decide +kernel) (by decide +kernel)
theorem wl_Rs_54 : Cond.methodLink "OriginDesk$Response" 54 ⟨"OriginDesk$Representation", "byteAt", "(I)I"⟩ ∈ gw := gw_i 1138 (by decide +kernel) (by decide +kernel)
theorem wl_Rs_60 : Cond.methodLink "OriginDesk$Response" 60 ⟨"OriginDesk$Response", "byteAmongParts", "(LOriginDesk$Representation;I)I"⟩ ∈ gw := gw_i 1142 (by decide +kernel) (by decide +kernel)
theorem wl_Dk_140 : Cond.methodLink "OriginDesk" 140 ⟨"OriginDesk$Response", "hasPart", "(I)Z"⟩ ∈ gw := gw_i 1165 (by decide +kernel) (by decide +kernel)
theorem wl_Mo_354 : Cond.methodLink "OriginDeskModel" 354 ⟨"OriginDeskModel", "decide", "()I"⟩ ∈ gw := gw_i 1334 (by decide +kernel) (by decide +kernel)
theorem wl_Mo_339 : Cond.methodLink "OriginDeskModel" 339 ⟨"OriginDeskModel", "chosenOne", "()I"⟩ ∈ gw := gw_i 1338 (by decide +kernel) (by decide +kernel)
theorem wl_Mo_319 : Cond.methodLink "OriginDeskModel" 319 ⟨"OriginDeskModel", "scoreOf", "(I)I"⟩ ∈ gw := gw_i 1342 (by decide +kernel) (by decide +kernel)
theorem wl_Mo_223 : Cond.methodLink "OriginDeskModel" 223 ⟨"OriginDeskModel", "there", "(I)Z"⟩ ∈ gw := gw_i 1346 (by decide +kernel) (by decide +kernel)
theorem wl_Mo_226 : Cond.methodLink "OriginDeskModel" 226 ⟨"OriginDeskModel", "accepted", "(I)I"⟩ ∈ gw := gw_i 1350 (by decide +kernel) (by decide +kernel)
theorem wl_Mo_199 : Cond.methodLink "OriginDeskModel" 199 ⟨"OriginDeskModel", "open", "(I)V"⟩ ∈ gw := gw_i 1354 (by decide +kernel) (by decide +kernel)
theorem wl_Mo_203 : Cond.methodLink "OriginDeskModel" 203 ⟨"OriginDeskModel", "element", "()Z"⟩ ∈ gw := gw_i 1358 (by decide +kernel) (by decide +kernel)
theorem wl_Mo_156 : Cond.methodLink "OriginDeskModel" 156 ⟨"OriginDeskModel", "gap", "()V"⟩ ∈ gw := gw_i 1362 (by decide +kernel) (by decide +kernel)
theorem wl_Mo_115 : Cond.methodLink "OriginDeskModel" 115 ⟨"OriginDeskModel", "next", "()I"⟩ ∈ gw := gw_i 1366 (by decide +kernel) (by decide +kernel)
theorem wl_Mo_111 : Cond.methodLink "OriginDeskModel" 111 ⟨"OriginDeskModel", "charAt", "(I)I"⟩ ∈ gw := gw_i 1370 (by decide +kernel) (by decide +kernel)
theorem wl_Mo_153 : Cond.methodLink "OriginDeskModel" 153 ⟨"OriginDeskModel", "take", "(I)Z"⟩ ∈ gw := gw_i 1374 (by decide +kernel) (by decide +kernel)
theorem wl_Mo_166 : Cond.methodLink "OriginDeskModel" 166 ⟨"OriginDeskModel", "ended", "()Z"⟩ ∈ gw := gw_i 1378 (by decide +kernel) (by decide +kernel)
theorem wl_Mo_206 : Cond.methodLink "OriginDeskModel" 206 ⟨"OriginDeskModel", "mediaRange", "(I)I"⟩ ∈ gw := gw_i 1382 (by decide +kernel) (by decide +kernel)
theorem wl_Mo_176 : Cond.methodLink "OriginDeskModel" 176 ⟨"OriginDeskModel", "token", "()Z"⟩ ∈ gw := gw_i 1386 (by decide +kernel) (by decide +kernel)
theorem wl_Mo_129 : Cond.methodLink "OriginDeskModel" 129 ⟨"OriginDeskModel", "isToken", "(I)Z"⟩ ∈ gw := gw_i 1390 (by decide +kernel) (by decide +kernel)
theorem wl_Mo_119 : Cond.methodLink "OriginDeskModel" 119 ⟨"OriginDeskModel", "isDigit", "(I)Z"⟩ ∈ gw := gw_i 1393 (by decide +kernel) (by decide +kernel)
theorem wl_Mo_123 : Cond.methodLink "OriginDeskModel" 123 ⟨"OriginDeskModel", "isLetter", "(I)Z"⟩ ∈ gw := gw_i 1396 (by decide +kernel) (by decide +kernel)
theorem wl_Mo_179 : Cond.methodLink "OriginDeskModel" 179 ⟨"OriginDeskModel", "starred", "(II)Z"⟩ ∈ gw := gw_i 1399 (by decide +kernel) (by decide +kernel)
theorem wl_Mo_183 : Cond.methodLink "OriginDeskModel" 183 ⟨"OriginDeskModel", "isMain", "(III)Z"⟩ ∈ gw := gw_i 1403 (by decide +kernel) (by decide +kernel)
theorem wl_Mo_142 : Cond.methodLink "OriginDeskModel" 142 ⟨"OriginDeskModel", "says", "(IJ)Z"⟩ ∈ gw := gw_i 1407 (by decide +kernel) (by decide +kernel)
theorem wl_Mo_135 : Cond.methodLink "OriginDeskModel" 135 ⟨"OriginDeskModel", "lengthOf", "(J)I"⟩ ∈ gw := gw_i 1411 (by decide +kernel) (by decide +kernel)
theorem wl_Mo_139 : Cond.methodLink "OriginDeskModel" 139 ⟨"OriginDeskModel", "lower", "(I)I"⟩ ∈ gw := gw_i 1414 (by decide +kernel) (by decide +kernel)
theorem wl_Mo_146 : Cond.methodLink "OriginDeskModel" 146 ⟨"OriginDeskModel", "isWord", "(IIJ)Z"⟩ ∈ gw := gw_i 1417 (by decide +kernel) (by decide +kernel)
theorem wl_Mo_187 : Cond.methodLink "OriginDeskModel" 187 ⟨"OriginDeskModel", "isSub", "(III)Z"⟩ ∈ gw := gw_i 1421 (by decide +kernel) (by decide +kernel)
theorem wl_Mo_159 : Cond.methodLink "OriginDeskModel" 159 ⟨"OriginDeskModel", "semicolon", "()Z"⟩ ∈ gw := gw_i 1425 (by decide +kernel) (by decide +kernel)
theorem wl_Mo_163 : Cond.methodLink "OriginDeskModel" 163 ⟨"OriginDeskModel", "weight", "()Z"⟩ ∈ gw := gw_i 1429 (by decide +kernel) (by decide +kernel)
theorem wl_Mo_196 : Cond.methodLink "OriginDeskModel" 196 ⟨"OriginDeskModel", "assigned", "()Z"⟩ ∈ gw := gw_i 1433 (by decide +kernel) (by decide +kernel)
theorem wl_Mo_173 : Cond.methodLink "OriginDeskModel" 173 ⟨"OriginDeskModel", "quoted", "()Z"⟩ ∈ gw := gw_i 1437 (by decide +kernel) (by decide +kernel)
theorem wl_Mo_209 : Cond.methodLink "OriginDeskModel" 209 ⟨"OriginDeskModel", "separator", "()I"⟩ ∈ gw := gw_i 1441 (by decide +kernel) (by decide +kernel)
theorem wl_Mo_229 : Cond.methodLink "OriginDeskModel" 229 ⟨"OriginDeskModel", "spoken", "(I)I"⟩ ∈ gw := gw_i 1445 (by decide +kernel) (by decide +kernel)
theorem wl_Mo_214 : Cond.methodLink "OriginDeskModel" 214 ⟨"OriginDeskModel", "tongue", "()Z"⟩ ∈ gw := gw_i 1449 (by decide +kernel) (by decide +kernel)
theorem wl_Mo_217 : Cond.methodLink "OriginDeskModel" 217 ⟨"OriginDeskModel", "speaks", "(I)Z"⟩ ∈ gw := gw_i 1453 (by decide +kernel) (by decide +kernel)
theorem wl_Mo_220 : Cond.methodLink "OriginDeskModel" 220 ⟨"OriginDeskModel", "weightIfAny", "()Z"⟩ ∈ gw := gw_i 1458 (by decide +kernel) (by decide +kernel)
theorem wl_Mo_345 : Cond.methodLink "OriginDeskModel" 345 ⟨"OriginDeskModel", "conditions", "(I)I"⟩ ∈ gw := gw_i 1462 (by decide +kernel) (by decide +kernel)
theorem wl_Mo_322 : Cond.methodLink "OriginDeskModel" 322 ⟨"OriginDeskModel", "tags", "(IIZ)I"⟩ ∈ gw := gw_i 1466 (by decide +kernel) (by decide +kernel)
theorem wl_Mo_235 : Cond.methodLink "OriginDeskModel" 235 ⟨"OriginDeskModel", "tagText", "()Z"⟩ ∈ gw := gw_i 1470 (by decide +kernel) (by decide +kernel)
theorem wl_Mo_238 : Cond.methodLink "OriginDeskModel" 238 ⟨"OriginDeskModel", "isTagOf", "(I)Z"⟩ ∈ gw := gw_i 1474 (by decide +kernel) (by decide +kernel)
theorem wl_Mo_316 : Cond.methodLink "OriginDeskModel" 316 ⟨"OriginDeskModel", "dateOf", "(I)J"⟩ ∈ gw := gw_i 1478 (by decide +kernel) (by decide +kernel)
theorem wl_Mo_294 : Cond.methodLink "OriginDeskModel" 294 ⟨"OriginDeskModel", "dayName", "()I"⟩ ∈ gw := gw_i 1482 (by decide +kernel) (by decide +kernel)
theorem wl_Mo_241 : Cond.methodLink "OriginDeskModel" 241 ⟨"OriginDeskModel", "three", "()I"⟩ ∈ gw := gw_i 1486 (by decide +kernel) (by decide +kernel)
theorem wl_Mo_297 : Cond.methodLink "OriginDeskModel" 297 ⟨"OriginDeskModel", "dateBehind", "(I)J"⟩ ∈ gw := gw_i 1491 (by decide +kernel) (by decide +kernel)
theorem wl_Mo_272 : Cond.methodLink "OriginDeskModel" 272 ⟨"OriginDeskModel", "monthName", "()I"⟩ ∈ gw := gw_i 1495 (by decide +kernel) (by decide +kernel)
theorem wl_Mo_275 : Cond.methodLink "OriginDeskModel" 275 ⟨"OriginDeskModel", "paddedDay", "()I"⟩ ∈ gw := gw_i 1499 (by decide +kernel) (by decide +kernel)
theorem wl_Mo_254 : Cond.methodLink "OriginDeskModel" 254 ⟨"OriginDeskModel", "digits", "(I)I"⟩ ∈ gw := gw_i 1503 (by decide +kernel) (by decide +kernel)
theorem wl_Mo_278 : Cond.methodLink "OriginDeskModel" 278 ⟨"OriginDeskModel", "time", "()I"⟩ ∈ gw := gw_i 1507 (by decide +kernel) (by decide +kernel)
theorem wl_Mo_281 : Cond.methodLink "OriginDeskModel" 281 ⟨"OriginDeskModel", "restOf", "(I)Z"⟩ ∈ gw := gw_i 1511 (by decide +kernel) (by decide +kernel)
theorem wl_Mo_284 : Cond.methodLink "OriginDeskModel" 284 ⟨"OriginDeskModel", "shortYear", "(I)I"⟩ ∈ gw := gw_i 1520 (by decide +kernel) (by decide +kernel)
theorem wl_Mo_269 : Cond.methodLink "OriginDeskModel" 269 ⟨"OriginDeskModel", "yearOf", "(J)I"⟩ ∈ gw := gw_i 1524 (by decide +kernel) (by decide +kernel)
theorem wl_Mo_287 : Cond.methodLink "OriginDeskModel" 287 ⟨"OriginDeskModel", "zone", "()Z"⟩ ∈ gw := gw_i 1530 (by decide +kernel) (by decide +kernel)
theorem wl_Mo_290 : Cond.methodLink "OriginDeskModel" 290 ⟨"OriginDeskModel", "secondsOf", "(IIII)J"⟩ ∈ gw := gw_i 1534 (by decide +kernel) (by decide +kernel)
theorem wl_Mo_263 : Cond.methodLink "OriginDeskModel" 263 ⟨"OriginDeskModel", "daysOf", "(II)I"⟩ ∈ gw := gw_i 1537 (by decide +kernel) (by decide +kernel)
theorem wl_Mo_348 : Cond.methodLink "OriginDeskModel" 348 ⟨"OriginDeskModel", "ranged", "(I)I"⟩ ∈ gw := gw_i 1540 (by decide +kernel) (by decide +kernel)
theorem wl_Mo_326 : Cond.methodLink "OriginDeskModel" 326 ⟨"OriginDeskModel", "ifRange", "(I)Z"⟩ ∈ gw := gw_i 1544 (by decide +kernel) (by decide +kernel)
theorem wl_Mo_329 : Cond.methodLink "OriginDeskModel" 329 ⟨"OriginDeskModel", "ranges", "()Z"⟩ ∈ gw := gw_i 1548 (by decide +kernel) (by decide +kernel)
theorem wl_Mo_310 : Cond.methodLink "OriginDeskModel" 310 ⟨"OriginDeskModel", "spec", "()Z"⟩ ∈ gw := gw_i 1553 (by decide +kernel) (by decide +kernel)
theorem wl_Mo_302 : Cond.methodLink "OriginDeskModel" 302 ⟨"OriginDeskModel", "many", "()I"⟩ ∈ gw := gw_i 1557 (by decide +kernel) (by decide +kernel)
theorem wl_Mo_332 : Cond.methodLink "OriginDeskModel" 332 ⟨"OriginDeskModel", "resolve", "(II)V"⟩ ∈ gw := gw_i 1562 (by decide +kernel) (by decide +kernel)
theorem wl_Mo_336 : Cond.methodLink "OriginDeskModel" 336 ⟨"OriginDeskModel", "overlap", "()Z"⟩ ∈ gw := gw_i 1566 (by decide +kernel) (by decide +kernel)
theorem wl_Mo_365 : Cond.methodLink "OriginDeskModel" 365 ⟨"OriginDeskModel", "partSize", "(I)I"⟩ ∈ gw := gw_i 1583 (by decide +kernel) (by decide +kernel)
theorem wl_Mo_360 : Cond.methodLink "OriginDeskModel" 360 ⟨"OriginDeskModel", "headOf", "(I)I"⟩ ∈ gw := gw_i 1587 (by decide +kernel) (by decide +kernel)
theorem wl_Mo_357 : Cond.methodLink "OriginDeskModel" 357 ⟨"OriginDeskModel", "digitsOf", "(I)I"⟩ ∈ gw := gw_i 1591 (by decide +kernel) (by decide +kernel)
theorem wl_Mo_385 : Cond.methodLink "OriginDeskModel" 385 ⟨"OriginDeskModel", "length", "()J"⟩ ∈ gw := gw_i 1598 (by decide +kernel) (by decide +kernel)
theorem wl_Mo_382 : Cond.methodLink "OriginDeskModel" 382 ⟨"OriginDeskModel", "byteAt", "(I)I"⟩ ∈ gw := gw_i 1599 (by decide +kernel) (by decide +kernel)
theorem wl_Mo_388 : Cond.methodLink "OriginDeskModel" 388 ⟨"OriginDeskModel", "partByte", "(II)I"⟩ ∈ gw := gw_i 1603 (by decide +kernel) (by decide +kernel)
theorem wl_Mo_375 : Cond.methodLink "OriginDeskModel" 375 ⟨"OriginDeskModel", "figures", "(III)I"⟩ ∈ gw := gw_i 1609 (by decide +kernel) (by decide +kernel)
theorem wl_Mo_368 : Cond.methodLink "OriginDeskModel" 368 ⟨"OriginDeskModel", "digitOf", "(II)I"⟩ ∈ gw := gw_i 1613 (by decide +kernel) (by decide +kernel)
theorem wl_Mo_379 : Cond.methodLink "OriginDeskModel" 379 ⟨"OriginDeskModel", "crlf", "(I)I"⟩ ∈ gw := gw_i 1616 (by decide +kernel) (by decide +kernel)
theorem wl_Mo_393 : Cond.methodLink "OriginDeskModel" 393 ⟨"OriginDeskModel", "parts", "()I"⟩ ∈ gw := gw_i 1628 (by decide +kernel) (by decide +kernel)
theorem wl_Mo_396 : Cond.methodLink "OriginDeskModel" 396 ⟨"OriginDeskModel", "loneTag", "()Z"⟩ ∈ gw := gw_i 1641 (by decide +kernel) (by decide +kernel)
theorem ws_Dk_Dk_add : Cond.selects "OriginDesk" ⟨"OriginDesk", "add", "(IIIIZJ)I"⟩ y_Dk_add ∈ gw := gw_i 308 (by decide +kernel) (by decide +kernel)
theorem ws_Dk_Dk_clear : Cond.selects "OriginDesk" ⟨"OriginDesk", "clear", "()V"⟩ y_Dk_clear ∈ gw := gw_i 548 (by decide +kernel) (by decide +kernel)
theorem ws_Dk_Dk_request : Cond.selects "OriginDesk" ⟨"OriginDesk", "request", "(I)V"⟩ y_Dk_request ∈ gw := gw_i 552 (by decide +kernel) (by decide +kernel)
theorem ws_Rq_Rq_restart : Cond.selects "OriginDesk$Request" ⟨"OriginDesk$Request", "restart", "(I)V"⟩ y_Rq_restart ∈ gw := gw_i 556 (by decide +kernel) (by decide +kernel)
theorem ws_Dk_Dk_feed : Cond.selects "OriginDesk" ⟨"OriginDesk", "feed", "(IJ)I"⟩ y_Dk_feed ∈ gw := gw_i 560 (by decide +kernel) (by decide +kernel)
theorem ws_Rq_Rq_append : Cond.selects "OriginDesk$Request" ⟨"OriginDesk$Request", "append", "(IJ)I"⟩ y_Rq_append ∈ gw := gw_i 564 (by decide +kernel) (by decide +kernel)
theorem ws_Dk_Dk_respond : Cond.selects "OriginDesk" ⟨"OriginDesk", "respond", "()I"⟩ y_Dk_respond ∈ gw := gw_i 574 (by decide +kernel) (by decide +kernel)
theorem ws_Ac_Ac_read : Cond.selects "OriginDesk$Accept" ⟨"OriginDesk$Accept", "read", "(LOriginDesk$Request;LOriginDesk$MediaType;)Z"⟩ y_Ac_read ∈ gw := gw_i 590 (by decide +kernel) (by decide +kernel)
theorem ws_Ac_Ac_open : Cond.selects "OriginDesk$Accept" ⟨"OriginDesk$Accept", "open", "(LOriginDesk$Request;I)V"⟩ y_Rd_open ∈ gw := gw_i 595 (by decide +kernel) (by decide +kernel)
theorem wsm_Ac_open : Cond.sameMethod "OriginDesk$Accept" "OriginDesk$Reader" "open" "(LOriginDesk$Request;I)V" ∈ gw := gw_i 593 (by decide +kernel) (by decide +kernel)
theorem ws_Rq_Rq_has : Cond.selects "OriginDesk$Request" ⟨"OriginDesk$Request", "has", "(I)Z"⟩ y_Rq_has ∈ gw := gw_i 600 (by decide +kernel) (by decide +kernel)
theorem ws_Ac_Ac_findElement : Cond.selects "OriginDesk$Accept" ⟨"OriginDesk$Accept", "findElement", "()Z"⟩ y_Rd_findElement ∈ gw := gw_i 605 (by decide +kernel) (by decide +kernel)
theorem wsm_Ac_findElement : Cond.sameMethod "OriginDesk$Accept" "OriginDesk$Reader" "findElement" "()Z" ∈ gw := gw_i 603 (by decide +kernel) (by decide +kernel)
theorem ws_Ac_Ac_takeToken : Cond.selects "OriginDesk$Accept" ⟨"OriginDesk$Accept", "takeToken", "()Z"⟩ y_Rd_takeToken ∈ gw := gw_i 615 (by decide +kernel) (by decide +kernel)
theorem wsm_Ac_takeToken : Cond.sameMethod "OriginDesk$Accept" "OriginDesk$Reader" "takeToken" "()Z" ∈ gw := gw_i 613 (by decide +kernel) (by decide +kernel)
theorem ws_Ac_Ac_isSaid : Cond.selects "OriginDesk$Accept" ⟨"OriginDesk$Accept", "isSaid", "(Ljava/lang/String;)Z"⟩ y_Rd_isSaid ∈ gw := gw_i 684 (by decide +kernel) (by decide +kernel)
theorem wsm_Ac_isSaid : Cond.sameMethod "OriginDesk$Accept" "OriginDesk$Reader" "isSaid" "(Ljava/lang/String;)Z" ∈ gw := gw_i 682 (by decide +kernel) (by decide +kernel)
theorem ws_Ac_Ac_isSaidAlike : Cond.selects "OriginDesk$Accept" ⟨"OriginDesk$Accept", "isSaidAlike", "(Ljava/lang/String;)Z"⟩ y_Rd_isSaidAlike ∈ gw := gw_i 702 (by decide +kernel) (by decide +kernel)
theorem wsm_Ac_isSaidAlike : Cond.sameMethod "OriginDesk$Accept" "OriginDesk$Reader" "isSaidAlike" "(Ljava/lang/String;)Z" ∈ gw := gw_i 700 (by decide +kernel) (by decide +kernel)
theorem ws_Ac_Ac_saysStar : Cond.selects "OriginDesk$Accept" ⟨"OriginDesk$Accept", "saysStar", "()Z"⟩ y_Rd_saysStar ∈ gw := gw_i 711 (by decide +kernel) (by decide +kernel)
theorem wsm_Ac_saysStar : Cond.sameMethod "OriginDesk$Accept" "OriginDesk$Reader" "saysStar" "()Z" ∈ gw := gw_i 709 (by decide +kernel) (by decide +kernel)
theorem ws_Ac_Ac_take : Cond.selects "OriginDesk$Accept" ⟨"OriginDesk$Accept", "take", "(C)Z"⟩ y_Rd_take ∈ gw := gw_i 717 (by decide +kernel) (by decide +kernel)
theorem wsm_Ac_take : Cond.sameMethod "OriginDesk$Accept" "OriginDesk$Reader" "take" "(C)Z" ∈ gw := gw_i 715 (by decide +kernel) (by decide +kernel)
theorem ws_Ac_Ac_takeSemicolon : Cond.selects "OriginDesk$Accept" ⟨"OriginDesk$Accept", "takeSemicolon", "()Z"⟩ y_Rd_takeSemicolon ∈ gw := gw_i 727 (by decide +kernel) (by decide +kernel)
theorem wsm_Ac_takeSemicolon : Cond.sameMethod "OriginDesk$Accept" "OriginDesk$Reader" "takeSemicolon" "()Z" ∈ gw := gw_i 725 (by decide +kernel) (by decide +kernel)
theorem ws_Ac_Rd_skipGap : Cond.selects "OriginDesk$Accept" ⟨"OriginDesk$Reader", "skipGap", "()V"⟩ y_Rd_skipGap ∈ gw := gw_i 733 (by decide +kernel) (by decide +kernel)
theorem ws_Da_Rd_skipGap : Cond.selects "OriginDesk$Dates" ⟨"OriginDesk$Reader", "skipGap", "()V"⟩ y_Rd_skipGap ∈ gw := gw_i 734 (by decide +kernel) (by decide +kernel)
theorem ws_La_Rd_skipGap : Cond.selects "OriginDesk$Languages" ⟨"OriginDesk$Reader", "skipGap", "()V"⟩ y_Rd_skipGap ∈ gw := gw_i 735 (by decide +kernel) (by decide +kernel)
theorem ws_Ra_Rd_skipGap : Cond.selects "OriginDesk$Ranges" ⟨"OriginDesk$Reader", "skipGap", "()V"⟩ y_Rd_skipGap ∈ gw := gw_i 736 (by decide +kernel) (by decide +kernel)
theorem ws_Tg_Rd_skipGap : Cond.selects "OriginDesk$Tags" ⟨"OriginDesk$Reader", "skipGap", "()V"⟩ y_Rd_skipGap ∈ gw := gw_i 737 (by decide +kernel) (by decide +kernel)
theorem ws_Ac_Ac_takeWeight : Cond.selects "OriginDesk$Accept" ⟨"OriginDesk$Accept", "takeWeight", "()I"⟩ y_Rd_takeWeight ∈ gw := gw_i 744 (by decide +kernel) (by decide +kernel)
theorem wsm_Ac_takeWeight : Cond.sameMethod "OriginDesk$Accept" "OriginDesk$Reader" "takeWeight" "()I" ∈ gw := gw_i 742 (by decide +kernel) (by decide +kernel)
theorem ws_Ac_Ac_isNext : Cond.selects "OriginDesk$Accept" ⟨"OriginDesk$Accept", "isNext", "(C)Z"⟩ y_Rd_isNext ∈ gw := gw_i 753 (by decide +kernel) (by decide +kernel)
theorem wsm_Ac_isNext : Cond.sameMethod "OriginDesk$Accept" "OriginDesk$Reader" "isNext" "(C)Z" ∈ gw := gw_i 751 (by decide +kernel) (by decide +kernel)
theorem ws_Ac_Ac_takeQuotedText : Cond.selects "OriginDesk$Accept" ⟨"OriginDesk$Accept", "takeQuotedText", "()Z"⟩ y_Rd_takeQuotedText ∈ gw := gw_i 759 (by decide +kernel) (by decide +kernel)
theorem wsm_Ac_takeQuotedText : Cond.sameMethod "OriginDesk$Accept" "OriginDesk$Reader" "takeQuotedText" "()Z" ∈ gw := gw_i 757 (by decide +kernel) (by decide +kernel)
theorem ws_Ac_Ac_endsElement : Cond.selects "OriginDesk$Accept" ⟨"OriginDesk$Accept", "endsElement", "()Z"⟩ y_Rd_endsElement ∈ gw := gw_i 768 (by decide +kernel) (by decide +kernel)
theorem wsm_Ac_endsElement : Cond.sameMethod "OriginDesk$Accept" "OriginDesk$Reader" "endsElement" "()Z" ∈ gw := gw_i 766 (by decide +kernel) (by decide +kernel)
theorem ws_La_La_read : Cond.selects "OriginDesk$Languages" ⟨"OriginDesk$Languages", "read", "(LOriginDesk$Request;LOriginDesk$Language;)Z"⟩ y_La_read ∈ gw := gw_i 779 (by decide +kernel) (by decide +kernel)
theorem ws_La_La_open : Cond.selects "OriginDesk$Languages" ⟨"OriginDesk$Languages", "open", "(LOriginDesk$Request;I)V"⟩ y_Rd_open ∈ gw := gw_i 783 (by decide +kernel) (by decide +kernel)
theorem wsm_La_open : Cond.sameMethod "OriginDesk$Languages" "OriginDesk$Reader" "open" "(LOriginDesk$Request;I)V" ∈ gw := gw_i 782 (by decide +kernel) (by decide +kernel)
theorem ws_La_La_findElement : Cond.selects "OriginDesk$Languages" ⟨"OriginDesk$Languages", "findElement", "()Z"⟩ y_Rd_findElement ∈ gw := gw_i 786 (by decide +kernel) (by decide +kernel)
theorem wsm_La_findElement : Cond.sameMethod "OriginDesk$Languages" "OriginDesk$Reader" "findElement" "()Z" ∈ gw := gw_i 785 (by decide +kernel) (by decide +kernel)
theorem ws_La_La_takeLanguage : Cond.selects "OriginDesk$Languages" ⟨"OriginDesk$Languages", "takeLanguage", "()Z"⟩ y_Rd_takeLanguage ∈ gw := gw_i 794 (by decide +kernel) (by decide +kernel)
theorem wsm_La_takeLanguage : Cond.sameMethod "OriginDesk$Languages" "OriginDesk$Reader" "takeLanguage" "()Z" ∈ gw := gw_i 792 (by decide +kernel) (by decide +kernel)
theorem ws_La_La_takeSemicolon : Cond.selects "OriginDesk$Languages" ⟨"OriginDesk$Languages", "takeSemicolon", "()Z"⟩ y_Rd_takeSemicolon ∈ gw := gw_i 802 (by decide +kernel) (by decide +kernel)
theorem wsm_La_takeSemicolon : Cond.sameMethod "OriginDesk$Languages" "OriginDesk$Reader" "takeSemicolon" "()Z" ∈ gw := gw_i 801 (by decide +kernel) (by decide +kernel)
theorem ws_La_La_take : Cond.selects "OriginDesk$Languages" ⟨"OriginDesk$Languages", "take", "(C)Z"⟩ y_Rd_take ∈ gw := gw_i 805 (by decide +kernel) (by decide +kernel)
theorem wsm_La_take : Cond.sameMethod "OriginDesk$Languages" "OriginDesk$Reader" "take" "(C)Z" ∈ gw := gw_i 804 (by decide +kernel) (by decide +kernel)
theorem ws_La_La_takeWeight : Cond.selects "OriginDesk$Languages" ⟨"OriginDesk$Languages", "takeWeight", "()I"⟩ y_Rd_takeWeight ∈ gw := gw_i 808 (by decide +kernel) (by decide +kernel)
theorem wsm_La_takeWeight : Cond.sameMethod "OriginDesk$Languages" "OriginDesk$Reader" "takeWeight" "()I" ∈ gw := gw_i 807 (by decide +kernel) (by decide +kernel)
theorem ws_La_La_isSaid : Cond.selects "OriginDesk$Languages" ⟨"OriginDesk$Languages", "isSaid", "(Ljava/lang/String;)Z"⟩ y_Rd_isSaid ∈ gw := gw_i 816 (by decide +kernel) (by decide +kernel)
theorem wsm_La_isSaid : Cond.sameMethod "OriginDesk$Languages" "OriginDesk$Reader" "isSaid" "(Ljava/lang/String;)Z" ∈ gw := gw_i 815 (by decide +kernel) (by decide +kernel)
theorem ws_La_La_isSaidAlike : Cond.selects "OriginDesk$Languages" ⟨"OriginDesk$Languages", "isSaidAlike", "(Ljava/lang/String;)Z"⟩ y_Rd_isSaidAlike ∈ gw := gw_i 819 (by decide +kernel) (by decide +kernel)
theorem wsm_La_isSaidAlike : Cond.sameMethod "OriginDesk$Languages" "OriginDesk$Reader" "isSaidAlike" "(Ljava/lang/String;)Z" ∈ gw := gw_i 818 (by decide +kernel) (by decide +kernel)
theorem ws_La_La_saidSize : Cond.selects "OriginDesk$Languages" ⟨"OriginDesk$Languages", "saidSize", "()I"⟩ y_Rd_saidSize ∈ gw := gw_i 823 (by decide +kernel) (by decide +kernel)
theorem wsm_La_saidSize : Cond.sameMethod "OriginDesk$Languages" "OriginDesk$Reader" "saidSize" "()I" ∈ gw := gw_i 821 (by decide +kernel) (by decide +kernel)
theorem ws_La_La_endsElement : Cond.selects "OriginDesk$Languages" ⟨"OriginDesk$Languages", "endsElement", "()Z"⟩ y_Rd_endsElement ∈ gw := gw_i 828 (by decide +kernel) (by decide +kernel)
theorem wsm_La_endsElement : Cond.sameMethod "OriginDesk$Languages" "OriginDesk$Reader" "endsElement" "()Z" ∈ gw := gw_i 827 (by decide +kernel) (by decide +kernel)
theorem ws_Tg_Tg_readList : Cond.selects "OriginDesk$Tags" ⟨"OriginDesk$Tags", "readList", "(LOriginDesk$Request;ILjava/lang/String;)Z"⟩ y_Tg_readList ∈ gw := gw_i 840 (by decide +kernel) (by decide +kernel)
theorem ws_Tg_Tg_open : Cond.selects "OriginDesk$Tags" ⟨"OriginDesk$Tags", "open", "(LOriginDesk$Request;I)V"⟩ y_Rd_open ∈ gw := gw_i 848 (by decide +kernel) (by decide +kernel)
theorem wsm_Tg_open : Cond.sameMethod "OriginDesk$Tags" "OriginDesk$Reader" "open" "(LOriginDesk$Request;I)V" ∈ gw := gw_i 847 (by decide +kernel) (by decide +kernel)
theorem ws_Tg_Tg_skipGap : Cond.selects "OriginDesk$Tags" ⟨"OriginDesk$Tags", "skipGap", "()V"⟩ y_Rd_skipGap ∈ gw := gw_i 852 (by decide +kernel) (by decide +kernel)
theorem wsm_Tg_skipGap : Cond.sameMethod "OriginDesk$Tags" "OriginDesk$Reader" "skipGap" "()V" ∈ gw := gw_i 850 (by decide +kernel) (by decide +kernel)
theorem ws_Tg_Tg_take : Cond.selects "OriginDesk$Tags" ⟨"OriginDesk$Tags", "take", "(C)Z"⟩ y_Rd_take ∈ gw := gw_i 855 (by decide +kernel) (by decide +kernel)
theorem wsm_Tg_take : Cond.sameMethod "OriginDesk$Tags" "OriginDesk$Reader" "take" "(C)Z" ∈ gw := gw_i 854 (by decide +kernel) (by decide +kernel)
theorem ws_Tg_Tg_isEnded : Cond.selects "OriginDesk$Tags" ⟨"OriginDesk$Tags", "isEnded", "()Z"⟩ y_Rd_isEnded ∈ gw := gw_i 859 (by decide +kernel) (by decide +kernel)
theorem wsm_Tg_isEnded : Cond.sameMethod "OriginDesk$Tags" "OriginDesk$Reader" "isEnded" "()Z" ∈ gw := gw_i 857 (by decide +kernel) (by decide +kernel)
theorem ws_Tg_Tg_findElement : Cond.selects "OriginDesk$Tags" ⟨"OriginDesk$Tags", "findElement", "()Z"⟩ y_Rd_findElement ∈ gw := gw_i 864 (by decide +kernel) (by decide +kernel)
theorem wsm_Tg_findElement : Cond.sameMethod "OriginDesk$Tags" "OriginDesk$Reader" "findElement" "()Z" ∈ gw := gw_i 863 (by decide +kernel) (by decide +kernel)
theorem ws_Tg_Tg_isNext : Cond.selects "OriginDesk$Tags" ⟨"OriginDesk$Tags", "isNext", "(C)Z"⟩ y_Rd_isNext ∈ gw := gw_i 871 (by decide +kernel) (by decide +kernel)
theorem wsm_Tg_isNext : Cond.sameMethod "OriginDesk$Tags" "OriginDesk$Reader" "isNext" "(C)Z" ∈ gw := gw_i 870 (by decide +kernel) (by decide +kernel)
theorem ws_Tg_Tg_takeText : Cond.selects "OriginDesk$Tags" ⟨"OriginDesk$Tags", "takeText", "(Ljava/lang/String;)Z"⟩ y_Rd_takeText ∈ gw := gw_i 876 (by decide +kernel) (by decide +kernel)
theorem wsm_Tg_takeText : Cond.sameMethod "OriginDesk$Tags" "OriginDesk$Reader" "takeText" "(Ljava/lang/String;)Z" ∈ gw := gw_i 874 (by decide +kernel) (by decide +kernel)
theorem ws_Tg_Tg_takeOpaque : Cond.selects "OriginDesk$Tags" ⟨"OriginDesk$Tags", "takeOpaque", "()Z"⟩ y_Rd_takeOpaque ∈ gw := gw_i 882 (by decide +kernel) (by decide +kernel)
theorem wsm_Tg_takeOpaque : Cond.sameMethod "OriginDesk$Tags" "OriginDesk$Reader" "takeOpaque" "()Z" ∈ gw := gw_i 880 (by decide +kernel) (by decide +kernel)
theorem ws_Tg_Tg_isSaid : Cond.selects "OriginDesk$Tags" ⟨"OriginDesk$Tags", "isSaid", "(Ljava/lang/String;)Z"⟩ y_Rd_isSaid ∈ gw := gw_i 887 (by decide +kernel) (by decide +kernel)
theorem wsm_Tg_isSaid : Cond.sameMethod "OriginDesk$Tags" "OriginDesk$Reader" "isSaid" "(Ljava/lang/String;)Z" ∈ gw := gw_i 886 (by decide +kernel) (by decide +kernel)
theorem ws_Tg_Tg_endsElement : Cond.selects "OriginDesk$Tags" ⟨"OriginDesk$Tags", "endsElement", "()Z"⟩ y_Rd_endsElement ∈ gw := gw_i 890 (by decide +kernel) (by decide +kernel)
theorem wsm_Tg_endsElement : Cond.sameMethod "OriginDesk$Tags" "OriginDesk$Reader" "endsElement" "()Z" ∈ gw := gw_i 889 (by decide +kernel) (by decide +kernel)
theorem ws_Da_Da_timeOf : Cond.selects "OriginDesk$Dates" ⟨"OriginDesk$Dates", "timeOf", "(LOriginDesk$Request;I)J"⟩ y_Da_timeOf ∈ gw := gw_i 893 (by decide +kernel) (by decide +kernel)
theorem ws_Da_Da_open : Cond.selects "OriginDesk$Dates" ⟨"OriginDesk$Dates", "open", "(LOriginDesk$Request;I)V"⟩ y_Rd_open ∈ gw := gw_i 897 (by decide +kernel) (by decide +kernel)
theorem wsm_Da_open : Cond.sameMethod "OriginDesk$Dates" "OriginDesk$Reader" "open" "(LOriginDesk$Request;I)V" ∈ gw := gw_i 896 (by decide +kernel) (by decide +kernel)
theorem ws_Da_Da_skipGap : Cond.selects "OriginDesk$Dates" ⟨"OriginDesk$Dates", "skipGap", "()V"⟩ y_Rd_skipGap ∈ gw := gw_i 900 (by decide +kernel) (by decide +kernel)
theorem wsm_Da_skipGap : Cond.sameMethod "OriginDesk$Dates" "OriginDesk$Reader" "skipGap" "()V" ∈ gw := gw_i 899 (by decide +kernel) (by decide +kernel)
theorem ws_Da_Da_takeName : Cond.selects "OriginDesk$Dates" ⟨"OriginDesk$Dates", "takeName", "(Ljava/lang/String;)I"⟩ y_Rd_takeName ∈ gw := gw_i 905 (by decide +kernel) (by decide +kernel)
theorem wsm_Da_takeName : Cond.sameMethod "OriginDesk$Dates" "OriginDesk$Reader" "takeName" "(Ljava/lang/String;)I" ∈ gw := gw_i 903 (by decide +kernel) (by decide +kernel)
theorem ws_Da_Da_take : Cond.selects "OriginDesk$Dates" ⟨"OriginDesk$Dates", "take", "(C)Z"⟩ y_Rd_take ∈ gw := gw_i 911 (by decide +kernel) (by decide +kernel)
theorem wsm_Da_take : Cond.sameMethod "OriginDesk$Dates" "OriginDesk$Reader" "take" "(C)Z" ∈ gw := gw_i 910 (by decide +kernel) (by decide +kernel)
theorem ws_Da_Da_takeDigits : Cond.selects "OriginDesk$Dates" ⟨"OriginDesk$Dates", "takeDigits", "(I)I"⟩ y_Rd_takeDigits ∈ gw := gw_i 923 (by decide +kernel) (by decide +kernel)
theorem wsm_Da_takeDigits : Cond.sameMethod "OriginDesk$Dates" "OriginDesk$Reader" "takeDigits" "(I)I" ∈ gw := gw_i 921 (by decide +kernel) (by decide +kernel)
theorem ws_Da_Da_takeText : Cond.selects "OriginDesk$Dates" ⟨"OriginDesk$Dates", "takeText", "(Ljava/lang/String;)Z"⟩ y_Rd_takeText ∈ gw := gw_i 942 (by decide +kernel) (by decide +kernel)
theorem wsm_Da_takeText : Cond.sameMethod "OriginDesk$Dates" "OriginDesk$Reader" "takeText" "(Ljava/lang/String;)Z" ∈ gw := gw_i 941 (by decide +kernel) (by decide +kernel)
theorem ws_Da_Da_isEnded : Cond.selects "OriginDesk$Dates" ⟨"OriginDesk$Dates", "isEnded", "()Z"⟩ y_Rd_isEnded ∈ gw := gw_i 970 (by decide +kernel) (by decide +kernel)
theorem wsm_Da_isEnded : Cond.sameMethod "OriginDesk$Dates" "OriginDesk$Reader" "isEnded" "()Z" ∈ gw := gw_i 969 (by decide +kernel) (by decide +kernel)
theorem ws_Ra_Ra_read : Cond.selects "OriginDesk$Ranges" ⟨"OriginDesk$Ranges", "read", "(LOriginDesk$Request;I)Z"⟩ y_Ra_read ∈ gw := gw_i 991 (by decide +kernel) (by decide +kernel)
theorem ws_Ra_Ra_open : Cond.selects "OriginDesk$Ranges" ⟨"OriginDesk$Ranges", "open", "(LOriginDesk$Request;I)V"⟩ y_Rd_open ∈ gw := gw_i 995 (by decide +kernel) (by decide +kernel)
theorem wsm_Ra_open : Cond.sameMethod "OriginDesk$Ranges" "OriginDesk$Reader" "open" "(LOriginDesk$Request;I)V" ∈ gw := gw_i 994 (by decide +kernel) (by decide +kernel)
theorem ws_Ra_Ra_skipGap : Cond.selects "OriginDesk$Ranges" ⟨"OriginDesk$Ranges", "skipGap", "()V"⟩ y_Rd_skipGap ∈ gw := gw_i 998 (by decide +kernel) (by decide +kernel)
theorem wsm_Ra_skipGap : Cond.sameMethod "OriginDesk$Ranges" "OriginDesk$Reader" "skipGap" "()V" ∈ gw := gw_i 997 (by decide +kernel) (by decide +kernel)
theorem ws_Ra_Ra_takeAlike : Cond.selects "OriginDesk$Ranges" ⟨"OriginDesk$Ranges", "takeAlike", "(Ljava/lang/String;)Z"⟩ y_Rd_takeAlike ∈ gw := gw_i 1003 (by decide +kernel) (by decide +kernel)
theorem wsm_Ra_takeAlike : Cond.sameMethod "OriginDesk$Ranges" "OriginDesk$Reader" "takeAlike" "(Ljava/lang/String;)Z" ∈ gw := gw_i 1001 (by decide +kernel) (by decide +kernel)
theorem ws_Ra_Ra_take : Cond.selects "OriginDesk$Ranges" ⟨"OriginDesk$Ranges", "take", "(C)Z"⟩ y_Rd_take ∈ gw := gw_i 1008 (by decide +kernel) (by decide +kernel)
theorem wsm_Ra_take : Cond.sameMethod "OriginDesk$Ranges" "OriginDesk$Reader" "take" "(C)Z" ∈ gw := gw_i 1007 (by decide +kernel) (by decide +kernel)
theorem ws_Ra_Ra_findElement : Cond.selects "OriginDesk$Ranges" ⟨"OriginDesk$Ranges", "findElement", "()Z"⟩ y_Rd_findElement ∈ gw := gw_i 1011 (by decide +kernel) (by decide +kernel)
theorem wsm_Ra_findElement : Cond.sameMethod "OriginDesk$Ranges" "OriginDesk$Reader" "findElement" "()Z" ∈ gw := gw_i 1010 (by decide +kernel) (by decide +kernel)
theorem ws_Ra_Ra_takeNumber : Cond.selects "OriginDesk$Ranges" ⟨"OriginDesk$Ranges", "takeNumber", "()I"⟩ y_Rd_takeNumber ∈ gw := gw_i 1019 (by decide +kernel) (by decide +kernel)
theorem wsm_Ra_takeNumber : Cond.sameMethod "OriginDesk$Ranges" "OriginDesk$Reader" "takeNumber" "()I" ∈ gw := gw_i 1017 (by decide +kernel) (by decide +kernel)
theorem ws_Ra_Ra_endsElement : Cond.selects "OriginDesk$Ranges" ⟨"OriginDesk$Ranges", "endsElement", "()Z"⟩ y_Rd_endsElement ∈ gw := gw_i 1031 (by decide +kernel) (by decide +kernel)
theorem wsm_Ra_endsElement : Cond.sameMethod "OriginDesk$Ranges" "OriginDesk$Reader" "endsElement" "()Z" ∈ gw := gw_i 1030 (by decide +kernel) (by decide +kernel)
theorem ws_Tg_Tg_readOne : Cond.selects "OriginDesk$Tags" ⟨"OriginDesk$Tags", "readOne", "(LOriginDesk$Request;ILjava/lang/String;)Z"⟩ y_Tg_readOne ∈ gw := gw_i 1038 (by decide +kernel) (by decide +kernel)
theorem ws_Ra_Ra_overlap : Cond.selects "OriginDesk$Ranges" ⟨"OriginDesk$Ranges", "overlap", "()Z"⟩ y_Ra_overlap ∈ gw := gw_i 1042 (by decide +kernel) (by decide +kernel)
theorem ws_Rs_Rs_settle : Cond.selects "OriginDesk$Response" ⟨"OriginDesk$Response", "settle", "(ILOriginDesk$Representation;ZLOriginDesk$Ranges;)V"⟩ y_Rs_settle ∈ gw := gw_i 1046 (by decide +kernel) (by decide +kernel)
theorem ws_Dk_Dk_status : Cond.selects "OriginDesk" ⟨"OriginDesk", "status", "()I"⟩ y_Dk_status ∈ gw := gw_i 1120 (by decide +kernel) (by decide +kernel)
theorem ws_Dk_Dk_chosen : Cond.selects "OriginDesk" ⟨"OriginDesk", "chosen", "()I"⟩ y_Dk_chosen ∈ gw := gw_i 1124 (by decide +kernel) (by decide +kernel)
theorem ws_Dk_Dk_length : Cond.selects "OriginDesk" ⟨"OriginDesk", "length", "()J"⟩ y_Dk_length ∈ gw := gw_i 1128 (by decide +kernel) (by decide +kernel)
theorem ws_Dk_Dk_body : Cond.selects "OriginDesk" ⟨"OriginDesk", "body", "(I)I"⟩ y_Dk_body ∈ gw := gw_i 1132 (by decide +kernel) (by decide +kernel)
theorem ws_Rs_Rs_byteAt : Cond.selects "OriginDesk$Response" ⟨"OriginDesk$Response", "byteAt", "(I)I"⟩ y_Rs_byteAt ∈ gw := gw_i 1136 (by decide +kernel) (by decide +kernel)
theorem ws_Rp_Rp_byteAt : Cond.selects "OriginDesk$Representation" ⟨"OriginDesk$Representation", "byteAt", "(I)I"⟩ y_Rp_byteAt ∈ gw := gw_i 1140 (by decide +kernel) (by decide +kernel)
theorem ws_Dk_Dk_parts : Cond.selects "OriginDesk" ⟨"OriginDesk", "parts", "()I"⟩ y_Dk_parts ∈ gw := gw_i 1159 (by decide +kernel) (by decide +kernel)
theorem ws_Dk_Dk_first : Cond.selects "OriginDesk" ⟨"OriginDesk", "first", "(I)I"⟩ y_Dk_first ∈ gw := gw_i 1163 (by decide +kernel) (by decide +kernel)
theorem ws_Rs_Rs_hasPart : Cond.selects "OriginDesk$Response" ⟨"OriginDesk$Response", "hasPart", "(I)Z"⟩ y_Rs_hasPart ∈ gw := gw_i 1167 (by decide +kernel) (by decide +kernel)
theorem ws_Dk_Dk_last : Cond.selects "OriginDesk" ⟨"OriginDesk", "last", "(I)I"⟩ y_Dk_last ∈ gw := gw_i 1171 (by decide +kernel) (by decide +kernel)
theorem ws_Dk_Dk_score : Cond.selects "OriginDesk" ⟨"OriginDesk", "score", "(I)I"⟩ y_Dk_score ∈ gw := gw_i 1175 (by decide +kernel) (by decide +kernel)
theorem ws_Dk_Dk_formed : Cond.selects "OriginDesk" ⟨"OriginDesk", "formed", "(I)Z"⟩ y_Dk_formed ∈ gw := gw_i 1179 (by decide +kernel) (by decide +kernel)
theorem ws_Dk_Dk_date : Cond.selects "OriginDesk" ⟨"OriginDesk", "date", "(I)J"⟩ y_Dk_date ∈ gw := gw_i 1188 (by decide +kernel) (by decide +kernel)
theorem ws_Mo_Mo_add : Cond.selects "OriginDeskModel" ⟨"OriginDeskModel", "add", "(IIIIZJ)I"⟩ y_Mo_add ∈ gw := gw_i 1314 (by decide +kernel) (by decide +kernel)
theorem ws_Mo_Mo_clear : Cond.selects "OriginDeskModel" ⟨"OriginDeskModel", "clear", "()V"⟩ y_Mo_clear ∈ gw := gw_i 1319 (by decide +kernel) (by decide +kernel)
theorem ws_Mo_Mo_request : Cond.selects "OriginDeskModel" ⟨"OriginDeskModel", "request", "(I)V"⟩ y_Mo_request ∈ gw := gw_i 1323 (by decide +kernel) (by decide +kernel)
theorem ws_Mo_Mo_feed : Cond.selects "OriginDeskModel" ⟨"OriginDeskModel", "feed", "(IJ)I"⟩ y_Mo_feed ∈ gw := gw_i 1327 (by decide +kernel) (by decide +kernel)
theorem ws_Mo_Mo_respond : Cond.selects "OriginDeskModel" ⟨"OriginDeskModel", "respond", "()I"⟩ y_Mo_respond ∈ gw := gw_i 1332 (by decide +kernel) (by decide +kernel)
theorem ws_Mo_Mo_status : Cond.selects "OriginDeskModel" ⟨"OriginDeskModel", "status", "()I"⟩ y_Mo_status ∈ gw := gw_i 1572 (by decide +kernel) (by decide +kernel)
theorem ws_Mo_Mo_chosen : Cond.selects "OriginDeskModel" ⟨"OriginDeskModel", "chosen", "()I"⟩ y_Mo_chosen ∈ gw := gw_i 1576 (by decide +kernel) (by decide +kernel)
theorem ws_Mo_Mo_length : Cond.selects "OriginDeskModel" ⟨"OriginDeskModel", "length", "()J"⟩ y_Mo_length ∈ gw := gw_i 1580 (by decide +kernel) (by decide +kernel)
theorem ws_Mo_Mo_body : Cond.selects "OriginDeskModel" ⟨"OriginDeskModel", "body", "(I)I"⟩ y_Mo_body ∈ gw := gw_i 1596 (by decide +kernel) (by decide +kernel)
theorem ws_Mo_Mo_parts : Cond.selects "OriginDeskModel" ⟨"OriginDeskModel", "parts", "()I"⟩ y_Mo_parts ∈ gw := gw_i 1622 (by decide +kernel) (by decide +kernel)
theorem ws_Mo_Mo_first : Cond.selects "OriginDeskModel" ⟨"OriginDeskModel", "first", "(I)I"⟩ y_Mo_first ∈ gw := gw_i 1626 (by decide +kernel) (by decide +kernel)
theorem ws_Mo_Mo_last : Cond.selects "OriginDeskModel" ⟨"OriginDeskModel", "last", "(I)I"⟩ y_Mo_last ∈ gw := gw_i 1631 (by decide +kernel) (by decide +kernel)
theorem ws_Mo_Mo_score : Cond.selects "OriginDeskModel" ⟨"OriginDeskModel", "score", "(I)I"⟩ y_Mo_score ∈ gw := gw_i 1635 (by decide +kernel) (by decide +kernel)
theorem ws_Mo_Mo_formed : Cond.selects "OriginDeskModel" ⟨"OriginDeskModel", "formed", "(I)Z"⟩ y_Mo_formed ∈ gw := gw_i 1639 (by decide +kernel) (by decide +kernel)
theorem ws_Mo_Mo_date : Cond.selects "OriginDeskModel" ⟨"OriginDeskModel", "date", "(I)J"⟩ y_Mo_date ∈ gw := gw_i 1647 (by decide +kernel) (by decide +kernel)
theorem ws_Ac_Rd_take : Cond.selects "OriginDesk$Accept" ⟨"OriginDesk$Reader", "take", "(C)Z"⟩ y_Rd_take ∈ gw := gw_i 1657 (by decide +kernel) (by decide +kernel)
theorem ws_Da_Rd_take : Cond.selects "OriginDesk$Dates" ⟨"OriginDesk$Reader", "take", "(C)Z"⟩ y_Rd_take ∈ gw := gw_i 1658 (by decide +kernel) (by decide +kernel)
theorem ws_La_Rd_take : Cond.selects "OriginDesk$Languages" ⟨"OriginDesk$Reader", "take", "(C)Z"⟩ y_Rd_take ∈ gw := gw_i 1659 (by decide +kernel) (by decide +kernel)
theorem ws_Ra_Rd_take : Cond.selects "OriginDesk$Ranges" ⟨"OriginDesk$Reader", "take", "(C)Z"⟩ y_Rd_take ∈ gw := gw_i 1660 (by decide +kernel) (by decide +kernel)
theorem ws_Tg_Rd_take : Cond.selects "OriginDesk$Tags" ⟨"OriginDesk$Reader", "take", "(C)Z"⟩ y_Rd_take ∈ gw := gw_i 1661 (by decide +kernel) (by decide +kernel)
theorem ws_Dk_Dk_codeWithoutChoice : Cond.selects "OriginDesk" y_Dk_codeWithoutChoice y_Dk_codeWithoutChoice ∈ gw := gw_of (List.mem_append_left _ (List.mem_map.mpr ⟨(y_Dk_codeWithoutChoice, 9), by decide +kernel, rfl⟩)) (by decide +kernel)
theorem ws_Dk_Dk_choose : Cond.selects "OriginDesk" y_Dk_choose y_Dk_choose ∈ gw := gw_of (List.mem_append_left _ (List.mem_map.mpr ⟨(y_Dk_choose, 9), by decide +kernel, rfl⟩)) (by decide +kernel)
theorem ws_Dk_Dk_scoreOf : Cond.selects "OriginDesk" y_Dk_scoreOf y_Dk_scoreOf ∈ gw := gw_of (List.mem_append_left _ (List.mem_map.mpr ⟨(y_Dk_scoreOf, 9), by decide +kernel, rfl⟩)) (by decide +kernel)
theorem ws_Dk_Dk_codeFor : Cond.selects "OriginDesk" y_Dk_codeFor y_Dk_codeFor ∈ gw := gw_of (List.mem_append_left _ (List.mem_map.mpr ⟨(y_Dk_codeFor, 9), by decide +kernel, rfl⟩)) (by decide +kernel)
theorem ws_Dk_Dk_isRefused : Cond.selects "OriginDesk" y_Dk_isRefused y_Dk_isRefused ∈ gw := gw_of (List.mem_append_left _ (List.mem_map.mpr ⟨(y_Dk_isRefused, 9), by decide +kernel, rfl⟩)) (by decide +kernel)
theorem ws_Dk_Dk_isUnchanged : Cond.selects "OriginDesk" y_Dk_isUnchanged y_Dk_isUnchanged ∈ gw := gw_of (List.mem_append_left _ (List.mem_map.mpr ⟨(y_Dk_isUnchanged, 9), by decide +kernel, rfl⟩)) (by decide +kernel)
theorem ws_Dk_Dk_isRangeWanted : Cond.selects "OriginDesk" y_Dk_isRangeWanted y_Dk_isRangeWanted ∈ gw := gw_of (List.mem_append_left _ (List.mem_map.mpr ⟨(y_Dk_isRangeWanted, 9), by decide +kernel, rfl⟩)) (by decide +kernel)
theorem ws_Mo_Mo_open : Cond.selects "OriginDeskModel" y_Mo_open y_Mo_open ∈ gw := gw_of (List.mem_append_left _ (List.mem_map.mpr ⟨(y_Mo_open, 31), by decide +kernel, rfl⟩)) (by decide +kernel)
theorem ws_Mo_Mo_there : Cond.selects "OriginDeskModel" y_Mo_there y_Mo_there ∈ gw := gw_of (List.mem_append_left _ (List.mem_map.mpr ⟨(y_Mo_there, 31), by decide +kernel, rfl⟩)) (by decide +kernel)
theorem ws_Mo_Mo_charAt : Cond.selects "OriginDeskModel" y_Mo_charAt y_Mo_charAt ∈ gw := gw_of (List.mem_append_left _ (List.mem_map.mpr ⟨(y_Mo_charAt, 31), by decide +kernel, rfl⟩)) (by decide +kernel)
theorem ws_Mo_Mo_next : Cond.selects "OriginDeskModel" y_Mo_next y_Mo_next ∈ gw := gw_of (List.mem_append_left _ (List.mem_map.mpr ⟨(y_Mo_next, 31), by decide +kernel, rfl⟩)) (by decide +kernel)
theorem ws_Mo_Mo_ended : Cond.selects "OriginDeskModel" y_Mo_ended y_Mo_ended ∈ gw := gw_of (List.mem_append_left _ (List.mem_map.mpr ⟨(y_Mo_ended, 31), by decide +kernel, rfl⟩)) (by decide +kernel)
theorem ws_Mo_Mo_gap : Cond.selects "OriginDeskModel" y_Mo_gap y_Mo_gap ∈ gw := gw_of (List.mem_append_left _ (List.mem_map.mpr ⟨(y_Mo_gap, 31), by decide +kernel, rfl⟩)) (by decide +kernel)
theorem ws_Mo_Mo_take : Cond.selects "OriginDeskModel" y_Mo_take y_Mo_take ∈ gw := gw_of (List.mem_append_left _ (List.mem_map.mpr ⟨(y_Mo_take, 31), by decide +kernel, rfl⟩)) (by decide +kernel)
theorem ws_Mo_Mo_token : Cond.selects "OriginDeskModel" y_Mo_token y_Mo_token ∈ gw := gw_of (List.mem_append_left _ (List.mem_map.mpr ⟨(y_Mo_token, 31), by decide +kernel, rfl⟩)) (by decide +kernel)
theorem ws_Mo_Mo_says : Cond.selects "OriginDeskModel" y_Mo_says y_Mo_says ∈ gw := gw_of (List.mem_append_left _ (List.mem_map.mpr ⟨(y_Mo_says, 31), by decide +kernel, rfl⟩)) (by decide +kernel)
theorem ws_Mo_Mo_isWord : Cond.selects "OriginDeskModel" y_Mo_isWord y_Mo_isWord ∈ gw := gw_of (List.mem_append_left _ (List.mem_map.mpr ⟨(y_Mo_isWord, 31), by decide +kernel, rfl⟩)) (by decide +kernel)
theorem ws_Mo_Mo_isMain : Cond.selects "OriginDeskModel" y_Mo_isMain y_Mo_isMain ∈ gw := gw_of (List.mem_append_left _ (List.mem_map.mpr ⟨(y_Mo_isMain, 31), by decide +kernel, rfl⟩)) (by decide +kernel)
theorem ws_Mo_Mo_isSub : Cond.selects "OriginDeskModel" y_Mo_isSub y_Mo_isSub ∈ gw := gw_of (List.mem_append_left _ (List.mem_map.mpr ⟨(y_Mo_isSub, 31), by decide +kernel, rfl⟩)) (by decide +kernel)
theorem ws_Mo_Mo_weight : Cond.selects "OriginDeskModel" y_Mo_weight y_Mo_weight ∈ gw := gw_of (List.mem_append_left _ (List.mem_map.mpr ⟨(y_Mo_weight, 31), by decide +kernel, rfl⟩)) (by decide +kernel)
theorem ws_Mo_Mo_semicolon : Cond.selects "OriginDeskModel" y_Mo_semicolon y_Mo_semicolon ∈ gw := gw_of (List.mem_append_left _ (List.mem_map.mpr ⟨(y_Mo_semicolon, 31), by decide +kernel, rfl⟩)) (by decide +kernel)
theorem ws_Mo_Mo_weightIfAny : Cond.selects "OriginDeskModel" y_Mo_weightIfAny y_Mo_weightIfAny ∈ gw := gw_of (List.mem_append_left _ (List.mem_map.mpr ⟨(y_Mo_weightIfAny, 31), by decide +kernel, rfl⟩)) (by decide +kernel)
theorem ws_Mo_Mo_separator : Cond.selects "OriginDeskModel" y_Mo_separator y_Mo_separator ∈ gw := gw_of (List.mem_append_left _ (List.mem_map.mpr ⟨(y_Mo_separator, 31), by decide +kernel, rfl⟩)) (by decide +kernel)
theorem ws_Mo_Mo_element : Cond.selects "OriginDeskModel" y_Mo_element y_Mo_element ∈ gw := gw_of (List.mem_append_left _ (List.mem_map.mpr ⟨(y_Mo_element, 31), by decide +kernel, rfl⟩)) (by decide +kernel)
theorem ws_Mo_Mo_quoted : Cond.selects "OriginDeskModel" y_Mo_quoted y_Mo_quoted ∈ gw := gw_of (List.mem_append_left _ (List.mem_map.mpr ⟨(y_Mo_quoted, 31), by decide +kernel, rfl⟩)) (by decide +kernel)
theorem ws_Mo_Mo_assigned : Cond.selects "OriginDeskModel" y_Mo_assigned y_Mo_assigned ∈ gw := gw_of (List.mem_append_left _ (List.mem_map.mpr ⟨(y_Mo_assigned, 31), by decide +kernel, rfl⟩)) (by decide +kernel)
theorem ws_Mo_Mo_starred : Cond.selects "OriginDeskModel" y_Mo_starred y_Mo_starred ∈ gw := gw_of (List.mem_append_left _ (List.mem_map.mpr ⟨(y_Mo_starred, 31), by decide +kernel, rfl⟩)) (by decide +kernel)
theorem ws_Mo_Mo_mediaRange : Cond.selects "OriginDeskModel" y_Mo_mediaRange y_Mo_mediaRange ∈ gw := gw_of (List.mem_append_left _ (List.mem_map.mpr ⟨(y_Mo_mediaRange, 31), by decide +kernel, rfl⟩)) (by decide +kernel)
theorem ws_Mo_Mo_accepted : Cond.selects "OriginDeskModel" y_Mo_accepted y_Mo_accepted ∈ gw := gw_of (List.mem_append_left _ (List.mem_map.mpr ⟨(y_Mo_accepted, 31), by decide +kernel, rfl⟩)) (by decide +kernel)
theorem ws_Mo_Mo_tongue : Cond.selects "OriginDeskModel" y_Mo_tongue y_Mo_tongue ∈ gw := gw_of (List.mem_append_left _ (List.mem_map.mpr ⟨(y_Mo_tongue, 31), by decide +kernel, rfl⟩)) (by decide +kernel)
theorem ws_Mo_Mo_speaks : Cond.selects "OriginDeskModel" y_Mo_speaks y_Mo_speaks ∈ gw := gw_of (List.mem_append_left _ (List.mem_map.mpr ⟨(y_Mo_speaks, 31), by decide +kernel, rfl⟩)) (by decide +kernel)
theorem ws_Mo_Mo_spoken : Cond.selects "OriginDeskModel" y_Mo_spoken y_Mo_spoken ∈ gw := gw_of (List.mem_append_left _ (List.mem_map.mpr ⟨(y_Mo_spoken, 31), by decide +kernel, rfl⟩)) (by decide +kernel)
theorem ws_Mo_Mo_scoreOf : Cond.selects "OriginDeskModel" y_Mo_scoreOf y_Mo_scoreOf ∈ gw := gw_of (List.mem_append_left _ (List.mem_map.mpr ⟨(y_Mo_scoreOf, 31), by decide +kernel, rfl⟩)) (by decide +kernel)
theorem ws_Mo_Mo_tagText : Cond.selects "OriginDeskModel" y_Mo_tagText y_Mo_tagText ∈ gw := gw_of (List.mem_append_left _ (List.mem_map.mpr ⟨(y_Mo_tagText, 31), by decide +kernel, rfl⟩)) (by decide +kernel)
theorem ws_Mo_Mo_isTagOf : Cond.selects "OriginDeskModel" y_Mo_isTagOf y_Mo_isTagOf ∈ gw := gw_of (List.mem_append_left _ (List.mem_map.mpr ⟨(y_Mo_isTagOf, 31), by decide +kernel, rfl⟩)) (by decide +kernel)
theorem ws_Mo_Mo_tags : Cond.selects "OriginDeskModel" y_Mo_tags y_Mo_tags ∈ gw := gw_of (List.mem_append_left _ (List.mem_map.mpr ⟨(y_Mo_tags, 31), by decide +kernel, rfl⟩)) (by decide +kernel)
theorem ws_Mo_Mo_digits : Cond.selects "OriginDeskModel" y_Mo_digits y_Mo_digits ∈ gw := gw_of (List.mem_append_left _ (List.mem_map.mpr ⟨(y_Mo_digits, 31), by decide +kernel, rfl⟩)) (by decide +kernel)
theorem ws_Mo_Mo_three : Cond.selects "OriginDeskModel" y_Mo_three y_Mo_three ∈ gw := gw_of (List.mem_append_left _ (List.mem_map.mpr ⟨(y_Mo_three, 31), by decide +kernel, rfl⟩)) (by decide +kernel)
theorem ws_Mo_Mo_dayName : Cond.selects "OriginDeskModel" y_Mo_dayName y_Mo_dayName ∈ gw := gw_of (List.mem_append_left _ (List.mem_map.mpr ⟨(y_Mo_dayName, 31), by decide +kernel, rfl⟩)) (by decide +kernel)
theorem ws_Mo_Mo_monthName : Cond.selects "OriginDeskModel" y_Mo_monthName y_Mo_monthName ∈ gw := gw_of (List.mem_append_left _ (List.mem_map.mpr ⟨(y_Mo_monthName, 31), by decide +kernel, rfl⟩)) (by decide +kernel)
theorem ws_Mo_Mo_restOf : Cond.selects "OriginDeskModel" y_Mo_restOf y_Mo_restOf ∈ gw := gw_of (List.mem_append_left _ (List.mem_map.mpr ⟨(y_Mo_restOf, 31), by decide +kernel, rfl⟩)) (by decide +kernel)
theorem ws_Mo_Mo_time : Cond.selects "OriginDeskModel" y_Mo_time y_Mo_time ∈ gw := gw_of (List.mem_append_left _ (List.mem_map.mpr ⟨(y_Mo_time, 31), by decide +kernel, rfl⟩)) (by decide +kernel)
theorem ws_Mo_Mo_shortYear : Cond.selects "OriginDeskModel" y_Mo_shortYear y_Mo_shortYear ∈ gw := gw_of (List.mem_append_left _ (List.mem_map.mpr ⟨(y_Mo_shortYear, 31), by decide +kernel, rfl⟩)) (by decide +kernel)
theorem ws_Mo_Mo_zone : Cond.selects "OriginDeskModel" y_Mo_zone y_Mo_zone ∈ gw := gw_of (List.mem_append_left _ (List.mem_map.mpr ⟨(y_Mo_zone, 31), by decide +kernel, rfl⟩)) (by decide +kernel)
theorem ws_Mo_Mo_paddedDay : Cond.selects "OriginDeskModel" y_Mo_paddedDay y_Mo_paddedDay ∈ gw := gw_of (List.mem_append_left _ (List.mem_map.mpr ⟨(y_Mo_paddedDay, 31), by decide +kernel, rfl⟩)) (by decide +kernel)
theorem ws_Mo_Mo_dateBehind : Cond.selects "OriginDeskModel" y_Mo_dateBehind y_Mo_dateBehind ∈ gw := gw_of (List.mem_append_left _ (List.mem_map.mpr ⟨(y_Mo_dateBehind, 31), by decide +kernel, rfl⟩)) (by decide +kernel)
theorem ws_Mo_Mo_dateOf : Cond.selects "OriginDeskModel" y_Mo_dateOf y_Mo_dateOf ∈ gw := gw_of (List.mem_append_left _ (List.mem_map.mpr ⟨(y_Mo_dateOf, 31), by decide +kernel, rfl⟩)) (by decide +kernel)
theorem ws_Mo_Mo_many : Cond.selects "OriginDeskModel" y_Mo_many y_Mo_many ∈ gw := gw_of (List.mem_append_left _ (List.mem_map.mpr ⟨(y_Mo_many, 31), by decide +kernel, rfl⟩)) (by decide +kernel)
theorem ws_Mo_Mo_spec : Cond.selects "OriginDeskModel" y_Mo_spec y_Mo_spec ∈ gw := gw_of (List.mem_append_left _ (List.mem_map.mpr ⟨(y_Mo_spec, 31), by decide +kernel, rfl⟩)) (by decide +kernel)
theorem ws_Mo_Mo_ranges : Cond.selects "OriginDeskModel" y_Mo_ranges y_Mo_ranges ∈ gw := gw_of (List.mem_append_left _ (List.mem_map.mpr ⟨(y_Mo_ranges, 31), by decide +kernel, rfl⟩)) (by decide +kernel)
theorem ws_Mo_Mo_resolve : Cond.selects "OriginDeskModel" y_Mo_resolve y_Mo_resolve ∈ gw := gw_of (List.mem_append_left _ (List.mem_map.mpr ⟨(y_Mo_resolve, 31), by decide +kernel, rfl⟩)) (by decide +kernel)
theorem ws_Mo_Mo_overlap : Cond.selects "OriginDeskModel" y_Mo_overlap y_Mo_overlap ∈ gw := gw_of (List.mem_append_left _ (List.mem_map.mpr ⟨(y_Mo_overlap, 31), by decide +kernel, rfl⟩)) (by decide +kernel)
theorem ws_Mo_Mo_ifRange : Cond.selects "OriginDeskModel" y_Mo_ifRange y_Mo_ifRange ∈ gw := gw_of (List.mem_append_left _ (List.mem_map.mpr ⟨(y_Mo_ifRange, 31), by decide +kernel, rfl⟩)) (by decide +kernel)
theorem ws_Mo_Mo_chosenOne : Cond.selects "OriginDeskModel" y_Mo_chosenOne y_Mo_chosenOne ∈ gw := gw_of (List.mem_append_left _ (List.mem_map.mpr ⟨(y_Mo_chosenOne, 31), by decide +kernel, rfl⟩)) (by decide +kernel)
theorem ws_Mo_Mo_conditions : Cond.selects "OriginDeskModel" y_Mo_conditions y_Mo_conditions ∈ gw := gw_of (List.mem_append_left _ (List.mem_map.mpr ⟨(y_Mo_conditions, 31), by decide +kernel, rfl⟩)) (by decide +kernel)
theorem ws_Mo_Mo_ranged : Cond.selects "OriginDeskModel" y_Mo_ranged y_Mo_ranged ∈ gw := gw_of (List.mem_append_left _ (List.mem_map.mpr ⟨(y_Mo_ranged, 31), by decide +kernel, rfl⟩)) (by decide +kernel)
theorem ws_Mo_Mo_decide : Cond.selects "OriginDeskModel" y_Mo_decide y_Mo_decide ∈ gw := gw_of (List.mem_append_left _ (List.mem_map.mpr ⟨(y_Mo_decide, 31), by decide +kernel, rfl⟩)) (by decide +kernel)
theorem ws_Mo_Mo_byteAt : Cond.selects "OriginDeskModel" y_Mo_byteAt y_Mo_byteAt ∈ gw := gw_of (List.mem_append_left _ (List.mem_map.mpr ⟨(y_Mo_byteAt, 31), by decide +kernel, rfl⟩)) (by decide +kernel)
theorem ws_Mo_Mo_headOf : Cond.selects "OriginDeskModel" y_Mo_headOf y_Mo_headOf ∈ gw := gw_of (List.mem_append_left _ (List.mem_map.mpr ⟨(y_Mo_headOf, 31), by decide +kernel, rfl⟩)) (by decide +kernel)
theorem ws_Mo_Mo_partSize : Cond.selects "OriginDeskModel" y_Mo_partSize y_Mo_partSize ∈ gw := gw_of (List.mem_append_left _ (List.mem_map.mpr ⟨(y_Mo_partSize, 31), by decide +kernel, rfl⟩)) (by decide +kernel)
theorem ws_Mo_Mo_figures : Cond.selects "OriginDeskModel" y_Mo_figures y_Mo_figures ∈ gw := gw_of (List.mem_append_left _ (List.mem_map.mpr ⟨(y_Mo_figures, 31), by decide +kernel, rfl⟩)) (by decide +kernel)
theorem ws_Mo_Mo_partByte : Cond.selects "OriginDeskModel" y_Mo_partByte y_Mo_partByte ∈ gw := gw_of (List.mem_append_left _ (List.mem_map.mpr ⟨(y_Mo_partByte, 31), by decide +kernel, rfl⟩)) (by decide +kernel)
theorem ws_Mo_Mo_loneTag : Cond.selects "OriginDeskModel" y_Mo_loneTag y_Mo_loneTag ∈ gw := gw_of (List.mem_append_left _ (List.mem_map.mpr ⟨(y_Mo_loneTag, 31), by decide +kernel, rfl⟩)) (by decide +kernel)
theorem ws_Ac_Ac_readTokens : Cond.selects "OriginDesk$Accept" y_Ac_readTokens y_Ac_readTokens ∈ gw := gw_of (List.mem_append_left _ (List.mem_map.mpr ⟨(y_Ac_readTokens, 10), by decide +kernel, rfl⟩)) (by decide +kernel)
theorem ws_Ac_Ac_readParameters : Cond.selects "OriginDesk$Accept" y_Ac_readParameters y_Ac_readParameters ∈ gw := gw_of (List.mem_append_left _ (List.mem_map.mpr ⟨(y_Ac_readParameters, 10), by decide +kernel, rfl⟩)) (by decide +kernel)
theorem ws_Ac_Ac_weigh : Cond.selects "OriginDesk$Accept" y_Ac_weigh y_Ac_weigh ∈ gw := gw_of (List.mem_append_left _ (List.mem_map.mpr ⟨(y_Ac_weigh, 10), by decide +kernel, rfl⟩)) (by decide +kernel)
theorem ws_Da_Da_takeCommaForm : Cond.selects "OriginDesk$Dates" y_Da_takeCommaForm y_Da_takeCommaForm ∈ gw := gw_of (List.mem_append_left _ (List.mem_map.mpr ⟨(y_Da_takeCommaForm, 10), by decide +kernel, rfl⟩)) (by decide +kernel)
theorem ws_Da_Da_takeDashForm : Cond.selects "OriginDesk$Dates" y_Da_takeDashForm y_Da_takeDashForm ∈ gw := gw_of (List.mem_append_left _ (List.mem_map.mpr ⟨(y_Da_takeDashForm, 10), by decide +kernel, rfl⟩)) (by decide +kernel)
theorem ws_Da_Da_takeSpaceForm : Cond.selects "OriginDesk$Dates" y_Da_takeSpaceForm y_Da_takeSpaceForm ∈ gw := gw_of (List.mem_append_left _ (List.mem_map.mpr ⟨(y_Da_takeSpaceForm, 10), by decide +kernel, rfl⟩)) (by decide +kernel)
theorem ws_Da_Da_takeDay : Cond.selects "OriginDesk$Dates" y_Da_takeDay y_Da_takeDay ∈ gw := gw_of (List.mem_append_left _ (List.mem_map.mpr ⟨(y_Da_takeDay, 10), by decide +kernel, rfl⟩)) (by decide +kernel)
theorem ws_Da_Da_takeSpacedDay : Cond.selects "OriginDesk$Dates" y_Da_takeSpacedDay y_Da_takeSpacedDay ∈ gw := gw_of (List.mem_append_left _ (List.mem_map.mpr ⟨(y_Da_takeSpacedDay, 10), by decide +kernel, rfl⟩)) (by decide +kernel)
theorem ws_Da_Da_takeMonth : Cond.selects "OriginDesk$Dates" y_Da_takeMonth y_Da_takeMonth ∈ gw := gw_of (List.mem_append_left _ (List.mem_map.mpr ⟨(y_Da_takeMonth, 10), by decide +kernel, rfl⟩)) (by decide +kernel)
theorem ws_Da_Da_takeYear : Cond.selects "OriginDesk$Dates" y_Da_takeYear y_Da_takeYear ∈ gw := gw_of (List.mem_append_left _ (List.mem_map.mpr ⟨(y_Da_takeYear, 10), by decide +kernel, rfl⟩)) (by decide +kernel)
theorem ws_Da_Da_takeShortYear : Cond.selects "OriginDesk$Dates" y_Da_takeShortYear y_Da_takeShortYear ∈ gw := gw_of (List.mem_append_left _ (List.mem_map.mpr ⟨(y_Da_takeShortYear, 10), by decide +kernel, rfl⟩)) (by decide +kernel)
theorem ws_Da_Da_takeClock : Cond.selects "OriginDesk$Dates" y_Da_takeClock y_Da_takeClock ∈ gw := gw_of (List.mem_append_left _ (List.mem_map.mpr ⟨(y_Da_takeClock, 10), by decide +kernel, rfl⟩)) (by decide +kernel)
theorem ws_Da_Da_isInCalendar : Cond.selects "OriginDesk$Dates" y_Da_isInCalendar y_Da_isInCalendar ∈ gw := gw_of (List.mem_append_left _ (List.mem_map.mpr ⟨(y_Da_isInCalendar, 10), by decide +kernel, rfl⟩)) (by decide +kernel)
theorem ws_Da_Da_time : Cond.selects "OriginDesk$Dates" y_Da_time y_Da_time ∈ gw := gw_of (List.mem_append_left _ (List.mem_map.mpr ⟨(y_Da_time, 10), by decide +kernel, rfl⟩)) (by decide +kernel)
theorem ws_La_La_readRange : Cond.selects "OriginDesk$Languages" y_La_readRange y_La_readRange ∈ gw := gw_of (List.mem_append_left _ (List.mem_map.mpr ⟨(y_La_readRange, 7), by decide +kernel, rfl⟩)) (by decide +kernel)
theorem ws_La_La_fitOf : Cond.selects "OriginDesk$Languages" y_La_fitOf y_La_fitOf ∈ gw := gw_of (List.mem_append_left _ (List.mem_map.mpr ⟨(y_La_fitOf, 7), by decide +kernel, rfl⟩)) (by decide +kernel)
theorem ws_Ra_Ra_readSpec : Cond.selects "OriginDesk$Ranges" y_Ra_readSpec y_Ra_readSpec ∈ gw := gw_of (List.mem_append_left _ (List.mem_map.mpr ⟨(y_Ra_readSpec, 9), by decide +kernel, rfl⟩)) (by decide +kernel)
theorem ws_Ra_Ra_keep : Cond.selects "OriginDesk$Ranges" y_Ra_keep y_Ra_keep ∈ gw := gw_of (List.mem_append_left _ (List.mem_map.mpr ⟨(y_Ra_keep, 9), by decide +kernel, rfl⟩)) (by decide +kernel)
theorem ws_Rs_Rs_measure : Cond.selects "OriginDesk$Response" y_Rs_measure y_Rs_measure ∈ gw := gw_of (List.mem_append_left _ (List.mem_map.mpr ⟨(y_Rs_measure, 8), by decide +kernel, rfl⟩)) (by decide +kernel)
theorem ws_Rs_Rs_byteAmongParts : Cond.selects "OriginDesk$Response" y_Rs_byteAmongParts y_Rs_byteAmongParts ∈ gw := gw_of (List.mem_append_left _ (List.mem_map.mpr ⟨(y_Rs_byteAmongParts, 8), by decide +kernel, rfl⟩)) (by decide +kernel)
theorem ws_Rs_Rs_writeHeading : Cond.selects "OriginDesk$Response" y_Rs_writeHeading y_Rs_writeHeading ∈ gw := gw_of (List.mem_append_left _ (List.mem_map.mpr ⟨(y_Rs_writeHeading, 8), by decide +kernel, rfl⟩)) (by decide +kernel)
theorem ws_Rs_Rs_partSize : Cond.selects "OriginDesk$Response" y_Rs_partSize y_Rs_partSize ∈ gw := gw_of (List.mem_append_left _ (List.mem_map.mpr ⟨(y_Rs_partSize, 8), by decide +kernel, rfl⟩)) (by decide +kernel)
theorem ws_Tg_Tg_begin : Cond.selects "OriginDesk$Tags" y_Tg_begin y_Tg_begin ∈ gw := gw_of (List.mem_append_left _ (List.mem_map.mpr ⟨(y_Tg_begin, 8), by decide +kernel, rfl⟩)) (by decide +kernel)
theorem ws_Tg_Tg_readTag : Cond.selects "OriginDesk$Tags" y_Tg_readTag y_Tg_readTag ∈ gw := gw_of (List.mem_append_left _ (List.mem_map.mpr ⟨(y_Tg_readTag, 8), by decide +kernel, rfl⟩)) (by decide +kernel)
end
section
/-! CONSTANTS of the pools -/
theorem wc_Dk_57 : Jvm.Cond.constantLong "OriginDesk" 57 4294967295 ∈ gw := gw_i 242 (by decide +kernel) (by decide +kernel)
theorem wc_Dk_61 : Jvm.Cond.constantLong "OriginDesk" 61 4102444799 ∈ gw := gw_i 245 (by decide +kernel) (by decide +kernel)
theorem wc_Da_122 : Jvm.Cond.constantLong "OriginDesk$Dates" 122 86400 ∈ gw := gw_i 253 (by decide +kernel) (by decide +kernel)
theorem wc_Dk_82 : Jvm.Cond.constantLong "OriginDesk" 82 100000 ∈ gw := gw_i 317 (by decide +kernel) (by decide +kernel)
theorem wc_Dk_84 : Jvm.Cond.constantLong "OriginDesk" 84 9999 ∈ gw := gw_i 318 (by decide +kernel) (by decide +kernel)
theorem wc_Da_32 : Jvm.Cond.constantLong "OriginDesk$Dates" 32 (-1) ∈ gw := gw_i 908 (by decide +kernel) (by decide +kernel)
theorem wc_Dk_183 : Jvm.Cond.constantLong "OriginDesk" 183 (-1) ∈ gw := gw_i 984 (by decide +kernel) (by decide +kernel)
theorem wc_Rd_80 : Jvm.Cond.constant "OriginDesk$Reader" 80 999999999 ∈ gw := gw_i 1022 (by decide +kernel) (by decide +kernel)
theorem wc_Mo_58 : Jvm.Cond.constantLong "OriginDeskModel" 58 4294967295 ∈ gw := gw_i 1199 (by decide +kernel) (by decide +kernel)
theorem wc_Mo_60 : Jvm.Cond.constantLong "OriginDeskModel" 60 4102444799 ∈ gw := gw_i 1200 (by decide +kernel) (by decide +kernel)
theorem wc_Mo_66 : Jvm.Cond.constantLong "OriginDeskModel" 66 1954047348 ∈ gw := gw_i 1201 (by decide +kernel) (by decide +kernel)
theorem wc_Mo_68 : Jvm.Cond.constantLong "OriginDeskModel" 68 1819112552 ∈ gw := gw_i 1202 (by decide +kernel) (by decide +kernel)
theorem wc_Mo_70 : Jvm.Cond.constantLong "OriginDeskModel" 70 474214394992 ∈ gw := gw_i 1203 (by decide +kernel) (by decide +kernel)
theorem wc_Mo_72 : Jvm.Cond.constantLong "OriginDeskModel" 72 1852797802 ∈ gw := gw_i 1204 (by decide +kernel) (by decide +kernel)
theorem wc_Mo_74 : Jvm.Cond.constantLong "OriginDeskModel" 74 435526135145 ∈ gw := gw_i 1205 (by decide +kernel) (by decide +kernel)
theorem wc_Mo_76 : Jvm.Cond.constantLong "OriginDeskModel" 76 6778480 ∈ gw := gw_i 1206 (by decide +kernel) (by decide +kernel)
theorem wc_Mo_78 : Jvm.Cond.constantLong "OriginDeskModel" 78 30519660376454771 ∈ gw := gw_i 1207 (by decide +kernel) (by decide +kernel)
theorem wc_Mo_80 : Jvm.Cond.constantLong "OriginDeskModel" 80 465558725996 ∈ gw := gw_i 1208 (by decide +kernel) (by decide +kernel)
theorem wc_Mo_82 : Jvm.Cond.constantLong "OriginDeskModel" 82 8386093285582598241 ∈ gw := gw_i 1209 (by decide +kernel) (by decide +kernel)
theorem wc_Mo_84 : Jvm.Cond.constantLong "OriginDeskModel" 84 7237481 ∈ gw := gw_i 1210 (by decide +kernel) (by decide +kernel)
theorem wc_Mo_86 : Jvm.Cond.constantLong "OriginDeskModel" 86 28261 ∈ gw := gw_i 1211 (by decide +kernel) (by decide +kernel)
theorem wc_Mo_88 : Jvm.Cond.constantLong "OriginDeskModel" 88 495887150693 ∈ gw := gw_i 1212 (by decide +kernel) (by decide +kernel)
theorem wc_Mo_90 : Jvm.Cond.constantLong "OriginDeskModel" 90 25956 ∈ gw := gw_i 1213 (by decide +kernel) (by decide +kernel)
theorem wc_Mo_92 : Jvm.Cond.constantLong "OriginDeskModel" 92 499846571364 ∈ gw := gw_i 1214 (by decide +kernel) (by decide +kernel)
theorem wc_Mo_94 : Jvm.Cond.constantLong "OriginDeskModel" 94 29286 ∈ gw := gw_i 1215 (by decide +kernel) (by decide +kernel)
theorem wc_Mo_96 : Jvm.Cond.constant "OriginDeskModel" 96 100000 ∈ gw := gw_i 1316 (by decide +kernel) (by decide +kernel)
theorem wc_Mo_103 : Jvm.Cond.constantLong "OriginDeskModel" 103 255 ∈ gw := gw_i 1329 (by decide +kernel) (by decide +kernel)
theorem wc_Mo_212 : Jvm.Cond.constantLong "OriginDeskModel" 212 45 ∈ gw := gw_i 1457 (by decide +kernel) (by decide +kernel)
theorem wc_Mo_267 : Jvm.Cond.constantLong "OriginDeskModel" 267 (-1) ∈ gw := gw_i 1490 (by decide +kernel) (by decide +kernel)
theorem wc_Mo_244 : Jvm.Cond.constantLong "OriginDeskModel" 244 2036425843 ∈ gw := gw_i 1515 (by decide +kernel) (by decide +kernel)
theorem wc_Mo_246 : Jvm.Cond.constantLong "OriginDeskModel" 246 133459204072814 ∈ gw := gw_i 1516 (by decide +kernel) (by decide +kernel)
theorem wc_Mo_248 : Jvm.Cond.constantLong "OriginDeskModel" 248 521325015922 ∈ gw := gw_i 1517 (by decide +kernel) (by decide +kernel)
theorem wc_Mo_250 : Jvm.Cond.constantLong "OriginDeskModel" 250 521325015669 ∈ gw := gw_i 1518 (by decide +kernel) (by decide +kernel)
theorem wc_Mo_252 : Jvm.Cond.constantLong "OriginDeskModel" 252 7954788 ∈ gw := gw_i 1519 (by decide +kernel) (by decide +kernel)
theorem wc_Mo_257 : Jvm.Cond.constantLong "OriginDeskModel" 257 86400 ∈ gw := gw_i 1527 (by decide +kernel) (by decide +kernel)
theorem wc_Mo_259 : Jvm.Cond.constantLong "OriginDeskModel" 259 366 ∈ gw := gw_i 1528 (by decide +kernel) (by decide +kernel)
theorem wc_Mo_261 : Jvm.Cond.constantLong "OriginDeskModel" 261 365 ∈ gw := gw_i 1529 (by decide +kernel) (by decide +kernel)
theorem wc_Mo_308 : Jvm.Cond.constantLong "OriginDeskModel" 308 495623371106 ∈ gw := gw_i 1552 (by decide +kernel) (by decide +kernel)
theorem wc_Mo_301 : Jvm.Cond.constant "OriginDeskModel" 301 999999999 ∈ gw := gw_i 1561 (by decide +kernel) (by decide +kernel)
theorem wc_Mo_363 : Jvm.Cond.constantLong "OriginDeskModel" 363 10 ∈ gw := gw_i 1582 (by decide +kernel) (by decide +kernel)
theorem wc_Mo_371 : Jvm.Cond.constantLong "OriginDeskModel" 371 724327827336342829 ∈ gw := gw_i 1607 (by decide +kernel) (by decide +kernel)
theorem wc_Mo_373 : Jvm.Cond.constantLong "OriginDeskModel" 373 9071406456136018 ∈ gw := gw_i 1608 (by decide +kernel) (by decide +kernel)
theorem wc_Mo_391 : Jvm.Cond.constantLong "OriginDeskModel" 391 3255350817918561581 ∈ gw := gw_i 1619 (by decide +kernel) (by decide +kernel)
end
section
/-! a stretch that ends ahead of a loop's head -/
theorem wq_c_take {cc : ByteArray} {nL : Nat} : ∀ (n : Nat) (j : wq_J) (b : Nat), wq_c cc nL j b = true → wq_c cc nL (j.take n) b = true
  | 0, j, b, _ => by rw [List.take_zero]; rfl
  | n + 1, [], b, _ => rfl
  | n + 1, (ins, an) :: r, b, h => by
    rw [wq_c, Bool.and_eq_true] at h
    rw [List.take_succ_cons, wq_c, Bool.and_eq_true]
    exact ⟨h.1, wq_c_take n r _ h.2⟩
theorem vx_gon {p : Program} {l : Launch} {e : Env} {R : Room} {s : State} {m : MethodId} {args : Array Value} {below : List Frame} {meth : Method} {c : Code} {cc : ByteArray} {nL : Nat} {own : String} {Ts : List Cond} {D : va_G} {cl : List vw_C} {tys : List (ClassId × FieldType)} {A : Nat → Prop} {tc : Nat → ClassId} {Q : State → Prop} {st : List Value} {ws : va_W} {k n : Nat} {ini : Bool} {EN : Option Value → va_W → Nat → Nat → Prop} {ft : List (Nat × Nat × Nat × Nat)} {ty : Nat → Nat → FieldType}
    {j : wq_J} (hC : Cx p s m args c cc nL own Ts D cl tys A tc) (hF : vx_Ft own Ts cl ty ft) (hini : ini = true → meth.name = "<init>") (hE : vx_EN cc EN (Vx p l e R s m args below meth c nL D cl A Q)) (hj : wq_c cc nL j 0 = true) (i a : Nat) {pc : Nat} (hi : i ≤ j.length) (hpc : wq_pc j i = pc) {lv : wq_L}
    (h : wq nL ini tc ft ty (vx_RT A s) (vx_RF own args A s) (vx_RZ own args A s) (vx_RS own args s) (vx_SX cc (Vx p l e R s m args below meth c nL D cl A Q)) EN (Vx p l e R s m args below meth c nL D cl A Q) ((j.drop i).take a) pc lv st ws k n) : Vx p l e R s m args below meth c nL D cl A Q pc lv st ws k n := by
  subst hpc
  have h1 := wq_c_drop i j 0 hi hj
  rw [Nat.zero_add] at h1
  exact wq_sound hC hF hini hE _ _ _ _ _ _ _ (wq_c_take a _ _ h1) h
end
section
/-! THE READER: small helpers -/
def bI (b : Bool) : Int32 := match b with
  | true => 1
  | false => 0
theorem bI_narrow (b : Bool) : narrow .boolean (.int (bI b)) = .int (bI b) := by cases b <;> rfl
theorem vx_E.mk {ret : Option FieldType} {post : Option Value → va_W → Prop} {mc ms k n : Nat} {r : Option Value} {ws : va_W} (h1 : vx_rt ret r) (h2 : post r ws) (h3 : k ≤ mc) (h4 : n ≤ ms) : vx_E ret post mc ms r ws k n := ⟨h1, h2, h3, h4⟩
theorem ro_true : RO (fun _ _ _ => True) := ⟨fun _ _ _ _ _ _ => trivial, fun _ _ _ _ _ _ => trivial, fun _ _ _ _ _ _ => trivial⟩
def isDg (c : Nat) : Bool := decide (48 ≤ c ∧ c ≤ 57)
set_option maxRecDepth 100000 in
set_option maxHeartbeats 1000000 in
theorem c_Rd_isDigit (l : Launch) (D : va_G) (tys : List (ClassId × FieldType)) (tc : Nat → ClassId) (hty : ∀ i : Nat, i < 4 → tys[i]? = some (tc i, vx_ty i)) (c : Nat) (hc : c < 256) : Kt l y_Rd_isDigit (yw y_Rd_isDigit b_Rd_isDigit 1 (some .boolean)) 0 0 0 0 D cls tys (fun _ _ _ => True) [.int (nI c)] [] (fun r w => r = some (.int (bI (isDg c))) ∧ w = []) := by
  refine Kt.of ro_true (by decide) rfl hty (Nat.le_of_ble_eq_true rfl) ?_
  intro p e s m args below meth c0 A hC hr hlk hnm hF
  have hFt : vx_Ft y_Rd_isDigit.cls (yw y_Rd_isDigit b_Rd_isDigit 1 (some .boolean)) cls cty [] := fun q h => by cases h
  have hini : false = true → meth.name = "<init>" := fun h => by cases h
  refine vx_go hC hFt hini (vx_ends hC hr hlk) jc_Rd_isDigit 0 (Nat.zero_le _) rfl ?_
  refine And.intro (fun c1 => ?_) (fun c1 => ?_)
  · refine vx_go hC hFt hini (vx_ends hC hr hlk) jc_Rd_isDigit 8 (by decide) rfl ?_
    refine And.intro rfl (And.intro (And.intro ?_ rfl) (And.intro (Nat.le_refl _) (Nat.le_refl _)))
    have : ¬ 48 ≤ c := by
      have h2 : nI c < nI 48 := c1
      rw [nI_ltI (by omega) (by omega)] at h2
      omega
    simp [isDg, bI, this]
  · refine And.intro (fun c2 => ?_) (fun c2 => ?_)
    · refine vx_go hC hFt hini (vx_ends hC hr hlk) jc_Rd_isDigit 8 (by decide) rfl ?_
      refine And.intro rfl (And.intro (And.intro ?_ rfl) (And.intro (Nat.le_refl _) (Nat.le_refl _)))
      have : ¬ c ≤ 57 := by
        have h2 : nI 57 < nI c := c2
        rw [nI_ltI (by omega) (by omega)] at h2
        omega
      simp [isDg, bI, this]
    · refine vx_go hC hFt hini (vx_ends hC hr hlk) jc_Rd_isDigit 9 (by decide) rfl ?_
      refine And.intro rfl (And.intro (And.intro ?_ rfl) (And.intro (Nat.le_refl _) (Nat.le_refl _)))
      have h3 : 48 ≤ c ∧ c ≤ 57 := by
        have h1 : ¬ nI c < nI 48 := c1
        have h2 : ¬ nI 57 < nI c := c2
        rw [nI_ltI (by omega) (by omega)] at h1 h2
        omega
      simp [isDg, bI, h3]
end
section
/-! THE READER'S WORLD: its cell, the row of said characters; the field's text is only read -/
def rdW (tc : Nat → ClassId) (ci h ra sa : Nat) (ex : List Value) (T rs : List Nat) (sd : Nat → Int32) (ss : Nat) : va_W := [(h, .inr (ci, .ref ra :: .int (nI T.length) :: .int (nI (T.length - rs.length)) :: .ref sa :: .int (nI ss) :: ex)), (sa, .inl (tc 0, 96, .inl sd))]
/-- the text's row: only read -/
def rdF (ra : Nat) (T : List Nat) : (Nat → Prop) → State → Heap → Prop := fun A U H => ∃ (N : Nat) (f : Nat → Value), va_T .int ra N f A U H ∧ (T.length ≤ N ∧ N < 2 ^ 31) ∧ ∀ j, j < T.length → f j = .int (nI (T.getD j 0))
theorem rdF_ro (ra : Nat) (T : List Nat) : RO (rdF ra T) := by
  refine ⟨fun A u U H ha h => ?_, fun A U H H1 hq h => ?_, fun A B U H hAB h => ?_⟩
  · obtain ⟨N, f, h1, h2, h3⟩ := h
    exact ⟨N, f, h1.moved ha.alike, h2, h3⟩
  · obtain ⟨N, f, h1, h2, h3⟩ := h
    exact ⟨N, f, h1.kept hq, h2, h3⟩
  · obtain ⟨N, f, h1, h2, h3⟩ := h
    exact ⟨N, f, h1.narrow hAB, h2, h3⟩
/-- a text: at most 96 characters, each a byte -/
def isT (T : List Nat) : Prop := T.length ≤ 96 ∧ ∀ x ∈ T, 0 < x ∧ x < 256
theorem sfx_at {T rs : List Nat} {x : Nat} {r : List Nat} (h : rs <:+ T) (e : rs = x :: r) : T.length - rs.length < T.length ∧ T.getD (T.length - rs.length) 0 = x ∧ r <:+ T ∧ T.length - rs.length + 1 = T.length - r.length ∧ x ∈ T := by
  obtain ⟨t, ht⟩ := h
  subst e
  subst ht
  have h1 : (t ++ x :: r).length - (x :: r).length = t.length := by simp
  rw [h1]
  refine ⟨by simp, by simp, ⟨t ++ [x], by simp⟩, by simp; omega, by simp⟩
theorem sfx_le {T rs : List Nat} (h : rs <:+ T) : rs.length ≤ T.length := h.length_le
/-- take: the next character, if it is c -/
def pk (c : Nat) (rs : List Nat) : Bool × List Nat := match rs with
  | [] => (false, [])
  | x :: r => if x = c then (true, r) else (false, x :: r)
theorem pk_sfx {c : Nat} {rs T : List Nat} (h : rs <:+ T) : (pk c rs).2 <:+ T := by
  cases rs with
  | nil => exact h
  | cons x r =>
    by_cases e : x = c
    · simpa [pk, e] using (List.suffix_cons x r).trans h
    · simpa [pk, e] using h
theorem rdT_lt {T : List Nat} (h : isT T) {a : Nat} : T.length - a < 2 ^ 31 := by have := h.1; omega
theorem nI_lit (a : Nat) : nI a = Int32.ofNat a := rfl
set_option maxRecDepth 100000 in
set_option maxHeartbeats 4000000 in
theorem c_Rd_take (l : Launch) (D : va_G) (tys : List (ClassId × FieldType)) (tc : Nat → ClassId) (hty : ∀ i : Nat, i < 4 → tys[i]? = some (tc i, vx_ty i)) (ci : Nat) (hci : ci < 5) (h ra sa : Nat) (ex : List Value) (T rs : List Nat) (sd : Nat → Int32) (ss c : Nat) (hT : isT T) (hs : rs <:+ T) (hc : c < 256) :
    Kt l y_Rd_take (yw y_Rd_take b_Rd_take 2 (some .boolean)) 0 0 0 0 D cls tys (rdF ra T) [.ref h, .int (nI c)] (rdW tc ci h ra sa ex T rs sd ss) (fun r w => r = some (.int (bI (pk c rs).1)) ∧ w = rdW tc ci h ra sa ex T (pk c rs).2 sd ss) := by
  refine Kt.of (rdF_ro _ _) (by decide) rfl hty (Nat.le_of_ble_eq_true rfl) ?_
  intro p e s m args below meth c0 A hC hr hlk hnm hF
  obtain ⟨N, f, hrow, hN, hf⟩ := hF
  have hFt : vx_Ft y_Rd_take.cls (yw y_Rd_take b_Rd_take 2 (some .boolean)) cls cty ft_Rd := ft_of (fun w h => List.mem_cons_of_mem _ h) fl_Rd_in ft_Rd_b
  have hini : false = true → meth.name = "<init>" := fun h => by cases h
  have hTl := hT.1
  have hle := sfx_le hs
  rcases (show ci = 0 ∨ ci = 1 ∨ ci = 2 ∨ ci = 3 ∨ ci = 4 by omega) with rfl | rfl | rfl | rfl | rfl
  all_goals
    refine vx_go hC hFt hini (vx_ends hC hr hlk) jc_Rd_take 0 (Nat.zero_le _) rfl ?_
    refine And.intro rfl (And.intro rfl (And.intro (fun c1 => ?_) (fun c1 => ?_)))
    · refine vx_go hC hFt hini (vx_ends hC hr hlk) jc_Rd_take 12 (by decide) rfl ?_
      have hnil : rs = [] := by
        have h2 := (nI_leI (a := T.length) (b := T.length - rs.length) (by omega) (by omega)).mp c1
        exact List.eq_nil_of_length_eq_zero (by omega)
      subst hnil
      exact And.intro rfl (And.intro (And.intro rfl rfl) (And.intro (Nat.le_refl _) (Nat.le_refl _)))
    · have h2 := fun z => c1 ((nI_leI (a := T.length) (b := T.length - rs.length) (by omega) (by omega)).mpr z)
      cases hrs : rs with
      | nil => rw [hrs] at h2; exact absurd (by simp) h2
      | cons x r =>
        obtain ⟨g1, g2, g3, g4, g5⟩ := sfx_at hs hrs
        rw [hrs] at g1 g2 g4
        refine And.intro rfl (And.intro rfl ⟨N, f, hrow, vp_in_nI (by omega) hN.2, ?_⟩)
        rw [nI_clamp (by omega), hf _ g1, g2]
        refine And.intro (fun c2 => ?_) (fun c2 => ?_)
        · have e1 : x = c := (nI_eq (a := x) (b := c) (by have := hT.2 x g5; omega) (by omega)).mp c2
          refine vx_go hC hFt hini (vx_ends hC hr hlk) jc_Rd_take 14 (by decide) rfl ?_
          refine And.intro rfl (And.intro rfl (And.intro rfl (And.intro (And.intro rfl rfl) ?_)))
          refine And.intro rfl (And.intro (And.intro ?_ ?_) (And.intro (Nat.le_refl _) (Nat.le_refl _)))
          · simp [pk, e1, bI]
          · simp [pk, e1, rdW, ← g4, nI_1]
        · have e1 : ¬ x = c := fun z => c2 (by rw [z])
          refine And.intro rfl (And.intro (And.intro ?_ ?_) (And.intro (Nat.le_refl _) (Nat.le_refl _)))
          · simp [pk, e1, bI]
          · simp [pk, e1, rdW]
end
section
/-! THE READER'S SMALL METHODS, by program (wip/whole/gen/p10.py) -/
def lwr (c : Nat) : Nat := if 65 ≤ c ∧ c ≤ 90 then c + 32 else c
def isLt (c : Nat) : Bool := decide (65 ≤ c ∧ c ≤ 90 ∨ 97 ≤ c ∧ c ≤ 122)
def isQt (c : Nat) : Bool := decide (c = 9 ∨ 32 ≤ c ∧ c ≠ 127)
theorem lt_or32 : ∀ c, c < 256 → (nI c ||| (32 : Int32) = nI (c ||| 32)) ∧ ((97 ≤ c ||| 32 ∧ c ||| 32 ≤ 122) ↔ (65 ≤ c ∧ c ≤ 90 ∨ 97 ≤ c ∧ c ≤ 122)) ∧ c ||| 32 < 256 := by decide +kernel
set_option maxRecDepth 100000 in
set_option maxHeartbeats 4000000 in
theorem c_Rd_lower (l : Launch) (D : va_G) (tys : List (ClassId × FieldType)) (tc : Nat → ClassId) (hty : ∀ i : Nat, i < 4 → tys[i]? = some (tc i, vx_ty i)) (c : Nat) (hc : c < 256) : Kt l y_Rd_lower (yw y_Rd_lower b_Rd_lower 1 (some .int)) 0 0 0 0 D cls tys (fun _ _ _ => True) [.int (nI c)] [] (fun r w => r = some (.int (nI (lwr c))) ∧ w = []) := by
  refine Kt.of ro_true (by decide) rfl hty (Nat.le_of_ble_eq_true rfl) ?_
  intro p e s m args below meth c0 A hC hr hlk hnm hF
  have hFt : vx_Ft y_Rd_lower.cls (yw y_Rd_lower b_Rd_lower 1 (some .int)) cls cty [] := (fun q h => by cases h)
  have hini : false = true → meth.name = "<init>" := fun h => by cases h
  refine vx_go hC hFt hini (vx_ends hC hr hlk) jc_Rd_lower 0 (by decide) rfl ?_
  refine And.intro (fun c2 => ?_) (fun c2 => ?_)
  · skip
    have c2 := (nI_ltI (a := c) (b := 65) (by omega) (by omega)).mp c2
    refine vx_go hC hFt hini (vx_ends hC hr hlk) jc_Rd_lower 10 (by decide) rfl ?_
    refine And.intro (trivial) (And.intro ?_ (And.intro (Nat.le_refl _) (Nat.le_refl _)))
    refine And.intro ?_ rfl
    simp only [lwr]
    first | (rw [if_pos (by omega), ← nI_add]; rfl) | (rw [if_neg (by omega)])
  · skip
    have c2 : ¬ (c < 65) := fun z => c2 ((nI_ltI (a := c) (b := 65) (by omega) (by omega)).mpr z)
    refine And.intro (fun c5 => ?_) (fun c5 => ?_)
    · skip
      have c5 := (nI_ltI (a := 90) (b := c) (by omega) (by omega)).mp c5
      refine vx_go hC hFt hini (vx_ends hC hr hlk) jc_Rd_lower 10 (by decide) rfl ?_
      refine And.intro (trivial) (And.intro ?_ (And.intro (Nat.le_refl _) (Nat.le_refl _)))
      refine And.intro ?_ rfl
      simp only [lwr]
      first | (rw [if_pos (by omega), ← nI_add]; rfl) | (rw [if_neg (by omega)])
    · skip
      have c5 : ¬ (90 < c) := fun z => c5 ((nI_ltI (a := 90) (b := c) (by omega) (by omega)).mpr z)
      refine vx_go hC hFt hini (vx_ends hC hr hlk) jc_Rd_lower 11 (by decide) rfl ?_
      refine And.intro (trivial) (And.intro ?_ (And.intro (Nat.le_refl _) (Nat.le_refl _)))
      refine And.intro ?_ rfl
      simp only [lwr]
      first | (rw [if_pos (by omega), ← nI_add]; rfl) | (rw [if_neg (by omega)])
set_option maxRecDepth 100000 in
set_option maxHeartbeats 4000000 in
theorem c_Rd_isQuotable (l : Launch) (D : va_G) (tys : List (ClassId × FieldType)) (tc : Nat → ClassId) (hty : ∀ i : Nat, i < 4 → tys[i]? = some (tc i, vx_ty i)) (c : Nat) (hc : c < 256) : Kt l y_Rd_isQuotable (yw y_Rd_isQuotable b_Rd_isQuotable 1 (some .boolean)) 0 0 0 0 D cls tys (fun _ _ _ => True) [.int (nI c)] [] (fun r w => r = some (.int (bI (isQt c))) ∧ w = []) := by
  refine Kt.of ro_true (by decide) rfl hty (Nat.le_of_ble_eq_true rfl) ?_
  intro p e s m args below meth c0 A hC hr hlk hnm hF
  have hFt : vx_Ft y_Rd_isQuotable.cls (yw y_Rd_isQuotable b_Rd_isQuotable 1 (some .boolean)) cls cty [] := (fun q h => by cases h)
  have hini : false = true → meth.name = "<init>" := fun h => by cases h
  refine vx_go hC hFt hini (vx_ends hC hr hlk) jc_Rd_isQuotable 0 (by decide) rfl ?_
  refine And.intro (fun c2 => ?_) (fun c2 => ?_)
  · skip
    have c2 := (nI_eq (a := c) (b := 9) (by omega) (by omega)).mp c2
    refine vx_go hC hFt hini (vx_ends hC hr hlk) jc_Rd_isQuotable 9 (by decide) rfl ?_
    refine vx_go hC hFt hini (vx_ends hC hr hlk) jc_Rd_isQuotable 12 (by decide) rfl ?_
    refine And.intro (rfl) (And.intro ?_ (And.intro (Nat.le_refl _) (Nat.le_refl _)))
    refine And.intro ?_ rfl
    first | (rw [show isQt c = true by simp only [isQt, decide_eq_true_eq]; omega]; rfl) | (rw [show isQt c = false by simp only [isQt, decide_eq_false_iff_not]; omega]; rfl)
  · skip
    have c2 : ¬ (c = 9) := fun z => c2 ((nI_eq (a := c) (b := 9) (by omega) (by omega)).mpr z)
    refine And.intro (fun c5 => ?_) (fun c5 => ?_)
    · skip
      have c5 := (nI_ltI (a := c) (b := 32) (by omega) (by omega)).mp c5
      refine vx_go hC hFt hini (vx_ends hC hr hlk) jc_Rd_isQuotable 11 (by decide) rfl ?_
      refine And.intro (rfl) (And.intro ?_ (And.intro (Nat.le_refl _) (Nat.le_refl _)))
      refine And.intro ?_ rfl
      first | (rw [show isQt c = true by simp only [isQt, decide_eq_true_eq]; omega]; rfl) | (rw [show isQt c = false by simp only [isQt, decide_eq_false_iff_not]; omega]; rfl)
    · skip
      have c5 : ¬ (c < 32) := fun z => c5 ((nI_ltI (a := c) (b := 32) (by omega) (by omega)).mpr z)
      refine And.intro (fun c8 => ?_) (fun c8 => ?_)
      · skip
        have c8 := (nI_eq (a := c) (b := 127) (by omega) (by omega)).mp c8
        refine vx_go hC hFt hini (vx_ends hC hr hlk) jc_Rd_isQuotable 11 (by decide) rfl ?_
        refine And.intro (rfl) (And.intro ?_ (And.intro (Nat.le_refl _) (Nat.le_refl _)))
        refine And.intro ?_ rfl
        first | (rw [show isQt c = true by simp only [isQt, decide_eq_true_eq]; omega]; rfl) | (rw [show isQt c = false by simp only [isQt, decide_eq_false_iff_not]; omega]; rfl)
      · skip
        have c8 : ¬ (c = 127) := fun z => c8 ((nI_eq (a := c) (b := 127) (by omega) (by omega)).mpr z)
        refine vx_go hC hFt hini (vx_ends hC hr hlk) jc_Rd_isQuotable 12 (by decide) rfl ?_
        refine And.intro (rfl) (And.intro ?_ (And.intro (Nat.le_refl _) (Nat.le_refl _)))
        refine And.intro ?_ rfl
        first | (rw [show isQt c = true by simp only [isQt, decide_eq_true_eq]; omega]; rfl) | (rw [show isQt c = false by simp only [isQt, decide_eq_false_iff_not]; omega]; rfl)
set_option maxRecDepth 100000 in
set_option maxHeartbeats 4000000 in
theorem c_Rd_isLetter (l : Launch) (D : va_G) (tys : List (ClassId × FieldType)) (tc : Nat → ClassId) (hty : ∀ i : Nat, i < 4 → tys[i]? = some (tc i, vx_ty i)) (c : Nat) (hc : c < 256) : Kt l y_Rd_isLetter (yw y_Rd_isLetter b_Rd_isLetter 2 (some .boolean)) 0 0 0 0 D cls tys (fun _ _ _ => True) [.int (nI c)] [] (fun r w => r = some (.int (bI (isLt c))) ∧ w = []) := by
  refine Kt.of ro_true (by decide) rfl hty (Nat.le_of_ble_eq_true rfl) ?_
  intro p e s m args below meth c0 A hC hr hlk hnm hF
  have hFt : vx_Ft y_Rd_isLetter.cls (yw y_Rd_isLetter b_Rd_isLetter 2 (some .boolean)) cls cty [] := (fun q h => by cases h)
  have hini : false = true → meth.name = "<init>" := fun h => by cases h
  obtain ⟨h1, h2, h3⟩ := lt_or32 c hc
  refine vx_go hC hFt hini (vx_ends hC hr hlk) jc_Rd_isLetter 0 (by decide) rfl ?_
  refine And.intro (fun c6 => ?_) (fun c6 => ?_)
  · skip
    rw [h1] at c6
    have c6 := (nI_ltI (a := (c ||| 32)) (b := 97) (by omega) (by omega)).mp c6
    refine vx_go hC hFt hini (vx_ends hC hr hlk) jc_Rd_isLetter 12 (by decide) rfl ?_
    refine And.intro (rfl) (And.intro ?_ (And.intro (Nat.le_refl _) (Nat.le_refl _)))
    refine And.intro ?_ rfl
    first | (rw [show isLt c = true by simp only [isLt, decide_eq_true_eq]; exact h2.mp (by omega)]; rfl) | (rw [show isLt c = false by simp only [isLt, decide_eq_false_iff_not]; exact fun z => absurd (h2.mpr z) (by omega)]; rfl)
  · skip
    rw [h1] at c6
    have c6 : ¬ ((c ||| 32) < 97) := fun z => c6 ((nI_ltI (a := (c ||| 32)) (b := 97) (by omega) (by omega)).mpr z)
    refine And.intro (fun c9 => ?_) (fun c9 => ?_)
    · skip
      rw [h1] at c9
      have c9 := (nI_ltI (a := 122) (b := (c ||| 32)) (by omega) (by omega)).mp c9
      refine vx_go hC hFt hini (vx_ends hC hr hlk) jc_Rd_isLetter 12 (by decide) rfl ?_
      refine And.intro (rfl) (And.intro ?_ (And.intro (Nat.le_refl _) (Nat.le_refl _)))
      refine And.intro ?_ rfl
      first | (rw [show isLt c = true by simp only [isLt, decide_eq_true_eq]; exact h2.mp (by omega)]; rfl) | (rw [show isLt c = false by simp only [isLt, decide_eq_false_iff_not]; exact fun z => absurd (h2.mpr z) (by omega)]; rfl)
    · skip
      rw [h1] at c9
      have c9 : ¬ (122 < (c ||| 32)) := fun z => c9 ((nI_ltI (a := 122) (b := (c ||| 32)) (by omega) (by omega)).mpr z)
      refine vx_go hC hFt hini (vx_ends hC hr hlk) jc_Rd_isLetter 13 (by decide) rfl ?_
      refine And.intro (rfl) (And.intro ?_ (And.intro (Nat.le_refl _) (Nat.le_refl _)))
      refine And.intro ?_ rfl
      first | (rw [show isLt c = true by simp only [isLt, decide_eq_true_eq]; exact h2.mp (by omega)]; rfl) | (rw [show isLt c = false by simp only [isLt, decide_eq_false_iff_not]; exact fun z => absurd (h2.mpr z) (by omega)]; rfl)
set_option maxRecDepth 100000 in
set_option maxHeartbeats 4000000 in
theorem c_Rd_isEnded (l : Launch) (D : va_G) (tys : List (ClassId × FieldType)) (tc : Nat → ClassId) (hty : ∀ i : Nat, i < 4 → tys[i]? = some (tc i, vx_ty i)) (ci : Nat) (hci : ci < 5) (h ra sa : Nat) (ex : List Value) (T rs : List Nat) (sd : Nat → Int32) (ss : Nat) (hT : isT T) (hs : rs <:+ T) : Kt l y_Rd_isEnded (yw y_Rd_isEnded b_Rd_isEnded 1 (some .boolean)) 0 0 0 0 D cls tys (rdF ra T) [.ref h] (rdW tc ci h ra sa ex T rs sd ss) (fun r w => r = some (.int (bI rs.isEmpty)) ∧ w = (rdW tc ci h ra sa ex T rs sd ss)) := by
  refine Kt.of (rdF_ro _ _) (by decide) rfl hty (Nat.le_of_ble_eq_true rfl) ?_
  intro p e s m args below meth c0 A hC hr hlk hnm hF
  have hFt : vx_Ft y_Rd_isEnded.cls (yw y_Rd_isEnded b_Rd_isEnded 1 (some .boolean)) cls cty ft_Rd := ft_of (fun w h => List.mem_cons_of_mem _ h) fl_Rd_in ft_Rd_b
  have hini : false = true → meth.name = "<init>" := fun h => by cases h
  have hF0 := hF
  obtain ⟨N, f, hrow, hN, hf⟩ := hF
  have hTl := hT.1
  rcases (show ci = 0 ∨ ci = 1 ∨ ci = 2 ∨ ci = 3 ∨ ci = 4 by omega) with rfl | rfl | rfl | rfl | rfl
  all_goals
    refine vx_go hC hFt hini (vx_ends hC hr hlk) jc_Rd_isEnded 0 (by decide) rfl ?_
    refine And.intro rfl ?_
    refine And.intro rfl ?_
    refine And.intro (fun c4 => ?_) (fun c4 => ?_)
    · skip
      have hle := sfx_le hs
      have h2 := (nI_ltI (a := T.length - rs.length) (b := T.length) (by omega) (by omega)).mp c4
      obtain ⟨x, r, rfl⟩ : ∃ x r, rs = x :: r := by
        cases rs with
        | nil => exact absurd h2 (by simp)
        | cons x r => exact ⟨x, r, rfl⟩
      refine vx_go hC hFt hini (vx_ends hC hr hlk) jc_Rd_isEnded 7 (by decide) rfl ?_
      refine And.intro (rfl) (And.intro ?_ (And.intro (Nat.le_refl _) (Nat.le_refl _)))
      exact And.intro rfl rfl
    · skip
      have hle := sfx_le hs
      have h2 : ¬ (T.length - rs.length < T.length) := fun z => c4 ((nI_ltI (a := T.length - rs.length) (b := T.length) (by omega) (by omega)).mpr z)
      have hnil : rs = [] := List.eq_nil_of_length_eq_zero (by omega)
      subst hnil
      refine vx_go hC hFt hini (vx_ends hC hr hlk) jc_Rd_isEnded 8 (by decide) rfl ?_
      refine And.intro (rfl) (And.intro ?_ (And.intro (Nat.le_refl _) (Nat.le_refl _)))
      exact And.intro rfl rfl
set_option maxRecDepth 100000 in
set_option maxHeartbeats 4000000 in
theorem c_Rd_isNext (l : Launch) (D : va_G) (tys : List (ClassId × FieldType)) (tc : Nat → ClassId) (hty : ∀ i : Nat, i < 4 → tys[i]? = some (tc i, vx_ty i)) (ci : Nat) (hci : ci < 5) (h ra sa : Nat) (ex : List Value) (T rs : List Nat) (sd : Nat → Int32) (ss : Nat) (hT : isT T) (hs : rs <:+ T) (c : Nat) (hc : c < 256) : Kt l y_Rd_isNext (yw y_Rd_isNext b_Rd_isNext 2 (some .boolean)) 0 0 0 0 D cls tys (rdF ra T) [.ref h, .int (nI c)] (rdW tc ci h ra sa ex T rs sd ss) (fun r w => r = some (.int (bI (pk c rs).1)) ∧ w = (rdW tc ci h ra sa ex T rs sd ss)) := by
  refine Kt.of (rdF_ro _ _) (by decide) rfl hty (Nat.le_of_ble_eq_true rfl) ?_
  intro p e s m args below meth c0 A hC hr hlk hnm hF
  have hFt : vx_Ft y_Rd_isNext.cls (yw y_Rd_isNext b_Rd_isNext 2 (some .boolean)) cls cty ft_Rd := ft_of (fun w h => List.mem_cons_of_mem _ h) fl_Rd_in ft_Rd_b
  have hini : false = true → meth.name = "<init>" := fun h => by cases h
  have hF0 := hF
  obtain ⟨N, f, hrow, hN, hf⟩ := hF
  have hTl := hT.1
  rcases (show ci = 0 ∨ ci = 1 ∨ ci = 2 ∨ ci = 3 ∨ ci = 4 by omega) with rfl | rfl | rfl | rfl | rfl
  all_goals
    refine vx_go hC hFt hini (vx_ends hC hr hlk) jc_Rd_isNext 0 (by decide) rfl ?_
    refine And.intro rfl ?_
    refine And.intro rfl ?_
    refine And.intro (fun c4 => ?_) (fun c4 => ?_)
    · skip
      have hle := sfx_le hs
      have hnil : rs = [] := by
        have h2 := (nI_leI (a := T.length) (b := T.length - rs.length) (by omega) (by omega)).mp c4
        exact List.eq_nil_of_length_eq_zero (by omega)
      subst hnil
      refine vx_go hC hFt hini (vx_ends hC hr hlk) jc_Rd_isNext 14 (by decide) rfl ?_
      refine And.intro (rfl) (And.intro ?_ (And.intro (Nat.le_refl _) (Nat.le_refl _)))
      refine And.intro ?_ rfl
      first | rfl | simp [pk, bI, *]
    · skip
      have hle := sfx_le hs
      obtain ⟨x, r, hrs⟩ : ∃ x r, rs = x :: r := by
        cases hrs : rs with
        | nil => subst hrs; exact absurd ((nI_leI (a := T.length) (b := T.length - 0) (by omega) (by omega)).mpr (by omega)) c4
        | cons x r => exact ⟨x, r, rfl⟩
      obtain ⟨g1, g2, g3, g4, g5⟩ := sfx_at hs hrs
      have g6 := hT.2 x g5
      subst hrs
      refine And.intro rfl ?_
      refine And.intro rfl ?_
      refine ⟨N, f, hrow, vp_in_nI (by omega) hN.2, ?_⟩
      rw [nI_clamp (by omega), hf _ g1, g2]
      refine And.intro (fun c11 => ?_) (fun c11 => ?_)
      · skip
        have c11 : ¬ x = c := fun z => c11 (by rw [z])
        refine vx_go hC hFt hini (vx_ends hC hr hlk) jc_Rd_isNext 14 (by decide) rfl ?_
        refine And.intro (rfl) (And.intro ?_ (And.intro (Nat.le_refl _) (Nat.le_refl _)))
        refine And.intro ?_ rfl
        first | rfl | simp [pk, bI, *]
      · skip
        have c11 := (nI_eq (a := x) (b := c) (by omega) (by omega)).mp c11
        refine vx_go hC hFt hini (vx_ends hC hr hlk) jc_Rd_isNext 15 (by decide) rfl ?_
        refine And.intro (rfl) (And.intro ?_ (And.intro (Nat.le_refl _) (Nat.le_refl _)))
        refine And.intro ?_ rfl
        first | rfl | simp [pk, bI, *]
set_option maxRecDepth 100000 in
set_option maxHeartbeats 4000000 in
theorem c_Rd_saidSize (l : Launch) (D : va_G) (tys : List (ClassId × FieldType)) (tc : Nat → ClassId) (hty : ∀ i : Nat, i < 4 → tys[i]? = some (tc i, vx_ty i)) (ci : Nat) (hci : ci < 5) (h ra sa : Nat) (ex : List Value) (T rs : List Nat) (sd : Nat → Int32) (ss : Nat) (hT : isT T) (hs : rs <:+ T) : Kt l y_Rd_saidSize (yw y_Rd_saidSize b_Rd_saidSize 1 (some .int)) 0 0 0 0 D cls tys (rdF ra T) [.ref h] (rdW tc ci h ra sa ex T rs sd ss) (fun r w => r = some (.int (nI ss)) ∧ w = (rdW tc ci h ra sa ex T rs sd ss)) := by
  refine Kt.of (rdF_ro _ _) (by decide) rfl hty (Nat.le_of_ble_eq_true rfl) ?_
  intro p e s m args below meth c0 A hC hr hlk hnm hF
  have hFt : vx_Ft y_Rd_saidSize.cls (yw y_Rd_saidSize b_Rd_saidSize 1 (some .int)) cls cty ft_Rd := ft_of (fun w h => List.mem_cons_of_mem _ h) fl_Rd_in ft_Rd_b
  have hini : false = true → meth.name = "<init>" := fun h => by cases h
  have hF0 := hF
  obtain ⟨N, f, hrow, hN, hf⟩ := hF
  have hTl := hT.1
  rcases (show ci = 0 ∨ ci = 1 ∨ ci = 2 ∨ ci = 3 ∨ ci = 4 by omega) with rfl | rfl | rfl | rfl | rfl
  all_goals
    refine vx_go hC hFt hini (vx_ends hC hr hlk) jc_Rd_saidSize 0 (by decide) rfl ?_
    refine And.intro rfl ?_
    refine And.intro (trivial) (And.intro ?_ (And.intro (Nat.le_refl _) (Nat.le_refl _)))
    exact And.intro rfl rfl
/-- gaps -/
def isGp (x : Nat) : Bool := decide (x = 32 ∨ x = 9)
def gp (rs : List Nat) : List Nat := rs.dropWhile isGp
/-- gaps and commas -/
def isGc (x : Nat) : Bool := decide (x = 32 ∨ x = 9 ∨ x = 44)
def gc (rs : List Nat) : List Nat := rs.dropWhile isGc
theorem dw_sfx {q : Nat → Bool} {rs T : List Nat} (h : rs <:+ T) : rs.dropWhile q <:+ T := (List.dropWhile_suffix q).trans h
theorem dw_t {q : Nat → Bool} {x : Nat} {r : List Nat} (h : q x = true) : (x :: r).dropWhile q = r.dropWhile q := by simp [List.dropWhile, h]
theorem dw_f {q : Nat → Bool} {x : Nat} {r : List Nat} (h : q x = false) : (x :: r).dropWhile q = x :: r := by simp [List.dropWhile, h]
theorem rd_step {tc : Nat → ClassId} {ci h ra sa : Nat} {ex : List Value} {T r : List Nat} {x : Nat} {sd : Nat → Int32} {ss : Nat} (g4 : T.length - (x :: r).length + 1 = T.length - r.length) : [((h, .inr (ci, .ref ra :: .int (nI T.length) :: .int (nI (T.length - (x :: r).length) + 1) :: .ref sa :: .int (nI ss) :: ex)) : Nat × va_E), (sa, .inl (tc 0, 96, .inl sd))] = rdW tc ci h ra sa ex T r sd ss := by
  rw [nI_1, g4]; rfl
set_option maxRecDepth 100000 in
set_option maxHeartbeats 4000000 in
theorem c_Rd_skipGap (l : Launch) (D : va_G) (tys : List (ClassId × FieldType)) (tc : Nat → ClassId) (hty : ∀ i : Nat, i < 4 → tys[i]? = some (tc i, vx_ty i)) (ci : Nat) (hci : ci < 5) (h ra sa : Nat) (ex : List Value) (T rs : List Nat) (sd : Nat → Int32) (ss : Nat) (hT : isT T) (hs : rs <:+ T) : Kt l y_Rd_skipGap (yw y_Rd_skipGap b_Rd_skipGap 1 none) 0 0 0 0 D cls tys (rdF ra T) [.ref h] (rdW tc ci h ra sa ex T rs sd ss) (fun r w => r = none ∧ w = rdW tc ci h ra sa ex T (gp rs) sd ss) := by
  refine Kt.of (rdF_ro _ _) (by decide) rfl hty (Nat.le_of_ble_eq_true rfl) ?_
  intro p e s m args below meth c0 A hC hr hlk hnm hF
  have hFt : vx_Ft y_Rd_skipGap.cls (yw y_Rd_skipGap b_Rd_skipGap 1 none) cls cty ft_Rd := ft_of (fun w h => List.mem_cons_of_mem _ h) fl_Rd_in ft_Rd_b
  have hini : false = true → meth.name = "<init>" := fun h => by cases h
  have hF0 := hF
  obtain ⟨N, f, hrow, hN, hf⟩ := hF
  have hTl := hT.1
  rcases (show ci = 0 ∨ ci = 1 ∨ ci = 2 ∨ ci = 3 ∨ ci = 4 by omega) with rfl | rfl | rfl | rfl | rfl
  all_goals
    generalize hG : gp rs = G
    induction hlen : rs.length using Nat.strongRecOn generalizing rs with
    | _ n ih =>
      refine vx_go hC hFt hini (vx_ends hC hr hlk) jc_Rd_skipGap 0 (by decide) rfl ?_
      refine And.intro rfl ?_
      refine And.intro rfl ?_
      refine And.intro (fun c4 => ?_) (fun c4 => ?_)
      · skip
        have hle := sfx_le hs
        have hnil : rs = [] := by
          have h2 := (nI_leI (a := T.length) (b := T.length - rs.length) (by omega) (by omega)).mp c4
          exact List.eq_nil_of_length_eq_zero (by omega)
        subst hnil
        refine vx_go hC hFt hini (vx_ends hC hr hlk) jc_Rd_skipGap 26 (by decide) rfl ?_
        refine And.intro (trivial) (And.intro ?_ (And.intro (Nat.le_refl _) (Nat.le_refl _)))
        refine And.intro rfl ?_
        rw [← hG]
        first | rfl | (simp only [gp]; rw [dw_f (by simp only [isGp, decide_eq_false_iff_not]; omega)])
      · skip
        have hle := sfx_le hs
        obtain ⟨x, r, hrs⟩ : ∃ x r, rs = x :: r := by
          cases hrs : rs with
          | nil => subst hrs; exact absurd ((nI_leI (a := T.length) (b := T.length - 0) (by omega) (by omega)).mpr (by omega)) c4
          | cons x r => exact ⟨x, r, rfl⟩
        obtain ⟨g1, g2, g3, g4, g5⟩ := sfx_at hs hrs
        have g6 := hT.2 x g5
        subst hrs
        refine And.intro rfl ?_
        refine And.intro rfl ?_
        refine ⟨N, f, hrow, vp_in_nI (by omega) hN.2, ?_⟩
        rw [nI_clamp (by omega), hf _ g1, g2]
        refine And.intro (fun c11 => ?_) (fun c11 => ?_)
        · skip
          have c11 := (nI_eq (a := x) (b := 32) (by omega) (by omega)).mp c11
          refine vx_go hC hFt hini (vx_ends hC hr hlk) jc_Rd_skipGap 19 (by decide) rfl ?_
          refine And.intro rfl ?_
          refine And.intro rfl ?_
          refine And.intro rfl (And.intro (And.intro rfl rfl) ?_)
          refine Vx.eqs rfl rfl rfl (rd_step g4) (ih r.length (by simp at hlen; omega) r g3 ?_ rfl)
          first | (rw [← hG]; simp only [gp]; rw [dw_t]; simp only [isGp, decide_eq_true_eq]; omega)
        · skip
          have c11 : ¬ (x = 32) := fun z => c11 ((nI_eq (a := x) (b := 32) (by omega) (by omega)).mpr z)
          refine And.intro rfl ?_
          refine And.intro rfl ?_
          refine ⟨N, f, hrow, vp_in_nI (by omega) hN.2, ?_⟩
          rw [nI_clamp (by omega), hf _ g1, g2]
          refine And.intro (fun c18 => ?_) (fun c18 => ?_)
          · skip
            have c18 : ¬ (x = 9) := fun z => c18 ((nI_eq (a := x) (b := 9) (by omega) (by omega)).mpr z)
            refine vx_go hC hFt hini (vx_ends hC hr hlk) jc_Rd_skipGap 26 (by decide) rfl ?_
            refine And.intro (trivial) (And.intro ?_ (And.intro (Nat.le_refl _) (Nat.le_refl _)))
            refine And.intro rfl ?_
            rw [← hG]
            first | rfl | (simp only [gp]; rw [dw_f (by simp only [isGp, decide_eq_false_iff_not]; omega)])
          · skip
            have c18 := (nI_eq (a := x) (b := 9) (by omega) (by omega)).mp c18
            refine And.intro rfl ?_
            refine And.intro rfl ?_
            refine And.intro rfl (And.intro (And.intro rfl rfl) ?_)
            refine Vx.eqs rfl rfl rfl (rd_step g4) (ih r.length (by simp at hlen; omega) r g3 ?_ rfl)
            first | (rw [← hG]; simp only [gp]; rw [dw_t]; simp only [isGp, decide_eq_true_eq]; omega)
set_option maxRecDepth 100000 in
set_option maxHeartbeats 4000000 in
theorem c_Rd_findElement (l : Launch) (D : va_G) (tys : List (ClassId × FieldType)) (tc : Nat → ClassId) (hty : ∀ i : Nat, i < 4 → tys[i]? = some (tc i, vx_ty i)) (ci : Nat) (hci : ci < 5) (h ra sa : Nat) (ex : List Value) (T rs : List Nat) (sd : Nat → Int32) (ss : Nat) (hT : isT T) (hs : rs <:+ T) : Kt l y_Rd_findElement (yw y_Rd_findElement b_Rd_findElement 1 (some .boolean)) 0 0 0 0 D cls tys (rdF ra T) [.ref h] (rdW tc ci h ra sa ex T rs sd ss) (fun r w => r = some (.int (bI !(gc rs).isEmpty)) ∧ w = rdW tc ci h ra sa ex T (gc rs) sd ss) := by
  refine Kt.of (rdF_ro _ _) (by decide) rfl hty (Nat.le_of_ble_eq_true rfl) ?_
  intro p e s m args below meth c0 A hC hr hlk hnm hF
  have hFt : vx_Ft y_Rd_findElement.cls (yw y_Rd_findElement b_Rd_findElement 1 (some .boolean)) cls cty ft_Rd := ft_of (fun w h => List.mem_cons_of_mem _ h) fl_Rd_in ft_Rd_b
  have hini : false = true → meth.name = "<init>" := fun h => by cases h
  have hF0 := hF
  obtain ⟨N, f, hrow, hN, hf⟩ := hF
  have hTl := hT.1
  rcases (show ci = 0 ∨ ci = 1 ∨ ci = 2 ∨ ci = 3 ∨ ci = 4 by omega) with rfl | rfl | rfl | rfl | rfl
  all_goals
    generalize hG : gc rs = G
    induction hlen : rs.length using Nat.strongRecOn generalizing rs with
    | _ n ih =>
      refine vx_go hC hFt hini (vx_ends hC hr hlk) jc_Rd_findElement 0 (by decide) rfl ?_
      refine And.intro rfl ?_
      refine And.intro rfl ?_
      refine And.intro (fun c4 => ?_) (fun c4 => ?_)
      · skip
        have hle := sfx_le hs
        have hnil : rs = [] := by
          have h2 := (nI_leI (a := T.length) (b := T.length - rs.length) (by omega) (by omega)).mp c4
          exact List.eq_nil_of_length_eq_zero (by omega)
        subst hnil
        refine vx_go hC hFt hini (vx_ends hC hr hlk) jc_Rd_findElement 33 (by decide) rfl ?_
        refine And.intro rfl ?_
        refine And.intro rfl ?_
        refine And.intro (fun c37 => ?_) (fun c37 => ?_)
        · skip
          refine vx_go hC hFt hini (vx_ends hC hr hlk) jc_Rd_findElement 40 (by decide) rfl ?_
          refine And.intro (rfl) (And.intro ?_ (And.intro (Nat.le_refl _) (Nat.le_refl _)))
          rw [← hG]
          first | exact And.intro rfl rfl | (simp only [gc]; rw [dw_f (by simp only [isGc, decide_eq_false_iff_not]; omega)]; exact And.intro rfl rfl)
        · skip
          exact absurd c4 c37
      · skip
        have hle := sfx_le hs
        obtain ⟨x, r, hrs⟩ : ∃ x r, rs = x :: r := by
          cases hrs : rs with
          | nil => subst hrs; exact absurd ((nI_leI (a := T.length) (b := T.length - 0) (by omega) (by omega)).mpr (by omega)) c4
          | cons x r => exact ⟨x, r, rfl⟩
        obtain ⟨g1, g2, g3, g4, g5⟩ := sfx_at hs hrs
        have g6 := hT.2 x g5
        subst hrs
        refine And.intro rfl ?_
        refine And.intro rfl ?_
        refine ⟨N, f, hrow, vp_in_nI (by omega) hN.2, ?_⟩
        rw [nI_clamp (by omega), hf _ g1, g2]
        refine And.intro (fun c11 => ?_) (fun c11 => ?_)
        · skip
          have c11 := (nI_eq (a := x) (b := 32) (by omega) (by omega)).mp c11
          refine vx_go hC hFt hini (vx_ends hC hr hlk) jc_Rd_findElement 26 (by decide) rfl ?_
          refine And.intro rfl ?_
          refine And.intro rfl ?_
          refine And.intro rfl (And.intro (And.intro rfl rfl) ?_)
          refine Vx.eqs rfl rfl rfl (rd_step g4) (ih r.length (by simp at hlen; omega) r g3 ?_ rfl)
          first | (rw [← hG]; simp only [gc]; rw [dw_t]; simp only [isGc, decide_eq_true_eq]; omega)
        · skip
          have c11 : ¬ (x = 32) := fun z => c11 ((nI_eq (a := x) (b := 32) (by omega) (by omega)).mpr z)
          refine And.intro rfl ?_
          refine And.intro rfl ?_
          refine ⟨N, f, hrow, vp_in_nI (by omega) hN.2, ?_⟩
          rw [nI_clamp (by omega), hf _ g1, g2]
          refine And.intro (fun c18 => ?_) (fun c18 => ?_)
          · skip
            have c18 := (nI_eq (a := x) (b := 9) (by omega) (by omega)).mp c18
            refine vx_go hC hFt hini (vx_ends hC hr hlk) jc_Rd_findElement 26 (by decide) rfl ?_
            refine And.intro rfl ?_
            refine And.intro rfl ?_
            refine And.intro rfl (And.intro (And.intro rfl rfl) ?_)
            refine Vx.eqs rfl rfl rfl (rd_step g4) (ih r.length (by simp at hlen; omega) r g3 ?_ rfl)
            first | (rw [← hG]; simp only [gc]; rw [dw_t]; simp only [isGc, decide_eq_true_eq]; omega)
          · skip
            have c18 : ¬ (x = 9) := fun z => c18 ((nI_eq (a := x) (b := 9) (by omega) (by omega)).mpr z)
            refine And.intro rfl ?_
            refine And.intro rfl ?_
            refine ⟨N, f, hrow, vp_in_nI (by omega) hN.2, ?_⟩
            rw [nI_clamp (by omega), hf _ g1, g2]
            refine And.intro (fun c25 => ?_) (fun c25 => ?_)
            · skip
              have c25 : ¬ (x = 44) := fun z => c25 ((nI_eq (a := x) (b := 44) (by omega) (by omega)).mpr z)
              refine vx_go hC hFt hini (vx_ends hC hr hlk) jc_Rd_findElement 33 (by decide) rfl ?_
              refine And.intro rfl ?_
              refine And.intro rfl ?_
              refine And.intro (fun c37 => ?_) (fun c37 => ?_)
              · skip
                exact absurd c37 (nI_ge g1 (by omega))
              · skip
                refine vx_go hC hFt hini (vx_ends hC hr hlk) jc_Rd_findElement 41 (by decide) rfl ?_
                refine And.intro (rfl) (And.intro ?_ (And.intro (Nat.le_refl _) (Nat.le_refl _)))
                rw [← hG]
                first | exact And.intro rfl rfl | (simp only [gc]; rw [dw_f (by simp only [isGc, decide_eq_false_iff_not]; omega)]; exact And.intro rfl rfl)
            · skip
              have c25 := (nI_eq (a := x) (b := 44) (by omega) (by omega)).mp c25
              refine And.intro rfl ?_
              refine And.intro rfl ?_
              refine And.intro rfl (And.intro (And.intro rfl rfl) ?_)
              refine Vx.eqs rfl rfl rfl (rd_step g4) (ih r.length (by simp at hlen; omega) r g3 ?_ rfl)
              first | (rw [← hG]; simp only [gc]; rw [dw_t]; simp only [isGc, decide_eq_true_eq]; omega)
end
section
/-! THE READER'S METHODS THAT CALL, by program (wip/whole/gen/p11.py) -/
def cn (ci : Nat) : String := match ci with
  | 0 => "OriginDesk$Accept"
  | 1 => "OriginDesk$Languages"
  | 2 => "OriginDesk$Tags"
  | 3 => "OriginDesk$Dates"
  | _ => "OriginDesk$Ranges"
theorem sel_take (ci : Nat) (h : ci < 5) : Cond.selects (cn ci) y_Rd_take y_Rd_take ∈ gw := by
  rcases (show ci = 0 ∨ ci = 1 ∨ ci = 2 ∨ ci = 3 ∨ ci = 4 by omega) with rfl | rfl | rfl | rfl | rfl
  · exact ws_Ac_Rd_take
  · exact ws_La_Rd_take
  · exact ws_Tg_Rd_take
  · exact ws_Da_Rd_take
  · exact ws_Ra_Rd_take
theorem sel_skipGap (ci : Nat) (h : ci < 5) : Cond.selects (cn ci) y_Rd_skipGap y_Rd_skipGap ∈ gw := by
  rcases (show ci = 0 ∨ ci = 1 ∨ ci = 2 ∨ ci = 3 ∨ ci = 4 by omega) with rfl | rfl | rfl | rfl | rfl
  · exact ws_Ac_Rd_skipGap
  · exact ws_La_Rd_skipGap
  · exact ws_Tg_Rd_skipGap
  · exact ws_Da_Rd_skipGap
  · exact ws_Ra_Rd_skipGap
theorem cls_cn (ci : Nat) (h : ci < 5) : ∃ rc : vw_C, cls[ci]? = some rc ∧ rc.1 = cn ci := by
  rcases (show ci = 0 ∨ ci = 1 ∨ ci = 2 ∨ ci = 3 ∨ ci = 4 by omega) with rfl | rfl | rfl | rfl | rfl <;> exact ⟨_, rfl, rfl⟩
section
variable {p : Program} {l : Launch} {e : Env} {R : Room} {s : State} {m : MethodId} {args : Array Value} {below : List Frame} {meth : Method} {c : Code} {cc : ByteArray} {nL : Nat} {D : va_G} {tys : List (ClassId × FieldType)} {A : Nat → Prop} {tc : Nat → ClassId} {Q : State → Prop} {st rest : List Value} {k n : Nat} {post : Option Value → va_W → Prop} {F : (Nat → Prop) → State → Heap → Prop} {ret : Option FieldType} {K : List Value → va_W → Nat → Nat → Prop} {y y0 : MethodName} {bytes b0 : ByteArray} {maxL n0 index nA fr lo : Nat} {r0 : Option FieldType} {b : Nat} {As : List Value}
/-- a reader's method called on the reader itself, by a row of Reader -/
theorem rd_call {ci h ra sa : Nat} {ex : List Value} {T rs : List Nat} {sd : Nat → Int32} {ss : Nat} (hC : Cx p s m args c cc nL "OriginDesk$Reader" (yw y0 b0 n0 r0) D cls tys A tc) (hF : F A s s.heap) (hk : Kt l y (yw y bytes maxL ret) fr lo 0 0 D cls tys F (.ref h :: As) (rdW tc ci h ra sa ex T rs sd ss) post) (hwm : wm y bytes maxL ret nA) (hl : Cond.methodLink "OriginDesk$Reader" index y ∈ gw) (hi : Cond.instanceMethod y ∈ gw) (hsel : (Cond.selects (cn ci) y y).before args s = true) (hci : ci < 5) (hR : fr + 1 ≤ R.frames ∧ 8 + (maxL + 11) + lo ≤ R.locals) (hlen : As.length = nA) (hst : st = As.reverse ++ .ref h :: rest) (hW : (rest.map fun v => v.category).sum ≤ 8) (hkn : k ≤ R.cells ∧ n ≤ R.slots)
    (kk : ∀ (r : Option Value) (w1 : va_W), post r w1 → K (r.toList ++ rest) w1 k n) : vx_SX cc (Vx p l e R s m args below meth c nL D cls A Q) (.invokevirtual index) 3 st (rdW tc ci h ra sa ex T rs sd ss) k n K := by
  obtain ⟨rc, h1, h2⟩ := cls_cn ci hci
  exact sx_callV (wr := []) hC hk ⟨cw_B hwm hl hC.2.2.2.2.1 hR, hC.2.2.2.2.1 _ (List.mem_cons_of_mem _ hi), hsel⟩ [0, 1] [] rfl rfl rfl rfl (by simp) (q0 := 0) rfl h1 h2 (vx_ro hk.1 hC.2.2.2.2.2.2.1 hF [0, 1] rfl) hlen hst hW hkn kk
/-- a static method of Reader called by a row of Reader -/
theorem rd_calls {ws : va_W} (hC : Cx p s m args c cc nL "OriginDesk$Reader" (yw y0 b0 n0 r0) D cls tys A tc) (hk : Kt l y (yw y bytes maxL ret) fr lo 0 0 D cls tys (fun _ _ _ => True) As [] (fun r w => post r w ∧ w = [])) (hwm : wm y bytes maxL ret nA) (hl : Cond.methodLink "OriginDesk$Reader" index y ∈ gw) (hi : Cond.static y ∈ gw) (hR : fr + 1 ≤ R.frames ∧ 8 + (maxL + 11) + lo ≤ R.locals) (hlen : As.length = nA) (hst : st = As.reverse ++ rest) (hW : (rest.map fun v => v.category).sum ≤ 8) (hkn : k ≤ R.cells ∧ n ≤ R.slots)
    (kk : ∀ (r : Option Value), post r [] → K (r.toList ++ rest) ws k n) : vx_SX cc (Vx p l e R s m args below meth c nL D cls A Q) (.invokestatic index) 3 st ws k n K := by
  refine sx_callS (wr := ws) (wc := []) hC hk (cw_S hwm hl hi hC.2.2.2.2.1 hR) [] (List.range ws.length) rfl ?_ rfl ?_ (by simp) (fun _ _ _ _ _ => trivial) hlen hst hW hkn (fun r w1 hp => ?_)
  · apply List.ext_getElem?
    intro i
    simp only [List.getElem?_map]
    by_cases h : i < ws.length
    · simp [h]
    · simp [h]
  · have : ∀ (N : Nat) (L : List Nat), L.Nodup → va_nd L = true := by
      intro N L hL
      induction L with
      | nil => rfl
      | cons a t ih => rw [va_nd, Bool.and_eq_true]; exact ⟨by simpa using (List.nodup_cons.mp hL).1, ih (List.nodup_cons.mp hL).2⟩
    exact this 0 _ List.nodup_range
  · obtain ⟨h1, rfl⟩ := hp
    rw [List.append_nil]
    exact kk r h1
end
theorem sel_noif {C : String} {x y : MethodName} {s : State} {args : Array Value} (h : (Cond.selects C x y).before args s = true) : ∃ m, s.methodNamed? y = some m ∧ (s.vm.classes[m.cls]?).any (fun k => !k.isInterface) = true := by
  simp only [Cond.before, Cond.holds, Cond.value] at h
  cases h1 : s.vm.findClass C with
  | none => rw [h1] at h; simp at h
  | some c =>
    cases h2 : s.methodFound? x.cls x.name x.desc with
    | none => rw [h1, h2] at h; simp at h
    | some r =>
      cases h3 : s.methodNamed? y with
      | none => rw [h1, h2, h3] at h; simp at h
      | some m =>
        rw [h1, h2, h3] at h
        refine ⟨m, rfl, ?_⟩
        dsimp only at h
        split at h
        · simp only [beq_iff_eq, Option.some.injEq, Bool.and_eq_true, decide_eq_true_eq] at h
          exact h.2
        · simp at h
theorem sel_private {C C1 : String} {y x1 y1 : MethodName} {s : State} {args : Array Value} {n : Nat} (hy : y.cls ≠ "java/lang/invoke/MethodHandle" ∧ y.cls ≠ "java/lang/invoke/VarHandle")
    (hins : (Cond.instantiable C n).before args s = true) (hpriv : (Cond.privateMethod y).before args s = true) (hinst : (Cond.instanceMethod y).before args s = true) (h1 : (Cond.selects C1 x1 y1).before args s = true) (hyy : y1.cls = y.cls) :
    (Cond.selects C y y).before args s = true := by
  obtain ⟨c, k, hc, hk, -, hniab, -, -⟩ := Cond.instantiable_spec hins
  obtain ⟨mk, methM, hnamed, hmethM, -, -⟩ := Cond.instanceMethod_spec hinst
  obtain ⟨m1, hn1, hany⟩ := sel_noif h1
  have hcls : m1.cls = mk.cls := Option.some.inj ((findClass_of_methodNamed hn1).symm.trans (by rw [hyy]; exact findClass_of_methodNamed hnamed))
  have hfound : s.methodFound? y.cls y.name y.desc = some mk := State.methodFound?_of_named hnamed hy
  have hsel : selectMethod {} s.vm c mk = .method mk := selectMethod_private hmethM (Cond.privateMethod_at hpriv mk methM hnamed hmethM)
  rw [hcls] at hany
  simp only [Cond.before, Cond.holds, Cond.value, hc, hfound, hnamed, hsel]
  simpa using hany
theorem sel_say (ci : Nat) (h : ci < 5) : Cond.selects (cn ci) y_Rd_say y_Rd_say ∈ gw := by
  rcases (show ci = 0 ∨ ci = 1 ∨ ci = 2 ∨ ci = 3 ∨ ci = 4 by omega) with rfl | rfl | rfl | rfl | rfl
  · exact gw_say (List.mem_of_getElem? (i := 0) rfl) (by decide +kernel)
  · exact gw_say (List.mem_of_getElem? (i := 1) rfl) (by decide +kernel)
  · exact gw_say (List.mem_of_getElem? (i := 2) rfl) (by decide +kernel)
  · exact gw_say (List.mem_of_getElem? (i := 3) rfl) (by decide +kernel)
  · exact gw_say (List.mem_of_getElem? (i := 4) rfl) (by decide +kernel)
theorem bI_ne {b : Bool} (h : ¬ bI b = 0) : b = true := by cases b with
  | false => exact absurd rfl h
  | true => rfl
theorem bI_eq {b : Bool} (h : bI b = 0) : b = false := by cases b with
  | false => rfl
  | true => exact absurd h (by decide)
/-- what ends an element -/
def ee (q : List Nat) : Bool := match q with
  | [] => true
  | x :: _ => decide (x = 44)
/-- a semicolon behind a gap, and a gap; q is what stands behind the first gap -/
def sc (q : List Nat) : Bool × List Nat := match pk 59 q with
  | (true, r) => (true, gp r)
  | (false, r) => (false, r)
set_option maxRecDepth 100000 in
set_option maxHeartbeats 4000000 in
theorem c_Rd_endsElement (l : Launch) (D : va_G) (tys : List (ClassId × FieldType)) (tc : Nat → ClassId) (hty : ∀ i : Nat, i < 4 → tys[i]? = some (tc i, vx_ty i)) (ci : Nat) (hci : ci < 5) (h ra sa : Nat) (ex : List Value) (T rs : List Nat) (sd : Nat → Int32) (ss : Nat) (hT : isT T) (hs : rs <:+ T) : Kt l y_Rd_endsElement (yw y_Rd_endsElement b_Rd_endsElement 1 (some .boolean)) 1 20 0 0 D cls tys (rdF ra T) [.ref h] (rdW tc ci h ra sa ex T rs sd ss) (fun r w => r = some (.int (bI (ee (gp rs)))) ∧ w = rdW tc ci h ra sa ex T (gp rs) sd ss) := by
  refine Kt.of (rdF_ro _ _) (by decide) rfl hty (Nat.le_of_ble_eq_true rfl) ?_
  intro p e s m args below meth c0 A hC hr hlk hnm hF
  have hFt : vx_Ft y_Rd_endsElement.cls (yw y_Rd_endsElement b_Rd_endsElement 1 (some .boolean)) cls cty ft_Rd := ft_of (fun w h => List.mem_cons_of_mem _ h) fl_Rd_in ft_Rd_b
  have hini : false = true → meth.name = "<init>" := fun h => by cases h
  have hF0 := hF
  obtain ⟨N, f, hrow, hN, hf⟩ := hF
  have hTl := hT.1
  rcases (show ci = 0 ∨ ci = 1 ∨ ci = 2 ∨ ci = 3 ∨ ci = 4 by omega) with rfl | rfl | rfl | rfl | rfl
  all_goals
    refine vx_go hC hFt hini (vx_ends hC hr hlk) jc_Rd_endsElement 0 (by decide) rfl ?_
    refine rd_call hC hF0 (c_Rd_skipGap l D tys tc hty _ hci h ra sa ex T rs sd ss hT hs) wm_Rd_skipGap wl_Rd_38 wi_Rd_skipGap (hC.2.2.2.2.1 _ (List.mem_cons_of_mem _ (sel_skipGap _ hci))) hci ⟨by decide, by decide⟩ rfl rfl (by decide) ⟨Nat.zero_le _, Nat.zero_le _⟩ (fun r w1 hp => ?_)
    obtain ⟨rfl, rfl⟩ := hp
    have hs1 : gp rs <:+ T := dw_sfx hs
    clear hs
    generalize gp rs = rs at hs1 ⊢
    have hs := hs1
    refine And.intro rfl ?_
    refine And.intro rfl ?_
    refine And.intro (fun c6 => ?_) (fun c6 => ?_)
    · skip
      have hle := sfx_le hs
      have hnil : rs = [] := by
        have h2 := (nI_leI (a := T.length) (b := T.length - rs.length) (by omega) (by omega)).mp c6
        exact List.eq_nil_of_length_eq_zero (by omega)
      subst hnil
      refine vx_go hC hFt hini (vx_ends hC hr hlk) jc_Rd_endsElement 14 (by decide) rfl ?_
      refine vx_go hC hFt hini (vx_ends hC hr hlk) jc_Rd_endsElement 17 (by decide) rfl ?_
      refine And.intro (rfl) (And.intro ?_ (And.intro (Nat.le_refl _) (Nat.le_refl _)))
      first | exact And.intro rfl rfl | (refine And.intro ?_ rfl; simp [ee, bI, *])
    · skip
      have hle := sfx_le hs
      obtain ⟨x, r, hrs⟩ : ∃ x r, rs = x :: r := by
        cases hrs : rs with
        | nil => subst hrs; exact absurd ((nI_leI (a := T.length) (b := T.length - 0) (by omega) (by omega)).mpr (by omega)) c6
        | cons x r => exact ⟨x, r, rfl⟩
      obtain ⟨g1, g2, g3, g4, g5⟩ := sfx_at hs hrs
      have g6 := hT.2 x g5
      subst hrs
      refine And.intro rfl ?_
      refine And.intro rfl ?_
      refine ⟨N, f, hrow, vp_in_nI (by omega) hN.2, ?_⟩
      rw [nI_clamp (by omega), hf _ g1, g2]
      refine And.intro (fun c13 => ?_) (fun c13 => ?_)
      · skip
        have c13 : ¬ (x = 44) := fun z => c13 ((nI_eq (a := x) (b := 44) (by omega) (by omega)).mpr z)
        refine vx_go hC hFt hini (vx_ends hC hr hlk) jc_Rd_endsElement 16 (by decide) rfl ?_
        refine And.intro (rfl) (And.intro ?_ (And.intro (Nat.le_refl _) (Nat.le_refl _)))
        first | exact And.intro rfl rfl | (refine And.intro ?_ rfl; simp [ee, bI, *])
      · skip
        have c13 := (nI_eq (a := x) (b := 44) (by omega) (by omega)).mp c13
        refine vx_go hC hFt hini (vx_ends hC hr hlk) jc_Rd_endsElement 17 (by decide) rfl ?_
        refine And.intro (rfl) (And.intro ?_ (And.intro (Nat.le_refl _) (Nat.le_refl _)))
        first | exact And.intro rfl rfl | (refine And.intro ?_ rfl; simp [ee, bI, *])
set_option maxRecDepth 100000 in
set_option maxHeartbeats 4000000 in
theorem c_Rd_takeSemicolon (l : Launch) (D : va_G) (tys : List (ClassId × FieldType)) (tc : Nat → ClassId) (hty : ∀ i : Nat, i < 4 → tys[i]? = some (tc i, vx_ty i)) (ci : Nat) (hci : ci < 5) (h ra sa : Nat) (ex : List Value) (T rs : List Nat) (sd : Nat → Int32) (ss : Nat) (hT : isT T) (hs : rs <:+ T) : Kt l y_Rd_takeSemicolon (yw y_Rd_takeSemicolon b_Rd_takeSemicolon 1 (some .boolean)) 1 21 0 0 D cls tys (rdF ra T) [.ref h] (rdW tc ci h ra sa ex T rs sd ss) (fun r w => r = some (.int (bI (sc (gp rs)).1)) ∧ w = rdW tc ci h ra sa ex T (sc (gp rs)).2 sd ss) := by
  refine Kt.of (rdF_ro _ _) (by decide) rfl hty (Nat.le_of_ble_eq_true rfl) ?_
  intro p e s m args below meth c0 A hC hr hlk hnm hF
  have hFt : vx_Ft y_Rd_takeSemicolon.cls (yw y_Rd_takeSemicolon b_Rd_takeSemicolon 1 (some .boolean)) cls cty ft_Rd := ft_of (fun w h => List.mem_cons_of_mem _ h) fl_Rd_in ft_Rd_b
  have hini : false = true → meth.name = "<init>" := fun h => by cases h
  have hF0 := hF
  obtain ⟨N, f, hrow, hN, hf⟩ := hF
  have hTl := hT.1
  rcases (show ci = 0 ∨ ci = 1 ∨ ci = 2 ∨ ci = 3 ∨ ci = 4 by omega) with rfl | rfl | rfl | rfl | rfl
  all_goals
    refine vx_go hC hFt hini (vx_ends hC hr hlk) jc_Rd_takeSemicolon 0 (by decide) rfl ?_
    refine rd_call hC hF0 (c_Rd_skipGap l D tys tc hty _ hci h ra sa ex T rs sd ss hT hs) wm_Rd_skipGap wl_Rd_38 wi_Rd_skipGap (hC.2.2.2.2.1 _ (List.mem_cons_of_mem _ (sel_skipGap _ hci))) hci ⟨by decide, by decide⟩ rfl rfl (by decide) ⟨Nat.zero_le _, Nat.zero_le _⟩ (fun r w1 hp => ?_)
    obtain ⟨rfl, rfl⟩ := hp
    have hs1 : gp rs <:+ T := dw_sfx hs
    clear hs
    generalize gp rs = rs at hs1 ⊢
    have hs := hs1
    refine rd_call hC hF0 (c_Rd_take l D tys tc hty _ hci h ra sa ex T rs sd ss 59 hT hs (by decide)) wm_Rd_take wl_Rd_41 wi_Rd_take (hC.2.2.2.2.1 _ (List.mem_cons_of_mem _ (sel_take _ hci))) hci ⟨by decide, by decide⟩ rfl rfl (by decide) ⟨Nat.zero_le _, Nat.zero_le _⟩ (fun r w1 hp => ?_)
    obtain ⟨rfl, rfl⟩ := hp
    have hs2 := pk_sfx (c := 59) hs
    generalize hpk : pk 59 rs = q at hs2 ⊢
    obtain ⟨q1, q2⟩ := q
    dsimp only at hs2
    refine And.intro (fun c5 => ?_) (fun c5 => ?_)
    · skip
      obtain rfl : q1 = true := bI_ne c5
      refine vx_go hC hFt hini (vx_ends hC hr hlk) jc_Rd_takeSemicolon 8 (by decide) rfl ?_
      refine rd_call hC hF0 (c_Rd_skipGap l D tys tc hty _ hci h ra sa ex T q2 sd ss hT hs2) wm_Rd_skipGap wl_Rd_38 wi_Rd_skipGap (hC.2.2.2.2.1 _ (List.mem_cons_of_mem _ (sel_skipGap _ hci))) hci ⟨by decide, by decide⟩ rfl rfl (by decide) ⟨Nat.zero_le _, Nat.zero_le _⟩ (fun r w1 hp => ?_)
      obtain ⟨rfl, rfl⟩ := hp
      refine And.intro (rfl) (And.intro ?_ (And.intro (Nat.le_refl _) (Nat.le_refl _)))
      exact And.intro (by simp only [sc, hpk]; rfl) (by simp only [sc, hpk])
    · skip
      obtain rfl : q1 = false := bI_eq c5
      refine And.intro (rfl) (And.intro ?_ (And.intro (Nat.le_refl _) (Nat.le_refl _)))
      exact And.intro (by simp only [sc, hpk]; rfl) (by simp only [sc, hpk])
end
section
/-! THE READER: what is said, by program (wip/whole/gen/p12.py) -/
def sdIs (sd : Nat → Int32) (S : List Nat) : Prop := ∀ i, i < S.length → sd i = nI (S.getD i 0)
theorem sd_nil (sd : Nat → Int32) : sdIs sd [] := fun i h => by simp at h
theorem sd_add {sd : Nat → Int32} {S : List Nat} {x : Nat} (h : sdIs sd S) : sdIs (upd sd S.length (nI x)) (S ++ [x]) := by
  intro i hi
  by_cases e : i = S.length
  · subst e
    rw [pk_us]; simp
  · rw [pk_un e]
    have : i < S.length := by simp at hi; omega
    rw [h i this]
    simp [List.getD_eq_getElem?_getD, List.getElem?_append_left this]
set_option maxRecDepth 100000 in
set_option maxHeartbeats 4000000 in
theorem c_Rd_say (l : Launch) (D : va_G) (tys : List (ClassId × FieldType)) (tc : Nat → ClassId) (hty : ∀ i : Nat, i < 4 → tys[i]? = some (tc i, vx_ty i)) (ci : Nat) (hci : ci < 5) (h ra sa : Nat) (ex : List Value) (T rs : List Nat) (sd : Nat → Int32) (ss : Nat) (hT : isT T) (hs : rs <:+ T) (S : List Nat) (hsd : sdIs sd S) (hss : ss = S.length) (hS : S.length < 96) (x : Nat) (hx : x < 256) : Kt l y_Rd_say (yw y_Rd_say b_Rd_say 2 none) 0 0 0 0 D cls tys (rdF ra T) [.ref h, .int (nI x)] (rdW tc ci h ra sa ex T rs sd ss) (fun r w => r = none ∧ ∃ sd2, sdIs sd2 (S ++ [x]) ∧ w = rdW tc ci h ra sa ex T rs sd2 (S.length + 1)) := by
  refine Kt.of (rdF_ro _ _) (by decide) rfl hty (Nat.le_of_ble_eq_true rfl) ?_
  intro p e s m args below meth c0 A hC hr hlk hnm hF
  have hFt : vx_Ft y_Rd_say.cls (yw y_Rd_say b_Rd_say 2 none) cls cty ft_Rd := ft_of (fun w h => List.mem_cons_of_mem _ h) fl_Rd_in ft_Rd_b
  have hini : false = true → meth.name = "<init>" := fun h => by cases h
  have hF0 := hF
  obtain ⟨N, f, hrow, hN, hf⟩ := hF
  have hTl := hT.1
  rcases (show ci = 0 ∨ ci = 1 ∨ ci = 2 ∨ ci = 3 ∨ ci = 4 by omega) with rfl | rfl | rfl | rfl | rfl
  all_goals
    refine vx_go hC hFt hini (vx_ends hC hr hlk) jc_Rd_say 0 (by decide) rfl ?_
    refine And.intro rfl ?_
    refine And.intro (fun c3 => ?_) (fun c3 => ?_)
    · skip
      exact absurd c3 (nI_ge (a := ss) (b := 96) (by omega) (by omega))
    · skip
      refine And.intro rfl ?_
      refine And.intro rfl ?_
      refine And.intro rfl (And.intro rfl (And.intro (vp_in_nI (by omega) (by decide)) ?_))
      refine And.intro rfl ?_
      refine And.intro rfl ?_
      refine And.intro rfl (And.intro (And.intro rfl rfl) ?_)
      refine And.intro (trivial) (And.intro ?_ (And.intro (Nat.le_refl _) (Nat.le_refl _)))
      refine And.intro rfl ⟨_, sd_add hsd, ?_⟩
      subst hss
      rw [nI_clamp (by omega)]
      simp [rdW, nI_1]
/-- a star among the said -/
def ss_star (S : List Nat) : Bool := S.any (fun x => decide (x = 42))
theorem star_t {S : List Nat} {i : Nat} (h : i < S.length) (e : S.getD i 0 = 42) : ss_star S = true := by
  unfold ss_star
  rw [List.any_eq_true]
  refine ⟨S.getD i 0, ?_, by simpa using e⟩
  rw [List.getD_eq_getElem?_getD, List.getElem?_eq_getElem h]
  exact List.getElem_mem h
theorem star_f {S : List Nat} (h : ∀ i, i < S.length → ¬ S.getD i 0 = 42) : ss_star S = false := by
  unfold ss_star
  rw [List.any_eq_false]
  intro x hx
  obtain ⟨i, hi, rfl⟩ := List.getElem_of_mem hx
  have := h i hi
  rw [List.getD_eq_getElem?_getD, List.getElem?_eq_getElem hi] at this
  simpa using this
/-- what stands between a tag's marks -/
def isOp (x : Nat) : Bool := decide (32 < x ∧ x ≠ 34 ∧ x ≠ 127)
def opq (rs : List Nat) : Bool × List Nat × List Nat := match pk 34 rs with
  | (false, r) => (false, r, [])
  | (true, r) => ((pk 34 (r.dropWhile isOp)).1, (pk 34 (r.dropWhile isOp)).2, r.takeWhile isOp)
theorem tw_t {q : Nat → Bool} {x : Nat} {r : List Nat} (h : q x = true) : (x :: r).takeWhile q = x :: r.takeWhile q := by simp [List.takeWhile, h]
theorem tw_f {q : Nat → Bool} {x : Nat} {r : List Nat} (h : q x = false) : (x :: r).takeWhile q = [] := by simp [List.takeWhile, h]
theorem rd_stepS {tc : Nat → ClassId} {ci h ra sa : Nat} {ex : List Value} {T r S : List Nat} {x y : Nat} {sd : Nat → Int32} (g4 : T.length - (x :: r).length + 1 = T.length - r.length) : [((h, .inr (ci, .ref ra :: .int (nI T.length) :: .int (nI (T.length - (x :: r).length) + 1) :: .ref sa :: .int (nI (S.length + 1)) :: ex)) : Nat × va_E), (sa, .inl (tc 0, 96, .inl sd))] = rdW tc ci h ra sa ex T r sd (S ++ [y]).length := by
  rw [nI_1, g4, List.length_append]; rfl
set_option maxRecDepth 100000 in
set_option maxHeartbeats 4000000 in
theorem c_Rd_takeOpaque (l : Launch) (D : va_G) (tys : List (ClassId × FieldType)) (tc : Nat → ClassId) (hty : ∀ i : Nat, i < 4 → tys[i]? = some (tc i, vx_ty i)) (ci : Nat) (hci : ci < 5) (h ra sa : Nat) (ex : List Value) (T rs : List Nat) (sd : Nat → Int32) (ss : Nat) (hT : isT T) (hs : rs <:+ T) : Kt l y_Rd_takeOpaque (yw y_Rd_takeOpaque b_Rd_takeOpaque 1 (some .boolean)) 1 21 0 0 D cls tys (rdF ra T) [.ref h] (rdW tc ci h ra sa ex T rs sd ss) (fun r w => r = some (.int (bI (opq rs).1)) ∧ ∃ sd2, sdIs sd2 (opq rs).2.2 ∧ w = rdW tc ci h ra sa ex T (opq rs).2.1 sd2 (opq rs).2.2.length) := by
  refine Kt.of (rdF_ro _ _) (by decide) rfl hty (Nat.le_of_ble_eq_true rfl) ?_
  intro p e s m args below meth c0 A hC hr hlk hnm hF
  have hFt : vx_Ft y_Rd_takeOpaque.cls (yw y_Rd_takeOpaque b_Rd_takeOpaque 1 (some .boolean)) cls cty ft_Rd := ft_of (fun w h => List.mem_cons_of_mem _ h) fl_Rd_in ft_Rd_b
  have hini : false = true → meth.name = "<init>" := fun h => by cases h
  have hF0 := hF
  obtain ⟨N, f, hrow, hN, hf⟩ := hF
  have hTl := hT.1
  rcases (show ci = 0 ∨ ci = 1 ∨ ci = 2 ∨ ci = 3 ∨ ci = 4 by omega) with rfl | rfl | rfl | rfl | rfl
  all_goals
    refine vx_gon hC hFt hini (vx_ends hC hr hlk) jc_Rd_takeOpaque 0 9 (by decide) rfl ?_
    refine And.intro rfl (And.intro (And.intro rfl rfl) ?_)
    refine rd_call hC hF0 (c_Rd_take l D tys tc hty _ hci h ra sa ex T rs sd 0 34 hT hs (by decide)) wm_Rd_take wl_Rd_41 wi_Rd_take (hC.2.2.2.2.1 _ (List.mem_cons_of_mem _ (sel_take _ hci))) hci ⟨by decide, by decide⟩ rfl rfl (by decide) ⟨Nat.zero_le _, Nat.zero_le _⟩ (fun r w1 hp => ?_)
    obtain ⟨rfl, rfl⟩ := hp
    have hs2 := pk_sfx (c := 34) hs
    generalize hpk : pk 34 rs = q at hs2 ⊢
    obtain ⟨q1, q2⟩ := q
    dsimp only at hs2
    refine And.intro (fun c6 => ?_) (fun c6 => ?_)
    · skip
      obtain rfl : q1 = true := bI_ne c6
      have hsp : opq rs = ((pk 34 (q2.dropWhile isOp)).1, (pk 34 (q2.dropWhile isOp)).2, q2.takeWhile isOp) := by simp only [opq, hpk]
      rw [hsp]
      have hq2 := sfx_le hs2
      have hsd := sd_nil sd
      obtain ⟨S, hS0⟩ : ∃ S : List Nat, S = [] := ⟨_, rfl⟩
      rw [← hS0] at hsd
      have hSl : S.length + q2.length ≤ 96 := by rw [hS0]; simp; omega
      refine Vx.eqs rfl rfl rfl (w2 := rdW tc _ h ra sa ex T q2 sd S.length) (by rw [hS0]; rfl) ?_
      generalize hRF : q2.dropWhile isOp = RF
      generalize hSF : q2.takeWhile isOp = SF
      replace hSF : S ++ q2.takeWhile isOp = SF := by rw [hS0]; exact hSF
      clear hpk hS0 hsp hq2 c6
      induction hlen : q2.length using Nat.strongRecOn generalizing q2 S sd with
      | _ n ih =>
        refine vx_go hC hFt hini (vx_ends hC hr hlk) jc_Rd_takeOpaque 9 (by decide) rfl ?_
        refine And.intro rfl ?_
        refine And.intro rfl ?_
        refine And.intro (fun c13 => ?_) (fun c13 => ?_)
        · skip
          have hle := sfx_le hs2
          have hnil : q2 = [] := by
            have h2 := (nI_leI (a := T.length) (b := T.length - q2.length) (by omega) (by omega)).mp c13
            exact List.eq_nil_of_length_eq_zero (by omega)
          subst hnil
          have tw_e : ([] : List Nat).takeWhile isOp = [] := rfl
          have dw_e : [] = RF := hRF
          refine vx_go hC hFt hini (vx_ends hC hr hlk) jc_Rd_takeOpaque 49 (by decide) rfl ?_
          rw [← dw_e] at hRF ⊢
          refine rd_call hC hF0 (c_Rd_take l D tys tc hty _ hci h ra sa ex T [] sd S.length 34 hT hs2 (by decide)) wm_Rd_take wl_Rd_41 wi_Rd_take (hC.2.2.2.2.1 _ (List.mem_cons_of_mem _ (sel_take _ hci))) hci ⟨by decide, by decide⟩ rfl rfl (by decide) ⟨Nat.zero_le _, Nat.zero_le _⟩ (fun r w1 hp => ?_)
          obtain ⟨rfl, rfl⟩ := hp
          refine And.intro ((bI_narrow _)) (And.intro ?_ (And.intro (Nat.le_refl _) (Nat.le_refl _)))
          refine And.intro rfl ⟨sd, ?_, ?_⟩
          · rw [← hSF, tw_e, List.append_nil]; exact hsd
          · rw [← hSF, tw_e, List.append_nil]
        · skip
          have hle := sfx_le hs2
          obtain ⟨x, r, hrs⟩ : ∃ x r, q2 = x :: r := by
            cases hrs : q2 with
            | nil => subst hrs; exact absurd ((nI_leI (a := T.length) (b := T.length - 0) (by omega) (by omega)).mpr (by omega)) c13
            | cons x r => exact ⟨x, r, rfl⟩
          obtain ⟨g1, g2, g3, g4, g5⟩ := sfx_at hs2 hrs
          have g6 := hT.2 x g5
          subst hrs
          refine And.intro rfl ?_
          refine And.intro rfl ?_
          refine ⟨N, f, hrow, vp_in_nI (by omega) hN.2, ?_⟩
          rw [nI_clamp (by omega), hf _ g1, g2]
          refine And.intro (fun c20 => ?_) (fun c20 => ?_)
          · skip
            have c20 := (nI_leI (a := x) (b := 32) (by omega) (by omega)).mp c20
            have tw_e := tw_f (r := r) (show isOp x = false by simp only [isOp, decide_eq_false_iff_not]; omega)
            have dw_e := (dw_f (r := r) (show isOp x = false by simp only [isOp, decide_eq_false_iff_not]; omega)).symm.trans hRF
            refine vx_go hC hFt hini (vx_ends hC hr hlk) jc_Rd_takeOpaque 49 (by decide) rfl ?_
            rw [← dw_e] at hRF ⊢
            refine rd_call hC hF0 (c_Rd_take l D tys tc hty _ hci h ra sa ex T (x :: r) sd S.length 34 hT hs2 (by decide)) wm_Rd_take wl_Rd_41 wi_Rd_take (hC.2.2.2.2.1 _ (List.mem_cons_of_mem _ (sel_take _ hci))) hci ⟨by decide, by decide⟩ rfl rfl (by decide) ⟨Nat.zero_le _, Nat.zero_le _⟩ (fun r w1 hp => ?_)
            obtain ⟨rfl, rfl⟩ := hp
            refine And.intro ((bI_narrow _)) (And.intro ?_ (And.intro (Nat.le_refl _) (Nat.le_refl _)))
            refine And.intro rfl ⟨sd, ?_, ?_⟩
            · rw [← hSF, tw_e, List.append_nil]; exact hsd
            · rw [← hSF, tw_e, List.append_nil]
          · skip
            have c20 : ¬ (x ≤ 32) := fun z => c20 ((nI_leI (a := x) (b := 32) (by omega) (by omega)).mpr z)
            refine And.intro rfl ?_
            refine And.intro rfl ?_
            refine ⟨N, f, hrow, vp_in_nI (by omega) hN.2, ?_⟩
            rw [nI_clamp (by omega), hf _ g1, g2]
            refine And.intro (fun c27 => ?_) (fun c27 => ?_)
            · skip
              have c27 := (nI_eq (a := x) (b := 34) (by omega) (by omega)).mp c27
              have tw_e := tw_f (r := r) (show isOp x = false by simp only [isOp, decide_eq_false_iff_not]; omega)
              have dw_e := (dw_f (r := r) (show isOp x = false by simp only [isOp, decide_eq_false_iff_not]; omega)).symm.trans hRF
              refine vx_go hC hFt hini (vx_ends hC hr hlk) jc_Rd_takeOpaque 49 (by decide) rfl ?_
              rw [← dw_e] at hRF ⊢
              refine rd_call hC hF0 (c_Rd_take l D tys tc hty _ hci h ra sa ex T (x :: r) sd S.length 34 hT hs2 (by decide)) wm_Rd_take wl_Rd_41 wi_Rd_take (hC.2.2.2.2.1 _ (List.mem_cons_of_mem _ (sel_take _ hci))) hci ⟨by decide, by decide⟩ rfl rfl (by decide) ⟨Nat.zero_le _, Nat.zero_le _⟩ (fun r w1 hp => ?_)
              obtain ⟨rfl, rfl⟩ := hp
              refine And.intro ((bI_narrow _)) (And.intro ?_ (And.intro (Nat.le_refl _) (Nat.le_refl _)))
              refine And.intro rfl ⟨sd, ?_, ?_⟩
              · rw [← hSF, tw_e, List.append_nil]; exact hsd
              · rw [← hSF, tw_e, List.append_nil]
            · skip
              have c27 : ¬ (x = 34) := fun z => c27 ((nI_eq (a := x) (b := 34) (by omega) (by omega)).mpr z)
              refine And.intro rfl ?_
              refine And.intro rfl ?_
              refine ⟨N, f, hrow, vp_in_nI (by omega) hN.2, ?_⟩
              rw [nI_clamp (by omega), hf _ g1, g2]
              refine And.intro (fun c34 => ?_) (fun c34 => ?_)
              · skip
                have c34 := (nI_eq (a := x) (b := 127) (by omega) (by omega)).mp c34
                have tw_e := tw_f (r := r) (show isOp x = false by simp only [isOp, decide_eq_false_iff_not]; omega)
                have dw_e := (dw_f (r := r) (show isOp x = false by simp only [isOp, decide_eq_false_iff_not]; omega)).symm.trans hRF
                refine vx_go hC hFt hini (vx_ends hC hr hlk) jc_Rd_takeOpaque 49 (by decide) rfl ?_
                rw [← dw_e] at hRF ⊢
                refine rd_call hC hF0 (c_Rd_take l D tys tc hty _ hci h ra sa ex T (x :: r) sd S.length 34 hT hs2 (by decide)) wm_Rd_take wl_Rd_41 wi_Rd_take (hC.2.2.2.2.1 _ (List.mem_cons_of_mem _ (sel_take _ hci))) hci ⟨by decide, by decide⟩ rfl rfl (by decide) ⟨Nat.zero_le _, Nat.zero_le _⟩ (fun r w1 hp => ?_)
                obtain ⟨rfl, rfl⟩ := hp
                refine And.intro ((bI_narrow _)) (And.intro ?_ (And.intro (Nat.le_refl _) (Nat.le_refl _)))
                refine And.intro rfl ⟨sd, ?_, ?_⟩
                · rw [← hSF, tw_e, List.append_nil]; exact hsd
                · rw [← hSF, tw_e, List.append_nil]
              · skip
                have c34 : ¬ (x = 127) := fun z => c34 ((nI_eq (a := x) (b := 127) (by omega) (by omega)).mpr z)
                have hop : isOp x = true := by simp only [isOp, decide_eq_true_eq]; omega
                refine And.intro rfl ?_
                refine And.intro rfl ?_
                refine ⟨N, f, hrow, vp_in_nI (by omega) hN.2, ?_⟩
                rw [nI_clamp (by omega), hf _ g1, g2]
                refine rd_call hC hF0 (c_Rd_say l D tys tc hty _ hci h ra sa ex T (x :: r) sd S.length hT hs2 S hsd rfl (by simp at hle; omega) x (by omega)) wm_Rd_say wl_Rd_67 wi_Rd_say (hC.2.2.2.2.1 _ (List.mem_cons_of_mem _ (sel_say _ hci))) hci ⟨by decide, by decide⟩ rfl rfl (by decide) ⟨Nat.zero_le _, Nat.zero_le _⟩ (fun r' w1 hp => ?_)
                obtain ⟨rfl, sd2, hsd2, rfl⟩ := hp
                refine And.intro rfl ?_
                refine And.intro rfl ?_
                refine And.intro rfl (And.intro (And.intro rfl rfl) ?_)
                refine Vx.eqs rfl rfl rfl (rd_stepS g4) (ih r.length (by simp at hlen; omega) sd2 r g3 (S ++ [x]) hsd2 (by simp at hSl ⊢; omega) (by rw [← hRF, dw_t hop]) (by rw [← hSF, tw_t hop]; simp) rfl)
    · skip
      obtain rfl : q1 = false := bI_eq c6
      refine And.intro (rfl) (And.intro ?_ (And.intro (Nat.le_refl _) (Nat.le_refl _)))
      simp only [opq, hpk]
      exact And.intro rfl ⟨sd, sd_nil sd, rfl⟩
end
section
/-! THE READER: numbers, by program (wip/whole/gen/p13.py) -/
/-- a number that may be wanting -/
def iI (v : Option Nat) : Int32 := match v with
  | none => -1
  | some a => nI a
/-- k digits behind a -/
def dgs : Nat → Nat → List Nat → Option Nat × List Nat
  | 0, a, rs => (some a, rs)
  | _ + 1, _, [] => (none, [])
  | k + 1, a, x :: r => if isDg x then dgs k (10 * a + x - 48) r else (none, x :: r)
theorem dg_in {x : Nat} (h : isDg x = true) : 48 ≤ x ∧ x ≤ 57 := by simpa [isDg] using h
theorem dg_no {x : Nat} (h : ¬ (48 ≤ x ∧ x ≤ 57)) : isDg x = false := by simpa [isDg] using h
theorem dg_yes {x : Nat} (h : 48 ≤ x ∧ x ≤ 57) : isDg x = true := by simpa [isDg] using h
theorem ten_add {a x : Nat} (h : 48 ≤ x) : (10 : Int32) * nI a + nI x - 48 = nI (10 * a + x - 48) := by
  rw [show (10 : Int32) = nI 10 from rfl, show (48 : Int32) = nI 48 from rfl, pk_mul, nI_add, pk_sub (by omega)]
set_option maxRecDepth 100000 in
set_option maxHeartbeats 4000000 in
theorem c_Rd_takeDigits (l : Launch) (D : va_G) (tys : List (ClassId × FieldType)) (tc : Nat → ClassId) (hty : ∀ i : Nat, i < 4 → tys[i]? = some (tc i, vx_ty i)) (ci : Nat) (hci : ci < 5) (h ra sa : Nat) (ex : List Value) (T rs : List Nat) (sd : Nat → Int32) (ss : Nat) (hT : isT T) (hs : rs <:+ T) (mn : Nat) (hmn : mn < 100) : Kt l y_Rd_takeDigits (yw y_Rd_takeDigits b_Rd_takeDigits 4 (some .int)) 0 0 0 0 D cls tys (rdF ra T) [.ref h, .int (nI mn)] (rdW tc ci h ra sa ex T rs sd ss) (fun r w => r = some (.int (iI (dgs mn 0 rs).1)) ∧ w = rdW tc ci h ra sa ex T (dgs mn 0 rs).2 sd ss) := by
  refine Kt.of (rdF_ro _ _) (by decide) rfl hty (Nat.le_of_ble_eq_true rfl) ?_
  intro p e s m args below meth c0 A hC hr hlk hnm hF
  have hFt : vx_Ft y_Rd_takeDigits.cls (yw y_Rd_takeDigits b_Rd_takeDigits 4 (some .int)) cls cty ft_Rd := ft_of (fun w h => List.mem_cons_of_mem _ h) fl_Rd_in ft_Rd_b
  have hini : false = true → meth.name = "<init>" := fun h => by cases h
  have hF0 := hF
  obtain ⟨N, f, hrow, hN, hf⟩ := hF
  have hTl := hT.1
  rcases (show ci = 0 ∨ ci = 1 ∨ ci = 2 ∨ ci = 3 ∨ ci = 4 by omega) with rfl | rfl | rfl | rfl | rfl
  all_goals
    refine vx_gon hC hFt hini (vx_ends hC hr hlk) jc_Rd_takeDigits 0 4 (by decide) rfl ?_
    generalize hres : dgs mn 0 rs = RES
    refine Vx.subL (lv' := [(0, .ref h), (1, .int (nI mn)), (2, .int (nI 0)), (3, .int (nI 0))]) [2, 3, 1, 0] rfl ?_
    obtain ⟨a, ha⟩ : ∃ a : Nat, a = 0 := ⟨_, rfl⟩
    obtain ⟨i, hi⟩ : ∃ i : Nat, i = 0 := ⟨_, rfl⟩
    obtain ⟨k, hk⟩ : ∃ k : Nat, k = mn := ⟨_, rfl⟩
    have hik : i + k = mn := by omega
    refine Vx.eqs rfl (lv2 := [(0, .ref h), (1, .int (nI mn)), (2, .int (nI a)), (3, .int (nI i))]) (by rw [ha, hi]) rfl rfl ?_
    replace hres : dgs k a rs = RES := by rw [hk, ha]; exact hres
    clear ha hi hk
    induction k using Nat.strongRecOn generalizing rs a i with
    | _ k ih =>
      refine vx_go hC hFt hini (vx_ends hC hr hlk) jc_Rd_takeDigits 4 (by decide) rfl ?_
      refine And.intro (fun c6 => ?_) (fun c6 => ?_)
      · skip
        have c6 := (nI_leI (a := mn) (b := i) (by omega) (by omega)).mp c6
        obtain rfl : k = 0 := by omega
        refine vx_go hC hFt hini (vx_ends hC hr hlk) jc_Rd_takeDigits 48 (by decide) rfl ?_
        refine And.intro (trivial) (And.intro ?_ (And.intro (Nat.le_refl _) (Nat.le_refl _)))
        rw [← hres]
        exact And.intro rfl rfl
      · skip
        have c6 : ¬ (mn ≤ i) := fun z => c6 ((nI_leI (a := mn) (b := i) (by omega) (by omega)).mpr z)
        obtain ⟨k2, rfl⟩ : ∃ k2, k = k2 + 1 := ⟨k - 1, by omega⟩
        refine And.intro rfl ?_
        refine And.intro rfl ?_
        refine And.intro (fun c11 => ?_) (fun c11 => ?_)
        · skip
          have hle := sfx_le hs
          have hnil : rs = [] := by
            have h2 := (nI_leI (a := T.length) (b := T.length - rs.length) (by omega) (by omega)).mp c11
            exact List.eq_nil_of_length_eq_zero (by omega)
          subst hnil
          refine vx_go hC hFt hini (vx_ends hC hr hlk) jc_Rd_takeDigits 26 (by decide) rfl ?_
          refine And.intro (trivial) (And.intro ?_ (And.intro (Nat.le_refl _) (Nat.le_refl _)))
          rw [← hres]
          exact And.intro rfl rfl
        · skip
          have hle := sfx_le hs
          obtain ⟨x, r, hrs⟩ : ∃ x r, rs = x :: r := by
            cases hrs : rs with
            | nil => subst hrs; exact absurd ((nI_leI (a := T.length) (b := T.length - 0) (by omega) (by omega)).mpr (by omega)) c11
            | cons x r => exact ⟨x, r, rfl⟩
          obtain ⟨g1, g2, g3, g4, g5⟩ := sfx_at hs hrs
          have g6 := hT.2 x g5
          subst hrs
          refine And.intro rfl ?_
          refine And.intro rfl ?_
          refine ⟨N, f, hrow, vp_in_nI (by omega) hN.2, ?_⟩
          rw [nI_clamp (by omega), hf _ g1, g2]
          refine And.intro (fun c18 => ?_) (fun c18 => ?_)
          · skip
            have c18 := (nI_ltI (a := x) (b := 48) (by omega) (by omega)).mp c18
            refine vx_go hC hFt hini (vx_ends hC hr hlk) jc_Rd_takeDigits 26 (by decide) rfl ?_
            refine And.intro (trivial) (And.intro ?_ (And.intro (Nat.le_refl _) (Nat.le_refl _)))
            rw [← hres]
            simp only [dgs, dg_no (x := x) (by omega)]
            exact And.intro rfl rfl
          · skip
            have c18 : ¬ (x < 48) := fun z => c18 ((nI_ltI (a := x) (b := 48) (by omega) (by omega)).mpr z)
            refine And.intro rfl ?_
            refine And.intro rfl ?_
            refine ⟨N, f, hrow, vp_in_nI (by omega) hN.2, ?_⟩
            rw [nI_clamp (by omega), hf _ g1, g2]
            refine And.intro (fun c25 => ?_) (fun c25 => ?_)
            · skip
              have c25 := (nI_leI (a := x) (b := 57) (by omega) (by omega)).mp c25
              refine vx_go hC hFt hini (vx_ends hC hr hlk) jc_Rd_takeDigits 28 (by decide) rfl ?_
              refine And.intro rfl ?_
              refine And.intro rfl ?_
              refine ⟨N, f, hrow, vp_in_nI (by omega) hN.2, ?_⟩
              rw [nI_clamp (by omega), hf _ g1, g2]
              refine And.intro rfl ?_
              refine And.intro rfl ?_
              refine And.intro rfl (And.intro (And.intro rfl rfl) ?_)
              refine Vx.subL (lv' := [(0, .ref h), (1, .int (nI mn)), (2, .int ((10 : Int32) * nI a + nI x - 48)), (3, .int (nI i + 1))]) [2, 3, 1, 0] rfl ?_
              refine Vx.eqs rfl (by rw [ten_add (by omega), nI_1]) rfl (rd_step g4) (ih k2 (by omega) r g3 (10 * a + x - 48) (i + 1) (by omega) ?_)
              rw [← hres]
              simp only [dgs, dg_yes (x := x) (by omega), if_true]
            · skip
              have c25 : ¬ (x ≤ 57) := fun z => c25 ((nI_leI (a := x) (b := 57) (by omega) (by omega)).mpr z)
              refine And.intro (trivial) (And.intro ?_ (And.intro (Nat.le_refl _) (Nat.le_refl _)))
              rw [← hres]
              simp only [dgs, dg_no (x := x) (by omega)]
              exact And.intro rfl rfl
/-- of a row of digits: the number; more than nine: 999999999 -/
def f9 (ds : List Nat) : Nat := (ds.take 9).foldl (fun a x => 10 * a + x - 48) 0
def nmv (ds : List Nat) : Option Nat := if ds = [] then none else if 9 < ds.length then some 999999999 else some (f9 ds)
theorem f9_lo {ds : List Nat} {x : Nat} (h : ds.length < 9) : f9 (ds ++ [x]) = 10 * f9 ds + x - 48 := by
  unfold f9
  rw [List.take_of_length_le (by simp; omega), List.take_of_length_le (by omega), List.foldl_append]
  rfl
theorem f9_hi {ds : List Nat} {x : Nat} (h : 9 ≤ ds.length) : f9 (ds ++ [x]) = f9 ds := by
  unfold f9
  rw [List.take_append_of_le_length h]
set_option maxRecDepth 100000 in
set_option maxHeartbeats 4000000 in
theorem c_Rd_takeNumber (l : Launch) (D : va_G) (tys : List (ClassId × FieldType)) (tc : Nat → ClassId) (hty : ∀ i : Nat, i < 4 → tys[i]? = some (tc i, vx_ty i)) (ci : Nat) (hci : ci < 5) (h ra sa : Nat) (ex : List Value) (T rs : List Nat) (sd : Nat → Int32) (ss : Nat) (hT : isT T) (hs : rs <:+ T) : Kt l y_Rd_takeNumber (yw y_Rd_takeNumber b_Rd_takeNumber 3 (some .int)) 1 20 0 0 D cls tys (rdF ra T) [.ref h] (rdW tc ci h ra sa ex T rs sd ss) (fun r w => r = some (.int (iI (nmv (rs.takeWhile isDg)))) ∧ w = rdW tc ci h ra sa ex T (rs.dropWhile isDg) sd ss) := by
  refine Kt.of (rdF_ro _ _) (by decide) rfl hty (Nat.le_of_ble_eq_true rfl) ?_
  intro p e s m args below meth c0 A hC hr hlk hnm hF
  have hFt : vx_Ft y_Rd_takeNumber.cls (yw y_Rd_takeNumber b_Rd_takeNumber 3 (some .int)) cls cty ft_Rd := ft_of (fun w h => List.mem_cons_of_mem _ h) fl_Rd_in ft_Rd_b
  have hini : false = true → meth.name = "<init>" := fun h => by cases h
  have hF0 := hF
  obtain ⟨N, f, hrow, hN, hf⟩ := hF
  have hTl := hT.1
  rcases (show ci = 0 ∨ ci = 1 ∨ ci = 2 ∨ ci = 3 ∨ ci = 4 by omega) with rfl | rfl | rfl | rfl | rfl
  all_goals
    refine vx_gon hC hFt hini (vx_ends hC hr hlk) jc_Rd_takeNumber 0 4 (by decide) rfl ?_
    generalize hRF : rs.dropWhile isDg = RF
    generalize hDF : rs.takeWhile isDg = DF
    refine Vx.subL (lv' := [(0, .ref h), (1, .int (nI 0)), (2, .int (nI 0))]) [2, 1, 0] rfl ?_
    obtain ⟨Dg, hD0⟩ : ∃ Dg : List Nat, Dg = [] := ⟨_, rfl⟩
    have hDl : Dg.length + rs.length ≤ 96 := by have := sfx_le hs; rw [hD0]; simp; omega
    refine Vx.eqs rfl (lv2 := [(0, .ref h), (1, .int (nI Dg.length)), (2, .int (nI (f9 Dg)))]) (by rw [hD0]; rfl) rfl rfl ?_
    replace hDF : Dg ++ rs.takeWhile isDg = DF := by rw [hD0]; exact hDF
    clear hD0
    induction hlen : rs.length using Nat.strongRecOn generalizing rs Dg with
    | _ n ih =>
      refine vx_go hC hFt hini (vx_ends hC hr hlk) jc_Rd_takeNumber 4 (by decide) rfl ?_
      refine And.intro rfl ?_
      refine And.intro rfl ?_
      refine And.intro (fun c8 => ?_) (fun c8 => ?_)
      · skip
        have hle := sfx_le hs
        have hnil : rs = [] := by
          have h2 := (nI_leI (a := T.length) (b := T.length - rs.length) (by omega) (by omega)).mp c8
          exact List.eq_nil_of_length_eq_zero (by omega)
        subst hnil
        have tw_e : ([] : List Nat).takeWhile isDg = [] := rfl
        have dw_e : [] = RF := hRF
        refine vx_go hC hFt hini (vx_ends hC hr hlk) jc_Rd_takeNumber 41 (by decide) rfl ?_
        refine And.intro (fun c42 => ?_) (fun c42 => ?_)
        · skip
          have c42 : ¬ Dg.length = 0 := fun z => c42 (by rw [z]; rfl)
          refine vx_go hC hFt hini (vx_ends hC hr hlk) jc_Rd_takeNumber 45 (by decide) rfl ?_
          refine And.intro (fun c47 => ?_) (fun c47 => ?_)
          · skip
            have c47 := (nI_leI (a := Dg.length) (b := 9) (by omega) (by omega)).mp c47
            refine vx_go hC hFt hini (vx_ends hC hr hlk) jc_Rd_takeNumber 50 (by decide) rfl ?_
            refine And.intro (trivial) (And.intro ?_ (And.intro (Nat.le_refl _) (Nat.le_refl _)))
            have e1 : DF = Dg := by rw [← hDF, tw_e, List.append_nil]
            rw [e1]
            refine And.intro ?_ (by rw [dw_e])
            rw [show nmv Dg = some (f9 Dg) by rw [nmv, if_neg (fun z => by rw [z] at c42; simp at c42), if_neg (by omega)]]
            rfl
          · skip
            have c47 : ¬ (Dg.length ≤ 9) := fun z => c47 ((nI_leI (a := Dg.length) (b := 9) (by omega) (by omega)).mpr z)
            refine And.intro (Or.inl ⟨_, rfl, hC.2.2.2.2.1 _ (List.mem_cons_of_mem _ wc_Rd_80)⟩) ?_
            refine vx_go hC hFt hini (vx_ends hC hr hlk) jc_Rd_takeNumber 51 (by decide) rfl ?_
            refine And.intro (trivial) (And.intro ?_ (And.intro (Nat.le_refl _) (Nat.le_refl _)))
            have e1 : DF = Dg := by rw [← hDF, tw_e, List.append_nil]
            rw [e1]
            refine And.intro ?_ (by rw [dw_e])
            rw [show nmv Dg = some 999999999 by rw [nmv, if_neg (fun z => by rw [z] at c42; simp at c42), if_pos (by omega)]]
            rfl
        · skip
          have c42 : Dg.length = 0 := (nI_eq (a := Dg.length) (b := 0) (by omega) (by omega)).mp c42
          refine And.intro (trivial) (And.intro ?_ (And.intro (Nat.le_refl _) (Nat.le_refl _)))
          rw [show DF = [] by rw [← hDF, tw_e, List.append_nil]; exact List.eq_nil_of_length_eq_zero (by omega)]
          exact And.intro rfl (by rw [dw_e])
      · skip
        have hle := sfx_le hs
        obtain ⟨x, r, hrs⟩ : ∃ x r, rs = x :: r := by
          cases hrs : rs with
          | nil => subst hrs; exact absurd ((nI_leI (a := T.length) (b := T.length - 0) (by omega) (by omega)).mpr (by omega)) c8
          | cons x r => exact ⟨x, r, rfl⟩
        obtain ⟨g1, g2, g3, g4, g5⟩ := sfx_at hs hrs
        have g6 := hT.2 x g5
        subst hrs
        refine And.intro rfl ?_
        refine And.intro rfl ?_
        refine ⟨N, f, hrow, vp_in_nI (by omega) hN.2, ?_⟩
        rw [nI_clamp (by omega), hf _ g1, g2]
        refine rd_calls hC (c_Rd_isDigit l D tys tc hty x (by omega)) wm_Rd_isDigit wl_Rd_77 wt_Rd_isDigit ⟨by decide, by decide⟩ rfl rfl (by decide) ⟨Nat.zero_le _, Nat.zero_le _⟩ (fun r' hp => ?_)
        subst hp
        refine And.intro (fun c15 => ?_) (fun c15 => ?_)
        · skip
          have c15 := bI_eq c15
          have tw_e := tw_f (r := r) c15
          have dw_e := (dw_f (r := r) c15).symm.trans hRF
          refine vx_go hC hFt hini (vx_ends hC hr hlk) jc_Rd_takeNumber 41 (by decide) rfl ?_
          refine And.intro (fun c42 => ?_) (fun c42 => ?_)
          · skip
            have c42 : ¬ Dg.length = 0 := fun z => c42 (by rw [z]; rfl)
            refine vx_go hC hFt hini (vx_ends hC hr hlk) jc_Rd_takeNumber 45 (by decide) rfl ?_
            refine And.intro (fun c47 => ?_) (fun c47 => ?_)
            · skip
              have c47 := (nI_leI (a := Dg.length) (b := 9) (by omega) (by omega)).mp c47
              refine vx_go hC hFt hini (vx_ends hC hr hlk) jc_Rd_takeNumber 50 (by decide) rfl ?_
              refine And.intro (trivial) (And.intro ?_ (And.intro (Nat.le_refl _) (Nat.le_refl _)))
              have e1 : DF = Dg := by rw [← hDF, tw_e, List.append_nil]
              rw [e1]
              refine And.intro ?_ (by rw [dw_e])
              rw [show nmv Dg = some (f9 Dg) by rw [nmv, if_neg (fun z => by rw [z] at c42; simp at c42), if_neg (by omega)]]
              rfl
            · skip
              have c47 : ¬ (Dg.length ≤ 9) := fun z => c47 ((nI_leI (a := Dg.length) (b := 9) (by omega) (by omega)).mpr z)
              refine And.intro (Or.inl ⟨_, rfl, hC.2.2.2.2.1 _ (List.mem_cons_of_mem _ wc_Rd_80)⟩) ?_
              refine vx_go hC hFt hini (vx_ends hC hr hlk) jc_Rd_takeNumber 51 (by decide) rfl ?_
              refine And.intro (trivial) (And.intro ?_ (And.intro (Nat.le_refl _) (Nat.le_refl _)))
              have e1 : DF = Dg := by rw [← hDF, tw_e, List.append_nil]
              rw [e1]
              refine And.intro ?_ (by rw [dw_e])
              rw [show nmv Dg = some 999999999 by rw [nmv, if_neg (fun z => by rw [z] at c42; simp at c42), if_pos (by omega)]]
              rfl
          · skip
            have c42 : Dg.length = 0 := (nI_eq (a := Dg.length) (b := 0) (by omega) (by omega)).mp c42
            refine And.intro (trivial) (And.intro ?_ (And.intro (Nat.le_refl _) (Nat.le_refl _)))
            rw [show DF = [] by rw [← hDF, tw_e, List.append_nil]; exact List.eq_nil_of_length_eq_zero (by omega)]
            exact And.intro rfl (by rw [dw_e])
        · skip
          have c15 : isDg x = true := bI_ne c15
          have hdg := dg_in c15
          refine And.intro (fun c18 => ?_) (fun c18 => ?_)
          · skip
            have c18 := (nI_leI (a := 9) (b := Dg.length) (by omega) (by omega)).mp c18
            refine vx_go hC hFt hini (vx_ends hC hr hlk) jc_Rd_takeNumber 31 (by decide) rfl ?_
            refine And.intro rfl ?_
            refine And.intro rfl ?_
            refine And.intro rfl (And.intro (And.intro rfl rfl) ?_)
            refine Vx.subL (lv' := [(0, .ref h), (1, .int (nI Dg.length + 1)), (2, .int (nI (f9 Dg)))]) [2, 0, 1] rfl ?_
            refine Vx.eqs rfl ?_ rfl (rd_step g4) (ih r.length (by simp at hlen; omega) r g3 (by rw [← hRF, dw_t c15]) (Dg ++ [x]) (by simp at hDl ⊢; omega) (by rw [← hDF, tw_t c15]; simp) rfl)
            rw [show (Dg ++ [x]).length = Dg.length + 1 by simp]
            rw [f9_hi (by omega), nI_1]
          · skip
            have c18 : ¬ (9 ≤ Dg.length) := fun z => c18 ((nI_leI (a := 9) (b := Dg.length) (by omega) (by omega)).mpr z)
            refine And.intro rfl ?_
            refine And.intro rfl ?_
            refine ⟨N, f, hrow, vp_in_nI (by omega) hN.2, ?_⟩
            rw [nI_clamp (by omega), hf _ g1, g2]
            refine vx_go hC hFt hini (vx_ends hC hr hlk) jc_Rd_takeNumber 32 (by decide) rfl ?_
            refine And.intro rfl ?_
            refine And.intro rfl ?_
            refine And.intro rfl (And.intro (And.intro rfl rfl) ?_)
            refine Vx.subL (lv' := [(0, .ref h), (1, .int (nI Dg.length + 1)), (2, .int ((10 : Int32) * nI (f9 Dg) + nI x - 48))]) [2, 0, 1] rfl ?_
            refine Vx.eqs rfl ?_ rfl (rd_step g4) (ih r.length (by simp at hlen; omega) r g3 (by rw [← hRF, dw_t c15]) (Dg ++ [x]) (by simp at hDl ⊢; omega) (by rw [← hDF, tw_t c15]; simp) rfl)
            rw [show (Dg ++ [x]).length = Dg.length + 1 by simp]
            rw [f9_lo (by omega), nI_1, ten_add (by omega)]
end
section
/-! THE READER: weights, languages, quoted texts, by program (wip/whole/gen/p14.py) -/
theorem bI_t : ¬ bI true = 0 := by decide
def wls : Nat → Nat → List Nat → Nat × List Nat
  | _, th, [] => (th, [])
  | s, th, x :: r => if 0 < s ∧ isDg x = true then wls (s / 10) (th + s * (x - 48)) r else (th, x :: r)
/-- what may follow the first digit of a weight -/
def wt2 (th : Nat) (rs : List Nat) : Option Nat × List Nat := match pk 46 rs with
  | (false, r) => (some th, r)
  | (true, r) => (if 1000 < (wls 100 th r).1 then none else some (wls 100 th r).1, (wls 100 th r).2)
/-- a weight from its = on -/
def wt (rs : List Nat) : Option Nat × List Nat := match pk 61 rs with
  | (false, r) => (none, r)
  | (true, r) => match pk 49 r with
    | (true, r) => wt2 1000 r
    | (false, r) => match pk 48 r with
      | (false, r) => (none, r)
      | (true, r) => wt2 0 r
theorem wls_no {s th x : Nat} {r : List Nat} (h : ¬ (0 < s ∧ isDg x = true)) : wls s th (x :: r) = (th, x :: r) := by rw [wls, if_neg h]
theorem wls_0 {th : Nat} (rs : List Nat) : wls 0 th rs = (th, rs) := by cases rs with
  | nil => rfl
  | cons x r => exact wls_no (by simp)
theorem wls_go {s th x : Nat} {r : List Nat} (h : 0 < s) (h2 : isDg x = true) : wls s th (x :: r) = wls (s / 10) (th + s * (x - 48)) r := by rw [wls, if_pos ⟨h, h2⟩]
theorem wt_add {s th x : Nat} (h : 48 ≤ x) : nI th + nI s * (nI x - (48 : Int32)) = nI (th + s * (x - 48)) := by
  rw [show (48 : Int32) = nI 48 from rfl, pk_sub h, pk_mul, nI_add]
theorem div10 {s : Nat} (h : s < 2 ^ 31) : nI s / (10 : Int32) = nI (s / 10) := pk_div h (by decide) (by decide)
set_option maxRecDepth 100000 in
set_option maxHeartbeats 4000000 in
theorem c_Rd_takeWeight (l : Launch) (D : va_G) (tys : List (ClassId × FieldType)) (tc : Nat → ClassId) (hty : ∀ i : Nat, i < 4 → tys[i]? = some (tc i, vx_ty i)) (ci : Nat) (hci : ci < 5) (h ra sa : Nat) (ex : List Value) (T rs : List Nat) (sd : Nat → Int32) (ss : Nat) (hT : isT T) (hs : rs <:+ T) : Kt l y_Rd_takeWeight (yw y_Rd_takeWeight b_Rd_takeWeight 4 (some .int)) 1 21 0 0 D cls tys (rdF ra T) [.ref h] (rdW tc ci h ra sa ex T rs sd ss) (fun r w => r = some (.int (iI (wt rs).1)) ∧ w = rdW tc ci h ra sa ex T (wt rs).2 sd ss) := by
  refine Kt.of (rdF_ro _ _) (by decide) rfl hty (Nat.le_of_ble_eq_true rfl) ?_
  intro p e s m args below meth c0 A hC hr hlk hnm hF
  have hFt : vx_Ft y_Rd_takeWeight.cls (yw y_Rd_takeWeight b_Rd_takeWeight 4 (some .int)) cls cty ft_Rd := ft_of (fun w h => List.mem_cons_of_mem _ h) fl_Rd_in ft_Rd_b
  have hini : false = true → meth.name = "<init>" := fun h => by cases h
  have hF0 := hF
  obtain ⟨N, f, hrow, hN, hf⟩ := hF
  have hTl := hT.1
  rcases (show ci = 0 ∨ ci = 1 ∨ ci = 2 ∨ ci = 3 ∨ ci = 4 by omega) with rfl | rfl | rfl | rfl | rfl
  all_goals
    refine vx_gon hC hFt hini (vx_ends hC hr hlk) jc_Rd_takeWeight 0 32 (by decide) rfl ?_
    refine rd_call hC hF0 (c_Rd_take l D tys tc hty _ hci h ra sa ex T rs sd ss 61 hT hs (by decide)) wm_Rd_take wl_Rd_41 wi_Rd_take (hC.2.2.2.2.1 _ (List.mem_cons_of_mem _ (sel_take _ hci))) hci ⟨by decide, by decide⟩ rfl rfl (by decide) ⟨Nat.zero_le _, Nat.zero_le _⟩ (fun r1 w1 hp => ?_)
    obtain ⟨rfl, rfl⟩ := hp
    have hs1 := pk_sfx (c := 61) hs
    generalize hpk1 : pk 61 rs = q at hs1 ⊢
    obtain ⟨b1, t1⟩ := q
    dsimp only at hs1 ⊢
    refine And.intro (fun c3 => ?_) (fun c3 => ?_)
    · skip
      obtain rfl : b1 = true := bI_ne c3
      refine vx_gon hC hFt hini (vx_ends hC hr hlk) jc_Rd_takeWeight 6 26 (by decide) rfl ?_
      refine rd_call hC hF0 (c_Rd_take l D tys tc hty _ hci h ra sa ex T t1 sd ss 49 hT hs1 (by decide)) wm_Rd_take wl_Rd_41 wi_Rd_take (hC.2.2.2.2.1 _ (List.mem_cons_of_mem _ (sel_take _ hci))) hci ⟨by decide, by decide⟩ rfl rfl (by decide) ⟨Nat.zero_le _, Nat.zero_le _⟩ (fun r2 w1 hp => ?_)
      obtain ⟨rfl, rfl⟩ := hp
      have hs2 := pk_sfx (c := 49) hs1
      generalize hpk2 : pk 49 t1 = q at hs2 ⊢
      obtain ⟨b2, t2⟩ := q
      dsimp only at hs2 ⊢
      refine And.intro (fun c11 => ?_) (fun c11 => ?_)
      · skip
        obtain rfl : b2 = true := bI_ne c11
        refine vx_gon hC hFt hini (vx_ends hC hr hlk) jc_Rd_takeWeight 18 14 (by decide) rfl ?_
        refine And.intro (fun c19 => ?_) (fun c19 => ?_)
        · skip
          exact absurd c19 bI_t
        · skip
          refine vx_gon hC hFt hini (vx_ends hC hr hlk) jc_Rd_takeWeight 23 9 (by decide) rfl ?_
          refine rd_call hC hF0 (c_Rd_take l D tys tc hty _ hci h ra sa ex T t2 sd ss 46 hT hs2 (by decide)) wm_Rd_take wl_Rd_41 wi_Rd_take (hC.2.2.2.2.1 _ (List.mem_cons_of_mem _ (sel_take _ hci))) hci ⟨by decide, by decide⟩ rfl rfl (by decide) ⟨Nat.zero_le _, Nat.zero_le _⟩ (fun r4 w1 hp => ?_)
          obtain ⟨rfl, rfl⟩ := hp
          have hs4 := pk_sfx (c := 46) hs2
          generalize hpk4 : pk 46 t2 = q at hs4 ⊢
          obtain ⟨b4, t4⟩ := q
          dsimp only at hs4 ⊢
          refine And.intro (fun c27 => ?_) (fun c27 => ?_)
          · skip
            obtain rfl : b4 = true := bI_ne c27
            refine vx_gon hC hFt hini (vx_ends hC hr hlk) jc_Rd_takeWeight 30 2 (by decide) rfl ?_
            have hspec : wt rs = (if 1000 < (wls 100 1000 t4).1 then none else some (wls 100 1000 t4).1, (wls 100 1000 t4).2) := by simp only [wt, wt2, hpk1, hpk2, hpk4]
            rw [hspec]
            clear hspec
            have hq2 := sfx_le hs4
            generalize hres : wls 100 1000 t4 = RES
            obtain ⟨th, hth⟩ : ∃ th : Nat, th = 1000 := ⟨_, rfl⟩
            obtain ⟨sl, hsl⟩ : ∃ sl : Nat, sl = 100 := ⟨_, rfl⟩
            have hbd : th + 10 * sl ≤ 2000 := by omega
            refine Vx.subL (lv' := [(0, .ref h), (1, .int (bI true)), (2, .int (nI 1000)), (3, .int (nI 100))]) [3, 2, 1, 0] rfl ?_
            refine Vx.eqs rfl (lv2 := [(0, .ref h), (1, .int (bI true)), (2, .int (nI th)), (3, .int (nI sl))]) (by rw [hth, hsl]) rfl rfl ?_
            replace hres : wls sl th t4 = RES := by rw [hth, hsl]; exact hres
            clear hth hsl hpk4 hq2 c27
            induction hlen : t4.length using Nat.strongRecOn generalizing t4 th sl with
            | _ n ih =>
              refine vx_go hC hFt hini (vx_ends hC hr hlk) jc_Rd_takeWeight 32 (by decide) rfl ?_
              refine And.intro (fun c33 => ?_) (fun c33 => ?_)
              · skip
                have c33 : sl = 0 := by
                  have := (nI_leI (a := sl) (b := 0) (by omega) (by omega)).mp c33
                  omega
                subst c33
                refine vx_go hC hFt hini (vx_ends hC hr hlk) jc_Rd_takeWeight 69 (by decide) rfl ?_
                refine And.intro (fun c71 => ?_) (fun c71 => ?_)
                · skip
                  have c71 := (nI_leI (a := th) (b := 1000) (by omega) (by omega)).mp c71
                  refine vx_go hC hFt hini (vx_ends hC hr hlk) jc_Rd_takeWeight 74 (by decide) rfl ?_
                  refine And.intro (trivial) (And.intro ?_ (And.intro (Nat.le_refl _) (Nat.le_refl _)))
                  rw [← hres, wls_0]
                  rw [if_neg (by omega)]
                  first | exact And.intro rfl rfl | exact And.intro rfl trivial
                · skip
                  have c71 : ¬ (th ≤ 1000) := fun z => c71 ((nI_leI (a := th) (b := 1000) (by omega) (by omega)).mpr z)
                  refine vx_go hC hFt hini (vx_ends hC hr hlk) jc_Rd_takeWeight 75 (by decide) rfl ?_
                  refine And.intro (trivial) (And.intro ?_ (And.intro (Nat.le_refl _) (Nat.le_refl _)))
                  rw [← hres, wls_0]
                  rw [if_pos (by omega)]
                  first | exact And.intro rfl rfl | exact And.intro rfl trivial
              · skip
                have c33 : 0 < sl := Nat.pos_of_ne_zero (fun z => c33 (by rw [z]; exact nI_le (Nat.le_refl 0) (by decide)))
                refine And.intro rfl ?_
                refine And.intro rfl ?_
                refine And.intro (fun c38 => ?_) (fun c38 => ?_)
                · skip
                  have hle := sfx_le hs4
                  have hnil : t4 = [] := by
                    have h2 := (nI_leI (a := T.length) (b := T.length - t4.length) (by omega) (by omega)).mp c38
                    exact List.eq_nil_of_length_eq_zero (by omega)
                  subst hnil
                  refine vx_go hC hFt hini (vx_ends hC hr hlk) jc_Rd_takeWeight 69 (by decide) rfl ?_
                  refine And.intro (fun c71 => ?_) (fun c71 => ?_)
                  · skip
                    have c71 := (nI_leI (a := th) (b := 1000) (by omega) (by omega)).mp c71
                    refine vx_go hC hFt hini (vx_ends hC hr hlk) jc_Rd_takeWeight 74 (by decide) rfl ?_
                    refine And.intro (trivial) (And.intro ?_ (And.intro (Nat.le_refl _) (Nat.le_refl _)))
                    rw [← hres, show wls sl th [] = (th, []) from rfl]
                    rw [if_neg (by omega)]
                    first | exact And.intro rfl rfl | exact And.intro rfl trivial
                  · skip
                    have c71 : ¬ (th ≤ 1000) := fun z => c71 ((nI_leI (a := th) (b := 1000) (by omega) (by omega)).mpr z)
                    refine vx_go hC hFt hini (vx_ends hC hr hlk) jc_Rd_takeWeight 75 (by decide) rfl ?_
                    refine And.intro (trivial) (And.intro ?_ (And.intro (Nat.le_refl _) (Nat.le_refl _)))
                    rw [← hres, show wls sl th [] = (th, []) from rfl]
                    rw [if_pos (by omega)]
                    first | exact And.intro rfl rfl | exact And.intro rfl trivial
                · skip
                  have hle := sfx_le hs4
                  obtain ⟨x, r, hrs⟩ : ∃ x r, t4 = x :: r := by
                    cases hrs : t4 with
                    | nil => subst hrs; exact absurd ((nI_leI (a := T.length) (b := T.length - 0) (by omega) (by omega)).mpr (by omega)) c38
                    | cons x r => exact ⟨x, r, rfl⟩
                  obtain ⟨g1, g2, g3, g4, g5⟩ := sfx_at hs4 hrs
                  have g6 := hT.2 x g5
                  subst hrs
                  refine And.intro rfl ?_
                  refine And.intro rfl ?_
                  refine ⟨N, f, hrow, vp_in_nI (by omega) hN.2, ?_⟩
                  rw [nI_clamp (by omega), hf _ g1, g2]
                  refine rd_calls hC (c_Rd_isDigit l D tys tc hty x (by omega)) wm_Rd_isDigit wl_Rd_77 wt_Rd_isDigit ⟨by decide, by decide⟩ rfl rfl (by decide) ⟨Nat.zero_le _, Nat.zero_le _⟩ (fun r' hp => ?_)
                  subst hp
                  refine And.intro (fun c45 => ?_) (fun c45 => ?_)
                  · skip
                    have c45 := bI_eq c45
                    refine vx_go hC hFt hini (vx_ends hC hr hlk) jc_Rd_takeWeight 69 (by decide) rfl ?_
                    refine And.intro (fun c71 => ?_) (fun c71 => ?_)
                    · skip
                      have c71 := (nI_leI (a := th) (b := 1000) (by omega) (by omega)).mp c71
                      refine vx_go hC hFt hini (vx_ends hC hr hlk) jc_Rd_takeWeight 74 (by decide) rfl ?_
                      refine And.intro (trivial) (And.intro ?_ (And.intro (Nat.le_refl _) (Nat.le_refl _)))
                      rw [← hres, wls_no (by simp [c45])]
                      rw [if_neg (by omega)]
                      first | exact And.intro rfl rfl | exact And.intro rfl trivial
                    · skip
                      have c71 : ¬ (th ≤ 1000) := fun z => c71 ((nI_leI (a := th) (b := 1000) (by omega) (by omega)).mpr z)
                      refine vx_go hC hFt hini (vx_ends hC hr hlk) jc_Rd_takeWeight 75 (by decide) rfl ?_
                      refine And.intro (trivial) (And.intro ?_ (And.intro (Nat.le_refl _) (Nat.le_refl _)))
                      rw [← hres, wls_no (by simp [c45])]
                      rw [if_pos (by omega)]
                      first | exact And.intro rfl rfl | exact And.intro rfl trivial
                  · skip
                    have c45 : isDg x = true := bI_ne c45
                    have hdg := dg_in c45
                    refine And.intro rfl ?_
                    refine And.intro rfl ?_
                    refine ⟨N, f, hrow, vp_in_nI (by omega) hN.2, ?_⟩
                    rw [nI_clamp (by omega), hf _ g1, g2]
                    refine And.intro rfl ?_
                    refine And.intro rfl ?_
                    refine And.intro rfl (And.intro (And.intro rfl rfl) ?_)
                    refine And.intro (by decide) ?_
                    refine Vx.subL (lv' := [(0, .ref h), (1, .int (bI true)), (2, .int (nI th + nI sl * (nI x - (48 : Int32)))), (3, .int (nI sl / (10 : Int32)))]) [2, 3, 1, 0] rfl ?_
                    refine Vx.eqs rfl (by rw [wt_add (by omega), div10 (by omega)]) rfl (rd_step g4) (ih r.length (by simp at hlen; omega) r g3 (th + sl * (x - 48)) (sl / 10) ?_ ?_ rfl)
                    · have h1 : sl * (x - 48) ≤ sl * 9 := Nat.mul_le_mul_left _ (by omega)
                      omega
                    · rw [← hres, wls_go c33 c45]
          · skip
            obtain rfl : b4 = false := bI_eq c27
            refine And.intro (trivial) (And.intro ?_ (And.intro (Nat.le_refl _) (Nat.le_refl _)))
            simp only [wt, wt2, hpk1, hpk2, hpk4]
            first | exact And.intro rfl rfl | exact And.intro rfl trivial
      · skip
        obtain rfl : b2 = false := bI_eq c11
        refine rd_call hC hF0 (c_Rd_take l D tys tc hty _ hci h ra sa ex T t2 sd ss 48 hT hs2 (by decide)) wm_Rd_take wl_Rd_41 wi_Rd_take (hC.2.2.2.2.1 _ (List.mem_cons_of_mem _ (sel_take _ hci))) hci ⟨by decide, by decide⟩ rfl rfl (by decide) ⟨Nat.zero_le _, Nat.zero_le _⟩ (fun r3 w1 hp => ?_)
        obtain ⟨rfl, rfl⟩ := hp
        have hs3 := pk_sfx (c := 48) hs2
        generalize hpk3 : pk 48 t2 = q at hs3 ⊢
        obtain ⟨b3, t3⟩ := q
        dsimp only at hs3 ⊢
        refine And.intro (fun c15 => ?_) (fun c15 => ?_)
        · skip
          obtain rfl : b3 = true := bI_ne c15
          refine vx_gon hC hFt hini (vx_ends hC hr hlk) jc_Rd_takeWeight 18 14 (by decide) rfl ?_
          refine And.intro (fun c19 => ?_) (fun c19 => ?_)
          · skip
            refine vx_gon hC hFt hini (vx_ends hC hr hlk) jc_Rd_takeWeight 22 10 (by decide) rfl ?_
            refine rd_call hC hF0 (c_Rd_take l D tys tc hty _ hci h ra sa ex T t3 sd ss 46 hT hs3 (by decide)) wm_Rd_take wl_Rd_41 wi_Rd_take (hC.2.2.2.2.1 _ (List.mem_cons_of_mem _ (sel_take _ hci))) hci ⟨by decide, by decide⟩ rfl rfl (by decide) ⟨Nat.zero_le _, Nat.zero_le _⟩ (fun r4 w1 hp => ?_)
            obtain ⟨rfl, rfl⟩ := hp
            have hs4 := pk_sfx (c := 46) hs3
            generalize hpk4 : pk 46 t3 = q at hs4 ⊢
            obtain ⟨b4, t4⟩ := q
            dsimp only at hs4 ⊢
            refine And.intro (fun c27 => ?_) (fun c27 => ?_)
            · skip
              obtain rfl : b4 = true := bI_ne c27
              refine vx_gon hC hFt hini (vx_ends hC hr hlk) jc_Rd_takeWeight 30 2 (by decide) rfl ?_
              have hspec : wt rs = (if 1000 < (wls 100 0 t4).1 then none else some (wls 100 0 t4).1, (wls 100 0 t4).2) := by simp only [wt, wt2, hpk1, hpk2, hpk3, hpk4]
              rw [hspec]
              clear hspec
              have hq2 := sfx_le hs4
              generalize hres : wls 100 0 t4 = RES
              obtain ⟨th, hth⟩ : ∃ th : Nat, th = 0 := ⟨_, rfl⟩
              obtain ⟨sl, hsl⟩ : ∃ sl : Nat, sl = 100 := ⟨_, rfl⟩
              have hbd : th + 10 * sl ≤ 2000 := by omega
              refine Vx.subL (lv' := [(0, .ref h), (1, .int (bI false)), (2, .int (nI 0)), (3, .int (nI 100))]) [3, 2, 1, 0] rfl ?_
              refine Vx.eqs rfl (lv2 := [(0, .ref h), (1, .int (bI false)), (2, .int (nI th)), (3, .int (nI sl))]) (by rw [hth, hsl]) rfl rfl ?_
              replace hres : wls sl th t4 = RES := by rw [hth, hsl]; exact hres
              clear hth hsl hpk4 hq2 c27
              induction hlen : t4.length using Nat.strongRecOn generalizing t4 th sl with
              | _ n ih =>
                refine vx_go hC hFt hini (vx_ends hC hr hlk) jc_Rd_takeWeight 32 (by decide) rfl ?_
                refine And.intro (fun c33 => ?_) (fun c33 => ?_)
                · skip
                  have c33 : sl = 0 := by
                    have := (nI_leI (a := sl) (b := 0) (by omega) (by omega)).mp c33
                    omega
                  subst c33
                  refine vx_go hC hFt hini (vx_ends hC hr hlk) jc_Rd_takeWeight 69 (by decide) rfl ?_
                  refine And.intro (fun c71 => ?_) (fun c71 => ?_)
                  · skip
                    have c71 := (nI_leI (a := th) (b := 1000) (by omega) (by omega)).mp c71
                    refine vx_go hC hFt hini (vx_ends hC hr hlk) jc_Rd_takeWeight 74 (by decide) rfl ?_
                    refine And.intro (trivial) (And.intro ?_ (And.intro (Nat.le_refl _) (Nat.le_refl _)))
                    rw [← hres, wls_0]
                    rw [if_neg (by omega)]
                    first | exact And.intro rfl rfl | exact And.intro rfl trivial
                  · skip
                    have c71 : ¬ (th ≤ 1000) := fun z => c71 ((nI_leI (a := th) (b := 1000) (by omega) (by omega)).mpr z)
                    refine vx_go hC hFt hini (vx_ends hC hr hlk) jc_Rd_takeWeight 75 (by decide) rfl ?_
                    refine And.intro (trivial) (And.intro ?_ (And.intro (Nat.le_refl _) (Nat.le_refl _)))
                    rw [← hres, wls_0]
                    rw [if_pos (by omega)]
                    first | exact And.intro rfl rfl | exact And.intro rfl trivial
                · skip
                  have c33 : 0 < sl := Nat.pos_of_ne_zero (fun z => c33 (by rw [z]; exact nI_le (Nat.le_refl 0) (by decide)))
                  refine And.intro rfl ?_
                  refine And.intro rfl ?_
                  refine And.intro (fun c38 => ?_) (fun c38 => ?_)
                  · skip
                    have hle := sfx_le hs4
                    have hnil : t4 = [] := by
                      have h2 := (nI_leI (a := T.length) (b := T.length - t4.length) (by omega) (by omega)).mp c38
                      exact List.eq_nil_of_length_eq_zero (by omega)
                    subst hnil
                    refine vx_go hC hFt hini (vx_ends hC hr hlk) jc_Rd_takeWeight 69 (by decide) rfl ?_
                    refine And.intro (fun c71 => ?_) (fun c71 => ?_)
                    · skip
                      have c71 := (nI_leI (a := th) (b := 1000) (by omega) (by omega)).mp c71
                      refine vx_go hC hFt hini (vx_ends hC hr hlk) jc_Rd_takeWeight 74 (by decide) rfl ?_
                      refine And.intro (trivial) (And.intro ?_ (And.intro (Nat.le_refl _) (Nat.le_refl _)))
                      rw [← hres, show wls sl th [] = (th, []) from rfl]
                      rw [if_neg (by omega)]
                      first | exact And.intro rfl rfl | exact And.intro rfl trivial
                    · skip
                      have c71 : ¬ (th ≤ 1000) := fun z => c71 ((nI_leI (a := th) (b := 1000) (by omega) (by omega)).mpr z)
                      refine vx_go hC hFt hini (vx_ends hC hr hlk) jc_Rd_takeWeight 75 (by decide) rfl ?_
                      refine And.intro (trivial) (And.intro ?_ (And.intro (Nat.le_refl _) (Nat.le_refl _)))
                      rw [← hres, show wls sl th [] = (th, []) from rfl]
                      rw [if_pos (by omega)]
                      first | exact And.intro rfl rfl | exact And.intro rfl trivial
                  · skip
                    have hle := sfx_le hs4
                    obtain ⟨x, r, hrs⟩ : ∃ x r, t4 = x :: r := by
                      cases hrs : t4 with
                      | nil => subst hrs; exact absurd ((nI_leI (a := T.length) (b := T.length - 0) (by omega) (by omega)).mpr (by omega)) c38
                      | cons x r => exact ⟨x, r, rfl⟩
                    obtain ⟨g1, g2, g3, g4, g5⟩ := sfx_at hs4 hrs
                    have g6 := hT.2 x g5
                    subst hrs
                    refine And.intro rfl ?_
                    refine And.intro rfl ?_
                    refine ⟨N, f, hrow, vp_in_nI (by omega) hN.2, ?_⟩
                    rw [nI_clamp (by omega), hf _ g1, g2]
                    refine rd_calls hC (c_Rd_isDigit l D tys tc hty x (by omega)) wm_Rd_isDigit wl_Rd_77 wt_Rd_isDigit ⟨by decide, by decide⟩ rfl rfl (by decide) ⟨Nat.zero_le _, Nat.zero_le _⟩ (fun r' hp => ?_)
                    subst hp
                    refine And.intro (fun c45 => ?_) (fun c45 => ?_)
                    · skip
                      have c45 := bI_eq c45
                      refine vx_go hC hFt hini (vx_ends hC hr hlk) jc_Rd_takeWeight 69 (by decide) rfl ?_
                      refine And.intro (fun c71 => ?_) (fun c71 => ?_)
                      · skip
                        have c71 := (nI_leI (a := th) (b := 1000) (by omega) (by omega)).mp c71
                        refine vx_go hC hFt hini (vx_ends hC hr hlk) jc_Rd_takeWeight 74 (by decide) rfl ?_
                        refine And.intro (trivial) (And.intro ?_ (And.intro (Nat.le_refl _) (Nat.le_refl _)))
                        rw [← hres, wls_no (by simp [c45])]
                        rw [if_neg (by omega)]
                        first | exact And.intro rfl rfl | exact And.intro rfl trivial
                      · skip
                        have c71 : ¬ (th ≤ 1000) := fun z => c71 ((nI_leI (a := th) (b := 1000) (by omega) (by omega)).mpr z)
                        refine vx_go hC hFt hini (vx_ends hC hr hlk) jc_Rd_takeWeight 75 (by decide) rfl ?_
                        refine And.intro (trivial) (And.intro ?_ (And.intro (Nat.le_refl _) (Nat.le_refl _)))
                        rw [← hres, wls_no (by simp [c45])]
                        rw [if_pos (by omega)]
                        first | exact And.intro rfl rfl | exact And.intro rfl trivial
                    · skip
                      have c45 : isDg x = true := bI_ne c45
                      have hdg := dg_in c45
                      refine And.intro rfl ?_
                      refine And.intro rfl ?_
                      refine ⟨N, f, hrow, vp_in_nI (by omega) hN.2, ?_⟩
                      rw [nI_clamp (by omega), hf _ g1, g2]
                      refine And.intro rfl ?_
                      refine And.intro rfl ?_
                      refine And.intro rfl (And.intro (And.intro rfl rfl) ?_)
                      refine And.intro (by decide) ?_
                      refine Vx.subL (lv' := [(0, .ref h), (1, .int (bI false)), (2, .int (nI th + nI sl * (nI x - (48 : Int32)))), (3, .int (nI sl / (10 : Int32)))]) [2, 3, 1, 0] rfl ?_
                      refine Vx.eqs rfl (by rw [wt_add (by omega), div10 (by omega)]) rfl (rd_step g4) (ih r.length (by simp at hlen; omega) r g3 (th + sl * (x - 48)) (sl / 10) ?_ ?_ rfl)
                      · have h1 : sl * (x - 48) ≤ sl * 9 := Nat.mul_le_mul_left _ (by omega)
                        omega
                      · rw [← hres, wls_go c33 c45]
            · skip
              obtain rfl : b4 = false := bI_eq c27
              refine And.intro (trivial) (And.intro ?_ (And.intro (Nat.le_refl _) (Nat.le_refl _)))
              simp only [wt, wt2, hpk1, hpk2, hpk3, hpk4]
              first | exact And.intro rfl rfl | exact And.intro rfl trivial
          · skip
            exact absurd rfl c19
        · skip
          obtain rfl : b3 = false := bI_eq c15
          refine And.intro (trivial) (And.intro ?_ (And.intro (Nat.le_refl _) (Nat.le_refl _)))
          simp only [wt, hpk1, hpk2, hpk3]
          first | exact And.intro rfl rfl | exact And.intro rfl trivial
    · skip
      obtain rfl : b1 = false := bI_eq c3
      refine And.intro (trivial) (And.intro ?_ (And.intro (Nat.le_refl _) (Nat.le_refl _)))
      simp only [wt, hpk1]
      first | exact And.intro rfl rfl | exact And.intro rfl trivial
set_option maxRecDepth 100000 in
set_option maxHeartbeats 4000000 in
theorem c_Rd_saysStar (l : Launch) (D : va_G) (tys : List (ClassId × FieldType)) (tc : Nat → ClassId) (hty : ∀ i : Nat, i < 4 → tys[i]? = some (tc i, vx_ty i)) (ci : Nat) (hci : ci < 5) (h ra sa : Nat) (ex : List Value) (T rs : List Nat) (sd : Nat → Int32) (ss : Nat) (hT : isT T) (hs : rs <:+ T) (S : List Nat) (hsd : sdIs sd S) (hss : ss = S.length) (hS : S.length ≤ 96) (hS2 : ∀ i, i < S.length → S.getD i 0 < 2 ^ 31) : Kt l y_Rd_saysStar (yw y_Rd_saysStar b_Rd_saysStar 2 (some .boolean)) 0 0 0 0 D cls tys (rdF ra T) [.ref h] (rdW tc ci h ra sa ex T rs sd ss) (fun r w => r = some (.int (bI (ss_star S))) ∧ w = (rdW tc ci h ra sa ex T rs sd ss)) := by
  refine Kt.of (rdF_ro _ _) (by decide) rfl hty (Nat.le_of_ble_eq_true rfl) ?_
  intro p e s m args below meth c0 A hC hr hlk hnm hF
  have hFt : vx_Ft y_Rd_saysStar.cls (yw y_Rd_saysStar b_Rd_saysStar 2 (some .boolean)) cls cty ft_Rd := ft_of (fun w h => List.mem_cons_of_mem _ h) fl_Rd_in ft_Rd_b
  have hini : false = true → meth.name = "<init>" := fun h => by cases h
  have hF0 := hF
  obtain ⟨N, f, hrow, hN, hf⟩ := hF
  have hTl := hT.1
  rcases (show ci = 0 ∨ ci = 1 ∨ ci = 2 ∨ ci = 3 ∨ ci = 4 by omega) with rfl | rfl | rfl | rfl | rfl
  all_goals
    refine vx_gon hC hFt hini (vx_ends hC hr hlk) jc_Rd_saysStar 0 2 (by decide) rfl ?_
    subst hss
    refine Vx.subL (lv' := [(0, .ref h), (1, .int (nI 0))]) [1, 0] rfl ?_
    obtain ⟨i, hi⟩ : ∃ i : Nat, i = 0 := ⟨_, rfl⟩
    refine Vx.eqs rfl (lv2 := [(0, .ref h), (1, .int (nI i))]) (by rw [hi]) rfl rfl ?_
    have hall : ∀ j, j < i → ¬ S.getD j 0 = 42 := fun j hj => by omega
    have hile : i ≤ S.length := by omega
    clear hi
    induction hlen : S.length - i using Nat.strongRecOn generalizing i with
    | _ n ih =>
      refine vx_go hC hFt hini (vx_ends hC hr hlk) jc_Rd_saysStar 2 (by decide) rfl ?_
      refine And.intro rfl ?_
      refine And.intro (fun c5 => ?_) (fun c5 => ?_)
      · skip
        have c5 := (nI_leI (a := S.length) (b := i) (by omega) (by omega)).mp c5
        refine vx_go hC hFt hini (vx_ends hC hr hlk) jc_Rd_saysStar 16 (by decide) rfl ?_
        refine And.intro (rfl) (And.intro ?_ (And.intro (Nat.le_refl _) (Nat.le_refl _)))
        rw [star_f (fun j hj => hall j (by omega))]
        first | exact And.intro rfl rfl | exact And.intro rfl trivial
      · skip
        have c5 : ¬ (S.length ≤ i) := fun z => c5 ((nI_leI (a := S.length) (b := i) (by omega) (by omega)).mpr z)
        refine And.intro rfl ?_
        refine And.intro rfl (And.intro rfl (And.intro (vp_in_nI (by omega) (by decide)) ?_))
        rw [nI_clamp (by omega), hsd i (by omega)]
        refine And.intro (fun c11 => ?_) (fun c11 => ?_)
        · skip
          have c11 : ¬ (S.getD i 0 = 42) := fun z => c11 (by rw [z]; rfl)
          refine vx_go hC hFt hini (vx_ends hC hr hlk) jc_Rd_saysStar 14 (by decide) rfl ?_
          refine Vx.subL (lv' := [(0, .ref h), (1, .int (nI i + 1))]) [1, 0] rfl ?_
          refine Vx.eqs rfl (by rw [nI_1]) rfl rfl (ih (S.length - (i + 1)) (by omega) (i + 1) (fun j hj => ?_) (by omega) rfl)
          by_cases e : j = i
          · rw [e]; exact c11
          · exact hall j (by omega)
        · skip
          have c11 : S.getD i 0 = 42 := (nI_eq (a := S.getD i 0) (b := 42) (hS2 i (by omega)) (by omega)).mp c11
          refine And.intro (rfl) (And.intro ?_ (And.intro (Nat.le_refl _) (Nat.le_refl _)))
          rw [star_t (i := i) (by omega) c11]
          first | exact And.intro rfl rfl | exact And.intro rfl trivial
end
section
/-! THE READER: languages, quoted texts, by program (wip/whole/gen/p15.py) -/
theorem wq_ws {nL : Nat} {ini : Bool} {tc : Nat → ClassId} {ft : List (Nat × Nat × Nat × Nat)} {ty : Nat → Nat → FieldType} {RT : Nat → Nat → Nat → (Nat → Value) → Prop} {RF : Nat → Nat → Value → Prop} {RZ : Nat → Value → Prop} {RS : Nat → Value → Prop} {SX : Jvm.ClassFile.Instr → Nat → List Value → va_W → Nat → Nat → (List Value → va_W → Nat → Nat → Prop) → Prop} {EN : Option Value → va_W → Nat → Nat → Prop} {V : Nat → wq_L → List Value → va_W → Nat → Nat → Prop} {j : wq_J} {pc : Nat} {lv : wq_L} {st : List Value} {ws ws2 : va_W} {k n : Nat} (e : ws = ws2) (h : wq nL ini tc ft ty RT RF RZ RS SX EN V j pc lv st ws2 k n) : wq nL ini tc ft ty RT RF RZ RS SX EN V j pc lv st ws k n := by subst e; exact h
/-- a quoted text behind its first mark -/
def qtx : List Nat → List Nat → Bool × List Nat × List Nat
  | [], S => (false, [], S)
  | x :: r, S => if x = 34 then (true, r, S) else if x = 92 then (match r with
      | [] => (false, [], S)
      | y :: r2 => if isQt y then qtx r2 (S ++ [y]) else (false, y :: r2, S)) else if isQt x then qtx r (S ++ [x]) else (false, x :: r, S)
def qtd (rs : List Nat) : Bool × List Nat × List Nat := match pk 34 rs with
  | (false, r) => (false, r, [])
  | (true, r) => qtx r []
theorem qtx_m {r S : List Nat} : qtx (34 :: r) S = (true, r, S) := by rw [qtx.eq_def]; simp
theorem qtx_e {S : List Nat} : qtx [92] S = (false, [], S) := by simp [qtx]
theorem qtx_eq {y : Nat} {r S : List Nat} (h : isQt y = true) : qtx (92 :: y :: r) S = qtx r (S ++ [y]) := by simp [qtx, h]
theorem qtx_en {y : Nat} {r S : List Nat} (h : isQt y = false) : qtx (92 :: y :: r) S = (false, y :: r, S) := by simp [qtx, h]
theorem qtx_q {x : Nat} {r S : List Nat} (h1 : ¬ x = 34) (h2 : ¬ x = 92) (h : isQt x = true) : qtx (x :: r) S = qtx r (S ++ [x]) := by rw [qtx.eq_def]; simp [h1, h2, h]
theorem qtx_n {x : Nat} {r S : List Nat} (h1 : ¬ x = 34) (h2 : ¬ x = 92) (h : isQt x = false) : qtx (x :: r) S = (false, x :: r, S) := by rw [qtx.eq_def]; simp [h1, h2, h]
/-- a language range: sub characters of a subtag are read, digits may come behind the first border -/
def lng : Nat → Bool → List Nat → List Nat → Bool × List Nat × List Nat
  | sub, _, [], S => (decide (0 < sub), [], S)
  | sub, dt, x :: r, S => if x = 45 then (if sub = 0 then (false, x :: r, S) else lng 0 true r (S ++ [x])) else if isLt x || (dt && isDg x) then (if sub = 8 then (false, x :: r, S) else lng (sub + 1) dt r (S ++ [x])) else (decide (0 < sub), x :: r, S)
def lgt (rs : List Nat) : Bool × List Nat × List Nat := match pk 42 rs with
  | (true, r) => (true, r, [42])
  | (false, r) => lng 0 false r []
set_option maxRecDepth 100000 in
set_option maxHeartbeats 4000000 in
theorem c_Rd_takeQuotedText (l : Launch) (D : va_G) (tys : List (ClassId × FieldType)) (tc : Nat → ClassId) (hty : ∀ i : Nat, i < 4 → tys[i]? = some (tc i, vx_ty i)) (ci : Nat) (hci : ci < 5) (h ra sa : Nat) (ex : List Value) (T rs : List Nat) (sd : Nat → Int32) (ss : Nat) (hT : isT T) (hs : rs <:+ T) : Kt l y_Rd_takeQuotedText (yw y_Rd_takeQuotedText b_Rd_takeQuotedText 1 (some .boolean)) 1 21 0 0 D cls tys (rdF ra T) [.ref h] (rdW tc ci h ra sa ex T rs sd ss) (fun r w => r = some (.int (bI (qtd rs).1)) ∧ ∃ sd2, sdIs sd2 (qtd rs).2.2 ∧ w = rdW tc ci h ra sa ex T (qtd rs).2.1 sd2 (qtd rs).2.2.length) := by
  refine Kt.of (rdF_ro _ _) (by decide) rfl hty (Nat.le_of_ble_eq_true rfl) ?_
  intro p e s m args below meth c0 A hC hr hlk hnm hF
  have hFt : vx_Ft y_Rd_takeQuotedText.cls (yw y_Rd_takeQuotedText b_Rd_takeQuotedText 1 (some .boolean)) cls cty ft_Rd := ft_of (fun w h => List.mem_cons_of_mem _ h) fl_Rd_in ft_Rd_b
  have hini : false = true → meth.name = "<init>" := fun h => by cases h
  have hF0 := hF
  obtain ⟨N, f, hrow, hN, hf⟩ := hF
  have hTl := hT.1
  rcases (show ci = 0 ∨ ci = 1 ∨ ci = 2 ∨ ci = 3 ∨ ci = 4 by omega) with rfl | rfl | rfl | rfl | rfl
  all_goals
    refine vx_gon hC hFt hini (vx_ends hC hr hlk) jc_Rd_takeQuotedText 0 9 (by decide) rfl ?_
    refine And.intro rfl (And.intro (And.intro rfl rfl) ?_)
    refine rd_call hC hF0 (c_Rd_take l D tys tc hty _ hci h ra sa ex T rs sd 0 34 hT hs (by decide)) wm_Rd_take wl_Rd_41 wi_Rd_take (hC.2.2.2.2.1 _ (List.mem_cons_of_mem _ (sel_take _ hci))) hci ⟨by decide, by decide⟩ rfl rfl (by decide) ⟨Nat.zero_le _, Nat.zero_le _⟩ (fun r1 w1 hp => ?_)
    obtain ⟨rfl, rfl⟩ := hp
    have hs1 := pk_sfx (c := 34) hs
    generalize hpk1 : pk 34 rs = q at hs1 ⊢
    obtain ⟨b1, t1⟩ := q
    dsimp only at hs1 ⊢
    refine And.intro (fun c6 => ?_) (fun c6 => ?_)
    · skip
      obtain rfl : b1 = true := bI_ne c6
      have hsp : qtd rs = qtx t1 [] := by simp only [qtd, hpk1]
      rw [hsp]
      have hsd := sd_nil sd
      have hq2 := sfx_le hs1
      generalize hres : qtx t1 [] = RES
      obtain ⟨S, hS0⟩ : ∃ S : List Nat, S = [] := ⟨_, rfl⟩
      rw [← hS0] at hsd hres
      have hSl : S.length + t1.length ≤ 96 := by rw [hS0]; simp; omega
      refine Vx.eqs rfl rfl rfl (w2 := rdW tc _ h ra sa ex T t1 sd S.length) (by rw [hS0]; rfl) ?_
      clear hpk1 hS0 hsp hq2 c6
      induction hlen : t1.length using Nat.strongRecOn generalizing t1 S sd with
      | _ n ih =>
        refine vx_go hC hFt hini (vx_ends hC hr hlk) jc_Rd_takeQuotedText 9 (by decide) rfl ?_
        refine And.intro rfl ?_
        refine And.intro rfl ?_
        refine And.intro (fun c13 => ?_) (fun c13 => ?_)
        · skip
          have hle := sfx_le hs1
          have hnil : t1 = [] := by
            have h2 := (nI_leI (a := T.length) (b := T.length - t1.length) (by omega) (by omega)).mp c13
            exact List.eq_nil_of_length_eq_zero (by omega)
          subst hnil
          refine vx_go hC hFt hini (vx_ends hC hr hlk) jc_Rd_takeQuotedText 62 (by decide) rfl ?_
          refine rd_call hC hF0 (c_Rd_take l D tys tc hty _ hci h ra sa ex T [] sd S.length 34 hT hs1 (by decide)) wm_Rd_take wl_Rd_41 wi_Rd_take (hC.2.2.2.2.1 _ (List.mem_cons_of_mem _ (sel_take _ hci))) hci ⟨by decide, by decide⟩ rfl rfl (by decide) ⟨Nat.zero_le _, Nat.zero_le _⟩ (fun r' w1 hp => ?_)
          obtain ⟨rfl, rfl⟩ := hp
          refine And.intro ((bI_narrow _)) (And.intro ?_ (And.intro (Nat.le_refl _) (Nat.le_refl _)))
          rw [← hres]
          exact And.intro rfl ⟨sd, hsd, rfl⟩
        · skip
          have hle := sfx_le hs1
          obtain ⟨x, r, hrs⟩ : ∃ x r, t1 = x :: r := by
            cases hrs : t1 with
            | nil => subst hrs; exact absurd ((nI_leI (a := T.length) (b := T.length - 0) (by omega) (by omega)).mpr (by omega)) c13
            | cons x r => exact ⟨x, r, rfl⟩
          obtain ⟨g1, g2, g3, g4, g5⟩ := sfx_at hs1 hrs
          have g6 := hT.2 x g5
          subst hrs
          refine And.intro rfl ?_
          refine And.intro rfl ?_
          refine ⟨N, f, hrow, vp_in_nI (by omega) hN.2, ?_⟩
          rw [nI_clamp (by omega), hf _ g1, g2]
          refine And.intro (fun c20 => ?_) (fun c20 => ?_)
          · skip
            have c20 := (nI_eq (a := x) (b := 34) (by omega) (by omega)).mp c20
            subst c20
            refine vx_go hC hFt hini (vx_ends hC hr hlk) jc_Rd_takeQuotedText 62 (by decide) rfl ?_
            refine rd_call hC hF0 (c_Rd_take l D tys tc hty _ hci h ra sa ex T (34 :: r) sd S.length 34 hT hs1 (by decide)) wm_Rd_take wl_Rd_41 wi_Rd_take (hC.2.2.2.2.1 _ (List.mem_cons_of_mem _ (sel_take _ hci))) hci ⟨by decide, by decide⟩ rfl rfl (by decide) ⟨Nat.zero_le _, Nat.zero_le _⟩ (fun r' w1 hp => ?_)
            obtain ⟨rfl, rfl⟩ := hp
            refine And.intro ((bI_narrow _)) (And.intro ?_ (And.intro (Nat.le_refl _) (Nat.le_refl _)))
            rw [← hres, qtx_m]
            exact And.intro (by simp [pk]) ⟨sd, hsd, by simp [pk]⟩
          · skip
            have c20 : ¬ (x = 34) := fun z => c20 ((nI_eq (a := x) (b := 34) (by omega) (by omega)).mpr z)
            refine And.intro rfl ?_
            refine And.intro rfl ?_
            refine ⟨N, f, hrow, vp_in_nI (by omega) hN.2, ?_⟩
            rw [nI_clamp (by omega), hf _ g1, g2]
            refine And.intro (fun c27 => ?_) (fun c27 => ?_)
            · skip
              have c27 : ¬ (x = 92) := fun z => c27 ((nI_eq (a := x) (b := 92) (by omega) (by omega)).mpr z)
              refine vx_go hC hFt hini (vx_ends hC hr hlk) jc_Rd_takeQuotedText 34 (by decide) rfl ?_
              refine And.intro rfl ?_
              refine And.intro rfl ?_
              refine And.intro (fun c38 => ?_) (fun c38 => ?_)
              · skip
                exact absurd c38 (nI_ge g1 (by omega))
              · skip
                refine And.intro rfl ?_
                refine And.intro rfl ?_
                refine ⟨N, f, hrow, vp_in_nI (by omega) hN.2, ?_⟩
                rw [nI_clamp (by omega), hf _ g1, g2]
                refine rd_calls hC (c_Rd_isQuotable l D tys tc hty x (by omega)) wm_Rd_isQuotable wl_Rd_71 wt_Rd_isQuotable ⟨by decide, by decide⟩ rfl rfl (by decide) ⟨Nat.zero_le _, Nat.zero_le _⟩ (fun r' hp => ?_)
                subst hp
                refine And.intro (fun c45 => ?_) (fun c45 => ?_)
                · skip
                  have c45 : isQt x = true := bI_ne c45
                  refine vx_go hC hFt hini (vx_ends hC hr hlk) jc_Rd_takeQuotedText 48 (by decide) rfl ?_
                  refine And.intro rfl ?_
                  refine And.intro rfl ?_
                  refine ⟨N, f, hrow, vp_in_nI (by omega) hN.2, ?_⟩
                  rw [nI_clamp (by omega), hf _ g1, g2]
                  refine rd_call hC hF0 (c_Rd_say l D tys tc hty _ hci h ra sa ex T (x :: r) sd S.length hT hs1 S hsd rfl (by simp at hSl; omega) x (by omega)) wm_Rd_say wl_Rd_67 wi_Rd_say (hC.2.2.2.2.1 _ (List.mem_cons_of_mem _ (sel_say _ hci))) hci ⟨by decide, by decide⟩ rfl rfl (by decide) ⟨Nat.zero_le _, Nat.zero_le _⟩ (fun r' w1 hp => ?_)
                  obtain ⟨rfl, sd2, hsd2, rfl⟩ := hp
                  refine And.intro rfl ?_
                  refine And.intro rfl ?_
                  refine And.intro rfl (And.intro (And.intro rfl rfl) ?_)
                  refine Vx.eqs rfl rfl rfl (rd_stepS g4) (ih r.length (by simp at hlen; omega) sd2 r g3 (S ++ [x]) ?_ hsd2 (by simp at hSl ⊢; omega) rfl)
                  rw [← hres, qtx_q c20 c27 c45]
                · skip
                  have c45 : isQt x = false := bI_eq c45
                  refine And.intro (rfl) (And.intro ?_ (And.intro (Nat.le_refl _) (Nat.le_refl _)))
                  rw [← hres, qtx_n c20 c27 c45]
                  exact And.intro rfl ⟨sd, hsd, rfl⟩
            · skip
              have c27 := (nI_eq (a := x) (b := 92) (by omega) (by omega)).mp c27
              subst c27
              refine And.intro rfl ?_
              refine And.intro rfl ?_
              refine And.intro rfl (And.intro (And.intro rfl rfl) ?_)
              refine wq_ws (rd_step g4) ?_
              refine And.intro rfl ?_
              refine And.intro rfl ?_
              refine And.intro (fun c38 => ?_) (fun c38 => ?_)
              · skip
                have hle := sfx_le g3
                have hnil : r = [] := by
                  have h2 := (nI_leI (a := T.length) (b := T.length - r.length) (by omega) (by omega)).mp c38
                  exact List.eq_nil_of_length_eq_zero (by omega)
                subst hnil
                refine vx_go hC hFt hini (vx_ends hC hr hlk) jc_Rd_takeQuotedText 46 (by decide) rfl ?_
                refine And.intro (rfl) (And.intro ?_ (And.intro (Nat.le_refl _) (Nat.le_refl _)))
                rw [← hres, qtx_e]
                exact And.intro rfl ⟨sd, hsd, rfl⟩
              · skip
                have hle2 := sfx_le g3
                obtain ⟨y, r2, hrs2⟩ : ∃ y r2, r = y :: r2 := by
                  cases hrs2 : r with
                  | nil => subst hrs2; exact absurd ((nI_leI (a := T.length) (b := T.length - 0) (by omega) (by omega)).mpr (by omega)) c38
                  | cons y r2 => exact ⟨y, r2, rfl⟩
                obtain ⟨e1, e2, e3, e4, e5⟩ := sfx_at g3 hrs2
                have e6 := hT.2 y e5
                subst hrs2
                refine And.intro rfl ?_
                refine And.intro rfl ?_
                refine ⟨N, f, hrow, vp_in_nI (by omega) hN.2, ?_⟩
                rw [nI_clamp (by omega), hf _ e1, e2]
                refine rd_calls hC (c_Rd_isQuotable l D tys tc hty y (by omega)) wm_Rd_isQuotable wl_Rd_71 wt_Rd_isQuotable ⟨by decide, by decide⟩ rfl rfl (by decide) ⟨Nat.zero_le _, Nat.zero_le _⟩ (fun r' hp => ?_)
                subst hp
                refine And.intro (fun c45 => ?_) (fun c45 => ?_)
                · skip
                  have c45 : isQt y = true := bI_ne c45
                  refine vx_go hC hFt hini (vx_ends hC hr hlk) jc_Rd_takeQuotedText 48 (by decide) rfl ?_
                  refine And.intro rfl ?_
                  refine And.intro rfl ?_
                  refine ⟨N, f, hrow, vp_in_nI (by omega) hN.2, ?_⟩
                  rw [nI_clamp (by omega), hf _ e1, e2]
                  refine rd_call hC hF0 (c_Rd_say l D tys tc hty _ hci h ra sa ex T (y :: r2) sd S.length hT g3 S hsd rfl (by simp at hSl; omega) y (by omega)) wm_Rd_say wl_Rd_67 wi_Rd_say (hC.2.2.2.2.1 _ (List.mem_cons_of_mem _ (sel_say _ hci))) hci ⟨by decide, by decide⟩ rfl rfl (by decide) ⟨Nat.zero_le _, Nat.zero_le _⟩ (fun r' w1 hp => ?_)
                  obtain ⟨rfl, sd2, hsd2, rfl⟩ := hp
                  refine And.intro rfl ?_
                  refine And.intro rfl ?_
                  refine And.intro rfl (And.intro (And.intro rfl rfl) ?_)
                  refine Vx.eqs rfl rfl rfl (rd_stepS e4) (ih r2.length (by simp at hlen; omega) sd2 r2 e3 (S ++ [y]) ?_ hsd2 (by simp at hSl ⊢; omega) rfl)
                  rw [← hres, qtx_eq c45]
                · skip
                  have c45 : isQt y = false := bI_eq c45
                  refine And.intro (rfl) (And.intro ?_ (And.intro (Nat.le_refl _) (Nat.le_refl _)))
                  rw [← hres, qtx_en c45]
                  exact And.intro rfl ⟨sd, hsd, rfl⟩
    · skip
      obtain rfl : b1 = false := bI_eq c6
      refine And.intro (rfl) (And.intro ?_ (And.intro (Nat.le_refl _) (Nat.le_refl _)))
      simp only [qtd, hpk1]
      first | exact And.intro rfl ⟨sd, sd_nil sd, rfl⟩ | exact And.intro rfl ⟨sd, sd_nil sd, trivial⟩
theorem lng_b0 {dt : Bool} {r S : List Nat} : lng 0 dt (45 :: r) S = (false, 45 :: r, S) := by simp [lng]
theorem lng_b {sub : Nat} {dt : Bool} {r S : List Nat} (h : ¬ sub = 0) : lng sub dt (45 :: r) S = lng 0 true r (S ++ [45]) := by simp [lng, h]
theorem lng_l8 {dt : Bool} {x : Nat} {r S : List Nat} (h1 : ¬ x = 45) (h2 : (isLt x || (dt && isDg x)) = true) : lng 8 dt (x :: r) S = (false, x :: r, S) := by rw [lng, if_neg h1, if_pos h2]; rfl
theorem lng_l {sub : Nat} {dt : Bool} {x : Nat} {r S : List Nat} (h1 : ¬ x = 45) (h2 : (isLt x || (dt && isDg x)) = true) (h3 : ¬ sub = 8) : lng sub dt (x :: r) S = lng (sub + 1) dt r (S ++ [x]) := by rw [lng, if_neg h1, if_pos h2, if_neg h3]
theorem lng_e {sub : Nat} {dt : Bool} {x : Nat} {r S : List Nat} (h1 : ¬ x = 45) (h2 : (isLt x || (dt && isDg x)) = false) : lng sub dt (x :: r) S = (decide (0 < sub), x :: r, S) := by rw [lng, if_neg h1, if_neg (by simp [h2])]
set_option maxRecDepth 100000 in
set_option maxHeartbeats 4000000 in
theorem c_Rd_takeLanguage (l : Launch) (D : va_G) (tys : List (ClassId × FieldType)) (tc : Nat → ClassId) (hty : ∀ i : Nat, i < 4 → tys[i]? = some (tc i, vx_ty i)) (ci : Nat) (hci : ci < 5) (h ra sa : Nat) (ex : List Value) (T rs : List Nat) (sd : Nat → Int32) (ss : Nat) (hT : isT T) (hs : rs <:+ T) : Kt l y_Rd_takeLanguage (yw y_Rd_takeLanguage b_Rd_takeLanguage 4 (some .boolean)) 1 21 0 0 D cls tys (rdF ra T) [.ref h] (rdW tc ci h ra sa ex T rs sd ss) (fun r w => r = some (.int (bI (lgt rs).1)) ∧ ∃ sd2, sdIs sd2 (lgt rs).2.2 ∧ w = rdW tc ci h ra sa ex T (lgt rs).2.1 sd2 (lgt rs).2.2.length) := by
  refine Kt.of (rdF_ro _ _) (by decide) rfl hty (Nat.le_of_ble_eq_true rfl) ?_
  intro p e s m args below meth c0 A hC hr hlk hnm hF
  have hFt : vx_Ft y_Rd_takeLanguage.cls (yw y_Rd_takeLanguage b_Rd_takeLanguage 4 (some .boolean)) cls cty ft_Rd := ft_of (fun w h => List.mem_cons_of_mem _ h) fl_Rd_in ft_Rd_b
  have hini : false = true → meth.name = "<init>" := fun h => by cases h
  have hF0 := hF
  obtain ⟨N, f, hrow, hN, hf⟩ := hF
  have hTl := hT.1
  rcases (show ci = 0 ∨ ci = 1 ∨ ci = 2 ∨ ci = 3 ∨ ci = 4 by omega) with rfl | rfl | rfl | rfl | rfl
  all_goals
    refine vx_gon hC hFt hini (vx_ends hC hr hlk) jc_Rd_takeLanguage 0 16 (by decide) rfl ?_
    refine And.intro rfl (And.intro (And.intro rfl rfl) ?_)
    refine rd_call hC hF0 (c_Rd_take l D tys tc hty _ hci h ra sa ex T rs sd 0 42 hT hs (by decide)) wm_Rd_take wl_Rd_41 wi_Rd_take (hC.2.2.2.2.1 _ (List.mem_cons_of_mem _ (sel_take _ hci))) hci ⟨by decide, by decide⟩ rfl rfl (by decide) ⟨Nat.zero_le _, Nat.zero_le _⟩ (fun r1 w1 hp => ?_)
    obtain ⟨rfl, rfl⟩ := hp
    have hs1 := pk_sfx (c := 42) hs
    generalize hpk1 : pk 42 rs = q at hs1 ⊢
    obtain ⟨b1, t1⟩ := q
    dsimp only at hs1 ⊢
    refine And.intro (fun c6 => ?_) (fun c6 => ?_)
    · skip
      obtain rfl : b1 = false := bI_eq c6
      refine vx_gon hC hFt hini (vx_ends hC hr hlk) jc_Rd_takeLanguage 12 4 (by decide) rfl ?_
      have hsp : lgt rs = lng 0 false t1 [] := by simp only [lgt, hpk1]
      rw [hsp]
      have hq2 := sfx_le hs1
      have hsd := sd_nil sd
      generalize hres : lng 0 false t1 [] = RES
      obtain ⟨S, hS0⟩ : ∃ S : List Nat, S = [] := ⟨_, rfl⟩
      obtain ⟨sub, hu0⟩ : ∃ sub : Nat, sub = 0 := ⟨_, rfl⟩
      obtain ⟨dt, hd0⟩ : ∃ dt : Bool, dt = false := ⟨_, rfl⟩
      rw [← hS0] at hsd hres
      have hSl : S.length + t1.length ≤ 96 := by rw [hS0]; simp; omega
      have hub : sub ≤ 8 := by omega
      refine Vx.subL (lv' := [(0, .ref h), (1, .int (nI 0)), (2, .int (bI false))]) [2, 1, 0] rfl ?_
      refine Vx.eqs rfl (lv2 := [(0, .ref h), (1, .int (nI sub)), (2, .int (bI dt))]) (by rw [hu0, hd0]) rfl (w2 := rdW tc _ h ra sa ex T t1 sd S.length) (by rw [hS0]; rfl) ?_
      replace hres : lng sub dt t1 S = RES := by rw [hu0, hd0]; exact hres
      clear hpk1 hS0 hsp hq2 c6 hu0 hd0
      induction hlen : t1.length using Nat.strongRecOn generalizing t1 S sd sub dt with
      | _ n ih =>
        refine vx_go hC hFt hini (vx_ends hC hr hlk) jc_Rd_takeLanguage 16 (by decide) rfl ?_
        refine And.intro rfl ?_
        refine And.intro rfl ?_
        refine And.intro (fun c20 => ?_) (fun c20 => ?_)
        · skip
          have hle := sfx_le hs1
          have hnil : t1 = [] := by
            have h2 := (nI_leI (a := T.length) (b := T.length - t1.length) (by omega) (by omega)).mp c20
            exact List.eq_nil_of_length_eq_zero (by omega)
          subst hnil
          refine vx_go hC hFt hini (vx_ends hC hr hlk) jc_Rd_takeLanguage 95 (by decide) rfl ?_
          refine And.intro (fun c96 => ?_) (fun c96 => ?_)
          · skip
            have c96 : ¬ 0 < sub := fun z => absurd c96 (nI_nle z (by omega))
            refine vx_go hC hFt hini (vx_ends hC hr hlk) jc_Rd_takeLanguage 99 (by decide) rfl ?_
            refine And.intro (rfl) (And.intro ?_ (And.intro (Nat.le_refl _) (Nat.le_refl _)))
            rw [← hres, show lng sub dt [] S = (decide (0 < sub), [], S) from rfl]
            rw [show decide (0 < sub) = false by rw [decide_eq_false_iff_not]; omega]
            exact And.intro rfl ⟨sd, hsd, rfl⟩
          · skip
            have c96 : 0 < sub := Nat.pos_of_ne_zero (fun z => c96 (by rw [z]; exact nI_le (Nat.le_refl 0) (by decide)))
            refine vx_go hC hFt hini (vx_ends hC hr hlk) jc_Rd_takeLanguage 100 (by decide) rfl ?_
            refine And.intro (rfl) (And.intro ?_ (And.intro (Nat.le_refl _) (Nat.le_refl _)))
            rw [← hres, show lng sub dt [] S = (decide (0 < sub), [], S) from rfl]
            rw [show decide (0 < sub) = true by rw [decide_eq_true_eq]; omega]
            exact And.intro rfl ⟨sd, hsd, rfl⟩
        · skip
          have hle := sfx_le hs1
          obtain ⟨x, r, hrs⟩ : ∃ x r, t1 = x :: r := by
            cases hrs : t1 with
            | nil => subst hrs; exact absurd ((nI_leI (a := T.length) (b := T.length - 0) (by omega) (by omega)).mpr (by omega)) c20
            | cons x r => exact ⟨x, r, rfl⟩
          obtain ⟨g1, g2, g3, g4, g5⟩ := sfx_at hs1 hrs
          have g6 := hT.2 x g5
          subst hrs
          refine And.intro rfl ?_
          refine And.intro rfl ?_
          refine ⟨N, f, hrow, vp_in_nI (by omega) hN.2, ?_⟩
          rw [nI_clamp (by omega), hf _ g1, g2]
          refine And.intro (fun c27 => ?_) (fun c27 => ?_)
          · skip
            have c27 := (nI_eq (a := x) (b := 45) (by omega) (by omega)).mp c27
            subst c27
            refine vx_go hC hFt hini (vx_ends hC hr hlk) jc_Rd_takeLanguage 44 (by decide) rfl ?_
            refine And.intro rfl ?_
            refine And.intro rfl ?_
            refine ⟨N, f, hrow, vp_in_nI (by omega) hN.2, ?_⟩
            rw [nI_clamp (by omega), hf _ g1, g2]
            refine And.intro (fun c50 => ?_) (fun c50 => ?_)
            · skip
              exact absurd rfl c50
            · skip
              refine vx_go hC hFt hini (vx_ends hC hr hlk) jc_Rd_takeLanguage 54 (by decide) rfl ?_
              refine And.intro (fun c56 => ?_) (fun c56 => ?_)
              · skip
                exact absurd c56 (by decide)
              · skip
                refine And.intro (fun c58 => ?_) (fun c58 => ?_)
                · skip
                  have c58 : ¬ sub = 0 := fun z => c58 (by rw [z]; rfl)
                  refine vx_go hC hFt hini (vx_ends hC hr hlk) jc_Rd_takeLanguage 65 (by decide) rfl ?_
                  refine And.intro (fun c66 => ?_) (fun c66 => ?_)
                  · skip
                    exact absurd c66 (by decide)
                  · skip
                    refine vx_go hC hFt hini (vx_ends hC hr hlk) jc_Rd_takeLanguage 72 (by decide) rfl ?_
                    refine And.intro (fun c74 => ?_) (fun c74 => ?_)
                    · skip
                      obtain rfl : dt = true := bI_ne c74
                      refine vx_go hC hFt hini (vx_ends hC hr hlk) jc_Rd_takeLanguage 77 (by decide) rfl ?_
                      refine vx_go hC hFt hini (vx_ends hC hr hlk) jc_Rd_takeLanguage 80 (by decide) rfl ?_
                      refine And.intro rfl ?_
                      refine And.intro rfl ?_
                      refine ⟨N, f, hrow, vp_in_nI (by omega) hN.2, ?_⟩
                      rw [nI_clamp (by omega), hf _ g1, g2]
                      refine rd_call hC hF0 (c_Rd_say l D tys tc hty _ hci h ra sa ex T (45 :: r) sd S.length hT hs1 S hsd rfl (by simp at hSl; omega) 45 (by omega)) wm_Rd_say wl_Rd_67 wi_Rd_say (hC.2.2.2.2.1 _ (List.mem_cons_of_mem _ (sel_say _ hci))) hci ⟨by decide, by decide⟩ rfl rfl (by decide) ⟨Nat.zero_le _, Nat.zero_le _⟩ (fun r' w1 hp => ?_)
                      obtain ⟨rfl, sd2, hsd2, rfl⟩ := hp
                      refine And.intro rfl ?_
                      refine And.intro rfl ?_
                      refine And.intro rfl (And.intro (And.intro rfl rfl) ?_)
                      refine Vx.subL (lv' := [(0, .ref h), (1, .int (0 : Int32)), (2, .int (1 : Int32))]) [3, 1, 0] rfl ?_
                      refine Vx.eqs rfl (by rfl) rfl (rd_stepS g4) (ih r.length (by simp at hlen; omega) sd2 r g3 (S ++ [45]) hsd2 0 true (by simp at hSl ⊢; omega) (by omega) ?_ rfl)
                      rw [← hres, lng_b c58 ]
                    · skip
                      obtain rfl : dt = false := bI_eq c74
                      refine And.intro (fun c76 => ?_) (fun c76 => ?_)
                      · skip
                        exact absurd c76 (by decide)
                      · skip
                        refine vx_go hC hFt hini (vx_ends hC hr hlk) jc_Rd_takeLanguage 80 (by decide) rfl ?_
                        refine And.intro rfl ?_
                        refine And.intro rfl ?_
                        refine ⟨N, f, hrow, vp_in_nI (by omega) hN.2, ?_⟩
                        rw [nI_clamp (by omega), hf _ g1, g2]
                        refine rd_call hC hF0 (c_Rd_say l D tys tc hty _ hci h ra sa ex T (45 :: r) sd S.length hT hs1 S hsd rfl (by simp at hSl; omega) 45 (by omega)) wm_Rd_say wl_Rd_67 wi_Rd_say (hC.2.2.2.2.1 _ (List.mem_cons_of_mem _ (sel_say _ hci))) hci ⟨by decide, by decide⟩ rfl rfl (by decide) ⟨Nat.zero_le _, Nat.zero_le _⟩ (fun r' w1 hp => ?_)
                        obtain ⟨rfl, sd2, hsd2, rfl⟩ := hp
                        refine And.intro rfl ?_
                        refine And.intro rfl ?_
                        refine And.intro rfl (And.intro (And.intro rfl rfl) ?_)
                        refine Vx.subL (lv' := [(0, .ref h), (1, .int (0 : Int32)), (2, .int (1 : Int32))]) [3, 1, 0] rfl ?_
                        refine Vx.eqs rfl (by rfl) rfl (rd_stepS g4) (ih r.length (by simp at hlen; omega) sd2 r g3 (S ++ [45]) hsd2 0 true (by simp at hSl ⊢; omega) (by omega) ?_ rfl)
                        rw [← hres, lng_b c58 ]
                · skip
                  have c58 : sub = 0 := (nI_eq (a := sub) (b := 0) (by omega) (by omega)).mp c58
                  subst c58
                  refine vx_go hC hFt hini (vx_ends hC hr hlk) jc_Rd_takeLanguage 63 (by decide) rfl ?_
                  refine And.intro (rfl) (And.intro ?_ (And.intro (Nat.le_refl _) (Nat.le_refl _)))
                  rw [← hres, lng_b0]
                  exact And.intro rfl ⟨sd, hsd, rfl⟩
          · skip
            have c27 : ¬ (x = 45) := fun z => c27 ((nI_eq (a := x) (b := 45) (by omega) (by omega)).mpr z)
            refine And.intro rfl ?_
            refine And.intro rfl ?_
            refine ⟨N, f, hrow, vp_in_nI (by omega) hN.2, ?_⟩
            rw [nI_clamp (by omega), hf _ g1, g2]
            refine rd_calls hC (c_Rd_isLetter l D tys tc hty x (by omega)) wm_Rd_isLetter wl_Rd_74 wt_Rd_isLetter ⟨by decide, by decide⟩ rfl rfl (by decide) ⟨Nat.zero_le _, Nat.zero_le _⟩ (fun r' hp => ?_)
            subst hp
            refine And.intro (fun c34 => ?_) (fun c34 => ?_)
            · skip
              have c34 : isLt x = true := bI_ne c34
              have hlt : (isLt x || (dt && isDg x)) = true := by rw [c34]; rfl
              refine vx_go hC hFt hini (vx_ends hC hr hlk) jc_Rd_takeLanguage 44 (by decide) rfl ?_
              refine And.intro rfl ?_
              refine And.intro rfl ?_
              refine ⟨N, f, hrow, vp_in_nI (by omega) hN.2, ?_⟩
              rw [nI_clamp (by omega), hf _ g1, g2]
              refine And.intro (fun c50 => ?_) (fun c50 => ?_)
              · skip
                refine vx_go hC hFt hini (vx_ends hC hr hlk) jc_Rd_takeLanguage 53 (by decide) rfl ?_
                refine And.intro (fun c56 => ?_) (fun c56 => ?_)
                · skip
                  refine vx_go hC hFt hini (vx_ends hC hr hlk) jc_Rd_takeLanguage 60 (by decide) rfl ?_
                  refine And.intro (fun c62 => ?_) (fun c62 => ?_)
                  · skip
                    have c62 : ¬ sub = 8 := fun z => c62 (by rw [z]; rfl)
                    refine vx_go hC hFt hini (vx_ends hC hr hlk) jc_Rd_takeLanguage 65 (by decide) rfl ?_
                    refine And.intro (fun c66 => ?_) (fun c66 => ?_)
                    · skip
                      refine vx_go hC hFt hini (vx_ends hC hr hlk) jc_Rd_takeLanguage 69 (by decide) rfl ?_
                      refine And.intro (fun c74 => ?_) (fun c74 => ?_)
                      · skip
                        obtain rfl : dt = true := bI_ne c74
                        refine vx_go hC hFt hini (vx_ends hC hr hlk) jc_Rd_takeLanguage 77 (by decide) rfl ?_
                        refine vx_go hC hFt hini (vx_ends hC hr hlk) jc_Rd_takeLanguage 80 (by decide) rfl ?_
                        refine And.intro rfl ?_
                        refine And.intro rfl ?_
                        refine ⟨N, f, hrow, vp_in_nI (by omega) hN.2, ?_⟩
                        rw [nI_clamp (by omega), hf _ g1, g2]
                        refine rd_call hC hF0 (c_Rd_say l D tys tc hty _ hci h ra sa ex T (x :: r) sd S.length hT hs1 S hsd rfl (by simp at hSl; omega) x (by omega)) wm_Rd_say wl_Rd_67 wi_Rd_say (hC.2.2.2.2.1 _ (List.mem_cons_of_mem _ (sel_say _ hci))) hci ⟨by decide, by decide⟩ rfl rfl (by decide) ⟨Nat.zero_le _, Nat.zero_le _⟩ (fun r' w1 hp => ?_)
                        obtain ⟨rfl, sd2, hsd2, rfl⟩ := hp
                        refine And.intro rfl ?_
                        refine And.intro rfl ?_
                        refine And.intro rfl (And.intro (And.intro rfl rfl) ?_)
                        refine Vx.subL (lv' := [(0, .ref h), (1, .int (nI sub + 1)), (2, .int (1 : Int32))]) [3, 1, 0] rfl ?_
                        refine Vx.eqs rfl (by rw [nI_1]; rfl) rfl (rd_stepS g4) (ih r.length (by simp at hlen; omega) sd2 r g3 (S ++ [x]) hsd2 (sub + 1) true (by simp at hSl ⊢; omega) (by omega) ?_ rfl)
                        rw [← hres, lng_l c27 hlt c62]
                      · skip
                        obtain rfl : dt = false := bI_eq c74
                        refine And.intro (fun c76 => ?_) (fun c76 => ?_)
                        · skip
                          refine vx_go hC hFt hini (vx_ends hC hr hlk) jc_Rd_takeLanguage 79 (by decide) rfl ?_
                          refine And.intro rfl ?_
                          refine And.intro rfl ?_
                          refine ⟨N, f, hrow, vp_in_nI (by omega) hN.2, ?_⟩
                          rw [nI_clamp (by omega), hf _ g1, g2]
                          refine rd_call hC hF0 (c_Rd_say l D tys tc hty _ hci h ra sa ex T (x :: r) sd S.length hT hs1 S hsd rfl (by simp at hSl; omega) x (by omega)) wm_Rd_say wl_Rd_67 wi_Rd_say (hC.2.2.2.2.1 _ (List.mem_cons_of_mem _ (sel_say _ hci))) hci ⟨by decide, by decide⟩ rfl rfl (by decide) ⟨Nat.zero_le _, Nat.zero_le _⟩ (fun r' w1 hp => ?_)
                          obtain ⟨rfl, sd2, hsd2, rfl⟩ := hp
                          refine And.intro rfl ?_
                          refine And.intro rfl ?_
                          refine And.intro rfl (And.intro (And.intro rfl rfl) ?_)
                          refine Vx.subL (lv' := [(0, .ref h), (1, .int (nI sub + 1)), (2, .int (0 : Int32))]) [3, 1, 0] rfl ?_
                          refine Vx.eqs rfl (by rw [nI_1]; rfl) rfl (rd_stepS g4) (ih r.length (by simp at hlen; omega) sd2 r g3 (S ++ [x]) hsd2 (sub + 1) false (by simp at hSl ⊢; omega) (by omega) ?_ rfl)
                          rw [← hres, lng_l c27 hlt c62]
                        · skip
                          exact absurd rfl c76
                    · skip
                      exact absurd rfl c66
                  · skip
                    have c62 : sub = 8 := (nI_eq (a := sub) (b := 8) (by omega) (by omega)).mp c62
                    subst c62
                    refine And.intro (rfl) (And.intro ?_ (And.intro (Nat.le_refl _) (Nat.le_refl _)))
                    rw [← hres, lng_l8 c27 hlt]
                    exact And.intro rfl ⟨sd, hsd, rfl⟩
                · skip
                  exact absurd rfl c56
              · skip
                exact absurd ((nI_eq (a := x) (b := 45) (by omega) (by omega)).mp c50) c27
            · skip
              have c34 : isLt x = false := bI_eq c34
              refine And.intro (fun c36 => ?_) (fun c36 => ?_)
              · skip
                obtain rfl : dt = false := bI_eq c36
                have hlt : (isLt x || (false && isDg x)) = false := by rw [c34]; rfl
                refine vx_go hC hFt hini (vx_ends hC hr hlk) jc_Rd_takeLanguage 95 (by decide) rfl ?_
                refine And.intro (fun c96 => ?_) (fun c96 => ?_)
                · skip
                  have c96 : ¬ 0 < sub := fun z => absurd c96 (nI_nle z (by omega))
                  refine vx_go hC hFt hini (vx_ends hC hr hlk) jc_Rd_takeLanguage 99 (by decide) rfl ?_
                  refine And.intro (rfl) (And.intro ?_ (And.intro (Nat.le_refl _) (Nat.le_refl _)))
                  rw [← hres, lng_e c27 hlt]
                  rw [show decide (0 < sub) = false by rw [decide_eq_false_iff_not]; omega]
                  exact And.intro rfl ⟨sd, hsd, rfl⟩
                · skip
                  have c96 : 0 < sub := Nat.pos_of_ne_zero (fun z => c96 (by rw [z]; exact nI_le (Nat.le_refl 0) (by decide)))
                  refine vx_go hC hFt hini (vx_ends hC hr hlk) jc_Rd_takeLanguage 100 (by decide) rfl ?_
                  refine And.intro (rfl) (And.intro ?_ (And.intro (Nat.le_refl _) (Nat.le_refl _)))
                  rw [← hres, lng_e c27 hlt]
                  rw [show decide (0 < sub) = true by rw [decide_eq_true_eq]; omega]
                  exact And.intro rfl ⟨sd, hsd, rfl⟩
              · skip
                obtain rfl : dt = true := bI_ne c36
                refine And.intro rfl ?_
                refine And.intro rfl ?_
                refine ⟨N, f, hrow, vp_in_nI (by omega) hN.2, ?_⟩
                rw [nI_clamp (by omega), hf _ g1, g2]
                refine rd_calls hC (c_Rd_isDigit l D tys tc hty x (by omega)) wm_Rd_isDigit wl_Rd_77 wt_Rd_isDigit ⟨by decide, by decide⟩ rfl rfl (by decide) ⟨Nat.zero_le _, Nat.zero_le _⟩ (fun r' hp => ?_)
                subst hp
                refine And.intro (fun c43 => ?_) (fun c43 => ?_)
                · skip
                  have c43 : isDg x = false := bI_eq c43
                  have hlt : (isLt x || (true && isDg x)) = false := by rw [c34, c43]; rfl
                  refine vx_go hC hFt hini (vx_ends hC hr hlk) jc_Rd_takeLanguage 95 (by decide) rfl ?_
                  refine And.intro (fun c96 => ?_) (fun c96 => ?_)
                  · skip
                    have c96 : ¬ 0 < sub := fun z => absurd c96 (nI_nle z (by omega))
                    refine vx_go hC hFt hini (vx_ends hC hr hlk) jc_Rd_takeLanguage 99 (by decide) rfl ?_
                    refine And.intro (rfl) (And.intro ?_ (And.intro (Nat.le_refl _) (Nat.le_refl _)))
                    rw [← hres, lng_e c27 hlt]
                    rw [show decide (0 < sub) = false by rw [decide_eq_false_iff_not]; omega]
                    exact And.intro rfl ⟨sd, hsd, rfl⟩
                  · skip
                    have c96 : 0 < sub := Nat.pos_of_ne_zero (fun z => c96 (by rw [z]; exact nI_le (Nat.le_refl 0) (by decide)))
                    refine vx_go hC hFt hini (vx_ends hC hr hlk) jc_Rd_takeLanguage 100 (by decide) rfl ?_
                    refine And.intro (rfl) (And.intro ?_ (And.intro (Nat.le_refl _) (Nat.le_refl _)))
                    rw [← hres, lng_e c27 hlt]
                    rw [show decide (0 < sub) = true by rw [decide_eq_true_eq]; omega]
                    exact And.intro rfl ⟨sd, hsd, rfl⟩
                · skip
                  have c43 : isDg x = true := bI_ne c43
                  have hlt : (isLt x || (true && isDg x)) = true := by rw [c43]; simp
                  refine And.intro rfl ?_
                  refine And.intro rfl ?_
                  refine ⟨N, f, hrow, vp_in_nI (by omega) hN.2, ?_⟩
                  rw [nI_clamp (by omega), hf _ g1, g2]
                  refine And.intro (fun c50 => ?_) (fun c50 => ?_)
                  · skip
                    refine vx_go hC hFt hini (vx_ends hC hr hlk) jc_Rd_takeLanguage 53 (by decide) rfl ?_
                    refine And.intro (fun c56 => ?_) (fun c56 => ?_)
                    · skip
                      refine vx_go hC hFt hini (vx_ends hC hr hlk) jc_Rd_takeLanguage 60 (by decide) rfl ?_
                      refine And.intro (fun c62 => ?_) (fun c62 => ?_)
                      · skip
                        have c62 : ¬ sub = 8 := fun z => c62 (by rw [z]; rfl)
                        refine vx_go hC hFt hini (vx_ends hC hr hlk) jc_Rd_takeLanguage 65 (by decide) rfl ?_
                        refine And.intro (fun c66 => ?_) (fun c66 => ?_)
                        · skip
                          refine vx_go hC hFt hini (vx_ends hC hr hlk) jc_Rd_takeLanguage 69 (by decide) rfl ?_
                          refine And.intro (fun c74 => ?_) (fun c74 => ?_)
                          · skip
                            refine vx_go hC hFt hini (vx_ends hC hr hlk) jc_Rd_takeLanguage 77 (by decide) rfl ?_
                            refine vx_go hC hFt hini (vx_ends hC hr hlk) jc_Rd_takeLanguage 80 (by decide) rfl ?_
                            refine And.intro rfl ?_
                            refine And.intro rfl ?_
                            refine ⟨N, f, hrow, vp_in_nI (by omega) hN.2, ?_⟩
                            rw [nI_clamp (by omega), hf _ g1, g2]
                            refine rd_call hC hF0 (c_Rd_say l D tys tc hty _ hci h ra sa ex T (x :: r) sd S.length hT hs1 S hsd rfl (by simp at hSl; omega) x (by omega)) wm_Rd_say wl_Rd_67 wi_Rd_say (hC.2.2.2.2.1 _ (List.mem_cons_of_mem _ (sel_say _ hci))) hci ⟨by decide, by decide⟩ rfl rfl (by decide) ⟨Nat.zero_le _, Nat.zero_le _⟩ (fun r' w1 hp => ?_)
                            obtain ⟨rfl, sd2, hsd2, rfl⟩ := hp
                            refine And.intro rfl ?_
                            refine And.intro rfl ?_
                            refine And.intro rfl (And.intro (And.intro rfl rfl) ?_)
                            refine Vx.subL (lv' := [(0, .ref h), (1, .int (nI sub + 1)), (2, .int (1 : Int32))]) [3, 1, 0] rfl ?_
                            refine Vx.eqs rfl (by rw [nI_1]; rfl) rfl (rd_stepS g4) (ih r.length (by simp at hlen; omega) sd2 r g3 (S ++ [x]) hsd2 (sub + 1) true (by simp at hSl ⊢; omega) (by omega) ?_ rfl)
                            rw [← hres, lng_l c27 hlt c62]
                          · skip
                            exact absurd c74 (by decide)
                        · skip
                          exact absurd rfl c66
                      · skip
                        have c62 : sub = 8 := (nI_eq (a := sub) (b := 8) (by omega) (by omega)).mp c62
                        subst c62
                        refine And.intro (rfl) (And.intro ?_ (And.intro (Nat.le_refl _) (Nat.le_refl _)))
                        rw [← hres, lng_l8 c27 hlt]
                        exact And.intro rfl ⟨sd, hsd, rfl⟩
                    · skip
                      exact absurd rfl c56
                  · skip
                    exact absurd ((nI_eq (a := x) (b := 45) (by omega) (by omega)).mp c50) c27
    · skip
      obtain rfl : b1 = true := bI_ne c6
      refine rd_call hC hF0 (c_Rd_say l D tys tc hty _ hci h ra sa ex T t1 sd ([] : List Nat).length hT hs1 ([] : List Nat) (sd_nil sd) rfl (by decide) 42 (by decide)) wm_Rd_say wl_Rd_67 wi_Rd_say (hC.2.2.2.2.1 _ (List.mem_cons_of_mem _ (sel_say _ hci))) hci ⟨by decide, by decide⟩ rfl rfl (by decide) ⟨Nat.zero_le _, Nat.zero_le _⟩ (fun r' w1 hp => ?_)
      obtain ⟨rfl, sd2, hsd2, rfl⟩ := hp
      refine And.intro (rfl) (And.intro ?_ (And.intro (Nat.le_refl _) (Nat.le_refl _)))
      simp only [lgt, hpk1]
      first | exact And.intro rfl ⟨sd2, hsd2, rfl⟩ | exact And.intro rfl ⟨sd2, hsd2, trivial⟩
end
section
/-! THE JDK's METHODS, by program out of the Statement's bytes (wip/whole/gen/mkjdk.py) -/
abbrev b_St_checkIndex155 : ByteArray := prog_21_method_155_code
def y_St_checkIndex155 : MethodName := ⟨"java/lang/String", "checkIndex", "(II)V"⟩
def j_St_checkIndex155 : wq_J := [(.iload_n 0, (0, 0, 0, 0, 0)), (.iload_n 1, (0, 0, 0, 0, 0)), (.getstatic 1053, (2, 0, 0, 0, 0)), (.invokestatic 1059, (0, 0, 0, 0, 0)), (.pop, (0, 0, 0, 0, 0)), (.return_, (0, 0, 0, 0, 0))]
theorem jc_St_checkIndex155 : wq_c b_St_checkIndex155 2 j_St_checkIndex155 0 = true := by decide +kernel
theorem wm_St_checkIndex155 : wm y_St_checkIndex155 b_St_checkIndex155 2 none 2 := ⟨gw_i 11 (by decide +kernel) (by decide +kernel), gw_i 417 (by decide +kernel) (by decide +kernel), ⟨by decide, by decide⟩, by decide +kernel⟩
theorem wt_St_checkIndex155 : Cond.static y_St_checkIndex155 ∈ gw := gw_i 416 (by decide +kernel) (by decide +kernel)
abbrev b_Pr_checkIndex11 : ByteArray := prog_28_method_11_code
def y_Pr_checkIndex11 : MethodName := ⟨"jdk/internal/util/Preconditions", "checkIndex", "(IILjava/util/function/BiFunction;)I"⟩
def j_Pr_checkIndex11 : wq_J := [(.iload_n 0, (0, 0, 0, 0, 0)), (.ifCond .lt 8, (0, 9, 0, 0, 0)), (.iload_n 0, (0, 0, 0, 0, 0)), (.iload_n 1, (0, 0, 0, 0, 0)), (.if_icmp .lt 10, (0, 16, 0, 0, 0)), (.aload_n 2, (0, 0, 0, 0, 0)), (.iload_n 0, (0, 0, 0, 0, 0)), (.iload_n 1, (0, 0, 0, 0, 0)), (.invokestatic 95, (0, 0, 0, 0, 0)), (.athrow, (0, 0, 0, 0, 0)), (.iload_n 0, (0, 0, 0, 0, 0)), (.ireturn, (0, 0, 0, 0, 0))]
theorem jc_Pr_checkIndex11 : wq_c b_Pr_checkIndex11 3 j_Pr_checkIndex11 0 = true := by decide +kernel
theorem wm_Pr_checkIndex11 : wm y_Pr_checkIndex11 b_Pr_checkIndex11 3 (some .int) 3 := ⟨gw_i 21 (by decide +kernel) (by decide +kernel), gw_i 420 (by decide +kernel) (by decide +kernel), ⟨by decide, by decide⟩, by decide +kernel⟩
theorem wt_Pr_checkIndex11 : Cond.static y_Pr_checkIndex11 ∈ gw := gw_i 419 (by decide +kernel) (by decide +kernel)
abbrev b_St_indexOf79 : ByteArray := prog_21_method_79_code
def y_St_indexOf79 : MethodName := ⟨"java/lang/String", "indexOf", "(I)I"⟩
def j_St_indexOf79 : wq_J := [(.aload_n 0, (0, 0, 0, 0, 0)), (.iload_n 1, (0, 0, 0, 0, 0)), (.iconst 0, (0, 0, 0, 0, 0)), (.invokevirtual 633, (0, 0, 0, 0, 0)), (.ireturn, (0, 0, 0, 0, 0))]
theorem jc_St_indexOf79 : wq_c b_St_indexOf79 2 j_St_indexOf79 0 = true := by decide +kernel
theorem wm_St_indexOf79 : wm y_St_indexOf79 b_St_indexOf79 2 (some .int) 1 := ⟨gw_i 11 (by decide +kernel) (by decide +kernel), gw_i 622 (by decide +kernel) (by decide +kernel), ⟨by decide, by decide⟩, by decide +kernel⟩
theorem wi_St_indexOf79 : Cond.instanceMethod y_St_indexOf79 ∈ gw := gw_i 620 (by decide +kernel) (by decide +kernel)
theorem ws_St_St_indexOf79 : Cond.selects "java/lang/String" y_St_indexOf79 y_St_indexOf79 ∈ gw := gw_i 621 (by decide +kernel) (by decide +kernel)
abbrev b_St_indexOf80 : ByteArray := prog_21_method_80_code
def y_St_indexOf80 : MethodName := ⟨"java/lang/String", "indexOf", "(II)I"⟩
def j_St_indexOf80 : wq_J := [(.aload_n 0, (0, 0, 0, 0, 0)), (.invokevirtual 492, (0, 0, 0, 0, 0)), (.ifCond .eq 19, (0, 23, 0, 0, 0)), (.aload_n 0, (0, 0, 0, 0, 0)), (.getfield 9, (2, 0, 0, 0, 0)), (.iload_n 1, (0, 0, 0, 0, 0)), (.iload_n 2, (0, 0, 0, 0, 0)), (.aload_n 0, (0, 0, 0, 0, 0)), (.invokevirtual 505, (0, 0, 0, 0, 0)), (.invokestatic 637, (0, 0, 0, 0, 0)), (.goto 16, (0, 36, 0, 0, 0)), (.aload_n 0, (0, 0, 0, 0, 0)), (.getfield 9, (2, 0, 0, 0, 0)), (.iload_n 1, (0, 0, 0, 0, 0)), (.iload_n 2, (0, 0, 0, 0, 0)), (.aload_n 0, (0, 0, 0, 0, 0)), (.invokevirtual 505, (0, 0, 0, 0, 0)), (.invokestatic 640, (0, 0, 0, 0, 0)), (.ireturn, (0, 0, 0, 0, 0))]
theorem jc_St_indexOf80 : wq_c b_St_indexOf80 3 j_St_indexOf80 0 = true := by decide +kernel
theorem wm_St_indexOf80 : wm y_St_indexOf80 b_St_indexOf80 3 (some .int) 2 := ⟨gw_i 11 (by decide +kernel) (by decide +kernel), gw_i 626 (by decide +kernel) (by decide +kernel), ⟨by decide, by decide⟩, by decide +kernel⟩
theorem wi_St_indexOf80 : Cond.instanceMethod y_St_indexOf80 ∈ gw := gw_i 624 (by decide +kernel) (by decide +kernel)
theorem ws_St_St_indexOf80 : Cond.selects "java/lang/String" y_St_indexOf80 y_St_indexOf80 ∈ gw := gw_i 625 (by decide +kernel) (by decide +kernel)
abbrev b_St_isLatin1154 : ByteArray := prog_21_method_154_code
def y_St_isLatin1154 : MethodName := ⟨"java/lang/String", "isLatin1", "()Z"⟩
def j_St_isLatin1154 : wq_J := [(.getstatic 38, (2, 0, 0, 0, 0)), (.ifCond .eq 14, (0, 17, 0, 0, 0)), (.aload_n 0, (0, 0, 0, 0, 0)), (.getfield 15, (2, 0, 0, 0, 0)), (.ifCond .ne 7, (0, 17, 0, 0, 0)), (.iconst 1, (0, 0, 0, 1, 0)), (.goto 4, (0, 18, 0, 0, 0)), (.iconst 0, (0, 0, 0, 0, 0)), (.ireturn, (0, 0, 0, 0, 0))]
theorem jc_St_isLatin1154 : wq_c b_St_isLatin1154 1 j_St_isLatin1154 0 = true := by decide +kernel
theorem wm_St_isLatin1154 : wm y_St_isLatin1154 b_St_isLatin1154 1 (some .boolean) 0 := ⟨gw_i 11 (by decide +kernel) (by decide +kernel), gw_i 630 (by decide +kernel) (by decide +kernel), ⟨by decide, by decide⟩, by decide +kernel⟩
theorem wi_St_isLatin1154 : Cond.instanceMethod y_St_isLatin1154 ∈ gw := gw_i 628 (by decide +kernel) (by decide +kernel)
theorem ws_St_St_isLatin1154 : Cond.selects "java/lang/String" y_St_isLatin1154 y_St_isLatin1154 ∈ gw := gw_i 629 (by decide +kernel) (by decide +kernel)
abbrev b_St_length54 : ByteArray := prog_21_method_54_code
def y_St_length54 : MethodName := ⟨"java/lang/String", "length", "()I"⟩
def j_St_length54 : wq_J := [(.aload_n 0, (0, 0, 0, 0, 0)), (.getfield 9, (2, 0, 0, 0, 0)), (.arraylength, (2, 0, 0, 0, 0)), (.aload_n 0, (0, 0, 0, 0, 0)), (.invokevirtual 335, (0, 0, 0, 0, 0)), (.ishr, (0, 0, 0, 0, 0)), (.ireturn, (0, 0, 0, 0, 0))]
theorem jc_St_length54 : wq_c b_St_length54 1 j_St_length54 0 = true := by decide +kernel
theorem wm_St_length54 : wm y_St_length54 b_St_length54 1 (some .int) 0 := ⟨gw_i 11 (by decide +kernel) (by decide +kernel), gw_i 634 (by decide +kernel) (by decide +kernel), ⟨by decide, by decide⟩, by decide +kernel⟩
theorem wi_St_length54 : Cond.instanceMethod y_St_length54 ∈ gw := gw_i 632 (by decide +kernel) (by decide +kernel)
theorem ws_St_St_length54 : Cond.selects "java/lang/String" y_St_length54 y_St_length54 ∈ gw := gw_i 633 (by decide +kernel) (by decide +kernel)
abbrev b_St_coder152 : ByteArray := prog_21_method_152_code
def y_St_coder152 : MethodName := ⟨"java/lang/String", "coder", "()B"⟩
def j_St_coder152 : wq_J := [(.getstatic 38, (2, 0, 0, 0, 0)), (.ifCond .eq 10, (0, 13, 0, 0, 0)), (.aload_n 0, (0, 0, 0, 0, 0)), (.getfield 15, (2, 0, 0, 0, 0)), (.goto 4, (0, 14, 0, 0, 0)), (.iconst 1, (0, 0, 0, 1, 0)), (.ireturn, (0, 0, 0, 0, 0))]
theorem jc_St_coder152 : wq_c b_St_coder152 1 j_St_coder152 0 = true := by decide +kernel
theorem wm_St_coder152 : wm y_St_coder152 b_St_coder152 1 (some .byte) 0 := ⟨gw_i 11 (by decide +kernel) (by decide +kernel), gw_i 638 (by decide +kernel) (by decide +kernel), ⟨by decide, by decide⟩, by decide +kernel⟩
theorem wi_St_coder152 : Cond.instanceMethod y_St_coder152 ∈ gw := gw_i 636 (by decide +kernel) (by decide +kernel)
theorem ws_St_St_coder152 : Cond.selects "java/lang/String" y_St_coder152 y_St_coder152 ∈ gw := gw_i 637 (by decide +kernel) (by decide +kernel)
abbrev b_L1_indexOf22 : ByteArray := prog_23_method_22_code
def y_L1_indexOf22 : MethodName := ⟨"java/lang/StringLatin1", "indexOf", "([BIII)I"⟩
def j_L1_indexOf22 : wq_J := [(.iload_n 1, (0, 0, 0, 0, 0)), (.invokestatic 88, (0, 0, 0, 0, 0)), (.ifCond .ne 5, (0, 9, 0, 0, 0)), (.iconst (-1), (0, 0, 0, (-1), 0)), (.ireturn, (0, 0, 0, 0, 0)), (.iload_n 2, (0, 0, 0, 0, 0)), (.iconst 0, (0, 0, 0, 0, 0)), (.invokestatic 92, (0, 0, 0, 0, 0)), (.istore_n 2, (0, 0, 0, 0, 0)), (.iload_n 3, (0, 0, 0, 0, 0)), (.aload_n 0, (0, 0, 0, 0, 0)), (.arraylength, (2, 0, 0, 0, 0)), (.invokestatic 38, (0, 0, 0, 0, 0)), (.istore_n 3, (0, 0, 0, 0, 0)), (.iload_n 2, (0, 0, 0, 0, 0)), (.iload_n 3, (0, 0, 0, 0, 0)), (.if_icmp .lt 5, (0, 29, 0, 0, 0)), (.iconst (-1), (0, 0, 0, (-1), 0)), (.ireturn, (0, 0, 0, 0, 0)), (.aload_n 0, (0, 0, 0, 0, 0)), (.iload_n 1, (0, 0, 0, 0, 0)), (.iload_n 2, (0, 0, 0, 0, 0)), (.iload_n 3, (0, 0, 0, 0, 0)), (.invokestatic 95, (0, 0, 0, 0, 0)), (.ireturn, (0, 0, 0, 0, 0))]
theorem jc_L1_indexOf22 : wq_c b_L1_indexOf22 4 j_L1_indexOf22 0 = true := by decide +kernel
theorem wm_L1_indexOf22 : wm y_L1_indexOf22 b_L1_indexOf22 4 (some .int) 4 := ⟨gw_i 20 (by decide +kernel) (by decide +kernel), gw_i 641 (by decide +kernel) (by decide +kernel), ⟨by decide, by decide⟩, by decide +kernel⟩
theorem wt_L1_indexOf22 : Cond.static y_L1_indexOf22 ∈ gw := gw_i 640 (by decide +kernel) (by decide +kernel)
abbrev b_L1_canEncode4 : ByteArray := prog_23_method_4_code
def y_L1_canEncode4 : MethodName := ⟨"java/lang/StringLatin1", "canEncode", "(I)Z"⟩
def j_L1_canEncode4 : wq_J := [(.iload_n 0, (0, 0, 0, 0, 0)), (.ifCond .lt 14, (0, 15, 0, 0, 0)), (.iload_n 0, (0, 0, 0, 0, 0)), (.sipush 255, (0, 0, 0, 255, 0)), (.if_icmp .gt 7, (0, 15, 0, 0, 0)), (.iconst 1, (0, 0, 0, 1, 0)), (.goto 4, (0, 16, 0, 0, 0)), (.iconst 0, (0, 0, 0, 0, 0)), (.ireturn, (0, 0, 0, 0, 0))]
theorem jc_L1_canEncode4 : wq_c b_L1_canEncode4 1 j_L1_canEncode4 0 = true := by decide +kernel
theorem wm_L1_canEncode4 : wm y_L1_canEncode4 b_L1_canEncode4 1 (some .boolean) 1 := ⟨gw_i 20 (by decide +kernel) (by decide +kernel), gw_i 644 (by decide +kernel) (by decide +kernel), ⟨by decide, by decide⟩, by decide +kernel⟩
theorem wt_L1_canEncode4 : Cond.static y_L1_canEncode4 ∈ gw := gw_i 643 (by decide +kernel) (by decide +kernel)
abbrev b_L1_indexOfChar23 : ByteArray := prog_23_method_23_code
def y_L1_indexOfChar23 : MethodName := ⟨"java/lang/StringLatin1", "indexOfChar", "([BIII)I"⟩
def j_L1_indexOfChar23 : wq_J := [(.iload_n 1, (0, 0, 0, 0, 0)), (.i2b, (0, 0, 0, 0, 0)), (.istore 4, (0, 0, 0, 0, 0)), (.iload_n 2, (0, 0, 0, 0, 0)), (.istore 5, (0, 0, 0, 0, 0)), (.iload 5, (0, 0, 0, 0, 0)), (.iload_n 3, (0, 0, 0, 0, 0)), (.if_icmp .ge 21, (0, 31, 0, 0, 0)), (.aload_n 0, (0, 0, 0, 0, 0)), (.iload 5, (0, 0, 0, 0, 0)), (.baload, (2, 0, 0, 0, 0)), (.iload 4, (0, 0, 0, 0, 0)), (.if_icmp .ne 6, (0, 25, 0, 0, 0)), (.iload 5, (0, 0, 0, 0, 0)), (.ireturn, (0, 0, 0, 0, 0)), (.iinc 5 1, (0, 0, 0, 1, 0)), (.goto (-21), (0, 7, 0, 0, 0)), (.iconst (-1), (0, 0, 0, (-1), 0)), (.ireturn, (0, 0, 0, 0, 0))]
theorem jc_L1_indexOfChar23 : wq_c b_L1_indexOfChar23 6 j_L1_indexOfChar23 0 = true := by decide +kernel
theorem wm_L1_indexOfChar23 : wm y_L1_indexOfChar23 b_L1_indexOfChar23 6 (some .int) 4 := ⟨gw_i 20 (by decide +kernel) (by decide +kernel), gw_i 649 (by decide +kernel) (by decide +kernel), ⟨by decide, by decide⟩, by decide +kernel⟩
theorem wt_L1_indexOfChar23 : Cond.static y_L1_indexOfChar23 ∈ gw := gw_i 648 (by decide +kernel) (by decide +kernel)
abbrev b_St_charAt56 : ByteArray := prog_21_method_56_code
def y_St_charAt56 : MethodName := ⟨"java/lang/String", "charAt", "(I)C"⟩
def j_St_charAt56 : wq_J := [(.aload_n 0, (0, 0, 0, 0, 0)), (.invokevirtual 492, (0, 0, 0, 0, 0)), (.ifCond .eq 12, (0, 16, 0, 0, 0)), (.aload_n 0, (0, 0, 0, 0, 0)), (.getfield 9, (2, 0, 0, 0, 0)), (.iload_n 1, (0, 0, 0, 0, 0)), (.invokestatic 495, (0, 0, 0, 0, 0)), (.ireturn, (0, 0, 0, 0, 0)), (.aload_n 0, (0, 0, 0, 0, 0)), (.getfield 9, (2, 0, 0, 0, 0)), (.iload_n 1, (0, 0, 0, 0, 0)), (.invokestatic 498, (0, 0, 0, 0, 0)), (.ireturn, (0, 0, 0, 0, 0))]
theorem jc_St_charAt56 : wq_c b_St_charAt56 2 j_St_charAt56 0 = true := by decide +kernel
theorem wm_St_charAt56 : wm y_St_charAt56 b_St_charAt56 2 (some .char) 1 := ⟨gw_i 11 (by decide +kernel) (by decide +kernel), gw_i 691 (by decide +kernel) (by decide +kernel), ⟨by decide, by decide⟩, by decide +kernel⟩
theorem wi_St_charAt56 : Cond.instanceMethod y_St_charAt56 ∈ gw := gw_i 689 (by decide +kernel) (by decide +kernel)
theorem ws_St_St_charAt56 : Cond.selects "java/lang/String" y_St_charAt56 y_St_charAt56 ∈ gw := gw_i 690 (by decide +kernel) (by decide +kernel)
abbrev b_L1_charAt2 : ByteArray := prog_23_method_2_code
def y_L1_charAt2 : MethodName := ⟨"java/lang/StringLatin1", "charAt", "([BI)C"⟩
def j_L1_charAt2 : wq_J := [(.iload_n 1, (0, 0, 0, 0, 0)), (.aload_n 0, (0, 0, 0, 0, 0)), (.arraylength, (2, 0, 0, 0, 0)), (.invokestatic 9, (0, 0, 0, 0, 0)), (.aload_n 0, (0, 0, 0, 0, 0)), (.iload_n 1, (0, 0, 0, 0, 0)), (.baload, (2, 0, 0, 0, 0)), (.sipush 255, (0, 0, 0, 255, 0)), (.iand, (0, 0, 0, 0, 0)), (.i2c, (0, 0, 0, 0, 0)), (.ireturn, (0, 0, 0, 0, 0))]
theorem jc_L1_charAt2 : wq_c b_L1_charAt2 2 j_L1_charAt2 0 = true := by decide +kernel
theorem wm_L1_charAt2 : wm y_L1_charAt2 b_L1_charAt2 2 (some .char) 2 := ⟨gw_i 20 (by decide +kernel) (by decide +kernel), gw_i 694 (by decide +kernel) (by decide +kernel), ⟨by decide, by decide⟩, by decide +kernel⟩
theorem wt_L1_charAt2 : Cond.static y_L1_charAt2 ∈ gw := gw_i 693 (by decide +kernel) (by decide +kernel)
theorem wf_Ab_18 : Cond.fieldLink "java/lang/AbstractStringBuilder" 18 "java/lang/String" "COMPACT_STRINGS" "Z" ∈ gw := gw_i 187 (by decide +kernel) (by decide +kernel)
theorem wf_Ab_15 : Cond.fieldLink "java/lang/AbstractStringBuilder" 15 "java/lang/AbstractStringBuilder" "value" "[B" ∈ gw := gw_i 196 (by decide +kernel) (by decide +kernel)
theorem wf_Ab_22 : Cond.fieldLink "java/lang/AbstractStringBuilder" 22 "java/lang/AbstractStringBuilder" "coder" "B" ∈ gw := gw_i 197 (by decide +kernel) (by decide +kernel)
theorem wf_Ab_73 : Cond.fieldLink "java/lang/AbstractStringBuilder" 73 "java/lang/AbstractStringBuilder" "maybeLatin1" "Z" ∈ gw := gw_i 198 (by decide +kernel) (by decide +kernel)
theorem wf_St_1048 : Cond.fieldLink "java/lang/String" 1048 "java/lang/AbstractStringBuilder" "maybeLatin1" "Z" ∈ gw := gw_i 199 (by decide +kernel) (by decide +kernel)
theorem wf_Ab_79 : Cond.fieldLink "java/lang/AbstractStringBuilder" 79 "java/lang/AbstractStringBuilder" "count" "I" ∈ gw := gw_i 200 (by decide +kernel) (by decide +kernel)
theorem wf_St_1053 : Cond.fieldLink "java/lang/String" 1053 "jdk/internal/util/Preconditions" "SIOOBE_FORMATTER" "Ljava/util/function/BiFunction;" ∈ gw := gw_i 395 (by decide +kernel) (by decide +kernel)
theorem wf_U6_44 : Cond.fieldLink "java/lang/StringUTF16" 44 "java/lang/StringUTF16" "$assertionsDisabled" "Z" ∈ gw := gw_i 403 (by decide +kernel) (by decide +kernel)
theorem wf_U6_59 : Cond.fieldLink "java/lang/StringUTF16" 59 "java/lang/StringUTF16" "HI_BYTE_SHIFT" "I" ∈ gw := gw_i 405 (by decide +kernel) (by decide +kernel)
theorem wf_U6_63 : Cond.fieldLink "java/lang/StringUTF16" 63 "java/lang/StringUTF16" "LO_BYTE_SHIFT" "I" ∈ gw := gw_i 407 (by decide +kernel) (by decide +kernel)
theorem wl_U6_414 : Cond.methodLink "java/lang/StringUTF16" 414 y_St_checkIndex155 ∈ gw := gw_i 415 (by decide +kernel) (by decide +kernel)
theorem wl_St_1059 : Cond.methodLink "java/lang/String" 1059 y_Pr_checkIndex11 ∈ gw := gw_i 418 (by decide +kernel) (by decide +kernel)
theorem wf_In_83 : Cond.fieldLink "java/lang/Integer" 83 "java/lang/Integer" "DigitOnes" "[B" ∈ gw := gw_i 434 (by decide +kernel) (by decide +kernel)
theorem wf_In_87 : Cond.fieldLink "java/lang/Integer" 87 "java/lang/Integer" "DigitTens" "[B" ∈ gw := gw_i 436 (by decide +kernel) (by decide +kernel)
theorem wf_U6_403 : Cond.fieldLink "java/lang/StringUTF16" 403 "java/lang/Integer" "DigitOnes" "[B" ∈ gw := gw_i 453 (by decide +kernel) (by decide +kernel)
theorem wf_U6_407 : Cond.fieldLink "java/lang/StringUTF16" 407 "java/lang/Integer" "DigitTens" "[B" ∈ gw := gw_i 454 (by decide +kernel) (by decide +kernel)
theorem wf_St_38 : Cond.fieldLink "java/lang/String" 38 "java/lang/String" "COMPACT_STRINGS" "Z" ∈ gw := gw_i 491 (by decide +kernel) (by decide +kernel)
theorem wf_St_9 : Cond.fieldLink "java/lang/String" 9 "java/lang/String" "value" "[B" ∈ gw := gw_i 505 (by decide +kernel) (by decide +kernel)
theorem wf_St_15 : Cond.fieldLink "java/lang/String" 15 "java/lang/String" "coder" "B" ∈ gw := gw_i 506 (by decide +kernel) (by decide +kernel)
theorem wl_Rd_64 : Cond.methodLink "OriginDesk$Reader" 64 y_St_indexOf79 ∈ gw := gw_i 619 (by decide +kernel) (by decide +kernel)
theorem wl_St_633 : Cond.methodLink "java/lang/String" 633 y_St_indexOf80 ∈ gw := gw_i 623 (by decide +kernel) (by decide +kernel)
theorem wl_St_492 : Cond.methodLink "java/lang/String" 492 y_St_isLatin1154 ∈ gw := gw_i 627 (by decide +kernel) (by decide +kernel)
theorem wl_St_505 : Cond.methodLink "java/lang/String" 505 y_St_length54 ∈ gw := gw_i 631 (by decide +kernel) (by decide +kernel)
theorem wl_St_335 : Cond.methodLink "java/lang/String" 335 y_St_coder152 ∈ gw := gw_i 635 (by decide +kernel) (by decide +kernel)
theorem wl_St_637 : Cond.methodLink "java/lang/String" 637 y_L1_indexOf22 ∈ gw := gw_i 639 (by decide +kernel) (by decide +kernel)
theorem wl_L1_88 : Cond.methodLink "java/lang/StringLatin1" 88 y_L1_canEncode4 ∈ gw := gw_i 642 (by decide +kernel) (by decide +kernel)
theorem wl_L1_95 : Cond.methodLink "java/lang/StringLatin1" 95 y_L1_indexOfChar23 ∈ gw := gw_i 647 (by decide +kernel) (by decide +kernel)
theorem wl_Rd_45 : Cond.methodLink "OriginDesk$Reader" 45 y_St_length54 ∈ gw := gw_i 687 (by decide +kernel) (by decide +kernel)
theorem wl_Rd_51 : Cond.methodLink "OriginDesk$Reader" 51 y_St_charAt56 ∈ gw := gw_i 688 (by decide +kernel) (by decide +kernel)
theorem wl_St_495 : Cond.methodLink "java/lang/String" 495 y_L1_charAt2 ∈ gw := gw_i 692 (by decide +kernel) (by decide +kernel)
theorem wl_L1_9 : Cond.methodLink "java/lang/StringLatin1" 9 y_St_checkIndex155 ∈ gw := gw_i 695 (by decide +kernel) (by decide +kernel)
theorem wl_Rs_72 : Cond.methodLink "OriginDesk$Response" 72 y_St_length54 ∈ gw := gw_i 1057 (by decide +kernel) (by decide +kernel)
theorem wl_Ab_32 : Cond.methodLink "java/lang/AbstractStringBuilder" 32 y_St_length54 ∈ gw := gw_i 1097 (by decide +kernel) (by decide +kernel)
theorem wl_Ab_40 : Cond.methodLink "java/lang/AbstractStringBuilder" 40 y_St_coder152 ∈ gw := gw_i 1106 (by decide +kernel) (by decide +kernel)
theorem wl_Ab_144 : Cond.methodLink "java/lang/AbstractStringBuilder" 144 y_St_checkIndex155 ∈ gw := gw_i 1154 (by decide +kernel) (by decide +kernel)
theorem wl_Rs_88 : Cond.methodLink "OriginDesk$Response" 88 y_St_charAt56 ∈ gw := gw_i 1156 (by decide +kernel) (by decide +kernel)
end
section
/-! STRINGS: what is only read of them, and the JDK's own methods, by program (wip/whole/gen/p16.py) -/
theorem ro_and {F G : (Nat → Prop) → State → Heap → Prop} (hF : RO F) (hG : RO G) : RO (fun A U H => F A U H ∧ G A U H) :=
  ⟨fun A u U H ha h => ⟨hF.1 A u U H ha h.1, hG.1 A u U H ha h.2⟩, fun A U H H1 hq h => ⟨hF.2.1 A U H H1 hq h.1, hG.2.1 A U H H1 hq h.2⟩, fun A B U H hq h => ⟨hF.2.2 A B U H hq h.1, hG.2.2 A B U H hq h.2⟩⟩
def csF : (Nat → Prop) → State → Heap → Prop := fun A U H => va_Z "java/lang/String" "COMPACT_STRINGS" "Z" (.int 1) A U H ∧ va_Zq "jdk/internal/util/Preconditions" "SIOOBE_FORMATTER" "Ljava/util/function/BiFunction;" A U H
theorem csF_ro : RO csF := ⟨fun _ _ _ _ ha h => ⟨h.1.moved ha.alike, h.2.moved ha.alike⟩, fun _ _ _ _ hq h => ⟨h.1.kept hq, h.2.kept hq⟩, fun _ _ _ _ hq h => ⟨h.1.narrow hq, h.2.narrow hq⟩⟩
def isW (W : List Nat) : Prop := W.length < 2 ^ 31 ∧ ∀ x ∈ W, x < 256
/-- the bytes of a text -/
def bytF (v : Nat) (W : List Nat) : (Nat → Prop) → State → Heap → Prop := fun A U H => va_T .byte v W.length (fun j => .int (sb_b (W.getD j 0))) A U H
theorem bytF_ro (v : Nat) (W : List Nat) : RO (bytF v W) := ⟨fun _ _ _ _ ha h => va_T.moved ha.alike h, fun _ _ _ _ hq h => va_T.kept h hq, fun _ _ _ _ hq h => va_T.narrow h hq⟩
/-- a text: a String with these characters -/
def strF (a : Nat) (W : List Nat) : (Nat → Prop) → State → Heap → Prop := fun A U H => va_O "java/lang/String" a A U H ∧ va_OF "java/lang/String" "coder" "B" (.int 0) a A U H ∧ ∃ v, va_OF "java/lang/String" "value" "[B" (.ref v) a A U H ∧ bytF v W A U H
theorem strF_ro (a : Nat) (W : List Nat) : RO (strF a W) := by
  refine ⟨fun A u U H ha h => ?_, fun A U H H1 hq h => ?_, fun A B U H hq h => ?_⟩
  · obtain ⟨h1, h2, v, h3, h4⟩ := h
    exact ⟨h1.moved ha.alike, h2.moved ha.alike, v, h3.moved ha.alike, (bytF_ro v W).1 _ _ _ _ ha h4⟩
  · obtain ⟨h1, h2, v, h3, h4⟩ := h
    exact ⟨h1.kept hq, h2.kept hq, v, h3.kept hq, (bytF_ro v W).2.1 _ _ _ _ hq h4⟩
  · obtain ⟨h1, h2, v, h3, h4⟩ := h
    exact ⟨h1.narrow hq, h2.narrow hq, v, h3.narrow hq, (bytF_ro v W).2.2 _ _ _ _ hq h4⟩
def tF (a : Nat) (W : List Nat) : (Nat → Prop) → State → Heap → Prop := fun A U H => csF A U H ∧ strF a W A U H
theorem tF_ro (a : Nat) (W : List Nat) : RO (tF a W) := ro_and csF_ro (strF_ro a W)
theorem gd_lt {W : List Nat} (h : isW W) (k : Nat) : W.getD k 0 < 256 := by
  by_cases e : k < W.length
  · rw [List.getD_eq_getElem?_getD, List.getElem?_eq_getElem e]; exact h.2 _ (List.getElem_mem e)
  · rw [List.getD_eq_getElem?_getD, List.getElem?_eq_none (by omega)]; decide
section
variable {p : Program} {l : Launch} {e : Env} {R : Room} {s : State} {m : MethodId} {args : Array Value} {below : List Frame} {meth : Method} {c : Code} {cc : ByteArray} {nL : Nat} {D : va_G} {tys : List (ClassId × FieldType)} {A : Nat → Prop} {tc : Nat → ClassId} {Q : State → Prop} {st rest : List Value} {k n : Nat} {post : Option Value → Prop} {F : (Nat → Prop) → State → Heap → Prop} {ret : Option FieldType} {K : List Value → va_W → Nat → Nat → Prop} {y y0 : MethodName} {bytes b0 : ByteArray} {maxL n0 index nA fr lo : Nat} {r0 : Option FieldType} {b : Nat} {As : List Value} {own : String} {ws : va_W}
theorem idx_all (ws : va_W) : (List.range ws.length).map (fun i => ws[i]?) = ws.map some := by
  apply List.ext_getElem?
  intro i
  simp only [List.getElem?_map]
  by_cases h : i < ws.length
  · simp [h]
  · simp [h]
theorem nd_range (n : Nat) : va_nd (List.range n) = true := by
  have : ∀ (L : List Nat), L.Nodup → va_nd L = true := by
    intro L hL
    induction L with
    | nil => rfl
    | cons a t ih => rw [va_nd, Bool.and_eq_true]; exact ⟨by simpa using (List.nodup_cons.mp hL).1, ih (List.nodup_cons.mp hL).2⟩
  exact this _ List.nodup_range
/-- a static method that owns no cell -/
theorem calls0 (hC : Cx p s m args c cc nL own (yw y0 b0 n0 r0) D cls tys A tc) (hk : Kt l y (yw y bytes maxL ret) fr lo 0 0 D cls tys F As [] (fun r w => post r ∧ w = [])) (hFc : F A s s.heap) (hwm : wm y bytes maxL ret nA) (hl : Cond.methodLink own index y ∈ gw) (hi : Cond.static y ∈ gw) (hR : fr + 1 ≤ R.frames ∧ 8 + (maxL + 11) + lo ≤ R.locals) (hlen : As.length = nA) (hst : st = As.reverse ++ rest) (hW : (rest.map fun v => v.category).sum ≤ 8) (hkn : k ≤ R.cells ∧ n ≤ R.slots)
    (kk : ∀ (r : Option Value), post r → K (r.toList ++ rest) ws k n) : vx_SX cc (Vx p l e R s m args below meth c nL D cls A Q) (.invokestatic index) 3 st ws k n K := by
  refine sx_callS (wr := ws) (wc := []) hC hk (cw_S hwm hl hi hC.2.2.2.2.1 hR) [] (List.range ws.length) rfl (idx_all ws) rfl (nd_range _) (by simp) (vx_ro hk.1 hC.2.2.2.2.2.2.1 hFc [] rfl) hlen hst hW hkn (fun r w1 hp => ?_)
  obtain ⟨h1, rfl⟩ := hp
  rw [List.append_nil]
  exact kk r h1
/-- a virtual method that owns no cell, on an object that is only read -/
theorem callv0 (hC : Cx p s m args c cc nL own (yw y0 b0 n0 r0) D cls tys A tc) (hk : Kt l y (yw y bytes maxL ret) fr lo 0 0 D cls tys F (.ref b :: As) [] (fun r w => post r ∧ w = [])) (hFc : F A s s.heap) (hO : va_O y.cls b A s s.heap) (hwm : wm y bytes maxL ret nA) (hl : Cond.methodLink own index y ∈ gw) (hi : Cond.instanceMethod y ∈ gw) (hs : Cond.selects y.cls y y ∈ gw) (hR : fr + 1 ≤ R.frames ∧ 8 + (maxL + 11) + lo ≤ R.locals) (hlen : As.length = nA) (hst : st = As.reverse ++ .ref b :: rest) (hW : (rest.map fun v => v.category).sum ≤ 8) (hkn : k ≤ R.cells ∧ n ≤ R.slots)
    (kk : ∀ (r : Option Value), post r → K (r.toList ++ rest) ws k n) : vx_SX cc (Vx p l e R s m args below meth c nL D cls A Q) (.invokevirtual index) 3 st ws k n K := by
  intro pc lv hdg hK
  subst hst
  have cw := cw_V (fr := fr) (lo := lo) (mc := 0) (ms := 0) (R := R) (C := y.cls) hwm hl hi hs hC.2.2.2.2.1 hR
  have hro := vx_ro (ws := ws) (wc := []) (D := D) (cl := cls) hk.1 hC.2.2.2.2.2.2.1 hFc [] rfl
  obtain ⟨hx, hb, hml, hown, hts, hKK, hA, hty⟩ := hC
  refine vx_call hA (rest := rest) (wc := []) (wr := ws) (mc := 0) (ms := 0) (post := fun r w => post r ∧ w = []) (a := (Value.ref b :: As).toArray) (fun H locs ls hP hD hS hl => ?_) [] (List.range ws.length) rfl (idx_all ws) (nd_range _) (by simp) (fun r w1 hp => ?_)
  · have hPc : va_P D cls [] H := fun k q h => by simp at h
    have hDc : va_D A [] := ⟨fun i j p q h => by simp at h, fun k q h => by simp at h⟩
    exact va_runV (As := As) (rest := rest) ⟨hx, hb, hml, hown, hts⟩ (hk.2 H.size) cw ⟨Kp.blind hk.1, va_Orecv hO hS, fun U hU hW => ⟨rfl, by rw [hU], by rw [hU]; exact hPc, va_K.moved hW.alike hKK, hDc.weaken (fun _ _ _ _ => trivial), by rw [hU]; exact hk.1.1 _ s U H hW (hro H locs hP hD hS)⟩⟩ rfl hlen hl.1 rfl (lv_room hW) hdg hkn
  · obtain ⟨h1, rfl⟩ := hp
    rw [List.append_nil]
    exact hK _ _ _ _ (kk r h1)
end
set_option maxRecDepth 100000 in
set_option maxHeartbeats 4000000 in
theorem c_St_coder152 (l : Launch) (D : va_G) (tys : List (ClassId × FieldType)) (tc : Nat → ClassId) (hty : ∀ i : Nat, i < 4 → tys[i]? = some (tc i, vx_ty i)) (a : Nat) (W : List Nat) (hWW : isW W) : Kt l y_St_coder152 (yw y_St_coder152 b_St_coder152 1 (some .byte)) 0 0 0 0 D cls tys (tF a W) [.ref a] [] (fun r w => r = some (.int 0) ∧ w = []) := by
  refine Kt.of (tF_ro a W) (by decide) rfl hty (Nat.le_of_ble_eq_true rfl) ?_
  intro p e s m args below meth c0 A hC hr hlk hnm hF
  have hFt : vx_Ft y_St_coder152.cls (yw y_St_coder152 b_St_coder152 1 (some .byte)) cls cty [] := (fun q h => by cases h)
  have hini : false = true → meth.name = "<init>" := fun h => by cases h
  have hF0 := hF
  obtain ⟨hcs, hO, hco, v, hv, hb⟩ := hF
  refine vx_go hC hFt hini (vx_ends hC hr hlk) jc_St_coder152 0 (by decide) rfl ?_
  refine ⟨_, ⟨"java/lang/String", "COMPACT_STRINGS", "Z", "java/lang/String", hcs.1, Or.inl (hC.2.2.2.2.1 _ (List.mem_cons_of_mem _ wf_St_38)), fun _ z => z⟩, ?_⟩
  refine And.intro (fun c1 => ?_) (fun c1 => ?_)
  · skip
    exact absurd c1 (by decide)
  · skip
    refine ⟨_, ⟨"java/lang/String", "coder", "B", "java/lang/String", hco, Or.inl (hC.2.2.2.2.1 _ (List.mem_cons_of_mem _ wf_St_15)), fun _ z => z⟩, ?_⟩
    refine vx_go hC hFt hini (vx_ends hC hr hlk) jc_St_coder152 6 (by decide) rfl ?_
    refine And.intro (rfl) (And.intro ?_ (And.intro (Nat.le_refl _) (Nat.le_refl _)))
    exact And.intro rfl rfl
set_option maxRecDepth 100000 in
set_option maxHeartbeats 4000000 in
theorem c_St_isLatin1154 (l : Launch) (D : va_G) (tys : List (ClassId × FieldType)) (tc : Nat → ClassId) (hty : ∀ i : Nat, i < 4 → tys[i]? = some (tc i, vx_ty i)) (a : Nat) (W : List Nat) (hWW : isW W) : Kt l y_St_isLatin1154 (yw y_St_isLatin1154 b_St_isLatin1154 1 (some .boolean)) 0 0 0 0 D cls tys (tF a W) [.ref a] [] (fun r w => r = some (.int 1) ∧ w = []) := by
  refine Kt.of (tF_ro a W) (by decide) rfl hty (Nat.le_of_ble_eq_true rfl) ?_
  intro p e s m args below meth c0 A hC hr hlk hnm hF
  have hFt : vx_Ft y_St_isLatin1154.cls (yw y_St_isLatin1154 b_St_isLatin1154 1 (some .boolean)) cls cty [] := (fun q h => by cases h)
  have hini : false = true → meth.name = "<init>" := fun h => by cases h
  have hF0 := hF
  obtain ⟨hcs, hO, hco, v, hv, hb⟩ := hF
  refine vx_go hC hFt hini (vx_ends hC hr hlk) jc_St_isLatin1154 0 (by decide) rfl ?_
  refine ⟨_, ⟨"java/lang/String", "COMPACT_STRINGS", "Z", "java/lang/String", hcs.1, Or.inl (hC.2.2.2.2.1 _ (List.mem_cons_of_mem _ wf_St_38)), fun _ z => z⟩, ?_⟩
  refine And.intro (fun c1 => ?_) (fun c1 => ?_)
  · skip
    exact absurd c1 (by decide)
  · skip
    refine ⟨_, ⟨"java/lang/String", "coder", "B", "java/lang/String", hco, Or.inl (hC.2.2.2.2.1 _ (List.mem_cons_of_mem _ wf_St_15)), fun _ z => z⟩, ?_⟩
    refine And.intro (fun c4 => ?_) (fun c4 => ?_)
    · skip
      exact absurd rfl c4
    · skip
      refine vx_go hC hFt hini (vx_ends hC hr hlk) jc_St_isLatin1154 8 (by decide) rfl ?_
      refine And.intro (rfl) (And.intro ?_ (And.intro (Nat.le_refl _) (Nat.le_refl _)))
      exact And.intro rfl rfl
set_option maxRecDepth 100000 in
set_option maxHeartbeats 4000000 in
theorem c_St_length54 (l : Launch) (D : va_G) (tys : List (ClassId × FieldType)) (tc : Nat → ClassId) (hty : ∀ i : Nat, i < 4 → tys[i]? = some (tc i, vx_ty i)) (a : Nat) (W : List Nat) (hWW : isW W) : Kt l y_St_length54 (yw y_St_length54 b_St_length54 1 (some .int)) 1 20 0 0 D cls tys (tF a W) [.ref a] [] (fun r w => r = some (.int (nI W.length)) ∧ w = []) := by
  refine Kt.of (tF_ro a W) (by decide) rfl hty (Nat.le_of_ble_eq_true rfl) ?_
  intro p e s m args below meth c0 A hC hr hlk hnm hF
  have hFt : vx_Ft y_St_length54.cls (yw y_St_length54 b_St_length54 1 (some .int)) cls cty [] := (fun q h => by cases h)
  have hini : false = true → meth.name = "<init>" := fun h => by cases h
  have hF0 := hF
  obtain ⟨hcs, hO, hco, v, hv, hb⟩ := hF
  refine vx_go hC hFt hini (vx_ends hC hr hlk) jc_St_length54 0 (by decide) rfl ?_
  refine ⟨_, ⟨"java/lang/String", "value", "[B", "java/lang/String", hv, Or.inl (hC.2.2.2.2.1 _ (List.mem_cons_of_mem _ wf_St_9)), fun _ z => z⟩, ?_⟩
  refine ⟨1, _, _, hb, ?_⟩
  refine callv0 hC (c_St_coder152 l D tys tc hty a W hWW) hF0 hO wm_St_coder152 wl_St_335 wi_St_coder152 ws_St_St_coder152 ⟨by decide, by decide⟩ rfl rfl (Nat.le_of_ble_eq_true rfl) ⟨Nat.zero_le _, Nat.zero_le _⟩ (fun r' hp => ?_)
  subst hp
  refine And.intro (trivial) (And.intro ?_ (And.intro (Nat.le_refl _) (Nat.le_refl _)))
  refine And.intro ?_ rfl
  rw [sb_shr0]
set_option maxRecDepth 100000 in
set_option maxHeartbeats 4000000 in
theorem c_Pr_checkIndex11 (l : Launch) (D : va_G) (tys : List (ClassId × FieldType)) (tc : Nat → ClassId) (hty : ∀ i : Nat, i < 4 → tys[i]? = some (tc i, vx_ty i)) (i n : Nat) (g : Option Nat) (hi : i < n) (hn : n < 2 ^ 31) : Kt l y_Pr_checkIndex11 (yw y_Pr_checkIndex11 b_Pr_checkIndex11 3 (some .int)) 0 0 0 0 D cls tys (fun _ _ _ => True) [.int (nI i), .int (nI n), va_rf g] [] (fun r w => r = some (.int (nI i)) ∧ w = []) := by
  cases g
  all_goals
    refine Kt.of ro_true (by decide) rfl hty (Nat.le_of_ble_eq_true rfl) ?_
    intro p e s m args below meth c0 A hC hr hlk hnm hF
    have hFt : vx_Ft y_Pr_checkIndex11.cls (yw y_Pr_checkIndex11 b_Pr_checkIndex11 3 (some .int)) cls cty [] := (fun q h => by cases h)
    have hini : false = true → meth.name = "<init>" := fun h => by cases h
    refine vx_go hC hFt hini (vx_ends hC hr hlk) jc_Pr_checkIndex11 0 (by decide) rfl ?_
    refine And.intro (fun c1 => ?_) (fun c1 => ?_)
    · skip
      exact absurd c1 (nI_pos (by omega))
    · skip
      refine And.intro (fun c4 => ?_) (fun c4 => ?_)
      · skip
        refine vx_go hC hFt hini (vx_ends hC hr hlk) jc_Pr_checkIndex11 10 (by decide) rfl ?_
        refine And.intro (trivial) (And.intro ?_ (And.intro (Nat.le_refl _) (Nat.le_refl _)))
        exact And.intro rfl rfl
      · skip
        exact absurd (nI_lt hi hn) c4
set_option maxRecDepth 100000 in
set_option maxHeartbeats 4000000 in
theorem c_St_checkIndex155 (l : Launch) (D : va_G) (tys : List (ClassId × FieldType)) (tc : Nat → ClassId) (hty : ∀ i : Nat, i < 4 → tys[i]? = some (tc i, vx_ty i)) (i n : Nat) (hi : i < n) (hn : n < 2 ^ 31) : Kt l y_St_checkIndex155 (yw y_St_checkIndex155 b_St_checkIndex155 2 none) 1 22 0 0 D cls tys csF [.int (nI i), .int (nI n)] [] (fun r w => r = none ∧ w = []) := by
  refine Kt.of csF_ro (by decide) rfl hty (Nat.le_of_ble_eq_true rfl) ?_
  intro p e s m args below meth c0 A hC hr hlk hnm hF
  have hFt : vx_Ft y_St_checkIndex155.cls (yw y_St_checkIndex155 b_St_checkIndex155 2 none) cls cty [] := (fun q h => by cases h)
  have hini : false = true → meth.name = "<init>" := fun h => by cases h
  refine vx_go hC hFt hini (vx_ends hC hr hlk) jc_St_checkIndex155 0 (by decide) rfl ?_
  obtain ⟨g, hg⟩ : ∃ g : Option Nat, va_Z "jdk/internal/util/Preconditions" "SIOOBE_FORMATTER" "Ljava/util/function/BiFunction;" (va_rf g) A s s.heap := by
    rcases hF.2 with z | ⟨t, z⟩
    · exact ⟨none, z⟩
    · exact ⟨some t, z⟩
  refine ⟨_, ⟨"jdk/internal/util/Preconditions", "SIOOBE_FORMATTER", "Ljava/util/function/BiFunction;", "jdk/internal/util/Preconditions", hg, Or.inl (hC.2.2.2.2.1 _ (List.mem_cons_of_mem _ wf_St_1053)), fun _ z => z⟩, ?_⟩
  refine calls0 hC (c_Pr_checkIndex11 l D tys tc hty i n g hi hn) trivial wm_Pr_checkIndex11 wl_St_1059 wt_Pr_checkIndex11 ⟨by decide, by decide⟩ rfl rfl (Nat.le_of_ble_eq_true rfl) ⟨Nat.zero_le _, Nat.zero_le _⟩ (fun r' hp => ?_)
  subst hp
  refine And.intro rfl ?_
  refine And.intro (trivial) (And.intro ?_ (And.intro (Nat.le_refl _) (Nat.le_refl _)))
  exact And.intro rfl rfl
set_option maxRecDepth 100000 in
set_option maxHeartbeats 4000000 in
theorem c_L1_charAt2 (l : Launch) (D : va_G) (tys : List (ClassId × FieldType)) (tc : Nat → ClassId) (hty : ∀ i : Nat, i < 4 → tys[i]? = some (tc i, vx_ty i)) (v : Nat) (W : List Nat) (hWW : isW W) (k : Nat) (hk : k < W.length) : Kt l y_L1_charAt2 (yw y_L1_charAt2 b_L1_charAt2 2 (some .char)) 2 43 0 0 D cls tys (fun A U H => csF A U H ∧ bytF v W A U H) [.ref v, .int (nI k)] [] (fun r w => r = some (.int (nI (W.getD k 0))) ∧ w = []) := by
  refine Kt.of (ro_and csF_ro (bytF_ro v W)) (by decide) rfl hty (Nat.le_of_ble_eq_true rfl) ?_
  intro p e s m args below meth c0 A hC hr hlk hnm hF
  have hFt : vx_Ft y_L1_charAt2.cls (yw y_L1_charAt2 b_L1_charAt2 2 (some .char)) cls cty [] := (fun q h => by cases h)
  have hini : false = true → meth.name = "<init>" := fun h => by cases h
  refine vx_go hC hFt hini (vx_ends hC hr hlk) jc_L1_charAt2 0 (by decide) rfl ?_
  refine ⟨1, _, _, hF.2, ?_⟩
  refine calls0 hC (c_St_checkIndex155 l D tys tc hty k W.length hk hWW.1) hF.1 wm_St_checkIndex155 wl_L1_9 wt_St_checkIndex155 ⟨by decide, by decide⟩ rfl rfl (Nat.le_of_ble_eq_true rfl) ⟨Nat.zero_le _, Nat.zero_le _⟩ (fun r' hp => ?_)
  subst hp
  refine ⟨_, _, hF.2, vp_in_nI hk hWW.1, ?_⟩
  rw [nI_clamp (by have := hWW.1; omega)]
  refine And.intro ((by rw [(sb_byte _ (gd_lt hWW k)).1, (sb_byte _ (gd_lt hWW k)).2.1]; exact (pk_charN (by have := gd_lt hWW k; omega)).1)) (And.intro ?_ (And.intro (Nat.le_refl _) (Nat.le_refl _)))
  refine And.intro ?_ rfl
  rw [(sb_byte _ (gd_lt hWW k)).1, (sb_byte _ (gd_lt hWW k)).2.1]
set_option maxRecDepth 100000 in
set_option maxHeartbeats 4000000 in
theorem c_St_charAt56 (l : Launch) (D : va_G) (tys : List (ClassId × FieldType)) (tc : Nat → ClassId) (hty : ∀ i : Nat, i < 4 → tys[i]? = some (tc i, vx_ty i)) (a : Nat) (W : List Nat) (hWW : isW W) (k : Nat) (hk : k < W.length) : Kt l y_St_charAt56 (yw y_St_charAt56 b_St_charAt56 2 (some .char)) 3 64 0 0 D cls tys (tF a W) [.ref a, .int (nI k)] [] (fun r w => r = some (.int (nI (W.getD k 0))) ∧ w = []) := by
  refine Kt.of (tF_ro a W) (by decide) rfl hty (Nat.le_of_ble_eq_true rfl) ?_
  intro p e s m args below meth c0 A hC hr hlk hnm hF
  have hFt : vx_Ft y_St_charAt56.cls (yw y_St_charAt56 b_St_charAt56 2 (some .char)) cls cty [] := (fun q h => by cases h)
  have hini : false = true → meth.name = "<init>" := fun h => by cases h
  have hF0 := hF
  obtain ⟨hcs, hO, hco, v, hv, hb⟩ := hF
  refine vx_go hC hFt hini (vx_ends hC hr hlk) jc_St_charAt56 0 (by decide) rfl ?_
  refine callv0 hC (c_St_isLatin1154 l D tys tc hty a W hWW) hF0 hO wm_St_isLatin1154 wl_St_492 wi_St_isLatin1154 ws_St_St_isLatin1154 ⟨by decide, by decide⟩ rfl rfl (Nat.le_of_ble_eq_true rfl) ⟨Nat.zero_le _, Nat.zero_le _⟩ (fun r' hp => ?_)
  subst hp
  refine And.intro (fun c2 => ?_) (fun c2 => ?_)
  · skip
    exact absurd c2 (by decide)
  · skip
    refine ⟨_, ⟨"java/lang/String", "value", "[B", "java/lang/String", hv, Or.inl (hC.2.2.2.2.1 _ (List.mem_cons_of_mem _ wf_St_9)), fun _ z => z⟩, ?_⟩
    refine calls0 hC (c_L1_charAt2 l D tys tc hty v W hWW k hk) ⟨hcs, hb⟩ wm_L1_charAt2 wl_St_495 wt_L1_charAt2 ⟨by decide, by decide⟩ rfl rfl (Nat.le_of_ble_eq_true rfl) ⟨Nat.zero_le _, Nat.zero_le _⟩ (fun r' hp => ?_)
    subst hp
    refine And.intro (((pk_charN (by have := gd_lt hWW k; omega)).1)) (And.intro ?_ (And.intro (Nat.le_refl _) (Nat.le_refl _)))
    exact And.intro rfl rfl
end
section
/-! THE READER AND STRINGS, by program (wip/whole/gen/p17.py) -/
/-- the characters W come next -/
def tt : List Nat → List Nat → Bool × List Nat
  | [], rs => (true, rs)
  | c :: W, rs => match pk c rs with
    | (true, r) => tt W r
    | (false, r) => (false, r)
/-- they come next, letters alike -/
def ta : List Nat → List Nat → Bool × List Nat
  | [], rs => (true, rs)
  | _ :: _, [] => (false, [])
  | c :: W, x :: r => if lwr x = lwr c then ta W r else (false, x :: r)
theorem drop_get {W : List Nat} {i : Nat} (h : i < W.length) : W.drop i = W.getD i 0 :: W.drop (i + 1) := by
  rw [List.drop_eq_getElem_cons h, List.getD_eq_getElem?_getD, List.getElem?_eq_getElem h]; rfl
theorem drop_end {W : List Nat} {i : Nat} (h : W.length ≤ i) : W.drop i = [] := List.drop_eq_nil_iff.mpr h
theorem lwr_lt {x : Nat} (h : x < 256) : lwr x < 512 := by unfold lwr; split <;> omega
def sameL (S W : List Nat) : Bool := decide (S = W)
def alikeL (S W : List Nat) : Bool := decide (S.map lwr = W.map lwr)
theorem ext_get {S W : List Nat} (h : S.length = W.length) (h2 : ∀ i, i < S.length → S.getD i 0 = W.getD i 0) : S = W := by
  apply List.ext_getElem h
  intro i h3 h4
  have := h2 i h3
  rwa [List.getD_eq_getElem?_getD, List.getElem?_eq_getElem h3, List.getD_eq_getElem?_getD, List.getElem?_eq_getElem h4] at this
theorem get_map {S : List Nat} {i : Nat} (h : i < S.length) : (S.map lwr).getD i 0 = lwr (S.getD i 0) := by
  rw [List.getD_eq_getElem?_getD, List.getElem?_map, List.getElem?_eq_getElem h, List.getD_eq_getElem?_getD, List.getElem?_eq_getElem h]; rfl
set_option maxRecDepth 100000 in
set_option maxHeartbeats 4000000 in
theorem c_Rd_takeText (l : Launch) (D : va_G) (tys : List (ClassId × FieldType)) (tc : Nat → ClassId) (hty : ∀ i : Nat, i < 4 → tys[i]? = some (tc i, vx_ty i)) (ci : Nat) (hci : ci < 5) (h ra sa : Nat) (ex : List Value) (T rs : List Nat) (sd : Nat → Int32) (ss : Nat) (hT : isT T) (hs : rs <:+ T) (a : Nat) (W : List Nat) (hWW : isW W) : Kt l y_Rd_takeText (yw y_Rd_takeText b_Rd_takeText 3 (some .boolean)) 4 85 0 0 D cls tys (fun A U H => rdF ra T A U H ∧ tF a W A U H) [.ref h, .ref a] (rdW tc ci h ra sa ex T rs sd ss) (fun r w => r = some (.int (bI (tt W rs).1)) ∧ w = rdW tc ci h ra sa ex T (tt W rs).2 sd ss) := by
  refine Kt.of (ro_and (rdF_ro ra T) (tF_ro a W)) (by decide) rfl hty (Nat.le_of_ble_eq_true rfl) ?_
  intro p e s m args below meth c0 A hC hr hlk hnm hF
  have hFt : vx_Ft y_Rd_takeText.cls (yw y_Rd_takeText b_Rd_takeText 3 (some .boolean)) cls cty ft_Rd := ft_of (fun w h => List.mem_cons_of_mem _ h) fl_Rd_in ft_Rd_b
  have hini : false = true → meth.name = "<init>" := fun h => by cases h
  have hF0 := hF.1
  have hFt0 := hF.2
  have hO := hF.2.2.1
  obtain ⟨N, f, hrow, hN, hf⟩ := hF.1
  have hTl := hT.1
  have hWl := hWW.1
  rcases (show ci = 0 ∨ ci = 1 ∨ ci = 2 ∨ ci = 3 ∨ ci = 4 by omega) with rfl | rfl | rfl | rfl | rfl
  all_goals
    refine vx_gon hC hFt hini (vx_ends hC hr hlk) jc_Rd_takeText 0 2 (by decide) rfl ?_
    generalize hres : tt W rs = RES
    refine Vx.subL (lv' := [(0, .ref h), (1, .ref a), (2, .int (nI 0))]) [1, 2, 0] rfl ?_
    obtain ⟨i, hi⟩ : ∃ i : Nat, i = 0 := ⟨_, rfl⟩
    refine Vx.eqs rfl (lv2 := [(0, .ref h), (1, .ref a), (2, .int (nI i))]) (by rw [hi]) rfl rfl ?_
    replace hres : tt (W.drop i) rs = RES := by rw [hi, List.drop_zero]; exact hres
    have hil : i ≤ W.length := by omega
    clear hi
    induction hlen : W.length - i using Nat.strongRecOn generalizing rs i with
    | _ n ih =>
      refine vx_go hC hFt hini (vx_ends hC hr hlk) jc_Rd_takeText 2 (by decide) rfl ?_
      refine callv0 hC (c_St_length54 l D tys tc hty a W hWW) hFt0 hO wm_St_length54 wl_Rd_45 wi_St_length54 ws_St_St_length54 ⟨by decide, by decide⟩ rfl rfl (Nat.le_of_ble_eq_true rfl) ⟨Nat.zero_le _, Nat.zero_le _⟩ (fun r' hp => ?_)
      subst hp
      refine And.intro (fun c5 => ?_) (fun c5 => ?_)
      · skip
        have c5 := (nI_leI (a := W.length) (b := i) (by omega) (by omega)).mp c5
        refine vx_go hC hFt hini (vx_ends hC hr hlk) jc_Rd_takeText 16 (by decide) rfl ?_
        refine And.intro (rfl) (And.intro ?_ (And.intro (Nat.le_refl _) (Nat.le_refl _)))
        rw [← hres, drop_end c5]
        exact And.intro rfl rfl
      · skip
        have c5 : ¬ (W.length ≤ i) := fun z => c5 ((nI_leI (a := W.length) (b := i) (by omega) (by omega)).mpr z)
        refine callv0 hC (c_St_charAt56 l D tys tc hty a W hWW i (by omega)) hFt0 hO wm_St_charAt56 wl_Rd_51 wi_St_charAt56 ws_St_St_charAt56 ⟨by decide, by decide⟩ rfl rfl (Nat.le_of_ble_eq_true rfl) ⟨Nat.zero_le _, Nat.zero_le _⟩ (fun r' hp => ?_)
        subst hp
        refine rd_call hC hF0 (c_Rd_take l D tys tc hty _ hci h ra sa ex T rs sd ss (W.getD i 0) hT hs (gd_lt hWW i)) wm_Rd_take wl_Rd_41 wi_Rd_take (hC.2.2.2.2.1 _ (List.mem_cons_of_mem _ (sel_take _ hci))) hci ⟨by decide, by decide⟩ rfl rfl (Nat.le_of_ble_eq_true rfl) ⟨Nat.zero_le _, Nat.zero_le _⟩ (fun r w1 hp => ?_)
        obtain ⟨rfl, rfl⟩ := hp
        have hs2 := pk_sfx (c := W.getD i 0) hs
        generalize hpk : pk (W.getD i 0) rs = q at hs2 ⊢
        obtain ⟨b1, t1⟩ := q
        dsimp only at hs2 ⊢
        refine And.intro (fun c11 => ?_) (fun c11 => ?_)
        · skip
          obtain rfl : b1 = true := bI_ne c11
          refine vx_go hC hFt hini (vx_ends hC hr hlk) jc_Rd_takeText 14 (by decide) rfl ?_
          refine Vx.subL (lv' := [(0, .ref h), (1, .ref a), (2, .int (nI i + 1))]) [1, 2, 0] rfl ?_
          refine Vx.eqs rfl (by rw [nI_1]) rfl rfl (ih (W.length - (i + 1)) (by omega) t1 hs2 (i + 1) ?_ (by omega) rfl)
          rw [← hres, drop_get (W := W) (i := i) (by omega)]
          simp only [tt, hpk]
        · skip
          obtain rfl : b1 = false := bI_eq c11
          refine And.intro (rfl) (And.intro ?_ (And.intro (Nat.le_refl _) (Nat.le_refl _)))
          rw [← hres, drop_get (by omega)]
          simp only [tt, hpk]
          first | exact And.intro rfl rfl | exact And.intro rfl trivial
set_option maxRecDepth 100000 in
set_option maxHeartbeats 4000000 in
theorem c_Rd_takeAlike (l : Launch) (D : va_G) (tys : List (ClassId × FieldType)) (tc : Nat → ClassId) (hty : ∀ i : Nat, i < 4 → tys[i]? = some (tc i, vx_ty i)) (ci : Nat) (hci : ci < 5) (h ra sa : Nat) (ex : List Value) (T rs : List Nat) (sd : Nat → Int32) (ss : Nat) (hT : isT T) (hs : rs <:+ T) (a : Nat) (W : List Nat) (hWW : isW W) : Kt l y_Rd_takeAlike (yw y_Rd_takeAlike b_Rd_takeAlike 3 (some .boolean)) 4 85 0 0 D cls tys (fun A U H => rdF ra T A U H ∧ tF a W A U H) [.ref h, .ref a] (rdW tc ci h ra sa ex T rs sd ss) (fun r w => r = some (.int (bI (ta W rs).1)) ∧ w = rdW tc ci h ra sa ex T (ta W rs).2 sd ss) := by
  refine Kt.of (ro_and (rdF_ro ra T) (tF_ro a W)) (by decide) rfl hty (Nat.le_of_ble_eq_true rfl) ?_
  intro p e s m args below meth c0 A hC hr hlk hnm hF
  have hFt : vx_Ft y_Rd_takeAlike.cls (yw y_Rd_takeAlike b_Rd_takeAlike 3 (some .boolean)) cls cty ft_Rd := ft_of (fun w h => List.mem_cons_of_mem _ h) fl_Rd_in ft_Rd_b
  have hini : false = true → meth.name = "<init>" := fun h => by cases h
  have hF0 := hF.1
  have hFt0 := hF.2
  have hO := hF.2.2.1
  obtain ⟨N, f, hrow, hN, hf⟩ := hF.1
  have hTl := hT.1
  have hWl := hWW.1
  rcases (show ci = 0 ∨ ci = 1 ∨ ci = 2 ∨ ci = 3 ∨ ci = 4 by omega) with rfl | rfl | rfl | rfl | rfl
  all_goals
    refine vx_gon hC hFt hini (vx_ends hC hr hlk) jc_Rd_takeAlike 0 2 (by decide) rfl ?_
    generalize hres : ta W rs = RES
    refine Vx.subL (lv' := [(0, .ref h), (1, .ref a), (2, .int (nI 0))]) [1, 2, 0] rfl ?_
    obtain ⟨i, hi⟩ : ∃ i : Nat, i = 0 := ⟨_, rfl⟩
    refine Vx.eqs rfl (lv2 := [(0, .ref h), (1, .ref a), (2, .int (nI i))]) (by rw [hi]) rfl rfl ?_
    replace hres : ta (W.drop i) rs = RES := by rw [hi, List.drop_zero]; exact hres
    have hil : i ≤ W.length := by omega
    clear hi
    induction hlen : W.length - i using Nat.strongRecOn generalizing rs i with
    | _ n ih =>
      refine vx_go hC hFt hini (vx_ends hC hr hlk) jc_Rd_takeAlike 2 (by decide) rfl ?_
      refine callv0 hC (c_St_length54 l D tys tc hty a W hWW) hFt0 hO wm_St_length54 wl_Rd_45 wi_St_length54 ws_St_St_length54 ⟨by decide, by decide⟩ rfl rfl (Nat.le_of_ble_eq_true rfl) ⟨Nat.zero_le _, Nat.zero_le _⟩ (fun r' hp => ?_)
      subst hp
      refine And.intro (fun c5 => ?_) (fun c5 => ?_)
      · skip
        have c5 := (nI_leI (a := W.length) (b := i) (by omega) (by omega)).mp c5
        refine vx_go hC hFt hini (vx_ends hC hr hlk) jc_Rd_takeAlike 32 (by decide) rfl ?_
        refine And.intro (rfl) (And.intro ?_ (And.intro (Nat.le_refl _) (Nat.le_refl _)))
        rw [← hres, drop_end c5]
        exact And.intro rfl rfl
      · skip
        have c5 : ¬ (W.length ≤ i) := fun z => c5 ((nI_leI (a := W.length) (b := i) (by omega) (by omega)).mpr z)
        refine And.intro rfl ?_
        refine And.intro rfl ?_
        refine And.intro (fun c10 => ?_) (fun c10 => ?_)
        · skip
          have hle := sfx_le hs
          have hnil : rs = [] := by
            have h2 := (nI_leI (a := T.length) (b := T.length - rs.length) (by omega) (by omega)).mp c10
            exact List.eq_nil_of_length_eq_zero (by omega)
          subst hnil
          refine vx_go hC hFt hini (vx_ends hC hr hlk) jc_Rd_takeAlike 22 (by decide) rfl ?_
          refine And.intro (rfl) (And.intro ?_ (And.intro (Nat.le_refl _) (Nat.le_refl _)))
          rw [← hres, drop_get (by omega)]
          exact And.intro rfl rfl
        · skip
          have hle := sfx_le hs
          obtain ⟨x, r, hrs⟩ : ∃ x r, rs = x :: r := by
            cases hrs : rs with
            | nil => subst hrs; exact absurd ((nI_leI (a := T.length) (b := T.length - 0) (by omega) (by omega)).mpr (by omega)) c10
            | cons x r => exact ⟨x, r, rfl⟩
          obtain ⟨g1, g2, g3, g4, g5⟩ := sfx_at hs hrs
          have g6 := hT.2 x g5
          subst hrs
          refine And.intro rfl ?_
          refine And.intro rfl ?_
          refine ⟨N, f, hrow, vp_in_nI (by omega) hN.2, ?_⟩
          rw [nI_clamp (by omega), hf _ g1, g2]
          refine rd_calls hC (c_Rd_lower l D tys tc hty x (by omega)) wm_Rd_lower wl_Rd_55 wt_Rd_lower ⟨by decide, by decide⟩ rfl rfl (Nat.le_of_ble_eq_true rfl) ⟨Nat.zero_le _, Nat.zero_le _⟩ (fun r' hp => ?_)
          subst hp
          refine callv0 hC (c_St_charAt56 l D tys tc hty a W hWW i (by omega)) hFt0 hO wm_St_charAt56 wl_Rd_51 wi_St_charAt56 ws_St_St_charAt56 ⟨by decide, by decide⟩ rfl rfl (Nat.le_of_ble_eq_true rfl) ⟨Nat.zero_le _, Nat.zero_le _⟩ (fun r' hp => ?_)
          subst hp
          refine rd_calls hC (c_Rd_lower l D tys tc hty (W.getD i 0) (gd_lt hWW i)) wm_Rd_lower wl_Rd_55 wt_Rd_lower ⟨by decide, by decide⟩ rfl rfl (Nat.le_of_ble_eq_true rfl) ⟨Nat.zero_le _, Nat.zero_le _⟩ (fun r' hp => ?_)
          subst hp
          refine And.intro (fun c21 => ?_) (fun c21 => ?_)
          · skip
            have c21 : lwr x = lwr (W.getD i 0) := (nI_eq (by have := lwr_lt (x := x) (by omega); omega) (by have := lwr_lt (gd_lt hWW i); omega)).mp c21
            refine vx_go hC hFt hini (vx_ends hC hr hlk) jc_Rd_takeAlike 24 (by decide) rfl ?_
            refine And.intro rfl ?_
            refine And.intro rfl ?_
            refine And.intro rfl (And.intro (And.intro rfl rfl) ?_)
            refine Vx.subL (lv' := [(0, .ref h), (1, .ref a), (2, .int (nI i + 1))]) [1, 2, 0] rfl ?_
            refine Vx.eqs rfl (by rw [nI_1]) rfl (rd_step g4) (ih (W.length - (i + 1)) (by omega) r g3 (i + 1) ?_ (by omega) rfl)
            rw [← hres, drop_get (W := W) (i := i) (by omega), ta, if_pos c21]
          · skip
            have c21 : ¬ (lwr x = lwr (W.getD i 0)) := fun z => c21 (by rw [z])
            refine And.intro (rfl) (And.intro ?_ (And.intro (Nat.le_refl _) (Nat.le_refl _)))
            rw [← hres, drop_get (W := W) (i := i) (by omega), ta, if_neg c21]
            exact And.intro rfl rfl
set_option maxRecDepth 100000 in
set_option maxHeartbeats 4000000 in
theorem c_Rd_isSaid (l : Launch) (D : va_G) (tys : List (ClassId × FieldType)) (tc : Nat → ClassId) (hty : ∀ i : Nat, i < 4 → tys[i]? = some (tc i, vx_ty i)) (ci : Nat) (hci : ci < 5) (h ra sa : Nat) (ex : List Value) (T rs : List Nat) (sd : Nat → Int32) (ss : Nat) (hT : isT T) (hs : rs <:+ T) (a : Nat) (W : List Nat) (hWW : isW W) (S : List Nat) (hsd : sdIs sd S) (hss : ss = S.length) (hS : S.length ≤ 96) (hS2 : ∀ i, i < S.length → S.getD i 0 < 256) : Kt l y_Rd_isSaid (yw y_Rd_isSaid b_Rd_isSaid 3 (some .boolean)) 4 85 0 0 D cls tys (tF a W) [.ref h, .ref a] (rdW tc ci h ra sa ex T rs sd ss) (fun r w => r = some (.int (bI (sameL S W))) ∧ w = (rdW tc ci h ra sa ex T rs sd ss)) := by
  refine Kt.of (tF_ro a W) (by decide) rfl hty (Nat.le_of_ble_eq_true rfl) ?_
  intro p e s m args below meth c0 A hC hr hlk hnm hF
  have hFt : vx_Ft y_Rd_isSaid.cls (yw y_Rd_isSaid b_Rd_isSaid 3 (some .boolean)) cls cty ft_Rd := ft_of (fun w h => List.mem_cons_of_mem _ h) fl_Rd_in ft_Rd_b
  have hini : false = true → meth.name = "<init>" := fun h => by cases h
  have hFt0 := hF
  have hO := hF.2.1
  have hTl := hT.1
  have hWl := hWW.1
  rcases (show ci = 0 ∨ ci = 1 ∨ ci = 2 ∨ ci = 3 ∨ ci = 4 by omega) with rfl | rfl | rfl | rfl | rfl
  all_goals
    refine vx_gon hC hFt hini (vx_ends hC hr hlk) jc_Rd_isSaid 0 9 (by decide) rfl ?_
    refine And.intro rfl ?_
    refine callv0 hC (c_St_length54 l D tys tc hty a W hWW) hFt0 hO wm_St_length54 wl_Rd_45 wi_St_length54 ws_St_St_length54 ⟨by decide, by decide⟩ rfl rfl (Nat.le_of_ble_eq_true rfl) ⟨Nat.zero_le _, Nat.zero_le _⟩ (fun r' hp => ?_)
    subst hp
    refine And.intro (fun c4 => ?_) (fun c4 => ?_)
    · skip
      subst hss
      have c4 : S.length = W.length := (nI_eq (by omega) (by omega)).mp c4
      refine vx_gon hC hFt hini (vx_ends hC hr hlk) jc_Rd_isSaid 7 2 (by decide) rfl ?_
      refine Vx.subL (lv' := [(0, .ref h), (1, .ref a), (2, .int (nI 0))]) [1, 2, 0] rfl ?_
      obtain ⟨i, hi⟩ : ∃ i : Nat, i = 0 := ⟨_, rfl⟩
      refine Vx.eqs rfl (lv2 := [(0, .ref h), (1, .ref a), (2, .int (nI i))]) (by rw [hi]) rfl rfl ?_
      have hall : ∀ j, j < i → S.getD j 0 = W.getD j 0 := fun j hj => by omega
      have hile : i ≤ S.length := by omega
      clear hi
      induction hlen : S.length - i using Nat.strongRecOn generalizing i with
      | _ n ih =>
        refine vx_go hC hFt hini (vx_ends hC hr hlk) jc_Rd_isSaid 9 (by decide) rfl ?_
        refine And.intro rfl ?_
        refine And.intro (fun c12 => ?_) (fun c12 => ?_)
        · skip
          have c12 := (nI_leI (a := S.length) (b := i) (by omega) (by omega)).mp c12
          refine vx_go hC hFt hini (vx_ends hC hr hlk) jc_Rd_isSaid 25 (by decide) rfl ?_
          refine And.intro (rfl) (And.intro ?_ (And.intro (Nat.le_refl _) (Nat.le_refl _)))
          rw [show sameL S W = true by unfold sameL; rw [decide_eq_true_eq]; exact ext_get c4 (fun j hj => hall j (by omega))]
          exact And.intro rfl rfl
        · skip
          have c12 : ¬ (S.length ≤ i) := fun z => c12 ((nI_leI (a := S.length) (b := i) (by omega) (by omega)).mpr z)
          refine And.intro rfl ?_
          refine And.intro rfl (And.intro rfl (And.intro (vp_in_nI (by omega) (by decide)) ?_))
          rw [nI_clamp (by omega), hsd i (by omega)]
          refine callv0 hC (c_St_charAt56 l D tys tc hty a W hWW i (by omega)) hFt0 hO wm_St_charAt56 wl_Rd_51 wi_St_charAt56 ws_St_St_charAt56 ⟨by decide, by decide⟩ rfl rfl (Nat.le_of_ble_eq_true rfl) ⟨Nat.zero_le _, Nat.zero_le _⟩ (fun r' hp => ?_)
          subst hp
          refine And.intro (fun c20 => ?_) (fun c20 => ?_)
          · skip
            have c20 : S.getD i 0 = W.getD i 0 := (nI_eq (by have := hS2 i (by omega); omega) (by have := gd_lt hWW i; omega)).mp c20
            refine vx_go hC hFt hini (vx_ends hC hr hlk) jc_Rd_isSaid 23 (by decide) rfl ?_
            refine Vx.subL (lv' := [(0, .ref h), (1, .ref a), (2, .int (nI i + 1))]) [1, 2, 0] rfl ?_
            refine Vx.eqs rfl (by rw [nI_1]) rfl rfl (ih (S.length - (i + 1)) (by omega) (i + 1) (fun j hj => ?_) (by omega) rfl)
            by_cases e : j = i
            · rw [e]; exact c20
            · exact hall j (by omega)
          · skip
            have c20 : ¬ (S.getD i 0 = W.getD i 0) := fun z => c20 (by rw [z])
            refine And.intro (rfl) (And.intro ?_ (And.intro (Nat.le_refl _) (Nat.le_refl _)))
            rw [show sameL S W = false by unfold sameL; rw [decide_eq_false_iff_not]; exact fun z => c20 (by rw [z])]
            exact And.intro rfl rfl
    · skip
      subst hss
      have c4 : ¬ S.length = W.length := fun z => c4 (by rw [z])
      refine And.intro (rfl) (And.intro ?_ (And.intro (Nat.le_refl _) (Nat.le_refl _)))
      rw [show sameL S W = false by unfold sameL; rw [decide_eq_false_iff_not]; exact fun z => c4 (by rw [z])]
      exact And.intro rfl rfl
set_option maxRecDepth 100000 in
set_option maxHeartbeats 4000000 in
theorem c_Rd_isSaidAlike (l : Launch) (D : va_G) (tys : List (ClassId × FieldType)) (tc : Nat → ClassId) (hty : ∀ i : Nat, i < 4 → tys[i]? = some (tc i, vx_ty i)) (ci : Nat) (hci : ci < 5) (h ra sa : Nat) (ex : List Value) (T rs : List Nat) (sd : Nat → Int32) (ss : Nat) (hT : isT T) (hs : rs <:+ T) (a : Nat) (W : List Nat) (hWW : isW W) (S : List Nat) (hsd : sdIs sd S) (hss : ss = S.length) (hS : S.length ≤ 96) (hS2 : ∀ i, i < S.length → S.getD i 0 < 256) : Kt l y_Rd_isSaidAlike (yw y_Rd_isSaidAlike b_Rd_isSaidAlike 3 (some .boolean)) 4 85 0 0 D cls tys (tF a W) [.ref h, .ref a] (rdW tc ci h ra sa ex T rs sd ss) (fun r w => r = some (.int (bI (alikeL S W))) ∧ w = (rdW tc ci h ra sa ex T rs sd ss)) := by
  refine Kt.of (tF_ro a W) (by decide) rfl hty (Nat.le_of_ble_eq_true rfl) ?_
  intro p e s m args below meth c0 A hC hr hlk hnm hF
  have hFt : vx_Ft y_Rd_isSaidAlike.cls (yw y_Rd_isSaidAlike b_Rd_isSaidAlike 3 (some .boolean)) cls cty ft_Rd := ft_of (fun w h => List.mem_cons_of_mem _ h) fl_Rd_in ft_Rd_b
  have hini : false = true → meth.name = "<init>" := fun h => by cases h
  have hFt0 := hF
  have hO := hF.2.1
  have hTl := hT.1
  have hWl := hWW.1
  rcases (show ci = 0 ∨ ci = 1 ∨ ci = 2 ∨ ci = 3 ∨ ci = 4 by omega) with rfl | rfl | rfl | rfl | rfl
  all_goals
    refine vx_gon hC hFt hini (vx_ends hC hr hlk) jc_Rd_isSaidAlike 0 9 (by decide) rfl ?_
    refine And.intro rfl ?_
    refine callv0 hC (c_St_length54 l D tys tc hty a W hWW) hFt0 hO wm_St_length54 wl_Rd_45 wi_St_length54 ws_St_St_length54 ⟨by decide, by decide⟩ rfl rfl (Nat.le_of_ble_eq_true rfl) ⟨Nat.zero_le _, Nat.zero_le _⟩ (fun r' hp => ?_)
    subst hp
    refine And.intro (fun c4 => ?_) (fun c4 => ?_)
    · skip
      subst hss
      have c4 : S.length = W.length := (nI_eq (by omega) (by omega)).mp c4
      refine vx_gon hC hFt hini (vx_ends hC hr hlk) jc_Rd_isSaidAlike 7 2 (by decide) rfl ?_
      refine Vx.subL (lv' := [(0, .ref h), (1, .ref a), (2, .int (nI 0))]) [1, 2, 0] rfl ?_
      obtain ⟨i, hi⟩ : ∃ i : Nat, i = 0 := ⟨_, rfl⟩
      refine Vx.eqs rfl (lv2 := [(0, .ref h), (1, .ref a), (2, .int (nI i))]) (by rw [hi]) rfl rfl ?_
      have hall : ∀ j, j < i → lwr (S.getD j 0) = lwr (W.getD j 0) := fun j hj => by omega
      have hile : i ≤ S.length := by omega
      clear hi
      induction hlen : S.length - i using Nat.strongRecOn generalizing i with
      | _ n ih =>
        refine vx_go hC hFt hini (vx_ends hC hr hlk) jc_Rd_isSaidAlike 9 (by decide) rfl ?_
        refine And.intro rfl ?_
        refine And.intro (fun c12 => ?_) (fun c12 => ?_)
        · skip
          have c12 := (nI_leI (a := S.length) (b := i) (by omega) (by omega)).mp c12
          refine vx_go hC hFt hini (vx_ends hC hr hlk) jc_Rd_isSaidAlike 27 (by decide) rfl ?_
          refine And.intro (rfl) (And.intro ?_ (And.intro (Nat.le_refl _) (Nat.le_refl _)))
          rw [show alikeL S W = true by unfold alikeL; rw [decide_eq_true_eq]; exact ext_get (by simpa using c4) (fun j hj => by simp only [List.length_map] at hj; rw [get_map (by omega), get_map (by omega)]; exact hall j (by omega))]
          exact And.intro rfl rfl
        · skip
          have c12 : ¬ (S.length ≤ i) := fun z => c12 ((nI_leI (a := S.length) (b := i) (by omega) (by omega)).mpr z)
          refine And.intro rfl ?_
          refine And.intro rfl (And.intro rfl (And.intro (vp_in_nI (by omega) (by decide)) ?_))
          rw [nI_clamp (by omega), hsd i (by omega)]
          refine rd_calls hC (c_Rd_lower l D tys tc hty (S.getD i 0) (hS2 i (by omega))) wm_Rd_lower wl_Rd_55 wt_Rd_lower ⟨by decide, by decide⟩ rfl rfl (Nat.le_of_ble_eq_true rfl) ⟨Nat.zero_le _, Nat.zero_le _⟩ (fun r' hp => ?_)
          subst hp
          refine callv0 hC (c_St_charAt56 l D tys tc hty a W hWW i (by omega)) hFt0 hO wm_St_charAt56 wl_Rd_51 wi_St_charAt56 ws_St_St_charAt56 ⟨by decide, by decide⟩ rfl rfl (Nat.le_of_ble_eq_true rfl) ⟨Nat.zero_le _, Nat.zero_le _⟩ (fun r' hp => ?_)
          subst hp
          refine rd_calls hC (c_Rd_lower l D tys tc hty (W.getD i 0) (gd_lt hWW i)) wm_Rd_lower wl_Rd_55 wt_Rd_lower ⟨by decide, by decide⟩ rfl rfl (Nat.le_of_ble_eq_true rfl) ⟨Nat.zero_le _, Nat.zero_le _⟩ (fun r' hp => ?_)
          subst hp
          refine And.intro (fun c22 => ?_) (fun c22 => ?_)
          · skip
            have c22 : lwr (S.getD i 0) = lwr (W.getD i 0) := (nI_eq (by have := lwr_lt (hS2 i (by omega)); omega) (by have := lwr_lt (gd_lt hWW i); omega)).mp c22
            refine vx_go hC hFt hini (vx_ends hC hr hlk) jc_Rd_isSaidAlike 25 (by decide) rfl ?_
            refine Vx.subL (lv' := [(0, .ref h), (1, .ref a), (2, .int (nI i + 1))]) [1, 2, 0] rfl ?_
            refine Vx.eqs rfl (by rw [nI_1]) rfl rfl (ih (S.length - (i + 1)) (by omega) (i + 1) (fun j hj => ?_) (by omega) rfl)
            by_cases e : j = i
            · rw [e]; exact c22
            · exact hall j (by omega)
          · skip
            have c22 : ¬ (lwr (S.getD i 0) = lwr (W.getD i 0)) := fun z => c22 (by rw [z])
            refine And.intro (rfl) (And.intro ?_ (And.intro (Nat.le_refl _) (Nat.le_refl _)))
            rw [show alikeL S W = false by unfold alikeL; rw [decide_eq_false_iff_not]; exact fun z => c22 (by rw [← get_map (by omega), z, get_map (by omega)])]
            exact And.intro rfl rfl
    · skip
      subst hss
      have c4 : ¬ S.length = W.length := fun z => c4 (by rw [z])
      refine And.intro (rfl) (And.intro ?_ (And.intro (Nat.le_refl _) (Nat.le_refl _)))
      rw [show alikeL S W = false by unfold alikeL; rw [decide_eq_false_iff_not]; exact fun z => c4 (by have := congrArg List.length z; simpa using this)]
      exact And.intro rfl rfl
end
section
/-! indexOf; tokens: by program (wip/whole/gen/p18.py) -/
theorem sb_inj {a b : Nat} (ha : a < 256) (hb : b < 256) : sb_b a = sb_b b ↔ a = b := by
  refine ⟨fun h => ?_, fun h => by rw [h]⟩
  have h1 := (sb_byte a ha).1
  rw [h, (sb_byte b hb).1] at h1
  exact ((nI_eq (by omega) (by omega)).mp h1).symm
section
variable {p : Program} {l : Launch} {e : Env} {R : Room} {s : State} {m : MethodId} {args : Array Value} {below : List Frame} {meth : Method} {c : Code} {cc : ByteArray} {nL : Nat} {D : va_G} {tys : List (ClassId × FieldType)} {A : Nat → Prop} {tc : Nat → ClassId} {Q : State → Prop} {rest : List Value} {k n : Nat} {K : List Value → va_W → Nat → Nat → Prop} {y0 : MethodName} {b0 : ByteArray} {n0 index : Nat} {r0 : Option FieldType} {own : String} {ws : va_W} {x y : Int32}
theorem wm_max : Cond.static Lib.Math.max.name ∈ gw ∧ Cond.initialized "java/lang/Math" ∈ gw ∧ Cond.code Lib.Math.max.name Lib.Math.max.code 2 (some .int) ∈ gw := ⟨gw_i 345 (by decide +kernel) (by decide +kernel), gw_i 17 (by decide +kernel) (by decide +kernel), gw_i 346 (by decide +kernel) (by decide +kernel)⟩
theorem wm_min : Cond.static Lib.Math.min.name ∈ gw ∧ Cond.initialized "java/lang/Math" ∈ gw ∧ Cond.code Lib.Math.min.name Lib.Math.min.code 2 (some .int) ∈ gw := ⟨gw_i 363 (by decide +kernel) (by decide +kernel), gw_i 17 (by decide +kernel) (by decide +kernel), gw_i 364 (by decide +kernel) (by decide +kernel)⟩
theorem sx_mmax (hC : Cx p s m args c cc nL own (yw y0 b0 n0 r0) D cls tys A tc) (hl : Cond.methodLink own index Lib.Math.max.name ∈ gw) (hfr : 1 ≤ R.frames) (hlo : (rest.map fun v => v.category).sum + 13 ≤ R.locals) (hkn : k ≤ R.cells ∧ n ≤ R.slots) (kk : K (.int (if x < y then y else x) :: rest) ws k n) : vx_SX cc (Vx p l e R s m args below meth c nL D cls A Q) (.invokestatic index) 3 (.int y :: .int x :: rest) ws k n K := by
  intro pc lv hdg hK H locs ls hP hD hS hl2
  have g : ∀ {w : Cond}, w ∈ gw → w.before args s = true := fun h => hC.2.2.2.2.1 _ (List.mem_cons_of_mem _ h)
  exact va_mmax hC.1 hC.2.1 (hC.2.2.1.trans hl2.1.symm) hC.2.2.2.1 (g hl) (g wm_max.1) (g wm_max.2.1) (g wm_max.2.2) hfr hlo hkn.1 hkn.2 hdg (hK _ _ _ _ kk H locs ls hP hD hS hl2)
theorem sx_mmin (hC : Cx p s m args c cc nL own (yw y0 b0 n0 r0) D cls tys A tc) (hl : Cond.methodLink own index Lib.Math.min.name ∈ gw) (hfr : 1 ≤ R.frames) (hlo : (rest.map fun v => v.category).sum + 13 ≤ R.locals) (hkn : k ≤ R.cells ∧ n ≤ R.slots) (kk : K (.int (if y < x then y else x) :: rest) ws k n) : vx_SX cc (Vx p l e R s m args below meth c nL D cls A Q) (.invokestatic index) 3 (.int y :: .int x :: rest) ws k n K := by
  intro pc lv hdg hK H locs ls hP hD hS hl2
  have g : ∀ {w : Cond}, w ∈ gw → w.before args s = true := fun h => hC.2.2.2.2.1 _ (List.mem_cons_of_mem _ h)
  exact va_mmin hC.1 hC.2.1 (hC.2.2.1.trans hl2.1.symm) hC.2.2.2.1 (g hl) (g wm_min.1) (g wm_min.2.1) (g wm_min.2.2) hfr hlo hkn.1 hkn.2 hdg (hK _ _ _ _ kk H locs ls hP hD hS hl2)
end
/-- an index that is below 0 just when x is not in W -/
def ixP (W : List Nat) (x : Nat) (r : Option Value) : Prop := ∃ v : Int32, r = some (.int v) ∧ (v < 0 ↔ x ∉ W)
theorem ixP_at {W : List Nat} {i x : Nat} (h : i < W.length) (e : W.getD i 0 = x) (hi : i < 2 ^ 31) : ixP W x (some (.int (nI i))) := by
  refine ⟨_, rfl, ⟨fun z => absurd z (nI_pos hi), fun z => absurd ?_ z⟩⟩
  rw [← e, List.getD_eq_getElem?_getD, List.getElem?_eq_getElem h]
  exact List.getElem_mem h
theorem ixP_no {W : List Nat} {x : Nat} (h : ∀ i, i < W.length → ¬ W.getD i 0 = x) : ixP W x (some (.int (-1))) := by
  refine ⟨_, rfl, ⟨fun _ z => ?_, fun _ => by decide⟩⟩
  obtain ⟨i, hi, e⟩ := List.getElem_of_mem z
  exact h i hi (by rw [List.getD_eq_getElem?_getD, List.getElem?_eq_getElem hi]; exact e)
set_option maxRecDepth 100000 in
set_option maxHeartbeats 4000000 in
theorem c_L1_canEncode4 (l : Launch) (D : va_G) (tys : List (ClassId × FieldType)) (tc : Nat → ClassId) (hty : ∀ i : Nat, i < 4 → tys[i]? = some (tc i, vx_ty i)) (x : Nat) (hx : x < 256) : Kt l y_L1_canEncode4 (yw y_L1_canEncode4 b_L1_canEncode4 1 (some .boolean)) 0 0 0 0 D cls tys (fun _ _ _ => True) [.int (nI x)] [] (fun r w => r = some (.int 1) ∧ w = []) := by
  refine Kt.of ro_true (by decide) rfl hty (Nat.le_of_ble_eq_true rfl) ?_
  intro p e s m args below meth c0 A hC hr hlk hnm hF
  have hFt : vx_Ft y_L1_canEncode4.cls (yw y_L1_canEncode4 b_L1_canEncode4 1 (some .boolean)) cls cty [] := (fun q h => by cases h)
  have hini : false = true → meth.name = "<init>" := fun h => by cases h
  refine vx_go hC hFt hini (vx_ends hC hr hlk) jc_L1_canEncode4 0 (by decide) rfl ?_
  refine And.intro (fun c1 => ?_) (fun c1 => ?_)
  · skip
    exact absurd c1 (nI_pos (by omega))
  · skip
    refine And.intro (fun c4 => ?_) (fun c4 => ?_)
    · skip
      exact absurd ((nI_ltI (a := 255) (b := x) (by omega) (by omega)).mp c4) (by omega)
    · skip
      refine vx_go hC hFt hini (vx_ends hC hr hlk) jc_L1_canEncode4 8 (by decide) rfl ?_
      refine And.intro (rfl) (And.intro ?_ (And.intro (Nat.le_refl _) (Nat.le_refl _)))
      exact And.intro rfl rfl
set_option maxRecDepth 100000 in
set_option maxHeartbeats 4000000 in
theorem c_L1_indexOfChar23 (l : Launch) (D : va_G) (tys : List (ClassId × FieldType)) (tc : Nat → ClassId) (hty : ∀ i : Nat, i < 4 → tys[i]? = some (tc i, vx_ty i)) (v : Nat) (W : List Nat) (hWW : isW W) (x : Nat) (hx : x < 256) : Kt l y_L1_indexOfChar23 (yw y_L1_indexOfChar23 b_L1_indexOfChar23 6 (some .int)) 0 0 0 0 D cls tys (fun A U H => csF A U H ∧ bytF v W A U H) [.ref v, .int (nI x), .int (nI 0), .int (nI W.length)] [] (fun r w => ixP W x r ∧ w = []) := by
  refine Kt.of (ro_and csF_ro (bytF_ro v W)) (by decide) rfl hty (Nat.le_of_ble_eq_true rfl) ?_
  intro p e s m args below meth c0 A hC hr hlk hnm hF
  have hFt : vx_Ft y_L1_indexOfChar23.cls (yw y_L1_indexOfChar23 b_L1_indexOfChar23 6 (some .int)) cls cty [] := (fun q h => by cases h)
  have hini : false = true → meth.name = "<init>" := fun h => by cases h
  have hWl := hWW.1
  refine vx_gon hC hFt hini (vx_ends hC hr hlk) jc_L1_indexOfChar23 0 5 (by decide) rfl ?_
  refine Vx.subL (lv' := [(0, .ref v), (1, .int (nI x)), (2, .int (nI 0)), (3, .int (nI W.length)), (4, .int (sb_b x)), (5, .int (nI 0))]) [2, 3, 4, 5, 1, 0] rfl ?_
  obtain ⟨i, hi⟩ : ∃ i : Nat, i = 0 := ⟨_, rfl⟩
  refine Vx.eqs rfl (lv2 := [(0, .ref v), (1, .int (nI x)), (2, .int (nI 0)), (3, .int (nI W.length)), (4, .int (sb_b x)), (5, .int (nI i))]) (by rw [hi]) rfl rfl ?_
  have hall : ∀ j, j < i → ¬ W.getD j 0 = x := fun j hj => by omega
  have hile : i ≤ W.length := by omega
  clear hi
  induction hlen : W.length - i using Nat.strongRecOn generalizing i with
  | _ n ih =>
    refine vx_go hC hFt hini (vx_ends hC hr hlk) jc_L1_indexOfChar23 5 (by decide) rfl ?_
    refine And.intro (fun c7 => ?_) (fun c7 => ?_)
    · skip
      have c7 := (nI_leI (a := W.length) (b := i) (by omega) (by omega)).mp c7
      refine vx_go hC hFt hini (vx_ends hC hr hlk) jc_L1_indexOfChar23 17 (by decide) rfl ?_
      refine And.intro (trivial) (And.intro ?_ (And.intro (Nat.le_refl _) (Nat.le_refl _)))
      exact And.intro (ixP_no (fun j hj => hall j (by omega))) rfl
    · skip
      have c7 : ¬ (W.length ≤ i) := fun z => c7 ((nI_leI (a := W.length) (b := i) (by omega) (by omega)).mpr z)
      refine ⟨_, _, hF.2, vp_in_nI (by omega) (by omega), ?_⟩
      rw [nI_clamp (by omega)]
      refine And.intro (fun c12 => ?_) (fun c12 => ?_)
      · skip
        have c12 : ¬ (W.getD i 0 = x) := fun z => c12 (by rw [z])
        refine vx_go hC hFt hini (vx_ends hC hr hlk) jc_L1_indexOfChar23 15 (by decide) rfl ?_
        refine Vx.subL (lv' := [(0, .ref v), (1, .int (nI x)), (2, .int (nI 0)), (3, .int (nI W.length)), (4, .int (sb_b x)), (5, .int (nI i + 1))]) [1, 2, 3, 4, 5, 0] rfl ?_
        refine Vx.eqs rfl (by rw [nI_1]) rfl rfl (ih (W.length - (i + 1)) (by omega) (i + 1) (fun j hj => ?_) (by omega) rfl)
        by_cases e : j = i
        · rw [e]; exact c12
        · exact hall j (by omega)
      · skip
        have c12 : W.getD i 0 = x := (sb_inj (gd_lt hWW i) hx).mp c12
        refine And.intro (trivial) (And.intro ?_ (And.intro (Nat.le_refl _) (Nat.le_refl _)))
        exact And.intro (ixP_at (by omega) c12 (by omega)) rfl
set_option maxRecDepth 100000 in
set_option maxHeartbeats 4000000 in
theorem c_L1_indexOf22 (l : Launch) (D : va_G) (tys : List (ClassId × FieldType)) (tc : Nat → ClassId) (hty : ∀ i : Nat, i < 4 → tys[i]? = some (tc i, vx_ty i)) (v : Nat) (W : List Nat) (hWW : isW W) (x : Nat) (hx : x < 256) : Kt l y_L1_indexOf22 (yw y_L1_indexOf22 b_L1_indexOf22 4 (some .int)) 1 25 0 0 D cls tys (fun A U H => csF A U H ∧ bytF v W A U H) [.ref v, .int (nI x), .int (nI 0), .int (nI W.length)] [] (fun r w => ixP W x r ∧ w = []) := by
  refine Kt.of (ro_and csF_ro (bytF_ro v W)) (by decide) rfl hty (Nat.le_of_ble_eq_true rfl) ?_
  intro p e s m args below meth c0 A hC hr hlk hnm hF
  have hFt : vx_Ft y_L1_indexOf22.cls (yw y_L1_indexOf22 b_L1_indexOf22 4 (some .int)) cls cty [] := (fun q h => by cases h)
  have hini : false = true → meth.name = "<init>" := fun h => by cases h
  have hWl := hWW.1
  refine vx_go hC hFt hini (vx_ends hC hr hlk) jc_L1_indexOf22 0 (by decide) rfl ?_
  refine calls0 hC (c_L1_canEncode4 l D tys tc hty x hx) trivial wm_L1_canEncode4 wl_L1_88 wt_L1_canEncode4 ⟨by decide, by decide⟩ rfl rfl (Nat.le_of_ble_eq_true rfl) ⟨Nat.zero_le _, Nat.zero_le _⟩ (fun r' hp => ?_)
  subst hp
  refine And.intro (fun c2 => ?_) (fun c2 => ?_)
  · skip
    refine vx_go hC hFt hini (vx_ends hC hr hlk) jc_L1_indexOf22 5 (by decide) rfl ?_
    refine sx_mmax hC (gw_i 645 (by decide +kernel) (by decide +kernel)) (by decide) (by decide) ⟨Nat.zero_le _, Nat.zero_le _⟩ ?_
    rw [if_neg (show ¬ (nI 0 : Int32) < (0, 0, 0, 0, 0).2.2.2.1 by decide)]
    refine ⟨1, _, _, hF.2, ?_⟩
    refine sx_mmin hC (gw_i 646 (by decide +kernel) (by decide +kernel)) (by decide) (by decide) ⟨Nat.zero_le _, Nat.zero_le _⟩ ?_
    rw [ite_self]
    refine And.intro (fun c16 => ?_) (fun c16 => ?_)
    · skip
      refine vx_go hC hFt hini (vx_ends hC hr hlk) jc_L1_indexOf22 19 (by decide) rfl ?_
      refine calls0 hC (c_L1_indexOfChar23 l D tys tc hty v W hWW x hx) hF wm_L1_indexOfChar23 wl_L1_95 wt_L1_indexOfChar23 ⟨by decide, by decide⟩ rfl rfl (Nat.le_of_ble_eq_true rfl) ⟨Nat.zero_le _, Nat.zero_le _⟩ (fun r' hp => ?_)
      obtain ⟨z, rfl, hz⟩ := hp
      refine And.intro (trivial) (And.intro ?_ (And.intro (Nat.le_refl _) (Nat.le_refl _)))
      exact And.intro ⟨z, rfl, hz⟩ rfl
    · skip
      have c16 : W.length = 0 := Nat.eq_zero_of_not_pos (fun z => c16 (nI_lt z (by omega)))
      refine And.intro (trivial) (And.intro ?_ (And.intro (Nat.le_refl _) (Nat.le_refl _)))
      exact And.intro (ixP_no (fun j hj => by omega)) rfl
  · skip
    exact absurd c2 (by decide)
set_option maxRecDepth 100000 in
set_option maxHeartbeats 4000000 in
theorem c_St_indexOf80 (l : Launch) (D : va_G) (tys : List (ClassId × FieldType)) (tc : Nat → ClassId) (hty : ∀ i : Nat, i < 4 → tys[i]? = some (tc i, vx_ty i)) (a : Nat) (W : List Nat) (hWW : isW W) (x : Nat) (hx : x < 256) : Kt l y_St_indexOf80 (yw y_St_indexOf80 b_St_indexOf80 3 (some .int)) 2 48 0 0 D cls tys (tF a W) [.ref a, .int (nI x), .int (nI 0)] [] (fun r w => ixP W x r ∧ w = []) := by
  refine Kt.of (tF_ro a W) (by decide) rfl hty (Nat.le_of_ble_eq_true rfl) ?_
  intro p e s m args below meth c0 A hC hr hlk hnm hF
  have hFt : vx_Ft y_St_indexOf80.cls (yw y_St_indexOf80 b_St_indexOf80 3 (some .int)) cls cty [] := (fun q h => by cases h)
  have hini : false = true → meth.name = "<init>" := fun h => by cases h
  have hF0 := hF
  obtain ⟨hcs, hO, hco, v, hv, hb⟩ := hF
  refine vx_go hC hFt hini (vx_ends hC hr hlk) jc_St_indexOf80 0 (by decide) rfl ?_
  refine callv0 hC (c_St_isLatin1154 l D tys tc hty a W hWW) hF0 hO wm_St_isLatin1154 wl_St_492 wi_St_isLatin1154 ws_St_St_isLatin1154 ⟨by decide, by decide⟩ rfl rfl (Nat.le_of_ble_eq_true rfl) ⟨Nat.zero_le _, Nat.zero_le _⟩ (fun r' hp => ?_)
  subst hp
  refine And.intro (fun c2 => ?_) (fun c2 => ?_)
  · skip
    exact absurd c2 (by decide)
  · skip
    refine ⟨_, ⟨"java/lang/String", "value", "[B", "java/lang/String", hv, Or.inl (hC.2.2.2.2.1 _ (List.mem_cons_of_mem _ wf_St_9)), fun _ z => z⟩, ?_⟩
    refine callv0 hC (c_St_length54 l D tys tc hty a W hWW) hF0 hO wm_St_length54 wl_St_505 wi_St_length54 ws_St_St_length54 ⟨by decide, by decide⟩ rfl rfl (Nat.le_of_ble_eq_true rfl) ⟨Nat.zero_le _, Nat.zero_le _⟩ (fun r' hp => ?_)
    subst hp
    refine calls0 hC (c_L1_indexOf22 l D tys tc hty v W hWW x hx) ⟨hcs, hb⟩ wm_L1_indexOf22 wl_St_637 wt_L1_indexOf22 ⟨by decide, by decide⟩ rfl rfl (Nat.le_of_ble_eq_true rfl) ⟨Nat.zero_le _, Nat.zero_le _⟩ (fun r' hp => ?_)
    obtain ⟨z, rfl, hz⟩ := hp
    refine vx_go hC hFt hini (vx_ends hC hr hlk) jc_St_indexOf80 18 (by decide) rfl ?_
    refine And.intro (trivial) (And.intro ?_ (And.intro (Nat.le_refl _) (Nat.le_refl _)))
    exact And.intro ⟨z, rfl, hz⟩ rfl
set_option maxRecDepth 100000 in
set_option maxHeartbeats 4000000 in
theorem c_St_indexOf79 (l : Launch) (D : va_G) (tys : List (ClassId × FieldType)) (tc : Nat → ClassId) (hty : ∀ i : Nat, i < 4 → tys[i]? = some (tc i, vx_ty i)) (a : Nat) (W : List Nat) (hWW : isW W) (x : Nat) (hx : x < 256) : Kt l y_St_indexOf79 (yw y_St_indexOf79 b_St_indexOf79 2 (some .int)) 3 70 0 0 D cls tys (tF a W) [.ref a, .int (nI x)] [] (fun r w => ixP W x r ∧ w = []) := by
  refine Kt.of (tF_ro a W) (by decide) rfl hty (Nat.le_of_ble_eq_true rfl) ?_
  intro p e s m args below meth c0 A hC hr hlk hnm hF
  have hFt : vx_Ft y_St_indexOf79.cls (yw y_St_indexOf79 b_St_indexOf79 2 (some .int)) cls cty [] := (fun q h => by cases h)
  have hini : false = true → meth.name = "<init>" := fun h => by cases h
  have hF0 := hF
  obtain ⟨hcs, hO, hco, v, hv, hb⟩ := hF
  refine vx_go hC hFt hini (vx_ends hC hr hlk) jc_St_indexOf79 0 (by decide) rfl ?_
  refine callv0 hC (c_St_indexOf80 l D tys tc hty a W hWW x hx) hF0 hO wm_St_indexOf80 wl_St_633 wi_St_indexOf80 ws_St_St_indexOf80 ⟨by decide, by decide⟩ rfl rfl (Nat.le_of_ble_eq_true rfl) ⟨Nat.zero_le _, Nat.zero_le _⟩ (fun r' hp => ?_)
  obtain ⟨z, rfl, hz⟩ := hp
  refine And.intro (trivial) (And.intro ?_ (And.intro (Nat.le_refl _) (Nat.le_refl _)))
  exact And.intro ⟨z, rfl, hz⟩ rfl
/-- a constant text of a class's pool -/
def kcF (own : String) (idx : Nat) (tx : String) (q : Nat) (W : List Nat) : (Nat → Prop) → State → Heap → Prop := fun A U H => vk_R own idx tx q U ∧ tF q W A U H
theorem kcF_ro (own : String) (idx : Nat) (tx : String) (q : Nat) (W : List Nat) : RO (kcF own idx tx q W) := ⟨fun _ _ _ _ ha h => ⟨h.1.warm ha, (tF_ro q W).1 _ _ _ _ ha h.2⟩, fun _ _ _ _ hq h => ⟨h.1, (tF_ro q W).2.1 _ _ _ _ hq h.2⟩, fun _ _ _ _ hq h => ⟨h.1, (tF_ro q W).2.2 _ _ _ _ hq h.2⟩⟩
def tokS : String := "abcdefghijklmnopqrstuvwxyzABCDEFGHIJKLMNOPQRSTUVWXYZ0123456789!#$%&'*+-.^_|~`"
def tokL : List Nat := [97, 98, 99, 100, 101, 102, 103, 104, 105, 106, 107, 108, 109, 110, 111, 112, 113, 114, 115, 116, 117, 118, 119, 120, 121, 122, 65, 66, 67, 68, 69, 70, 71, 72, 73, 74, 75, 76, 77, 78, 79, 80, 81, 82, 83, 84, 85, 86, 87, 88, 89, 90, 48, 49, 50, 51, 52, 53, 54, 55, 56, 57, 33, 35, 36, 37, 38, 39, 42, 43, 45, 46, 94, 95, 124, 126, 96]
theorem tokL_ok : isW tokL := ⟨by decide, by decide⟩
def isTk (x : Nat) : Bool := decide (x ∈ tokL)
set_option maxRecDepth 100000 in
set_option maxHeartbeats 4000000 in
theorem c_Rd_takeToken (l : Launch) (D : va_G) (tys : List (ClassId × FieldType)) (tc : Nat → ClassId) (hty : ∀ i : Nat, i < 4 → tys[i]? = some (tc i, vx_ty i)) (ci : Nat) (hci : ci < 5) (h ra sa : Nat) (ex : List Value) (T rs : List Nat) (sd : Nat → Int32) (ss : Nat) (hT : isT T) (hs : rs <:+ T) (q : Nat) : Kt l y_Rd_takeToken (yw y_Rd_takeToken b_Rd_takeToken 1 (some .boolean)) 4 91 0 0 D cls tys (fun A U H => rdF ra T A U H ∧ kcF "OriginDesk$Reader" 62 tokS q tokL A U H) [.ref h] (rdW tc ci h ra sa ex T rs sd ss) (fun r w => r = some (.int (bI !(rs.takeWhile isTk).isEmpty)) ∧ ∃ sd2, sdIs sd2 (rs.takeWhile isTk) ∧ w = rdW tc ci h ra sa ex T (rs.dropWhile isTk) sd2 (rs.takeWhile isTk).length) := by
  refine Kt.of (ro_and (rdF_ro ra T) (kcF_ro _ _ _ _ _)) (by decide) rfl hty (Nat.le_of_ble_eq_true rfl) ?_
  intro p e s m args below meth c0 A hC hr hlk hnm hF
  have hFt : vx_Ft y_Rd_takeToken.cls (yw y_Rd_takeToken b_Rd_takeToken 1 (some .boolean)) cls cty ft_Rd := ft_of (fun w h => List.mem_cons_of_mem _ h) fl_Rd_in ft_Rd_b
  have hini : false = true → meth.name = "<init>" := fun h => by cases h
  have hF0 := hF.1
  have hFt0 := hF.2.2
  have hO := hF.2.2.2.1
  obtain ⟨N, f, hrow, hN, hf⟩ := hF.1
  have hTl := hT.1
  rcases (show ci = 0 ∨ ci = 1 ∨ ci = 2 ∨ ci = 3 ∨ ci = 4 by omega) with rfl | rfl | rfl | rfl | rfl
  all_goals
    refine vx_gon hC hFt hini (vx_ends hC hr hlk) jc_Rd_takeToken 0 3 (by decide) rfl ?_
    refine And.intro rfl (And.intro (And.intro rfl rfl) ?_)
    generalize hRF : rs.dropWhile isTk = RF
    generalize hSF : rs.takeWhile isTk = SF
    have hsd := sd_nil sd
    obtain ⟨S, hS0⟩ : ∃ S : List Nat, S = [] := ⟨_, rfl⟩
    rw [← hS0] at hsd
    have hSl : S.length + rs.length ≤ 96 := by have := sfx_le hs; rw [hS0]; simp; omega
    refine Vx.eqs rfl rfl rfl (w2 := rdW tc _ h ra sa ex T rs sd S.length) (by rw [hS0]; rfl) ?_
    replace hSF : S ++ rs.takeWhile isTk = SF := by rw [hS0]; exact hSF
    clear hS0
    induction hlen : rs.length using Nat.strongRecOn generalizing rs S sd with
    | _ n ih =>
      refine vx_go hC hFt hini (vx_ends hC hr hlk) jc_Rd_takeToken 3 (by decide) rfl ?_
      refine And.intro rfl ?_
      refine And.intro rfl ?_
      refine And.intro (fun c7 => ?_) (fun c7 => ?_)
      · skip
        have hle := sfx_le hs
        have hnil : rs = [] := by
          have h2 := (nI_leI (a := T.length) (b := T.length - rs.length) (by omega) (by omega)).mp c7
          exact List.eq_nil_of_length_eq_zero (by omega)
        subst hnil
        have tw_e : ([] : List Nat).takeWhile isTk = [] := rfl
        have dw_e : [] = RF := hRF
        refine vx_go hC hFt hini (vx_ends hC hr hlk) jc_Rd_takeToken 31 (by decide) rfl ?_
        refine And.intro rfl ?_
        refine And.intro (fun c33 => ?_) (fun c33 => ?_)
        · skip
          have c33 : S.length = 0 := Nat.eq_zero_of_not_pos (fun z => absurd c33 (nI_nle z (by omega)))
          refine vx_go hC hFt hini (vx_ends hC hr hlk) jc_Rd_takeToken 36 (by decide) rfl ?_
          refine And.intro (rfl) (And.intro ?_ (And.intro (Nat.le_refl _) (Nat.le_refl _)))
          have e1 : SF = S := by rw [← hSF, tw_e, List.append_nil]
          rw [e1]
          refine And.intro ?_ ⟨sd, hsd, by rw [dw_e]⟩
          rw [List.eq_nil_of_length_eq_zero c33]
          rfl
        · skip
          have c33 : 0 < S.length := Nat.pos_of_ne_zero (fun z => c33 (by rw [z]; exact nI_le (Nat.le_refl 0) (by decide)))
          refine vx_go hC hFt hini (vx_ends hC hr hlk) jc_Rd_takeToken 37 (by decide) rfl ?_
          refine And.intro (rfl) (And.intro ?_ (And.intro (Nat.le_refl _) (Nat.le_refl _)))
          have e1 : SF = S := by rw [← hSF, tw_e, List.append_nil]
          rw [e1]
          refine And.intro ?_ ⟨sd, hsd, by rw [dw_e]⟩
          rw [show S.isEmpty = false by cases S with
            | nil => simp at c33
            | cons _ _ => rfl]
          rfl
      · skip
        have hle := sfx_le hs
        obtain ⟨x, r, hrs⟩ : ∃ x r, rs = x :: r := by
          cases hrs : rs with
          | nil => subst hrs; exact absurd ((nI_leI (a := T.length) (b := T.length - 0) (by omega) (by omega)).mpr (by omega)) c7
          | cons x r => exact ⟨x, r, rfl⟩
        obtain ⟨g1, g2, g3, g4, g5⟩ := sfx_at hs hrs
        have g6 := hT.2 x g5
        subst hrs
        refine ⟨q, Or.inr (Or.inr ⟨_, _, rfl, hF.2.1⟩), ?_⟩
        refine And.intro rfl ?_
        refine And.intro rfl ?_
        refine ⟨N, f, hrow, vp_in_nI (by omega) hN.2, ?_⟩
        rw [nI_clamp (by omega), hf _ g1, g2]
        refine callv0 hC (c_St_indexOf79 l D tys tc hty q tokL tokL_ok x (by omega)) hFt0 hO wm_St_indexOf79 wl_Rd_64 wi_St_indexOf79 ws_St_St_indexOf79 ⟨by decide, by decide⟩ rfl (congrArg (fun z => [Value.int z, Value.ref q]) (sb_byte x (by omega)).2.1) (Nat.le_of_ble_eq_true rfl) ⟨Nat.zero_le _, Nat.zero_le _⟩ (fun r' hp => ?_)
        obtain ⟨z, rfl, hz⟩ := hp
        refine And.intro (fun c16 => ?_) (fun c16 => ?_)
        · skip
          have c16 : isTk x = false := by simpa [isTk] using hz.mp c16
          have tw_e := tw_f (r := r) c16
          have dw_e := (dw_f (r := r) c16).symm.trans hRF
          refine vx_go hC hFt hini (vx_ends hC hr hlk) jc_Rd_takeToken 31 (by decide) rfl ?_
          refine And.intro rfl ?_
          refine And.intro (fun c33 => ?_) (fun c33 => ?_)
          · skip
            have c33 : S.length = 0 := Nat.eq_zero_of_not_pos (fun z => absurd c33 (nI_nle z (by omega)))
            refine vx_go hC hFt hini (vx_ends hC hr hlk) jc_Rd_takeToken 36 (by decide) rfl ?_
            refine And.intro (rfl) (And.intro ?_ (And.intro (Nat.le_refl _) (Nat.le_refl _)))
            have e1 : SF = S := by rw [← hSF, tw_e, List.append_nil]
            rw [e1]
            refine And.intro ?_ ⟨sd, hsd, by rw [dw_e]⟩
            rw [List.eq_nil_of_length_eq_zero c33]
            rfl
          · skip
            have c33 : 0 < S.length := Nat.pos_of_ne_zero (fun z => c33 (by rw [z]; exact nI_le (Nat.le_refl 0) (by decide)))
            refine vx_go hC hFt hini (vx_ends hC hr hlk) jc_Rd_takeToken 37 (by decide) rfl ?_
            refine And.intro (rfl) (And.intro ?_ (And.intro (Nat.le_refl _) (Nat.le_refl _)))
            have e1 : SF = S := by rw [← hSF, tw_e, List.append_nil]
            rw [e1]
            refine And.intro ?_ ⟨sd, hsd, by rw [dw_e]⟩
            rw [show S.isEmpty = false by cases S with
              | nil => simp at c33
              | cons _ _ => rfl]
            rfl
        · skip
          have c16 : isTk x = true := by
            simp only [isTk, decide_eq_true_eq]
            exact Classical.byContradiction (fun y => c16 (hz.mpr y))
          refine And.intro rfl ?_
          refine And.intro rfl ?_
          refine ⟨N, f, hrow, vp_in_nI (by omega) hN.2, ?_⟩
          rw [nI_clamp (by omega), hf _ g1, g2]
          refine rd_call hC hF0 (c_Rd_say l D tys tc hty _ hci h ra sa ex T (x :: r) sd S.length hT hs S hsd rfl (by simp at hSl; omega) x (by omega)) wm_Rd_say wl_Rd_67 wi_Rd_say (hC.2.2.2.2.1 _ (List.mem_cons_of_mem _ (sel_say _ hci))) hci ⟨by decide, by decide⟩ rfl rfl (by decide) ⟨Nat.zero_le _, Nat.zero_le _⟩ (fun r' w1 hp => ?_)
          obtain ⟨rfl, sd2, hsd2, rfl⟩ := hp
          refine And.intro rfl ?_
          refine And.intro rfl ?_
          refine And.intro rfl (And.intro (And.intro rfl rfl) ?_)
          refine Vx.eqs rfl rfl rfl (rd_stepS g4) (ih r.length (by simp at hlen; omega) r sd2 g3 (by rw [← hRF, dw_t c16]) (S ++ [x]) hsd2 (by simp at hSl ⊢; omega) (by rw [← hSF, tw_t c16]; simp) rfl)
end
section
/-! NAMES OF THREE LETTERS; OPEN: by program (wip/whole/gen/p19.py) -/
def nms : List Nat → Nat → Nat → Nat → Nat → Option Nat
  | a :: b :: c :: W, x, y, z, k => if x = a ∧ y = b ∧ z = c then some k else nms W x y z (k + 1)
  | _, _, _, _, _ => none
/-- which of the names W comes next -/
def nmAt (W rs : List Nat) : Option Nat × List Nat := match rs with
  | x :: y :: z :: r => (match nms W x y z 0 with
    | some k => (some k, r)
    | none => (none, x :: y :: z :: r))
  | rs => (none, rs)
theorem nmAt_short {W rs : List Nat} (h : ¬ 3 ≤ rs.length) : nmAt W rs = (none, rs) := by
  match rs, h with
  | [], _ => rfl
  | [_], _ => rfl
  | [_, _], _ => rfl
  | _ :: _ :: _ :: _, h => exact absurd (by simp) h
theorem sfx3 {T : List Nat} {x y z : Nat} {r : List Nat} (h : x :: y :: z :: r <:+ T) : T.length - (x :: y :: z :: r).length + 3 = T.length - r.length ∧ T.length - (x :: y :: z :: r).length + 2 < T.length ∧ T.getD (T.length - (x :: y :: z :: r).length) 0 = x ∧ T.getD (T.length - (x :: y :: z :: r).length + 1) 0 = y ∧ T.getD (T.length - (x :: y :: z :: r).length + 2) 0 = z ∧ (x ∈ T ∧ y ∈ T ∧ z ∈ T) ∧ r <:+ T := by
  obtain ⟨t, rfl⟩ := h
  have h1 : (t ++ x :: y :: z :: r).length - (x :: y :: z :: r).length = t.length := by simp
  rw [h1]
  refine ⟨by simp <;> omega, by simp <;> omega, by simp, ?_, ?_, ⟨by simp, by simp, by simp⟩, ⟨t ++ [x, y, z], by simp⟩⟩
  · simp [List.getD_eq_getElem?_getD, List.getElem?_append_right]
  · simp [List.getD_eq_getElem?_getD, List.getElem?_append_right]
theorem rd_step3 {tc : Nat → ClassId} {ci h ra sa : Nat} {ex : List Value} {T r : List Nat} {x y z : Nat} {sd : Nat → Int32} {ss : Nat} (g4 : T.length - (x :: y :: z :: r).length + 3 = T.length - r.length) : [((h, .inr (ci, .ref ra :: .int (nI T.length) :: .int (nI (T.length - (x :: y :: z :: r).length) + 3) :: .ref sa :: .int (nI ss) :: ex)) : Nat × va_E), (sa, .inl (tc 0, 96, .inl sd))] = rdW tc ci h ra sa ex T r sd ss := by
  rw [show (3 : Int32) = nI 3 from rfl, nI_add, g4]; rfl
theorem sub_len {a b : Nat} (h : b ≤ a) : nI a - nI (a - b) = nI b := by rw [pk_sub (by omega)]; congr 1; omega
theorem nms_hit {W : List Nat} {k x y z : Nat} (h : 3 * k + 2 < W.length) (h1 : x = W.getD (3 * k) 0) (h2 : y = W.getD (3 * k + 1) 0) (h3 : z = W.getD (3 * k + 2) 0) : nms (W.drop (3 * k)) x y z k = some k := by
  rw [drop_get (by omega), drop_get (by omega), drop_get (by omega), nms, if_pos ⟨h1, h2, h3⟩]
theorem nms_miss {W : List Nat} {k x y z : Nat} (h : 3 * k + 2 < W.length) (h1 : ¬ (x = W.getD (3 * k) 0 ∧ y = W.getD (3 * k + 1) 0 ∧ z = W.getD (3 * k + 2) 0)) : nms (W.drop (3 * k)) x y z k = nms (W.drop (3 * (k + 1))) x y z (k + 1) := by
  rw [drop_get (by omega), drop_get (by omega), drop_get (by omega), nms, if_neg h1]
  rfl
theorem nms_end {W : List Nat} {k x y z : Nat} (h : W.length ≤ 3 * k + 2) : nms (W.drop (3 * k)) x y z k = none := by
  rcases Nat.lt_or_ge (3 * k) W.length with h1 | h1
  · rw [drop_get h1]
    rcases Nat.lt_or_ge (3 * k + 1) W.length with h2 | h2
    · rw [drop_get h2, drop_end (by omega)]; rfl
    · rw [drop_end h2]; rfl
  · rw [drop_end h1]; rfl
set_option maxRecDepth 100000 in
set_option maxHeartbeats 4000000 in
theorem c_Rd_takeName (l : Launch) (D : va_G) (tys : List (ClassId × FieldType)) (tc : Nat → ClassId) (hty : ∀ i : Nat, i < 4 → tys[i]? = some (tc i, vx_ty i)) (ci : Nat) (hci : ci < 5) (h ra sa : Nat) (ex : List Value) (T rs : List Nat) (sd : Nat → Int32) (ss : Nat) (hT : isT T) (hs : rs <:+ T) (a : Nat) (W : List Nat) (hWW : isW W) (hW8 : W.length ≤ 1000) : Kt l y_Rd_takeName (yw y_Rd_takeName b_Rd_takeName 4 (some .int)) 4 85 0 0 D cls tys (fun A U H => rdF ra T A U H ∧ tF a W A U H) [.ref h, .ref a] (rdW tc ci h ra sa ex T rs sd ss) (fun r w => r = some (.int (iI (nmAt W rs).1)) ∧ w = rdW tc ci h ra sa ex T (nmAt W rs).2 sd ss) := by
  refine Kt.of (ro_and (rdF_ro ra T) (tF_ro a W)) (by decide) rfl hty (Nat.le_of_ble_eq_true rfl) ?_
  intro p e s m args below meth c0 A hC hr hlk hnm hF
  have hFt : vx_Ft y_Rd_takeName.cls (yw y_Rd_takeName b_Rd_takeName 4 (some .int)) cls cty ft_Rd := ft_of (fun w h => List.mem_cons_of_mem _ h) fl_Rd_in ft_Rd_b
  have hini : false = true → meth.name = "<init>" := fun h => by cases h
  have hF0 := hF.1
  have hFt0 := hF.2
  have hO := hF.2.2.1
  obtain ⟨N, f, hrow, hN, hf⟩ := hF.1
  have hTl := hT.1
  have hWl := hWW.1
  have hW9 := hW8
  rcases (show ci = 0 ∨ ci = 1 ∨ ci = 2 ∨ ci = 3 ∨ ci = 4 by omega) with rfl | rfl | rfl | rfl | rfl
  all_goals
    refine vx_gon hC hFt hini (vx_ends hC hr hlk) jc_Rd_takeName 0 11 (by decide) rfl ?_
    refine And.intro rfl ?_
    refine And.intro rfl ?_
    refine And.intro (fun c6 => ?_) (fun c6 => ?_)
    · skip
      have hle := sfx_le hs
      rw [sub_len hle] at c6
      have c6 := (nI_leI (a := 3) (b := rs.length) (by omega) (by omega)).mp c6
      obtain ⟨x0, x1, x2, r, rfl⟩ : ∃ x0 x1 x2 r, rs = x0 :: x1 :: x2 :: r := by
        match rs, c6 with
        | x0 :: x1 :: x2 :: r, _ => exact ⟨x0, x1, x2, r, rfl⟩
        | [], c6 => simp at c6
        | [_], c6 => simp at c6
        | [_, _], c6 => simp at c6
      obtain ⟨v4, v5, v0, v1, v2, ⟨m0, m1, m2⟩, v6⟩ := sfx3 hs
      have l0 := hT.2 _ m0
      have l1 := hT.2 _ m1
      have l2 := hT.2 _ m2
      generalize hres2 : nms W x0 x1 x2 0 = RES2
      refine vx_gon hC hFt hini (vx_ends hC hr hlk) jc_Rd_takeName 9 2 (by decide) rfl ?_
      refine Vx.subL (lv' := [(0, .ref h), (1, .ref a), (2, .int (nI 0))]) [1, 2, 0] rfl ?_
      obtain ⟨k, hk⟩ : ∃ k : Nat, k = 0 := ⟨_, rfl⟩
      refine Vx.eqs rfl (lv2 := [(0, .ref h), (1, .ref a), (2, .int (nI (3 * k)))]) (by rw [hk]) rfl rfl ?_
      have hres : nms (W.drop (3 * k)) x0 x1 x2 k = RES2 := by rw [hk]; exact hres2
      have hkl : 3 * k ≤ W.length + 2 := by omega
      clear hk
      induction hlen : W.length + 3 - 3 * k using Nat.strongRecOn generalizing k with
      | _ n ih =>
        refine vx_go hC hFt hini (vx_ends hC hr hlk) jc_Rd_takeName 11 (by decide) rfl ?_
        refine callv0 hC (c_St_length54 l D tys tc hty a W hWW) hFt0 hO wm_St_length54 wl_Rd_45 wi_St_length54 ws_St_St_length54 ⟨by decide, by decide⟩ rfl rfl (Nat.le_of_ble_eq_true rfl) ⟨Nat.zero_le _, Nat.zero_le _⟩ (fun r' hp => ?_)
        subst hp
        refine And.intro (fun c16 => ?_) (fun c16 => ?_)
        · skip
          rw [show ((0, 0, 0, 2, 0) : wq_A).2.2.2.1 = nI 2 from rfl, nI_add] at c16
          have c16 := (nI_leI (a := W.length) (b := (3 * k + 2)) (by omega) (by omega)).mp c16
          refine vx_go hC hFt hini (vx_ends hC hr hlk) jc_Rd_takeName 70 (by decide) rfl ?_
          refine And.intro (trivial) (And.intro ?_ (And.intro (Nat.le_refl _) (Nat.le_refl _)))
          simp only [nmAt]
          rw [hres2, ← hres, nms_end c16]
          exact And.intro rfl rfl
        · skip
          rw [show ((0, 0, 0, 2, 0) : wq_A).2.2.2.1 = nI 2 from rfl, nI_add] at c16
          have c16 : ¬ (W.length ≤ (3 * k + 2)) := fun z => c16 ((nI_leI (a := W.length) (b := (3 * k + 2)) (by omega) (by omega)).mpr z)
          refine And.intro rfl ?_
          refine And.intro rfl ?_
          refine ⟨N, f, hrow, vp_in_nI (by omega) hN.2, ?_⟩
          rw [nI_clamp (by omega), hf _ (by omega), v0]
          refine callv0 hC (c_St_charAt56 l D tys tc hty a W hWW (3 * k) (by omega)) hFt0 hO wm_St_charAt56 wl_Rd_51 wi_St_charAt56 ws_St_St_charAt56 ⟨by decide, by decide⟩ rfl rfl (Nat.le_of_ble_eq_true rfl) ⟨Nat.zero_le _, Nat.zero_le _⟩ (fun r' hp => ?_)
          subst hp
          refine And.intro (fun c25 => ?_) (fun c25 => ?_)
          · skip
            have c25 : ¬ (x0 = W.getD (3 * k) 0) := fun z => c25 (by rw [z])
            refine vx_go hC hFt hini (vx_ends hC hr hlk) jc_Rd_takeName 41 (by decide) rfl ?_
            refine And.intro (fun c44 => ?_) (fun c44 => ?_)
            · skip
              refine vx_go hC hFt hini (vx_ends hC hr hlk) jc_Rd_takeName 68 (by decide) rfl ?_
              refine Vx.subL (lv' := [(0, .ref h), (1, .ref a), (2, .int (nI (3 * k) + 3))]) [2, 3, 0] rfl ?_
              refine Vx.eqs rfl (by rw [show (3 : Int32) = nI 3 from rfl, nI_add]; rfl) rfl rfl (ih (W.length + 3 - 3 * (k + 1)) (by omega) (k + 1) ?_ (by omega) rfl)
              rw [← hres, nms_miss (by omega) (fun z => c25 z.1)]
            · skip
              exact absurd rfl c44
          · skip
            have c25 : x0 = W.getD (3 * k) 0 := (nI_eq (by omega) (by have := gd_lt hWW (3 * k); omega)).mp c25
            refine And.intro rfl ?_
            refine And.intro rfl ?_
            refine ⟨N, f, hrow, ?_, ?_⟩
            · rw [show ((0, 0, 0, 1, 0) : wq_A).2.2.2.1 = nI 1 from rfl, nI_add]; exact vp_in_nI (by omega) hN.2
            rw [show ((0, 0, 0, 1, 0) : wq_A).2.2.2.1 = nI 1 from rfl, nI_add, nI_clamp (by omega), hf _ (by omega), v1]
            refine callv0 hC (c_St_charAt56 l D tys tc hty a W hWW (3 * k + 1) (by omega)) hFt0 hO wm_St_charAt56 wl_Rd_51 wi_St_charAt56 ws_St_St_charAt56 ⟨by decide, by decide⟩ rfl (congrArg (fun z => [Value.int z, Value.ref a, Value.int (nI x1)]) (nI_add (3 * k) 1)) (Nat.le_of_ble_eq_true rfl) ⟨Nat.zero_le _, Nat.zero_le _⟩ (fun r' hp => ?_)
            subst hp
            refine And.intro (fun c38 => ?_) (fun c38 => ?_)
            · skip
              have c38 : ¬ (x1 = W.getD (3 * k + 1) 0) := fun z => c38 (by rw [z])
              refine vx_go hC hFt hini (vx_ends hC hr hlk) jc_Rd_takeName 41 (by decide) rfl ?_
              refine And.intro (fun c44 => ?_) (fun c44 => ?_)
              · skip
                refine vx_go hC hFt hini (vx_ends hC hr hlk) jc_Rd_takeName 68 (by decide) rfl ?_
                refine Vx.subL (lv' := [(0, .ref h), (1, .ref a), (2, .int (nI (3 * k) + 3))]) [2, 3, 0] rfl ?_
                refine Vx.eqs rfl (by rw [show (3 : Int32) = nI 3 from rfl, nI_add]; rfl) rfl rfl (ih (W.length + 3 - 3 * (k + 1)) (by omega) (k + 1) ?_ (by omega) rfl)
                rw [← hres, nms_miss (by omega) (fun z => c38 z.2.1)]
              · skip
                exact absurd rfl c44
            · skip
              have c38 : x1 = W.getD (3 * k + 1) 0 := (nI_eq (by omega) (by have := gd_lt hWW (3 * k + 1); omega)).mp c38
              refine vx_go hC hFt hini (vx_ends hC hr hlk) jc_Rd_takeName 42 (by decide) rfl ?_
              refine And.intro (fun c44 => ?_) (fun c44 => ?_)
              · skip
                exact absurd c44 (by decide)
              · skip
                refine And.intro rfl ?_
                refine And.intro rfl ?_
                refine ⟨N, f, hrow, ?_, ?_⟩
                · rw [show ((0, 0, 0, 2, 0) : wq_A).2.2.2.1 = nI 2 from rfl, nI_add]; exact vp_in_nI (by omega) hN.2
                rw [show ((0, 0, 0, 2, 0) : wq_A).2.2.2.1 = nI 2 from rfl, nI_add, nI_clamp (by omega), hf _ (by omega), v2]
                refine callv0 hC (c_St_charAt56 l D tys tc hty a W hWW (3 * k + 2) (by omega)) hFt0 hO wm_St_charAt56 wl_Rd_51 wi_St_charAt56 ws_St_St_charAt56 ⟨by decide, by decide⟩ rfl (congrArg (fun z => [Value.int z, Value.ref a, Value.int (nI x2)]) (nI_add (3 * k) 2)) (Nat.le_of_ble_eq_true rfl) ⟨Nat.zero_le _, Nat.zero_le _⟩ (fun r' hp => ?_)
                subst hp
                refine And.intro (fun c57 => ?_) (fun c57 => ?_)
                · skip
                  have c57 : ¬ (x2 = W.getD (3 * k + 2) 0) := fun z => c57 (by rw [z])
                  refine vx_go hC hFt hini (vx_ends hC hr hlk) jc_Rd_takeName 68 (by decide) rfl ?_
                  refine Vx.subL (lv' := [(0, .ref h), (1, .ref a), (2, .int (nI (3 * k) + 3))]) [2, 3, 0] rfl ?_
                  refine Vx.eqs rfl (by rw [show (3 : Int32) = nI 3 from rfl, nI_add]; rfl) rfl rfl (ih (W.length + 3 - 3 * (k + 1)) (by omega) (k + 1) ?_ (by omega) rfl)
                  rw [← hres, nms_miss (by omega) (fun z => c57 z.2.2)]
                · skip
                  have c57 : x2 = W.getD (3 * k + 2) 0 := (nI_eq (by omega) (by have := gd_lt hWW (3 * k + 2); omega)).mp c57
                  refine And.intro rfl ?_
                  refine And.intro rfl ?_
                  refine And.intro rfl (And.intro (And.intro rfl rfl) ?_)
                  refine And.intro (by decide) ?_
                  refine And.intro (trivial) (And.intro ?_ (And.intro (Nat.le_refl _) (Nat.le_refl _)))
                  simp only [nmAt]
                  rw [hres2, ← hres, nms_hit (by omega) c25 c38 c57]
                  refine And.intro ?_ (rd_step3 v4)
                  show some (Value.int (nI (3 * k) / nI 3)) = some (Value.int (nI k))
                  rw [pk_div (by omega) (by decide) (by decide), Nat.mul_div_cancel_left k (by decide)]
    · skip
      have hle := sfx_le hs
      rw [sub_len hle] at c6
      have c6 : ¬ (3 ≤ rs.length) := fun z => c6 ((nI_leI (a := 3) (b := rs.length) (by omega) (by omega)).mpr z)
      refine And.intro (trivial) (And.intro ?_ (And.intro (Nat.le_refl _) (Nat.le_refl _)))
      rw [nmAt_short c6]
      exact And.intro rfl rfl
end
section
/-! THE REFERENCE'S WORLD: one object, thirteen arrays, by program (wip/whole/gen/p30.py). sc k: its int of slot k; ai, al: its arrays by place -/
def mdW (tc : Nat → ClassId) (h : Nat) (ar : Nat → Nat) (now : Int64) (sc : Nat → Int32) (ai : Nat → Nat → Int32) (al : Nat → Nat → Int64) : va_W := [(h, .inr (9, [.long now, .int (sc 1), .ref (ar 1), .ref (ar 2), .ref (ar 3), .ref (ar 4), .ref (ar 5), .ref (ar 6), .int (sc 8), .ref (ar 7), .ref (ar 8), .int (sc 11), .int (sc 12), .int (sc 13), .int (sc 14), .int (sc 15), .int (sc 16), .int (sc 17), .int (sc 18), .int (sc 19), .int (sc 20), .ref (ar 9), .ref (ar 10), .int (sc 23), .int (sc 24), .int (sc 25), .int (sc 26), .int (sc 27), .ref (ar 11), .ref (ar 12), .ref (ar 13)])), (ar 1, .inl (tc 0, 4, .inl (ai 1))), (ar 2, .inl (tc 0, 4, .inl (ai 2))), (ar 3, .inl (tc 0, 4, .inl (ai 3))), (ar 4, .inl (tc 0, 4, .inl (ai 4))), (ar 5, .inl (tc 3, 4, .inl (ai 5))), (ar 6, .inl (tc 2, 4, .inr (.inl (al 6)))), (ar 7, .inl (tc 0, 768, .inl (ai 7))), (ar 8, .inl (tc 0, 8, .inl (ai 8))), (ar 9, .inl (tc 0, 96, .inl (ai 9))), (ar 10, .inl (tc 0, 96, .inl (ai 10))), (ar 11, .inl (tc 0, 4, .inl (ai 11))), (ar 12, .inl (tc 0, 4, .inl (ai 12))), (ar 13, .inl (tc 2, 15, .inr (.inl (al 13))))]
/-- it reads field F, whose text is T, and stands at ps -/
def mdS (sc : Nat → Int32) (ai : Nat → Nat → Int32) (F : Nat) (T : List Nat) (ps : Nat) : Prop := F < 8 ∧ sc 11 = nI F ∧ ai 8 F = nI T.length ∧ (∀ j, j < T.length → ai 7 (96 * F + j) = nI (T.getD j 0)) ∧ isT T ∧ sc 12 = nI ps ∧ ps ≤ 400
theorem mdS.at {sc : Nat → Int32} {ai : Nat → Nat → Int32} {F : Nat} {T : List Nat} {ps p2 : Nat} (h : mdS sc ai F T ps) (h2 : p2 ≤ 400) : mdS (upd sc 12 (nI p2)) ai F T p2 := ⟨h.1, (pk_un (by decide)).trans h.2.1, h.2.2.1, h.2.2.2.1, h.2.2.2.2.1, pk_us, h2⟩
theorem mdS.ot {sc : Nat → Int32} {ai : Nat → Nat → Int32} {F : Nat} {T : List Nat} {ps k : Nat} {v : Int32} (h : mdS sc ai F T ps) (h1 : 11 ≠ k) (h2 : 12 ≠ k) : mdS (upd sc k v) ai F T ps := ⟨h.1, (pk_un h1).trans h.2.1, h.2.2.1, h.2.2.2.1, h.2.2.2.2.1, (pk_un h2).trans h.2.2.2.2.2.1, h.2.2.2.2.2.2⟩
theorem T_lt {T : List Nat} (h : isT T) (k : Nat) : T.getD k 0 < 256 := by
  by_cases e : k < T.length
  · rw [List.getD_eq_getElem?_getD, List.getElem?_eq_getElem e]; exact (h.2 _ (List.getElem_mem e)).2
  · rw [List.getD_eq_getElem?_getD, List.getElem?_eq_none (by omega)]; decide
theorem T_out {T : List Nat} {k : Nat} (h : T.length ≤ k) : T.getD k 0 = 0 := by rw [List.getD_eq_getElem?_getD, List.getElem?_eq_none h]; rfl
theorem T_in {T : List Nat} {k : Nat} (h : ¬ T.getD k 0 = 0) : k < T.length := Nat.lt_of_not_le (fun z => h (T_out z))
section
variable {p : Program} {l : Launch} {e : Env} {R : Room} {s : State} {m : MethodId} {args : Array Value} {below : List Frame} {meth : Method} {c : Code} {cc : ByteArray} {nL : Nat} {D : va_G} {tys : List (ClassId × FieldType)} {A : Nat → Prop} {tc : Nat → ClassId} {Q : State → Prop} {st rest : List Value} {k n : Nat} {post : Option Value → va_W → Prop} {ret : Option FieldType} {K : List Value → va_W → Nat → Nat → Prop} {y y0 : MethodName} {bytes b0 : ByteArray} {maxL n0 index nA fr lo : Nat} {r0 : Option FieldType} {h : Nat} {As : List Value} {ar : Nat → Nat} {now : Int64} {sc : Nat → Int32} {ai : Nat → Nat → Int32} {al : Nat → Nat → Int64} {ws : va_W}
theorem mo_call (hC : Cx p s m args c cc nL "OriginDeskModel" (yw y0 b0 n0 r0) D cls tys A tc) (hk : Kt l y (yw y bytes maxL ret) fr lo 0 0 D cls tys (fun _ _ _ => True) (.ref h :: As) (mdW tc h ar now sc ai al) post) (hwm : wm y bytes maxL ret nA) (hl : Cond.methodLink "OriginDeskModel" index y ∈ gw) (hi : Cond.instanceMethod y ∈ gw) (hsel : Cond.selects "OriginDeskModel" y y ∈ gw) (hR : fr + 1 ≤ R.frames ∧ 8 + (maxL + 11) + lo ≤ R.locals) (hlen : As.length = nA) (hst : st = As.reverse ++ .ref h :: rest) (hW : (rest.map fun v => v.category).sum ≤ 8) (hkn : k ≤ R.cells ∧ n ≤ R.slots)
    (kk : ∀ (r : Option Value) (w1 : va_W), post r w1 → K (r.toList ++ rest) w1 k n) : vx_SX cc (Vx p l e R s m args below meth c nL D cls A Q) (.invokevirtual index) 3 st (mdW tc h ar now sc ai al) k n K :=
  sx_callV (wr := []) hC hk (cw_V (C := "OriginDeskModel") hwm hl hi hsel hC.2.2.2.2.1 hR) [0, 1, 2, 3, 4, 5, 6, 7, 8, 9, 10, 11, 12, 13] [] rfl rfl rfl rfl (by simp) (q0 := 0) (ci := 9) rfl rfl rfl (fun _ _ _ _ _ => trivial) hlen hst hW hkn kk
theorem mo_calls (hC : Cx p s m args c cc nL "OriginDeskModel" (yw y0 b0 n0 r0) D cls tys A tc) {post : Option Value → Prop} (hk : Kt l y (yw y bytes maxL ret) fr lo 0 0 D cls tys (fun _ _ _ => True) As [] (fun r w => post r ∧ w = [])) (hwm : wm y bytes maxL ret nA) (hl : Cond.methodLink "OriginDeskModel" index y ∈ gw) (hi : Cond.static y ∈ gw) (hR : fr + 1 ≤ R.frames ∧ 8 + (maxL + 11) + lo ≤ R.locals) (hlen : As.length = nA) (hst : st = As.reverse ++ rest) (hW : (rest.map fun v => v.category).sum ≤ 8) (hkn : k ≤ R.cells ∧ n ≤ R.slots)
    (kk : ∀ (r : Option Value), post r → K (r.toList ++ rest) ws k n) : vx_SX cc (Vx p l e R s m args below meth c nL D cls A Q) (.invokestatic index) 3 st ws k n K := calls0 hC hk trivial hwm hl hi hR hlen hst hW hkn kk
end
set_option maxRecDepth 100000 in
set_option maxHeartbeats 4000000 in
theorem c_Mo_isDigit (l : Launch) (D : va_G) (tys : List (ClassId × FieldType)) (tc : Nat → ClassId) (hty : ∀ i : Nat, i < 4 → tys[i]? = some (tc i, vx_ty i)) (c : Nat) (hc : c < 256) : Kt l y_Mo_isDigit (yw y_Mo_isDigit b_Mo_isDigit 1 (some .boolean)) 0 0 0 0 D cls tys (fun _ _ _ => True) [.int (nI c)] [] (fun r w => r = some (.int (bI (isDg c))) ∧ w = []) := by
  refine Kt.of ro_true (by decide) rfl hty (Nat.le_of_ble_eq_true rfl) ?_
  intro p e s m args below meth c0 A hC hr hlk hnm hF
  have hFt : vx_Ft y_Mo_isDigit.cls (yw y_Mo_isDigit b_Mo_isDigit 1 (some .boolean)) cls cty [] := (fun q h => by cases h)
  have hini : false = true → meth.name = "<init>" := fun h => by cases h
  refine vx_go hC hFt hini (vx_ends hC hr hlk) jc_Mo_isDigit 0 (by decide) rfl ?_
  refine And.intro (fun c2 => ?_) (fun c2 => ?_)
  · skip
    have c2 := (nI_ltI (a := c) (b := 48) (by omega) (by omega)).mp c2
    refine vx_go hC hFt hini (vx_ends hC hr hlk) jc_Mo_isDigit 8 (by decide) rfl ?_
    refine And.intro (rfl) (And.intro ?_ (And.intro (Nat.le_refl _) (Nat.le_refl _)))
    first | (rw [show isDg c = true by simp only [isDg, decide_eq_true_eq]; omega]; exact And.intro rfl rfl) | (rw [show isDg c = false by simp only [isDg, decide_eq_false_iff_not]; omega]; exact And.intro rfl rfl)
  · skip
    have c2 : ¬ (c < 48) := fun z => c2 ((nI_ltI (a := c) (b := 48) (by omega) (by omega)).mpr z)
    refine And.intro (fun c5 => ?_) (fun c5 => ?_)
    · skip
      have c5 := (nI_ltI (a := 57) (b := c) (by omega) (by omega)).mp c5
      refine vx_go hC hFt hini (vx_ends hC hr hlk) jc_Mo_isDigit 8 (by decide) rfl ?_
      refine And.intro (rfl) (And.intro ?_ (And.intro (Nat.le_refl _) (Nat.le_refl _)))
      first | (rw [show isDg c = true by simp only [isDg, decide_eq_true_eq]; omega]; exact And.intro rfl rfl) | (rw [show isDg c = false by simp only [isDg, decide_eq_false_iff_not]; omega]; exact And.intro rfl rfl)
    · skip
      have c5 : ¬ (57 < c) := fun z => c5 ((nI_ltI (a := 57) (b := c) (by omega) (by omega)).mpr z)
      refine vx_go hC hFt hini (vx_ends hC hr hlk) jc_Mo_isDigit 9 (by decide) rfl ?_
      refine And.intro (rfl) (And.intro ?_ (And.intro (Nat.le_refl _) (Nat.le_refl _)))
      first | (rw [show isDg c = true by simp only [isDg, decide_eq_true_eq]; omega]; exact And.intro rfl rfl) | (rw [show isDg c = false by simp only [isDg, decide_eq_false_iff_not]; omega]; exact And.intro rfl rfl)
set_option maxRecDepth 100000 in
set_option maxHeartbeats 4000000 in
theorem c_Mo_isLetter (l : Launch) (D : va_G) (tys : List (ClassId × FieldType)) (tc : Nat → ClassId) (hty : ∀ i : Nat, i < 4 → tys[i]? = some (tc i, vx_ty i)) (c : Nat) (hc : c < 256) : Kt l y_Mo_isLetter (yw y_Mo_isLetter b_Mo_isLetter 1 (some .boolean)) 0 0 0 0 D cls tys (fun _ _ _ => True) [.int (nI c)] [] (fun r w => r = some (.int (bI (isLt c))) ∧ w = []) := by
  refine Kt.of ro_true (by decide) rfl hty (Nat.le_of_ble_eq_true rfl) ?_
  intro p e s m args below meth c0 A hC hr hlk hnm hF
  have hFt : vx_Ft y_Mo_isLetter.cls (yw y_Mo_isLetter b_Mo_isLetter 1 (some .boolean)) cls cty [] := (fun q h => by cases h)
  have hini : false = true → meth.name = "<init>" := fun h => by cases h
  refine vx_go hC hFt hini (vx_ends hC hr hlk) jc_Mo_isLetter 0 (by decide) rfl ?_
  refine And.intro (fun c2 => ?_) (fun c2 => ?_)
  · skip
    have c2 := (nI_ltI (a := c) (b := 65) (by omega) (by omega)).mp c2
    refine vx_go hC hFt hini (vx_ends hC hr hlk) jc_Mo_isLetter 6 (by decide) rfl ?_
    refine And.intro (fun c8 => ?_) (fun c8 => ?_)
    · skip
      have c8 := (nI_ltI (a := c) (b := 97) (by omega) (by omega)).mp c8
      refine vx_go hC hFt hini (vx_ends hC hr hlk) jc_Mo_isLetter 14 (by decide) rfl ?_
      refine And.intro (rfl) (And.intro ?_ (And.intro (Nat.le_refl _) (Nat.le_refl _)))
      first | (rw [show isLt c = true by simp only [isLt, decide_eq_true_eq]; omega]; exact And.intro rfl rfl) | (rw [show isLt c = false by simp only [isLt, decide_eq_false_iff_not]; omega]; exact And.intro rfl rfl)
    · skip
      have c8 : ¬ (c < 97) := fun z => c8 ((nI_ltI (a := c) (b := 97) (by omega) (by omega)).mpr z)
      refine And.intro (fun c11 => ?_) (fun c11 => ?_)
      · skip
        have c11 := (nI_ltI (a := 122) (b := c) (by omega) (by omega)).mp c11
        refine vx_go hC hFt hini (vx_ends hC hr hlk) jc_Mo_isLetter 14 (by decide) rfl ?_
        refine And.intro (rfl) (And.intro ?_ (And.intro (Nat.le_refl _) (Nat.le_refl _)))
        first | (rw [show isLt c = true by simp only [isLt, decide_eq_true_eq]; omega]; exact And.intro rfl rfl) | (rw [show isLt c = false by simp only [isLt, decide_eq_false_iff_not]; omega]; exact And.intro rfl rfl)
      · skip
        have c11 : ¬ (122 < c) := fun z => c11 ((nI_ltI (a := 122) (b := c) (by omega) (by omega)).mpr z)
        refine vx_go hC hFt hini (vx_ends hC hr hlk) jc_Mo_isLetter 15 (by decide) rfl ?_
        refine And.intro (rfl) (And.intro ?_ (And.intro (Nat.le_refl _) (Nat.le_refl _)))
        first | (rw [show isLt c = true by simp only [isLt, decide_eq_true_eq]; omega]; exact And.intro rfl rfl) | (rw [show isLt c = false by simp only [isLt, decide_eq_false_iff_not]; omega]; exact And.intro rfl rfl)
  · skip
    have c2 : ¬ (c < 65) := fun z => c2 ((nI_ltI (a := c) (b := 65) (by omega) (by omega)).mpr z)
    refine And.intro (fun c5 => ?_) (fun c5 => ?_)
    · skip
      have c5 := (nI_leI (a := c) (b := 90) (by omega) (by omega)).mp c5
      refine vx_go hC hFt hini (vx_ends hC hr hlk) jc_Mo_isLetter 12 (by decide) rfl ?_
      refine vx_go hC hFt hini (vx_ends hC hr hlk) jc_Mo_isLetter 15 (by decide) rfl ?_
      refine And.intro (rfl) (And.intro ?_ (And.intro (Nat.le_refl _) (Nat.le_refl _)))
      first | (rw [show isLt c = true by simp only [isLt, decide_eq_true_eq]; omega]; exact And.intro rfl rfl) | (rw [show isLt c = false by simp only [isLt, decide_eq_false_iff_not]; omega]; exact And.intro rfl rfl)
    · skip
      have c5 : ¬ (c ≤ 90) := fun z => c5 ((nI_leI (a := c) (b := 90) (by omega) (by omega)).mpr z)
      refine And.intro (fun c8 => ?_) (fun c8 => ?_)
      · skip
        have c8 := (nI_ltI (a := c) (b := 97) (by omega) (by omega)).mp c8
        refine vx_go hC hFt hini (vx_ends hC hr hlk) jc_Mo_isLetter 14 (by decide) rfl ?_
        refine And.intro (rfl) (And.intro ?_ (And.intro (Nat.le_refl _) (Nat.le_refl _)))
        first | (rw [show isLt c = true by simp only [isLt, decide_eq_true_eq]; omega]; exact And.intro rfl rfl) | (rw [show isLt c = false by simp only [isLt, decide_eq_false_iff_not]; omega]; exact And.intro rfl rfl)
      · skip
        have c8 : ¬ (c < 97) := fun z => c8 ((nI_ltI (a := c) (b := 97) (by omega) (by omega)).mpr z)
        refine And.intro (fun c11 => ?_) (fun c11 => ?_)
        · skip
          have c11 := (nI_ltI (a := 122) (b := c) (by omega) (by omega)).mp c11
          refine vx_go hC hFt hini (vx_ends hC hr hlk) jc_Mo_isLetter 14 (by decide) rfl ?_
          refine And.intro (rfl) (And.intro ?_ (And.intro (Nat.le_refl _) (Nat.le_refl _)))
          first | (rw [show isLt c = true by simp only [isLt, decide_eq_true_eq]; omega]; exact And.intro rfl rfl) | (rw [show isLt c = false by simp only [isLt, decide_eq_false_iff_not]; omega]; exact And.intro rfl rfl)
        · skip
          have c11 : ¬ (122 < c) := fun z => c11 ((nI_ltI (a := 122) (b := c) (by omega) (by omega)).mpr z)
          refine vx_go hC hFt hini (vx_ends hC hr hlk) jc_Mo_isLetter 15 (by decide) rfl ?_
          refine And.intro (rfl) (And.intro ?_ (And.intro (Nat.le_refl _) (Nat.le_refl _)))
          first | (rw [show isLt c = true by simp only [isLt, decide_eq_true_eq]; omega]; exact And.intro rfl rfl) | (rw [show isLt c = false by simp only [isLt, decide_eq_false_iff_not]; omega]; exact And.intro rfl rfl)
set_option maxRecDepth 100000 in
set_option maxHeartbeats 4000000 in
theorem c_Mo_lower (l : Launch) (D : va_G) (tys : List (ClassId × FieldType)) (tc : Nat → ClassId) (hty : ∀ i : Nat, i < 4 → tys[i]? = some (tc i, vx_ty i)) (c : Nat) (hc : c < 256) : Kt l y_Mo_lower (yw y_Mo_lower b_Mo_lower 1 (some .int)) 0 0 0 0 D cls tys (fun _ _ _ => True) [.int (nI c)] [] (fun r w => r = some (.int (nI (lwr c))) ∧ w = []) := by
  refine Kt.of ro_true (by decide) rfl hty (Nat.le_of_ble_eq_true rfl) ?_
  intro p e s m args below meth c0 A hC hr hlk hnm hF
  have hFt : vx_Ft y_Mo_lower.cls (yw y_Mo_lower b_Mo_lower 1 (some .int)) cls cty [] := (fun q h => by cases h)
  have hini : false = true → meth.name = "<init>" := fun h => by cases h
  refine vx_go hC hFt hini (vx_ends hC hr hlk) jc_Mo_lower 0 (by decide) rfl ?_
  refine And.intro (fun c2 => ?_) (fun c2 => ?_)
  · skip
    have c2 := (nI_ltI (a := c) (b := 65) (by omega) (by omega)).mp c2
    refine vx_go hC hFt hini (vx_ends hC hr hlk) jc_Mo_lower 10 (by decide) rfl ?_
    refine And.intro (trivial) (And.intro ?_ (And.intro (Nat.le_refl _) (Nat.le_refl _)))
    refine And.intro ?_ rfl
    simp only [lwr]
    first | (rw [if_pos (by omega), ← nI_add]; rfl) | (rw [if_neg (by omega)])
  · skip
    have c2 : ¬ (c < 65) := fun z => c2 ((nI_ltI (a := c) (b := 65) (by omega) (by omega)).mpr z)
    refine And.intro (fun c5 => ?_) (fun c5 => ?_)
    · skip
      have c5 := (nI_ltI (a := 90) (b := c) (by omega) (by omega)).mp c5
      refine vx_go hC hFt hini (vx_ends hC hr hlk) jc_Mo_lower 10 (by decide) rfl ?_
      refine And.intro (trivial) (And.intro ?_ (And.intro (Nat.le_refl _) (Nat.le_refl _)))
      refine And.intro ?_ rfl
      simp only [lwr]
      first | (rw [if_pos (by omega), ← nI_add]; rfl) | (rw [if_neg (by omega)])
    · skip
      have c5 : ¬ (90 < c) := fun z => c5 ((nI_ltI (a := 90) (b := c) (by omega) (by omega)).mpr z)
      refine vx_go hC hFt hini (vx_ends hC hr hlk) jc_Mo_lower 11 (by decide) rfl ?_
      refine And.intro (trivial) (And.intro ?_ (And.intro (Nat.le_refl _) (Nat.le_refl _)))
      refine And.intro ?_ rfl
      simp only [lwr]
      first | (rw [if_pos (by omega), ← nI_add]; rfl) | (rw [if_neg (by omega)])
def isMk (c : Nat) : Bool := decide (c = 33 ∨ 35 ≤ c ∧ c ≤ 39 ∨ c = 42 ∨ c = 43 ∨ c = 45 ∨ c = 46 ∨ c = 94 ∨ c = 95 ∨ c = 96 ∨ c = 124 ∨ c = 126)
theorem isTk_mk : ∀ c, c < 256 → isTk c = (isDg c || (isLt c || isMk c)) := by decide +kernel
set_option maxRecDepth 100000 in
set_option maxHeartbeats 4000000 in
theorem c_Mo_isToken (l : Launch) (D : va_G) (tys : List (ClassId × FieldType)) (tc : Nat → ClassId) (hty : ∀ i : Nat, i < 4 → tys[i]? = some (tc i, vx_ty i)) (c : Nat) (hc : c < 256) : Kt l y_Mo_isToken (yw y_Mo_isToken b_Mo_isToken 2 (some .boolean)) 1 20 0 0 D cls tys (fun _ _ _ => True) [.int (nI c)] [] (fun r w => r = some (.int (bI (isTk c))) ∧ w = []) := by
  refine Kt.of ro_true (by decide) rfl hty (Nat.le_of_ble_eq_true rfl) ?_
  intro p e s m args below meth c0 A hC hr hlk hnm hF
  have hFt : vx_Ft y_Mo_isToken.cls (yw y_Mo_isToken b_Mo_isToken 2 (some .boolean)) cls cty [] := (fun q h => by cases h)
  have hini : false = true → meth.name = "<init>" := fun h => by cases h
  refine vx_go hC hFt hini (vx_ends hC hr hlk) jc_Mo_isToken 0 (by decide) rfl ?_
  refine And.intro (fun c2 => ?_) (fun c2 => ?_)
  · skip
    have c2 := (nI_eq (a := c) (b := 33) (by omega) (by omega)).mp c2
    refine vx_go hC hFt hini (vx_ends hC hr hlk) jc_Mo_isToken 36 (by decide) rfl ?_
    refine vx_go hC hFt hini (vx_ends hC hr hlk) jc_Mo_isToken 39 (by decide) rfl ?_
    refine mo_calls hC (c_Mo_isDigit l D tys tc hty c hc) wm_Mo_isDigit wl_Mo_119 wt_Mo_isDigit ⟨by decide, by decide⟩ rfl rfl (Nat.le_of_ble_eq_true rfl) ⟨Nat.zero_le _, Nat.zero_le _⟩ (fun r' hp => ?_)
    subst hp
    refine And.intro (fun c42 => ?_) (fun c42 => ?_)
    · skip
      have c42 : isDg c = true := bI_ne c42
      refine vx_go hC hFt hini (vx_ends hC hr hlk) jc_Mo_isToken 48 (by decide) rfl ?_
      refine vx_go hC hFt hini (vx_ends hC hr hlk) jc_Mo_isToken 51 (by decide) rfl ?_
      refine And.intro (rfl) (And.intro ?_ (And.intro (Nat.le_refl _) (Nat.le_refl _)))
      rw [isTk_mk c hc, c42]
      exact And.intro rfl rfl
    · skip
      have c42 : isDg c = false := bI_eq c42
      refine mo_calls hC (c_Mo_isLetter l D tys tc hty c hc) wm_Mo_isLetter wl_Mo_123 wt_Mo_isLetter ⟨by decide, by decide⟩ rfl rfl (Nat.le_of_ble_eq_true rfl) ⟨Nat.zero_le _, Nat.zero_le _⟩ (fun r' hp => ?_)
      subst hp
      refine And.intro (fun c45 => ?_) (fun c45 => ?_)
      · skip
        have c45 : isLt c = true := bI_ne c45
        refine vx_go hC hFt hini (vx_ends hC hr hlk) jc_Mo_isToken 48 (by decide) rfl ?_
        refine vx_go hC hFt hini (vx_ends hC hr hlk) jc_Mo_isToken 51 (by decide) rfl ?_
        refine And.intro (rfl) (And.intro ?_ (And.intro (Nat.le_refl _) (Nat.le_refl _)))
        rw [isTk_mk c hc, c42, c45]
        exact And.intro rfl rfl
      · skip
        have c45 : isLt c = false := bI_eq c45
        refine And.intro (fun c47 => ?_) (fun c47 => ?_)
        · skip
          exact absurd c47 (by decide)
        · skip
          refine vx_go hC hFt hini (vx_ends hC hr hlk) jc_Mo_isToken 51 (by decide) rfl ?_
          refine And.intro (rfl) (And.intro ?_ (And.intro (Nat.le_refl _) (Nat.le_refl _)))
          rw [isTk_mk c hc, c42, c45, show isMk c = true by simp only [isMk, decide_eq_true_eq]; omega]
          exact And.intro rfl rfl
  · skip
    have c2 : ¬ (c = 33) := fun z => c2 ((nI_eq (a := c) (b := 33) (by omega) (by omega)).mpr z)
    refine And.intro (fun c5 => ?_) (fun c5 => ?_)
    · skip
      have c5 := (nI_ltI (a := c) (b := 35) (by omega) (by omega)).mp c5
      refine vx_go hC hFt hini (vx_ends hC hr hlk) jc_Mo_isToken 9 (by decide) rfl ?_
      refine And.intro (fun c11 => ?_) (fun c11 => ?_)
      · skip
        have c11 := (nI_eq (a := c) (b := 42) (by omega) (by omega)).mp c11
        refine vx_go hC hFt hini (vx_ends hC hr hlk) jc_Mo_isToken 36 (by decide) rfl ?_
        refine vx_go hC hFt hini (vx_ends hC hr hlk) jc_Mo_isToken 39 (by decide) rfl ?_
        refine mo_calls hC (c_Mo_isDigit l D tys tc hty c hc) wm_Mo_isDigit wl_Mo_119 wt_Mo_isDigit ⟨by decide, by decide⟩ rfl rfl (Nat.le_of_ble_eq_true rfl) ⟨Nat.zero_le _, Nat.zero_le _⟩ (fun r' hp => ?_)
        subst hp
        refine And.intro (fun c42 => ?_) (fun c42 => ?_)
        · skip
          have c42 : isDg c = true := bI_ne c42
          refine vx_go hC hFt hini (vx_ends hC hr hlk) jc_Mo_isToken 48 (by decide) rfl ?_
          refine vx_go hC hFt hini (vx_ends hC hr hlk) jc_Mo_isToken 51 (by decide) rfl ?_
          refine And.intro (rfl) (And.intro ?_ (And.intro (Nat.le_refl _) (Nat.le_refl _)))
          rw [isTk_mk c hc, c42]
          exact And.intro rfl rfl
        · skip
          have c42 : isDg c = false := bI_eq c42
          refine mo_calls hC (c_Mo_isLetter l D tys tc hty c hc) wm_Mo_isLetter wl_Mo_123 wt_Mo_isLetter ⟨by decide, by decide⟩ rfl rfl (Nat.le_of_ble_eq_true rfl) ⟨Nat.zero_le _, Nat.zero_le _⟩ (fun r' hp => ?_)
          subst hp
          refine And.intro (fun c45 => ?_) (fun c45 => ?_)
          · skip
            have c45 : isLt c = true := bI_ne c45
            refine vx_go hC hFt hini (vx_ends hC hr hlk) jc_Mo_isToken 48 (by decide) rfl ?_
            refine vx_go hC hFt hini (vx_ends hC hr hlk) jc_Mo_isToken 51 (by decide) rfl ?_
            refine And.intro (rfl) (And.intro ?_ (And.intro (Nat.le_refl _) (Nat.le_refl _)))
            rw [isTk_mk c hc, c42, c45]
            exact And.intro rfl rfl
          · skip
            have c45 : isLt c = false := bI_eq c45
            refine And.intro (fun c47 => ?_) (fun c47 => ?_)
            · skip
              exact absurd c47 (by decide)
            · skip
              refine vx_go hC hFt hini (vx_ends hC hr hlk) jc_Mo_isToken 51 (by decide) rfl ?_
              refine And.intro (rfl) (And.intro ?_ (And.intro (Nat.le_refl _) (Nat.le_refl _)))
              rw [isTk_mk c hc, c42, c45, show isMk c = true by simp only [isMk, decide_eq_true_eq]; omega]
              exact And.intro rfl rfl
      · skip
        have c11 : ¬ (c = 42) := fun z => c11 ((nI_eq (a := c) (b := 42) (by omega) (by omega)).mpr z)
        refine And.intro (fun c14 => ?_) (fun c14 => ?_)
        · skip
          have c14 := (nI_eq (a := c) (b := 43) (by omega) (by omega)).mp c14
          refine vx_go hC hFt hini (vx_ends hC hr hlk) jc_Mo_isToken 36 (by decide) rfl ?_
          refine vx_go hC hFt hini (vx_ends hC hr hlk) jc_Mo_isToken 39 (by decide) rfl ?_
          refine mo_calls hC (c_Mo_isDigit l D tys tc hty c hc) wm_Mo_isDigit wl_Mo_119 wt_Mo_isDigit ⟨by decide, by decide⟩ rfl rfl (Nat.le_of_ble_eq_true rfl) ⟨Nat.zero_le _, Nat.zero_le _⟩ (fun r' hp => ?_)
          subst hp
          refine And.intro (fun c42 => ?_) (fun c42 => ?_)
          · skip
            have c42 : isDg c = true := bI_ne c42
            refine vx_go hC hFt hini (vx_ends hC hr hlk) jc_Mo_isToken 48 (by decide) rfl ?_
            refine vx_go hC hFt hini (vx_ends hC hr hlk) jc_Mo_isToken 51 (by decide) rfl ?_
            refine And.intro (rfl) (And.intro ?_ (And.intro (Nat.le_refl _) (Nat.le_refl _)))
            rw [isTk_mk c hc, c42]
            exact And.intro rfl rfl
          · skip
            have c42 : isDg c = false := bI_eq c42
            refine mo_calls hC (c_Mo_isLetter l D tys tc hty c hc) wm_Mo_isLetter wl_Mo_123 wt_Mo_isLetter ⟨by decide, by decide⟩ rfl rfl (Nat.le_of_ble_eq_true rfl) ⟨Nat.zero_le _, Nat.zero_le _⟩ (fun r' hp => ?_)
            subst hp
            refine And.intro (fun c45 => ?_) (fun c45 => ?_)
            · skip
              have c45 : isLt c = true := bI_ne c45
              refine vx_go hC hFt hini (vx_ends hC hr hlk) jc_Mo_isToken 48 (by decide) rfl ?_
              refine vx_go hC hFt hini (vx_ends hC hr hlk) jc_Mo_isToken 51 (by decide) rfl ?_
              refine And.intro (rfl) (And.intro ?_ (And.intro (Nat.le_refl _) (Nat.le_refl _)))
              rw [isTk_mk c hc, c42, c45]
              exact And.intro rfl rfl
            · skip
              have c45 : isLt c = false := bI_eq c45
              refine And.intro (fun c47 => ?_) (fun c47 => ?_)
              · skip
                exact absurd c47 (by decide)
              · skip
                refine vx_go hC hFt hini (vx_ends hC hr hlk) jc_Mo_isToken 51 (by decide) rfl ?_
                refine And.intro (rfl) (And.intro ?_ (And.intro (Nat.le_refl _) (Nat.le_refl _)))
                rw [isTk_mk c hc, c42, c45, show isMk c = true by simp only [isMk, decide_eq_true_eq]; omega]
                exact And.intro rfl rfl
        · skip
          have c14 : ¬ (c = 43) := fun z => c14 ((nI_eq (a := c) (b := 43) (by omega) (by omega)).mpr z)
          refine And.intro (fun c17 => ?_) (fun c17 => ?_)
          · skip
            have c17 := (nI_eq (a := c) (b := 45) (by omega) (by omega)).mp c17
            refine vx_go hC hFt hini (vx_ends hC hr hlk) jc_Mo_isToken 36 (by decide) rfl ?_
            refine vx_go hC hFt hini (vx_ends hC hr hlk) jc_Mo_isToken 39 (by decide) rfl ?_
            refine mo_calls hC (c_Mo_isDigit l D tys tc hty c hc) wm_Mo_isDigit wl_Mo_119 wt_Mo_isDigit ⟨by decide, by decide⟩ rfl rfl (Nat.le_of_ble_eq_true rfl) ⟨Nat.zero_le _, Nat.zero_le _⟩ (fun r' hp => ?_)
            subst hp
            refine And.intro (fun c42 => ?_) (fun c42 => ?_)
            · skip
              have c42 : isDg c = true := bI_ne c42
              refine vx_go hC hFt hini (vx_ends hC hr hlk) jc_Mo_isToken 48 (by decide) rfl ?_
              refine vx_go hC hFt hini (vx_ends hC hr hlk) jc_Mo_isToken 51 (by decide) rfl ?_
              refine And.intro (rfl) (And.intro ?_ (And.intro (Nat.le_refl _) (Nat.le_refl _)))
              rw [isTk_mk c hc, c42]
              exact And.intro rfl rfl
            · skip
              have c42 : isDg c = false := bI_eq c42
              refine mo_calls hC (c_Mo_isLetter l D tys tc hty c hc) wm_Mo_isLetter wl_Mo_123 wt_Mo_isLetter ⟨by decide, by decide⟩ rfl rfl (Nat.le_of_ble_eq_true rfl) ⟨Nat.zero_le _, Nat.zero_le _⟩ (fun r' hp => ?_)
              subst hp
              refine And.intro (fun c45 => ?_) (fun c45 => ?_)
              · skip
                have c45 : isLt c = true := bI_ne c45
                refine vx_go hC hFt hini (vx_ends hC hr hlk) jc_Mo_isToken 48 (by decide) rfl ?_
                refine vx_go hC hFt hini (vx_ends hC hr hlk) jc_Mo_isToken 51 (by decide) rfl ?_
                refine And.intro (rfl) (And.intro ?_ (And.intro (Nat.le_refl _) (Nat.le_refl _)))
                rw [isTk_mk c hc, c42, c45]
                exact And.intro rfl rfl
              · skip
                have c45 : isLt c = false := bI_eq c45
                refine And.intro (fun c47 => ?_) (fun c47 => ?_)
                · skip
                  exact absurd c47 (by decide)
                · skip
                  refine vx_go hC hFt hini (vx_ends hC hr hlk) jc_Mo_isToken 51 (by decide) rfl ?_
                  refine And.intro (rfl) (And.intro ?_ (And.intro (Nat.le_refl _) (Nat.le_refl _)))
                  rw [isTk_mk c hc, c42, c45, show isMk c = true by simp only [isMk, decide_eq_true_eq]; omega]
                  exact And.intro rfl rfl
          · skip
            have c17 : ¬ (c = 45) := fun z => c17 ((nI_eq (a := c) (b := 45) (by omega) (by omega)).mpr z)
            refine And.intro (fun c20 => ?_) (fun c20 => ?_)
            · skip
              have c20 := (nI_eq (a := c) (b := 46) (by omega) (by omega)).mp c20
              refine vx_go hC hFt hini (vx_ends hC hr hlk) jc_Mo_isToken 36 (by decide) rfl ?_
              refine vx_go hC hFt hini (vx_ends hC hr hlk) jc_Mo_isToken 39 (by decide) rfl ?_
              refine mo_calls hC (c_Mo_isDigit l D tys tc hty c hc) wm_Mo_isDigit wl_Mo_119 wt_Mo_isDigit ⟨by decide, by decide⟩ rfl rfl (Nat.le_of_ble_eq_true rfl) ⟨Nat.zero_le _, Nat.zero_le _⟩ (fun r' hp => ?_)
              subst hp
              refine And.intro (fun c42 => ?_) (fun c42 => ?_)
              · skip
                have c42 : isDg c = true := bI_ne c42
                refine vx_go hC hFt hini (vx_ends hC hr hlk) jc_Mo_isToken 48 (by decide) rfl ?_
                refine vx_go hC hFt hini (vx_ends hC hr hlk) jc_Mo_isToken 51 (by decide) rfl ?_
                refine And.intro (rfl) (And.intro ?_ (And.intro (Nat.le_refl _) (Nat.le_refl _)))
                rw [isTk_mk c hc, c42]
                exact And.intro rfl rfl
              · skip
                have c42 : isDg c = false := bI_eq c42
                refine mo_calls hC (c_Mo_isLetter l D tys tc hty c hc) wm_Mo_isLetter wl_Mo_123 wt_Mo_isLetter ⟨by decide, by decide⟩ rfl rfl (Nat.le_of_ble_eq_true rfl) ⟨Nat.zero_le _, Nat.zero_le _⟩ (fun r' hp => ?_)
                subst hp
                refine And.intro (fun c45 => ?_) (fun c45 => ?_)
                · skip
                  have c45 : isLt c = true := bI_ne c45
                  refine vx_go hC hFt hini (vx_ends hC hr hlk) jc_Mo_isToken 48 (by decide) rfl ?_
                  refine vx_go hC hFt hini (vx_ends hC hr hlk) jc_Mo_isToken 51 (by decide) rfl ?_
                  refine And.intro (rfl) (And.intro ?_ (And.intro (Nat.le_refl _) (Nat.le_refl _)))
                  rw [isTk_mk c hc, c42, c45]
                  exact And.intro rfl rfl
                · skip
                  have c45 : isLt c = false := bI_eq c45
                  refine And.intro (fun c47 => ?_) (fun c47 => ?_)
                  · skip
                    exact absurd c47 (by decide)
                  · skip
                    refine vx_go hC hFt hini (vx_ends hC hr hlk) jc_Mo_isToken 51 (by decide) rfl ?_
                    refine And.intro (rfl) (And.intro ?_ (And.intro (Nat.le_refl _) (Nat.le_refl _)))
                    rw [isTk_mk c hc, c42, c45, show isMk c = true by simp only [isMk, decide_eq_true_eq]; omega]
                    exact And.intro rfl rfl
            · skip
              have c20 : ¬ (c = 46) := fun z => c20 ((nI_eq (a := c) (b := 46) (by omega) (by omega)).mpr z)
              refine And.intro (fun c23 => ?_) (fun c23 => ?_)
              · skip
                have c23 := (nI_eq (a := c) (b := 94) (by omega) (by omega)).mp c23
                refine vx_go hC hFt hini (vx_ends hC hr hlk) jc_Mo_isToken 36 (by decide) rfl ?_
                refine vx_go hC hFt hini (vx_ends hC hr hlk) jc_Mo_isToken 39 (by decide) rfl ?_
                refine mo_calls hC (c_Mo_isDigit l D tys tc hty c hc) wm_Mo_isDigit wl_Mo_119 wt_Mo_isDigit ⟨by decide, by decide⟩ rfl rfl (Nat.le_of_ble_eq_true rfl) ⟨Nat.zero_le _, Nat.zero_le _⟩ (fun r' hp => ?_)
                subst hp
                refine And.intro (fun c42 => ?_) (fun c42 => ?_)
                · skip
                  have c42 : isDg c = true := bI_ne c42
                  refine vx_go hC hFt hini (vx_ends hC hr hlk) jc_Mo_isToken 48 (by decide) rfl ?_
                  refine vx_go hC hFt hini (vx_ends hC hr hlk) jc_Mo_isToken 51 (by decide) rfl ?_
                  refine And.intro (rfl) (And.intro ?_ (And.intro (Nat.le_refl _) (Nat.le_refl _)))
                  rw [isTk_mk c hc, c42]
                  exact And.intro rfl rfl
                · skip
                  have c42 : isDg c = false := bI_eq c42
                  refine mo_calls hC (c_Mo_isLetter l D tys tc hty c hc) wm_Mo_isLetter wl_Mo_123 wt_Mo_isLetter ⟨by decide, by decide⟩ rfl rfl (Nat.le_of_ble_eq_true rfl) ⟨Nat.zero_le _, Nat.zero_le _⟩ (fun r' hp => ?_)
                  subst hp
                  refine And.intro (fun c45 => ?_) (fun c45 => ?_)
                  · skip
                    have c45 : isLt c = true := bI_ne c45
                    refine vx_go hC hFt hini (vx_ends hC hr hlk) jc_Mo_isToken 48 (by decide) rfl ?_
                    refine vx_go hC hFt hini (vx_ends hC hr hlk) jc_Mo_isToken 51 (by decide) rfl ?_
                    refine And.intro (rfl) (And.intro ?_ (And.intro (Nat.le_refl _) (Nat.le_refl _)))
                    rw [isTk_mk c hc, c42, c45]
                    exact And.intro rfl rfl
                  · skip
                    have c45 : isLt c = false := bI_eq c45
                    refine And.intro (fun c47 => ?_) (fun c47 => ?_)
                    · skip
                      exact absurd c47 (by decide)
                    · skip
                      refine vx_go hC hFt hini (vx_ends hC hr hlk) jc_Mo_isToken 51 (by decide) rfl ?_
                      refine And.intro (rfl) (And.intro ?_ (And.intro (Nat.le_refl _) (Nat.le_refl _)))
                      rw [isTk_mk c hc, c42, c45, show isMk c = true by simp only [isMk, decide_eq_true_eq]; omega]
                      exact And.intro rfl rfl
              · skip
                have c23 : ¬ (c = 94) := fun z => c23 ((nI_eq (a := c) (b := 94) (by omega) (by omega)).mpr z)
                refine And.intro (fun c26 => ?_) (fun c26 => ?_)
                · skip
                  have c26 := (nI_eq (a := c) (b := 95) (by omega) (by omega)).mp c26
                  refine vx_go hC hFt hini (vx_ends hC hr hlk) jc_Mo_isToken 36 (by decide) rfl ?_
                  refine vx_go hC hFt hini (vx_ends hC hr hlk) jc_Mo_isToken 39 (by decide) rfl ?_
                  refine mo_calls hC (c_Mo_isDigit l D tys tc hty c hc) wm_Mo_isDigit wl_Mo_119 wt_Mo_isDigit ⟨by decide, by decide⟩ rfl rfl (Nat.le_of_ble_eq_true rfl) ⟨Nat.zero_le _, Nat.zero_le _⟩ (fun r' hp => ?_)
                  subst hp
                  refine And.intro (fun c42 => ?_) (fun c42 => ?_)
                  · skip
                    have c42 : isDg c = true := bI_ne c42
                    refine vx_go hC hFt hini (vx_ends hC hr hlk) jc_Mo_isToken 48 (by decide) rfl ?_
                    refine vx_go hC hFt hini (vx_ends hC hr hlk) jc_Mo_isToken 51 (by decide) rfl ?_
                    refine And.intro (rfl) (And.intro ?_ (And.intro (Nat.le_refl _) (Nat.le_refl _)))
                    rw [isTk_mk c hc, c42]
                    exact And.intro rfl rfl
                  · skip
                    have c42 : isDg c = false := bI_eq c42
                    refine mo_calls hC (c_Mo_isLetter l D tys tc hty c hc) wm_Mo_isLetter wl_Mo_123 wt_Mo_isLetter ⟨by decide, by decide⟩ rfl rfl (Nat.le_of_ble_eq_true rfl) ⟨Nat.zero_le _, Nat.zero_le _⟩ (fun r' hp => ?_)
                    subst hp
                    refine And.intro (fun c45 => ?_) (fun c45 => ?_)
                    · skip
                      have c45 : isLt c = true := bI_ne c45
                      refine vx_go hC hFt hini (vx_ends hC hr hlk) jc_Mo_isToken 48 (by decide) rfl ?_
                      refine vx_go hC hFt hini (vx_ends hC hr hlk) jc_Mo_isToken 51 (by decide) rfl ?_
                      refine And.intro (rfl) (And.intro ?_ (And.intro (Nat.le_refl _) (Nat.le_refl _)))
                      rw [isTk_mk c hc, c42, c45]
                      exact And.intro rfl rfl
                    · skip
                      have c45 : isLt c = false := bI_eq c45
                      refine And.intro (fun c47 => ?_) (fun c47 => ?_)
                      · skip
                        exact absurd c47 (by decide)
                      · skip
                        refine vx_go hC hFt hini (vx_ends hC hr hlk) jc_Mo_isToken 51 (by decide) rfl ?_
                        refine And.intro (rfl) (And.intro ?_ (And.intro (Nat.le_refl _) (Nat.le_refl _)))
                        rw [isTk_mk c hc, c42, c45, show isMk c = true by simp only [isMk, decide_eq_true_eq]; omega]
                        exact And.intro rfl rfl
                · skip
                  have c26 : ¬ (c = 95) := fun z => c26 ((nI_eq (a := c) (b := 95) (by omega) (by omega)).mpr z)
                  refine And.intro (fun c29 => ?_) (fun c29 => ?_)
                  · skip
                    have c29 := (nI_eq (a := c) (b := 96) (by omega) (by omega)).mp c29
                    refine vx_go hC hFt hini (vx_ends hC hr hlk) jc_Mo_isToken 36 (by decide) rfl ?_
                    refine vx_go hC hFt hini (vx_ends hC hr hlk) jc_Mo_isToken 39 (by decide) rfl ?_
                    refine mo_calls hC (c_Mo_isDigit l D tys tc hty c hc) wm_Mo_isDigit wl_Mo_119 wt_Mo_isDigit ⟨by decide, by decide⟩ rfl rfl (Nat.le_of_ble_eq_true rfl) ⟨Nat.zero_le _, Nat.zero_le _⟩ (fun r' hp => ?_)
                    subst hp
                    refine And.intro (fun c42 => ?_) (fun c42 => ?_)
                    · skip
                      have c42 : isDg c = true := bI_ne c42
                      refine vx_go hC hFt hini (vx_ends hC hr hlk) jc_Mo_isToken 48 (by decide) rfl ?_
                      refine vx_go hC hFt hini (vx_ends hC hr hlk) jc_Mo_isToken 51 (by decide) rfl ?_
                      refine And.intro (rfl) (And.intro ?_ (And.intro (Nat.le_refl _) (Nat.le_refl _)))
                      rw [isTk_mk c hc, c42]
                      exact And.intro rfl rfl
                    · skip
                      have c42 : isDg c = false := bI_eq c42
                      refine mo_calls hC (c_Mo_isLetter l D tys tc hty c hc) wm_Mo_isLetter wl_Mo_123 wt_Mo_isLetter ⟨by decide, by decide⟩ rfl rfl (Nat.le_of_ble_eq_true rfl) ⟨Nat.zero_le _, Nat.zero_le _⟩ (fun r' hp => ?_)
                      subst hp
                      refine And.intro (fun c45 => ?_) (fun c45 => ?_)
                      · skip
                        have c45 : isLt c = true := bI_ne c45
                        refine vx_go hC hFt hini (vx_ends hC hr hlk) jc_Mo_isToken 48 (by decide) rfl ?_
                        refine vx_go hC hFt hini (vx_ends hC hr hlk) jc_Mo_isToken 51 (by decide) rfl ?_
                        refine And.intro (rfl) (And.intro ?_ (And.intro (Nat.le_refl _) (Nat.le_refl _)))
                        rw [isTk_mk c hc, c42, c45]
                        exact And.intro rfl rfl
                      · skip
                        have c45 : isLt c = false := bI_eq c45
                        refine And.intro (fun c47 => ?_) (fun c47 => ?_)
                        · skip
                          exact absurd c47 (by decide)
                        · skip
                          refine vx_go hC hFt hini (vx_ends hC hr hlk) jc_Mo_isToken 51 (by decide) rfl ?_
                          refine And.intro (rfl) (And.intro ?_ (And.intro (Nat.le_refl _) (Nat.le_refl _)))
                          rw [isTk_mk c hc, c42, c45, show isMk c = true by simp only [isMk, decide_eq_true_eq]; omega]
                          exact And.intro rfl rfl
                  · skip
                    have c29 : ¬ (c = 96) := fun z => c29 ((nI_eq (a := c) (b := 96) (by omega) (by omega)).mpr z)
                    refine And.intro (fun c32 => ?_) (fun c32 => ?_)
                    · skip
                      have c32 := (nI_eq (a := c) (b := 124) (by omega) (by omega)).mp c32
                      refine vx_go hC hFt hini (vx_ends hC hr hlk) jc_Mo_isToken 36 (by decide) rfl ?_
                      refine vx_go hC hFt hini (vx_ends hC hr hlk) jc_Mo_isToken 39 (by decide) rfl ?_
                      refine mo_calls hC (c_Mo_isDigit l D tys tc hty c hc) wm_Mo_isDigit wl_Mo_119 wt_Mo_isDigit ⟨by decide, by decide⟩ rfl rfl (Nat.le_of_ble_eq_true rfl) ⟨Nat.zero_le _, Nat.zero_le _⟩ (fun r' hp => ?_)
                      subst hp
                      refine And.intro (fun c42 => ?_) (fun c42 => ?_)
                      · skip
                        have c42 : isDg c = true := bI_ne c42
                        refine vx_go hC hFt hini (vx_ends hC hr hlk) jc_Mo_isToken 48 (by decide) rfl ?_
                        refine vx_go hC hFt hini (vx_ends hC hr hlk) jc_Mo_isToken 51 (by decide) rfl ?_
                        refine And.intro (rfl) (And.intro ?_ (And.intro (Nat.le_refl _) (Nat.le_refl _)))
                        rw [isTk_mk c hc, c42]
                        exact And.intro rfl rfl
                      · skip
                        have c42 : isDg c = false := bI_eq c42
                        refine mo_calls hC (c_Mo_isLetter l D tys tc hty c hc) wm_Mo_isLetter wl_Mo_123 wt_Mo_isLetter ⟨by decide, by decide⟩ rfl rfl (Nat.le_of_ble_eq_true rfl) ⟨Nat.zero_le _, Nat.zero_le _⟩ (fun r' hp => ?_)
                        subst hp
                        refine And.intro (fun c45 => ?_) (fun c45 => ?_)
                        · skip
                          have c45 : isLt c = true := bI_ne c45
                          refine vx_go hC hFt hini (vx_ends hC hr hlk) jc_Mo_isToken 48 (by decide) rfl ?_
                          refine vx_go hC hFt hini (vx_ends hC hr hlk) jc_Mo_isToken 51 (by decide) rfl ?_
                          refine And.intro (rfl) (And.intro ?_ (And.intro (Nat.le_refl _) (Nat.le_refl _)))
                          rw [isTk_mk c hc, c42, c45]
                          exact And.intro rfl rfl
                        · skip
                          have c45 : isLt c = false := bI_eq c45
                          refine And.intro (fun c47 => ?_) (fun c47 => ?_)
                          · skip
                            exact absurd c47 (by decide)
                          · skip
                            refine vx_go hC hFt hini (vx_ends hC hr hlk) jc_Mo_isToken 51 (by decide) rfl ?_
                            refine And.intro (rfl) (And.intro ?_ (And.intro (Nat.le_refl _) (Nat.le_refl _)))
                            rw [isTk_mk c hc, c42, c45, show isMk c = true by simp only [isMk, decide_eq_true_eq]; omega]
                            exact And.intro rfl rfl
                    · skip
                      have c32 : ¬ (c = 124) := fun z => c32 ((nI_eq (a := c) (b := 124) (by omega) (by omega)).mpr z)
                      refine And.intro (fun c35 => ?_) (fun c35 => ?_)
                      · skip
                        have c35 : ¬ (c = 126) := fun z => c35 ((nI_eq (a := c) (b := 126) (by omega) (by omega)).mpr z)
                        refine vx_go hC hFt hini (vx_ends hC hr hlk) jc_Mo_isToken 38 (by decide) rfl ?_
                        refine mo_calls hC (c_Mo_isDigit l D tys tc hty c hc) wm_Mo_isDigit wl_Mo_119 wt_Mo_isDigit ⟨by decide, by decide⟩ rfl rfl (Nat.le_of_ble_eq_true rfl) ⟨Nat.zero_le _, Nat.zero_le _⟩ (fun r' hp => ?_)
                        subst hp
                        refine And.intro (fun c42 => ?_) (fun c42 => ?_)
                        · skip
                          have c42 : isDg c = true := bI_ne c42
                          refine vx_go hC hFt hini (vx_ends hC hr hlk) jc_Mo_isToken 48 (by decide) rfl ?_
                          refine vx_go hC hFt hini (vx_ends hC hr hlk) jc_Mo_isToken 51 (by decide) rfl ?_
                          refine And.intro (rfl) (And.intro ?_ (And.intro (Nat.le_refl _) (Nat.le_refl _)))
                          rw [isTk_mk c hc, c42]
                          exact And.intro rfl rfl
                        · skip
                          have c42 : isDg c = false := bI_eq c42
                          refine mo_calls hC (c_Mo_isLetter l D tys tc hty c hc) wm_Mo_isLetter wl_Mo_123 wt_Mo_isLetter ⟨by decide, by decide⟩ rfl rfl (Nat.le_of_ble_eq_true rfl) ⟨Nat.zero_le _, Nat.zero_le _⟩ (fun r' hp => ?_)
                          subst hp
                          refine And.intro (fun c45 => ?_) (fun c45 => ?_)
                          · skip
                            have c45 : isLt c = true := bI_ne c45
                            refine vx_go hC hFt hini (vx_ends hC hr hlk) jc_Mo_isToken 48 (by decide) rfl ?_
                            refine vx_go hC hFt hini (vx_ends hC hr hlk) jc_Mo_isToken 51 (by decide) rfl ?_
                            refine And.intro (rfl) (And.intro ?_ (And.intro (Nat.le_refl _) (Nat.le_refl _)))
                            rw [isTk_mk c hc, c42, c45]
                            exact And.intro rfl rfl
                          · skip
                            have c45 : isLt c = false := bI_eq c45
                            refine And.intro (fun c47 => ?_) (fun c47 => ?_)
                            · skip
                              refine vx_go hC hFt hini (vx_ends hC hr hlk) jc_Mo_isToken 50 (by decide) rfl ?_
                              refine And.intro (rfl) (And.intro ?_ (And.intro (Nat.le_refl _) (Nat.le_refl _)))
                              rw [isTk_mk c hc, c42, c45, show isMk c = false by simp only [isMk, decide_eq_false_iff_not]; omega]
                              exact And.intro rfl rfl
                            · skip
                              exact absurd rfl c47
                      · skip
                        have c35 := (nI_eq (a := c) (b := 126) (by omega) (by omega)).mp c35
                        refine vx_go hC hFt hini (vx_ends hC hr hlk) jc_Mo_isToken 39 (by decide) rfl ?_
                        refine mo_calls hC (c_Mo_isDigit l D tys tc hty c hc) wm_Mo_isDigit wl_Mo_119 wt_Mo_isDigit ⟨by decide, by decide⟩ rfl rfl (Nat.le_of_ble_eq_true rfl) ⟨Nat.zero_le _, Nat.zero_le _⟩ (fun r' hp => ?_)
                        subst hp
                        refine And.intro (fun c42 => ?_) (fun c42 => ?_)
                        · skip
                          have c42 : isDg c = true := bI_ne c42
                          refine vx_go hC hFt hini (vx_ends hC hr hlk) jc_Mo_isToken 48 (by decide) rfl ?_
                          refine vx_go hC hFt hini (vx_ends hC hr hlk) jc_Mo_isToken 51 (by decide) rfl ?_
                          refine And.intro (rfl) (And.intro ?_ (And.intro (Nat.le_refl _) (Nat.le_refl _)))
                          rw [isTk_mk c hc, c42]
                          exact And.intro rfl rfl
                        · skip
                          have c42 : isDg c = false := bI_eq c42
                          refine mo_calls hC (c_Mo_isLetter l D tys tc hty c hc) wm_Mo_isLetter wl_Mo_123 wt_Mo_isLetter ⟨by decide, by decide⟩ rfl rfl (Nat.le_of_ble_eq_true rfl) ⟨Nat.zero_le _, Nat.zero_le _⟩ (fun r' hp => ?_)
                          subst hp
                          refine And.intro (fun c45 => ?_) (fun c45 => ?_)
                          · skip
                            have c45 : isLt c = true := bI_ne c45
                            refine vx_go hC hFt hini (vx_ends hC hr hlk) jc_Mo_isToken 48 (by decide) rfl ?_
                            refine vx_go hC hFt hini (vx_ends hC hr hlk) jc_Mo_isToken 51 (by decide) rfl ?_
                            refine And.intro (rfl) (And.intro ?_ (And.intro (Nat.le_refl _) (Nat.le_refl _)))
                            rw [isTk_mk c hc, c42, c45]
                            exact And.intro rfl rfl
                          · skip
                            have c45 : isLt c = false := bI_eq c45
                            refine And.intro (fun c47 => ?_) (fun c47 => ?_)
                            · skip
                              exact absurd c47 (by decide)
                            · skip
                              refine vx_go hC hFt hini (vx_ends hC hr hlk) jc_Mo_isToken 51 (by decide) rfl ?_
                              refine And.intro (rfl) (And.intro ?_ (And.intro (Nat.le_refl _) (Nat.le_refl _)))
                              rw [isTk_mk c hc, c42, c45, show isMk c = true by simp only [isMk, decide_eq_true_eq]; omega]
                              exact And.intro rfl rfl
    · skip
      have c5 : ¬ (c < 35) := fun z => c5 ((nI_ltI (a := c) (b := 35) (by omega) (by omega)).mpr z)
      refine And.intro (fun c8 => ?_) (fun c8 => ?_)
      · skip
        have c8 := (nI_leI (a := c) (b := 39) (by omega) (by omega)).mp c8
        refine vx_go hC hFt hini (vx_ends hC hr hlk) jc_Mo_isToken 36 (by decide) rfl ?_
        refine vx_go hC hFt hini (vx_ends hC hr hlk) jc_Mo_isToken 39 (by decide) rfl ?_
        refine mo_calls hC (c_Mo_isDigit l D tys tc hty c hc) wm_Mo_isDigit wl_Mo_119 wt_Mo_isDigit ⟨by decide, by decide⟩ rfl rfl (Nat.le_of_ble_eq_true rfl) ⟨Nat.zero_le _, Nat.zero_le _⟩ (fun r' hp => ?_)
        subst hp
        refine And.intro (fun c42 => ?_) (fun c42 => ?_)
        · skip
          have c42 : isDg c = true := bI_ne c42
          refine vx_go hC hFt hini (vx_ends hC hr hlk) jc_Mo_isToken 48 (by decide) rfl ?_
          refine vx_go hC hFt hini (vx_ends hC hr hlk) jc_Mo_isToken 51 (by decide) rfl ?_
          refine And.intro (rfl) (And.intro ?_ (And.intro (Nat.le_refl _) (Nat.le_refl _)))
          rw [isTk_mk c hc, c42]
          exact And.intro rfl rfl
        · skip
          have c42 : isDg c = false := bI_eq c42
          refine mo_calls hC (c_Mo_isLetter l D tys tc hty c hc) wm_Mo_isLetter wl_Mo_123 wt_Mo_isLetter ⟨by decide, by decide⟩ rfl rfl (Nat.le_of_ble_eq_true rfl) ⟨Nat.zero_le _, Nat.zero_le _⟩ (fun r' hp => ?_)
          subst hp
          refine And.intro (fun c45 => ?_) (fun c45 => ?_)
          · skip
            have c45 : isLt c = true := bI_ne c45
            refine vx_go hC hFt hini (vx_ends hC hr hlk) jc_Mo_isToken 48 (by decide) rfl ?_
            refine vx_go hC hFt hini (vx_ends hC hr hlk) jc_Mo_isToken 51 (by decide) rfl ?_
            refine And.intro (rfl) (And.intro ?_ (And.intro (Nat.le_refl _) (Nat.le_refl _)))
            rw [isTk_mk c hc, c42, c45]
            exact And.intro rfl rfl
          · skip
            have c45 : isLt c = false := bI_eq c45
            refine And.intro (fun c47 => ?_) (fun c47 => ?_)
            · skip
              exact absurd c47 (by decide)
            · skip
              refine vx_go hC hFt hini (vx_ends hC hr hlk) jc_Mo_isToken 51 (by decide) rfl ?_
              refine And.intro (rfl) (And.intro ?_ (And.intro (Nat.le_refl _) (Nat.le_refl _)))
              rw [isTk_mk c hc, c42, c45, show isMk c = true by simp only [isMk, decide_eq_true_eq]; omega]
              exact And.intro rfl rfl
      · skip
        have c8 : ¬ (c ≤ 39) := fun z => c8 ((nI_leI (a := c) (b := 39) (by omega) (by omega)).mpr z)
        refine And.intro (fun c11 => ?_) (fun c11 => ?_)
        · skip
          have c11 := (nI_eq (a := c) (b := 42) (by omega) (by omega)).mp c11
          refine vx_go hC hFt hini (vx_ends hC hr hlk) jc_Mo_isToken 36 (by decide) rfl ?_
          refine vx_go hC hFt hini (vx_ends hC hr hlk) jc_Mo_isToken 39 (by decide) rfl ?_
          refine mo_calls hC (c_Mo_isDigit l D tys tc hty c hc) wm_Mo_isDigit wl_Mo_119 wt_Mo_isDigit ⟨by decide, by decide⟩ rfl rfl (Nat.le_of_ble_eq_true rfl) ⟨Nat.zero_le _, Nat.zero_le _⟩ (fun r' hp => ?_)
          subst hp
          refine And.intro (fun c42 => ?_) (fun c42 => ?_)
          · skip
            have c42 : isDg c = true := bI_ne c42
            refine vx_go hC hFt hini (vx_ends hC hr hlk) jc_Mo_isToken 48 (by decide) rfl ?_
            refine vx_go hC hFt hini (vx_ends hC hr hlk) jc_Mo_isToken 51 (by decide) rfl ?_
            refine And.intro (rfl) (And.intro ?_ (And.intro (Nat.le_refl _) (Nat.le_refl _)))
            rw [isTk_mk c hc, c42]
            exact And.intro rfl rfl
          · skip
            have c42 : isDg c = false := bI_eq c42
            refine mo_calls hC (c_Mo_isLetter l D tys tc hty c hc) wm_Mo_isLetter wl_Mo_123 wt_Mo_isLetter ⟨by decide, by decide⟩ rfl rfl (Nat.le_of_ble_eq_true rfl) ⟨Nat.zero_le _, Nat.zero_le _⟩ (fun r' hp => ?_)
            subst hp
            refine And.intro (fun c45 => ?_) (fun c45 => ?_)
            · skip
              have c45 : isLt c = true := bI_ne c45
              refine vx_go hC hFt hini (vx_ends hC hr hlk) jc_Mo_isToken 48 (by decide) rfl ?_
              refine vx_go hC hFt hini (vx_ends hC hr hlk) jc_Mo_isToken 51 (by decide) rfl ?_
              refine And.intro (rfl) (And.intro ?_ (And.intro (Nat.le_refl _) (Nat.le_refl _)))
              rw [isTk_mk c hc, c42, c45]
              exact And.intro rfl rfl
            · skip
              have c45 : isLt c = false := bI_eq c45
              refine And.intro (fun c47 => ?_) (fun c47 => ?_)
              · skip
                exact absurd c47 (by decide)
              · skip
                refine vx_go hC hFt hini (vx_ends hC hr hlk) jc_Mo_isToken 51 (by decide) rfl ?_
                refine And.intro (rfl) (And.intro ?_ (And.intro (Nat.le_refl _) (Nat.le_refl _)))
                rw [isTk_mk c hc, c42, c45, show isMk c = true by simp only [isMk, decide_eq_true_eq]; omega]
                exact And.intro rfl rfl
        · skip
          have c11 : ¬ (c = 42) := fun z => c11 ((nI_eq (a := c) (b := 42) (by omega) (by omega)).mpr z)
          refine And.intro (fun c14 => ?_) (fun c14 => ?_)
          · skip
            have c14 := (nI_eq (a := c) (b := 43) (by omega) (by omega)).mp c14
            refine vx_go hC hFt hini (vx_ends hC hr hlk) jc_Mo_isToken 36 (by decide) rfl ?_
            refine vx_go hC hFt hini (vx_ends hC hr hlk) jc_Mo_isToken 39 (by decide) rfl ?_
            refine mo_calls hC (c_Mo_isDigit l D tys tc hty c hc) wm_Mo_isDigit wl_Mo_119 wt_Mo_isDigit ⟨by decide, by decide⟩ rfl rfl (Nat.le_of_ble_eq_true rfl) ⟨Nat.zero_le _, Nat.zero_le _⟩ (fun r' hp => ?_)
            subst hp
            refine And.intro (fun c42 => ?_) (fun c42 => ?_)
            · skip
              have c42 : isDg c = true := bI_ne c42
              refine vx_go hC hFt hini (vx_ends hC hr hlk) jc_Mo_isToken 48 (by decide) rfl ?_
              refine vx_go hC hFt hini (vx_ends hC hr hlk) jc_Mo_isToken 51 (by decide) rfl ?_
              refine And.intro (rfl) (And.intro ?_ (And.intro (Nat.le_refl _) (Nat.le_refl _)))
              rw [isTk_mk c hc, c42]
              exact And.intro rfl rfl
            · skip
              have c42 : isDg c = false := bI_eq c42
              refine mo_calls hC (c_Mo_isLetter l D tys tc hty c hc) wm_Mo_isLetter wl_Mo_123 wt_Mo_isLetter ⟨by decide, by decide⟩ rfl rfl (Nat.le_of_ble_eq_true rfl) ⟨Nat.zero_le _, Nat.zero_le _⟩ (fun r' hp => ?_)
              subst hp
              refine And.intro (fun c45 => ?_) (fun c45 => ?_)
              · skip
                have c45 : isLt c = true := bI_ne c45
                refine vx_go hC hFt hini (vx_ends hC hr hlk) jc_Mo_isToken 48 (by decide) rfl ?_
                refine vx_go hC hFt hini (vx_ends hC hr hlk) jc_Mo_isToken 51 (by decide) rfl ?_
                refine And.intro (rfl) (And.intro ?_ (And.intro (Nat.le_refl _) (Nat.le_refl _)))
                rw [isTk_mk c hc, c42, c45]
                exact And.intro rfl rfl
              · skip
                have c45 : isLt c = false := bI_eq c45
                refine And.intro (fun c47 => ?_) (fun c47 => ?_)
                · skip
                  exact absurd c47 (by decide)
                · skip
                  refine vx_go hC hFt hini (vx_ends hC hr hlk) jc_Mo_isToken 51 (by decide) rfl ?_
                  refine And.intro (rfl) (And.intro ?_ (And.intro (Nat.le_refl _) (Nat.le_refl _)))
                  rw [isTk_mk c hc, c42, c45, show isMk c = true by simp only [isMk, decide_eq_true_eq]; omega]
                  exact And.intro rfl rfl
          · skip
            have c14 : ¬ (c = 43) := fun z => c14 ((nI_eq (a := c) (b := 43) (by omega) (by omega)).mpr z)
            refine And.intro (fun c17 => ?_) (fun c17 => ?_)
            · skip
              have c17 := (nI_eq (a := c) (b := 45) (by omega) (by omega)).mp c17
              refine vx_go hC hFt hini (vx_ends hC hr hlk) jc_Mo_isToken 36 (by decide) rfl ?_
              refine vx_go hC hFt hini (vx_ends hC hr hlk) jc_Mo_isToken 39 (by decide) rfl ?_
              refine mo_calls hC (c_Mo_isDigit l D tys tc hty c hc) wm_Mo_isDigit wl_Mo_119 wt_Mo_isDigit ⟨by decide, by decide⟩ rfl rfl (Nat.le_of_ble_eq_true rfl) ⟨Nat.zero_le _, Nat.zero_le _⟩ (fun r' hp => ?_)
              subst hp
              refine And.intro (fun c42 => ?_) (fun c42 => ?_)
              · skip
                have c42 : isDg c = true := bI_ne c42
                refine vx_go hC hFt hini (vx_ends hC hr hlk) jc_Mo_isToken 48 (by decide) rfl ?_
                refine vx_go hC hFt hini (vx_ends hC hr hlk) jc_Mo_isToken 51 (by decide) rfl ?_
                refine And.intro (rfl) (And.intro ?_ (And.intro (Nat.le_refl _) (Nat.le_refl _)))
                rw [isTk_mk c hc, c42]
                exact And.intro rfl rfl
              · skip
                have c42 : isDg c = false := bI_eq c42
                refine mo_calls hC (c_Mo_isLetter l D tys tc hty c hc) wm_Mo_isLetter wl_Mo_123 wt_Mo_isLetter ⟨by decide, by decide⟩ rfl rfl (Nat.le_of_ble_eq_true rfl) ⟨Nat.zero_le _, Nat.zero_le _⟩ (fun r' hp => ?_)
                subst hp
                refine And.intro (fun c45 => ?_) (fun c45 => ?_)
                · skip
                  have c45 : isLt c = true := bI_ne c45
                  refine vx_go hC hFt hini (vx_ends hC hr hlk) jc_Mo_isToken 48 (by decide) rfl ?_
                  refine vx_go hC hFt hini (vx_ends hC hr hlk) jc_Mo_isToken 51 (by decide) rfl ?_
                  refine And.intro (rfl) (And.intro ?_ (And.intro (Nat.le_refl _) (Nat.le_refl _)))
                  rw [isTk_mk c hc, c42, c45]
                  exact And.intro rfl rfl
                · skip
                  have c45 : isLt c = false := bI_eq c45
                  refine And.intro (fun c47 => ?_) (fun c47 => ?_)
                  · skip
                    exact absurd c47 (by decide)
                  · skip
                    refine vx_go hC hFt hini (vx_ends hC hr hlk) jc_Mo_isToken 51 (by decide) rfl ?_
                    refine And.intro (rfl) (And.intro ?_ (And.intro (Nat.le_refl _) (Nat.le_refl _)))
                    rw [isTk_mk c hc, c42, c45, show isMk c = true by simp only [isMk, decide_eq_true_eq]; omega]
                    exact And.intro rfl rfl
            · skip
              have c17 : ¬ (c = 45) := fun z => c17 ((nI_eq (a := c) (b := 45) (by omega) (by omega)).mpr z)
              refine And.intro (fun c20 => ?_) (fun c20 => ?_)
              · skip
                have c20 := (nI_eq (a := c) (b := 46) (by omega) (by omega)).mp c20
                refine vx_go hC hFt hini (vx_ends hC hr hlk) jc_Mo_isToken 36 (by decide) rfl ?_
                refine vx_go hC hFt hini (vx_ends hC hr hlk) jc_Mo_isToken 39 (by decide) rfl ?_
                refine mo_calls hC (c_Mo_isDigit l D tys tc hty c hc) wm_Mo_isDigit wl_Mo_119 wt_Mo_isDigit ⟨by decide, by decide⟩ rfl rfl (Nat.le_of_ble_eq_true rfl) ⟨Nat.zero_le _, Nat.zero_le _⟩ (fun r' hp => ?_)
                subst hp
                refine And.intro (fun c42 => ?_) (fun c42 => ?_)
                · skip
                  have c42 : isDg c = true := bI_ne c42
                  refine vx_go hC hFt hini (vx_ends hC hr hlk) jc_Mo_isToken 48 (by decide) rfl ?_
                  refine vx_go hC hFt hini (vx_ends hC hr hlk) jc_Mo_isToken 51 (by decide) rfl ?_
                  refine And.intro (rfl) (And.intro ?_ (And.intro (Nat.le_refl _) (Nat.le_refl _)))
                  rw [isTk_mk c hc, c42]
                  exact And.intro rfl rfl
                · skip
                  have c42 : isDg c = false := bI_eq c42
                  refine mo_calls hC (c_Mo_isLetter l D tys tc hty c hc) wm_Mo_isLetter wl_Mo_123 wt_Mo_isLetter ⟨by decide, by decide⟩ rfl rfl (Nat.le_of_ble_eq_true rfl) ⟨Nat.zero_le _, Nat.zero_le _⟩ (fun r' hp => ?_)
                  subst hp
                  refine And.intro (fun c45 => ?_) (fun c45 => ?_)
                  · skip
                    have c45 : isLt c = true := bI_ne c45
                    refine vx_go hC hFt hini (vx_ends hC hr hlk) jc_Mo_isToken 48 (by decide) rfl ?_
                    refine vx_go hC hFt hini (vx_ends hC hr hlk) jc_Mo_isToken 51 (by decide) rfl ?_
                    refine And.intro (rfl) (And.intro ?_ (And.intro (Nat.le_refl _) (Nat.le_refl _)))
                    rw [isTk_mk c hc, c42, c45]
                    exact And.intro rfl rfl
                  · skip
                    have c45 : isLt c = false := bI_eq c45
                    refine And.intro (fun c47 => ?_) (fun c47 => ?_)
                    · skip
                      exact absurd c47 (by decide)
                    · skip
                      refine vx_go hC hFt hini (vx_ends hC hr hlk) jc_Mo_isToken 51 (by decide) rfl ?_
                      refine And.intro (rfl) (And.intro ?_ (And.intro (Nat.le_refl _) (Nat.le_refl _)))
                      rw [isTk_mk c hc, c42, c45, show isMk c = true by simp only [isMk, decide_eq_true_eq]; omega]
                      exact And.intro rfl rfl
              · skip
                have c20 : ¬ (c = 46) := fun z => c20 ((nI_eq (a := c) (b := 46) (by omega) (by omega)).mpr z)
                refine And.intro (fun c23 => ?_) (fun c23 => ?_)
                · skip
                  have c23 := (nI_eq (a := c) (b := 94) (by omega) (by omega)).mp c23
                  refine vx_go hC hFt hini (vx_ends hC hr hlk) jc_Mo_isToken 36 (by decide) rfl ?_
                  refine vx_go hC hFt hini (vx_ends hC hr hlk) jc_Mo_isToken 39 (by decide) rfl ?_
                  refine mo_calls hC (c_Mo_isDigit l D tys tc hty c hc) wm_Mo_isDigit wl_Mo_119 wt_Mo_isDigit ⟨by decide, by decide⟩ rfl rfl (Nat.le_of_ble_eq_true rfl) ⟨Nat.zero_le _, Nat.zero_le _⟩ (fun r' hp => ?_)
                  subst hp
                  refine And.intro (fun c42 => ?_) (fun c42 => ?_)
                  · skip
                    have c42 : isDg c = true := bI_ne c42
                    refine vx_go hC hFt hini (vx_ends hC hr hlk) jc_Mo_isToken 48 (by decide) rfl ?_
                    refine vx_go hC hFt hini (vx_ends hC hr hlk) jc_Mo_isToken 51 (by decide) rfl ?_
                    refine And.intro (rfl) (And.intro ?_ (And.intro (Nat.le_refl _) (Nat.le_refl _)))
                    rw [isTk_mk c hc, c42]
                    exact And.intro rfl rfl
                  · skip
                    have c42 : isDg c = false := bI_eq c42
                    refine mo_calls hC (c_Mo_isLetter l D tys tc hty c hc) wm_Mo_isLetter wl_Mo_123 wt_Mo_isLetter ⟨by decide, by decide⟩ rfl rfl (Nat.le_of_ble_eq_true rfl) ⟨Nat.zero_le _, Nat.zero_le _⟩ (fun r' hp => ?_)
                    subst hp
                    refine And.intro (fun c45 => ?_) (fun c45 => ?_)
                    · skip
                      have c45 : isLt c = true := bI_ne c45
                      refine vx_go hC hFt hini (vx_ends hC hr hlk) jc_Mo_isToken 48 (by decide) rfl ?_
                      refine vx_go hC hFt hini (vx_ends hC hr hlk) jc_Mo_isToken 51 (by decide) rfl ?_
                      refine And.intro (rfl) (And.intro ?_ (And.intro (Nat.le_refl _) (Nat.le_refl _)))
                      rw [isTk_mk c hc, c42, c45]
                      exact And.intro rfl rfl
                    · skip
                      have c45 : isLt c = false := bI_eq c45
                      refine And.intro (fun c47 => ?_) (fun c47 => ?_)
                      · skip
                        exact absurd c47 (by decide)
                      · skip
                        refine vx_go hC hFt hini (vx_ends hC hr hlk) jc_Mo_isToken 51 (by decide) rfl ?_
                        refine And.intro (rfl) (And.intro ?_ (And.intro (Nat.le_refl _) (Nat.le_refl _)))
                        rw [isTk_mk c hc, c42, c45, show isMk c = true by simp only [isMk, decide_eq_true_eq]; omega]
                        exact And.intro rfl rfl
                · skip
                  have c23 : ¬ (c = 94) := fun z => c23 ((nI_eq (a := c) (b := 94) (by omega) (by omega)).mpr z)
                  refine And.intro (fun c26 => ?_) (fun c26 => ?_)
                  · skip
                    have c26 := (nI_eq (a := c) (b := 95) (by omega) (by omega)).mp c26
                    refine vx_go hC hFt hini (vx_ends hC hr hlk) jc_Mo_isToken 36 (by decide) rfl ?_
                    refine vx_go hC hFt hini (vx_ends hC hr hlk) jc_Mo_isToken 39 (by decide) rfl ?_
                    refine mo_calls hC (c_Mo_isDigit l D tys tc hty c hc) wm_Mo_isDigit wl_Mo_119 wt_Mo_isDigit ⟨by decide, by decide⟩ rfl rfl (Nat.le_of_ble_eq_true rfl) ⟨Nat.zero_le _, Nat.zero_le _⟩ (fun r' hp => ?_)
                    subst hp
                    refine And.intro (fun c42 => ?_) (fun c42 => ?_)
                    · skip
                      have c42 : isDg c = true := bI_ne c42
                      refine vx_go hC hFt hini (vx_ends hC hr hlk) jc_Mo_isToken 48 (by decide) rfl ?_
                      refine vx_go hC hFt hini (vx_ends hC hr hlk) jc_Mo_isToken 51 (by decide) rfl ?_
                      refine And.intro (rfl) (And.intro ?_ (And.intro (Nat.le_refl _) (Nat.le_refl _)))
                      rw [isTk_mk c hc, c42]
                      exact And.intro rfl rfl
                    · skip
                      have c42 : isDg c = false := bI_eq c42
                      refine mo_calls hC (c_Mo_isLetter l D tys tc hty c hc) wm_Mo_isLetter wl_Mo_123 wt_Mo_isLetter ⟨by decide, by decide⟩ rfl rfl (Nat.le_of_ble_eq_true rfl) ⟨Nat.zero_le _, Nat.zero_le _⟩ (fun r' hp => ?_)
                      subst hp
                      refine And.intro (fun c45 => ?_) (fun c45 => ?_)
                      · skip
                        have c45 : isLt c = true := bI_ne c45
                        refine vx_go hC hFt hini (vx_ends hC hr hlk) jc_Mo_isToken 48 (by decide) rfl ?_
                        refine vx_go hC hFt hini (vx_ends hC hr hlk) jc_Mo_isToken 51 (by decide) rfl ?_
                        refine And.intro (rfl) (And.intro ?_ (And.intro (Nat.le_refl _) (Nat.le_refl _)))
                        rw [isTk_mk c hc, c42, c45]
                        exact And.intro rfl rfl
                      · skip
                        have c45 : isLt c = false := bI_eq c45
                        refine And.intro (fun c47 => ?_) (fun c47 => ?_)
                        · skip
                          exact absurd c47 (by decide)
                        · skip
                          refine vx_go hC hFt hini (vx_ends hC hr hlk) jc_Mo_isToken 51 (by decide) rfl ?_
                          refine And.intro (rfl) (And.intro ?_ (And.intro (Nat.le_refl _) (Nat.le_refl _)))
                          rw [isTk_mk c hc, c42, c45, show isMk c = true by simp only [isMk, decide_eq_true_eq]; omega]
                          exact And.intro rfl rfl
                  · skip
                    have c26 : ¬ (c = 95) := fun z => c26 ((nI_eq (a := c) (b := 95) (by omega) (by omega)).mpr z)
                    refine And.intro (fun c29 => ?_) (fun c29 => ?_)
                    · skip
                      have c29 := (nI_eq (a := c) (b := 96) (by omega) (by omega)).mp c29
                      refine vx_go hC hFt hini (vx_ends hC hr hlk) jc_Mo_isToken 36 (by decide) rfl ?_
                      refine vx_go hC hFt hini (vx_ends hC hr hlk) jc_Mo_isToken 39 (by decide) rfl ?_
                      refine mo_calls hC (c_Mo_isDigit l D tys tc hty c hc) wm_Mo_isDigit wl_Mo_119 wt_Mo_isDigit ⟨by decide, by decide⟩ rfl rfl (Nat.le_of_ble_eq_true rfl) ⟨Nat.zero_le _, Nat.zero_le _⟩ (fun r' hp => ?_)
                      subst hp
                      refine And.intro (fun c42 => ?_) (fun c42 => ?_)
                      · skip
                        have c42 : isDg c = true := bI_ne c42
                        refine vx_go hC hFt hini (vx_ends hC hr hlk) jc_Mo_isToken 48 (by decide) rfl ?_
                        refine vx_go hC hFt hini (vx_ends hC hr hlk) jc_Mo_isToken 51 (by decide) rfl ?_
                        refine And.intro (rfl) (And.intro ?_ (And.intro (Nat.le_refl _) (Nat.le_refl _)))
                        rw [isTk_mk c hc, c42]
                        exact And.intro rfl rfl
                      · skip
                        have c42 : isDg c = false := bI_eq c42
                        refine mo_calls hC (c_Mo_isLetter l D tys tc hty c hc) wm_Mo_isLetter wl_Mo_123 wt_Mo_isLetter ⟨by decide, by decide⟩ rfl rfl (Nat.le_of_ble_eq_true rfl) ⟨Nat.zero_le _, Nat.zero_le _⟩ (fun r' hp => ?_)
                        subst hp
                        refine And.intro (fun c45 => ?_) (fun c45 => ?_)
                        · skip
                          have c45 : isLt c = true := bI_ne c45
                          refine vx_go hC hFt hini (vx_ends hC hr hlk) jc_Mo_isToken 48 (by decide) rfl ?_
                          refine vx_go hC hFt hini (vx_ends hC hr hlk) jc_Mo_isToken 51 (by decide) rfl ?_
                          refine And.intro (rfl) (And.intro ?_ (And.intro (Nat.le_refl _) (Nat.le_refl _)))
                          rw [isTk_mk c hc, c42, c45]
                          exact And.intro rfl rfl
                        · skip
                          have c45 : isLt c = false := bI_eq c45
                          refine And.intro (fun c47 => ?_) (fun c47 => ?_)
                          · skip
                            exact absurd c47 (by decide)
                          · skip
                            refine vx_go hC hFt hini (vx_ends hC hr hlk) jc_Mo_isToken 51 (by decide) rfl ?_
                            refine And.intro (rfl) (And.intro ?_ (And.intro (Nat.le_refl _) (Nat.le_refl _)))
                            rw [isTk_mk c hc, c42, c45, show isMk c = true by simp only [isMk, decide_eq_true_eq]; omega]
                            exact And.intro rfl rfl
                    · skip
                      have c29 : ¬ (c = 96) := fun z => c29 ((nI_eq (a := c) (b := 96) (by omega) (by omega)).mpr z)
                      refine And.intro (fun c32 => ?_) (fun c32 => ?_)
                      · skip
                        have c32 := (nI_eq (a := c) (b := 124) (by omega) (by omega)).mp c32
                        refine vx_go hC hFt hini (vx_ends hC hr hlk) jc_Mo_isToken 36 (by decide) rfl ?_
                        refine vx_go hC hFt hini (vx_ends hC hr hlk) jc_Mo_isToken 39 (by decide) rfl ?_
                        refine mo_calls hC (c_Mo_isDigit l D tys tc hty c hc) wm_Mo_isDigit wl_Mo_119 wt_Mo_isDigit ⟨by decide, by decide⟩ rfl rfl (Nat.le_of_ble_eq_true rfl) ⟨Nat.zero_le _, Nat.zero_le _⟩ (fun r' hp => ?_)
                        subst hp
                        refine And.intro (fun c42 => ?_) (fun c42 => ?_)
                        · skip
                          have c42 : isDg c = true := bI_ne c42
                          refine vx_go hC hFt hini (vx_ends hC hr hlk) jc_Mo_isToken 48 (by decide) rfl ?_
                          refine vx_go hC hFt hini (vx_ends hC hr hlk) jc_Mo_isToken 51 (by decide) rfl ?_
                          refine And.intro (rfl) (And.intro ?_ (And.intro (Nat.le_refl _) (Nat.le_refl _)))
                          rw [isTk_mk c hc, c42]
                          exact And.intro rfl rfl
                        · skip
                          have c42 : isDg c = false := bI_eq c42
                          refine mo_calls hC (c_Mo_isLetter l D tys tc hty c hc) wm_Mo_isLetter wl_Mo_123 wt_Mo_isLetter ⟨by decide, by decide⟩ rfl rfl (Nat.le_of_ble_eq_true rfl) ⟨Nat.zero_le _, Nat.zero_le _⟩ (fun r' hp => ?_)
                          subst hp
                          refine And.intro (fun c45 => ?_) (fun c45 => ?_)
                          · skip
                            have c45 : isLt c = true := bI_ne c45
                            refine vx_go hC hFt hini (vx_ends hC hr hlk) jc_Mo_isToken 48 (by decide) rfl ?_
                            refine vx_go hC hFt hini (vx_ends hC hr hlk) jc_Mo_isToken 51 (by decide) rfl ?_
                            refine And.intro (rfl) (And.intro ?_ (And.intro (Nat.le_refl _) (Nat.le_refl _)))
                            rw [isTk_mk c hc, c42, c45]
                            exact And.intro rfl rfl
                          · skip
                            have c45 : isLt c = false := bI_eq c45
                            refine And.intro (fun c47 => ?_) (fun c47 => ?_)
                            · skip
                              exact absurd c47 (by decide)
                            · skip
                              refine vx_go hC hFt hini (vx_ends hC hr hlk) jc_Mo_isToken 51 (by decide) rfl ?_
                              refine And.intro (rfl) (And.intro ?_ (And.intro (Nat.le_refl _) (Nat.le_refl _)))
                              rw [isTk_mk c hc, c42, c45, show isMk c = true by simp only [isMk, decide_eq_true_eq]; omega]
                              exact And.intro rfl rfl
                      · skip
                        have c32 : ¬ (c = 124) := fun z => c32 ((nI_eq (a := c) (b := 124) (by omega) (by omega)).mpr z)
                        refine And.intro (fun c35 => ?_) (fun c35 => ?_)
                        · skip
                          have c35 : ¬ (c = 126) := fun z => c35 ((nI_eq (a := c) (b := 126) (by omega) (by omega)).mpr z)
                          refine vx_go hC hFt hini (vx_ends hC hr hlk) jc_Mo_isToken 38 (by decide) rfl ?_
                          refine mo_calls hC (c_Mo_isDigit l D tys tc hty c hc) wm_Mo_isDigit wl_Mo_119 wt_Mo_isDigit ⟨by decide, by decide⟩ rfl rfl (Nat.le_of_ble_eq_true rfl) ⟨Nat.zero_le _, Nat.zero_le _⟩ (fun r' hp => ?_)
                          subst hp
                          refine And.intro (fun c42 => ?_) (fun c42 => ?_)
                          · skip
                            have c42 : isDg c = true := bI_ne c42
                            refine vx_go hC hFt hini (vx_ends hC hr hlk) jc_Mo_isToken 48 (by decide) rfl ?_
                            refine vx_go hC hFt hini (vx_ends hC hr hlk) jc_Mo_isToken 51 (by decide) rfl ?_
                            refine And.intro (rfl) (And.intro ?_ (And.intro (Nat.le_refl _) (Nat.le_refl _)))
                            rw [isTk_mk c hc, c42]
                            exact And.intro rfl rfl
                          · skip
                            have c42 : isDg c = false := bI_eq c42
                            refine mo_calls hC (c_Mo_isLetter l D tys tc hty c hc) wm_Mo_isLetter wl_Mo_123 wt_Mo_isLetter ⟨by decide, by decide⟩ rfl rfl (Nat.le_of_ble_eq_true rfl) ⟨Nat.zero_le _, Nat.zero_le _⟩ (fun r' hp => ?_)
                            subst hp
                            refine And.intro (fun c45 => ?_) (fun c45 => ?_)
                            · skip
                              have c45 : isLt c = true := bI_ne c45
                              refine vx_go hC hFt hini (vx_ends hC hr hlk) jc_Mo_isToken 48 (by decide) rfl ?_
                              refine vx_go hC hFt hini (vx_ends hC hr hlk) jc_Mo_isToken 51 (by decide) rfl ?_
                              refine And.intro (rfl) (And.intro ?_ (And.intro (Nat.le_refl _) (Nat.le_refl _)))
                              rw [isTk_mk c hc, c42, c45]
                              exact And.intro rfl rfl
                            · skip
                              have c45 : isLt c = false := bI_eq c45
                              refine And.intro (fun c47 => ?_) (fun c47 => ?_)
                              · skip
                                refine vx_go hC hFt hini (vx_ends hC hr hlk) jc_Mo_isToken 50 (by decide) rfl ?_
                                refine And.intro (rfl) (And.intro ?_ (And.intro (Nat.le_refl _) (Nat.le_refl _)))
                                rw [isTk_mk c hc, c42, c45, show isMk c = false by simp only [isMk, decide_eq_false_iff_not]; omega]
                                exact And.intro rfl rfl
                              · skip
                                exact absurd rfl c47
                        · skip
                          have c35 := (nI_eq (a := c) (b := 126) (by omega) (by omega)).mp c35
                          refine vx_go hC hFt hini (vx_ends hC hr hlk) jc_Mo_isToken 39 (by decide) rfl ?_
                          refine mo_calls hC (c_Mo_isDigit l D tys tc hty c hc) wm_Mo_isDigit wl_Mo_119 wt_Mo_isDigit ⟨by decide, by decide⟩ rfl rfl (Nat.le_of_ble_eq_true rfl) ⟨Nat.zero_le _, Nat.zero_le _⟩ (fun r' hp => ?_)
                          subst hp
                          refine And.intro (fun c42 => ?_) (fun c42 => ?_)
                          · skip
                            have c42 : isDg c = true := bI_ne c42
                            refine vx_go hC hFt hini (vx_ends hC hr hlk) jc_Mo_isToken 48 (by decide) rfl ?_
                            refine vx_go hC hFt hini (vx_ends hC hr hlk) jc_Mo_isToken 51 (by decide) rfl ?_
                            refine And.intro (rfl) (And.intro ?_ (And.intro (Nat.le_refl _) (Nat.le_refl _)))
                            rw [isTk_mk c hc, c42]
                            exact And.intro rfl rfl
                          · skip
                            have c42 : isDg c = false := bI_eq c42
                            refine mo_calls hC (c_Mo_isLetter l D tys tc hty c hc) wm_Mo_isLetter wl_Mo_123 wt_Mo_isLetter ⟨by decide, by decide⟩ rfl rfl (Nat.le_of_ble_eq_true rfl) ⟨Nat.zero_le _, Nat.zero_le _⟩ (fun r' hp => ?_)
                            subst hp
                            refine And.intro (fun c45 => ?_) (fun c45 => ?_)
                            · skip
                              have c45 : isLt c = true := bI_ne c45
                              refine vx_go hC hFt hini (vx_ends hC hr hlk) jc_Mo_isToken 48 (by decide) rfl ?_
                              refine vx_go hC hFt hini (vx_ends hC hr hlk) jc_Mo_isToken 51 (by decide) rfl ?_
                              refine And.intro (rfl) (And.intro ?_ (And.intro (Nat.le_refl _) (Nat.le_refl _)))
                              rw [isTk_mk c hc, c42, c45]
                              exact And.intro rfl rfl
                            · skip
                              have c45 : isLt c = false := bI_eq c45
                              refine And.intro (fun c47 => ?_) (fun c47 => ?_)
                              · skip
                                exact absurd c47 (by decide)
                              · skip
                                refine vx_go hC hFt hini (vx_ends hC hr hlk) jc_Mo_isToken 51 (by decide) rfl ?_
                                refine And.intro (rfl) (And.intro ?_ (And.intro (Nat.le_refl _) (Nat.le_refl _)))
                                rw [isTk_mk c hc, c42, c45, show isMk c = true by simp only [isMk, decide_eq_true_eq]; omega]
                                exact And.intro rfl rfl
set_option maxRecDepth 100000 in
set_option maxHeartbeats 4000000 in
theorem c_Mo_charAt (l : Launch) (D : va_G) (tys : List (ClassId × FieldType)) (tc : Nat → ClassId) (hty : ∀ i : Nat, i < 4 → tys[i]? = some (tc i, vx_ty i)) (h : Nat) (ar : Nat → Nat) (now : Int64) (sc : Nat → Int32) (ai : Nat → Nat → Int32) (al : Nat → Nat → Int64) (F : Nat) (T : List Nat) (ps : Nat) (hM : mdS sc ai F T ps) (i : Nat) (hi : i ≤ 1000) : Kt l y_Mo_charAt (yw y_Mo_charAt b_Mo_charAt 2 (some .int)) 0 0 0 0 D cls tys (fun _ _ _ => True) [.ref h, .int (nI i)] (mdW tc h ar now sc ai al) (fun r w => r = some (.int (nI (T.getD i 0))) ∧ w = (mdW tc h ar now sc ai al)) := by
  refine Kt.of ro_true (by decide) rfl hty (Nat.le_of_ble_eq_true rfl) ?_
  intro p e s m args below meth c0 A hC hr hlk hnm hF
  have hFt : vx_Ft y_Mo_charAt.cls (yw y_Mo_charAt b_Mo_charAt 2 (some .int)) cls cty ft_Mo := ft_of (fun w h => List.mem_cons_of_mem _ h) fl_Mo_in ft_Mo_b
  have hini : false = true → meth.name = "<init>" := fun h => by cases h
  obtain ⟨hF8, h11, hlenT, htx, hT, h12, hps⟩ := id hM
  have hTl := hT.1
  refine vx_go hC hFt hini (vx_ends hC hr hlk) jc_Mo_charAt 0 (by decide) rfl ?_
  refine And.intro rfl ?_
  refine And.intro rfl ?_
  refine And.intro rfl (And.intro rfl (And.intro (by rw [h11]; exact vp_in_nI hF8 (by decide)) ?_))
  rw [h11, nI_clamp (by omega), hlenT]
  refine And.intro (fun c6 => ?_) (fun c6 => ?_)
  · skip
    have c6 := (nI_leI (a := T.length) (b := i) (by omega) (by omega)).mp c6
    refine vx_go hC hFt hini (vx_ends hC hr hlk) jc_Mo_charAt 17 (by decide) rfl ?_
    refine And.intro (trivial) (And.intro ?_ (And.intro (Nat.le_refl _) (Nat.le_refl _)))
    rw [T_out c6]
    exact And.intro rfl rfl
  · skip
    have c6 : ¬ (T.length ≤ i) := fun z => c6 ((nI_leI (a := T.length) (b := i) (by omega) (by omega)).mpr z)
    refine And.intro rfl ?_
    refine And.intro rfl ?_
    have e9 : (96 : Int32) * sc 11 + nI i = nI (96 * F + i) := by rw [h11, show (96 : Int32) = nI 96 from rfl, pk_mul, nI_add]
    refine And.intro rfl (And.intro rfl (And.intro (show vp_in ((96 : Int32) * sc 11 + nI i) 768 by rw [e9]; exact vp_in_nI (by omega) (by decide)) ?_))
    rw [show ai 7 (((0, 0, 0, 96, 0) : wq_A).2.2.2.1 * sc 11 + nI i).toNatClampNeg = nI (T.getD i 0) by
      rw [show ((0, 0, 0, 96, 0) : wq_A).2.2.2.1 * sc 11 + nI i = nI (96 * F + i) from e9, nI_clamp (by omega), htx i (by omega)]]
    refine vx_go hC hFt hini (vx_ends hC hr hlk) jc_Mo_charAt 18 (by decide) rfl ?_
    refine And.intro (trivial) (And.intro ?_ (And.intro (Nat.le_refl _) (Nat.le_refl _)))
    exact And.intro rfl rfl
set_option maxRecDepth 100000 in
set_option maxHeartbeats 4000000 in
theorem c_Mo_next (l : Launch) (D : va_G) (tys : List (ClassId × FieldType)) (tc : Nat → ClassId) (hty : ∀ i : Nat, i < 4 → tys[i]? = some (tc i, vx_ty i)) (h : Nat) (ar : Nat → Nat) (now : Int64) (sc : Nat → Int32) (ai : Nat → Nat → Int32) (al : Nat → Nat → Int64) (F : Nat) (T : List Nat) (ps : Nat) (hM : mdS sc ai F T ps) : Kt l y_Mo_next (yw y_Mo_next b_Mo_next 1 (some .int)) 1 21 0 0 D cls tys (fun _ _ _ => True) [.ref h] (mdW tc h ar now sc ai al) (fun r w => r = some (.int (nI (T.getD ps 0))) ∧ w = (mdW tc h ar now sc ai al)) := by
  refine Kt.of ro_true (by decide) rfl hty (Nat.le_of_ble_eq_true rfl) ?_
  intro p e s m args below meth c0 A hC hr hlk hnm hF
  have hFt : vx_Ft y_Mo_next.cls (yw y_Mo_next b_Mo_next 1 (some .int)) cls cty ft_Mo := ft_of (fun w h => List.mem_cons_of_mem _ h) fl_Mo_in ft_Mo_b
  have hini : false = true → meth.name = "<init>" := fun h => by cases h
  obtain ⟨hF8, h11, hlenT, htx, hT, h12, hps⟩ := id hM
  have hTl := hT.1
  refine vx_go hC hFt hini (vx_ends hC hr hlk) jc_Mo_next 0 (by decide) rfl ?_
  refine And.intro rfl ?_
  refine mo_call hC (c_Mo_charAt l D tys tc hty h ar now sc ai al F T ps hM ps (by omega)) wm_Mo_charAt wl_Mo_111 wi_Mo_charAt ws_Mo_Mo_charAt ⟨by decide, by decide⟩ rfl (by rw [h12]; rfl) (Nat.le_of_ble_eq_true rfl) ⟨Nat.zero_le _, Nat.zero_le _⟩ (fun r' w1 hp => ?_)
  obtain ⟨rfl, rfl⟩ := hp
  refine And.intro (trivial) (And.intro ?_ (And.intro (Nat.le_refl _) (Nat.le_refl _)))
  exact And.intro rfl rfl
set_option maxRecDepth 100000 in
set_option maxHeartbeats 4000000 in
theorem c_Mo_ended (l : Launch) (D : va_G) (tys : List (ClassId × FieldType)) (tc : Nat → ClassId) (hty : ∀ i : Nat, i < 4 → tys[i]? = some (tc i, vx_ty i)) (h : Nat) (ar : Nat → Nat) (now : Int64) (sc : Nat → Int32) (ai : Nat → Nat → Int32) (al : Nat → Nat → Int64) (F : Nat) (T : List Nat) (ps : Nat) (hM : mdS sc ai F T ps) : Kt l y_Mo_ended (yw y_Mo_ended b_Mo_ended 1 (some .boolean)) 0 0 0 0 D cls tys (fun _ _ _ => True) [.ref h] (mdW tc h ar now sc ai al) (fun r w => r = some (.int (bI (decide (T.length ≤ ps)))) ∧ w = (mdW tc h ar now sc ai al)) := by
  refine Kt.of ro_true (by decide) rfl hty (Nat.le_of_ble_eq_true rfl) ?_
  intro p e s m args below meth c0 A hC hr hlk hnm hF
  have hFt : vx_Ft y_Mo_ended.cls (yw y_Mo_ended b_Mo_ended 1 (some .boolean)) cls cty ft_Mo := ft_of (fun w h => List.mem_cons_of_mem _ h) fl_Mo_in ft_Mo_b
  have hini : false = true → meth.name = "<init>" := fun h => by cases h
  obtain ⟨hF8, h11, hlenT, htx, hT, h12, hps⟩ := id hM
  have hTl := hT.1
  refine vx_go hC hFt hini (vx_ends hC hr hlk) jc_Mo_ended 0 (by decide) rfl ?_
  refine And.intro rfl ?_
  refine And.intro rfl ?_
  refine And.intro rfl ?_
  refine And.intro rfl (And.intro rfl (And.intro (by rw [h11]; exact vp_in_nI hF8 (by decide)) ?_))
  rw [h11, nI_clamp (by omega), hlenT]
  refine And.intro (fun c7 => ?_) (fun c7 => ?_)
  · skip
    rw [h12] at c7
    have c7 := (nI_ltI (a := ps) (b := T.length) (by omega) (by omega)).mp c7
    refine vx_go hC hFt hini (vx_ends hC hr hlk) jc_Mo_ended 10 (by decide) rfl ?_
    refine And.intro (rfl) (And.intro ?_ (And.intro (Nat.le_refl _) (Nat.le_refl _)))
    rw [decide_eq_false (by omega)]
    exact And.intro rfl rfl
  · skip
    rw [h12] at c7
    have c7 : ¬ (ps < T.length) := fun z => c7 ((nI_ltI (a := ps) (b := T.length) (by omega) (by omega)).mpr z)
    refine vx_go hC hFt hini (vx_ends hC hr hlk) jc_Mo_ended 11 (by decide) rfl ?_
    refine And.intro (rfl) (And.intro ?_ (And.intro (Nat.le_refl _) (Nat.le_refl _)))
    rw [decide_eq_true (by omega)]
    exact And.intro rfl rfl
set_option maxRecDepth 100000 in
set_option maxHeartbeats 4000000 in
theorem c_Mo_take (l : Launch) (D : va_G) (tys : List (ClassId × FieldType)) (tc : Nat → ClassId) (hty : ∀ i : Nat, i < 4 → tys[i]? = some (tc i, vx_ty i)) (h : Nat) (ar : Nat → Nat) (now : Int64) (sc : Nat → Int32) (ai : Nat → Nat → Int32) (al : Nat → Nat → Int64) (F : Nat) (T : List Nat) (ps : Nat) (hM : mdS sc ai F T ps) (c : Nat) (hc : c < 256) : Kt l y_Mo_take (yw y_Mo_take b_Mo_take 3 (some .boolean)) 2 41 0 0 D cls tys (fun _ _ _ => True) [.ref h, .int (nI c)] (mdW tc h ar now sc ai al) (fun r w => r = some (.int (bI (decide (T.getD ps 0 = c)))) ∧ w = mdW tc h ar now (upd sc 12 (nI (if T.getD ps 0 = c then ps + 1 else ps))) ai al) := by
  refine Kt.of ro_true (by decide) rfl hty (Nat.le_of_ble_eq_true rfl) ?_
  intro p e s m args below meth c0 A hC hr hlk hnm hF
  have hFt : vx_Ft y_Mo_take.cls (yw y_Mo_take b_Mo_take 3 (some .boolean)) cls cty ft_Mo := ft_of (fun w h => List.mem_cons_of_mem _ h) fl_Mo_in ft_Mo_b
  have hini : false = true → meth.name = "<init>" := fun h => by cases h
  obtain ⟨hF8, h11, hlenT, htx, hT, h12, hps⟩ := id hM
  have hTl := hT.1
  refine vx_go hC hFt hini (vx_ends hC hr hlk) jc_Mo_take 0 (by decide) rfl ?_
  refine mo_call hC (c_Mo_next l D tys tc hty h ar now sc ai al F T ps hM) wm_Mo_next wl_Mo_115 wi_Mo_next ws_Mo_Mo_next ⟨by decide, by decide⟩ rfl rfl (Nat.le_of_ble_eq_true rfl) ⟨Nat.zero_le _, Nat.zero_le _⟩ (fun r' w1 hp => ?_)
  obtain ⟨rfl, rfl⟩ := hp
  refine And.intro (fun c3 => ?_) (fun c3 => ?_)
  · skip
    have c3 : ¬ (T.getD ps 0 = c) := fun z => c3 (by rw [z])
    refine vx_go hC hFt hini (vx_ends hC hr hlk) jc_Mo_take 6 (by decide) rfl ?_
    refine And.intro (fun c10 => ?_) (fun c10 => ?_)
    · skip
      refine vx_go hC hFt hini (vx_ends hC hr hlk) jc_Mo_take 16 (by decide) rfl ?_
      refine And.intro rfl ?_
      refine And.intro rfl (And.intro (And.intro rfl rfl) ?_)
      refine And.intro (rfl) (And.intro ?_ (And.intro (Nat.le_refl _) (Nat.le_refl _)))
      rw [decide_eq_false c3, if_neg c3]
      refine And.intro rfl ?_
      rw [show nI ps = sc 12 from h12.symm]
      rfl
    · skip
      exact absurd rfl c10
  · skip
    have c3 : T.getD ps 0 = c := (nI_eq (by have := T_lt hT ps; omega) (by omega)).mp c3
    refine vx_go hC hFt hini (vx_ends hC hr hlk) jc_Mo_take 7 (by decide) rfl ?_
    refine And.intro (fun c10 => ?_) (fun c10 => ?_)
    · skip
      exact absurd c10 (by decide)
    · skip
      refine And.intro rfl ?_
      refine vx_go hC hFt hini (vx_ends hC hr hlk) jc_Mo_take 18 (by decide) rfl ?_
      refine And.intro rfl (And.intro (And.intro rfl rfl) ?_)
      refine And.intro (rfl) (And.intro ?_ (And.intro (Nat.le_refl _) (Nat.le_refl _)))
      rw [decide_eq_true c3, if_pos c3]
      refine And.intro rfl ?_
      rw [← nI_1, show nI ps = sc 12 from h12.symm]
      rfl
end
section
/-! THE REFERENCE: gaps, tokens, lists, digits, by program (wip/whole/gen/p31.py) -/
theorem upd_same {f : Nat → Int32} {k : Nat} {v : Int32} (h : f k = v) : upd f k v = f := by
  funext j
  by_cases e : j = k
  · rw [e, pk_us, h]
  · rw [pk_un e]
theorem upd_upd {f : Nat → Int32} {k : Nat} {v w : Int32} : upd (upd f k v) k w = upd f k w := by
  funext j
  by_cases e : j = k
  · rw [e, pk_us, pk_us]
  · rw [pk_un e, pk_un e, pk_un e]
/-- the place behind all q from ps on -/
def pz (T : List Nat) (ps : Nat) (q : Nat → Bool) : Nat := ps + ((T.drop ps).takeWhile q).length
theorem pz_t {T : List Nat} {ps : Nat} {q : Nat → Bool} (h : q (T.getD ps 0) = true) (hl : ps < T.length) : pz T ps q = pz T (ps + 1) q := by
  unfold pz
  rw [drop_get hl, tw_t h, List.length_cons]
  omega
theorem pz_f {T : List Nat} {ps : Nat} {q : Nat → Bool} (h : q (T.getD ps 0) = false) : pz T ps q = ps := by
  unfold pz
  rcases Nat.lt_or_ge ps T.length with h1 | h1
  · rw [drop_get h1, tw_f h]; rfl
  · rw [drop_end h1]; rfl
theorem pz_le {T : List Nat} {ps M : Nat} {q : Nat → Bool} (h1 : ps ≤ M) (h2 : T.length ≤ M) : pz T ps q ≤ M := by
  unfold pz
  have h3 := (List.takeWhile_sublist (l := T.drop ps) q).length_le
  rw [List.length_drop] at h3
  omega
theorem pz_no {T : List Nat} {ps : Nat} {q : Nat → Bool} (q0 : q 0 = false) : q (T.getD (pz T ps q) 0) = false := by
  induction hn : T.length - ps using Nat.strongRecOn generalizing ps with
  | _ n ih =>
    rcases Nat.lt_or_ge ps T.length with h1 | h1
    · cases h2 : q (T.getD ps 0) with
      | true => rw [pz_t h2 h1]; exact ih _ (by omega) rfl
      | false => rw [pz_f h2]; exact h2
    · have h2 : q (T.getD ps 0) = false := by rw [T_out h1]; exact q0
      rw [pz_f h2]; exact h2
theorem gp_0 : isGp 0 = false := by decide
theorem gc_0 : isGc 0 = false := by decide
theorem tk_0 : isTk 0 = false := by decide
theorem gp_gc {x : Nat} (h : isGp x = true) : isGc x = true := by simp only [isGp, isGc, decide_eq_true_eq] at h ⊢; omega
theorem pz_gpgc {T : List Nat} {ps : Nat} : pz T (pz T ps isGp) isGc = pz T ps isGc := by
  induction hn : T.length - ps using Nat.strongRecOn generalizing ps with
  | _ n ih =>
    rcases Nat.lt_or_ge ps T.length with h1 | h1
    · cases h2 : isGp (T.getD ps 0) with
      | true => rw [pz_t h2 h1, pz_t (gp_gc h2) h1]; exact ih _ (by omega) rfl
      | false => rw [pz_f h2]
    · rw [pz_f (q := isGp) (by rw [T_out h1]; exact gp_0)]
def sepv (T : List Nat) (P : Nat) : Int32 := if T.length ≤ P then 0 else if T.getD P 0 = 44 then 1 else -1
/-- k digits from ps on, behind a -/
def dgq (T : List Nat) : Nat → Nat → Nat → Option Nat × Nat
  | 0, a, ps => (some a, ps)
  | k + 1, a, ps => if isDg (T.getD ps 0) then dgq T k (10 * a + T.getD ps 0 - 48) (ps + 1) else (none, ps)
set_option maxRecDepth 100000 in
set_option maxHeartbeats 4000000 in
theorem c_Mo_gap (l : Launch) (D : va_G) (tys : List (ClassId × FieldType)) (tc : Nat → ClassId) (hty : ∀ i : Nat, i < 4 → tys[i]? = some (tc i, vx_ty i)) (h : Nat) (ar : Nat → Nat) (now : Int64) (sc : Nat → Int32) (ai : Nat → Nat → Int32) (al : Nat → Nat → Int64) (F : Nat) (T : List Nat) (ps : Nat) (hM : mdS sc ai F T ps) : Kt l y_Mo_gap (yw y_Mo_gap b_Mo_gap 1 none) 2 41 0 0 D cls tys (fun _ _ _ => True) [.ref h] (mdW tc h ar now sc ai al) (fun r w => r = none ∧ w = mdW tc h ar now (upd sc 12 (nI (pz T ps isGp))) ai al) := by
  refine Kt.of ro_true (by decide) rfl hty (Nat.le_of_ble_eq_true rfl) ?_
  intro p e s m args below meth c0 A hC hr hlk hnm hF
  have hFt : vx_Ft y_Mo_gap.cls (yw y_Mo_gap b_Mo_gap 1 none) cls cty ft_Mo := ft_of (fun w h => List.mem_cons_of_mem _ h) fl_Mo_in ft_Mo_b
  have hini : false = true → meth.name = "<init>" := fun h => by cases h
  obtain ⟨hF8, h11, hlenT, htx, hT, h12, hps⟩ := id hM
  have hTl := hT.1
  generalize hPF : pz T ps isGp = PF
  refine Vx.eqs rfl rfl rfl (w2 := mdW tc h ar now (upd sc 12 (nI ps)) ai al) (by rw [upd_same h12]) ?_
  have hM0 := hM
  clear hM h12
  generalize hp0 : ps = pp at hPF hps ⊢
  clear hp0
  induction hn : T.length - pp using Nat.strongRecOn generalizing pp with
  | _ n ih =>
    refine vx_go hC hFt hini (vx_ends hC hr hlk) jc_Mo_gap 0 (by decide) rfl ?_
    refine mo_call hC (c_Mo_next l D tys tc hty h ar now (upd sc 12 (nI pp)) ai al F T pp (hM0.at hps)) wm_Mo_next wl_Mo_115 wi_Mo_next ws_Mo_Mo_next ⟨by decide, by decide⟩ rfl rfl (Nat.le_of_ble_eq_true rfl) ⟨Nat.zero_le _, Nat.zero_le _⟩ (fun r' w1 hp => ?_)
    obtain ⟨rfl, rfl⟩ := hp
    refine And.intro (fun c3 => ?_) (fun c3 => ?_)
    · skip
      have c3 : T.getD pp 0 = 32 := (nI_eq (by have := T_lt hT pp; omega) (by omega)).mp c3
      have hin := T_in (T := T) (k := pp) (by omega)
      refine vx_go hC hFt hini (vx_ends hC hr hlk) jc_Mo_gap 8 (by decide) rfl ?_
      refine And.intro rfl ?_
      refine And.intro rfl ?_
      refine And.intro rfl (And.intro (And.intro rfl rfl) ?_)
      refine Vx.eqs rfl rfl rfl (show _ = mdW tc h ar now (upd sc 12 (nI pp + 1)) ai al from rfl) ?_
      rw [nI_1]
      exact ih (T.length - (pp + 1)) (by omega) (pp + 1) (by rw [← hPF, pz_t (by simp only [isGp, decide_eq_true_eq]; omega) hin]) (by omega) rfl
    · skip
      have c3 : ¬ (T.getD pp 0 = 32) := fun z => c3 (by rw [z]; rfl)
      refine mo_call hC (c_Mo_next l D tys tc hty h ar now (upd sc 12 (nI pp)) ai al F T pp (hM0.at hps)) wm_Mo_next wl_Mo_115 wi_Mo_next ws_Mo_Mo_next ⟨by decide, by decide⟩ rfl rfl (Nat.le_of_ble_eq_true rfl) ⟨Nat.zero_le _, Nat.zero_le _⟩ (fun r' w1 hp => ?_)
      obtain ⟨rfl, rfl⟩ := hp
      refine And.intro (fun c7 => ?_) (fun c7 => ?_)
      · skip
        have c7 : ¬ (T.getD pp 0 = 9) := fun z => c7 (by rw [z]; rfl)
        refine vx_go hC hFt hini (vx_ends hC hr hlk) jc_Mo_gap 15 (by decide) rfl ?_
        refine And.intro (trivial) (And.intro ?_ (And.intro (Nat.le_refl _) (Nat.le_refl _)))
        rw [← hPF, pz_f (q := isGp) (by simp only [isGp, decide_eq_false_iff_not]; omega)]
        exact And.intro rfl rfl
      · skip
        have c7 : T.getD pp 0 = 9 := (nI_eq (by have := T_lt hT pp; omega) (by omega)).mp c7
        have hin := T_in (T := T) (k := pp) (by omega)
        refine And.intro rfl ?_
        refine And.intro rfl ?_
        refine And.intro rfl (And.intro (And.intro rfl rfl) ?_)
        refine Vx.eqs rfl rfl rfl (show _ = mdW tc h ar now (upd sc 12 (nI pp + 1)) ai al from rfl) ?_
        rw [nI_1]
        exact ih (T.length - (pp + 1)) (by omega) (pp + 1) (by rw [← hPF, pz_t (by simp only [isGp, decide_eq_true_eq]; omega) hin]) (by omega) rfl
set_option maxRecDepth 100000 in
set_option maxHeartbeats 4000000 in
theorem c_Mo_open (l : Launch) (D : va_G) (tys : List (ClassId × FieldType)) (tc : Nat → ClassId) (hty : ∀ i : Nat, i < 4 → tys[i]? = some (tc i, vx_ty i)) (h : Nat) (ar : Nat → Nat) (now : Int64) (sc : Nat → Int32) (ai : Nat → Nat → Int32) (al : Nat → Nat → Int64) (G : Nat) : Kt l y_Mo_open (yw y_Mo_open b_Mo_open 2 none) 0 0 0 0 D cls tys (fun _ _ _ => True) [.ref h, .int (nI G)] (mdW tc h ar now sc ai al) (fun r w => r = none ∧ w = mdW tc h ar now (upd (upd sc 11 (nI G)) 12 (nI 0)) ai al) := by
  refine Kt.of ro_true (by decide) rfl hty (Nat.le_of_ble_eq_true rfl) ?_
  intro p e s m args below meth c0 A hC hr hlk hnm hF
  have hFt : vx_Ft y_Mo_open.cls (yw y_Mo_open b_Mo_open 2 none) cls cty ft_Mo := ft_of (fun w h => List.mem_cons_of_mem _ h) fl_Mo_in ft_Mo_b
  have hini : false = true → meth.name = "<init>" := fun h => by cases h
  refine vx_go hC hFt hini (vx_ends hC hr hlk) jc_Mo_open 0 (by decide) rfl ?_
  refine And.intro rfl (And.intro (And.intro rfl rfl) ?_)
  refine And.intro rfl (And.intro (And.intro rfl rfl) ?_)
  refine And.intro (trivial) (And.intro ?_ (And.intro (Nat.le_refl _) (Nat.le_refl _)))
  exact And.intro rfl rfl
set_option maxRecDepth 100000 in
set_option maxHeartbeats 4000000 in
theorem c_Mo_there (l : Launch) (D : va_G) (tys : List (ClassId × FieldType)) (tc : Nat → ClassId) (hty : ∀ i : Nat, i < 4 → tys[i]? = some (tc i, vx_ty i)) (h : Nat) (ar : Nat → Nat) (now : Int64) (sc : Nat → Int32) (ai : Nat → Nat → Int32) (al : Nat → Nat → Int64) (G : Nat) (T : List Nat) (hG : G < 8) (hT : isT T) (hlenG : ai 8 G = nI T.length) : Kt l y_Mo_there (yw y_Mo_there b_Mo_there 2 (some .boolean)) 0 0 0 0 D cls tys (fun _ _ _ => True) [.ref h, .int (nI G)] (mdW tc h ar now sc ai al) (fun r w => r = some (.int (bI (decide (0 < T.length)))) ∧ w = (mdW tc h ar now sc ai al)) := by
  refine Kt.of ro_true (by decide) rfl hty (Nat.le_of_ble_eq_true rfl) ?_
  intro p e s m args below meth c0 A hC hr hlk hnm hF
  have hFt : vx_Ft y_Mo_there.cls (yw y_Mo_there b_Mo_there 2 (some .boolean)) cls cty ft_Mo := ft_of (fun w h => List.mem_cons_of_mem _ h) fl_Mo_in ft_Mo_b
  have hini : false = true → meth.name = "<init>" := fun h => by cases h
  refine vx_go hC hFt hini (vx_ends hC hr hlk) jc_Mo_there 0 (by decide) rfl ?_
  refine And.intro rfl ?_
  refine And.intro rfl (And.intro rfl (And.intro (vp_in_nI hG (by decide)) ?_))
  rw [nI_clamp (by omega), hlenG]
  refine And.intro (fun c4 => ?_) (fun c4 => ?_)
  · skip
    have c4 : T.length = 0 := Nat.eq_zero_of_not_pos (fun z => absurd c4 (nI_nle z (by have := hT.1; omega)))
    refine vx_go hC hFt hini (vx_ends hC hr hlk) jc_Mo_there 7 (by decide) rfl ?_
    refine And.intro (rfl) (And.intro ?_ (And.intro (Nat.le_refl _) (Nat.le_refl _)))
    rw [decide_eq_false (by omega)]
    exact And.intro rfl rfl
  · skip
    have c4 : 0 < T.length := Nat.pos_of_ne_zero (fun z => c4 (by rw [z]; exact nI_le (Nat.le_refl 0) (by decide)))
    refine vx_go hC hFt hini (vx_ends hC hr hlk) jc_Mo_there 8 (by decide) rfl ?_
    refine And.intro (rfl) (And.intro ?_ (And.intro (Nat.le_refl _) (Nat.le_refl _)))
    rw [decide_eq_true (by omega)]
    exact And.intro rfl rfl
set_option maxRecDepth 100000 in
set_option maxHeartbeats 4000000 in
theorem c_Mo_separator (l : Launch) (D : va_G) (tys : List (ClassId × FieldType)) (tc : Nat → ClassId) (hty : ∀ i : Nat, i < 4 → tys[i]? = some (tc i, vx_ty i)) (h : Nat) (ar : Nat → Nat) (now : Int64) (sc : Nat → Int32) (ai : Nat → Nat → Int32) (al : Nat → Nat → Int64) (F : Nat) (T : List Nat) (ps : Nat) (hM : mdS sc ai F T ps) : Kt l y_Mo_separator (yw y_Mo_separator b_Mo_separator 1 (some .int)) 3 63 0 0 D cls tys (fun _ _ _ => True) [.ref h] (mdW tc h ar now sc ai al) (fun r w => r = some (.int (sepv T (pz T ps isGp))) ∧ w = mdW tc h ar now (upd sc 12 (nI (if T.getD (pz T ps isGp) 0 = 44 then (pz T ps isGp) + 1 else (pz T ps isGp)))) ai al) := by
  refine Kt.of ro_true (by decide) rfl hty (Nat.le_of_ble_eq_true rfl) ?_
  intro p e s m args below meth c0 A hC hr hlk hnm hF
  have hFt : vx_Ft y_Mo_separator.cls (yw y_Mo_separator b_Mo_separator 1 (some .int)) cls cty ft_Mo := ft_of (fun w h => List.mem_cons_of_mem _ h) fl_Mo_in ft_Mo_b
  have hini : false = true → meth.name = "<init>" := fun h => by cases h
  obtain ⟨hF8, h11, hlenT, htx, hT, h12, hps⟩ := id hM
  have hTl := hT.1
  have hP := pz_le (q := isGp) hps (show T.length ≤ 400 by omega)
  have hMP := hM.at hP
  refine vx_go hC hFt hini (vx_ends hC hr hlk) jc_Mo_separator 0 (by decide) rfl ?_
  refine mo_call hC (c_Mo_gap l D tys tc hty h ar now sc ai al F T ps hM) wm_Mo_gap wl_Mo_156 wi_Mo_gap ws_Mo_Mo_gap ⟨by decide, by decide⟩ rfl rfl (Nat.le_of_ble_eq_true rfl) ⟨Nat.zero_le _, Nat.zero_le _⟩ (fun r' w1 hp => ?_)
  obtain ⟨rfl, rfl⟩ := hp
  refine mo_call hC (c_Mo_ended l D tys tc hty h ar now (upd sc 12 (nI (pz T ps isGp))) ai al F T (pz T ps isGp) hMP) wm_Mo_ended wl_Mo_166 wi_Mo_ended ws_Mo_Mo_ended ⟨by decide, by decide⟩ rfl rfl (Nat.le_of_ble_eq_true rfl) ⟨Nat.zero_le _, Nat.zero_le _⟩ (fun r' w1 hp => ?_)
  obtain ⟨rfl, rfl⟩ := hp
  refine And.intro (fun c4 => ?_) (fun c4 => ?_)
  · skip
    have c4 : ¬ T.length ≤ (pz T ps isGp) := of_decide_eq_false (bI_eq c4)
    refine vx_go hC hFt hini (vx_ends hC hr hlk) jc_Mo_separator 7 (by decide) rfl ?_
    refine mo_call hC (c_Mo_take l D tys tc hty h ar now (upd sc 12 (nI (pz T ps isGp))) ai al F T (pz T ps isGp) hMP 44 (by decide)) wm_Mo_take wl_Mo_153 wi_Mo_take ws_Mo_Mo_take ⟨by decide, by decide⟩ rfl rfl (Nat.le_of_ble_eq_true rfl) ⟨Nat.zero_le _, Nat.zero_le _⟩ (fun r' w1 hp => ?_)
    obtain ⟨rfl, rfl⟩ := hp
    refine And.intro (fun c10 => ?_) (fun c10 => ?_)
    · skip
      have c10 : ¬ T.getD (pz T ps isGp) 0 = 44 := of_decide_eq_false (bI_eq c10)
      refine vx_go hC hFt hini (vx_ends hC hr hlk) jc_Mo_separator 13 (by decide) rfl ?_
      refine And.intro (trivial) (And.intro ?_ (And.intro (Nat.le_refl _) (Nat.le_refl _)))
      rw [sepv, if_neg c4, if_neg c10, if_neg c10, upd_upd]
      exact And.intro rfl rfl
    · skip
      have c10 : T.getD (pz T ps isGp) 0 = 44 := of_decide_eq_true (bI_ne c10)
      refine vx_go hC hFt hini (vx_ends hC hr hlk) jc_Mo_separator 14 (by decide) rfl ?_
      refine And.intro (trivial) (And.intro ?_ (And.intro (Nat.le_refl _) (Nat.le_refl _)))
      rw [sepv, if_neg c4, if_pos c10, if_pos c10, upd_upd]
      exact And.intro rfl rfl
  · skip
    have c4 : T.length ≤ (pz T ps isGp) := of_decide_eq_true (bI_ne c4)
    refine And.intro (trivial) (And.intro ?_ (And.intro (Nat.le_refl _) (Nat.le_refl _)))
    rw [sepv, if_pos c4, if_neg (by rw [T_out c4]; decide)]
    exact And.intro rfl rfl
set_option maxRecDepth 100000 in
set_option maxHeartbeats 4000000 in
theorem c_Mo_semicolon (l : Launch) (D : va_G) (tys : List (ClassId × FieldType)) (tc : Nat → ClassId) (hty : ∀ i : Nat, i < 4 → tys[i]? = some (tc i, vx_ty i)) (h : Nat) (ar : Nat → Nat) (now : Int64) (sc : Nat → Int32) (ai : Nat → Nat → Int32) (al : Nat → Nat → Int64) (F : Nat) (T : List Nat) (ps : Nat) (hM : mdS sc ai F T ps) : Kt l y_Mo_semicolon (yw y_Mo_semicolon b_Mo_semicolon 2 (some .boolean)) 3 63 0 0 D cls tys (fun _ _ _ => True) [.ref h] (mdW tc h ar now sc ai al) (fun r w => r = some (.int (bI (decide (T.getD (pz T ps isGp) 0 = 59)))) ∧ w = mdW tc h ar now (upd sc 12 (nI (if T.getD (pz T ps isGp) 0 = 59 then pz T ((pz T ps isGp) + 1) isGp else ps))) ai al) := by
  refine Kt.of ro_true (by decide) rfl hty (Nat.le_of_ble_eq_true rfl) ?_
  intro p e s m args below meth c0 A hC hr hlk hnm hF
  have hFt : vx_Ft y_Mo_semicolon.cls (yw y_Mo_semicolon b_Mo_semicolon 2 (some .boolean)) cls cty ft_Mo := ft_of (fun w h => List.mem_cons_of_mem _ h) fl_Mo_in ft_Mo_b
  have hini : false = true → meth.name = "<init>" := fun h => by cases h
  obtain ⟨hF8, h11, hlenT, htx, hT, h12, hps⟩ := id hM
  have hTl := hT.1
  have hP := pz_le (q := isGp) hps (show T.length ≤ 400 by omega)
  have hMP := hM.at hP
  refine vx_go hC hFt hini (vx_ends hC hr hlk) jc_Mo_semicolon 0 (by decide) rfl ?_
  refine And.intro rfl ?_
  refine mo_call hC (c_Mo_gap l D tys tc hty h ar now sc ai al F T ps hM) wm_Mo_gap wl_Mo_156 wi_Mo_gap ws_Mo_Mo_gap ⟨by decide, by decide⟩ rfl rfl (Nat.le_of_ble_eq_true rfl) ⟨Nat.zero_le _, Nat.zero_le _⟩ (fun r' w1 hp => ?_)
  obtain ⟨rfl, rfl⟩ := hp
  refine mo_call hC (c_Mo_take l D tys tc hty h ar now (upd sc 12 (nI (pz T ps isGp))) ai al F T (pz T ps isGp) hMP 59 (by decide)) wm_Mo_take wl_Mo_153 wi_Mo_take ws_Mo_Mo_take ⟨by decide, by decide⟩ rfl rfl (Nat.le_of_ble_eq_true rfl) ⟨Nat.zero_le _, Nat.zero_le _⟩ (fun r' w1 hp => ?_)
  obtain ⟨rfl, rfl⟩ := hp
  refine And.intro (fun c8 => ?_) (fun c8 => ?_)
  · skip
    have c8 : ¬ T.getD (pz T ps isGp) 0 = 59 := of_decide_eq_false (bI_eq c8)
    refine vx_go hC hFt hini (vx_ends hC hr hlk) jc_Mo_semicolon 13 (by decide) rfl ?_
    refine And.intro rfl (And.intro (And.intro rfl rfl) ?_)
    refine And.intro (rfl) (And.intro ?_ (And.intro (Nat.le_refl _) (Nat.le_refl _)))
    rw [decide_eq_false c8, if_neg c8, upd_same h12]
    refine And.intro rfl ?_
    rw [show sc = upd sc 12 (sc 12) from (upd_same rfl).symm]
    rfl
  · skip
    have c8 : T.getD (pz T ps isGp) 0 = 59 := of_decide_eq_true (bI_ne c8)
    rw [show (if T.getD (pz T ps isGp) 0 = 59 then (pz T ps isGp) + 1 else (pz T ps isGp)) = (pz T ps isGp) + 1 from if_pos c8, upd_upd]
    have hin := T_in (T := T) (k := (pz T ps isGp)) (by omega)
    have hP1 : (pz T ps isGp) + 1 ≤ 400 := by omega
    refine mo_call hC (c_Mo_gap l D tys tc hty h ar now (upd sc 12 (nI ((pz T ps isGp) + 1))) ai al F T ((pz T ps isGp) + 1) (hM.at hP1)) wm_Mo_gap wl_Mo_156 wi_Mo_gap ws_Mo_Mo_gap ⟨by decide, by decide⟩ rfl rfl (Nat.le_of_ble_eq_true rfl) ⟨Nat.zero_le _, Nat.zero_le _⟩ (fun r' w1 hp => ?_)
    obtain ⟨rfl, rfl⟩ := hp
    refine And.intro (rfl) (And.intro ?_ (And.intro (Nat.le_refl _) (Nat.le_refl _)))
    rw [decide_eq_true c8, if_pos c8, upd_upd]
    exact And.intro rfl rfl
set_option maxRecDepth 100000 in
set_option maxHeartbeats 4000000 in
theorem c_Mo_element (l : Launch) (D : va_G) (tys : List (ClassId × FieldType)) (tc : Nat → ClassId) (hty : ∀ i : Nat, i < 4 → tys[i]? = some (tc i, vx_ty i)) (h : Nat) (ar : Nat → Nat) (now : Int64) (sc : Nat → Int32) (ai : Nat → Nat → Int32) (al : Nat → Nat → Int64) (F : Nat) (T : List Nat) (ps : Nat) (hM : mdS sc ai F T ps) : Kt l y_Mo_element (yw y_Mo_element b_Mo_element 1 (some .boolean)) 3 63 0 0 D cls tys (fun _ _ _ => True) [.ref h] (mdW tc h ar now sc ai al) (fun r w => r = some (.int (bI (decide ((pz T ps isGc) < T.length)))) ∧ w = mdW tc h ar now (upd sc 12 (nI (pz T ps isGc))) ai al) := by
  refine Kt.of ro_true (by decide) rfl hty (Nat.le_of_ble_eq_true rfl) ?_
  intro p e s m args below meth c0 A hC hr hlk hnm hF
  have hFt : vx_Ft y_Mo_element.cls (yw y_Mo_element b_Mo_element 1 (some .boolean)) cls cty ft_Mo := ft_of (fun w h => List.mem_cons_of_mem _ h) fl_Mo_in ft_Mo_b
  have hini : false = true → meth.name = "<init>" := fun h => by cases h
  obtain ⟨hF8, h11, hlenT, htx, hT, h12, hps⟩ := id hM
  have hTl := hT.1
  have hP := pz_le (q := isGp) hps (show T.length ≤ 400 by omega)
  have hMP := hM.at hP
  refine vx_gon hC hFt hini (vx_ends hC hr hlk) jc_Mo_element 0 2 (by decide) rfl ?_
  refine mo_call hC (c_Mo_gap l D tys tc hty h ar now sc ai al F T ps hM) wm_Mo_gap wl_Mo_156 wi_Mo_gap ws_Mo_Mo_gap ⟨by decide, by decide⟩ rfl rfl (Nat.le_of_ble_eq_true rfl) ⟨Nat.zero_le _, Nat.zero_le _⟩ (fun r' w1 hp => ?_)
  obtain ⟨rfl, rfl⟩ := hp
  generalize hPF : (pz T ps isGc) = PF
  have hM0 := hM
  have hng := pz_no (T := T) (ps := ps) gp_0
  replace hPF : pz T (pz T ps isGp) isGc = PF := by rw [pz_gpgc]; exact hPF
  have hps := hP
  clear hM h12 hMP
  generalize hp0 : (pz T ps isGp) = pp at hPF hps hng hP ⊢
  clear hp0
  induction hn : T.length - pp using Nat.strongRecOn generalizing pp with
  | _ n ih =>
    refine vx_go hC hFt hini (vx_ends hC hr hlk) jc_Mo_element 2 (by decide) rfl ?_
    refine mo_call hC (c_Mo_take l D tys tc hty h ar now (upd sc 12 (nI pp)) ai al F T pp (hM0.at hps) 44 (by decide)) wm_Mo_take wl_Mo_153 wi_Mo_take ws_Mo_Mo_take ⟨by decide, by decide⟩ rfl rfl (Nat.le_of_ble_eq_true rfl) ⟨Nat.zero_le _, Nat.zero_le _⟩ (fun r' w1 hp => ?_)
    obtain ⟨rfl, rfl⟩ := hp
    refine And.intro (fun c5 => ?_) (fun c5 => ?_)
    · skip
      have c5 : ¬ T.getD pp 0 = 44 := of_decide_eq_false (bI_eq c5)
      rw [if_neg c5, upd_upd]
      have hgc : isGc (T.getD pp 0) = false := by
        simp only [isGp, decide_eq_false_iff_not] at hng
        simp only [isGc, decide_eq_false_iff_not]
        omega
      refine vx_go hC hFt hini (vx_ends hC hr hlk) jc_Mo_element 9 (by decide) rfl ?_
      refine mo_call hC (c_Mo_ended l D tys tc hty h ar now (upd sc 12 (nI pp)) ai al F T pp (hM0.at hps)) wm_Mo_ended wl_Mo_166 wi_Mo_ended ws_Mo_Mo_ended ⟨by decide, by decide⟩ rfl rfl (Nat.le_of_ble_eq_true rfl) ⟨Nat.zero_le _, Nat.zero_le _⟩ (fun r' w1 hp => ?_)
      obtain ⟨rfl, rfl⟩ := hp
      refine And.intro (fun c11 => ?_) (fun c11 => ?_)
      · skip
        have c11 : T.length ≤ pp := of_decide_eq_true (bI_ne c11)
        refine vx_go hC hFt hini (vx_ends hC hr hlk) jc_Mo_element 14 (by decide) rfl ?_
        refine And.intro (rfl) (And.intro ?_ (And.intro (Nat.le_refl _) (Nat.le_refl _)))
        rw [← hPF, pz_f (q := isGc) hgc, decide_eq_false (by omega)]
        exact And.intro rfl rfl
      · skip
        have c11 : ¬ T.length ≤ pp := of_decide_eq_false (bI_eq c11)
        refine vx_go hC hFt hini (vx_ends hC hr hlk) jc_Mo_element 15 (by decide) rfl ?_
        refine And.intro (rfl) (And.intro ?_ (And.intro (Nat.le_refl _) (Nat.le_refl _)))
        rw [← hPF, pz_f (q := isGc) hgc, decide_eq_true (by omega)]
        exact And.intro rfl rfl
    · skip
      have c5 : T.getD pp 0 = 44 := of_decide_eq_true (bI_ne c5)
      rw [if_pos c5, upd_upd]
      have hin := T_in (T := T) (k := pp) (by omega)
      have hpp1 : pp + 1 ≤ 400 := by omega
      refine mo_call hC (c_Mo_gap l D tys tc hty h ar now (upd sc 12 (nI (pp + 1))) ai al F T (pp + 1) (hM0.at (p2 := pp + 1) hpp1)) wm_Mo_gap wl_Mo_156 wi_Mo_gap ws_Mo_Mo_gap ⟨by decide, by decide⟩ rfl rfl (Nat.le_of_ble_eq_true rfl) ⟨Nat.zero_le _, Nat.zero_le _⟩ (fun r' w1 hp => ?_)
      obtain ⟨rfl, rfl⟩ := hp
      rw [upd_upd]
      have hz := pz_le (T := T) (ps := pp + 1) (M := 400) (q := isGp) (by omega) (by omega)
      have hge : pp + 1 ≤ pz T (pp + 1) isGp := Nat.le_add_right _ _
      exact ih (T.length - pz T (pp + 1) isGp) (by omega) (pz T (pp + 1) isGp) (by rw [pz_gpgc, ← hPF, pz_t (q := isGc) (by rw [c5]; decide) hin]) hz (pz_no gp_0) hz rfl
end
section
/-! THE REFERENCE: tokens, digits, weights, by program (wip/whole/gen/p32.py) -/
theorem md_sub13 {sc : Nat → Int32} {ps : Nat} (h12 : sc 12 = nI ps) : upd sc 13 (sc 12) = upd (upd sc 13 (nI ps)) 12 (nI ps) := by rw [h12, upd_same (f := upd sc 13 (nI ps)) (k := 12) ((pk_un (by decide)).trans h12)]
/-- after a digit 0 or 1 (c): the digits of a weight from ps on, each worth u; none where one must be 0 and isn't -/
def wlp (T : List Nat) (c : Nat) : Nat → Nat → Nat → Nat → Option (Nat × Nat)
  | 0, _, v, ps => some (v, ps)
  | n + 1, u, v, ps => if 0 < u ∧ isDg (T.getD ps 0) = true then (if c = 49 ∧ 48 < T.getD ps 0 then none else wlp T c n (u / 10) (v + u * (T.getD ps 0 - 48)) (ps + 1)) else some (v, ps)
/-- a weight's number from ps on: its thousandths and the place behind it -/
def wgt (T : List Nat) (ps : Nat) : Option (Nat × Nat) := if T.getD ps 0 = 48 ∨ T.getD ps 0 = 49 then (if T.getD (ps + 1) 0 = 46 then wlp T (T.getD ps 0) 4 100 (1000 * (T.getD ps 0 - 48)) (ps + 2) else some (1000 * (T.getD ps 0 - 48), ps + 1)) else none
set_option maxRecDepth 100000 in
set_option maxHeartbeats 4000000 in
theorem c_Mo_token (l : Launch) (D : va_G) (tys : List (ClassId × FieldType)) (tc : Nat → ClassId) (hty : ∀ i : Nat, i < 4 → tys[i]? = some (tc i, vx_ty i)) (h : Nat) (ar : Nat → Nat) (now : Int64) (sc : Nat → Int32) (ai : Nat → Nat → Int32) (al : Nat → Nat → Int64) (F : Nat) (T : List Nat) (ps : Nat) (hM : mdS sc ai F T ps) : Kt l y_Mo_token (yw y_Mo_token b_Mo_token 1 (some .boolean)) 2 41 0 0 D cls tys (fun _ _ _ => True) [.ref h] (mdW tc h ar now sc ai al) (fun r w => r = some (.int (bI (decide (ps < (pz T ps isTk))))) ∧ w = mdW tc h ar now (upd (upd (upd sc 13 (nI ps)) 12 (nI (pz T ps isTk))) 14 (nI (pz T ps isTk))) ai al) := by
  refine Kt.of ro_true (by decide) rfl hty (Nat.le_of_ble_eq_true rfl) ?_
  intro p e s m args below meth c0 A hC hr hlk hnm hF
  have hFt : vx_Ft y_Mo_token.cls (yw y_Mo_token b_Mo_token 1 (some .boolean)) cls cty ft_Mo := ft_of (fun w h => List.mem_cons_of_mem _ h) fl_Mo_in ft_Mo_b
  have hini : false = true → meth.name = "<init>" := fun h => by cases h
  obtain ⟨hF8, h11, hlenT, htx, hT, h12, hps⟩ := id hM
  have hTl := hT.1
  refine vx_gon hC hFt hini (vx_ends hC hr hlk) jc_Mo_token 0 4 (by decide) rfl ?_
  refine And.intro rfl ?_
  refine And.intro rfl (And.intro (And.intro rfl rfl) ?_)
  generalize hPF : (pz T ps isTk) = PF
  refine Vx.eqs rfl rfl rfl (w2 := mdW tc h ar now (upd (upd sc 13 (nI ps)) 12 (nI ps)) ai al) (by rw [← md_sub13 h12]; rfl) ?_
  have hM0 := hM
  have hps0 := hps
  clear hM h12
  obtain ⟨pp, hpp⟩ : ∃ pp : Nat, pp = ps := ⟨_, rfl⟩
  have hge : ps ≤ pp := by omega
  rw [← hpp] at hPF hps
  refine Vx.eqs rfl rfl rfl (w2 := mdW tc h ar now (upd (upd sc 13 (nI ps)) 12 (nI pp)) ai al) (by rw [hpp]) ?_
  clear hpp
  induction hn : T.length - pp using Nat.strongRecOn generalizing pp with
  | _ n ih =>
    refine vx_go hC hFt hini (vx_ends hC hr hlk) jc_Mo_token 4 (by decide) rfl ?_
    refine mo_call hC (c_Mo_next l D tys tc hty h ar now (upd (upd sc 13 (nI ps)) 12 (nI pp)) ai al F T pp ((hM0.ot (by decide) (by decide)).at hps)) wm_Mo_next wl_Mo_115 wi_Mo_next ws_Mo_Mo_next ⟨by decide, by decide⟩ rfl rfl (Nat.le_of_ble_eq_true rfl) ⟨Nat.zero_le _, Nat.zero_le _⟩ (fun r' w1 hp => ?_)
    obtain ⟨rfl, rfl⟩ := hp
    refine mo_calls hC (c_Mo_isToken l D tys tc hty (T.getD pp 0) (T_lt hT pp)) wm_Mo_isToken wl_Mo_129 wt_Mo_isToken ⟨by decide, by decide⟩ rfl rfl (Nat.le_of_ble_eq_true rfl) ⟨Nat.zero_le _, Nat.zero_le _⟩ (fun r' hp => ?_)
    subst hp
    refine And.intro (fun c7 => ?_) (fun c7 => ?_)
    · skip
      have c7 : isTk (T.getD pp 0) = false := bI_eq c7
      refine vx_go hC hFt hini (vx_ends hC hr hlk) jc_Mo_token 15 (by decide) rfl ?_
      refine And.intro rfl ?_
      refine And.intro rfl (And.intro (And.intro rfl rfl) ?_)
      refine And.intro rfl ?_
      refine And.intro rfl ?_
      refine And.intro (fun c23 => ?_) (fun c23 => ?_)
      · skip
        have c23 := (nI_leI (a := pp) (b := ps) (by omega) (by omega)).mp c23
        refine vx_go hC hFt hini (vx_ends hC hr hlk) jc_Mo_token 26 (by decide) rfl ?_
        refine And.intro (rfl) (And.intro ?_ (And.intro (Nat.le_refl _) (Nat.le_refl _)))
        rw [← hPF, pz_f (q := isTk) c7, decide_eq_false (by omega)]
        exact And.intro rfl rfl
      · skip
        have c23 : ¬ (pp ≤ ps) := fun z => c23 ((nI_leI (a := pp) (b := ps) (by omega) (by omega)).mpr z)
        refine vx_go hC hFt hini (vx_ends hC hr hlk) jc_Mo_token 27 (by decide) rfl ?_
        refine And.intro (rfl) (And.intro ?_ (And.intro (Nat.le_refl _) (Nat.le_refl _)))
        rw [← hPF, pz_f (q := isTk) c7, decide_eq_true (by omega)]
        exact And.intro rfl rfl
    · skip
      have c7 : isTk (T.getD pp 0) = true := bI_ne c7
      have hin := T_in (T := T) (k := pp) (fun z => by rw [z, tk_0] at c7; cases c7)
      refine And.intro rfl ?_
      refine And.intro rfl ?_
      refine And.intro rfl (And.intro (And.intro rfl rfl) ?_)
      refine Vx.eqs rfl rfl rfl (show _ = mdW tc h ar now (upd (upd sc 13 (nI ps)) 12 (nI pp + 1)) ai al from rfl) ?_
      rw [nI_1]
      exact ih (T.length - (pp + 1)) (by omega) (pp + 1) (by omega) (by rw [← hPF, pz_t c7 hin]) (by omega) rfl
set_option maxRecDepth 100000 in
set_option maxHeartbeats 4000000 in
theorem c_Mo_digits (l : Launch) (D : va_G) (tys : List (ClassId × FieldType)) (tc : Nat → ClassId) (hty : ∀ i : Nat, i < 4 → tys[i]? = some (tc i, vx_ty i)) (h : Nat) (ar : Nat → Nat) (now : Int64) (sc : Nat → Int32) (ai : Nat → Nat → Int32) (al : Nat → Nat → Int64) (F : Nat) (T : List Nat) (ps : Nat) (hM : mdS sc ai F T ps) (mn : Nat) (hmn : mn < 100) : Kt l y_Mo_digits (yw y_Mo_digits b_Mo_digits 4 (some .int)) 2 41 0 0 D cls tys (fun _ _ _ => True) [.ref h, .int (nI mn)] (mdW tc h ar now sc ai al) (fun r w => r = some (.int (iI (dgq T mn 0 ps).1)) ∧ w = mdW tc h ar now (upd sc 12 (nI (dgq T mn 0 ps).2)) ai al) := by
  refine Kt.of ro_true (by decide) rfl hty (Nat.le_of_ble_eq_true rfl) ?_
  intro p e s m args below meth c0 A hC hr hlk hnm hF
  have hFt : vx_Ft y_Mo_digits.cls (yw y_Mo_digits b_Mo_digits 4 (some .int)) cls cty ft_Mo := ft_of (fun w h => List.mem_cons_of_mem _ h) fl_Mo_in ft_Mo_b
  have hini : false = true → meth.name = "<init>" := fun h => by cases h
  obtain ⟨hF8, h11, hlenT, htx, hT, h12, hps⟩ := id hM
  have hTl := hT.1
  refine vx_gon hC hFt hini (vx_ends hC hr hlk) jc_Mo_digits 0 4 (by decide) rfl ?_
  generalize hres : dgq T mn 0 ps = RES
  refine Vx.subL (lv' := [(0, .ref h), (1, .int (nI mn)), (2, .int (nI 0)), (3, .int (nI 0))]) [2, 3, 1, 0] rfl ?_
  obtain ⟨a, ha⟩ : ∃ a : Nat, a = 0 := ⟨_, rfl⟩
  obtain ⟨i, hi⟩ : ∃ i : Nat, i = 0 := ⟨_, rfl⟩
  obtain ⟨k, hk⟩ : ∃ k : Nat, k = mn := ⟨_, rfl⟩
  obtain ⟨pp, hpp⟩ : ∃ pp : Nat, pp = ps := ⟨_, rfl⟩
  have hik : i + k = mn := by omega
  refine Vx.eqs rfl (lv2 := [(0, .ref h), (1, .int (nI mn)), (2, .int (nI a)), (3, .int (nI i))]) (by rw [ha, hi]) rfl (w2 := mdW tc h ar now (upd sc 12 (nI pp)) ai al) (by rw [hpp, upd_same h12]) ?_
  replace hres : dgq T k a pp = RES := by rw [hk, ha, hpp]; exact hres
  have hM0 := hM
  rw [← hpp] at hps
  clear ha hi hk hpp hM h12
  induction k using Nat.strongRecOn generalizing pp a i with
  | _ k ih =>
    refine vx_go hC hFt hini (vx_ends hC hr hlk) jc_Mo_digits 4 (by decide) rfl ?_
    refine And.intro (fun c6 => ?_) (fun c6 => ?_)
    · skip
      have c6 := (nI_leI (a := mn) (b := i) (by omega) (by omega)).mp c6
      obtain rfl : k = 0 := by omega
      refine vx_go hC hFt hini (vx_ends hC hr hlk) jc_Mo_digits 30 (by decide) rfl ?_
      refine And.intro (trivial) (And.intro ?_ (And.intro (Nat.le_refl _) (Nat.le_refl _)))
      rw [← hres]
      exact And.intro rfl rfl
    · skip
      have c6 : ¬ (mn ≤ i) := fun z => c6 ((nI_leI (a := mn) (b := i) (by omega) (by omega)).mpr z)
      obtain ⟨k2, rfl⟩ : ∃ k2, k = k2 + 1 := ⟨k - 1, by omega⟩
      refine mo_call hC (c_Mo_next l D tys tc hty h ar now (upd sc 12 (nI pp)) ai al F T pp (hM0.at hps)) wm_Mo_next wl_Mo_115 wi_Mo_next ws_Mo_Mo_next ⟨by decide, by decide⟩ rfl rfl (Nat.le_of_ble_eq_true rfl) ⟨Nat.zero_le _, Nat.zero_le _⟩ (fun r' w1 hp => ?_)
      obtain ⟨rfl, rfl⟩ := hp
      refine mo_calls hC (c_Mo_isDigit l D tys tc hty (T.getD pp 0) (T_lt hT pp)) wm_Mo_isDigit wl_Mo_119 wt_Mo_isDigit ⟨by decide, by decide⟩ rfl rfl (Nat.le_of_ble_eq_true rfl) ⟨Nat.zero_le _, Nat.zero_le _⟩ (fun r' hp => ?_)
      subst hp
      refine And.intro (fun c10 => ?_) (fun c10 => ?_)
      · skip
        have c10 : isDg (T.getD pp 0) = true := bI_ne c10
        have hdg := dg_in c10
        have hin := T_in (T := T) (k := pp) (by omega)
        refine vx_go hC hFt hini (vx_ends hC hr hlk) jc_Mo_digits 13 (by decide) rfl ?_
        refine mo_call hC (c_Mo_next l D tys tc hty h ar now (upd sc 12 (nI pp)) ai al F T pp (hM0.at hps)) wm_Mo_next wl_Mo_115 wi_Mo_next ws_Mo_Mo_next ⟨by decide, by decide⟩ rfl rfl (Nat.le_of_ble_eq_true rfl) ⟨Nat.zero_le _, Nat.zero_le _⟩ (fun r' w1 hp => ?_)
        obtain ⟨rfl, rfl⟩ := hp
        refine And.intro rfl ?_
        refine And.intro rfl ?_
        refine And.intro rfl (And.intro (And.intro rfl rfl) ?_)
        refine Vx.subL (lv' := [(0, .ref h), (1, .int (nI mn)), (2, .int ((10 : Int32) * nI a + nI (T.getD pp 0) - 48)), (3, .int (nI i + 1))]) [2, 3, 1, 0] rfl ?_
        refine Vx.eqs rfl rfl rfl (show _ = mdW tc h ar now (upd sc 12 (nI pp + 1)) ai al from rfl) ?_
        rw [ten_add (by omega), nI_1, nI_1]
        exact ih k2 (by omega) (10 * a + T.getD pp 0 - 48) (i + 1) (pp + 1) (by omega) (by omega) (by rw [← hres]; simp only [dgq, c10, if_true])
      · skip
        have c10 : isDg (T.getD pp 0) = false := bI_eq c10
        refine And.intro (trivial) (And.intro ?_ (And.intro (Nat.le_refl _) (Nat.le_refl _)))
        rw [← hres]
        simp only [dgq, c10]
        exact And.intro rfl rfl
end
section
/-! THE REFERENCE: weights, stars, by program (wip/whole/gen/p33.py) -/
theorem upd_12_16 {f : Nat → Int32} {a b v : Int32} : upd (upd (upd f 12 a) 16 v) 12 b = upd (upd f 12 b) 16 v := by
  funext j
  by_cases e : j = 12
  · subst e; rw [pk_us, pk_un (by decide), pk_us]
  · rw [pk_un e]
    by_cases e2 : j = 16
    · subst e2; rw [pk_us, pk_us]
    · rw [pk_un e2, pk_un e2, pk_un e, pk_un e]
/-- the world behind a weight -/
def wgP (tc : Nat → ClassId) (h : Nat) (ar : Nat → Nat) (now : Int64) (sc : Nat → Int32) (ai : Nat → Nat → Int32) (al : Nat → Nat → Int64) (v : Option (Nat × Nat)) (r : Option Value) (w : va_W) : Prop := match v with
  | some q => r = some (.int 1) ∧ w = mdW tc h ar now (upd (upd sc 12 (nI q.2)) 16 (nI q.1)) ai al
  | none => r = some (.int 0) ∧ ∃ a b : Int32, w = mdW tc h ar now (upd (upd sc 12 a) 16 b) ai al
theorem w0_eq {c : Nat} (h : 48 ≤ c) : (1000 : Int32) * (nI c - 48) = nI (1000 * (c - 48)) := by rw [show (48 : Int32) = nI 48 from rfl, show (1000 : Int32) = nI 1000 from rfl, pk_sub h, pk_mul]
theorem wlp_no {T : List Nat} {c n u v ps : Nat} (h : ¬ (0 < u ∧ isDg (T.getD ps 0) = true)) : wlp T c n u v ps = some (v, ps) := by cases n with
  | zero => rfl
  | succ n => rw [wlp, if_neg h]
set_option maxRecDepth 100000 in
set_option maxHeartbeats 4000000 in
theorem c_Mo_weight (l : Launch) (D : va_G) (tys : List (ClassId × FieldType)) (tc : Nat → ClassId) (hty : ∀ i : Nat, i < 4 → tys[i]? = some (tc i, vx_ty i)) (h : Nat) (ar : Nat → Nat) (now : Int64) (sc : Nat → Int32) (ai : Nat → Nat → Int32) (al : Nat → Nat → Int64) (F : Nat) (T : List Nat) (ps : Nat) (hM : mdS sc ai F T ps) : Kt l y_Mo_weight (yw y_Mo_weight b_Mo_weight 4 (some .boolean)) 3 63 0 0 D cls tys (fun _ _ _ => True) [.ref h] (mdW tc h ar now sc ai al) (fun r w => wgP tc h ar now sc ai al (wgt T ps) r w) := by
  refine Kt.of ro_true (by decide) rfl hty (Nat.le_of_ble_eq_true rfl) ?_
  intro p e s m args below meth c0 A hC hr hlk hnm hF
  have hFt : vx_Ft y_Mo_weight.cls (yw y_Mo_weight b_Mo_weight 4 (some .boolean)) cls cty ft_Mo := ft_of (fun w h => List.mem_cons_of_mem _ h) fl_Mo_in ft_Mo_b
  have hini : false = true → meth.name = "<init>" := fun h => by cases h
  obtain ⟨hF8, h11, hlenT, htx, hT, h12, hps⟩ := id hM
  have hTl := hT.1
  refine vx_gon hC hFt hini (vx_ends hC hr hlk) jc_Mo_weight 0 30 (by decide) rfl ?_
  refine mo_call hC (c_Mo_next l D tys tc hty h ar now sc ai al F T ps hM) wm_Mo_next wl_Mo_115 wi_Mo_next ws_Mo_Mo_next ⟨by decide, by decide⟩ rfl rfl (Nat.le_of_ble_eq_true rfl) ⟨Nat.zero_le _, Nat.zero_le _⟩ (fun r' w1 hp => ?_)
  obtain ⟨rfl, rfl⟩ := hp
  refine And.intro (fun c5 => ?_) (fun c5 => ?_)
  · skip
    have c5 : T.getD ps 0 = 48 := (nI_eq (by have := T_lt hT ps; omega) (by omega)).mp c5
    have hc0 : T.getD ps 0 = 48 ∨ T.getD ps 0 = 49 := Or.inl c5
    refine vx_gon hC hFt hini (vx_ends hC hr hlk) jc_Mo_weight 11 19 (by decide) rfl ?_
    refine And.intro rfl ?_
    refine And.intro rfl ?_
    refine And.intro rfl (And.intro (And.intro rfl rfl) ?_)
    refine And.intro rfl (And.intro (And.intro rfl rfl) ?_)
    have hin := T_in (T := T) (k := ps) (by omega)
    refine wq_ws (ws2 := mdW tc h ar now (upd (upd sc 12 (nI (ps + 1))) 16 (nI (1000 * (T.getD ps 0 - 48)))) ai al) (by rw [← w0_eq (by omega), ← nI_1, ← h12]; rfl) ?_
    refine mo_call hC (c_Mo_take l D tys tc hty h ar now (upd (upd sc 12 (nI (ps + 1))) 16 (nI (1000 * (T.getD ps 0 - 48)))) ai al F T (ps + 1) ((hM.at (p2 := ps + 1) (by omega)).ot (by decide) (by decide)) 46 (by decide)) wm_Mo_take wl_Mo_153 wi_Mo_take ws_Mo_Mo_take ⟨by decide, by decide⟩ rfl rfl (Nat.le_of_ble_eq_true rfl) ⟨Nat.zero_le _, Nat.zero_le _⟩ (fun r' w1 hp => ?_)
    obtain ⟨rfl, rfl⟩ := hp
    rw [upd_12_16]
    refine And.intro (fun c27 => ?_) (fun c27 => ?_)
    · skip
      have c27 : ¬ T.getD (ps + 1) 0 = 46 := of_decide_eq_false (bI_eq c27)
      rw [show (if T.getD (ps + 1) 0 = 46 then ps + 1 + 1 else ps + 1) = ps + 1 from if_neg c27]
      refine vx_go hC hFt hini (vx_ends hC hr hlk) jc_Mo_weight 67 (by decide) rfl ?_
      refine And.intro (rfl) (And.intro ?_ (And.intro (Nat.le_refl _) (Nat.le_refl _)))
      rw [wgt, if_pos hc0, if_neg c27]
      exact And.intro rfl rfl
    · skip
      have c27 : T.getD (ps + 1) 0 = 46 := of_decide_eq_true (bI_ne c27)
      rw [show (if T.getD (ps + 1) 0 = 46 then ps + 1 + 1 else ps + 1) = ps + 2 from if_pos c27]
      have hin2 := T_in (T := T) (k := ps + 1) (by omega)
      have hspec : wgt T ps = wlp T (T.getD ps 0) 4 100 (1000 * (T.getD ps 0 - 48)) (ps + 2) := by rw [wgt, if_pos hc0, if_pos c27]
      rw [hspec]
      clear hspec
      generalize hres : wlp T (T.getD ps 0) 4 100 (1000 * (T.getD ps 0 - 48)) (ps + 2) = RES
      refine Vx.subL (lv' := [(0, .ref h), (1, .int (nI (T.getD ps 0))), (2, .int (nI 100))]) [2, 1, 0] rfl ?_
      obtain ⟨nf, hnf⟩ : ∃ nf : Nat, nf = 4 := ⟨_, rfl⟩
      obtain ⟨u, hu⟩ : ∃ u : Nat, u = 100 := ⟨_, rfl⟩
      obtain ⟨v, hv⟩ : ∃ v : Nat, v = (1000 * (T.getD ps 0 - 48)) := ⟨_, rfl⟩
      obtain ⟨pp, hp⟩ : ∃ pp : Nat, pp = ps + 2 := ⟨_, rfl⟩
      have hun : (u = 100 ∧ nf = 4) ∨ (u = 10 ∧ nf = 3) ∨ (u = 1 ∧ nf = 2) ∨ (u = 0 ∧ nf = 1) := by omega
      have hpp : pp ≤ 400 := by omega
      refine Vx.eqs rfl (lv2 := [(0, .ref h), (1, .int (nI (T.getD ps 0))), (2, .int (nI u))]) (by rw [hu]) rfl (w2 := mdW tc h ar now (upd (upd sc 12 (nI pp)) 16 (nI v)) ai al) (by rw [hv, hp]) ?_
      replace hres : wlp T (T.getD ps 0) nf u v pp = RES := by rw [hnf, hu, hv, hp]; exact hres
      have hM0 := hM
      clear hnf hu hv hp
      induction hn : T.length - pp using Nat.strongRecOn generalizing nf u v pp with
      | _ n ih =>
        refine vx_go hC hFt hini (vx_ends hC hr hlk) jc_Mo_weight 30 (by decide) rfl ?_
        refine And.intro (fun c31 => ?_) (fun c31 => ?_)
        · skip
          have c31 : u = 0 := Nat.eq_zero_of_not_pos (fun z => absurd c31 (nI_nle z (by omega)))
          refine vx_go hC hFt hini (vx_ends hC hr hlk) jc_Mo_weight 67 (by decide) rfl ?_
          refine And.intro (rfl) (And.intro ?_ (And.intro (Nat.le_refl _) (Nat.le_refl _)))
          rw [← hres, wlp_no (by omega)]
          exact And.intro rfl rfl
        · skip
          have c31 : 0 < u := Nat.pos_of_ne_zero (fun z => c31 (by rw [z]; exact nI_le (Nat.le_refl 0) (by decide)))
          refine mo_call hC (c_Mo_next l D tys tc hty h ar now (upd (upd sc 12 (nI pp)) 16 (nI v)) ai al F T pp ((hM0.at hpp).ot (by decide) (by decide))) wm_Mo_next wl_Mo_115 wi_Mo_next ws_Mo_Mo_next ⟨by decide, by decide⟩ rfl rfl (Nat.le_of_ble_eq_true rfl) ⟨Nat.zero_le _, Nat.zero_le _⟩ (fun r' w1 hp => ?_)
          obtain ⟨rfl, rfl⟩ := hp
          refine mo_calls hC (c_Mo_isDigit l D tys tc hty (T.getD pp 0) (T_lt hT pp)) wm_Mo_isDigit wl_Mo_119 wt_Mo_isDigit ⟨by decide, by decide⟩ rfl rfl (Nat.le_of_ble_eq_true rfl) ⟨Nat.zero_le _, Nat.zero_le _⟩ (fun r' hp => ?_)
          subst hp
          refine And.intro (fun c35 => ?_) (fun c35 => ?_)
          · skip
            have c35 : isDg (T.getD pp 0) = false := bI_eq c35
            refine vx_go hC hFt hini (vx_ends hC hr hlk) jc_Mo_weight 67 (by decide) rfl ?_
            refine And.intro (rfl) (And.intro ?_ (And.intro (Nat.le_refl _) (Nat.le_refl _)))
            rw [← hres, wlp_no (fun z => by rw [c35] at z; cases z.2)]
            exact And.intro rfl rfl
          · skip
            have c35 : isDg (T.getD pp 0) = true := bI_ne c35
            have hdg := dg_in c35
            have hin3 := T_in (T := T) (k := pp) (by omega)
            refine mo_call hC (c_Mo_next l D tys tc hty h ar now (upd (upd sc 12 (nI pp)) 16 (nI v)) ai al F T pp ((hM0.at hpp).ot (by decide) (by decide))) wm_Mo_next wl_Mo_115 wi_Mo_next ws_Mo_Mo_next ⟨by decide, by decide⟩ rfl rfl (Nat.le_of_ble_eq_true rfl) ⟨Nat.zero_le _, Nat.zero_le _⟩ (fun r' w1 hp => ?_)
            obtain ⟨rfl, rfl⟩ := hp
            refine And.intro (fun c43 => ?_) (fun c43 => ?_)
            · skip
              have c43 : ¬ (T.getD ps 0 = 49) := fun z => c43 (by rw [z]; rfl)
              have hnn : ¬ (T.getD ps 0 = 49 ∧ 48 < T.getD pp 0) := fun z => c43 z.1
              refine vx_go hC hFt hini (vx_ends hC hr hlk) jc_Mo_weight 48 (by decide) rfl ?_
              refine And.intro rfl ?_
              refine And.intro rfl ?_
              refine And.intro rfl (And.intro (And.intro rfl rfl) ?_)
              refine And.intro (by decide) ?_
              refine And.intro rfl ?_
              refine And.intro rfl ?_
              refine And.intro rfl (And.intro (And.intro rfl rfl) ?_)
              refine Vx.subL (lv' := [(0, .ref h), (1, .int (nI (T.getD ps 0))), (2, .int (nI u / (10 : Int32)))]) [2, 3, 0] rfl ?_
              refine Vx.eqs rfl rfl rfl (show _ = mdW tc h ar now (upd (upd sc 12 (nI pp + 1)) 16 (nI v + nI u * (nI (T.getD pp 0) - (48 : Int32)))) ai al from rfl) ?_
              rw [wt_add (by omega), div10 (by omega), nI_1]
              obtain ⟨n2, rfl⟩ : ∃ n2, nf = n2 + 1 := ⟨nf - 1, by omega⟩
              exact ih (T.length - (pp + 1)) (by omega) n2 (u / 10) (v + u * (T.getD pp 0 - 48)) (pp + 1) (by omega) (by omega) (by rw [← hres, wlp, if_pos ⟨c31, c35⟩, if_neg hnn]) rfl
            · skip
              have c43 : T.getD ps 0 = 49 := (nI_eq (by have := T_lt hT ps; omega) (by omega)).mp c43
              refine And.intro (fun c45 => ?_) (fun c45 => ?_)
              · skip
                have c45 : T.getD pp 0 = 48 := by
                  have c45 : nI (T.getD pp 0) - nI 48 ≤ nI 0 := c45
                  rw [pk_sub (by omega), nI_leI (by have := T_lt hT pp; omega) (by omega)] at c45
                  omega
                have hnn : ¬ (T.getD ps 0 = 49 ∧ 48 < T.getD pp 0) := by omega
                refine vx_go hC hFt hini (vx_ends hC hr hlk) jc_Mo_weight 48 (by decide) rfl ?_
                refine And.intro rfl ?_
                refine And.intro rfl ?_
                refine And.intro rfl (And.intro (And.intro rfl rfl) ?_)
                refine And.intro (by decide) ?_
                refine And.intro rfl ?_
                refine And.intro rfl ?_
                refine And.intro rfl (And.intro (And.intro rfl rfl) ?_)
                refine Vx.subL (lv' := [(0, .ref h), (1, .int (nI (T.getD ps 0))), (2, .int (nI u / (10 : Int32)))]) [2, 3, 0] rfl ?_
                refine Vx.eqs rfl rfl rfl (show _ = mdW tc h ar now (upd (upd sc 12 (nI pp + 1)) 16 (nI v + nI u * (nI (T.getD pp 0) - (48 : Int32)))) ai al from rfl) ?_
                rw [wt_add (by omega), div10 (by omega), nI_1]
                obtain ⟨n2, rfl⟩ : ∃ n2, nf = n2 + 1 := ⟨nf - 1, by omega⟩
                exact ih (T.length - (pp + 1)) (by omega) n2 (u / 10) (v + u * (T.getD pp 0 - 48)) (pp + 1) (by omega) (by omega) (by rw [← hres, wlp, if_pos ⟨c31, c35⟩, if_neg hnn]) rfl
              · skip
                have c45 : 48 < T.getD pp 0 := by
                  rcases Nat.lt_or_ge 48 (T.getD pp 0) with z | z
                  · exact z
                  · refine absurd (show nI (T.getD pp 0) - nI 48 ≤ nI 0 from ?_) c45
                    rw [pk_sub (by omega), nI_leI (by have := T_lt hT pp; omega) (by omega)]
                    omega
                refine And.intro (rfl) (And.intro ?_ (And.intro (Nat.le_refl _) (Nat.le_refl _)))
                obtain ⟨n2, rfl⟩ : ∃ n2, nf = n2 + 1 := ⟨nf - 1, by omega⟩
                rw [← hres, wlp, if_pos ⟨c31, c35⟩, if_pos (by omega)]
                exact And.intro rfl ⟨nI pp, nI v, rfl⟩
  · skip
    have c5 : ¬ (T.getD ps 0 = 48) := fun z => c5 (by rw [z]; rfl)
    refine And.intro (fun c8 => ?_) (fun c8 => ?_)
    · skip
      have c8 : T.getD ps 0 = 49 := (nI_eq (by have := T_lt hT ps; omega) (by omega)).mp c8
      have hc0 : T.getD ps 0 = 48 ∨ T.getD ps 0 = 49 := Or.inr c8
      refine vx_gon hC hFt hini (vx_ends hC hr hlk) jc_Mo_weight 11 19 (by decide) rfl ?_
      refine And.intro rfl ?_
      refine And.intro rfl ?_
      refine And.intro rfl (And.intro (And.intro rfl rfl) ?_)
      refine And.intro rfl (And.intro (And.intro rfl rfl) ?_)
      have hin := T_in (T := T) (k := ps) (by omega)
      refine wq_ws (ws2 := mdW tc h ar now (upd (upd sc 12 (nI (ps + 1))) 16 (nI (1000 * (T.getD ps 0 - 48)))) ai al) (by rw [← w0_eq (by omega), ← nI_1, ← h12]; rfl) ?_
      refine mo_call hC (c_Mo_take l D tys tc hty h ar now (upd (upd sc 12 (nI (ps + 1))) 16 (nI (1000 * (T.getD ps 0 - 48)))) ai al F T (ps + 1) ((hM.at (p2 := ps + 1) (by omega)).ot (by decide) (by decide)) 46 (by decide)) wm_Mo_take wl_Mo_153 wi_Mo_take ws_Mo_Mo_take ⟨by decide, by decide⟩ rfl rfl (Nat.le_of_ble_eq_true rfl) ⟨Nat.zero_le _, Nat.zero_le _⟩ (fun r' w1 hp => ?_)
      obtain ⟨rfl, rfl⟩ := hp
      rw [upd_12_16]
      refine And.intro (fun c27 => ?_) (fun c27 => ?_)
      · skip
        have c27 : ¬ T.getD (ps + 1) 0 = 46 := of_decide_eq_false (bI_eq c27)
        rw [show (if T.getD (ps + 1) 0 = 46 then ps + 1 + 1 else ps + 1) = ps + 1 from if_neg c27]
        refine vx_go hC hFt hini (vx_ends hC hr hlk) jc_Mo_weight 67 (by decide) rfl ?_
        refine And.intro (rfl) (And.intro ?_ (And.intro (Nat.le_refl _) (Nat.le_refl _)))
        rw [wgt, if_pos hc0, if_neg c27]
        exact And.intro rfl rfl
      · skip
        have c27 : T.getD (ps + 1) 0 = 46 := of_decide_eq_true (bI_ne c27)
        rw [show (if T.getD (ps + 1) 0 = 46 then ps + 1 + 1 else ps + 1) = ps + 2 from if_pos c27]
        have hin2 := T_in (T := T) (k := ps + 1) (by omega)
        have hspec : wgt T ps = wlp T (T.getD ps 0) 4 100 (1000 * (T.getD ps 0 - 48)) (ps + 2) := by rw [wgt, if_pos hc0, if_pos c27]
        rw [hspec]
        clear hspec
        generalize hres : wlp T (T.getD ps 0) 4 100 (1000 * (T.getD ps 0 - 48)) (ps + 2) = RES
        refine Vx.subL (lv' := [(0, .ref h), (1, .int (nI (T.getD ps 0))), (2, .int (nI 100))]) [2, 1, 0] rfl ?_
        obtain ⟨nf, hnf⟩ : ∃ nf : Nat, nf = 4 := ⟨_, rfl⟩
        obtain ⟨u, hu⟩ : ∃ u : Nat, u = 100 := ⟨_, rfl⟩
        obtain ⟨v, hv⟩ : ∃ v : Nat, v = (1000 * (T.getD ps 0 - 48)) := ⟨_, rfl⟩
        obtain ⟨pp, hp⟩ : ∃ pp : Nat, pp = ps + 2 := ⟨_, rfl⟩
        have hun : (u = 100 ∧ nf = 4) ∨ (u = 10 ∧ nf = 3) ∨ (u = 1 ∧ nf = 2) ∨ (u = 0 ∧ nf = 1) := by omega
        have hpp : pp ≤ 400 := by omega
        refine Vx.eqs rfl (lv2 := [(0, .ref h), (1, .int (nI (T.getD ps 0))), (2, .int (nI u))]) (by rw [hu]) rfl (w2 := mdW tc h ar now (upd (upd sc 12 (nI pp)) 16 (nI v)) ai al) (by rw [hv, hp]) ?_
        replace hres : wlp T (T.getD ps 0) nf u v pp = RES := by rw [hnf, hu, hv, hp]; exact hres
        have hM0 := hM
        clear hnf hu hv hp
        induction hn : T.length - pp using Nat.strongRecOn generalizing nf u v pp with
        | _ n ih =>
          refine vx_go hC hFt hini (vx_ends hC hr hlk) jc_Mo_weight 30 (by decide) rfl ?_
          refine And.intro (fun c31 => ?_) (fun c31 => ?_)
          · skip
            have c31 : u = 0 := Nat.eq_zero_of_not_pos (fun z => absurd c31 (nI_nle z (by omega)))
            refine vx_go hC hFt hini (vx_ends hC hr hlk) jc_Mo_weight 67 (by decide) rfl ?_
            refine And.intro (rfl) (And.intro ?_ (And.intro (Nat.le_refl _) (Nat.le_refl _)))
            rw [← hres, wlp_no (by omega)]
            exact And.intro rfl rfl
          · skip
            have c31 : 0 < u := Nat.pos_of_ne_zero (fun z => c31 (by rw [z]; exact nI_le (Nat.le_refl 0) (by decide)))
            refine mo_call hC (c_Mo_next l D tys tc hty h ar now (upd (upd sc 12 (nI pp)) 16 (nI v)) ai al F T pp ((hM0.at hpp).ot (by decide) (by decide))) wm_Mo_next wl_Mo_115 wi_Mo_next ws_Mo_Mo_next ⟨by decide, by decide⟩ rfl rfl (Nat.le_of_ble_eq_true rfl) ⟨Nat.zero_le _, Nat.zero_le _⟩ (fun r' w1 hp => ?_)
            obtain ⟨rfl, rfl⟩ := hp
            refine mo_calls hC (c_Mo_isDigit l D tys tc hty (T.getD pp 0) (T_lt hT pp)) wm_Mo_isDigit wl_Mo_119 wt_Mo_isDigit ⟨by decide, by decide⟩ rfl rfl (Nat.le_of_ble_eq_true rfl) ⟨Nat.zero_le _, Nat.zero_le _⟩ (fun r' hp => ?_)
            subst hp
            refine And.intro (fun c35 => ?_) (fun c35 => ?_)
            · skip
              have c35 : isDg (T.getD pp 0) = false := bI_eq c35
              refine vx_go hC hFt hini (vx_ends hC hr hlk) jc_Mo_weight 67 (by decide) rfl ?_
              refine And.intro (rfl) (And.intro ?_ (And.intro (Nat.le_refl _) (Nat.le_refl _)))
              rw [← hres, wlp_no (fun z => by rw [c35] at z; cases z.2)]
              exact And.intro rfl rfl
            · skip
              have c35 : isDg (T.getD pp 0) = true := bI_ne c35
              have hdg := dg_in c35
              have hin3 := T_in (T := T) (k := pp) (by omega)
              refine mo_call hC (c_Mo_next l D tys tc hty h ar now (upd (upd sc 12 (nI pp)) 16 (nI v)) ai al F T pp ((hM0.at hpp).ot (by decide) (by decide))) wm_Mo_next wl_Mo_115 wi_Mo_next ws_Mo_Mo_next ⟨by decide, by decide⟩ rfl rfl (Nat.le_of_ble_eq_true rfl) ⟨Nat.zero_le _, Nat.zero_le _⟩ (fun r' w1 hp => ?_)
              obtain ⟨rfl, rfl⟩ := hp
              refine And.intro (fun c43 => ?_) (fun c43 => ?_)
              · skip
                have c43 : ¬ (T.getD ps 0 = 49) := fun z => c43 (by rw [z]; rfl)
                have hnn : ¬ (T.getD ps 0 = 49 ∧ 48 < T.getD pp 0) := fun z => c43 z.1
                refine vx_go hC hFt hini (vx_ends hC hr hlk) jc_Mo_weight 48 (by decide) rfl ?_
                refine And.intro rfl ?_
                refine And.intro rfl ?_
                refine And.intro rfl (And.intro (And.intro rfl rfl) ?_)
                refine And.intro (by decide) ?_
                refine And.intro rfl ?_
                refine And.intro rfl ?_
                refine And.intro rfl (And.intro (And.intro rfl rfl) ?_)
                refine Vx.subL (lv' := [(0, .ref h), (1, .int (nI (T.getD ps 0))), (2, .int (nI u / (10 : Int32)))]) [2, 3, 0] rfl ?_
                refine Vx.eqs rfl rfl rfl (show _ = mdW tc h ar now (upd (upd sc 12 (nI pp + 1)) 16 (nI v + nI u * (nI (T.getD pp 0) - (48 : Int32)))) ai al from rfl) ?_
                rw [wt_add (by omega), div10 (by omega), nI_1]
                obtain ⟨n2, rfl⟩ : ∃ n2, nf = n2 + 1 := ⟨nf - 1, by omega⟩
                exact ih (T.length - (pp + 1)) (by omega) n2 (u / 10) (v + u * (T.getD pp 0 - 48)) (pp + 1) (by omega) (by omega) (by rw [← hres, wlp, if_pos ⟨c31, c35⟩, if_neg hnn]) rfl
              · skip
                have c43 : T.getD ps 0 = 49 := (nI_eq (by have := T_lt hT ps; omega) (by omega)).mp c43
                refine And.intro (fun c45 => ?_) (fun c45 => ?_)
                · skip
                  have c45 : T.getD pp 0 = 48 := by
                    have c45 : nI (T.getD pp 0) - nI 48 ≤ nI 0 := c45
                    rw [pk_sub (by omega), nI_leI (by have := T_lt hT pp; omega) (by omega)] at c45
                    omega
                  have hnn : ¬ (T.getD ps 0 = 49 ∧ 48 < T.getD pp 0) := by omega
                  refine vx_go hC hFt hini (vx_ends hC hr hlk) jc_Mo_weight 48 (by decide) rfl ?_
                  refine And.intro rfl ?_
                  refine And.intro rfl ?_
                  refine And.intro rfl (And.intro (And.intro rfl rfl) ?_)
                  refine And.intro (by decide) ?_
                  refine And.intro rfl ?_
                  refine And.intro rfl ?_
                  refine And.intro rfl (And.intro (And.intro rfl rfl) ?_)
                  refine Vx.subL (lv' := [(0, .ref h), (1, .int (nI (T.getD ps 0))), (2, .int (nI u / (10 : Int32)))]) [2, 3, 0] rfl ?_
                  refine Vx.eqs rfl rfl rfl (show _ = mdW tc h ar now (upd (upd sc 12 (nI pp + 1)) 16 (nI v + nI u * (nI (T.getD pp 0) - (48 : Int32)))) ai al from rfl) ?_
                  rw [wt_add (by omega), div10 (by omega), nI_1]
                  obtain ⟨n2, rfl⟩ : ∃ n2, nf = n2 + 1 := ⟨nf - 1, by omega⟩
                  exact ih (T.length - (pp + 1)) (by omega) n2 (u / 10) (v + u * (T.getD pp 0 - 48)) (pp + 1) (by omega) (by omega) (by rw [← hres, wlp, if_pos ⟨c31, c35⟩, if_neg hnn]) rfl
                · skip
                  have c45 : 48 < T.getD pp 0 := by
                    rcases Nat.lt_or_ge 48 (T.getD pp 0) with z | z
                    · exact z
                    · refine absurd (show nI (T.getD pp 0) - nI 48 ≤ nI 0 from ?_) c45
                      rw [pk_sub (by omega), nI_leI (by have := T_lt hT pp; omega) (by omega)]
                      omega
                  refine And.intro (rfl) (And.intro ?_ (And.intro (Nat.le_refl _) (Nat.le_refl _)))
                  obtain ⟨n2, rfl⟩ : ∃ n2, nf = n2 + 1 := ⟨nf - 1, by omega⟩
                  rw [← hres, wlp, if_pos ⟨c31, c35⟩, if_pos (by omega)]
                  exact And.intro rfl ⟨nI pp, nI v, rfl⟩
    · skip
      have c8 : ¬ (T.getD ps 0 = 49) := fun z => c8 (by rw [z]; rfl)
      refine And.intro (rfl) (And.intro ?_ (And.intro (Nat.le_refl _) (Nat.le_refl _)))
      rw [wgt, if_neg (by omega)]
      exact And.intro rfl ⟨sc 12, sc 16, by rw [upd_same (f := sc) rfl, upd_same (f := sc) rfl]⟩
/-- a weight, if a semicolon comes: its thousandths and the place behind it -/
def wia (T : List Nat) (ps : Nat) : Option (Nat × Nat) := if T.getD (pz T ps isGp) 0 = 59 then (if lwr (T.getD (pz T (pz T ps isGp + 1) isGp) 0) = 113 then (if T.getD (pz T (pz T ps isGp + 1) isGp + 1) 0 = 61 then wgt T (pz T (pz T ps isGp + 1) isGp + 2) else none) else none) else some (1000, ps)
theorem upd_16_12 {f : Nat → Int32} {a v : Int32} : upd (upd f 16 v) 12 a = upd (upd f 12 a) 16 v := by
  funext j
  by_cases e : j = 12
  · subst e; rw [pk_us, pk_un (by decide), pk_us]
  · rw [pk_un e]
    by_cases e2 : j = 16
    · subst e2; rw [pk_us, pk_us]
    · rw [pk_un e2, pk_un e2, pk_un e]
theorem upd_16_16 {f : Nat → Int32} {a v w : Int32} : upd (upd (upd f 12 a) 16 v) 16 w = upd (upd f 12 a) 16 w := upd_upd
set_option maxRecDepth 100000 in
set_option maxHeartbeats 4000000 in
theorem c_Mo_weightIfAny (l : Launch) (D : va_G) (tys : List (ClassId × FieldType)) (tc : Nat → ClassId) (hty : ∀ i : Nat, i < 4 → tys[i]? = some (tc i, vx_ty i)) (h : Nat) (ar : Nat → Nat) (now : Int64) (sc : Nat → Int32) (ai : Nat → Nat → Int32) (al : Nat → Nat → Int64) (F : Nat) (T : List Nat) (ps : Nat) (hM : mdS sc ai F T ps) : Kt l y_Mo_weightIfAny (yw y_Mo_weightIfAny b_Mo_weightIfAny 1 (some .boolean)) 4 86 0 0 D cls tys (fun _ _ _ => True) [.ref h] (mdW tc h ar now sc ai al) (fun r w => wgP tc h ar now sc ai al (wia T ps) r w) := by
  refine Kt.of ro_true (by decide) rfl hty (Nat.le_of_ble_eq_true rfl) ?_
  intro p e s m args below meth c0 A hC hr hlk hnm hF
  have hFt : vx_Ft y_Mo_weightIfAny.cls (yw y_Mo_weightIfAny b_Mo_weightIfAny 1 (some .boolean)) cls cty ft_Mo := ft_of (fun w h => List.mem_cons_of_mem _ h) fl_Mo_in ft_Mo_b
  have hini : false = true → meth.name = "<init>" := fun h => by cases h
  obtain ⟨hF8, h11, hlenT, htx, hT, h12, hps⟩ := id hM
  have hTl := hT.1
  refine vx_go hC hFt hini (vx_ends hC hr hlk) jc_Mo_weightIfAny 0 (by decide) rfl ?_
  refine And.intro rfl (And.intro (And.intro rfl rfl) ?_)
  refine wq_ws (ws2 := mdW tc h ar now (upd sc 16 (nI 1000)) ai al) rfl ?_
  refine mo_call hC (c_Mo_semicolon l D tys tc hty h ar now (upd sc 16 (nI 1000)) ai al F T ps (hM.ot (by decide) (by decide))) wm_Mo_semicolon wl_Mo_159 wi_Mo_semicolon ws_Mo_Mo_semicolon ⟨by decide, by decide⟩ rfl rfl (Nat.le_of_ble_eq_true rfl) ⟨Nat.zero_le _, Nat.zero_le _⟩ (fun r' w1 hp => ?_)
  obtain ⟨rfl, rfl⟩ := hp
  refine And.intro (fun c5 => ?_) (fun c5 => ?_)
  · skip
    have c5 : T.getD (pz T ps isGp) 0 = 59 := of_decide_eq_true (bI_ne c5)
    rw [show (if T.getD (pz T ps isGp) 0 = 59 then (pz T (pz T ps isGp + 1) isGp) else ps) = (pz T (pz T ps isGp + 1) isGp) from if_pos c5]
    have hin := T_in (T := T) (k := pz T ps isGp) (by omega)
    have hq1 : (pz T (pz T ps isGp + 1) isGp) ≤ 398 := by
      have := pz_le (T := T) (ps := pz T ps isGp + 1) (M := 97) (q := isGp) (by omega) (by omega)
      omega
    refine vx_go hC hFt hini (vx_ends hC hr hlk) jc_Mo_weightIfAny 8 (by decide) rfl ?_
    refine mo_call hC (c_Mo_next l D tys tc hty h ar now (upd (upd sc 16 (nI 1000)) 12 (nI (pz T (pz T ps isGp + 1) isGp))) ai al F T (pz T (pz T ps isGp + 1) isGp) ((hM.ot (k := 16) (v := nI 1000) (by decide) (by decide)).at (by omega))) wm_Mo_next wl_Mo_115 wi_Mo_next ws_Mo_Mo_next ⟨by decide, by decide⟩ rfl rfl (Nat.le_of_ble_eq_true rfl) ⟨Nat.zero_le _, Nat.zero_le _⟩ (fun r' w1 hp => ?_)
    obtain ⟨rfl, rfl⟩ := hp
    refine mo_calls hC (c_Mo_lower l D tys tc hty (T.getD (pz T (pz T ps isGp + 1) isGp) 0) (T_lt hT _)) wm_Mo_lower wl_Mo_139 wt_Mo_lower ⟨by decide, by decide⟩ rfl rfl (Nat.le_of_ble_eq_true rfl) ⟨Nat.zero_le _, Nat.zero_le _⟩ (fun r' hp => ?_)
    subst hp
    refine And.intro (fun c12 => ?_) (fun c12 => ?_)
    · skip
      have c12 : lwr (T.getD (pz T (pz T ps isGp + 1) isGp) 0) = 113 := (nI_eq (by have := lwr_lt (T_lt hT (pz T (pz T ps isGp + 1) isGp)); omega) (by omega)).mp c12
      refine vx_go hC hFt hini (vx_ends hC hr hlk) jc_Mo_weightIfAny 15 (by decide) rfl ?_
      refine And.intro rfl ?_
      refine And.intro rfl ?_
      refine And.intro rfl (And.intro (And.intro rfl rfl) ?_)
      refine wq_ws (ws2 := mdW tc h ar now (upd (upd sc 12 (nI ((pz T (pz T ps isGp + 1) isGp) + 1))) 16 (nI 1000)) ai al) (by rw [← upd_16_12, ← nI_1 (pz T (pz T ps isGp + 1) isGp)]; rfl) ?_
      refine mo_call hC (c_Mo_take l D tys tc hty h ar now (upd (upd sc 12 (nI ((pz T (pz T ps isGp + 1) isGp) + 1))) 16 (nI 1000)) ai al F T ((pz T (pz T ps isGp + 1) isGp) + 1) ((hM.at (p2 := (pz T (pz T ps isGp + 1) isGp) + 1) (by omega)).ot (by decide) (by decide)) 61 (by decide)) wm_Mo_take wl_Mo_153 wi_Mo_take ws_Mo_Mo_take ⟨by decide, by decide⟩ rfl rfl (Nat.le_of_ble_eq_true rfl) ⟨Nat.zero_le _, Nat.zero_le _⟩ (fun r' w1 hp => ?_)
      obtain ⟨rfl, rfl⟩ := hp
      rw [upd_12_16]
      refine And.intro (fun c24 => ?_) (fun c24 => ?_)
      · skip
        have c24 : ¬ T.getD ((pz T (pz T ps isGp + 1) isGp) + 1) 0 = 61 := of_decide_eq_false (bI_eq c24)
        refine vx_go hC hFt hini (vx_ends hC hr hlk) jc_Mo_weightIfAny 30 (by decide) rfl ?_
        refine And.intro (rfl) (And.intro ?_ (And.intro (Nat.le_refl _) (Nat.le_refl _)))
        rw [wia, if_pos c5, if_pos c12, if_neg c24]
        exact And.intro rfl ⟨_, _, rfl⟩
      · skip
        have c24 : T.getD ((pz T (pz T ps isGp + 1) isGp) + 1) 0 = 61 := of_decide_eq_true (bI_ne c24)
        rw [show (if T.getD ((pz T (pz T ps isGp + 1) isGp) + 1) 0 = 61 then (pz T (pz T ps isGp + 1) isGp) + 1 + 1 else (pz T (pz T ps isGp + 1) isGp) + 1) = (pz T (pz T ps isGp + 1) isGp) + 2 from if_pos c24]
        have hwi : wia T ps = wgt T ((pz T (pz T ps isGp + 1) isGp) + 2) := by rw [wia, if_pos c5, if_pos c12, if_pos c24]
        refine mo_call hC (c_Mo_weight l D tys tc hty h ar now (upd (upd sc 12 (nI ((pz T (pz T ps isGp + 1) isGp) + 2))) 16 (nI 1000)) ai al F T ((pz T (pz T ps isGp + 1) isGp) + 2) ((hM.at (p2 := (pz T (pz T ps isGp + 1) isGp) + 2) (by omega)).ot (by decide) (by decide))) wm_Mo_weight wl_Mo_163 wi_Mo_weight ws_Mo_Mo_weight ⟨by decide, by decide⟩ rfl rfl (Nat.le_of_ble_eq_true rfl) ⟨Nat.zero_le _, Nat.zero_le _⟩ (fun r' w1 hp => ?_)
        unfold wgP at hp
        cases hwg : wgt T ((pz T (pz T ps isGp + 1) isGp) + 2) with
        | none =>
          rw [hwg] at hp
          obtain ⟨rfl, a9, b9, rfl⟩ := hp
          refine And.intro (fun c27 => ?_) (fun c27 => ?_)
          · skip
            refine vx_go hC hFt hini (vx_ends hC hr hlk) jc_Mo_weightIfAny 30 (by decide) rfl ?_
            refine And.intro (rfl) (And.intro ?_ (And.intro (Nat.le_refl _) (Nat.le_refl _)))
            rw [hwi, hwg]
            exact And.intro rfl ⟨a9, b9, by rw [upd_12_16, upd_16_16]⟩
          · skip
            exact absurd rfl c27
        | some q9 =>
          rw [hwg] at hp
          obtain ⟨rfl, rfl⟩ := hp
          refine And.intro (fun c27 => ?_) (fun c27 => ?_)
          · skip
            exact absurd c27 (by decide)
          · skip
            refine vx_go hC hFt hini (vx_ends hC hr hlk) jc_Mo_weightIfAny 31 (by decide) rfl ?_
            refine And.intro (rfl) (And.intro ?_ (And.intro (Nat.le_refl _) (Nat.le_refl _)))
            rw [hwi, hwg]
            refine And.intro rfl ?_
            rw [upd_12_16, upd_16_16]
    · skip
      have c12 : ¬ (lwr (T.getD (pz T (pz T ps isGp + 1) isGp) 0) = 113) := fun z => c12 (by rw [z]; rfl)
      refine And.intro (rfl) (And.intro ?_ (And.intro (Nat.le_refl _) (Nat.le_refl _)))
      rw [wia, if_pos c5, if_neg c12]
      exact And.intro rfl ⟨nI (pz T (pz T ps isGp + 1) isGp), nI 1000, by rw [upd_16_12]⟩
  · skip
    have c5 : ¬ T.getD (pz T ps isGp) 0 = 59 := of_decide_eq_false (bI_eq c5)
    rw [show (if T.getD (pz T ps isGp) 0 = 59 then (pz T (pz T ps isGp + 1) isGp) else ps) = ps from if_neg c5]
    refine And.intro (rfl) (And.intro ?_ (And.intro (Nat.le_refl _) (Nat.le_refl _)))
    rw [wia, if_neg c5, upd_16_12]
    exact And.intro rfl rfl
end
section
/-! THE REFERENCE: stars, numbers, words, by program (wip/whole/gen/p34.py) -/
/-- a star among n characters from a on -/
def stq (T : List Nat) : Nat → Nat → Bool
  | 0, _ => false
  | n + 1, a => decide (T.getD a 0 = 42) || stq T n (a + 1)
/-- the bytes of a long, up to the first 0 -/
def isWd (w : Int64) (W : List Nat) : Prop := W.length ≤ 8 ∧ (∀ k, k < W.length → (w >>> (((8 : Int32) * nI k).toInt64 &&& 63)) &&& 255 = lN (W.getD k 0) ∧ 0 < W.getD k 0 ∧ W.getD k 0 < 256) ∧ (W.length < 8 → (w >>> (((8 : Int32) * nI W.length).toInt64 &&& 63)) &&& 255 = 0)
theorem lg0 {x : Int64} : lg_cmp x 0 = 0 ↔ x = 0 := by
  unfold lg_cmp
  by_cases h : x > 0
  · rw [if_pos h]
    refine ⟨fun z => absurd z (by decide), fun z => ?_⟩
    rw [z] at h
    exact absurd h (by decide)
  · rw [if_neg h]
    by_cases h2 : x = 0
    · rw [if_pos h2]; exact ⟨fun _ => h2, fun _ => rfl⟩
    · rw [if_neg h2]; exact ⟨fun z => absurd z (by decide), fun z => absurd z h2⟩
theorem lN_ne0 {x : Nat} (h0 : 0 < x) (h : x < 256) : ¬ lN x = 0 := fun z => by
  have := (lN_eq (a := x) (b := 0) (by omega) (by omega)).mp z
  omega
/-- W stands, letters alike, from p on -/
def syq (T : List Nat) : Nat → List Nat → Bool
  | _, [] => true
  | p, c :: W => decide (lwr (T.getD p 0) = c) && syq T (p + 1) W
set_option maxRecDepth 100000 in
set_option maxHeartbeats 4000000 in
theorem c_Mo_starred (l : Launch) (D : va_G) (tys : List (ClassId × FieldType)) (tc : Nat → ClassId) (hty : ∀ i : Nat, i < 4 → tys[i]? = some (tc i, vx_ty i)) (h : Nat) (ar : Nat → Nat) (now : Int64) (sc : Nat → Int32) (ai : Nat → Nat → Int32) (al : Nat → Nat → Int64) (F : Nat) (T : List Nat) (ps : Nat) (hM : mdS sc ai F T ps) (a e : Nat) (hae : a ≤ e) (he : e ≤ 500) : Kt l y_Mo_starred (yw y_Mo_starred b_Mo_starred 5 (some .boolean)) 1 21 0 0 D cls tys (fun _ _ _ => True) [.ref h, .int (nI a), .int (nI e)] (mdW tc h ar now sc ai al) (fun r w => r = some (.int (bI (stq T (e - a) a))) ∧ w = (mdW tc h ar now sc ai al)) := by
  refine Kt.of ro_true (by decide) rfl hty (Nat.le_of_ble_eq_true rfl) ?_
  intro p env s m args below meth c0 A hC hr hlk hnm hF
  have hFt : vx_Ft y_Mo_starred.cls (yw y_Mo_starred b_Mo_starred 5 (some .boolean)) cls cty ft_Mo := ft_of (fun w h => List.mem_cons_of_mem _ h) fl_Mo_in ft_Mo_b
  have hini : false = true → meth.name = "<init>" := fun h => by cases h
  obtain ⟨hF8, h11, hlenT, htx, hT, h12, hps⟩ := id hM
  have hTl := hT.1
  refine vx_gon hC hFt hini (vx_ends hC hr hlk) jc_Mo_starred 0 4 (by decide) rfl ?_
  generalize hres : stq T (e - a) a = RES
  refine Vx.subL (lv' := [(0, .ref h), (1, .int (nI a)), (2, .int (nI e)), (3, .int (bI false)), (4, .int (nI a))]) [2, 3, 4, 1, 0] rfl ?_
  obtain ⟨b, hb⟩ : ∃ b : Bool, b = false := ⟨_, rfl⟩
  obtain ⟨k, hk⟩ : ∃ k : Nat, k = a := ⟨_, rfl⟩
  obtain ⟨n, hn⟩ : ∃ n : Nat, n = e - a := ⟨_, rfl⟩
  have hkn : k + n = e := by omega
  refine Vx.eqs rfl (lv2 := [(0, .ref h), (1, .int (nI a)), (2, .int (nI e)), (3, .int (bI b)), (4, .int (nI k))]) (by rw [hb, hk]) rfl rfl ?_
  replace hres : (b || stq T n k) = RES := by rw [hb, hk, hn, Bool.false_or]; exact hres
  clear hb hk hn
  induction n using Nat.strongRecOn generalizing b k with
  | _ n ih =>
    refine vx_go hC hFt hini (vx_ends hC hr hlk) jc_Mo_starred 4 (by decide) rfl ?_
    refine And.intro (fun c6 => ?_) (fun c6 => ?_)
    · skip
      have c6 := (nI_leI (a := e) (b := k) (by omega) (by omega)).mp c6
      obtain rfl : n = 0 := by omega
      refine vx_go hC hFt hini (vx_ends hC hr hlk) jc_Mo_starred 20 (by decide) rfl ?_
      refine And.intro ((bI_narrow _)) (And.intro ?_ (And.intro (Nat.le_refl _) (Nat.le_refl _)))
      rw [← hres]
      exact And.intro (by rw [show stq T 0 k = false from rfl, Bool.or_false]) rfl
    · skip
      have c6 : ¬ (e ≤ k) := fun z => c6 ((nI_leI (a := e) (b := k) (by omega) (by omega)).mpr z)
      obtain ⟨n2, rfl⟩ : ∃ n2, n = n2 + 1 := ⟨n - 1, by omega⟩
      refine And.intro (fun c8 => ?_) (fun c8 => ?_)
      · skip
        obtain rfl : b = true := bI_ne c8
        refine vx_go hC hFt hini (vx_ends hC hr hlk) jc_Mo_starred 14 (by decide) rfl ?_
        refine vx_go hC hFt hini (vx_ends hC hr hlk) jc_Mo_starred 17 (by decide) rfl ?_
        refine Vx.subL (lv' := [(0, .ref h), (1, .int (nI a)), (2, .int (nI e)), (3, .int (bI true)), (4, .int (nI k + 1))]) [2, 3, 4, 1, 0] rfl ?_
        rw [nI_1]
        exact ih n2 (by omega) true (k + 1) (by omega) (by rw [← hres]; rfl)
      · skip
        obtain rfl : b = false := bI_eq c8
        refine mo_call hC (c_Mo_charAt l D tys tc hty h ar now sc ai al F T ps hM k (by omega)) wm_Mo_charAt wl_Mo_111 wi_Mo_charAt ws_Mo_Mo_charAt ⟨by decide, by decide⟩ rfl rfl (Nat.le_of_ble_eq_true rfl) ⟨Nat.zero_le _, Nat.zero_le _⟩ (fun r' w1 hp => ?_)
        obtain ⟨rfl, rfl⟩ := hp
        refine And.intro (fun c13 => ?_) (fun c13 => ?_)
        · skip
          have c13 : ¬ (T.getD k 0 = 42) := fun z => c13 (by rw [z]; rfl)
          refine vx_go hC hFt hini (vx_ends hC hr hlk) jc_Mo_starred 16 (by decide) rfl ?_
          refine Vx.subL (lv' := [(0, .ref h), (1, .int (nI a)), (2, .int (nI e)), (3, .int (bI false)), (4, .int (nI k + 1))]) [2, 3, 4, 1, 0] rfl ?_
          rw [nI_1]
          exact ih n2 (by omega) false (k + 1) (by omega) (by rw [← hres, stq, decide_eq_false c13]; rfl)
        · skip
          have c13 : T.getD k 0 = 42 := (nI_eq (by have := T_lt hT k; omega) (by omega)).mp c13
          refine vx_go hC hFt hini (vx_ends hC hr hlk) jc_Mo_starred 17 (by decide) rfl ?_
          refine Vx.subL (lv' := [(0, .ref h), (1, .int (nI a)), (2, .int (nI e)), (3, .int (bI true)), (4, .int (nI k + 1))]) [2, 3, 4, 1, 0] rfl ?_
          rw [nI_1]
          exact ih n2 (by omega) true (k + 1) (by omega) (by rw [← hres, stq, decide_eq_true c13]; rfl)
set_option maxRecDepth 100000 in
set_option maxHeartbeats 4000000 in
theorem c_Mo_lengthOf (l : Launch) (D : va_G) (tys : List (ClassId × FieldType)) (tc : Nat → ClassId) (hty : ∀ i : Nat, i < 4 → tys[i]? = some (tc i, vx_ty i)) (w : Int64) (W : List Nat) (hW : isWd w W) : Kt l y_Mo_lengthOf (yw y_Mo_lengthOf b_Mo_lengthOf 3 (some .int)) 0 0 0 0 D cls tys (fun _ _ _ => True) [.long w] [] (fun r w => r = some (.int (nI W.length)) ∧ w = []) := by
  refine Kt.of ro_true (by decide) rfl hty (Nat.le_of_ble_eq_true rfl) ?_
  intro p e s m args below meth c0 A hC hr hlk hnm hF
  have hFt : vx_Ft y_Mo_lengthOf.cls (yw y_Mo_lengthOf b_Mo_lengthOf 3 (some .int)) cls cty [] := (fun q h => by cases h)
  have hini : false = true → meth.name = "<init>" := fun h => by cases h
  have hWl := hW.1
  refine vx_gon hC hFt hini (vx_ends hC hr hlk) jc_Mo_lengthOf 0 2 (by decide) rfl ?_
  refine Vx.subL (lv' := [(0, .long w), (2, .int (nI 0))]) [1, 0] rfl ?_
  obtain ⟨i, hi⟩ : ∃ i : Nat, i = 0 := ⟨_, rfl⟩
  refine Vx.eqs rfl (lv2 := [(0, .long w), (2, .int (nI i))]) (by rw [hi]) rfl rfl ?_
  have hile : i ≤ W.length := by omega
  clear hi
  induction hlen : W.length - i using Nat.strongRecOn generalizing i with
  | _ n ih =>
    refine vx_go hC hFt hini (vx_ends hC hr hlk) jc_Mo_lengthOf 2 (by decide) rfl ?_
    refine And.intro (fun c4 => ?_) (fun c4 => ?_)
    · skip
      have c4 := (nI_leI (a := 8) (b := i) (by omega) (by omega)).mp c4
      refine vx_go hC hFt hini (vx_ends hC hr hlk) jc_Mo_lengthOf 17 (by decide) rfl ?_
      refine And.intro (trivial) (And.intro ?_ (And.intro (Nat.le_refl _) (Nat.le_refl _)))
      exact And.intro (by rw [show i = W.length by omega]) rfl
    · skip
      have c4 : ¬ (8 ≤ i) := fun z => c4 ((nI_leI (a := 8) (b := i) (by omega) (by omega)).mpr z)
      refine And.intro (Or.inr (Or.inl ⟨_, rfl, hC.2.2.2.2.1 _ (List.mem_cons_of_mem _ wc_Mo_103)⟩)) ?_
      refine And.intro (fun c14 => ?_) (fun c14 => ?_)
      · skip
        have c14 := lg0.mp c14
        have hil : i = W.length := by
          rcases Nat.lt_or_ge i W.length with z | z
          · have := hW.2.1 i z
            exact absurd (this.1.symm.trans c14) (lN_ne0 this.2.1 this.2.2)
          · omega
        refine vx_go hC hFt hini (vx_ends hC hr hlk) jc_Mo_lengthOf 17 (by decide) rfl ?_
        refine And.intro (trivial) (And.intro ?_ (And.intro (Nat.le_refl _) (Nat.le_refl _)))
        exact And.intro (by rw [show i = W.length by omega]) rfl
      · skip
        have hil : i < W.length := by
          rcases Nat.lt_or_ge i W.length with z | z
          · exact z
          · obtain rfl : i = W.length := by omega
            exact absurd (lg0.mpr (hW.2.2 (by omega))) c14
        refine Vx.subL (lv' := [(0, .long w), (2, .int (nI i + 1))]) [1, 0] rfl ?_
        rw [nI_1]
        exact ih (W.length - (i + 1)) (by omega) (i + 1) (by omega) rfl
set_option maxRecDepth 100000 in
set_option maxHeartbeats 4000000 in
theorem c_Mo_says (l : Launch) (D : va_G) (tys : List (ClassId × FieldType)) (tc : Nat → ClassId) (hty : ∀ i : Nat, i < 4 → tys[i]? = some (tc i, vx_ty i)) (h : Nat) (ar : Nat → Nat) (now : Int64) (sc : Nat → Int32) (ai : Nat → Nat → Int32) (al : Nat → Nat → Int64) (F : Nat) (T : List Nat) (ps : Nat) (hM : mdS sc ai F T ps) (w : Int64) (W : List Nat) (hW : isWd w W) (pl : Nat) (hpl : pl ≤ 500) : Kt l y_Mo_says (yw y_Mo_says b_Mo_says 7 (some .boolean)) 1 22 0 0 D cls tys (fun _ _ _ => True) [.ref h, .int (nI pl), .long w] (mdW tc h ar now sc ai al) (fun r w0 => r = some (.int (bI (syq T pl W))) ∧ w0 = (mdW tc h ar now sc ai al)) := by
  refine Kt.of ro_true (by decide) rfl hty (Nat.le_of_ble_eq_true rfl) ?_
  intro p e s m args below meth c0 A hC hr hlk hnm hF
  have hFt : vx_Ft y_Mo_says.cls (yw y_Mo_says b_Mo_says 7 (some .boolean)) cls cty ft_Mo := ft_of (fun w h => List.mem_cons_of_mem _ h) fl_Mo_in ft_Mo_b
  have hini : false = true → meth.name = "<init>" := fun h => by cases h
  obtain ⟨hF8, h11, hlenT, htx, hT, h12, hps⟩ := id hM
  have hTl := hT.1
  refine vx_gon hC hFt hini (vx_ends hC hr hlk) jc_Mo_says 0 7 (by decide) rfl ?_
  refine mo_calls hC (c_Mo_lengthOf l D tys tc hty w W hW) wm_Mo_lengthOf wl_Mo_135 wt_Mo_lengthOf ⟨by decide, by decide⟩ rfl rfl (Nat.le_of_ble_eq_true rfl) ⟨Nat.zero_le _, Nat.zero_le _⟩ (fun r' hp => ?_)
  subst hp
  have hWl := hW.1
  generalize hres : syq T pl W = RES
  refine Vx.subL (lv' := [(0, .ref h), (1, .int (nI pl)), (2, .long w), (4, .int (nI W.length)), (5, .int (bI true)), (6, .int (nI 0))]) [3, 4, 5, 2, 1, 0] rfl ?_
  obtain ⟨b, hb⟩ : ∃ b : Bool, b = true := ⟨_, rfl⟩
  obtain ⟨k, hk⟩ : ∃ k : Nat, k = 0 := ⟨_, rfl⟩
  refine Vx.eqs rfl (lv2 := [(0, .ref h), (1, .int (nI pl)), (2, .long w), (4, .int (nI W.length)), (5, .int (bI b)), (6, .int (nI k))]) (by rw [hb, hk]) rfl rfl ?_
  replace hres : (b && syq T (pl + k) (W.drop k)) = RES := by rw [hb, hk, Bool.true_and]; exact hres
  have hkl : k ≤ W.length := by omega
  clear hb hk
  induction hn : W.length - k using Nat.strongRecOn generalizing b k with
  | _ n ih =>
    refine vx_go hC hFt hini (vx_ends hC hr hlk) jc_Mo_says 7 (by decide) rfl ?_
    refine And.intro (fun c9 => ?_) (fun c9 => ?_)
    · skip
      have c9 := (nI_leI (a := W.length) (b := k) (by omega) (by omega)).mp c9
      refine vx_go hC hFt hini (vx_ends hC hr hlk) jc_Mo_says 33 (by decide) rfl ?_
      refine And.intro ((bI_narrow _)) (And.intro ?_ (And.intro (Nat.le_refl _) (Nat.le_refl _)))
      rw [← hres, drop_end (by omega), show syq T (pl + k) [] = true from rfl, Bool.and_true]
      exact And.intro rfl rfl
    · skip
      have c9 : ¬ (W.length ≤ k) := fun z => c9 ((nI_leI (a := W.length) (b := k) (by omega) (by omega)).mpr z)
      refine And.intro (fun c11 => ?_) (fun c11 => ?_)
      · skip
        obtain rfl : b = false := bI_eq c11
        refine vx_go hC hFt hini (vx_ends hC hr hlk) jc_Mo_says 29 (by decide) rfl ?_
        refine Vx.subL (lv' := [(0, .ref h), (1, .int (nI pl)), (2, .long w), (4, .int (nI W.length)), (5, .int (bI false)), (6, .int (nI k + 1))]) [2, 3, 4, 5, 1, 0] rfl ?_
        rw [nI_1]
        exact ih (W.length - (k + 1)) (by omega) false (k + 1) (by rw [← hres]; rfl) (by omega) rfl
      · skip
        obtain rfl : b = true := bI_ne c11
        refine mo_call hC (c_Mo_charAt l D tys tc hty h ar now sc ai al F T ps hM (pl + k) (by omega)) wm_Mo_charAt wl_Mo_111 wi_Mo_charAt ws_Mo_Mo_charAt ⟨by decide, by decide⟩ rfl (congrArg (fun z => [Value.int z, Value.ref h]) (nI_add pl k)) (Nat.le_of_ble_eq_true rfl) ⟨Nat.zero_le _, Nat.zero_le _⟩ (fun r' w1 hp => ?_)
        obtain ⟨rfl, rfl⟩ := hp
        refine mo_calls hC (c_Mo_lower l D tys tc hty (T.getD (pl + k) 0) (T_lt hT _)) wm_Mo_lower wl_Mo_139 wt_Mo_lower ⟨by decide, by decide⟩ rfl rfl (Nat.le_of_ble_eq_true rfl) ⟨Nat.zero_le _, Nat.zero_le _⟩ (fun r' hp => ?_)
        subst hp
        refine And.intro (Or.inr (Or.inl ⟨_, rfl, hC.2.2.2.2.1 _ (List.mem_cons_of_mem _ wc_Mo_103)⟩)) ?_
        refine And.intro (fun c26 => ?_) (fun c26 => ?_)
        · skip
          have hwk := hW.2.1 k (by omega)
          have c26 : ¬ (lwr (T.getD (pl + k) 0) = W.getD k 0) := fun z => c26 (by rw [z]; show _ = ((w >>> (((8 : Int32) * nI k).toInt64 &&& 63)) &&& 255).toInt32; rw [hwk.1, lN_i])
          refine vx_go hC hFt hini (vx_ends hC hr hlk) jc_Mo_says 29 (by decide) rfl ?_
          refine Vx.subL (lv' := [(0, .ref h), (1, .int (nI pl)), (2, .long w), (4, .int (nI W.length)), (5, .int (bI false)), (6, .int (nI k + 1))]) [2, 3, 4, 5, 1, 0] rfl ?_
          rw [nI_1]
          exact ih (W.length - (k + 1)) (by omega) false (k + 1) (by rw [← hres, drop_get (W := W) (i := k) (by omega), syq, decide_eq_false c26]; rfl) (by omega) rfl
        · skip
          have hwk := hW.2.1 k (by omega)
          have c26 : lwr (T.getD (pl + k) 0) = W.getD k 0 := by
            have c26 : _ = ((w >>> (((8 : Int32) * nI k).toInt64 &&& 63)) &&& 255).toInt32 := c26
            rw [hwk.1, lN_i] at c26
            exact (nI_eq (by have := lwr_lt (T_lt hT (pl + k)); omega) (by omega)).mp c26
          refine vx_go hC hFt hini (vx_ends hC hr hlk) jc_Mo_says 30 (by decide) rfl ?_
          refine Vx.subL (lv' := [(0, .ref h), (1, .int (nI pl)), (2, .long w), (4, .int (nI W.length)), (5, .int (bI true)), (6, .int (nI k + 1))]) [2, 3, 4, 5, 1, 0] rfl ?_
          rw [nI_1]
          exact ih (W.length - (k + 1)) (by omega) true (k + 1) (by rw [← hres, drop_get (W := W) (i := k) (by omega), syq, decide_eq_true c26]; rfl) (by omega) rfl
set_option maxRecDepth 100000 in
set_option maxHeartbeats 4000000 in
theorem c_Mo_isWord (l : Launch) (D : va_G) (tys : List (ClassId × FieldType)) (tc : Nat → ClassId) (hty : ∀ i : Nat, i < 4 → tys[i]? = some (tc i, vx_ty i)) (h : Nat) (ar : Nat → Nat) (now : Int64) (sc : Nat → Int32) (ai : Nat → Nat → Int32) (al : Nat → Nat → Int64) (F : Nat) (T : List Nat) (ps : Nat) (hM : mdS sc ai F T ps) (w : Int64) (W : List Nat) (hW : isWd w W) (a e : Nat) (hae : a ≤ e) (he : e ≤ 500) : Kt l y_Mo_isWord (yw y_Mo_isWord b_Mo_isWord 5 (some .boolean)) 2 48 0 0 D cls tys (fun _ _ _ => True) [.ref h, .int (nI a), .int (nI e), .long w] (mdW tc h ar now sc ai al) (fun r w0 => r = some (.int (bI (decide (e - a = W.length) && syq T a W))) ∧ w0 = (mdW tc h ar now sc ai al)) := by
  refine Kt.of ro_true (by decide) rfl hty (Nat.le_of_ble_eq_true rfl) ?_
  intro p env s m args below meth c0 A hC hr hlk hnm hF
  have hFt : vx_Ft y_Mo_isWord.cls (yw y_Mo_isWord b_Mo_isWord 5 (some .boolean)) cls cty ft_Mo := ft_of (fun w h => List.mem_cons_of_mem _ h) fl_Mo_in ft_Mo_b
  have hini : false = true → meth.name = "<init>" := fun h => by cases h
  obtain ⟨hF8, h11, hlenT, htx, hT, h12, hps⟩ := id hM
  have hTl := hT.1
  refine vx_go hC hFt hini (vx_ends hC hr hlk) jc_Mo_isWord 0 (by decide) rfl ?_
  refine mo_calls hC (c_Mo_lengthOf l D tys tc hty w W hW) wm_Mo_lengthOf wl_Mo_135 wt_Mo_lengthOf ⟨by decide, by decide⟩ rfl rfl (Nat.le_of_ble_eq_true rfl) ⟨Nat.zero_le _, Nat.zero_le _⟩ (fun r' hp => ?_)
  subst hp
  refine And.intro (fun c5 => ?_) (fun c5 => ?_)
  · skip
    have c5 : ¬ (e - a = W.length) := fun z => c5 (by rw [pk_sub hae, z])
    refine vx_go hC hFt hini (vx_ends hC hr hlk) jc_Mo_isWord 13 (by decide) rfl ?_
    refine And.intro (rfl) (And.intro ?_ (And.intro (Nat.le_refl _) (Nat.le_refl _)))
    rw [decide_eq_false c5]
    exact And.intro rfl rfl
  · skip
    have c5 : e - a = W.length := by
      rw [pk_sub hae] at c5
      exact (nI_eq (by omega) (by have := hW.1; omega)).mp c5
    refine mo_call hC (c_Mo_says l D tys tc hty h ar now sc ai al F T ps hM w W hW a (by omega)) wm_Mo_says wl_Mo_142 wi_Mo_says ws_Mo_Mo_says ⟨by decide, by decide⟩ rfl rfl (Nat.le_of_ble_eq_true rfl) ⟨Nat.zero_le _, Nat.zero_le _⟩ (fun r' w1 hp => ?_)
    obtain ⟨rfl, rfl⟩ := hp
    refine And.intro (fun c10 => ?_) (fun c10 => ?_)
    · skip
      have c10 := bI_eq c10
      refine vx_go hC hFt hini (vx_ends hC hr hlk) jc_Mo_isWord 13 (by decide) rfl ?_
      refine And.intro (rfl) (And.intro ?_ (And.intro (Nat.le_refl _) (Nat.le_refl _)))
      rw [decide_eq_true c5, c10]
      exact And.intro rfl rfl
    · skip
      have c10 := bI_ne c10
      refine vx_go hC hFt hini (vx_ends hC hr hlk) jc_Mo_isWord 14 (by decide) rfl ?_
      refine And.intro (rfl) (And.intro ?_ (And.intro (Nat.le_refl _) (Nat.le_refl _)))
      rw [decide_eq_true c5, c10]
      exact And.intro rfl rfl
end
section
/-! THE REFERENCE: numbers, quoted texts, assigned values, tongues, by program (wip/whole/gen/p35.py) -/
/-- the same but for the places that reading changes -/
def fq (s t : Nat → Int32) : Prop := ∀ k, k < 12 ∨ 20 ≤ k → t k = s k
theorem fq.refl {s : Nat → Int32} : fq s s := fun _ _ => rfl
theorem fq.upd {s t : Nat → Int32} {k : Nat} {v : Int32} (h : fq s t) (h1 : 12 ≤ k) (h2 : k < 20) : fq s (upd t k v) := fun j hj => (pk_un (by omega)).trans (h j hj)
theorem fq.trans {s t u : Nat → Int32} (h : fq s t) (g : fq t u) : fq s u := fun j hj => (g j hj).trans (h j hj)
theorem mdS.fq {sc s2 : Nat → Int32} {ai : Nat → Nat → Int32} {F : Nat} {T : List Nat} {ps p2 : Nat} (h : mdS sc ai F T ps) (g : fq sc s2) (h12 : s2 12 = nI p2) (h2 : p2 ≤ 400) : mdS s2 ai F T p2 := ⟨h.1, (g 11 (by decide)).trans h.2.1, h.2.2.1, h.2.2.2.1, h.2.2.2.2.1, h12, h2⟩
section
variable {p : Program} {l : Launch} {e : Env} {R : Room} {s : State} {m : MethodId} {args : Array Value} {below : List Frame} {meth : Method} {c : Code} {cc : ByteArray} {nL : Nat} {D : va_G} {tys : List (ClassId × FieldType)} {A : Nat → Prop} {tc : Nat → ClassId} {Q : State → Prop} {st : List Value} {k n : Nat} {K : List Value → va_W → Nat → Nat → Prop} {y0 : MethodName} {b0 : ByteArray} {n0 index : Nat} {r0 : Option FieldType} {ws : va_W} {own : String}
theorem sx_ldcw (hC : Cx p s m args c cc nL own (yw y0 b0 n0 r0) D cls tys A tc) {v : Int32} (hw : Jvm.Cond.constant own index v ∈ gw) (kk : K (.int v :: st) ws k n) : vx_SX cc (Vx p l e R s m args below meth c nL D cls A Q) (.ldc_w index) 3 st ws k n K :=
  fun _ _ hdg hK H locs ls hP hD hS hl => lv_ldcw hC.1 hC.2.1 hC.2.2.2.1 (hC.2.2.2.2.1 _ (List.mem_cons_of_mem _ hw)) hdg (hK _ _ _ _ kk H locs ls hP hD hS hl)
end
/-- nine digits at most, else the greatest -/
def vv (S : List Nat) : Nat := if S.length ≤ 9 then f9 S else 999999999
theorem vv_nm {S : List Nat} (h : S ≠ []) : nmv S = some (vv S) := by
  unfold nmv vv
  rw [if_neg h]
  by_cases e : 9 < S.length
  · rw [if_pos e, if_neg (by omega)]
  · rw [if_neg e, if_pos (by omega)]
theorem tkw_add {T : List Nat} {pp : Nat} {q : Nat → Bool} {S R : List Nat} (h : q (T.getD pp 0) = true) (hl : pp < T.length) (e : S ++ (T.drop pp).takeWhile q = R) : (S ++ [T.getD pp 0]) ++ (T.drop (pp + 1)).takeWhile q = R := by
  rw [← e, drop_get hl, tw_t h, List.append_assoc]; rfl
theorem tkw_no {T : List Nat} {pp : Nat} {q : Nat → Bool} (h : q (T.getD pp 0) = false) : (T.drop pp).takeWhile q = [] := by
  rcases Nat.lt_or_ge pp T.length with h1 | h1
  · rw [drop_get h1, tw_f h]
  · rw [drop_end h1]; rfl
theorem pz_tw {T : List Nat} {ps : Nat} {q : Nat → Bool} : pz T ps q = ps + ((T.drop ps).takeWhile q).length := rfl
theorem pz_dw {T : List Nat} {ps : Nat} {q : Nat → Bool} : T.drop (pz T ps q) = (T.drop ps).dropWhile q := by
  unfold pz
  rw [← List.drop_drop]
  have h := List.takeWhile_append_dropWhile (p := q) (l := T.drop ps)
  generalize hA : (T.drop ps).takeWhile q = A at h
  generalize (T.drop ps).dropWhile q = B at h
  rw [← h, List.drop_left]
set_option maxRecDepth 100000 in
set_option maxHeartbeats 4000000 in
theorem c_Mo_many (l : Launch) (D : va_G) (tys : List (ClassId × FieldType)) (tc : Nat → ClassId) (hty : ∀ i : Nat, i < 4 → tys[i]? = some (tc i, vx_ty i)) (h : Nat) (ar : Nat → Nat) (now : Int64) (sc : Nat → Int32) (ai : Nat → Nat → Int32) (al : Nat → Nat → Int64) (F : Nat) (T : List Nat) (ps : Nat) (hM : mdS sc ai F T ps) : Kt l y_Mo_many (yw y_Mo_many b_Mo_many 3 (some .int)) 2 41 0 0 D cls tys (fun _ _ _ => True) [.ref h] (mdW tc h ar now sc ai al) (fun r w => r = some (.int (iI (nmv ((T.drop ps).takeWhile isDg)))) ∧ w = mdW tc h ar now (upd sc 12 (nI (pz T ps isDg))) ai al) := by
  refine Kt.of ro_true (by decide) rfl hty (Nat.le_of_ble_eq_true rfl) ?_
  intro p e s m args below meth c0 A hC hr hlk hnm hF
  have hFt : vx_Ft y_Mo_many.cls (yw y_Mo_many b_Mo_many 3 (some .int)) cls cty ft_Mo := ft_of (fun w h => List.mem_cons_of_mem _ h) fl_Mo_in ft_Mo_b
  have hini : false = true → meth.name = "<init>" := fun h => by cases h
  obtain ⟨hF8, h11, hlenT, htx, hT, h12, hps⟩ := id hM
  have hTl := hT.1
  refine vx_gon hC hFt hini (vx_ends hC hr hlk) jc_Mo_many 0 5 (by decide) rfl ?_
  refine And.intro rfl ?_
  obtain ⟨DS, hDS0⟩ : ∃ DS, (T.drop ps).takeWhile isDg = DS := ⟨_, rfl⟩
  rw [hDS0]
  refine Vx.subL (lv' := [(0, .ref h), (1, .int (sc 12)), (2, .int (nI 0))]) [2, 1, 0] rfl ?_
  refine Vx.eqs rfl (lv2 := [(0, .ref h), (1, .int (nI ps)), (2, .int (nI 0))]) (by rw [← h12]) rfl (w2 := mdW tc h ar now (upd sc 12 (nI ps)) ai al) (by rw [upd_same h12]) ?_
  obtain ⟨S, hS⟩ : ∃ S : List Nat, S = [] := ⟨_, rfl⟩
  obtain ⟨pp, hpp⟩ : ∃ pp : Nat, pp = ps := ⟨_, rfl⟩
  have hps0 := hps
  have hM0 := hM
  rw [← hpp] at hps
  have hpS : pp = ps + S.length := by rw [hS]; simpa using hpp
  have hDS : S ++ (T.drop pp).takeWhile isDg = DS := by rw [hS, hpp]; exact hDS0
  refine Vx.eqs rfl (lv2 := [(0, .ref h), (1, .int (nI ps)), (2, .int (nI (vv S)))]) (by rw [hS]; rfl) rfl (w2 := mdW tc h ar now (upd sc 12 (nI pp)) ai al) (by rw [hpp]) ?_
  clear hpp hS hM h12
  induction hn : T.length - pp using Nat.strongRecOn generalizing pp S with
  | _ n ih =>
    refine vx_go hC hFt hini (vx_ends hC hr hlk) jc_Mo_many 5 (by decide) rfl ?_
    refine mo_call hC (c_Mo_next l D tys tc hty h ar now (upd sc 12 (nI pp)) ai al F T pp (hM0.at hps)) wm_Mo_next wl_Mo_115 wi_Mo_next ws_Mo_Mo_next ⟨by decide, by decide⟩ rfl rfl (Nat.le_of_ble_eq_true rfl) ⟨Nat.zero_le _, Nat.zero_le _⟩ (fun r' w1 hp => ?_)
    obtain ⟨rfl, rfl⟩ := hp
    refine mo_calls hC (c_Mo_isDigit l D tys tc hty (T.getD pp 0) (T_lt hT pp)) wm_Mo_isDigit wl_Mo_119 wt_Mo_isDigit ⟨by decide, by decide⟩ rfl rfl (Nat.le_of_ble_eq_true rfl) ⟨Nat.zero_le _, Nat.zero_le _⟩ (fun r' hp => ?_)
    subst hp
    refine And.intro (fun c8 => ?_) (fun c8 => ?_)
    · skip
      have c8 : isDg (T.getD pp 0) = false := bI_eq c8
      refine vx_go hC hFt hini (vx_ends hC hr hlk) jc_Mo_many 33 (by decide) rfl ?_
      refine And.intro rfl ?_
      refine And.intro (fun c36 => ?_) (fun c36 => ?_)
      · skip
        refine vx_go hC hFt hini (vx_ends hC hr hlk) jc_Mo_many 39 (by decide) rfl ?_
        refine And.intro (trivial) (And.intro ?_ (And.intro (Nat.le_refl _) (Nat.le_refl _)))
        rw [tkw_no c8, List.append_nil] at hDS
        rw [← hDS, show pz T ps isDg = pp by rw [pz_tw, hDS0, ← hDS]; omega]
        rw [vv_nm (by intro z; rw [z] at hpS; exact c36 (by rw [show pp = ps by simpa using hpS]; exact pk_us))]
        exact And.intro rfl rfl
      · skip
        refine vx_go hC hFt hini (vx_ends hC hr hlk) jc_Mo_many 40 (by decide) rfl ?_
        refine And.intro (trivial) (And.intro ?_ (And.intro (Nat.le_refl _) (Nat.le_refl _)))
        rw [tkw_no c8, List.append_nil] at hDS
        rw [← hDS, show pz T ps isDg = pp by rw [pz_tw, hDS0, ← hDS]; omega]
        rw [show S = [] from List.eq_nil_of_length_eq_zero (by have := (nI_eq (a := pp) (b := ps) (by omega) (by omega)).mp c36; omega)]
        exact And.intro rfl rfl
    · skip
      have c8 : isDg (T.getD pp 0) = true := bI_ne c8
      have hdg := dg_in c8
      have hin := T_in (T := T) (k := pp) (by omega)
      refine And.intro rfl ?_
      refine And.intro (fun c14 => ?_) (fun c14 => ?_)
      · skip
        have c14 : 9 ≤ S.length := by
          have c14 : nI 9 ≤ nI pp - nI ps := c14
          rw [pk_sub (by omega), nI_leI (by omega) (by omega)] at c14
          omega
        refine vx_go hC hFt hini (vx_ends hC hr hlk) jc_Mo_many 24 (by decide) rfl ?_
        refine sx_ldcw hC wc_Mo_301 ?_
        refine And.intro rfl ?_
        refine And.intro rfl ?_
        refine And.intro rfl (And.intro (And.intro rfl rfl) ?_)
        refine Vx.subL (lv' := [(0, .ref h), (1, .int (nI ps)), (2, .int (nI 999999999))]) [1, 2, 0] rfl ?_
        refine Vx.eqs rfl (lv2 := [(0, .ref h), (1, .int (nI ps)), (2, .int (nI (vv (S ++ [T.getD pp 0]))))]) (by rw [show vv (S ++ [T.getD pp 0]) = 999999999 by rw [vv, if_neg (by rw [List.length_append]; simp; omega)]]) rfl (show _ = mdW tc h ar now (upd sc 12 (nI pp + 1)) ai al from rfl) ?_
        rw [nI_1]
        exact ih (T.length - (pp + 1)) (by omega) (S ++ [T.getD pp 0]) (pp + 1) (by omega) (by rw [List.length_append, hpS]; rfl) (tkw_add c8 hin hDS) rfl
      · skip
        have c14 : ¬ 9 ≤ S.length := fun z => c14 (by
          show nI 9 ≤ nI pp - nI ps
          rw [pk_sub (by omega), nI_leI (by omega) (by omega)]
          omega)
        refine mo_call hC (c_Mo_next l D tys tc hty h ar now (upd sc 12 (nI pp)) ai al F T pp (hM0.at hps)) wm_Mo_next wl_Mo_115 wi_Mo_next ws_Mo_Mo_next ⟨by decide, by decide⟩ rfl rfl (Nat.le_of_ble_eq_true rfl) ⟨Nat.zero_le _, Nat.zero_le _⟩ (fun r' w1 hp => ?_)
        obtain ⟨rfl, rfl⟩ := hp
        refine vx_go hC hFt hini (vx_ends hC hr hlk) jc_Mo_many 25 (by decide) rfl ?_
        refine And.intro rfl ?_
        refine And.intro rfl ?_
        refine And.intro rfl (And.intro (And.intro rfl rfl) ?_)
        refine Vx.subL (lv' := [(0, .ref h), (1, .int (nI ps)), (2, .int ((10 : Int32) * nI (vv S) + nI (T.getD pp 0) - 48))]) [1, 2, 0] rfl ?_
        refine Vx.eqs rfl (lv2 := [(0, .ref h), (1, .int (nI ps)), (2, .int (nI (vv (S ++ [T.getD pp 0]))))]) (by rw [ten_add (by omega), show vv (S ++ [T.getD pp 0]) = 10 * vv S + T.getD pp 0 - 48 by rw [vv, vv, if_pos (by rw [List.length_append]; simp; omega), if_pos (by omega), f9_lo (by omega)]]) rfl (show _ = mdW tc h ar now (upd sc 12 (nI pp + 1)) ai al from rfl) ?_
        rw [nI_1]
        exact ih (T.length - (pp + 1)) (by omega) (S ++ [T.getD pp 0]) (pp + 1) (by omega) (by rw [List.length_append, hpS]; rfl) (tkw_add c8 hin hDS) rfl
/-- the world behind a reading: what it says, where it ended -/
def qP (tc : Nat → ClassId) (h : Nat) (ar : Nat → Nat) (now : Int64) (sc : Nat → Int32) (ai : Nat → Nat → Int32) (al : Nat → Nat → Int64) (T : List Nat) (b : Bool) (rest : List Nat) (X : (Nat → Int32) → Prop) (r : Option Value) (w : va_W) : Prop := r = some (.int (bI b)) ∧ ∃ s2, w = mdW tc h ar now s2 ai al ∧ fq sc s2 ∧ (b = true → ∃ p2, p2 ≤ T.length ∧ T.drop p2 = rest ∧ s2 12 = nI p2 ∧ X s2)
theorem qP.no {tc : Nat → ClassId} {h : Nat} {ar : Nat → Nat} {now : Int64} {sc s2 : Nat → Int32} {ai : Nat → Nat → Int32} {al : Nat → Nat → Int64} {T rest : List Nat} {b : Bool} {X : (Nat → Int32) → Prop} (hb : b = false) (hf : fq sc s2) : qP tc h ar now sc ai al T b rest X (some (.int 0)) (mdW tc h ar now s2 ai al) := ⟨by rw [hb]; rfl, s2, rfl, hf, fun z => by rw [hb] at z; cases z⟩
theorem bI_fits (b : Bool) : fits .boolean (.int (bI b)) = true := by cases b <;> rfl
theorem one_dec {S : List Nat} {c : Nat} : (decide (S.length + 1 = 1) && decide (c = 49)) = decide (S ++ [c] = [49]) := by
  cases S with
  | nil => simp
  | cons a S => simp
theorem qtx_o {x : Nat} {r S : List Nat} (h1 : ¬ x = 34) (h2 : ¬ x = 92) (h3 : isQt x = true) : qtx (x :: r) S = qtx r (S ++ [x]) := by rw [qtx.eq_def]; simp [h1, h2, h3]
theorem qtx_bad {T S : List Nat} {pp : Nat} (h1 : ¬ T.getD pp 0 = 34) (h2 : ¬ T.getD pp 0 = 92) (h3 : isQt (T.getD pp 0) = false) : (qtx (T.drop pp) S).1 = false := by
  rcases Nat.lt_or_ge pp T.length with h | h
  · rw [drop_get h]
    generalize T.getD pp 0 = x at h1 h2 h3
    rw [qtx.eq_def]; simp [h1, h2, h3]
  · rw [drop_end h]; rfl
set_option maxRecDepth 100000 in
set_option maxHeartbeats 4000000 in
theorem c_Mo_quoted (l : Launch) (D : va_G) (tys : List (ClassId × FieldType)) (tc : Nat → ClassId) (hty : ∀ i : Nat, i < 4 → tys[i]? = some (tc i, vx_ty i)) (h : Nat) (ar : Nat → Nat) (now : Int64) (sc : Nat → Int32) (ai : Nat → Nat → Int32) (al : Nat → Nat → Int64) (F : Nat) (T : List Nat) (ps : Nat) (hM : mdS sc ai F T ps) (hpl : ps < T.length) : Kt l y_Mo_quoted (yw y_Mo_quoted b_Mo_quoted 4 (some .boolean)) 3 63 0 0 D cls tys (fun _ _ _ => True) [.ref h] (mdW tc h ar now sc ai al) (fun r w => qP tc h ar now sc ai al T (qtx (T.drop (ps + 1)) []).1 (qtx (T.drop (ps + 1)) []).2.1 (fun s2 => s2 19 = bI (decide ((qtx (T.drop (ps + 1)) []).2.2 = [49]))) r w) := by
  refine Kt.of ro_true (by decide) rfl hty (Nat.le_of_ble_eq_true rfl) ?_
  intro p e s m args below meth c0 A hC hr hlk hnm hF
  have hFt : vx_Ft y_Mo_quoted.cls (yw y_Mo_quoted b_Mo_quoted 4 (some .boolean)) cls cty ft_Mo := ft_of (fun w h => List.mem_cons_of_mem _ h) fl_Mo_in ft_Mo_b
  have hini : false = true → meth.name = "<init>" := fun h => by cases h
  obtain ⟨hF8, h11, hlenT, htx, hT, h12, hps⟩ := id hM
  have hTl := hT.1
  refine vx_gon hC hFt hini (vx_ends hC hr hlk) jc_Mo_quoted 0 10 (by decide) rfl ?_
  refine And.intro rfl ?_
  refine And.intro rfl ?_
  refine And.intro rfl (And.intro (And.intro rfl rfl) ?_)
  generalize hres : qtx (T.drop (ps + 1)) [] = RES
  refine Vx.subL (lv' := [(0, .ref h), (1, .int (nI 0)), (2, .int (bI false))]) [2, 1, 0] rfl ?_
  obtain ⟨s2, hs2⟩ : ∃ s2, s2 = upd sc 12 (nI (ps + 1)) := ⟨_, rfl⟩
  obtain ⟨pp, hpp⟩ : ∃ pp : Nat, pp = ps + 1 := ⟨_, rfl⟩
  obtain ⟨S, hS⟩ : ∃ S : List Nat, S = [] := ⟨_, rfl⟩
  have hfr : fq sc s2 := by rw [hs2]; exact fq.refl.upd (by decide) (by decide)
  refine Vx.eqs rfl (lv2 := [(0, .ref h), (1, .int (nI S.length)), (2, .int (bI (decide (S = [49]))))]) (by rw [hS]; rfl) rfl (w2 := mdW tc h ar now s2 ai al) (by rw [hs2, ← nI_1, ← h12]; rfl) ?_
  replace h12 : s2 12 = nI pp := by rw [hs2, hpp]; exact pk_us
  have hpl2 : pp ≤ T.length := by omega
  replace hres : qtx (T.drop pp) S = RES := by rw [hpp, hS]; exact hres
  have hSl : S.length + 1 ≤ pp := by rw [hS, hpp]; simp
  clear hs2 hpp hS
  induction hn : T.length - pp using Nat.strongRecOn generalizing s2 pp S with
  | _ n ih =>
    have hMp := hM.fq hfr h12 (by omega)
    refine vx_go hC hFt hini (vx_ends hC hr hlk) jc_Mo_quoted 10 (by decide) rfl ?_
    refine mo_call hC (c_Mo_next l D tys tc hty h ar now s2 ai al F T pp hMp) wm_Mo_next wl_Mo_115 wi_Mo_next ws_Mo_Mo_next ⟨by decide, by decide⟩ rfl rfl (Nat.le_of_ble_eq_true rfl) ⟨Nat.zero_le _, Nat.zero_le _⟩ (fun r' w1 hp => ?_)
    obtain ⟨rfl, rfl⟩ := hp
    refine And.intro (fun c13 => ?_) (fun c13 => ?_)
    · skip
      have c13 : T.getD pp 0 = 34 := (nI_eq (by have := T_lt hT (pp); omega) (by omega)).mp c13
      have hin := T_in (T := T) (k := pp) (by omega)
      refine vx_go hC hFt hini (vx_ends hC hr hlk) jc_Mo_quoted 55 (by decide) rfl ?_
      refine And.intro rfl (And.intro (And.intro (bI_narrow _) (bI_fits _)) ?_)
      refine wq_ws (ws2 := mdW tc h ar now (upd s2 19 (bI (decide (S = [49])))) ai al) rfl ?_
      refine mo_call hC (c_Mo_take l D tys tc hty h ar now (upd s2 19 (bI (decide (S = [49])))) ai al F T pp (hMp.ot (by decide) (by decide)) 34 (by decide)) wm_Mo_take wl_Mo_153 wi_Mo_take ws_Mo_Mo_take ⟨by decide, by decide⟩ rfl rfl (Nat.le_of_ble_eq_true rfl) ⟨Nat.zero_le _, Nat.zero_le _⟩ (fun r' w1 hp => ?_)
      obtain ⟨rfl, rfl⟩ := hp
      refine And.intro ((bI_narrow _)) (And.intro ?_ (And.intro (Nat.le_refl _) (Nat.le_refl _)))
      rw [show decide (T.getD pp 0 = 34) = true from decide_eq_true c13] at *
      have hres2 : RES = (true, T.drop (pp + 1), S) := by rw [← hres, drop_get (W := T) (i := pp) hin, c13, qtx_m]
      rw [hres2]
      refine And.intro rfl ⟨_, rfl, ((hfr.upd (by decide) (by decide)).upd (k := 12) (by decide) (by decide)), fun _ => ⟨pp + 1, hin, rfl, by rw [if_pos c13]; exact pk_us, (pk_un (by decide)).trans pk_us⟩⟩
    · skip
      have c13 : ¬ (T.getD pp 0 = 34) := fun z => c13 (by rw [z]; rfl)
      refine mo_call hC (c_Mo_take l D tys tc hty h ar now s2 ai al F T pp hMp 92 (by decide)) wm_Mo_take wl_Mo_153 wi_Mo_take ws_Mo_Mo_take ⟨by decide, by decide⟩ rfl rfl (Nat.le_of_ble_eq_true rfl) ⟨Nat.zero_le _, Nat.zero_le _⟩ (fun r' w1 hp => ?_)
      obtain ⟨rfl, rfl⟩ := hp
      refine And.intro (fun c17 => ?_) (fun c17 => ?_)
      · skip
        have c17 : ¬ T.getD pp 0 = 92 := of_decide_eq_false (bI_eq c17)
        rw [if_neg c17, upd_same h12]
        refine vx_go hC hFt hini (vx_ends hC hr hlk) jc_Mo_quoted 23 (by decide) rfl ?_
        refine mo_call hC (c_Mo_next l D tys tc hty h ar now s2 ai al F T pp hMp) wm_Mo_next wl_Mo_115 wi_Mo_next ws_Mo_Mo_next ⟨by decide, by decide⟩ rfl rfl (Nat.le_of_ble_eq_true rfl) ⟨Nat.zero_le _, Nat.zero_le _⟩ (fun r' w1 hp => ?_)
        obtain ⟨rfl, rfl⟩ := hp
        refine And.intro (fun c28 => ?_) (fun c28 => ?_)
        · skip
          have hb9 := T_lt hT pp
          have c28 : T.getD pp 0 = 9 := (nI_eq (by have := T_lt hT (pp); omega) (by omega)).mp c28
          have hq : isQt (T.getD pp 0) = true := by simp only [isQt, decide_eq_true_eq]; omega
          have hin : pp < T.length := T_in (by omega)
          refine vx_go hC hFt hini (vx_ends hC hr hlk) jc_Mo_quoted 37 (by decide) rfl ?_
          refine And.intro (fun c40 => ?_) (fun c40 => ?_)
          · skip
            have c40 : ¬ (S.length + 1 = 1) := fun z => c40 (show nI S.length + nI 1 = nI 1 by rw [nI_add, z])
            refine vx_go hC hFt hini (vx_ends hC hr hlk) jc_Mo_quoted 46 (by decide) rfl ?_
            refine And.intro rfl ?_
            refine And.intro rfl ?_
            refine And.intro rfl (And.intro (And.intro rfl rfl) ?_)
            refine Vx.subL (lv' := [(0, .ref h), (1, .int (nI S.length + 1)), (2, .int (bI false))]) [3, 1, 0] rfl ?_
            have hone : decide (S ++ [(T.getD pp 0)] = [49]) = false := by rw [← one_dec, decide_eq_false c40]; rfl
            refine Vx.eqs rfl (lv2 := [(0, .ref h), (1, .int (nI (S ++ [(T.getD pp 0)]).length)), (2, .int (bI (decide (S ++ [(T.getD pp 0)] = [49]))))]) (by rw [hone, nI_1, List.length_append]; rfl) rfl (show _ = mdW tc h ar now (upd s2 12 (s2 12 + 1)) ai al from rfl) ?_
            exact ih (T.length - (pp + 1)) (by omega) (upd s2 12 (s2 12 + 1)) (pp + 1) (S ++ [(T.getD pp 0)]) (hfr.upd (by decide) (by decide)) (by rw [pk_us, h12, nI_1]) (by omega) (by rw [← hres, drop_get (W := T) (i := pp) hin, qtx_o c13 c17 hq]) (by rw [List.length_append]; simp; omega) rfl
          · skip
            have c40 : S.length + 1 = 1 := (nI_eq (a := S.length + 1) (b := 1) (by omega) (by omega)).mp (by rw [← nI_add]; exact c40)
            refine And.intro (fun c43 => ?_) (fun c43 => ?_)
            · skip
              have c43 : ¬ (T.getD pp 0 = 49) := fun z => c43 (by rw [z]; rfl)
              refine vx_go hC hFt hini (vx_ends hC hr hlk) jc_Mo_quoted 46 (by decide) rfl ?_
              refine And.intro rfl ?_
              refine And.intro rfl ?_
              refine And.intro rfl (And.intro (And.intro rfl rfl) ?_)
              refine Vx.subL (lv' := [(0, .ref h), (1, .int (nI S.length + 1)), (2, .int (bI false))]) [3, 1, 0] rfl ?_
              have hone : decide (S ++ [(T.getD pp 0)] = [49]) = false := by rw [← one_dec, decide_eq_false c43, Bool.and_false]
              refine Vx.eqs rfl (lv2 := [(0, .ref h), (1, .int (nI (S ++ [(T.getD pp 0)]).length)), (2, .int (bI (decide (S ++ [(T.getD pp 0)] = [49]))))]) (by rw [hone, nI_1, List.length_append]; rfl) rfl (show _ = mdW tc h ar now (upd s2 12 (s2 12 + 1)) ai al from rfl) ?_
              exact ih (T.length - (pp + 1)) (by omega) (upd s2 12 (s2 12 + 1)) (pp + 1) (S ++ [(T.getD pp 0)]) (hfr.upd (by decide) (by decide)) (by rw [pk_us, h12, nI_1]) (by omega) (by rw [← hres, drop_get (W := T) (i := pp) hin, qtx_o c13 c17 hq]) (by rw [List.length_append]; simp; omega) rfl
            · skip
              have c43 : T.getD pp 0 = 49 := (nI_eq (by have := T_lt hT (pp); omega) (by omega)).mp c43
              refine vx_go hC hFt hini (vx_ends hC hr hlk) jc_Mo_quoted 47 (by decide) rfl ?_
              refine And.intro rfl ?_
              refine And.intro rfl ?_
              refine And.intro rfl (And.intro (And.intro rfl rfl) ?_)
              refine Vx.subL (lv' := [(0, .ref h), (1, .int (nI S.length + 1)), (2, .int (bI true))]) [3, 1, 0] rfl ?_
              have hone : decide (S ++ [(T.getD pp 0)] = [49]) = true := by rw [← one_dec, decide_eq_true c40, decide_eq_true c43]; rfl
              refine Vx.eqs rfl (lv2 := [(0, .ref h), (1, .int (nI (S ++ [(T.getD pp 0)]).length)), (2, .int (bI (decide (S ++ [(T.getD pp 0)] = [49]))))]) (by rw [hone, nI_1, List.length_append]; rfl) rfl (show _ = mdW tc h ar now (upd s2 12 (s2 12 + 1)) ai al from rfl) ?_
              exact ih (T.length - (pp + 1)) (by omega) (upd s2 12 (s2 12 + 1)) (pp + 1) (S ++ [(T.getD pp 0)]) (hfr.upd (by decide) (by decide)) (by rw [pk_us, h12, nI_1]) (by omega) (by rw [← hres, drop_get (W := T) (i := pp) hin, qtx_o c13 c17 hq]) (by rw [List.length_append]; simp; omega) rfl
        · skip
          have hb9 := T_lt hT pp
          have c28 : ¬ (T.getD pp 0 = 9) := fun z => c28 (by rw [z]; rfl)
          refine And.intro (fun c31 => ?_) (fun c31 => ?_)
          · skip
            have c31 := (nI_ltI (a := T.getD pp 0) (b := 32) (by omega) (by omega)).mp c31
            refine vx_go hC hFt hini (vx_ends hC hr hlk) jc_Mo_quoted 35 (by decide) rfl ?_
            refine And.intro (rfl) (And.intro ?_ (And.intro (Nat.le_refl _) (Nat.le_refl _)))
            exact qP.no (by rw [← hres]; exact qtx_bad c13 c17 (by simp only [isQt, decide_eq_false_iff_not]; omega)) hfr
          · skip
            have c31 : ¬ (T.getD pp 0 < 32) := fun z => c31 ((nI_ltI (a := T.getD pp 0) (b := 32) (by omega) (by omega)).mpr z)
            refine And.intro (fun c34 => ?_) (fun c34 => ?_)
            · skip
              have c34 : ¬ (T.getD pp 0 = 127) := fun z => c34 (by rw [z]; rfl)
              have hq : isQt (T.getD pp 0) = true := by simp only [isQt, decide_eq_true_eq]; omega
              have hin : pp < T.length := T_in (by omega)
              refine vx_go hC hFt hini (vx_ends hC hr hlk) jc_Mo_quoted 37 (by decide) rfl ?_
              refine And.intro (fun c40 => ?_) (fun c40 => ?_)
              · skip
                have c40 : ¬ (S.length + 1 = 1) := fun z => c40 (show nI S.length + nI 1 = nI 1 by rw [nI_add, z])
                refine vx_go hC hFt hini (vx_ends hC hr hlk) jc_Mo_quoted 46 (by decide) rfl ?_
                refine And.intro rfl ?_
                refine And.intro rfl ?_
                refine And.intro rfl (And.intro (And.intro rfl rfl) ?_)
                refine Vx.subL (lv' := [(0, .ref h), (1, .int (nI S.length + 1)), (2, .int (bI false))]) [3, 1, 0] rfl ?_
                have hone : decide (S ++ [(T.getD pp 0)] = [49]) = false := by rw [← one_dec, decide_eq_false c40]; rfl
                refine Vx.eqs rfl (lv2 := [(0, .ref h), (1, .int (nI (S ++ [(T.getD pp 0)]).length)), (2, .int (bI (decide (S ++ [(T.getD pp 0)] = [49]))))]) (by rw [hone, nI_1, List.length_append]; rfl) rfl (show _ = mdW tc h ar now (upd s2 12 (s2 12 + 1)) ai al from rfl) ?_
                exact ih (T.length - (pp + 1)) (by omega) (upd s2 12 (s2 12 + 1)) (pp + 1) (S ++ [(T.getD pp 0)]) (hfr.upd (by decide) (by decide)) (by rw [pk_us, h12, nI_1]) (by omega) (by rw [← hres, drop_get (W := T) (i := pp) hin, qtx_o c13 c17 hq]) (by rw [List.length_append]; simp; omega) rfl
              · skip
                have c40 : S.length + 1 = 1 := (nI_eq (a := S.length + 1) (b := 1) (by omega) (by omega)).mp (by rw [← nI_add]; exact c40)
                refine And.intro (fun c43 => ?_) (fun c43 => ?_)
                · skip
                  have c43 : ¬ (T.getD pp 0 = 49) := fun z => c43 (by rw [z]; rfl)
                  refine vx_go hC hFt hini (vx_ends hC hr hlk) jc_Mo_quoted 46 (by decide) rfl ?_
                  refine And.intro rfl ?_
                  refine And.intro rfl ?_
                  refine And.intro rfl (And.intro (And.intro rfl rfl) ?_)
                  refine Vx.subL (lv' := [(0, .ref h), (1, .int (nI S.length + 1)), (2, .int (bI false))]) [3, 1, 0] rfl ?_
                  have hone : decide (S ++ [(T.getD pp 0)] = [49]) = false := by rw [← one_dec, decide_eq_false c43, Bool.and_false]
                  refine Vx.eqs rfl (lv2 := [(0, .ref h), (1, .int (nI (S ++ [(T.getD pp 0)]).length)), (2, .int (bI (decide (S ++ [(T.getD pp 0)] = [49]))))]) (by rw [hone, nI_1, List.length_append]; rfl) rfl (show _ = mdW tc h ar now (upd s2 12 (s2 12 + 1)) ai al from rfl) ?_
                  exact ih (T.length - (pp + 1)) (by omega) (upd s2 12 (s2 12 + 1)) (pp + 1) (S ++ [(T.getD pp 0)]) (hfr.upd (by decide) (by decide)) (by rw [pk_us, h12, nI_1]) (by omega) (by rw [← hres, drop_get (W := T) (i := pp) hin, qtx_o c13 c17 hq]) (by rw [List.length_append]; simp; omega) rfl
                · skip
                  have c43 : T.getD pp 0 = 49 := (nI_eq (by have := T_lt hT (pp); omega) (by omega)).mp c43
                  refine vx_go hC hFt hini (vx_ends hC hr hlk) jc_Mo_quoted 47 (by decide) rfl ?_
                  refine And.intro rfl ?_
                  refine And.intro rfl ?_
                  refine And.intro rfl (And.intro (And.intro rfl rfl) ?_)
                  refine Vx.subL (lv' := [(0, .ref h), (1, .int (nI S.length + 1)), (2, .int (bI true))]) [3, 1, 0] rfl ?_
                  have hone : decide (S ++ [(T.getD pp 0)] = [49]) = true := by rw [← one_dec, decide_eq_true c40, decide_eq_true c43]; rfl
                  refine Vx.eqs rfl (lv2 := [(0, .ref h), (1, .int (nI (S ++ [(T.getD pp 0)]).length)), (2, .int (bI (decide (S ++ [(T.getD pp 0)] = [49]))))]) (by rw [hone, nI_1, List.length_append]; rfl) rfl (show _ = mdW tc h ar now (upd s2 12 (s2 12 + 1)) ai al from rfl) ?_
                  exact ih (T.length - (pp + 1)) (by omega) (upd s2 12 (s2 12 + 1)) (pp + 1) (S ++ [(T.getD pp 0)]) (hfr.upd (by decide) (by decide)) (by rw [pk_us, h12, nI_1]) (by omega) (by rw [← hres, drop_get (W := T) (i := pp) hin, qtx_o c13 c17 hq]) (by rw [List.length_append]; simp; omega) rfl
            · skip
              have c34 : T.getD pp 0 = 127 := (nI_eq (by have := T_lt hT (pp); omega) (by omega)).mp c34
              refine And.intro (rfl) (And.intro ?_ (And.intro (Nat.le_refl _) (Nat.le_refl _)))
              exact qP.no (by rw [← hres]; exact qtx_bad c13 c17 (by simp only [isQt, decide_eq_false_iff_not]; omega)) hfr
      · skip
        have c17 : T.getD pp 0 = 92 := of_decide_eq_true (bI_ne c17)
        rw [if_pos c17]
        have hin0 := T_in (T := T) (k := pp) (by omega)
        refine mo_call hC (c_Mo_ended l D tys tc hty h ar now (upd s2 12 (nI (pp + 1))) ai al F T (pp + 1) (hMp.at (by omega))) wm_Mo_ended wl_Mo_166 wi_Mo_ended ws_Mo_Mo_ended ⟨by decide, by decide⟩ rfl rfl (Nat.le_of_ble_eq_true rfl) ⟨Nat.zero_le _, Nat.zero_le _⟩ (fun r' w1 hp => ?_)
        obtain ⟨rfl, rfl⟩ := hp
        refine And.intro (fun c20 => ?_) (fun c20 => ?_)
        · skip
          have c20 : ¬ T.length ≤ pp + 1 := of_decide_eq_false (bI_eq c20)
          refine vx_go hC hFt hini (vx_ends hC hr hlk) jc_Mo_quoted 23 (by decide) rfl ?_
          refine mo_call hC (c_Mo_next l D tys tc hty h ar now (upd s2 12 (nI (pp + 1))) ai al F T (pp + 1) (hMp.at (by omega))) wm_Mo_next wl_Mo_115 wi_Mo_next ws_Mo_Mo_next ⟨by decide, by decide⟩ rfl rfl (Nat.le_of_ble_eq_true rfl) ⟨Nat.zero_le _, Nat.zero_le _⟩ (fun r' w1 hp => ?_)
          obtain ⟨rfl, rfl⟩ := hp
          refine And.intro (fun c28 => ?_) (fun c28 => ?_)
          · skip
            have hb9 := T_lt hT (pp + 1)
            have c28 : T.getD (pp + 1) 0 = 9 := (nI_eq (by have := T_lt hT ((pp + 1)); omega) (by omega)).mp c28
            have hq : isQt (T.getD (pp + 1) 0) = true := by simp only [isQt, decide_eq_true_eq]; omega
            have hin : pp + 1 < T.length := T_in (by omega)
            refine vx_go hC hFt hini (vx_ends hC hr hlk) jc_Mo_quoted 37 (by decide) rfl ?_
            refine And.intro (fun c40 => ?_) (fun c40 => ?_)
            · skip
              have c40 : ¬ (S.length + 1 = 1) := fun z => c40 (show nI S.length + nI 1 = nI 1 by rw [nI_add, z])
              refine vx_go hC hFt hini (vx_ends hC hr hlk) jc_Mo_quoted 46 (by decide) rfl ?_
              refine And.intro rfl ?_
              refine And.intro rfl ?_
              refine And.intro rfl (And.intro (And.intro rfl rfl) ?_)
              refine Vx.subL (lv' := [(0, .ref h), (1, .int (nI S.length + 1)), (2, .int (bI false))]) [3, 1, 0] rfl ?_
              have hone : decide (S ++ [(T.getD (pp + 1) 0)] = [49]) = false := by rw [← one_dec, decide_eq_false c40]; rfl
              refine Vx.eqs rfl (lv2 := [(0, .ref h), (1, .int (nI (S ++ [(T.getD (pp + 1) 0)]).length)), (2, .int (bI (decide (S ++ [(T.getD (pp + 1) 0)] = [49]))))]) (by rw [hone, nI_1, List.length_append]; rfl) rfl (show _ = mdW tc h ar now (upd (upd s2 12 (nI (pp + 1))) 12 (nI (pp + 1) + 1)) ai al from rfl) ?_
              exact ih (T.length - (pp + 2)) (by omega) (upd (upd s2 12 (nI (pp + 1))) 12 (nI (pp + 1) + 1)) (pp + 2) (S ++ [(T.getD (pp + 1) 0)]) ((hfr.upd (by decide) (by decide)).upd (by decide) (by decide)) (by rw [pk_us, nI_1]) (by omega) (by rw [← hres, drop_get (W := T) (i := pp) (by omega), drop_get (W := T) (i := pp + 1) hin, c17, qtx_eq hq]) (by rw [List.length_append]; simp; omega) rfl
            · skip
              have c40 : S.length + 1 = 1 := (nI_eq (a := S.length + 1) (b := 1) (by omega) (by omega)).mp (by rw [← nI_add]; exact c40)
              refine And.intro (fun c43 => ?_) (fun c43 => ?_)
              · skip
                have c43 : ¬ (T.getD (pp + 1) 0 = 49) := fun z => c43 (by rw [z]; rfl)
                refine vx_go hC hFt hini (vx_ends hC hr hlk) jc_Mo_quoted 46 (by decide) rfl ?_
                refine And.intro rfl ?_
                refine And.intro rfl ?_
                refine And.intro rfl (And.intro (And.intro rfl rfl) ?_)
                refine Vx.subL (lv' := [(0, .ref h), (1, .int (nI S.length + 1)), (2, .int (bI false))]) [3, 1, 0] rfl ?_
                have hone : decide (S ++ [(T.getD (pp + 1) 0)] = [49]) = false := by rw [← one_dec, decide_eq_false c43, Bool.and_false]
                refine Vx.eqs rfl (lv2 := [(0, .ref h), (1, .int (nI (S ++ [(T.getD (pp + 1) 0)]).length)), (2, .int (bI (decide (S ++ [(T.getD (pp + 1) 0)] = [49]))))]) (by rw [hone, nI_1, List.length_append]; rfl) rfl (show _ = mdW tc h ar now (upd (upd s2 12 (nI (pp + 1))) 12 (nI (pp + 1) + 1)) ai al from rfl) ?_
                exact ih (T.length - (pp + 2)) (by omega) (upd (upd s2 12 (nI (pp + 1))) 12 (nI (pp + 1) + 1)) (pp + 2) (S ++ [(T.getD (pp + 1) 0)]) ((hfr.upd (by decide) (by decide)).upd (by decide) (by decide)) (by rw [pk_us, nI_1]) (by omega) (by rw [← hres, drop_get (W := T) (i := pp) (by omega), drop_get (W := T) (i := pp + 1) hin, c17, qtx_eq hq]) (by rw [List.length_append]; simp; omega) rfl
              · skip
                have c43 : T.getD (pp + 1) 0 = 49 := (nI_eq (by have := T_lt hT ((pp + 1)); omega) (by omega)).mp c43
                refine vx_go hC hFt hini (vx_ends hC hr hlk) jc_Mo_quoted 47 (by decide) rfl ?_
                refine And.intro rfl ?_
                refine And.intro rfl ?_
                refine And.intro rfl (And.intro (And.intro rfl rfl) ?_)
                refine Vx.subL (lv' := [(0, .ref h), (1, .int (nI S.length + 1)), (2, .int (bI true))]) [3, 1, 0] rfl ?_
                have hone : decide (S ++ [(T.getD (pp + 1) 0)] = [49]) = true := by rw [← one_dec, decide_eq_true c40, decide_eq_true c43]; rfl
                refine Vx.eqs rfl (lv2 := [(0, .ref h), (1, .int (nI (S ++ [(T.getD (pp + 1) 0)]).length)), (2, .int (bI (decide (S ++ [(T.getD (pp + 1) 0)] = [49]))))]) (by rw [hone, nI_1, List.length_append]; rfl) rfl (show _ = mdW tc h ar now (upd (upd s2 12 (nI (pp + 1))) 12 (nI (pp + 1) + 1)) ai al from rfl) ?_
                exact ih (T.length - (pp + 2)) (by omega) (upd (upd s2 12 (nI (pp + 1))) 12 (nI (pp + 1) + 1)) (pp + 2) (S ++ [(T.getD (pp + 1) 0)]) ((hfr.upd (by decide) (by decide)).upd (by decide) (by decide)) (by rw [pk_us, nI_1]) (by omega) (by rw [← hres, drop_get (W := T) (i := pp) (by omega), drop_get (W := T) (i := pp + 1) hin, c17, qtx_eq hq]) (by rw [List.length_append]; simp; omega) rfl
          · skip
            have hb9 := T_lt hT (pp + 1)
            have c28 : ¬ (T.getD (pp + 1) 0 = 9) := fun z => c28 (by rw [z]; rfl)
            refine And.intro (fun c31 => ?_) (fun c31 => ?_)
            · skip
              have c31 := (nI_ltI (a := T.getD (pp + 1) 0) (b := 32) (by omega) (by omega)).mp c31
              refine vx_go hC hFt hini (vx_ends hC hr hlk) jc_Mo_quoted 35 (by decide) rfl ?_
              refine And.intro (rfl) (And.intro ?_ (And.intro (Nat.le_refl _) (Nat.le_refl _)))
              exact qP.no (by rw [← hres, drop_get (W := T) (i := pp) (by omega), drop_get (W := T) (i := pp + 1) (by omega), c17, qtx_en (by simp only [isQt, decide_eq_false_iff_not]; omega)]) (hfr.upd (by decide) (by decide))
            · skip
              have c31 : ¬ (T.getD (pp + 1) 0 < 32) := fun z => c31 ((nI_ltI (a := T.getD (pp + 1) 0) (b := 32) (by omega) (by omega)).mpr z)
              refine And.intro (fun c34 => ?_) (fun c34 => ?_)
              · skip
                have c34 : ¬ (T.getD (pp + 1) 0 = 127) := fun z => c34 (by rw [z]; rfl)
                have hq : isQt (T.getD (pp + 1) 0) = true := by simp only [isQt, decide_eq_true_eq]; omega
                have hin : pp + 1 < T.length := T_in (by omega)
                refine vx_go hC hFt hini (vx_ends hC hr hlk) jc_Mo_quoted 37 (by decide) rfl ?_
                refine And.intro (fun c40 => ?_) (fun c40 => ?_)
                · skip
                  have c40 : ¬ (S.length + 1 = 1) := fun z => c40 (show nI S.length + nI 1 = nI 1 by rw [nI_add, z])
                  refine vx_go hC hFt hini (vx_ends hC hr hlk) jc_Mo_quoted 46 (by decide) rfl ?_
                  refine And.intro rfl ?_
                  refine And.intro rfl ?_
                  refine And.intro rfl (And.intro (And.intro rfl rfl) ?_)
                  refine Vx.subL (lv' := [(0, .ref h), (1, .int (nI S.length + 1)), (2, .int (bI false))]) [3, 1, 0] rfl ?_
                  have hone : decide (S ++ [(T.getD (pp + 1) 0)] = [49]) = false := by rw [← one_dec, decide_eq_false c40]; rfl
                  refine Vx.eqs rfl (lv2 := [(0, .ref h), (1, .int (nI (S ++ [(T.getD (pp + 1) 0)]).length)), (2, .int (bI (decide (S ++ [(T.getD (pp + 1) 0)] = [49]))))]) (by rw [hone, nI_1, List.length_append]; rfl) rfl (show _ = mdW tc h ar now (upd (upd s2 12 (nI (pp + 1))) 12 (nI (pp + 1) + 1)) ai al from rfl) ?_
                  exact ih (T.length - (pp + 2)) (by omega) (upd (upd s2 12 (nI (pp + 1))) 12 (nI (pp + 1) + 1)) (pp + 2) (S ++ [(T.getD (pp + 1) 0)]) ((hfr.upd (by decide) (by decide)).upd (by decide) (by decide)) (by rw [pk_us, nI_1]) (by omega) (by rw [← hres, drop_get (W := T) (i := pp) (by omega), drop_get (W := T) (i := pp + 1) hin, c17, qtx_eq hq]) (by rw [List.length_append]; simp; omega) rfl
                · skip
                  have c40 : S.length + 1 = 1 := (nI_eq (a := S.length + 1) (b := 1) (by omega) (by omega)).mp (by rw [← nI_add]; exact c40)
                  refine And.intro (fun c43 => ?_) (fun c43 => ?_)
                  · skip
                    have c43 : ¬ (T.getD (pp + 1) 0 = 49) := fun z => c43 (by rw [z]; rfl)
                    refine vx_go hC hFt hini (vx_ends hC hr hlk) jc_Mo_quoted 46 (by decide) rfl ?_
                    refine And.intro rfl ?_
                    refine And.intro rfl ?_
                    refine And.intro rfl (And.intro (And.intro rfl rfl) ?_)
                    refine Vx.subL (lv' := [(0, .ref h), (1, .int (nI S.length + 1)), (2, .int (bI false))]) [3, 1, 0] rfl ?_
                    have hone : decide (S ++ [(T.getD (pp + 1) 0)] = [49]) = false := by rw [← one_dec, decide_eq_false c43, Bool.and_false]
                    refine Vx.eqs rfl (lv2 := [(0, .ref h), (1, .int (nI (S ++ [(T.getD (pp + 1) 0)]).length)), (2, .int (bI (decide (S ++ [(T.getD (pp + 1) 0)] = [49]))))]) (by rw [hone, nI_1, List.length_append]; rfl) rfl (show _ = mdW tc h ar now (upd (upd s2 12 (nI (pp + 1))) 12 (nI (pp + 1) + 1)) ai al from rfl) ?_
                    exact ih (T.length - (pp + 2)) (by omega) (upd (upd s2 12 (nI (pp + 1))) 12 (nI (pp + 1) + 1)) (pp + 2) (S ++ [(T.getD (pp + 1) 0)]) ((hfr.upd (by decide) (by decide)).upd (by decide) (by decide)) (by rw [pk_us, nI_1]) (by omega) (by rw [← hres, drop_get (W := T) (i := pp) (by omega), drop_get (W := T) (i := pp + 1) hin, c17, qtx_eq hq]) (by rw [List.length_append]; simp; omega) rfl
                  · skip
                    have c43 : T.getD (pp + 1) 0 = 49 := (nI_eq (by have := T_lt hT ((pp + 1)); omega) (by omega)).mp c43
                    refine vx_go hC hFt hini (vx_ends hC hr hlk) jc_Mo_quoted 47 (by decide) rfl ?_
                    refine And.intro rfl ?_
                    refine And.intro rfl ?_
                    refine And.intro rfl (And.intro (And.intro rfl rfl) ?_)
                    refine Vx.subL (lv' := [(0, .ref h), (1, .int (nI S.length + 1)), (2, .int (bI true))]) [3, 1, 0] rfl ?_
                    have hone : decide (S ++ [(T.getD (pp + 1) 0)] = [49]) = true := by rw [← one_dec, decide_eq_true c40, decide_eq_true c43]; rfl
                    refine Vx.eqs rfl (lv2 := [(0, .ref h), (1, .int (nI (S ++ [(T.getD (pp + 1) 0)]).length)), (2, .int (bI (decide (S ++ [(T.getD (pp + 1) 0)] = [49]))))]) (by rw [hone, nI_1, List.length_append]; rfl) rfl (show _ = mdW tc h ar now (upd (upd s2 12 (nI (pp + 1))) 12 (nI (pp + 1) + 1)) ai al from rfl) ?_
                    exact ih (T.length - (pp + 2)) (by omega) (upd (upd s2 12 (nI (pp + 1))) 12 (nI (pp + 1) + 1)) (pp + 2) (S ++ [(T.getD (pp + 1) 0)]) ((hfr.upd (by decide) (by decide)).upd (by decide) (by decide)) (by rw [pk_us, nI_1]) (by omega) (by rw [← hres, drop_get (W := T) (i := pp) (by omega), drop_get (W := T) (i := pp + 1) hin, c17, qtx_eq hq]) (by rw [List.length_append]; simp; omega) rfl
              · skip
                have c34 : T.getD (pp + 1) 0 = 127 := (nI_eq (by have := T_lt hT ((pp + 1)); omega) (by omega)).mp c34
                refine And.intro (rfl) (And.intro ?_ (And.intro (Nat.le_refl _) (Nat.le_refl _)))
                exact qP.no (by rw [← hres, drop_get (W := T) (i := pp) (by omega), drop_get (W := T) (i := pp + 1) (by omega), c17, qtx_en (by simp only [isQt, decide_eq_false_iff_not]; omega)]) (hfr.upd (by decide) (by decide))
        · skip
          have c20 : T.length ≤ pp + 1 := of_decide_eq_true (bI_ne c20)
          refine And.intro (rfl) (And.intro ?_ (And.intro (Nat.le_refl _) (Nat.le_refl _)))
          exact qP.no (by rw [← hres, drop_get (W := T) (i := pp) (by omega), drop_end (W := T) (i := pp + 1) c20, c17, qtx_e]) (hfr.upd (by decide) (by decide))
end
