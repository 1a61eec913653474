-- ===== PART A: goes FIRST, ahead of the names: the tables' words, and 'selects' of the private methods out of them =====
/-- a private method of a class that the tables say can be made, by its rows of tables_1 -/
def lw_okq (q : MethodName × Nat) : Prop := (q.1.cls ≠ "java/lang/invoke/MethodHandle" ∧ q.1.cls ≠ "java/lang/invoke/VarHandle") ∧ Cond.instantiable q.1.cls q.2 ∈ tables_1 ∧ Cond.privateMethod q.1 ∈ tables_1 ∧ Cond.instanceMethod q.1 ∈ tables_1
theorem lw_p0 : lw_okq (⟨"ArgumentMender$Tape", "isLetter", "()Z"⟩, 6) := ⟨⟨by decide +kernel, by decide +kernel⟩, List.mem_of_getElem? (i := 36) (by decide +kernel), List.mem_of_getElem? (i := 487) (by decide +kernel), List.mem_of_getElem? (i := 488) (by decide +kernel)⟩
theorem lw_p1 : lw_okq (⟨"ArgumentMender$Tape", "isDigit", "()Z"⟩, 6) := ⟨⟨by decide +kernel, by decide +kernel⟩, List.mem_of_getElem? (i := 36) (by decide +kernel), List.mem_of_getElem? (i := 491) (by decide +kernel), List.mem_of_getElem? (i := 492) (by decide +kernel)⟩
theorem lw_p2 : lw_okq (⟨"ArgumentMender$Reader", "readLine", "()Z"⟩, 5) := ⟨⟨by decide +kernel, by decide +kernel⟩, List.mem_of_getElem? (i := 30) (by decide +kernel), List.mem_of_getElem? (i := 499) (by decide +kernel), List.mem_of_getElem? (i := 500) (by decide +kernel)⟩
theorem lw_p3 : lw_okq (⟨"ArgumentMender$Reader", "readHead", "()Z"⟩, 5) := ⟨⟨by decide +kernel, by decide +kernel⟩, List.mem_of_getElem? (i := 30) (by decide +kernel), List.mem_of_getElem? (i := 556) (by decide +kernel), List.mem_of_getElem? (i := 557) (by decide +kernel)⟩
theorem lw_p4 : lw_okq (⟨"ArgumentMender$Reader", "takeWord", "(Ljava/lang/String;)Z"⟩, 5) := ⟨⟨by decide +kernel, by decide +kernel⟩, List.mem_of_getElem? (i := 30) (by decide +kernel), List.mem_of_getElem? (i := 561) (by decide +kernel), List.mem_of_getElem? (i := 562) (by decide +kernel)⟩
theorem lw_p5 : lw_okq (⟨"ArgumentMender$Reader", "fail", "(I)Z"⟩, 5) := ⟨⟨by decide +kernel, by decide +kernel⟩, List.mem_of_getElem? (i := 30) (by decide +kernel), List.mem_of_getElem? (i := 565) (by decide +kernel), List.mem_of_getElem? (i := 566) (by decide +kernel)⟩
theorem lw_p6 : lw_okq (⟨"ArgumentMender$Reader", "takeNumber", "(II)Z"⟩, 5) := ⟨⟨by decide +kernel, by decide +kernel⟩, List.mem_of_getElem? (i := 30) (by decide +kernel), List.mem_of_getElem? (i := 569) (by decide +kernel), List.mem_of_getElem? (i := 570) (by decide +kernel)⟩
theorem lw_p7 : lw_okq (⟨"ArgumentMender$Reader", "readClaim", "()Z"⟩, 5) := ⟨⟨by decide +kernel, by decide +kernel⟩, List.mem_of_getElem? (i := 30) (by decide +kernel), List.mem_of_getElem? (i := 576) (by decide +kernel), List.mem_of_getElem? (i := 577) (by decide +kernel)⟩
theorem lw_p8 : lw_okq (⟨"ArgumentMender$Reader", "readThread", "()Z"⟩, 5) := ⟨⟨by decide +kernel, by decide +kernel⟩, List.mem_of_getElem? (i := 30) (by decide +kernel), List.mem_of_getElem? (i := 581) (by decide +kernel), List.mem_of_getElem? (i := 582) (by decide +kernel)⟩
theorem lw_p9 : lw_okq (⟨"ArgumentMender$Reader", "readQuarrel", "()Z"⟩, 5) := ⟨⟨by decide +kernel, by decide +kernel⟩, List.mem_of_getElem? (i := 30) (by decide +kernel), List.mem_of_getElem? (i := 589) (by decide +kernel), List.mem_of_getElem? (i := 590) (by decide +kernel)⟩
theorem lw_p10 : lw_okq (⟨"ArgumentMender$Reader", "takeSign", "()Z"⟩, 5) := ⟨⟨by decide +kernel, by decide +kernel⟩, List.mem_of_getElem? (i := 30) (by decide +kernel), List.mem_of_getElem? (i := 595) (by decide +kernel), List.mem_of_getElem? (i := 596) (by decide +kernel)⟩
theorem lw_p11 : lw_okq (⟨"ArgumentMender", "refresh", "()V"⟩, 9) := ⟨⟨by decide +kernel, by decide +kernel⟩, List.mem_of_getElem? (i := 22) (by decide +kernel), List.mem_of_getElem? (i := 615) (by decide +kernel), List.mem_of_getElem? (i := 616) (by decide +kernel)⟩
theorem lw_p12 : lw_okq (⟨"ArgumentMender$Years", "begin", "(LArgumentMender$Cloth;)V"⟩, 12) := ⟨⟨by decide +kernel, by decide +kernel⟩, List.mem_of_getElem? (i := 226) (by decide +kernel), List.mem_of_getElem? (i := 628) (by decide +kernel), List.mem_of_getElem? (i := 629) (by decide +kernel)⟩
theorem lw_p13 : lw_okq (⟨"ArgumentMender$Years", "letIn", "(LArgumentMender$Acts;I[I)V"⟩, 12) := ⟨⟨by decide +kernel, by decide +kernel⟩, List.mem_of_getElem? (i := 226) (by decide +kernel), List.mem_of_getElem? (i := 635) (by decide +kernel), List.mem_of_getElem? (i := 636) (by decide +kernel)⟩
theorem lw_p14 : lw_okq (⟨"ArgumentMender$Tug", "begin", "(II)V"⟩, 10) := ⟨⟨by decide +kernel, by decide +kernel⟩, List.mem_of_getElem? (i := 234) (by decide +kernel), List.mem_of_getElem? (i := 644) (by decide +kernel), List.mem_of_getElem? (i := 645) (by decide +kernel)⟩
theorem lw_p15 : lw_okq (⟨"ArgumentMender$Tug", "divide", "(LArgumentMender$Cloth;I[II)V"⟩, 10) := ⟨⟨by decide +kernel, by decide +kernel⟩, List.mem_of_getElem? (i := 234) (by decide +kernel), List.mem_of_getElem? (i := 649) (by decide +kernel), List.mem_of_getElem? (i := 650) (by decide +kernel)⟩
def lw_privs_1 : List (MethodName × Nat) := [(⟨"ArgumentMender$Tape", "isLetter", "()Z"⟩, 6), (⟨"ArgumentMender$Tape", "isDigit", "()Z"⟩, 6), (⟨"ArgumentMender$Reader", "readLine", "()Z"⟩, 5), (⟨"ArgumentMender$Reader", "readHead", "()Z"⟩, 5), (⟨"ArgumentMender$Reader", "takeWord", "(Ljava/lang/String;)Z"⟩, 5), (⟨"ArgumentMender$Reader", "fail", "(I)Z"⟩, 5), (⟨"ArgumentMender$Reader", "takeNumber", "(II)Z"⟩, 5), (⟨"ArgumentMender$Reader", "readClaim", "()Z"⟩, 5), (⟨"ArgumentMender$Reader", "readThread", "()Z"⟩, 5), (⟨"ArgumentMender$Reader", "readQuarrel", "()Z"⟩, 5), (⟨"ArgumentMender$Reader", "takeSign", "()Z"⟩, 5), (⟨"ArgumentMender", "refresh", "()V"⟩, 9), (⟨"ArgumentMender$Years", "begin", "(LArgumentMender$Cloth;)V"⟩, 12), (⟨"ArgumentMender$Years", "letIn", "(LArgumentMender$Acts;I[I)V"⟩, 12), (⟨"ArgumentMender$Tug", "begin", "(II)V"⟩, 10), (⟨"ArgumentMender$Tug", "divide", "(LArgumentMender$Cloth;I[II)V"⟩, 10)]
theorem lw_r1 : ∀ q ∈ lw_privs_1, lw_okq q := List.forall_mem_cons.mpr ⟨lw_p0, List.forall_mem_cons.mpr ⟨lw_p1, List.forall_mem_cons.mpr ⟨lw_p2, List.forall_mem_cons.mpr ⟨lw_p3, List.forall_mem_cons.mpr ⟨lw_p4, List.forall_mem_cons.mpr ⟨lw_p5, List.forall_mem_cons.mpr ⟨lw_p6, List.forall_mem_cons.mpr ⟨lw_p7, List.forall_mem_cons.mpr ⟨lw_p8, List.forall_mem_cons.mpr ⟨lw_p9, List.forall_mem_cons.mpr ⟨lw_p10, List.forall_mem_cons.mpr ⟨lw_p11, List.forall_mem_cons.mpr ⟨lw_p12, List.forall_mem_cons.mpr ⟨lw_p13, List.forall_mem_cons.mpr ⟨lw_p14, List.forall_mem_cons.mpr ⟨lw_p15, fun _ h => absurd h List.not_mem_nil⟩⟩⟩⟩⟩⟩⟩⟩⟩⟩⟩⟩⟩⟩⟩⟩
theorem lw_p16 : lw_okq (⟨"ArgumentMender$Tug", "survey", "(LArgumentMender$Cloth;[II)V"⟩, 10) := ⟨⟨by decide +kernel, by decide +kernel⟩, List.mem_of_getElem? (i := 234) (by decide +kernel), List.mem_of_getElem? (i := 653) (by decide +kernel), List.mem_of_getElem? (i := 654) (by decide +kernel)⟩
theorem lw_p17 : lw_okq (⟨"ArgumentMender$Tug", "evenly", "(LArgumentMender$Cloth;[II)V"⟩, 10) := ⟨⟨by decide +kernel, by decide +kernel⟩, List.mem_of_getElem? (i := 234) (by decide +kernel), List.mem_of_getElem? (i := 657) (by decide +kernel), List.mem_of_getElem? (i := 658) (by decide +kernel)⟩
theorem lw_p18 : lw_okq (⟨"ArgumentMender$Tug", "byStrength", "(LArgumentMender$Cloth;[II)V"⟩, 10) := ⟨⟨by decide +kernel, by decide +kernel⟩, List.mem_of_getElem? (i := 234) (by decide +kernel), List.mem_of_getElem? (i := 661) (by decide +kernel), List.mem_of_getElem? (i := 662) (by decide +kernel)⟩
theorem lw_p19 : lw_okq (⟨"ArgumentMender$Tug", "passOn", "(LArgumentMender$Cloth;I)V"⟩, 10) := ⟨⟨by decide +kernel, by decide +kernel⟩, List.mem_of_getElem? (i := 234) (by decide +kernel), List.mem_of_getElem? (i := 665) (by decide +kernel), List.mem_of_getElem? (i := 666) (by decide +kernel)⟩
theorem lw_p20 : lw_okq (⟨"ArgumentMender$Tug", "tear", "(LArgumentMender$Cloth;[I)Z"⟩, 10) := ⟨⟨by decide +kernel, by decide +kernel⟩, List.mem_of_getElem? (i := 234) (by decide +kernel), List.mem_of_getElem? (i := 669) (by decide +kernel), List.mem_of_getElem? (i := 670) (by decide +kernel)⟩
theorem lw_p21 : lw_okq (⟨"ArgumentMender$Years", "addUp", "(LArgumentMender$Cloth;)V"⟩, 12) := ⟨⟨by decide +kernel, by decide +kernel⟩, List.mem_of_getElem? (i := 226) (by decide +kernel), List.mem_of_getElem? (i := 673) (by decide +kernel), List.mem_of_getElem? (i := 674) (by decide +kernel)⟩
theorem lw_p22 : lw_okq (⟨"ArgumentMender$Years", "note", "(I)V"⟩, 12) := ⟨⟨by decide +kernel, by decide +kernel⟩, List.mem_of_getElem? (i := 226) (by decide +kernel), List.mem_of_getElem? (i := 677) (by decide +kernel), List.mem_of_getElem? (i := 678) (by decide +kernel)⟩
theorem lw_p23 : lw_okq (⟨"ArgumentMender", "firstWithout", "(I)I"⟩, 9) := ⟨⟨by decide +kernel, by decide +kernel⟩, List.mem_of_getElem? (i := 22) (by decide +kernel), List.mem_of_getElem? (i := 758) (by decide +kernel), List.mem_of_getElem? (i := 759) (by decide +kernel)⟩
theorem lw_p24 : lw_okq (⟨"ArgumentMender", "together", "(I)I"⟩, 9) := ⟨⟨by decide +kernel, by decide +kernel⟩, List.mem_of_getElem? (i := 22) (by decide +kernel), List.mem_of_getElem? (i := 766) (by decide +kernel), List.mem_of_getElem? (i := 767) (by decide +kernel)⟩
theorem lw_p25 : lw_okq (⟨"ArgumentMender", "canTry", "(III)Z"⟩, 9) := ⟨⟨by decide +kernel, by decide +kernel⟩, List.mem_of_getElem? (i := 22) (by decide +kernel), List.mem_of_getElem? (i := 862) (by decide +kernel), List.mem_of_getElem? (i := 863) (by decide +kernel)⟩
theorem lw_p26 : lw_okq (⟨"ArgumentMender", "leastWord", "(II)I"⟩, 9) := ⟨⟨by decide +kernel, by decide +kernel⟩, List.mem_of_getElem? (i := 22) (by decide +kernel), List.mem_of_getElem? (i := 904) (by decide +kernel), List.mem_of_getElem? (i := 905) (by decide +kernel)⟩
theorem lw_p27 : lw_okq (⟨"ArgumentMender$Web", "reaches", "(LArgumentMender$Cloth;[III)Z"⟩, 2) := ⟨⟨by decide +kernel, by decide +kernel⟩, List.mem_of_getElem? (i := 335) (by decide +kernel), List.mem_of_getElem? (i := 931) (by decide +kernel), List.mem_of_getElem? (i := 932) (by decide +kernel)⟩
theorem lw_p28 : lw_okq (⟨"ArgumentMender$Web", "turned", "(LArgumentMender$Cloth;II)I"⟩, 2) := ⟨⟨by decide +kernel, by decide +kernel⟩, List.mem_of_getElem? (i := 335) (by decide +kernel), List.mem_of_getElem? (i := 939) (by decide +kernel), List.mem_of_getElem? (i := 940) (by decide +kernel)⟩
theorem lw_p29 : lw_okq (⟨"ArgumentMender", "hangingAtLast", "()I"⟩, 9) := ⟨⟨by decide +kernel, by decide +kernel⟩, List.mem_of_getElem? (i := 22) (by decide +kernel), List.mem_of_getElem? (i := 955) (by decide +kernel), List.mem_of_getElem? (i := 956) (by decide +kernel)⟩
theorem lw_p30 : lw_okq (⟨"ArgumentMender", "look", "(II)I"⟩, 9) := ⟨⟨by decide +kernel, by decide +kernel⟩, List.mem_of_getElem? (i := 22) (by decide +kernel), List.mem_of_getElem? (i := 984) (by decide +kernel), List.mem_of_getElem? (i := 985) (by decide +kernel)⟩
theorem lw_p31 : lw_okq (⟨"ArgumentMender$Sight", "agrees", "(LArgumentMender$Slot;)Z"⟩, 4) := ⟨⟨by decide +kernel, by decide +kernel⟩, List.mem_of_getElem? (i := 382) (by decide +kernel), List.mem_of_getElem? (i := 1009) (by decide +kernel), List.mem_of_getElem? (i := 1010) (by decide +kernel)⟩
def lw_privs_2 : List (MethodName × Nat) := [(⟨"ArgumentMender$Tug", "survey", "(LArgumentMender$Cloth;[II)V"⟩, 10), (⟨"ArgumentMender$Tug", "evenly", "(LArgumentMender$Cloth;[II)V"⟩, 10), (⟨"ArgumentMender$Tug", "byStrength", "(LArgumentMender$Cloth;[II)V"⟩, 10), (⟨"ArgumentMender$Tug", "passOn", "(LArgumentMender$Cloth;I)V"⟩, 10), (⟨"ArgumentMender$Tug", "tear", "(LArgumentMender$Cloth;[I)Z"⟩, 10), (⟨"ArgumentMender$Years", "addUp", "(LArgumentMender$Cloth;)V"⟩, 12), (⟨"ArgumentMender$Years", "note", "(I)V"⟩, 12), (⟨"ArgumentMender", "firstWithout", "(I)I"⟩, 9), (⟨"ArgumentMender", "together", "(I)I"⟩, 9), (⟨"ArgumentMender", "canTry", "(III)Z"⟩, 9), (⟨"ArgumentMender", "leastWord", "(II)I"⟩, 9), (⟨"ArgumentMender$Web", "reaches", "(LArgumentMender$Cloth;[III)Z"⟩, 2), (⟨"ArgumentMender$Web", "turned", "(LArgumentMender$Cloth;II)I"⟩, 2), (⟨"ArgumentMender", "hangingAtLast", "()I"⟩, 9), (⟨"ArgumentMender", "look", "(II)I"⟩, 9), (⟨"ArgumentMender$Sight", "agrees", "(LArgumentMender$Slot;)Z"⟩, 4)]
theorem lw_r2 : ∀ q ∈ lw_privs_2, lw_okq q := List.forall_mem_cons.mpr ⟨lw_p16, List.forall_mem_cons.mpr ⟨lw_p17, List.forall_mem_cons.mpr ⟨lw_p18, List.forall_mem_cons.mpr ⟨lw_p19, List.forall_mem_cons.mpr ⟨lw_p20, List.forall_mem_cons.mpr ⟨lw_p21, List.forall_mem_cons.mpr ⟨lw_p22, List.forall_mem_cons.mpr ⟨lw_p23, List.forall_mem_cons.mpr ⟨lw_p24, List.forall_mem_cons.mpr ⟨lw_p25, List.forall_mem_cons.mpr ⟨lw_p26, List.forall_mem_cons.mpr ⟨lw_p27, List.forall_mem_cons.mpr ⟨lw_p28, List.forall_mem_cons.mpr ⟨lw_p29, List.forall_mem_cons.mpr ⟨lw_p30, List.forall_mem_cons.mpr ⟨lw_p31, fun _ h => absurd h List.not_mem_nil⟩⟩⟩⟩⟩⟩⟩⟩⟩⟩⟩⟩⟩⟩⟩⟩
theorem lw_p32 : lw_okq (⟨"ArgumentMender", "areTwo", "(II)Z"⟩, 9) := ⟨⟨by decide +kernel, by decide +kernel⟩, List.mem_of_getElem? (i := 22) (by decide +kernel), List.mem_of_getElem? (i := 1079) (by decide +kernel), List.mem_of_getElem? (i := 1080) (by decide +kernel)⟩
theorem lw_p33 : lw_okq (⟨"ArgumentMender", "expected", "(II)J"⟩, 9) := ⟨⟨by decide +kernel, by decide +kernel⟩, List.mem_of_getElem? (i := 22) (by decide +kernel), List.mem_of_getElem? (i := 1096) (by decide +kernel), List.mem_of_getElem? (i := 1097) (by decide +kernel)⟩
theorem lw_p34 : lw_okq (⟨"ArgumentMender", "act", "(IIII)I"⟩, 9) := ⟨⟨by decide +kernel, by decide +kernel⟩, List.mem_of_getElem? (i := 22) (by decide +kernel), List.mem_of_getElem? (i := 1113) (by decide +kernel), List.mem_of_getElem? (i := 1114) (by decide +kernel)⟩
theorem lw_p35 : lw_okq (⟨"ArgumentMender", "drawEvening", "(I)I"⟩, 9) := ⟨⟨by decide +kernel, by decide +kernel⟩, List.mem_of_getElem? (i := 22) (by decide +kernel), List.mem_of_getElem? (i := 1138) (by decide +kernel), List.mem_of_getElem? (i := 1139) (by decide +kernel)⟩
theorem lw_p36 : lw_okq (⟨"ArgumentMender", "rowsThere", "()I"⟩, 9) := ⟨⟨by decide +kernel, by decide +kernel⟩, List.mem_of_getElem? (i := 22) (by decide +kernel), List.mem_of_getElem? (i := 1158) (by decide +kernel), List.mem_of_getElem? (i := 1159) (by decide +kernel)⟩
theorem lw_p37 : lw_okq (⟨"ArgumentMenderModel", "advance", "()V"⟩, 49) := ⟨⟨by decide +kernel, by decide +kernel⟩, List.mem_of_getElem? (i := 1198) (by decide +kernel), List.mem_of_getElem? (i := 1379) (by decide +kernel), List.mem_of_getElem? (i := 1380) (by decide +kernel)⟩
theorem lw_p38 : lw_okq (⟨"ArgumentMenderModel", "see", "(I)I"⟩, 49) := ⟨⟨by decide +kernel, by decide +kernel⟩, List.mem_of_getElem? (i := 1198) (by decide +kernel), List.mem_of_getElem? (i := 1383) (by decide +kernel), List.mem_of_getElem? (i := 1384) (by decide +kernel)⟩
theorem lw_p39 : lw_okq (⟨"ArgumentMenderModel", "good", "()Z"⟩, 49) := ⟨⟨by decide +kernel, by decide +kernel⟩, List.mem_of_getElem? (i := 1198) (by decide +kernel), List.mem_of_getElem? (i := 1393) (by decide +kernel), List.mem_of_getElem? (i := 1394) (by decide +kernel)⟩
theorem lw_p40 : lw_okq (⟨"ArgumentMenderModel", "readLine", "()V"⟩, 49) := ⟨⟨by decide +kernel, by decide +kernel⟩, List.mem_of_getElem? (i := 1198) (by decide +kernel), List.mem_of_getElem? (i := 1397) (by decide +kernel), List.mem_of_getElem? (i := 1398) (by decide +kernel)⟩
theorem lw_p41 : lw_okq (⟨"ArgumentMenderModel", "readFirst", "()V"⟩, 49) := ⟨⟨by decide +kernel, by decide +kernel⟩, List.mem_of_getElem? (i := 1198) (by decide +kernel), List.mem_of_getElem? (i := 1401) (by decide +kernel), List.mem_of_getElem? (i := 1402) (by decide +kernel)⟩
theorem lw_p42 : lw_okq (⟨"ArgumentMenderModel", "expects", "(Ljava/lang/String;)V"⟩, 49) := ⟨⟨by decide +kernel, by decide +kernel⟩, List.mem_of_getElem? (i := 1198) (by decide +kernel), List.mem_of_getElem? (i := 1406) (by decide +kernel), List.mem_of_getElem? (i := 1407) (by decide +kernel)⟩
theorem lw_p43 : lw_okq (⟨"ArgumentMenderModel", "takes", "(Ljava/lang/String;)Z"⟩, 49) := ⟨⟨by decide +kernel, by decide +kernel⟩, List.mem_of_getElem? (i := 1198) (by decide +kernel), List.mem_of_getElem? (i := 1410) (by decide +kernel), List.mem_of_getElem? (i := 1411) (by decide +kernel)⟩
theorem lw_p44 : lw_okq (⟨"ArgumentMenderModel", "is", "(Ljava/lang/String;)Z"⟩, 49) := ⟨⟨by decide +kernel, by decide +kernel⟩, List.mem_of_getElem? (i := 1198) (by decide +kernel), List.mem_of_getElem? (i := 1414) (by decide +kernel), List.mem_of_getElem? (i := 1415) (by decide +kernel)⟩
theorem lw_p45 : lw_okq (⟨"ArgumentMenderModel", "errs", "(I)V"⟩, 49) := ⟨⟨by decide +kernel, by decide +kernel⟩, List.mem_of_getElem? (i := 1198) (by decide +kernel), List.mem_of_getElem? (i := 1420) (by decide +kernel), List.mem_of_getElem? (i := 1421) (by decide +kernel)⟩
theorem lw_p46 : lw_okq (⟨"ArgumentMenderModel", "toldBy", "(Ljava/lang/String;II)I"⟩, 49) := ⟨⟨by decide +kernel, by decide +kernel⟩, List.mem_of_getElem? (i := 1198) (by decide +kernel), List.mem_of_getElem? (i := 1425) (by decide +kernel), List.mem_of_getElem? (i := 1426) (by decide +kernel)⟩
theorem lw_p47 : lw_okq (⟨"ArgumentMenderModel", "number", "(II)I"⟩, 49) := ⟨⟨by decide +kernel, by decide +kernel⟩, List.mem_of_getElem? (i := 1198) (by decide +kernel), List.mem_of_getElem? (i := 1429) (by decide +kernel), List.mem_of_getElem? (i := 1430) (by decide +kernel)⟩
def lw_privs_3 : List (MethodName × Nat) := [(⟨"ArgumentMender", "areTwo", "(II)Z"⟩, 9), (⟨"ArgumentMender", "expected", "(II)J"⟩, 9), (⟨"ArgumentMender", "act", "(IIII)I"⟩, 9), (⟨"ArgumentMender", "drawEvening", "(I)I"⟩, 9), (⟨"ArgumentMender", "rowsThere", "()I"⟩, 9), (⟨"ArgumentMenderModel", "advance", "()V"⟩, 49), (⟨"ArgumentMenderModel", "see", "(I)I"⟩, 49), (⟨"ArgumentMenderModel", "good", "()Z"⟩, 49), (⟨"ArgumentMenderModel", "readLine", "()V"⟩, 49), (⟨"ArgumentMenderModel", "readFirst", "()V"⟩, 49), (⟨"ArgumentMenderModel", "expects", "(Ljava/lang/String;)V"⟩, 49), (⟨"ArgumentMenderModel", "takes", "(Ljava/lang/String;)Z"⟩, 49), (⟨"ArgumentMenderModel", "is", "(Ljava/lang/String;)Z"⟩, 49), (⟨"ArgumentMenderModel", "errs", "(I)V"⟩, 49), (⟨"ArgumentMenderModel", "toldBy", "(Ljava/lang/String;II)I"⟩, 49), (⟨"ArgumentMenderModel", "number", "(II)I"⟩, 49)]
theorem lw_r3 : ∀ q ∈ lw_privs_3, lw_okq q := List.forall_mem_cons.mpr ⟨lw_p32, List.forall_mem_cons.mpr ⟨lw_p33, List.forall_mem_cons.mpr ⟨lw_p34, List.forall_mem_cons.mpr ⟨lw_p35, List.forall_mem_cons.mpr ⟨lw_p36, List.forall_mem_cons.mpr ⟨lw_p37, List.forall_mem_cons.mpr ⟨lw_p38, List.forall_mem_cons.mpr ⟨lw_p39, List.forall_mem_cons.mpr ⟨lw_p40, List.forall_mem_cons.mpr ⟨lw_p41, List.forall_mem_cons.mpr ⟨lw_p42, List.forall_mem_cons.mpr ⟨lw_p43, List.forall_mem_cons.mpr ⟨lw_p44, List.forall_mem_cons.mpr ⟨lw_p45, List.forall_mem_cons.mpr ⟨lw_p46, List.forall_mem_cons.mpr ⟨lw_p47, fun _ h => absurd h List.not_mem_nil⟩⟩⟩⟩⟩⟩⟩⟩⟩⟩⟩⟩⟩⟩⟩⟩
theorem lw_p48 : lw_okq (⟨"ArgumentMenderModel", "readNext", "()V"⟩, 49) := ⟨⟨by decide +kernel, by decide +kernel⟩, List.mem_of_getElem? (i := 1198) (by decide +kernel), List.mem_of_getElem? (i := 1435) (by decide +kernel), List.mem_of_getElem? (i := 1436) (by decide +kernel)⟩
theorem lw_p49 : lw_okq (⟨"ArgumentMenderModel", "isFull", "()Z"⟩, 49) := ⟨⟨by decide +kernel, by decide +kernel⟩, List.mem_of_getElem? (i := 1198) (by decide +kernel), List.mem_of_getElem? (i := 1442) (by decide +kernel), List.mem_of_getElem? (i := 1443) (by decide +kernel)⟩
theorem lw_p50 : lw_okq (⟨"ArgumentMenderModel", "readThread", "()V"⟩, 49) := ⟨⟨by decide +kernel, by decide +kernel⟩, List.mem_of_getElem? (i := 1198) (by decide +kernel), List.mem_of_getElem? (i := 1446) (by decide +kernel), List.mem_of_getElem? (i := 1447) (by decide +kernel)⟩
theorem lw_p51 : lw_okq (⟨"ArgumentMenderModel", "readQuarrel", "()V"⟩, 49) := ⟨⟨by decide +kernel, by decide +kernel⟩, List.mem_of_getElem? (i := 1198) (by decide +kernel), List.mem_of_getElem? (i := 1453) (by decide +kernel), List.mem_of_getElem? (i := 1454) (by decide +kernel)⟩
theorem lw_p52 : lw_okq (⟨"ArgumentMenderModel", "isThread", "(J)Z"⟩, 49) := ⟨⟨by decide +kernel, by decide +kernel⟩, List.mem_of_getElem? (i := 1198) (by decide +kernel), List.mem_of_getElem? (i := 1463) (by decide +kernel), List.mem_of_getElem? (i := 1464) (by decide +kernel)⟩
theorem lw_p53 : lw_okq (⟨"ArgumentMenderModel", "threadMany", "()I"⟩, 49) := ⟨⟨by decide +kernel, by decide +kernel⟩, List.mem_of_getElem? (i := 1198) (by decide +kernel), List.mem_of_getElem? (i := 1467) (by decide +kernel), List.mem_of_getElem? (i := 1468) (by decide +kernel)⟩
theorem lw_p54 : lw_okq (⟨"ArgumentMenderModel", "isQuarrel", "(I)Z"⟩, 49) := ⟨⟨by decide +kernel, by decide +kernel⟩, List.mem_of_getElem? (i := 1198) (by decide +kernel), List.mem_of_getElem? (i := 1475) (by decide +kernel), List.mem_of_getElem? (i := 1476) (by decide +kernel)⟩
theorem lw_p55 : lw_okq (⟨"ArgumentMenderModel", "quarrelMany", "()I"⟩, 49) := ⟨⟨by decide +kernel, by decide +kernel⟩, List.mem_of_getElem? (i := 1198) (by decide +kernel), List.mem_of_getElem? (i := 1479) (by decide +kernel), List.mem_of_getElem? (i := 1480) (by decide +kernel)⟩
theorem lw_p56 : lw_okq (⟨"ArgumentMenderModel", "quarrelOf", "(II)I"⟩, 49) := ⟨⟨by decide +kernel, by decide +kernel⟩, List.mem_of_getElem? (i := 1198) (by decide +kernel), List.mem_of_getElem? (i := 1483) (by decide +kernel), List.mem_of_getElem? (i := 1484) (by decide +kernel)⟩
theorem lw_p57 : lw_okq (⟨"ArgumentMenderModel", "isClaim", "(I)Z"⟩, 49) := ⟨⟨by decide +kernel, by decide +kernel⟩, List.mem_of_getElem? (i := 1198) (by decide +kernel), List.mem_of_getElem? (i := 1491) (by decide +kernel), List.mem_of_getElem? (i := 1492) (by decide +kernel)⟩
theorem lw_p58 : lw_okq (⟨"ArgumentMenderModel", "claims", "()I"⟩, 49) := ⟨⟨by decide +kernel, by decide +kernel⟩, List.mem_of_getElem? (i := 1198) (by decide +kernel), List.mem_of_getElem? (i := 1495) (by decide +kernel), List.mem_of_getElem? (i := 1496) (by decide +kernel)⟩
theorem lw_p59 : lw_okq (⟨"ArgumentMenderModel", "threadsOf", "(I)I"⟩, 49) := ⟨⟨by decide +kernel, by decide +kernel⟩, List.mem_of_getElem? (i := 1198) (by decide +kernel), List.mem_of_getElem? (i := 1499) (by decide +kernel), List.mem_of_getElem? (i := 1500) (by decide +kernel)⟩
theorem lw_p60 : lw_okq (⟨"ArgumentMenderModel", "fromOf", "(I)I"⟩, 49) := ⟨⟨by decide +kernel, by decide +kernel⟩, List.mem_of_getElem? (i := 1198) (by decide +kernel), List.mem_of_getElem? (i := 1503) (by decide +kernel), List.mem_of_getElem? (i := 1504) (by decide +kernel)⟩
theorem lw_p61 : lw_okq (⟨"ArgumentMenderModel", "asksYear", "(I)Z"⟩, 49) := ⟨⟨by decide +kernel, by decide +kernel⟩, List.mem_of_getElem? (i := 1198) (by decide +kernel), List.mem_of_getElem? (i := 1511) (by decide +kernel), List.mem_of_getElem? (i := 1512) (by decide +kernel)⟩
theorem lw_p62 : lw_okq (⟨"ArgumentMenderModel", "asksCloth", "()Z"⟩, 49) := ⟨⟨by decide +kernel, by decide +kernel⟩, List.mem_of_getElem? (i := 1198) (by decide +kernel), List.mem_of_getElem? (i := 1515) (by decide +kernel), List.mem_of_getElem? (i := 1516) (by decide +kernel)⟩
theorem lw_p63 : lw_okq (⟨"ArgumentMenderModel", "asItIs", "()V"⟩, 49) := ⟨⟨by decide +kernel, by decide +kernel⟩, List.mem_of_getElem? (i := 1198) (by decide +kernel), List.mem_of_getElem? (i := 1519) (by decide +kernel), List.mem_of_getElem? (i := 1520) (by decide +kernel)⟩
def lw_privs_4 : List (MethodName × Nat) := [(⟨"ArgumentMenderModel", "readNext", "()V"⟩, 49), (⟨"ArgumentMenderModel", "isFull", "()Z"⟩, 49), (⟨"ArgumentMenderModel", "readThread", "()V"⟩, 49), (⟨"ArgumentMenderModel", "readQuarrel", "()V"⟩, 49), (⟨"ArgumentMenderModel", "isThread", "(J)Z"⟩, 49), (⟨"ArgumentMenderModel", "threadMany", "()I"⟩, 49), (⟨"ArgumentMenderModel", "isQuarrel", "(I)Z"⟩, 49), (⟨"ArgumentMenderModel", "quarrelMany", "()I"⟩, 49), (⟨"ArgumentMenderModel", "quarrelOf", "(II)I"⟩, 49), (⟨"ArgumentMenderModel", "isClaim", "(I)Z"⟩, 49), (⟨"ArgumentMenderModel", "claims", "()I"⟩, 49), (⟨"ArgumentMenderModel", "threadsOf", "(I)I"⟩, 49), (⟨"ArgumentMenderModel", "fromOf", "(I)I"⟩, 49), (⟨"ArgumentMenderModel", "asksYear", "(I)Z"⟩, 49), (⟨"ArgumentMenderModel", "asksCloth", "()Z"⟩, 49), (⟨"ArgumentMenderModel", "asItIs", "()V"⟩, 49)]
theorem lw_r4 : ∀ q ∈ lw_privs_4, lw_okq q := List.forall_mem_cons.mpr ⟨lw_p48, List.forall_mem_cons.mpr ⟨lw_p49, List.forall_mem_cons.mpr ⟨lw_p50, List.forall_mem_cons.mpr ⟨lw_p51, List.forall_mem_cons.mpr ⟨lw_p52, List.forall_mem_cons.mpr ⟨lw_p53, List.forall_mem_cons.mpr ⟨lw_p54, List.forall_mem_cons.mpr ⟨lw_p55, List.forall_mem_cons.mpr ⟨lw_p56, List.forall_mem_cons.mpr ⟨lw_p57, List.forall_mem_cons.mpr ⟨lw_p58, List.forall_mem_cons.mpr ⟨lw_p59, List.forall_mem_cons.mpr ⟨lw_p60, List.forall_mem_cons.mpr ⟨lw_p61, List.forall_mem_cons.mpr ⟨lw_p62, List.forall_mem_cons.mpr ⟨lw_p63, fun _ h => absurd h List.not_mem_nil⟩⟩⟩⟩⟩⟩⟩⟩⟩⟩⟩⟩⟩⟩⟩⟩
theorem lw_p64 : lw_okq (⟨"ArgumentMenderModel", "goAll", "()V"⟩, 49) := ⟨⟨by decide +kernel, by decide +kernel⟩, List.mem_of_getElem? (i := 1198) (by decide +kernel), List.mem_of_getElem? (i := 1524) (by decide +kernel), List.mem_of_getElem? (i := 1525) (by decide +kernel)⟩
theorem lw_p65 : lw_okq (⟨"ArgumentMenderModel", "years", "()I"⟩, 49) := ⟨⟨by decide +kernel, by decide +kernel⟩, List.mem_of_getElem? (i := 1198) (by decide +kernel), List.mem_of_getElem? (i := 1531) (by decide +kernel), List.mem_of_getElem? (i := 1532) (by decide +kernel)⟩
theorem lw_p66 : lw_okq (⟨"ArgumentMenderModel", "goYear", "(I)V"⟩, 49) := ⟨⟨by decide +kernel, by decide +kernel⟩, List.mem_of_getElem? (i := 1198) (by decide +kernel), List.mem_of_getElem? (i := 1535) (by decide +kernel), List.mem_of_getElem? (i := 1536) (by decide +kernel)⟩
theorem lw_p67 : lw_okq (⟨"ArgumentMenderModel", "sewAll", "(I)V"⟩, 49) := ⟨⟨by decide +kernel, by decide +kernel⟩, List.mem_of_getElem? (i := 1198) (by decide +kernel), List.mem_of_getElem? (i := 1539) (by decide +kernel), List.mem_of_getElem? (i := 1540) (by decide +kernel)⟩
theorem lw_p68 : lw_okq (⟨"ArgumentMenderModel", "quarrelNow", "(II)V"⟩, 49) := ⟨⟨by decide +kernel, by decide +kernel⟩, List.mem_of_getElem? (i := 1198) (by decide +kernel), List.mem_of_getElem? (i := 1544) (by decide +kernel), List.mem_of_getElem? (i := 1545) (by decide +kernel)⟩
theorem lw_p69 : lw_okq (⟨"ArgumentMenderModel", "pullOnce", "(II)V"⟩, 49) := ⟨⟨by decide +kernel, by decide +kernel⟩, List.mem_of_getElem? (i := 1198) (by decide +kernel), List.mem_of_getElem? (i := 1548) (by decide +kernel), List.mem_of_getElem? (i := 1549) (by decide +kernel)⟩
theorem lw_p70 : lw_okq (⟨"ArgumentMenderModel", "shareOut", "(I)V"⟩, 49) := ⟨⟨by decide +kernel, by decide +kernel⟩, List.mem_of_getElem? (i := 1198) (by decide +kernel), List.mem_of_getElem? (i := 1552) (by decide +kernel), List.mem_of_getElem? (i := 1553) (by decide +kernel)⟩
theorem lw_p71 : lw_okq (⟨"ArgumentMenderModel", "isWhole", "(II)Z"⟩, 49) := ⟨⟨by decide +kernel, by decide +kernel⟩, List.mem_of_getElem? (i := 1198) (by decide +kernel), List.mem_of_getElem? (i := 1556) (by decide +kernel), List.mem_of_getElem? (i := 1557) (by decide +kernel)⟩
theorem lw_p72 : lw_okq (⟨"ArgumentMenderModel", "strongestOf", "(II)I"⟩, 49) := ⟨⟨by decide +kernel, by decide +kernel⟩, List.mem_of_getElem? (i := 1198) (by decide +kernel), List.mem_of_getElem? (i := 1560) (by decide +kernel), List.mem_of_getElem? (i := 1561) (by decide +kernel)⟩
theorem lw_p73 : lw_okq (⟨"ArgumentMenderModel", "shareEqually", "(III)V"⟩, 49) := ⟨⟨by decide +kernel, by decide +kernel⟩, List.mem_of_getElem? (i := 1198) (by decide +kernel), List.mem_of_getElem? (i := 1564) (by decide +kernel), List.mem_of_getElem? (i := 1565) (by decide +kernel)⟩
theorem lw_p74 : lw_okq (⟨"ArgumentMenderModel", "shareByStrength", "(III)V"⟩, 49) := ⟨⟨by decide +kernel, by decide +kernel⟩, List.mem_of_getElem? (i := 1198) (by decide +kernel), List.mem_of_getElem? (i := 1568) (by decide +kernel), List.mem_of_getElem? (i := 1569) (by decide +kernel)⟩
theorem lw_p75 : lw_okq (⟨"ArgumentMenderModel", "shareByHalves", "(III)V"⟩, 49) := ⟨⟨by decide +kernel, by decide +kernel⟩, List.mem_of_getElem? (i := 1198) (by decide +kernel), List.mem_of_getElem? (i := 1572) (by decide +kernel), List.mem_of_getElem? (i := 1573) (by decide +kernel)⟩
theorem lw_p76 : lw_okq (⟨"ArgumentMenderModel", "toOf", "(I)I"⟩, 49) := ⟨⟨by decide +kernel, by decide +kernel⟩, List.mem_of_getElem? (i := 1198) (by decide +kernel), List.mem_of_getElem? (i := 1576) (by decide +kernel), List.mem_of_getElem? (i := 1577) (by decide +kernel)⟩
theorem lw_p77 : lw_okq (⟨"ArgumentMenderModel", "tearNow", "()I"⟩, 49) := ⟨⟨by decide +kernel, by decide +kernel⟩, List.mem_of_getElem? (i := 1198) (by decide +kernel), List.mem_of_getElem? (i := 1580) (by decide +kernel), List.mem_of_getElem? (i := 1581) (by decide +kernel)⟩
theorem lw_p78 : lw_okq (⟨"ArgumentMenderModel", "keepQuarrel", "(I)V"⟩, 49) := ⟨⟨by decide +kernel, by decide +kernel⟩, List.mem_of_getElem? (i := 1198) (by decide +kernel), List.mem_of_getElem? (i := 1584) (by decide +kernel), List.mem_of_getElem? (i := 1585) (by decide +kernel)⟩
theorem lw_p79 : lw_okq (⟨"ArgumentMenderModel", "isCloth", "()Z"⟩, 49) := ⟨⟨by decide +kernel, by decide +kernel⟩, List.mem_of_getElem? (i := 1198) (by decide +kernel), List.mem_of_getElem? (i := 1588) (by decide +kernel), List.mem_of_getElem? (i := 1589) (by decide +kernel)⟩
def lw_privs_5 : List (MethodName × Nat) := [(⟨"ArgumentMenderModel", "goAll", "()V"⟩, 49), (⟨"ArgumentMenderModel", "years", "()I"⟩, 49), (⟨"ArgumentMenderModel", "goYear", "(I)V"⟩, 49), (⟨"ArgumentMenderModel", "sewAll", "(I)V"⟩, 49), (⟨"ArgumentMenderModel", "quarrelNow", "(II)V"⟩, 49), (⟨"ArgumentMenderModel", "pullOnce", "(II)V"⟩, 49), (⟨"ArgumentMenderModel", "shareOut", "(I)V"⟩, 49), (⟨"ArgumentMenderModel", "isWhole", "(II)Z"⟩, 49), (⟨"ArgumentMenderModel", "strongestOf", "(II)I"⟩, 49), (⟨"ArgumentMenderModel", "shareEqually", "(III)V"⟩, 49), (⟨"ArgumentMenderModel", "shareByStrength", "(III)V"⟩, 49), (⟨"ArgumentMenderModel", "shareByHalves", "(III)V"⟩, 49), (⟨"ArgumentMenderModel", "toOf", "(I)I"⟩, 49), (⟨"ArgumentMenderModel", "tearNow", "()I"⟩, 49), (⟨"ArgumentMenderModel", "keepQuarrel", "(I)V"⟩, 49), (⟨"ArgumentMenderModel", "isCloth", "()Z"⟩, 49)]
theorem lw_r5 : ∀ q ∈ lw_privs_5, lw_okq q := List.forall_mem_cons.mpr ⟨lw_p64, List.forall_mem_cons.mpr ⟨lw_p65, List.forall_mem_cons.mpr ⟨lw_p66, List.forall_mem_cons.mpr ⟨lw_p67, List.forall_mem_cons.mpr ⟨lw_p68, List.forall_mem_cons.mpr ⟨lw_p69, List.forall_mem_cons.mpr ⟨lw_p70, List.forall_mem_cons.mpr ⟨lw_p71, List.forall_mem_cons.mpr ⟨lw_p72, List.forall_mem_cons.mpr ⟨lw_p73, List.forall_mem_cons.mpr ⟨lw_p74, List.forall_mem_cons.mpr ⟨lw_p75, List.forall_mem_cons.mpr ⟨lw_p76, List.forall_mem_cons.mpr ⟨lw_p77, List.forall_mem_cons.mpr ⟨lw_p78, List.forall_mem_cons.mpr ⟨lw_p79, fun _ h => absurd h List.not_mem_nil⟩⟩⟩⟩⟩⟩⟩⟩⟩⟩⟩⟩⟩⟩⟩⟩
theorem lw_p80 : lw_okq (⟨"ArgumentMenderModel", "isYear", "(J)Z"⟩, 49) := ⟨⟨by decide +kernel, by decide +kernel⟩, List.mem_of_getElem? (i := 1198) (by decide +kernel), List.mem_of_getElem? (i := 1592) (by decide +kernel), List.mem_of_getElem? (i := 1593) (by decide +kernel)⟩
theorem lw_p81 : lw_okq (⟨"ArgumentMenderModel", "strengthOf", "(II)I"⟩, 49) := ⟨⟨by decide +kernel, by decide +kernel⟩, List.mem_of_getElem? (i := 1198) (by decide +kernel), List.mem_of_getElem? (i := 1596) (by decide +kernel), List.mem_of_getElem? (i := 1597) (by decide +kernel)⟩
theorem lw_p82 : lw_okq (⟨"ArgumentMenderModel", "tornIn", "(I)I"⟩, 49) := ⟨⟨by decide +kernel, by decide +kernel⟩, List.mem_of_getElem? (i := 1198) (by decide +kernel), List.mem_of_getElem? (i := 1604) (by decide +kernel), List.mem_of_getElem? (i := 1605) (by decide +kernel)⟩
theorem lw_p83 : lw_okq (⟨"ArgumentMenderModel", "holesIn", "(I)I"⟩, 49) := ⟨⟨by decide +kernel, by decide +kernel⟩, List.mem_of_getElem? (i := 1198) (by decide +kernel), List.mem_of_getElem? (i := 1616) (by decide +kernel), List.mem_of_getElem? (i := 1617) (by decide +kernel)⟩
theorem lw_p84 : lw_okq (⟨"ArgumentMenderModel", "wholeIn", "(I)I"⟩, 49) := ⟨⟨by decide +kernel, by decide +kernel⟩, List.mem_of_getElem? (i := 1198) (by decide +kernel), List.mem_of_getElem? (i := 1620) (by decide +kernel), List.mem_of_getElem? (i := 1621) (by decide +kernel)⟩
theorem lw_p85 : lw_okq (⟨"ArgumentMenderModel", "hungIn", "(I)I"⟩, 49) := ⟨⟨by decide +kernel, by decide +kernel⟩, List.mem_of_getElem? (i := 1198) (by decide +kernel), List.mem_of_getElem? (i := 1632) (by decide +kernel), List.mem_of_getElem? (i := 1633) (by decide +kernel)⟩
theorem lw_p86 : lw_okq (⟨"ArgumentMenderModel", "hungBy", "(I)I"⟩, 49) := ⟨⟨by decide +kernel, by decide +kernel⟩, List.mem_of_getElem? (i := 1198) (by decide +kernel), List.mem_of_getElem? (i := 1636) (by decide +kernel), List.mem_of_getElem? (i := 1637) (by decide +kernel)⟩
theorem lw_p87 : lw_okq (⟨"ArgumentMenderModel", "allClaims", "()I"⟩, 49) := ⟨⟨by decide +kernel, by decide +kernel⟩, List.mem_of_getElem? (i := 1198) (by decide +kernel), List.mem_of_getElem? (i := 1648) (by decide +kernel), List.mem_of_getElem? (i := 1649) (by decide +kernel)⟩
theorem lw_p88 : lw_okq (⟨"ArgumentMenderModel", "sumIn", "(I)I"⟩, 49) := ⟨⟨by decide +kernel, by decide +kernel⟩, List.mem_of_getElem? (i := 1198) (by decide +kernel), List.mem_of_getElem? (i := 1656) (by decide +kernel), List.mem_of_getElem? (i := 1657) (by decide +kernel)⟩
theorem lw_p89 : lw_okq (⟨"ArgumentMenderModel", "isAhead", "(J)Z"⟩, 49) := ⟨⟨by decide +kernel, by decide +kernel⟩, List.mem_of_getElem? (i := 1198) (by decide +kernel), List.mem_of_getElem? (i := 1664) (by decide +kernel), List.mem_of_getElem? (i := 1665) (by decide +kernel)⟩
theorem lw_p90 : lw_okq (⟨"ArgumentMenderModel", "asksQuarrel", "(I)Z"⟩, 49) := ⟨⟨by decide +kernel, by decide +kernel⟩, List.mem_of_getElem? (i := 1198) (by decide +kernel), List.mem_of_getElem? (i := 1696) (by decide +kernel), List.mem_of_getElem? (i := 1697) (by decide +kernel)⟩
theorem lw_p91 : lw_okq (⟨"ArgumentMenderModel", "comes", "(I)Z"⟩, 49) := ⟨⟨by decide +kernel, by decide +kernel⟩, List.mem_of_getElem? (i := 1198) (by decide +kernel), List.mem_of_getElem? (i := 1700) (by decide +kernel), List.mem_of_getElem? (i := 1701) (by decide +kernel)⟩
theorem lw_p92 : lw_okq (⟨"ArgumentMenderModel", "asksTry", "(III)Z"⟩, 49) := ⟨⟨by decide +kernel, by decide +kernel⟩, List.mem_of_getElem? (i := 1198) (by decide +kernel), List.mem_of_getElem? (i := 1744) (by decide +kernel), List.mem_of_getElem? (i := 1745) (by decide +kernel)⟩
theorem lw_p93 : lw_okq (⟨"ArgumentMenderModel", "tryOn", "(III)V"⟩, 49) := ⟨⟨by decide +kernel, by decide +kernel⟩, List.mem_of_getElem? (i := 1198) (by decide +kernel), List.mem_of_getElem? (i := 1749) (by decide +kernel), List.mem_of_getElem? (i := 1750) (by decide +kernel)⟩
theorem lw_p94 : lw_okq (⟨"ArgumentMenderModel", "gateOf", "(IIZ)I"⟩, 49) := ⟨⟨by decide +kernel, by decide +kernel⟩, List.mem_of_getElem? (i := 1198) (by decide +kernel), List.mem_of_getElem? (i := 1765) (by decide +kernel), List.mem_of_getElem? (i := 1766) (by decide +kernel)⟩
theorem lw_p95 : lw_okq (⟨"ArgumentMenderModel", "wordOf", "(II)I"⟩, 49) := ⟨⟨by decide +kernel, by decide +kernel⟩, List.mem_of_getElem? (i := 1198) (by decide +kernel), List.mem_of_getElem? (i := 1784) (by decide +kernel), List.mem_of_getElem? (i := 1785) (by decide +kernel)⟩
def lw_privs_6 : List (MethodName × Nat) := [(⟨"ArgumentMenderModel", "isYear", "(J)Z"⟩, 49), (⟨"ArgumentMenderModel", "strengthOf", "(II)I"⟩, 49), (⟨"ArgumentMenderModel", "tornIn", "(I)I"⟩, 49), (⟨"ArgumentMenderModel", "holesIn", "(I)I"⟩, 49), (⟨"ArgumentMenderModel", "wholeIn", "(I)I"⟩, 49), (⟨"ArgumentMenderModel", "hungIn", "(I)I"⟩, 49), (⟨"ArgumentMenderModel", "hungBy", "(I)I"⟩, 49), (⟨"ArgumentMenderModel", "allClaims", "()I"⟩, 49), (⟨"ArgumentMenderModel", "sumIn", "(I)I"⟩, 49), (⟨"ArgumentMenderModel", "isAhead", "(J)Z"⟩, 49), (⟨"ArgumentMenderModel", "asksQuarrel", "(I)Z"⟩, 49), (⟨"ArgumentMenderModel", "comes", "(I)Z"⟩, 49), (⟨"ArgumentMenderModel", "asksTry", "(III)Z"⟩, 49), (⟨"ArgumentMenderModel", "tryOn", "(III)V"⟩, 49), (⟨"ArgumentMenderModel", "gateOf", "(IIZ)I"⟩, 49), (⟨"ArgumentMenderModel", "wordOf", "(II)I"⟩, 49)]
theorem lw_r6 : ∀ q ∈ lw_privs_6, lw_okq q := List.forall_mem_cons.mpr ⟨lw_p80, List.forall_mem_cons.mpr ⟨lw_p81, List.forall_mem_cons.mpr ⟨lw_p82, List.forall_mem_cons.mpr ⟨lw_p83, List.forall_mem_cons.mpr ⟨lw_p84, List.forall_mem_cons.mpr ⟨lw_p85, List.forall_mem_cons.mpr ⟨lw_p86, List.forall_mem_cons.mpr ⟨lw_p87, List.forall_mem_cons.mpr ⟨lw_p88, List.forall_mem_cons.mpr ⟨lw_p89, List.forall_mem_cons.mpr ⟨lw_p90, List.forall_mem_cons.mpr ⟨lw_p91, List.forall_mem_cons.mpr ⟨lw_p92, List.forall_mem_cons.mpr ⟨lw_p93, List.forall_mem_cons.mpr ⟨lw_p94, List.forall_mem_cons.mpr ⟨lw_p95, fun _ h => absurd h List.not_mem_nil⟩⟩⟩⟩⟩⟩⟩⟩⟩⟩⟩⟩⟩⟩⟩⟩
theorem lw_p96 : lw_okq (⟨"ArgumentMenderModel", "hungLast", "()I"⟩, 49) := ⟨⟨by decide +kernel, by decide +kernel⟩, List.mem_of_getElem? (i := 1198) (by decide +kernel), List.mem_of_getElem? (i := 1788) (by decide +kernel), List.mem_of_getElem? (i := 1789) (by decide +kernel)⟩
theorem lw_p97 : lw_okq (⟨"ArgumentMenderModel", "findWay", "(II)Z"⟩, 49) := ⟨⟨by decide +kernel, by decide +kernel⟩, List.mem_of_getElem? (i := 1198) (by decide +kernel), List.mem_of_getElem? (i := 1804) (by decide +kernel), List.mem_of_getElem? (i := 1805) (by decide +kernel)⟩
theorem lw_p98 : lw_okq (⟨"ArgumentMenderModel", "hungWithout", "(I)I"⟩, 49) := ⟨⟨by decide +kernel, by decide +kernel⟩, List.mem_of_getElem? (i := 1198) (by decide +kernel), List.mem_of_getElem? (i := 1820) (by decide +kernel), List.mem_of_getElem? (i := 1821) (by decide +kernel)⟩
theorem lw_p99 : lw_okq (⟨"ArgumentMenderModel", "layFits", "(II)I"⟩, 49) := ⟨⟨by decide +kernel, by decide +kernel⟩, List.mem_of_getElem? (i := 1198) (by decide +kernel), List.mem_of_getElem? (i := 1832) (by decide +kernel), List.mem_of_getElem? (i := 1833) (by decide +kernel)⟩
theorem lw_p100 : lw_okq (⟨"ArgumentMenderModel", "askSeen", "(I)I"⟩, 49) := ⟨⟨by decide +kernel, by decide +kernel⟩, List.mem_of_getElem? (i := 1198) (by decide +kernel), List.mem_of_getElem? (i := 1836) (by decide +kernel), List.mem_of_getElem? (i := 1837) (by decide +kernel)⟩
theorem lw_p101 : lw_okq (⟨"ArgumentMenderModel", "numberAt", "(II)J"⟩, 49) := ⟨⟨by decide +kernel, by decide +kernel⟩, List.mem_of_getElem? (i := 1198) (by decide +kernel), List.mem_of_getElem? (i := 1844) (by decide +kernel), List.mem_of_getElem? (i := 1845) (by decide +kernel)⟩
theorem lw_p102 : lw_okq (⟨"ArgumentMenderModel", "isSeen", "(I)Z"⟩, 49) := ⟨⟨by decide +kernel, by decide +kernel⟩, List.mem_of_getElem? (i := 1198) (by decide +kernel), List.mem_of_getElem? (i := 1849) (by decide +kernel), List.mem_of_getElem? (i := 1850) (by decide +kernel)⟩
theorem lw_p103 : lw_okq (⟨"ArgumentMenderModel", "askOf", "()I"⟩, 49) := ⟨⟨by decide +kernel, by decide +kernel⟩, List.mem_of_getElem? (i := 1198) (by decide +kernel), List.mem_of_getElem? (i := 1865) (by decide +kernel), List.mem_of_getElem? (i := 1866) (by decide +kernel)⟩
theorem lw_p104 : lw_okq (⟨"ArgumentMenderModel", "worstIn", "(I)I"⟩, 49) := ⟨⟨by decide +kernel, by decide +kernel⟩, List.mem_of_getElem? (i := 1198) (by decide +kernel), List.mem_of_getElem? (i := 1869) (by decide +kernel), List.mem_of_getElem? (i := 1870) (by decide +kernel)⟩
theorem lw_p105 : lw_okq (⟨"ArgumentMenderModel", "hungByLaw", "(I)I"⟩, 49) := ⟨⟨by decide +kernel, by decide +kernel⟩, List.mem_of_getElem? (i := 1198) (by decide +kernel), List.mem_of_getElem? (i := 1888) (by decide +kernel), List.mem_of_getElem? (i := 1889) (by decide +kernel)⟩
theorem lw_p106 : lw_okq (⟨"ArgumentMenderModel", "worthOf", "(I)I"⟩, 49) := ⟨⟨by decide +kernel, by decide +kernel⟩, List.mem_of_getElem? (i := 1198) (by decide +kernel), List.mem_of_getElem? (i := 1900) (by decide +kernel), List.mem_of_getElem? (i := 1901) (by decide +kernel)⟩
theorem lw_p107 : lw_okq (⟨"ArgumentMenderModel", "areTwo", "(II)Z"⟩, 49) := ⟨⟨by decide +kernel, by decide +kernel⟩, List.mem_of_getElem? (i := 1198) (by decide +kernel), List.mem_of_getElem? (i := 1923) (by decide +kernel), List.mem_of_getElem? (i := 1924) (by decide +kernel)⟩
theorem lw_p108 : lw_okq (⟨"ArgumentMenderModel", "getsBy", "(IIIII)I"⟩, 49) := ⟨⟨by decide +kernel, by decide +kernel⟩, List.mem_of_getElem? (i := 1198) (by decide +kernel), List.mem_of_getElem? (i := 1927) (by decide +kernel), List.mem_of_getElem? (i := 1928) (by decide +kernel)⟩
theorem lw_p109 : lw_okq (⟨"ArgumentMenderModel", "layChance", "(I)V"⟩, 49) := ⟨⟨by decide +kernel, by decide +kernel⟩, List.mem_of_getElem? (i := 1198) (by decide +kernel), List.mem_of_getElem? (i := 1941) (by decide +kernel), List.mem_of_getElem? (i := 1942) (by decide +kernel)⟩
theorem lw_p110 : lw_okq (⟨"ArgumentMenderModel", "keepAct", "(I)I"⟩, 49) := ⟨⟨by decide +kernel, by decide +kernel⟩, List.mem_of_getElem? (i := 1198) (by decide +kernel), List.mem_of_getElem? (i := 1954) (by decide +kernel), List.mem_of_getElem? (i := 1955) (by decide +kernel)⟩
theorem lw_p111 : lw_okq (⟨"ArgumentMenderModel", "goDrawn", "(J)V"⟩, 49) := ⟨⟨by decide +kernel, by decide +kernel⟩, List.mem_of_getElem? (i := 1198) (by decide +kernel), List.mem_of_getElem? (i := 1979) (by decide +kernel), List.mem_of_getElem? (i := 1980) (by decide +kernel)⟩
def lw_privs_7 : List (MethodName × Nat) := [(⟨"ArgumentMenderModel", "hungLast", "()I"⟩, 49), (⟨"ArgumentMenderModel", "findWay", "(II)Z"⟩, 49), (⟨"ArgumentMenderModel", "hungWithout", "(I)I"⟩, 49), (⟨"ArgumentMenderModel", "layFits", "(II)I"⟩, 49), (⟨"ArgumentMenderModel", "askSeen", "(I)I"⟩, 49), (⟨"ArgumentMenderModel", "numberAt", "(II)J"⟩, 49), (⟨"ArgumentMenderModel", "isSeen", "(I)Z"⟩, 49), (⟨"ArgumentMenderModel", "askOf", "()I"⟩, 49), (⟨"ArgumentMenderModel", "worstIn", "(I)I"⟩, 49), (⟨"ArgumentMenderModel", "hungByLaw", "(I)I"⟩, 49), (⟨"ArgumentMenderModel", "worthOf", "(I)I"⟩, 49), (⟨"ArgumentMenderModel", "areTwo", "(II)Z"⟩, 49), (⟨"ArgumentMenderModel", "getsBy", "(IIIII)I"⟩, 49), (⟨"ArgumentMenderModel", "layChance", "(I)V"⟩, 49), (⟨"ArgumentMenderModel", "keepAct", "(I)I"⟩, 49), (⟨"ArgumentMenderModel", "goDrawn", "(J)V"⟩, 49)]
theorem lw_r7 : ∀ q ∈ lw_privs_7, lw_okq q := List.forall_mem_cons.mpr ⟨lw_p96, List.forall_mem_cons.mpr ⟨lw_p97, List.forall_mem_cons.mpr ⟨lw_p98, List.forall_mem_cons.mpr ⟨lw_p99, List.forall_mem_cons.mpr ⟨lw_p100, List.forall_mem_cons.mpr ⟨lw_p101, List.forall_mem_cons.mpr ⟨lw_p102, List.forall_mem_cons.mpr ⟨lw_p103, List.forall_mem_cons.mpr ⟨lw_p104, List.forall_mem_cons.mpr ⟨lw_p105, List.forall_mem_cons.mpr ⟨lw_p106, List.forall_mem_cons.mpr ⟨lw_p107, List.forall_mem_cons.mpr ⟨lw_p108, List.forall_mem_cons.mpr ⟨lw_p109, List.forall_mem_cons.mpr ⟨lw_p110, List.forall_mem_cons.mpr ⟨lw_p111, fun _ h => absurd h List.not_mem_nil⟩⟩⟩⟩⟩⟩⟩⟩⟩⟩⟩⟩⟩⟩⟩⟩
def lw_privs : List (MethodName × Nat) := lw_privs_1 ++ (lw_privs_2 ++ (lw_privs_3 ++ (lw_privs_4 ++ (lw_privs_5 ++ (lw_privs_6 ++ (lw_privs_7))))))
def lw_tbl : List Cond := k2_sels lw_privs ++ tables_1
theorem lw_privs_ok : ∀ q ∈ lw_privs, lw_okq q := by
  show ∀ q ∈ lw_privs_1 ++ (lw_privs_2 ++ (lw_privs_3 ++ (lw_privs_4 ++ (lw_privs_5 ++ (lw_privs_6 ++ (lw_privs_7)))))), lw_okq q
  exact List.forall_mem_append.mpr ⟨lw_r1, List.forall_mem_append.mpr ⟨lw_r2, List.forall_mem_append.mpr ⟨lw_r3, List.forall_mem_append.mpr ⟨lw_r4, List.forall_mem_append.mpr ⟨lw_r5, List.forall_mem_append.mpr ⟨lw_r6, lw_r7⟩⟩⟩⟩⟩⟩
def RX0 : String := "ArgumentMender$Acts"
def TX0 : u_T := fun k => match k with
  | 0 => ("ArgumentMender$Acts", "size", "I", false)
  | 1 => ("ArgumentMender$Acts", "kind", "[I", true)
  | 2 => ("ArgumentMender$Acts", "at", "[I", true)
  | 3 => ("ArgumentMender$Acts", "amount", "[I", true)
  | _ => ("ArgumentMender$Acts", "when", "[I", true)
def tyX0 : Nat → FieldType := fun k => match k with
  | 0 => .int
  | 1 => .array .int
  | 2 => .array .int
  | 3 => .array .int
  | _ => .array .int
abbrev wsX00 : List Cond := u_ws RX0 TX0 5
theorem nmX0 : ∀ a, a < 5 → ∀ b, b < 5 → a ≠ b → (TX0 a).2.1 ≠ (TX0 b).2.1 := by decide +kernel
theorem tyX0_ok : ∀ k, k < 5 → parseFieldDescriptor (TX0 k).2.2.1 = some (tyX0 k) := by decide +kernel
abbrev cX0_init : ByteArray := prog_2_method_1_code
def yX0_init : MethodName := ⟨RX0, "<init>", "()V"⟩
abbrev cX0_append : ByteArray := prog_2_method_2_code
def yX0_append : MethodName := ⟨RX0, "append", "(IIII)Z"⟩
abbrev cX0_copyFrom : ByteArray := prog_2_method_3_code
def yX0_copyFrom : MethodName := ⟨RX0, "copyFrom", "(LArgumentMender$Acts;)V"⟩
def RX1 : String := "ArgumentMender$Cloth"
def TX1 : u_T := fun k => match k with
  | 0 => ("ArgumentMender$Cloth", "lines", "I", false)
  | 1 => ("ArgumentMender$Cloth", "years", "I", false)
  | 2 => ("ArgumentMender$Cloth", "law", "I", false)
  | 3 => ("ArgumentMender$Cloth", "odds", "I", false)
  | 4 => ("ArgumentMender$Cloth", "claims", "I", false)
  | 5 => ("ArgumentMender$Cloth", "threads", "I", false)
  | 6 => ("ArgumentMender$Cloth", "quarrels", "I", false)
  | 7 => ("ArgumentMender$Cloth", "from", "[I", true)
  | 8 => ("ArgumentMender$Cloth", "to", "[I", true)
  | 9 => ("ArgumentMender$Cloth", "holds", "[I", true)
  | 10 => ("ArgumentMender$Cloth", "target", "[I", true)
  | 11 => ("ArgumentMender$Cloth", "pull", "[I", true)
  | 12 => ("ArgumentMender$Cloth", "when", "[I", true)
  | 13 => ("ArgumentMender$Cloth", "sorted", "[I", true)
  | 14 => ("ArgumentMender$Cloth", "begins", "[I", true)
  | _ => ("ArgumentMender$Cloth", "acts", "LArgumentMender$Acts;", true)
def tyX1 : Nat → FieldType := fun k => match k with
  | 0 => .int
  | 1 => .int
  | 2 => .int
  | 3 => .int
  | 4 => .int
  | 5 => .int
  | 6 => .int
  | 7 => .array .int
  | 8 => .array .int
  | 9 => .array .int
  | 10 => .array .int
  | 11 => .array .int
  | 12 => .array .int
  | 13 => .array .int
  | 14 => .array .int
  | _ => .object "ArgumentMender$Acts"
abbrev wsX10 : List Cond := u_ws RX1 TX1 16
theorem nmX1 : ∀ a, a < 16 → ∀ b, b < 16 → a ≠ b → (TX1 a).2.1 ≠ (TX1 b).2.1 := by decide +kernel
theorem tyX1_ok : ∀ k, k < 16 → parseFieldDescriptor (TX1 k).2.2.1 = some (tyX1 k) := by decide +kernel
abbrev cX1_init : ByteArray := prog_3_method_1_code
def yX1_init : MethodName := ⟨RX1, "<init>", "()V"⟩
abbrev cX1_clear : ByteArray := prog_3_method_2_code
def yX1_clear : MethodName := ⟨RX1, "clear", "()V"⟩
abbrev cX1_sortThreads : ByteArray := prog_3_method_3_code
def yX1_sortThreads : MethodName := ⟨RX1, "sortThreads", "()V"⟩
abbrev cX1_takeOver : ByteArray := prog_3_method_4_code
def yX1_takeOver : MethodName := ⟨RX1, "takeOver", "(LArgumentMender$Cloth;)V"⟩
abbrev cX1_isThere : ByteArray := prog_3_method_5_code
def yX1_isThere : MethodName := ⟨RX1, "isThere", "()Z"⟩
abbrev cX1_hasClaim : ByteArray := prog_3_method_6_code
def yX1_hasClaim : MethodName := ⟨RX1, "hasClaim", "(I)Z"⟩
abbrev cX1_hasThread : ByteArray := prog_3_method_7_code
def yX1_hasThread : MethodName := ⟨RX1, "hasThread", "(I)Z"⟩
abbrev cX1_hasQuarrel : ByteArray := prog_3_method_8_code
def yX1_hasQuarrel : MethodName := ⟨RX1, "hasQuarrel", "(I)Z"⟩
abbrev cX1_hasYear : ByteArray := prog_3_method_9_code
def yX1_hasYear : MethodName := ⟨RX1, "hasYear", "(I)Z"⟩
abbrev cX1_hasYearAhead : ByteArray := prog_3_method_10_code
def yX1_hasYearAhead : MethodName := ⟨RX1, "hasYearAhead", "(I)Z"⟩
abbrev cX1_allClaims : ByteArray := prog_3_method_11_code
def yX1_allClaims : MethodName := ⟨RX1, "allClaims", "()I"⟩
abbrev cX1_allThreads : ByteArray := prog_3_method_12_code
def yX1_allThreads : MethodName := ⟨RX1, "allThreads", "()I"⟩
abbrev cX1_allQuarrels : ByteArray := prog_3_method_13_code
def yX1_allQuarrels : MethodName := ⟨RX1, "allQuarrels", "()I"⟩
def RX2 : String := "ArgumentMender$Reader"
def TX2 : u_T := fun k => match k with
  | 0 => ("ArgumentMender$Reader", "tape", "LArgumentMender$Tape;", true)
  | 1 => ("ArgumentMender$Reader", "read", "LArgumentMender$Cloth;", true)
  | 2 => ("ArgumentMender$Reader", "fault", "I", false)
  | 3 => ("ArgumentMender$Reader", "place", "I", false)
  | _ => ("ArgumentMender$Reader", "taken", "I", false)
def tyX2 : Nat → FieldType := fun k => match k with
  | 0 => .object "ArgumentMender$Tape"
  | 1 => .object "ArgumentMender$Cloth"
  | 2 => .int
  | 3 => .int
  | _ => .int
abbrev wsX20 : List Cond := u_ws RX2 TX2 5
theorem nmX2 : ∀ a, a < 5 → ∀ b, b < 5 → a ≠ b → (TX2 a).2.1 ≠ (TX2 b).2.1 := by decide +kernel
theorem tyX2_ok : ∀ k, k < 5 → parseFieldDescriptor (TX2 k).2.2.1 = some (tyX2 k) := by decide +kernel
abbrev cX2_init : ByteArray := prog_4_method_1_code
def yX2_init : MethodName := ⟨RX2, "<init>", "()V"⟩
abbrev cX2_readAll : ByteArray := prog_4_method_2_code
def yX2_readAll : MethodName := ⟨RX2, "readAll", "()Z"⟩
abbrev cX2_readLine : ByteArray := prog_4_method_3_code
def yX2_readLine : MethodName := ⟨RX2, "readLine", "()Z"⟩
abbrev cX2_readHead : ByteArray := prog_4_method_4_code
def yX2_readHead : MethodName := ⟨RX2, "readHead", "()Z"⟩
abbrev cX2_readClaim : ByteArray := prog_4_method_5_code
def yX2_readClaim : MethodName := ⟨RX2, "readClaim", "()Z"⟩
abbrev cX2_readThread : ByteArray := prog_4_method_6_code
def yX2_readThread : MethodName := ⟨RX2, "readThread", "()Z"⟩
abbrev cX2_readQuarrel : ByteArray := prog_4_method_7_code
def yX2_readQuarrel : MethodName := ⟨RX2, "readQuarrel", "()Z"⟩
abbrev cX2_takeWord : ByteArray := prog_4_method_8_code
def yX2_takeWord : MethodName := ⟨RX2, "takeWord", "(Ljava/lang/String;)Z"⟩
abbrev cX2_takeNumber : ByteArray := prog_4_method_9_code
def yX2_takeNumber : MethodName := ⟨RX2, "takeNumber", "(II)Z"⟩
abbrev cX2_takeSign : ByteArray := prog_4_method_10_code
def yX2_takeSign : MethodName := ⟨RX2, "takeSign", "()Z"⟩
abbrev cX2_fail : ByteArray := prog_4_method_11_code
def yX2_fail : MethodName := ⟨RX2, "fail", "(I)Z"⟩
def RX3 : String := "ArgumentMender$Sight"
def TX3 : u_T := fun k => match k with
  | 0 => ("ArgumentMender$Sight", "years", "LArgumentMender$Years;", true)
  | 1 => ("ArgumentMender$Sight", "fitting", "I", false)
  | 2 => ("ArgumentMender$Sight", "first", "I", false)
  | _ => ("ArgumentMender$Sight", "last", "I", false)
def tyX3 : Nat → FieldType := fun k => match k with
  | 0 => .object "ArgumentMender$Years"
  | 1 => .int
  | 2 => .int
  | _ => .int
abbrev wsX30 : List Cond := u_ws RX3 TX3 4
theorem nmX3 : ∀ a, a < 4 → ∀ b, b < 4 → a ≠ b → (TX3 a).2.1 ≠ (TX3 b).2.1 := by decide +kernel
theorem tyX3_ok : ∀ k, k < 4 → parseFieldDescriptor (TX3 k).2.2.1 = some (tyX3 k) := by decide +kernel
abbrev cX3_init : ByteArray := prog_5_method_1_code
def yX3_init : MethodName := ⟨RX3, "<init>", "()V"⟩
abbrev cX3_isSeen : ByteArray := prog_5_method_2_code
def yX3_isSeen : MethodName := ⟨RX3, "isSeen", "(LArgumentMender$Cloth;LArgumentMender$Slot;)Z"⟩
abbrev cX3_isUpTo : ByteArray := prog_5_method_3_code
def yX3_isUpTo : MethodName := ⟨RX3, "isUpTo", "(JJ)Z"⟩
abbrev cX3_countFits : ByteArray := prog_5_method_4_code
def yX3_countFits : MethodName := ⟨RX3, "countFits", "(LArgumentMender$Cloth;LArgumentMender$Slot;I)V"⟩
abbrev cX3_agreesByLaw : ByteArray := prog_5_method_5_code
def yX3_agreesByLaw : MethodName := ⟨RX3, "agreesByLaw", "(LArgumentMender$Cloth;LArgumentMender$Slot;I)Z"⟩
abbrev cX3_agrees : ByteArray := prog_5_method_6_code
def yX3_agrees : MethodName := ⟨RX3, "agrees", "(LArgumentMender$Slot;)Z"⟩
def RX4 : String := "ArgumentMender$Slot"
def TX4 : u_T := fun k => match k with
  | 0 => ("ArgumentMender$Slot", "width", "I", false)
  | 1 => ("ArgumentMender$Slot", "length", "I", false)
  | _ => ("ArgumentMender$Slot", "numbers", "[J", true)
def tyX4 : Nat → FieldType := fun k => match k with
  | 0 => .int
  | 1 => .int
  | _ => .array .long
abbrev wsX40 : List Cond := u_ws RX4 TX4 3
theorem nmX4 : ∀ a, a < 3 → ∀ b, b < 3 → a ≠ b → (TX4 a).2.1 ≠ (TX4 b).2.1 := by decide +kernel
theorem tyX4_ok : ∀ k, k < 3 → parseFieldDescriptor (TX4 k).2.2.1 = some (tyX4 k) := by decide +kernel
abbrev cX4_init : ByteArray := prog_6_method_1_code
def yX4_init : MethodName := ⟨RX4, "<init>", "()V"⟩
abbrev cX4_isThere : ByteArray := prog_6_method_2_code
def yX4_isThere : MethodName := ⟨RX4, "isThere", "()Z"⟩
abbrev cX4_renew : ByteArray := prog_6_method_3_code
def yX4_renew : MethodName := ⟨RX4, "renew", "(II)V"⟩
abbrev cX4_narrowed : ByteArray := prog_6_method_4_code
def yX4_narrowed : MethodName := ⟨RX4, "narrowed", "(J)J"⟩
abbrev cX4_covers : ByteArray := prog_6_method_5_code
def yX4_covers : MethodName := ⟨RX4, "covers", "(II)Z"⟩
def RX5 : String := "ArgumentMender$Tape"
def TX5 : u_T := fun k => match k with
  | 0 => ("ArgumentMender$Tape", "bytes", "[B", true)
  | 1 => ("ArgumentMender$Tape", "length", "I", false)
  | 2 => ("ArgumentMender$Tape", "at", "I", false)
  | 3 => ("ArgumentMender$Tape", "start", "I", false)
  | 4 => ("ArgumentMender$Tape", "kind", "I", false)
  | _ => ("ArgumentMender$Tape", "value", "I", false)
def tyX5 : Nat → FieldType := fun k => match k with
  | 0 => .array .byte
  | 1 => .int
  | 2 => .int
  | 3 => .int
  | 4 => .int
  | _ => .int
abbrev wsX50 : List Cond := u_ws RX5 TX5 6
theorem nmX5 : ∀ a, a < 6 → ∀ b, b < 6 → a ≠ b → (TX5 a).2.1 ≠ (TX5 b).2.1 := by decide +kernel
theorem tyX5_ok : ∀ k, k < 6 → parseFieldDescriptor (TX5 k).2.2.1 = some (tyX5 k) := by decide +kernel
abbrev cX5_init : ByteArray := prog_7_method_1_code
def yX5_init : MethodName := ⟨RX5, "<init>", "()V"⟩
abbrev cX5_append : ByteArray := prog_7_method_2_code
def yX5_append : MethodName := ⟨RX5, "append", "(I)V"⟩
abbrev cX5_next : ByteArray := prog_7_method_3_code
def yX5_next : MethodName := ⟨RX5, "next", "()V"⟩
abbrev cX5_isLetter : ByteArray := prog_7_method_4_code
def yX5_isLetter : MethodName := ⟨RX5, "isLetter", "()Z"⟩
abbrev cX5_isDigit : ByteArray := prog_7_method_5_code
def yX5_isDigit : MethodName := ⟨RX5, "isDigit", "()Z"⟩
abbrev cX5_isAt : ByteArray := prog_7_method_6_code
def yX5_isAt : MethodName := ⟨RX5, "isAt", "(Ljava/lang/String;)Z"⟩
def RX6 : String := "ArgumentMender$Trials"
def TX6 : u_T := fun k => match k with
  | 0 => ("ArgumentMender$Trials", "web", "LArgumentMender$Web;", true)
  | 1 => ("ArgumentMender$Trials", "years", "LArgumentMender$Years;", true)
  | 2 => ("ArgumentMender$Trials", "tug", "LArgumentMender$Tug;", true)
  | 3 => ("ArgumentMender$Trials", "row", "[I", true)
  | 4 => ("ArgumentMender$Trials", "byWord", "[I", true)
  | 5 => ("ArgumentMender$Trials", "byEvening", "[I", true)
  | _ => ("ArgumentMender$Trials", "bySet", "[I", true)
def tyX6 : Nat → FieldType := fun k => match k with
  | 0 => .object "ArgumentMender$Web"
  | 1 => .object "ArgumentMender$Years"
  | 2 => .object "ArgumentMender$Tug"
  | 3 => .array .int
  | 4 => .array .int
  | 5 => .array .int
  | _ => .array .int
abbrev wsX60 : List Cond := u_ws RX6 TX6 7
theorem nmX6 : ∀ a, a < 7 → ∀ b, b < 7 → a ≠ b → (TX6 a).2.1 ≠ (TX6 b).2.1 := by decide +kernel
theorem tyX6_ok : ∀ k, k < 7 → parseFieldDescriptor (TX6 k).2.2.1 = some (tyX6 k) := by decide +kernel
abbrev cX6_init : ByteArray := prog_8_method_1_code
def yX6_init : MethodName := ⟨RX6, "<init>", "()V"⟩
abbrev cX6_forget : ByteArray := prog_8_method_2_code
def yX6_forget : MethodName := ⟨RX6, "forget", "()V"⟩
abbrev cX6_hungByWord : ByteArray := prog_8_method_3_code
def yX6_hungByWord : MethodName := ⟨RX6, "hungByWord", "(LArgumentMender$Cloth;II)I"⟩
abbrev cX6_hungByEvening : ByteArray := prog_8_method_4_code
def yX6_hungByEvening : MethodName := ⟨RX6, "hungByEvening", "(LArgumentMender$Cloth;I)I"⟩
abbrev cX6_hungByLaw : ByteArray := prog_8_method_5_code
def yX6_hungByLaw : MethodName := ⟨RX6, "hungByLaw", "(LArgumentMender$Cloth;I)I"⟩
abbrev cX6_hungWithout : ByteArray := prog_8_method_6_code
def yX6_hungWithout : MethodName := ⟨RX6, "hungWithout", "(LArgumentMender$Cloth;I)I"⟩
abbrev cX6_worthOfFirst : ByteArray := prog_8_method_7_code
def yX6_worthOfFirst : MethodName := ⟨RX6, "worthOfFirst", "(LArgumentMender$Cloth;I)I"⟩
abbrev cX6_gain : ByteArray := prog_8_method_8_code
def yX6_gain : MethodName := ⟨RX6, "gain", "(LArgumentMender$Cloth;IIII)I"⟩
abbrev cX6_tryPull : ByteArray := prog_8_method_9_code
def yX6_tryPull : MethodName := ⟨RX6, "tryPull", "(LArgumentMender$Cloth;[III)LArgumentMender$Tug;"⟩
abbrev cX6_leastHarm : ByteArray := prog_8_method_10_code
def yX6_leastHarm : MethodName := ⟨RX6, "leastHarm", "(LArgumentMender$Cloth;[III)I"⟩
abbrev cX6_alone : ByteArray := prog_8_method_11_code
def yX6_alone : MethodName := ⟨RX6, "alone", "(LArgumentMender$Cloth;[II)I"⟩
def RX7 : String := "ArgumentMender$Tug"
def TX7 : u_T := fun k => match k with
  | 0 => ("ArgumentMender$Tug", "share", "[I", true)
  | 1 => ("ArgumentMender$Tug", "times", "I", false)
  | 2 => ("ArgumentMender$Tug", "ripped", "I", false)
  | 3 => ("ArgumentMender$Tug", "lost", "I", false)
  | 4 => ("ArgumentMender$Tug", "intoHem", "I", false)
  | 5 => ("ArgumentMender$Tug", "load", "[I", true)
  | 6 => ("ArgumentMender$Tug", "whole", "I", false)
  | 7 => ("ArgumentMender$Tug", "together", "I", false)
  | 8 => ("ArgumentMender$Tug", "strong", "I", false)
  | _ => ("ArgumentMender$Tug", "second", "I", false)
def tyX7 : Nat → FieldType := fun k => match k with
  | 0 => .array .int
  | 1 => .int
  | 2 => .int
  | 3 => .int
  | 4 => .int
  | 5 => .array .int
  | 6 => .int
  | 7 => .int
  | 8 => .int
  | _ => .int
abbrev wsX70 : List Cond := u_ws RX7 TX7 10
theorem nmX7 : ∀ a, a < 10 → ∀ b, b < 10 → a ≠ b → (TX7 a).2.1 ≠ (TX7 b).2.1 := by decide +kernel
theorem tyX7_ok : ∀ k, k < 10 → parseFieldDescriptor (TX7 k).2.2.1 = some (tyX7 k) := by decide +kernel
abbrev cX7_init : ByteArray := prog_9_method_1_code
def yX7_init : MethodName := ⟨RX7, "<init>", "()V"⟩
abbrev cX7_drag : ByteArray := prog_9_method_2_code
def yX7_drag : MethodName := ⟨RX7, "drag", "(LArgumentMender$Cloth;I[III)V"⟩
abbrev cX7_begin : ByteArray := prog_9_method_3_code
def yX7_begin : MethodName := ⟨RX7, "begin", "(II)V"⟩
abbrev cX7_divide : ByteArray := prog_9_method_4_code
def yX7_divide : MethodName := ⟨RX7, "divide", "(LArgumentMender$Cloth;I[II)V"⟩
abbrev cX7_survey : ByteArray := prog_9_method_5_code
def yX7_survey : MethodName := ⟨RX7, "survey", "(LArgumentMender$Cloth;[II)V"⟩
abbrev cX7_evenly : ByteArray := prog_9_method_6_code
def yX7_evenly : MethodName := ⟨RX7, "evenly", "(LArgumentMender$Cloth;[II)V"⟩
abbrev cX7_byStrength : ByteArray := prog_9_method_7_code
def yX7_byStrength : MethodName := ⟨RX7, "byStrength", "(LArgumentMender$Cloth;[II)V"⟩
abbrev cX7_passOn : ByteArray := prog_9_method_8_code
def yX7_passOn : MethodName := ⟨RX7, "passOn", "(LArgumentMender$Cloth;I)V"⟩
abbrev cX7_tear : ByteArray := prog_9_method_9_code
def yX7_tear : MethodName := ⟨RX7, "tear", "(LArgumentMender$Cloth;[I)Z"⟩
def RX8 : String := "ArgumentMender$Web"
def TX8 : u_T := fun k => match k with
  | 0 => ("ArgumentMender$Web", "far", "[I", true)
  | _ => ("ArgumentMender$Web", "reachedBy", "[I", true)
def tyX8 : Nat → FieldType := fun k => match k with
  | 0 => .array .int
  | _ => .array .int
abbrev wsX80 : List Cond := u_ws RX8 TX8 2
theorem nmX8 : ∀ a, a < 2 → ∀ b, b < 2 → a ≠ b → (TX8 a).2.1 ≠ (TX8 b).2.1 := by decide +kernel
theorem tyX8_ok : ∀ k, k < 2 → parseFieldDescriptor (TX8 k).2.2.1 = some (tyX8 k) := by decide +kernel
abbrev cX8_init : ByteArray := prog_10_method_1_code
def yX8_init : MethodName := ⟨RX8, "<init>", "()V"⟩
abbrev cX8_wholeOf : ByteArray := prog_10_method_2_code
def yX8_wholeOf : MethodName := ⟨RX8, "wholeOf", "(LArgumentMender$Cloth;[II)I"⟩
abbrev cX8_hanging : ByteArray := prog_10_method_3_code
def yX8_hanging : MethodName := ⟨RX8, "hanging", "(LArgumentMender$Cloth;[I)I"⟩
abbrev cX8_shortest : ByteArray := prog_10_method_4_code
def yX8_shortest : MethodName := ⟨RX8, "shortest", "(LArgumentMender$Cloth;[II)I"⟩
abbrev cX8_fewest : ByteArray := prog_10_method_5_code
def yX8_fewest : MethodName := ⟨RX8, "fewest", "(LArgumentMender$Cloth;[II)I"⟩
abbrev cX8_reaches : ByteArray := prog_10_method_6_code
def yX8_reaches : MethodName := ⟨RX8, "reaches", "(LArgumentMender$Cloth;[III)Z"⟩
abbrev cX8_turned : ByteArray := prog_10_method_7_code
def yX8_turned : MethodName := ⟨RX8, "turned", "(LArgumentMender$Cloth;II)I"⟩
abbrev cX8_knot : ByteArray := prog_10_method_8_code
def yX8_knot : MethodName := ⟨RX8, "knot", "(LArgumentMender$Cloth;I)I"⟩
def RX9 : String := "ArgumentMender$Years"
def TX9 : u_T := fun k => match k with
  | 0 => ("ArgumentMender$Years", "law", "I", false)
  | 1 => ("ArgumentMender$Years", "gone", "I", false)
  | 2 => ("ArgumentMender$Years", "held", "I", false)
  | 3 => ("ArgumentMender$Years", "rows", "[[I", true)
  | 4 => ("ArgumentMender$Years", "shares", "[[I", true)
  | 5 => ("ArgumentMender$Years", "times", "[I", true)
  | 6 => ("ArgumentMender$Years", "ripped", "[I", true)
  | 7 => ("ArgumentMender$Years", "lost", "[I", true)
  | 8 => ("ArgumentMender$Years", "intoHem", "[I", true)
  | 9 => ("ArgumentMender$Years", "borne", "[I", true)
  | 10 => ("ArgumentMender$Years", "wear", "[I", true)
  | _ => ("ArgumentMender$Years", "tug", "LArgumentMender$Tug;", true)
def tyX9 : Nat → FieldType := fun k => match k with
  | 0 => .int
  | 1 => .int
  | 2 => .int
  | 3 => .array (.array .int)
  | 4 => .array (.array .int)
  | 5 => .array .int
  | 6 => .array .int
  | 7 => .array .int
  | 8 => .array .int
  | 9 => .array .int
  | 10 => .array .int
  | _ => .object "ArgumentMender$Tug"
abbrev wsX90 : List Cond := u_ws RX9 TX9 12
theorem nmX9 : ∀ a, a < 12 → ∀ b, b < 12 → a ≠ b → (TX9 a).2.1 ≠ (TX9 b).2.1 := by decide +kernel
theorem tyX9_ok : ∀ k, k < 12 → parseFieldDescriptor (TX9 k).2.2.1 = some (tyX9 k) := by decide +kernel
abbrev cX9_init : ByteArray := prog_11_method_1_code
def yX9_init : MethodName := ⟨RX9, "<init>", "()V"⟩
abbrev cX9_asTold : ByteArray := prog_11_method_2_code
def yX9_asTold : MethodName := ⟨RX9, "asTold", "(LArgumentMender$Cloth;)V"⟩
abbrev cX9_live : ByteArray := prog_11_method_3_code
def yX9_live : MethodName := ⟨RX9, "live", "(LArgumentMender$Cloth;)V"⟩
abbrev cX9_begin : ByteArray := prog_11_method_4_code
def yX9_begin : MethodName := ⟨RX9, "begin", "(LArgumentMender$Cloth;)V"⟩
abbrev cX9_letIn : ByteArray := prog_11_method_5_code
def yX9_letIn : MethodName := ⟨RX9, "letIn", "(LArgumentMender$Acts;I[I)V"⟩
abbrev cX9_note : ByteArray := prog_11_method_6_code
def yX9_note : MethodName := ⟨RX9, "note", "(I)V"⟩
abbrev cX9_addUp : ByteArray := prog_11_method_7_code
def yX9_addUp : MethodName := ⟨RX9, "addUp", "(LArgumentMender$Cloth;)V"⟩
def RX10 : String := "ArgumentMender"
def TX10 : u_T := fun k => match k with
  | 0 => ("ArgumentMender", "reader", "LArgumentMender$Reader;", true)
  | 1 => ("ArgumentMender", "cloth", "LArgumentMender$Cloth;", true)
  | 2 => ("ArgumentMender", "now", "LArgumentMender$Years;", true)
  | 3 => ("ArgumentMender", "web", "LArgumentMender$Web;", true)
  | 4 => ("ArgumentMender", "trials", "LArgumentMender$Trials;", true)
  | 5 => ("ArgumentMender", "sight", "LArgumentMender$Sight;", true)
  | 6 => ("ArgumentMender", "slots", "[LArgumentMender$Slot;", true)
  | 7 => ("ArgumentMender", "images", "[LArgumentMender$Cloth;", true)
  | _ => ("ArgumentMender", "kept", "[Z", true)
def tyX10 : Nat → FieldType := fun k => match k with
  | 0 => .object "ArgumentMender$Reader"
  | 1 => .object "ArgumentMender$Cloth"
  | 2 => .object "ArgumentMender$Years"
  | 3 => .object "ArgumentMender$Web"
  | 4 => .object "ArgumentMender$Trials"
  | 5 => .object "ArgumentMender$Sight"
  | 6 => .array (.object "ArgumentMender$Slot")
  | 7 => .array (.object "ArgumentMender$Cloth")
  | _ => .array .boolean
abbrev wsX100 : List Cond := u_ws RX10 TX10 9
theorem nmX10 : ∀ a, a < 9 → ∀ b, b < 9 → a ≠ b → (TX10 a).2.1 ≠ (TX10 b).2.1 := by decide +kernel
theorem tyX10_ok : ∀ k, k < 9 → parseFieldDescriptor (TX10 k).2.2.1 = some (tyX10 k) := by decide +kernel
abbrev cX10_init : ByteArray := prog_1_method_1_code
def yX10_init : MethodName := ⟨RX10, "<init>", "()V"⟩
abbrev cX10_feed : ByteArray := prog_1_method_2_code
def yX10_feed : MethodName := ⟨RX10, "feed", "(IIIII)I"⟩
abbrev cX10_end : ByteArray := prog_1_method_3_code
def yX10_end : MethodName := ⟨RX10, "end", "(I)I"⟩
abbrev cX10_cloth : ByteArray := prog_1_method_4_code
def yX10_cloth : MethodName := ⟨RX10, "cloth", "()I"⟩
abbrev cX10_fault : ByteArray := prog_1_method_5_code
def yX10_fault : MethodName := ⟨RX10, "fault", "(I)I"⟩
abbrev cX10_refresh : ByteArray := prog_1_method_6_code
def yX10_refresh : MethodName := ⟨RX10, "refresh", "()V"⟩
abbrev cX10_thread : ByteArray := prog_1_method_7_code
def yX10_thread : MethodName := ⟨RX10, "thread", "(II)I"⟩
abbrev cX10_quarrel : ByteArray := prog_1_method_8_code
def yX10_quarrel : MethodName := ⟨RX10, "quarrel", "(II)I"⟩
abbrev cX10_threads : ByteArray := prog_1_method_9_code
def yX10_threads : MethodName := ⟨RX10, "threads", "(I)I"⟩
abbrev cX10_strength : ByteArray := prog_1_method_10_code
def yX10_strength : MethodName := ⟨RX10, "strength", "(II)I"⟩
abbrev cX10_torn : ByteArray := prog_1_method_11_code
def yX10_torn : MethodName := ⟨RX10, "torn", "(I)I"⟩
abbrev cX10_tears : ByteArray := prog_1_method_12_code
def yX10_tears : MethodName := ⟨RX10, "tears", "(I)I"⟩
abbrev cX10_holes : ByteArray := prog_1_method_13_code
def yX10_holes : MethodName := ⟨RX10, "holes", "(I)I"⟩
abbrev cX10_hole : ByteArray := prog_1_method_14_code
def yX10_hole : MethodName := ⟨RX10, "hole", "(I)I"⟩
abbrev cX10_hung : ByteArray := prog_1_method_15_code
def yX10_hung : MethodName := ⟨RX10, "hung", "(I)I"⟩
abbrev cX10_falls : ByteArray := prog_1_method_16_code
def yX10_falls : MethodName := ⟨RX10, "falls", "(I)I"⟩
abbrev cX10_firstWithout : ByteArray := prog_1_method_17_code
def yX10_firstWithout : MethodName := ⟨RX10, "firstWithout", "(I)I"⟩
abbrev cX10_sum : ByteArray := prog_1_method_18_code
def yX10_sum : MethodName := ⟨RX10, "sum", "(I)I"⟩
abbrev cX10_together : ByteArray := prog_1_method_19_code
def yX10_together : MethodName := ⟨RX10, "together", "(I)I"⟩
abbrev cX10_strongest : ByteArray := prog_1_method_20_code
def yX10_strongest : MethodName := ⟨RX10, "strongest", "(I)I"⟩
abbrev cX10_weakest : ByteArray := prog_1_method_21_code
def yX10_weakest : MethodName := ⟨RX10, "weakest", "(I)I"⟩
abbrev cX10_loses : ByteArray := prog_1_method_22_code
def yX10_loses : MethodName := ⟨RX10, "loses", "(I)I"⟩
abbrev cX10_bare : ByteArray := prog_1_method_23_code
def yX10_bare : MethodName := ⟨RX10, "bare", "(I)I"⟩
abbrev cX10_frail : ByteArray := prog_1_method_24_code
def yX10_frail : MethodName := ⟨RX10, "frail", "()I"⟩
abbrev cX10_stuff : ByteArray := prog_1_method_25_code
def yX10_stuff : MethodName := ⟨RX10, "stuff", "(II)I"⟩
abbrev cX10_steps : ByteArray := prog_1_method_26_code
def yX10_steps : MethodName := ⟨RX10, "steps", "(II)I"⟩
abbrev cX10_has : ByteArray := prog_1_method_27_code
def yX10_has : MethodName := ⟨RX10, "has", "(II)I"⟩
abbrev cX10_pulls : ByteArray := prog_1_method_28_code
def yX10_pulls : MethodName := ⟨RX10, "pulls", "(I)I"⟩
abbrev cX10_rips : ByteArray := prog_1_method_29_code
def yX10_rips : MethodName := ⟨RX10, "rips", "(I)I"⟩
abbrev cX10_through : ByteArray := prog_1_method_30_code
def yX10_through : MethodName := ⟨RX10, "through", "(I)I"⟩
abbrev cX10_hem : ByteArray := prog_1_method_31_code
def yX10_hem : MethodName := ⟨RX10, "hem", "(I)I"⟩
abbrev cX10_loud : ByteArray := prog_1_method_32_code
def yX10_loud : MethodName := ⟨RX10, "loud", "()I"⟩
abbrev cX10_worst : ByteArray := prog_1_method_33_code
def yX10_worst : MethodName := ⟨RX10, "worst", "()I"⟩
abbrev cX10_bears : ByteArray := prog_1_method_34_code
def yX10_bears : MethodName := ⟨RX10, "bears", "(I)I"⟩
abbrev cX10_worn : ByteArray := prog_1_method_35_code
def yX10_worn : MethodName := ⟨RX10, "worn", "(I)I"⟩
abbrev cX10_idle : ByteArray := prog_1_method_36_code
def yX10_idle : MethodName := ⟨RX10, "idle", "()I"⟩
abbrev cX10_canTry : ByteArray := prog_1_method_37_code
def yX10_canTry : MethodName := ⟨RX10, "canTry", "(III)Z"⟩
abbrev cX10_tries : ByteArray := prog_1_method_38_code
def yX10_tries : MethodName := ⟨RX10, "tries", "(III)I"⟩
abbrev cX10_would : ByteArray := prog_1_method_39_code
def yX10_would : MethodName := ⟨RX10, "would", "(IIII)I"⟩
abbrev cX10_lets : ByteArray := prog_1_method_40_code
def yX10_lets : MethodName := ⟨RX10, "lets", "(III)I"⟩
abbrev cX10_gate : ByteArray := prog_1_method_41_code
def yX10_gate : MethodName := ⟨RX10, "gate", "(II)I"⟩
abbrev cX10_soft : ByteArray := prog_1_method_42_code
def yX10_soft : MethodName := ⟨RX10, "soft", "(I)I"⟩
abbrev cX10_bursts : ByteArray := prog_1_method_43_code
def yX10_bursts : MethodName := ⟨RX10, "bursts", "(II)I"⟩
abbrev cX10_word : ByteArray := prog_1_method_44_code
def yX10_word : MethodName := ⟨RX10, "word", "(II)I"⟩
abbrev cX10_leastWord : ByteArray := prog_1_method_45_code
def yX10_leastWord : MethodName := ⟨RX10, "leastWord", "(II)I"⟩
abbrev cX10_darn : ByteArray := prog_1_method_46_code
def yX10_darn : MethodName := ⟨RX10, "darn", "(I)I"⟩
abbrev cX10_mend : ByteArray := prog_1_method_47_code
def yX10_mend : MethodName := ⟨RX10, "mend", "(I)I"⟩
abbrev cX10_cut : ByteArray := prog_1_method_48_code
def yX10_cut : MethodName := ⟨RX10, "cut", "(II)I"⟩
abbrev cX10_keys : ByteArray := prog_1_method_49_code
def yX10_keys : MethodName := ⟨RX10, "keys", "(II)I"⟩
abbrev cX10_hangingAtLast : ByteArray := prog_1_method_50_code
def yX10_hangingAtLast : MethodName := ⟨RX10, "hangingAtLast", "()I"⟩
abbrev cX10_blame : ByteArray := prog_1_method_51_code
def yX10_blame : MethodName := ⟨RX10, "blame", "()I"⟩
abbrev cX10_dear : ByteArray := prog_1_method_52_code
def yX10_dear : MethodName := ⟨RX10, "dear", "()I"⟩
abbrev cX10_worse : ByteArray := prog_1_method_53_code
def yX10_worse : MethodName := ⟨RX10, "worse", "()I"⟩
abbrev cX10_look : ByteArray := prog_1_method_54_code
def yX10_look : MethodName := ⟨RX10, "look", "(II)I"⟩
abbrev cX10_fits : ByteArray := prog_1_method_55_code
def yX10_fits : MethodName := ⟨RX10, "fits", "(II)I"⟩
abbrev cX10_least : ByteArray := prog_1_method_56_code
def yX10_least : MethodName := ⟨RX10, "least", "(II)I"⟩
abbrev cX10_greatest : ByteArray := prog_1_method_57_code
def yX10_greatest : MethodName := ⟨RX10, "greatest", "(II)I"⟩
abbrev cX10_ask : ByteArray := prog_1_method_58_code
def yX10_ask : MethodName := ⟨RX10, "ask", "(II)I"⟩
abbrev cX10_leaves : ByteArray := prog_1_method_59_code
def yX10_leaves : MethodName := ⟨RX10, "leaves", "(II)I"⟩
abbrev cX10_laws : ByteArray := prog_1_method_60_code
def yX10_laws : MethodName := ⟨RX10, "laws", "(I)I"⟩
abbrev cX10_by : ByteArray := prog_1_method_61_code
def yX10_by : MethodName := ⟨RX10, "by", "(I)I"⟩
abbrev cX10_law : ByteArray := prog_1_method_62_code
def yX10_law : MethodName := ⟨RX10, "law", "()I"⟩
abbrev cX10_worth : ByteArray := prog_1_method_63_code
def yX10_worth : MethodName := ⟨RX10, "worth", "(I)I"⟩
abbrev cX10_share : ByteArray := prog_1_method_64_code
def yX10_share : MethodName := ⟨RX10, "share", "(II)I"⟩
abbrev cX10_areTwo : ByteArray := prog_1_method_65_code
def yX10_areTwo : MethodName := ⟨RX10, "areTwo", "(II)Z"⟩
abbrev cX10_rests : ByteArray := prog_1_method_66_code
def yX10_rests : MethodName := ⟨RX10, "rests", "(II)I"⟩
abbrev cX10_gets : ByteArray := prog_1_method_67_code
def yX10_gets : MethodName := ⟨RX10, "gets", "(IIII)I"⟩
abbrev cX10_chance : ByteArray := prog_1_method_68_code
def yX10_chance : MethodName := ⟨RX10, "chance", "(II)J"⟩
abbrev cX10_mean : ByteArray := prog_1_method_69_code
def yX10_mean : MethodName := ⟨RX10, "mean", "(I)J"⟩
abbrev cX10_expected : ByteArray := prog_1_method_70_code
def yX10_expected : MethodName := ⟨RX10, "expected", "(II)J"⟩
abbrev cX10_power : ByteArray := prog_1_method_71_code
def yX10_power : MethodName := ⟨RX10, "power", "(JI)J"⟩
abbrev cX10_inLowest : ByteArray := prog_1_method_72_code
def yX10_inLowest : MethodName := ⟨RX10, "inLowest", "(JJI)J"⟩
abbrev cX10_sews : ByteArray := prog_1_method_73_code
def yX10_sews : MethodName := ⟨RX10, "sews", "(III)I"⟩
abbrev cX10_quarrels : ByteArray := prog_1_method_74_code
def yX10_quarrels : MethodName := ⟨RX10, "quarrels", "(III)I"⟩
abbrev cX10_act : ByteArray := prog_1_method_75_code
def yX10_act : MethodName := ⟨RX10, "act", "(IIII)I"⟩
abbrev cX10_undo : ByteArray := prog_1_method_76_code
def yX10_undo : MethodName := ⟨RX10, "undo", "()I"⟩
abbrev cX10_anew : ByteArray := prog_1_method_77_code
def yX10_anew : MethodName := ⟨RX10, "anew", "()I"⟩
abbrev cX10_drawn : ByteArray := prog_1_method_78_code
def yX10_drawn : MethodName := ⟨RX10, "drawn", "(II)I"⟩
abbrev cX10_drawEvening : ByteArray := prog_1_method_79_code
def yX10_drawEvening : MethodName := ⟨RX10, "drawEvening", "(I)I"⟩
abbrev cX10_luck : ByteArray := prog_1_method_80_code
def yX10_luck : MethodName := ⟨RX10, "luck", "(III)I"⟩
abbrev cX10_rate : ByteArray := prog_1_method_81_code
def yX10_rate : MethodName := ⟨RX10, "rate", "(II)I"⟩
abbrev cX10_count : ByteArray := prog_1_method_82_code
def yX10_count : MethodName := ⟨RX10, "count", "(I)I"⟩
abbrev cX10_rowsThere : ByteArray := prog_1_method_83_code
def yX10_rowsThere : MethodName := ⟨RX10, "rowsThere", "()I"⟩
abbrev cX10_image : ByteArray := prog_1_method_84_code
def yX10_image : MethodName := ⟨RX10, "image", "(I)I"⟩
abbrev cX10_back : ByteArray := prog_1_method_85_code
def yX10_back : MethodName := ⟨RX10, "back", "(I)I"⟩
abbrev cX10_hasSlot : ByteArray := prog_1_method_86_code
def yX10_hasSlot : MethodName := ⟨RX10, "hasSlot", "(I)Z"⟩
abbrev cX10_within : ByteArray := prog_1_method_87_code
def yX10_within : MethodName := ⟨RX10, "within", "(III)Z"⟩
abbrev cX10_row : ByteArray := prog_1_method_88_code
def yX10_row : MethodName := ⟨RX10, "row", "(III)I"⟩
abbrev cX10_write : ByteArray := prog_1_method_89_code
def yX10_write : MethodName := ⟨RX10, "write", "(IIJ)I"⟩
abbrev cX10_paste : ByteArray := prog_1_method_90_code
def yX10_paste : MethodName := ⟨RX10, "paste", "(IIIII)I"⟩
def RX11 : String := "ArgumentMenderModel"
def TX11 : u_T := fun k => match k with
  | 0 => ("ArgumentMenderModel", "thrown", "I", false)
  | 1 => ("ArgumentMenderModel", "world", "[I", true)
  | 2 => ("ArgumentMenderModel", "images", "[I", true)
  | 3 => ("ArgumentMenderModel", "hasImage", "[Z", true)
  | 4 => ("ArgumentMenderModel", "tape", "[B", true)
  | 5 => ("ArgumentMenderModel", "taped", "I", false)
  | 6 => ("ArgumentMenderModel", "five", "[I", true)
  | 7 => ("ArgumentMenderModel", "size", "I", false)
  | 8 => ("ArgumentMenderModel", "at", "I", false)
  | 9 => ("ArgumentMenderModel", "from", "I", false)
  | 10 => ("ArgumentMenderModel", "token", "I", false)
  | 11 => ("ArgumentMenderModel", "value", "I", false)
  | 12 => ("ArgumentMenderModel", "faultKind", "I", false)
  | 13 => ("ArgumentMenderModel", "faultPlace", "I", false)
  | 14 => ("ArgumentMenderModel", "fresh", "[I", true)
  | 15 => ("ArgumentMenderModel", "holdsNow", "[I", true)
  | 16 => ("ArgumentMenderModel", "lawNow", "I", false)
  | 17 => ("ArgumentMenderModel", "thereSet", "I", false)
  | 18 => ("ArgumentMenderModel", "comeSet", "I", false)
  | 19 => ("ArgumentMenderModel", "now", "[I", true)
  | 20 => ("ArgumentMenderModel", "shareNow", "[I", true)
  | 21 => ("ArgumentMenderModel", "loadNow", "[I", true)
  | 22 => ("ArgumentMenderModel", "lostNow", "I", false)
  | 23 => ("ArgumentMenderModel", "hemNow", "I", false)
  | 24 => ("ArgumentMenderModel", "pullsNow", "I", false)
  | 25 => ("ArgumentMenderModel", "ripsNow", "I", false)
  | 26 => ("ArgumentMenderModel", "wornBy", "[I", true)
  | 27 => ("ArgumentMenderModel", "bearsBy", "[I", true)
  | 28 => ("ArgumentMenderModel", "strengthAt", "[I", true)
  | 29 => ("ArgumentMenderModel", "shareBy", "[I", true)
  | 30 => ("ArgumentMenderModel", "pullsBy", "[I", true)
  | 31 => ("ArgumentMenderModel", "ripsBy", "[I", true)
  | 32 => ("ArgumentMenderModel", "throughBy", "[I", true)
  | 33 => ("ArgumentMenderModel", "hemBy", "[I", true)
  | 34 => ("ArgumentMenderModel", "farOf", "[I", true)
  | 35 => ("ArgumentMenderModel", "cameBy", "[I", true)
  | 36 => ("ArgumentMenderModel", "usedSet", "I", false)
  | 37 => ("ArgumentMenderModel", "fit", "[I", true)
  | 38 => ("ArgumentMenderModel", "knownBy", "[I", true)
  | 39 => ("ArgumentMenderModel", "fitMany", "I", false)
  | 40 => ("ArgumentMenderModel", "askWorst", "I", false)
  | 41 => ("ArgumentMenderModel", "worthBy", "[I", true)
  | 42 => ("ArgumentMenderModel", "oftenAll", "J", false)
  | 43 => ("ArgumentMenderModel", "oftenHung", "J", false)
  | 44 => ("ArgumentMenderModel", "oftenMany", "J", false)
  | 45 => ("ArgumentMenderModel", "many", "[I", true)
  | 46 => ("ArgumentMenderModel", "width", "[I", true)
  | 47 => ("ArgumentMenderModel", "numbers", "[J", true)
  | _ => ("ArgumentMenderModel", "moving", "[J", true)
def tyX11 : Nat → FieldType := fun k => match k with
  | 0 => .int
  | 1 => .array .int
  | 2 => .array .int
  | 3 => .array .boolean
  | 4 => .array .byte
  | 5 => .int
  | 6 => .array .int
  | 7 => .int
  | 8 => .int
  | 9 => .int
  | 10 => .int
  | 11 => .int
  | 12 => .int
  | 13 => .int
  | 14 => .array .int
  | 15 => .array .int
  | 16 => .int
  | 17 => .int
  | 18 => .int
  | 19 => .array .int
  | 20 => .array .int
  | 21 => .array .int
  | 22 => .int
  | 23 => .int
  | 24 => .int
  | 25 => .int
  | 26 => .array .int
  | 27 => .array .int
  | 28 => .array .int
  | 29 => .array .int
  | 30 => .array .int
  | 31 => .array .int
  | 32 => .array .int
  | 33 => .array .int
  | 34 => .array .int
  | 35 => .array .int
  | 36 => .int
  | 37 => .array .int
  | 38 => .array .int
  | 39 => .int
  | 40 => .int
  | 41 => .array .int
  | 42 => .long
  | 43 => .long
  | 44 => .long
  | 45 => .array .int
  | 46 => .array .int
  | 47 => .array .long
  | _ => .array .long
abbrev wsX110 : List Cond := u_ws RX11 TX11 49
theorem nmX11 : ∀ a, a < 49 → ∀ b, b < 49 → a ≠ b → (TX11 a).2.1 ≠ (TX11 b).2.1 := by decide +kernel
theorem tyX11_ok : ∀ k, k < 49 → parseFieldDescriptor (TX11 k).2.2.1 = some (tyX11 k) := by decide +kernel
abbrev cX11_init : ByteArray := prog_13_method_1_code
def yX11_init : MethodName := ⟨RX11, "<init>", "()V"⟩
abbrev cX11_in : ByteArray := prog_13_method_3_code
def yX11_in : MethodName := ⟨RX11, "in", "(JJJ)Z"⟩
abbrev cX11_bits : ByteArray := prog_13_method_4_code
def yX11_bits : MethodName := ⟨RX11, "bits", "(I)I"⟩
abbrev cX11_bit : ByteArray := prog_13_method_5_code
def yX11_bit : MethodName := ⟨RX11, "bit", "(II)I"⟩
abbrev cX11_image : ByteArray := prog_13_method_6_code
def yX11_image : MethodName := ⟨RX11, "image", "(I)I"⟩
abbrev cX11_back : ByteArray := prog_13_method_7_code
def yX11_back : MethodName := ⟨RX11, "back", "(I)I"⟩
abbrev cX11_isCloth : ByteArray := prog_13_method_8_code
def yX11_isCloth : MethodName := ⟨RX11, "isCloth", "()Z"⟩
abbrev cX11_years : ByteArray := prog_13_method_9_code
def yX11_years : MethodName := ⟨RX11, "years", "()I"⟩
abbrev cX11_claims : ByteArray := prog_13_method_10_code
def yX11_claims : MethodName := ⟨RX11, "claims", "()I"⟩
abbrev cX11_threadMany : ByteArray := prog_13_method_11_code
def yX11_threadMany : MethodName := ⟨RX11, "threadMany", "()I"⟩
abbrev cX11_quarrelMany : ByteArray := prog_13_method_12_code
def yX11_quarrelMany : MethodName := ⟨RX11, "quarrelMany", "()I"⟩
abbrev cX11_isYear : ByteArray := prog_13_method_13_code
def yX11_isYear : MethodName := ⟨RX11, "isYear", "(J)Z"⟩
abbrev cX11_isAhead : ByteArray := prog_13_method_14_code
def yX11_isAhead : MethodName := ⟨RX11, "isAhead", "(J)Z"⟩
abbrev cX11_isClaim : ByteArray := prog_13_method_15_code
def yX11_isClaim : MethodName := ⟨RX11, "isClaim", "(I)Z"⟩
abbrev cX11_isThread : ByteArray := prog_13_method_16_code
def yX11_isThread : MethodName := ⟨RX11, "isThread", "(J)Z"⟩
abbrev cX11_isQuarrel : ByteArray := prog_13_method_17_code
def yX11_isQuarrel : MethodName := ⟨RX11, "isQuarrel", "(I)Z"⟩
abbrev cX11_fromOf : ByteArray := prog_13_method_18_code
def yX11_fromOf : MethodName := ⟨RX11, "fromOf", "(I)I"⟩
abbrev cX11_toOf : ByteArray := prog_13_method_19_code
def yX11_toOf : MethodName := ⟨RX11, "toOf", "(I)I"⟩
abbrev cX11_quarrelOf : ByteArray := prog_13_method_20_code
def yX11_quarrelOf : MethodName := ⟨RX11, "quarrelOf", "(II)I"⟩
abbrev cX11_feed : ByteArray := prog_13_method_21_code
def yX11_feed : MethodName := ⟨RX11, "feed", "(IIIII)I"⟩
abbrev cX11_end : ByteArray := prog_13_method_22_code
def yX11_end : MethodName := ⟨RX11, "end", "(I)I"⟩
abbrev cX11_see : ByteArray := prog_13_method_23_code
def yX11_see : MethodName := ⟨RX11, "see", "(I)I"⟩
abbrev cX11_advance : ByteArray := prog_13_method_24_code
def yX11_advance : MethodName := ⟨RX11, "advance", "()V"⟩
abbrev cX11_good : ByteArray := prog_13_method_25_code
def yX11_good : MethodName := ⟨RX11, "good", "()Z"⟩
abbrev cX11_errs : ByteArray := prog_13_method_26_code
def yX11_errs : MethodName := ⟨RX11, "errs", "(I)V"⟩
abbrev cX11_is : ByteArray := prog_13_method_27_code
def yX11_is : MethodName := ⟨RX11, "is", "(Ljava/lang/String;)Z"⟩
abbrev cX11_takes : ByteArray := prog_13_method_28_code
def yX11_takes : MethodName := ⟨RX11, "takes", "(Ljava/lang/String;)Z"⟩
abbrev cX11_expects : ByteArray := prog_13_method_29_code
def yX11_expects : MethodName := ⟨RX11, "expects", "(Ljava/lang/String;)V"⟩
abbrev cX11_number : ByteArray := prog_13_method_30_code
def yX11_number : MethodName := ⟨RX11, "number", "(II)I"⟩
abbrev cX11_toldBy : ByteArray := prog_13_method_31_code
def yX11_toldBy : MethodName := ⟨RX11, "toldBy", "(Ljava/lang/String;II)I"⟩
abbrev cX11_fault : ByteArray := prog_13_method_32_code
def yX11_fault : MethodName := ⟨RX11, "fault", "(I)I"⟩
abbrev cX11_readFirst : ByteArray := prog_13_method_33_code
def yX11_readFirst : MethodName := ⟨RX11, "readFirst", "()V"⟩
abbrev cX11_readThread : ByteArray := prog_13_method_34_code
def yX11_readThread : MethodName := ⟨RX11, "readThread", "()V"⟩
abbrev cX11_readQuarrel : ByteArray := prog_13_method_35_code
def yX11_readQuarrel : MethodName := ⟨RX11, "readQuarrel", "()V"⟩
abbrev cX11_isFull : ByteArray := prog_13_method_36_code
def yX11_isFull : MethodName := ⟨RX11, "isFull", "()Z"⟩
abbrev cX11_readNext : ByteArray := prog_13_method_37_code
def yX11_readNext : MethodName := ⟨RX11, "readNext", "()V"⟩
abbrev cX11_readLine : ByteArray := prog_13_method_38_code
def yX11_readLine : MethodName := ⟨RX11, "readLine", "()V"⟩
abbrev cX11_cloth : ByteArray := prog_13_method_39_code
def yX11_cloth : MethodName := ⟨RX11, "cloth", "()I"⟩
abbrev cX11_thread : ByteArray := prog_13_method_40_code
def yX11_thread : MethodName := ⟨RX11, "thread", "(II)I"⟩
abbrev cX11_quarrel : ByteArray := prog_13_method_41_code
def yX11_quarrel : MethodName := ⟨RX11, "quarrel", "(II)I"⟩
abbrev cX11_threadsOf : ByteArray := prog_13_method_42_code
def yX11_threadsOf : MethodName := ⟨RX11, "threadsOf", "(I)I"⟩
abbrev cX11_threads : ByteArray := prog_13_method_43_code
def yX11_threads : MethodName := ⟨RX11, "threads", "(I)I"⟩
abbrev cX11_asItIs : ByteArray := prog_13_method_44_code
def yX11_asItIs : MethodName := ⟨RX11, "asItIs", "()V"⟩
abbrev cX11_isWhole : ByteArray := prog_13_method_45_code
def yX11_isWhole : MethodName := ⟨RX11, "isWhole", "(II)Z"⟩
abbrev cX11_strongestOf : ByteArray := prog_13_method_46_code
def yX11_strongestOf : MethodName := ⟨RX11, "strongestOf", "(II)I"⟩
abbrev cX11_shareEqually : ByteArray := prog_13_method_47_code
def yX11_shareEqually : MethodName := ⟨RX11, "shareEqually", "(III)V"⟩
abbrev cX11_shareByStrength : ByteArray := prog_13_method_48_code
def yX11_shareByStrength : MethodName := ⟨RX11, "shareByStrength", "(III)V"⟩
abbrev cX11_shareByHalves : ByteArray := prog_13_method_49_code
def yX11_shareByHalves : MethodName := ⟨RX11, "shareByHalves", "(III)V"⟩
abbrev cX11_shareOut : ByteArray := prog_13_method_50_code
def yX11_shareOut : MethodName := ⟨RX11, "shareOut", "(I)V"⟩
abbrev cX11_pullOnce : ByteArray := prog_13_method_51_code
def yX11_pullOnce : MethodName := ⟨RX11, "pullOnce", "(II)V"⟩
abbrev cX11_tearNow : ByteArray := prog_13_method_52_code
def yX11_tearNow : MethodName := ⟨RX11, "tearNow", "()I"⟩
abbrev cX11_quarrelNow : ByteArray := prog_13_method_53_code
def yX11_quarrelNow : MethodName := ⟨RX11, "quarrelNow", "(II)V"⟩
abbrev cX11_keepQuarrel : ByteArray := prog_13_method_54_code
def yX11_keepQuarrel : MethodName := ⟨RX11, "keepQuarrel", "(I)V"⟩
abbrev cX11_sewAll : ByteArray := prog_13_method_55_code
def yX11_sewAll : MethodName := ⟨RX11, "sewAll", "(I)V"⟩
abbrev cX11_goYear : ByteArray := prog_13_method_56_code
def yX11_goYear : MethodName := ⟨RX11, "goYear", "(I)V"⟩
abbrev cX11_goAll : ByteArray := prog_13_method_57_code
def yX11_goAll : MethodName := ⟨RX11, "goAll", "()V"⟩
abbrev cX11_asksCloth : ByteArray := prog_13_method_58_code
def yX11_asksCloth : MethodName := ⟨RX11, "asksCloth", "()Z"⟩
abbrev cX11_asksYear : ByteArray := prog_13_method_59_code
def yX11_asksYear : MethodName := ⟨RX11, "asksYear", "(I)Z"⟩
abbrev cX11_strengthOf : ByteArray := prog_13_method_60_code
def yX11_strengthOf : MethodName := ⟨RX11, "strengthOf", "(II)I"⟩
abbrev cX11_tornIn : ByteArray := prog_13_method_61_code
def yX11_tornIn : MethodName := ⟨RX11, "tornIn", "(I)I"⟩
abbrev cX11_wholeIn : ByteArray := prog_13_method_62_code
def yX11_wholeIn : MethodName := ⟨RX11, "wholeIn", "(I)I"⟩
abbrev cX11_hungBy : ByteArray := prog_13_method_63_code
def yX11_hungBy : MethodName := ⟨RX11, "hungBy", "(I)I"⟩
abbrev cX11_hungIn : ByteArray := prog_13_method_64_code
def yX11_hungIn : MethodName := ⟨RX11, "hungIn", "(I)I"⟩
abbrev cX11_hungLast : ByteArray := prog_13_method_65_code
def yX11_hungLast : MethodName := ⟨RX11, "hungLast", "()I"⟩
abbrev cX11_allClaims : ByteArray := prog_13_method_66_code
def yX11_allClaims : MethodName := ⟨RX11, "allClaims", "()I"⟩
abbrev cX11_strength : ByteArray := prog_13_method_67_code
def yX11_strength : MethodName := ⟨RX11, "strength", "(II)I"⟩
abbrev cX11_torn : ByteArray := prog_13_method_68_code
def yX11_torn : MethodName := ⟨RX11, "torn", "(I)I"⟩
abbrev cX11_tears : ByteArray := prog_13_method_69_code
def yX11_tears : MethodName := ⟨RX11, "tears", "(I)I"⟩
abbrev cX11_holesIn : ByteArray := prog_13_method_70_code
def yX11_holesIn : MethodName := ⟨RX11, "holesIn", "(I)I"⟩
abbrev cX11_holes : ByteArray := prog_13_method_71_code
def yX11_holes : MethodName := ⟨RX11, "holes", "(I)I"⟩
abbrev cX11_hole : ByteArray := prog_13_method_72_code
def yX11_hole : MethodName := ⟨RX11, "hole", "(I)I"⟩
abbrev cX11_hung : ByteArray := prog_13_method_73_code
def yX11_hung : MethodName := ⟨RX11, "hung", "(I)I"⟩
abbrev cX11_falls : ByteArray := prog_13_method_74_code
def yX11_falls : MethodName := ⟨RX11, "falls", "(I)I"⟩
abbrev cX11_frail : ByteArray := prog_13_method_75_code
def yX11_frail : MethodName := ⟨RX11, "frail", "()I"⟩
abbrev cX11_sumIn : ByteArray := prog_13_method_76_code
def yX11_sumIn : MethodName := ⟨RX11, "sumIn", "(I)I"⟩
abbrev cX11_sum : ByteArray := prog_13_method_77_code
def yX11_sum : MethodName := ⟨RX11, "sum", "(I)I"⟩
abbrev cX11_loses : ByteArray := prog_13_method_78_code
def yX11_loses : MethodName := ⟨RX11, "loses", "(I)I"⟩
abbrev cX11_stuff : ByteArray := prog_13_method_79_code
def yX11_stuff : MethodName := ⟨RX11, "stuff", "(II)I"⟩
abbrev cX11_bare : ByteArray := prog_13_method_80_code
def yX11_bare : MethodName := ⟨RX11, "bare", "(I)I"⟩
abbrev cX11_strongest : ByteArray := prog_13_method_81_code
def yX11_strongest : MethodName := ⟨RX11, "strongest", "(I)I"⟩
abbrev cX11_weakest : ByteArray := prog_13_method_82_code
def yX11_weakest : MethodName := ⟨RX11, "weakest", "(I)I"⟩
abbrev cX11_steps : ByteArray := prog_13_method_83_code
def yX11_steps : MethodName := ⟨RX11, "steps", "(II)I"⟩
abbrev cX11_asksQuarrel : ByteArray := prog_13_method_84_code
def yX11_asksQuarrel : MethodName := ⟨RX11, "asksQuarrel", "(I)Z"⟩
abbrev cX11_comes : ByteArray := prog_13_method_85_code
def yX11_comes : MethodName := ⟨RX11, "comes", "(I)Z"⟩
abbrev cX11_has : ByteArray := prog_13_method_86_code
def yX11_has : MethodName := ⟨RX11, "has", "(II)I"⟩
abbrev cX11_pulls : ByteArray := prog_13_method_87_code
def yX11_pulls : MethodName := ⟨RX11, "pulls", "(I)I"⟩
abbrev cX11_rips : ByteArray := prog_13_method_88_code
def yX11_rips : MethodName := ⟨RX11, "rips", "(I)I"⟩
abbrev cX11_through : ByteArray := prog_13_method_89_code
def yX11_through : MethodName := ⟨RX11, "through", "(I)I"⟩
abbrev cX11_hem : ByteArray := prog_13_method_90_code
def yX11_hem : MethodName := ⟨RX11, "hem", "(I)I"⟩
abbrev cX11_loud : ByteArray := prog_13_method_91_code
def yX11_loud : MethodName := ⟨RX11, "loud", "()I"⟩
abbrev cX11_worst : ByteArray := prog_13_method_92_code
def yX11_worst : MethodName := ⟨RX11, "worst", "()I"⟩
abbrev cX11_bears : ByteArray := prog_13_method_93_code
def yX11_bears : MethodName := ⟨RX11, "bears", "(I)I"⟩
abbrev cX11_worn : ByteArray := prog_13_method_94_code
def yX11_worn : MethodName := ⟨RX11, "worn", "(I)I"⟩
abbrev cX11_idle : ByteArray := prog_13_method_95_code
def yX11_idle : MethodName := ⟨RX11, "idle", "()I"⟩
abbrev cX11_tryOn : ByteArray := prog_13_method_96_code
def yX11_tryOn : MethodName := ⟨RX11, "tryOn", "(III)V"⟩
abbrev cX11_asksTry : ByteArray := prog_13_method_97_code
def yX11_asksTry : MethodName := ⟨RX11, "asksTry", "(III)Z"⟩
abbrev cX11_tries : ByteArray := prog_13_method_98_code
def yX11_tries : MethodName := ⟨RX11, "tries", "(III)I"⟩
abbrev cX11_would : ByteArray := prog_13_method_99_code
def yX11_would : MethodName := ⟨RX11, "would", "(IIII)I"⟩
abbrev cX11_lets : ByteArray := prog_13_method_100_code
def yX11_lets : MethodName := ⟨RX11, "lets", "(III)I"⟩
abbrev cX11_gateOf : ByteArray := prog_13_method_101_code
def yX11_gateOf : MethodName := ⟨RX11, "gateOf", "(IIZ)I"⟩
abbrev cX11_orNone : ByteArray := prog_13_method_102_code
def yX11_orNone : MethodName := ⟨RX11, "orNone", "(II)I"⟩
abbrev cX11_gate : ByteArray := prog_13_method_103_code
def yX11_gate : MethodName := ⟨RX11, "gate", "(II)I"⟩
abbrev cX11_bursts : ByteArray := prog_13_method_104_code
def yX11_bursts : MethodName := ⟨RX11, "bursts", "(II)I"⟩
abbrev cX11_soft : ByteArray := prog_13_method_105_code
def yX11_soft : MethodName := ⟨RX11, "soft", "(I)I"⟩
abbrev cX11_wordOf : ByteArray := prog_13_method_106_code
def yX11_wordOf : MethodName := ⟨RX11, "wordOf", "(II)I"⟩
abbrev cX11_word : ByteArray := prog_13_method_107_code
def yX11_word : MethodName := ⟨RX11, "word", "(II)I"⟩
abbrev cX11_darn : ByteArray := prog_13_method_108_code
def yX11_darn : MethodName := ⟨RX11, "darn", "(I)I"⟩
abbrev cX11_mend : ByteArray := prog_13_method_109_code
def yX11_mend : MethodName := ⟨RX11, "mend", "(I)I"⟩
abbrev cX11_findWay : ByteArray := prog_13_method_110_code
def yX11_findWay : MethodName := ⟨RX11, "findWay", "(II)Z"⟩
abbrev cX11_cut : ByteArray := prog_13_method_111_code
def yX11_cut : MethodName := ⟨RX11, "cut", "(II)I"⟩
abbrev cX11_keys : ByteArray := prog_13_method_112_code
def yX11_keys : MethodName := ⟨RX11, "keys", "(II)I"⟩
abbrev cX11_blame : ByteArray := prog_13_method_113_code
def yX11_blame : MethodName := ⟨RX11, "blame", "()I"⟩
abbrev cX11_hungWithout : ByteArray := prog_13_method_114_code
def yX11_hungWithout : MethodName := ⟨RX11, "hungWithout", "(I)I"⟩
abbrev cX11_dear : ByteArray := prog_13_method_115_code
def yX11_dear : MethodName := ⟨RX11, "dear", "()I"⟩
abbrev cX11_worse : ByteArray := prog_13_method_116_code
def yX11_worse : MethodName := ⟨RX11, "worse", "()I"⟩
abbrev cX11_numberAt : ByteArray := prog_13_method_117_code
def yX11_numberAt : MethodName := ⟨RX11, "numberAt", "(II)J"⟩
abbrev cX11_askSeen : ByteArray := prog_13_method_118_code
def yX11_askSeen : MethodName := ⟨RX11, "askSeen", "(I)I"⟩
abbrev cX11_isSeen : ByteArray := prog_13_method_119_code
def yX11_isSeen : MethodName := ⟨RX11, "isSeen", "(I)Z"⟩
abbrev cX11_layFits : ByteArray := prog_13_method_120_code
def yX11_layFits : MethodName := ⟨RX11, "layFits", "(II)I"⟩
abbrev cX11_fits : ByteArray := prog_13_method_121_code
def yX11_fits : MethodName := ⟨RX11, "fits", "(II)I"⟩
abbrev cX11_least : ByteArray := prog_13_method_122_code
def yX11_least : MethodName := ⟨RX11, "least", "(II)I"⟩
abbrev cX11_greatest : ByteArray := prog_13_method_123_code
def yX11_greatest : MethodName := ⟨RX11, "greatest", "(II)I"⟩
abbrev cX11_worstIn : ByteArray := prog_13_method_124_code
def yX11_worstIn : MethodName := ⟨RX11, "worstIn", "(I)I"⟩
abbrev cX11_askOf : ByteArray := prog_13_method_125_code
def yX11_askOf : MethodName := ⟨RX11, "askOf", "()I"⟩
abbrev cX11_ask : ByteArray := prog_13_method_126_code
def yX11_ask : MethodName := ⟨RX11, "ask", "(II)I"⟩
abbrev cX11_leaves : ByteArray := prog_13_method_127_code
def yX11_leaves : MethodName := ⟨RX11, "leaves", "(II)I"⟩
abbrev cX11_laws : ByteArray := prog_13_method_128_code
def yX11_laws : MethodName := ⟨RX11, "laws", "(I)I"⟩
abbrev cX11_hungByLaw : ByteArray := prog_13_method_129_code
def yX11_hungByLaw : MethodName := ⟨RX11, "hungByLaw", "(I)I"⟩
abbrev cX11_by : ByteArray := prog_13_method_130_code
def yX11_by : MethodName := ⟨RX11, "by", "(I)I"⟩
abbrev cX11_law : ByteArray := prog_13_method_131_code
def yX11_law : MethodName := ⟨RX11, "law", "()I"⟩
abbrev cX11_worthOf : ByteArray := prog_13_method_132_code
def yX11_worthOf : MethodName := ⟨RX11, "worthOf", "(I)I"⟩
abbrev cX11_worth : ByteArray := prog_13_method_133_code
def yX11_worth : MethodName := ⟨RX11, "worth", "(I)I"⟩
abbrev cX11_factorial : ByteArray := prog_13_method_134_code
def yX11_factorial : MethodName := ⟨RX11, "factorial", "(I)I"⟩
abbrev cX11_divisor : ByteArray := prog_13_method_135_code
def yX11_divisor : MethodName := ⟨RX11, "divisor", "(JJ)J"⟩
abbrev cX11_part : ByteArray := prog_13_method_136_code
def yX11_part : MethodName := ⟨RX11, "part", "(JJI)J"⟩
abbrev cX11_share : ByteArray := prog_13_method_137_code
def yX11_share : MethodName := ⟨RX11, "share", "(II)I"⟩
abbrev cX11_getsBy : ByteArray := prog_13_method_138_code
def yX11_getsBy : MethodName := ⟨RX11, "getsBy", "(IIIII)I"⟩
abbrev cX11_areTwo : ByteArray := prog_13_method_139_code
def yX11_areTwo : MethodName := ⟨RX11, "areTwo", "(II)Z"⟩
abbrev cX11_rests : ByteArray := prog_13_method_140_code
def yX11_rests : MethodName := ⟨RX11, "rests", "(II)I"⟩
abbrev cX11_gets : ByteArray := prog_13_method_141_code
def yX11_gets : MethodName := ⟨RX11, "gets", "(IIII)I"⟩
abbrev cX11_layChance : ByteArray := prog_13_method_142_code
def yX11_layChance : MethodName := ⟨RX11, "layChance", "(I)V"⟩
abbrev cX11_chance : ByteArray := prog_13_method_143_code
def yX11_chance : MethodName := ⟨RX11, "chance", "(II)J"⟩
abbrev cX11_mean : ByteArray := prog_13_method_144_code
def yX11_mean : MethodName := ⟨RX11, "mean", "(I)J"⟩
abbrev cX11_keepAct : ByteArray := prog_13_method_145_code
def yX11_keepAct : MethodName := ⟨RX11, "keepAct", "(I)I"⟩
abbrev cX11_sews : ByteArray := prog_13_method_146_code
def yX11_sews : MethodName := ⟨RX11, "sews", "(III)I"⟩
abbrev cX11_quarrels : ByteArray := prog_13_method_147_code
def yX11_quarrels : MethodName := ⟨RX11, "quarrels", "(III)I"⟩
abbrev cX11_undo : ByteArray := prog_13_method_148_code
def yX11_undo : MethodName := ⟨RX11, "undo", "()I"⟩
abbrev cX11_anew : ByteArray := prog_13_method_149_code
def yX11_anew : MethodName := ⟨RX11, "anew", "()I"⟩
abbrev cX11_goDrawn : ByteArray := prog_13_method_150_code
def yX11_goDrawn : MethodName := ⟨RX11, "goDrawn", "(J)V"⟩
abbrev cX11_isSeed : ByteArray := prog_13_method_151_code
def yX11_isSeed : MethodName := ⟨RX11, "isSeed", "(I)Z"⟩
abbrev cX11_drawn : ByteArray := prog_13_method_152_code
def yX11_drawn : MethodName := ⟨RX11, "drawn", "(II)I"⟩
abbrev cX11_luck : ByteArray := prog_13_method_153_code
def yX11_luck : MethodName := ⟨RX11, "luck", "(III)I"⟩
abbrev cX11_rate : ByteArray := prog_13_method_154_code
def yX11_rate : MethodName := ⟨RX11, "rate", "(II)I"⟩
abbrev cX11_count : ByteArray := prog_13_method_155_code
def yX11_count : MethodName := ⟨RX11, "count", "(I)I"⟩
abbrev cX11_isSlot : ByteArray := prog_13_method_156_code
def yX11_isSlot : MethodName := ⟨RX11, "isSlot", "(I)Z"⟩
abbrev cX11_clipped : ByteArray := prog_13_method_157_code
def yX11_clipped : MethodName := ⟨RX11, "clipped", "(JI)J"⟩
abbrev cX11_row : ByteArray := prog_13_method_158_code
def yX11_row : MethodName := ⟨RX11, "row", "(III)I"⟩
abbrev cX11_write : ByteArray := prog_13_method_159_code
def yX11_write : MethodName := ⟨RX11, "write", "(IIJ)I"⟩
abbrev cX11_paste : ByteArray := prog_13_method_160_code
def yX11_paste : MethodName := ⟨RX11, "paste", "(IIIII)I"⟩
def RJx145de : String := "java/io/Serializable"
def TJx145de : u_T := fun k => match k with
  | _ => ("", "", "", false)
def tyJx145de : Nat → FieldType := fun k => match k with
  | _ => .int
abbrev wsJx145de0 : List Cond := u_ws RJx145de TJx145de 0
theorem nmJx145de : ∀ a, a < 0 → ∀ b, b < 0 → a ≠ b → (TJx145de a).2.1 ≠ (TJx145de b).2.1 := by decide +kernel
theorem tyJx145de_ok : ∀ k, k < 0 → parseFieldDescriptor (TJx145de k).2.2.1 = some (tyJx145de k) := by decide +kernel
def RJx9f9b0 : String := "java/lang/CharSequence"
def TJx9f9b0 : u_T := fun k => match k with
  | _ => ("", "", "", false)
def tyJx9f9b0 : Nat → FieldType := fun k => match k with
  | _ => .int
abbrev wsJx9f9b00 : List Cond := u_ws RJx9f9b0 TJx9f9b0 0
theorem nmJx9f9b0 : ∀ a, a < 0 → ∀ b, b < 0 → a ≠ b → (TJx9f9b0 a).2.1 ≠ (TJx9f9b0 b).2.1 := by decide +kernel
theorem tyJx9f9b0_ok : ∀ k, k < 0 → parseFieldDescriptor (TJx9f9b0 k).2.2.1 = some (tyJx9f9b0 k) := by decide +kernel
def RJxb160c : String := "java/lang/Comparable"
def TJxb160c : u_T := fun k => match k with
  | _ => ("", "", "", false)
def tyJxb160c : Nat → FieldType := fun k => match k with
  | _ => .int
abbrev wsJxb160c0 : List Cond := u_ws RJxb160c TJxb160c 0
theorem nmJxb160c : ∀ a, a < 0 → ∀ b, b < 0 → a ≠ b → (TJxb160c a).2.1 ≠ (TJxb160c b).2.1 := by decide +kernel
theorem tyJxb160c_ok : ∀ k, k < 0 → parseFieldDescriptor (TJxb160c k).2.2.1 = some (tyJxb160c k) := by decide +kernel
def RJ6 : String := "java/lang/Integer"
def TJ6 : u_T := fun k => match k with
  | _ => ("", "", "", false)
def tyJ6 : Nat → FieldType := fun k => match k with
  | _ => .int
abbrev wsJ60 : List Cond := u_ws RJ6 TJ6 0
theorem nmJ6 : ∀ a, a < 0 → ∀ b, b < 0 → a ≠ b → (TJ6 a).2.1 ≠ (TJ6 b).2.1 := by decide +kernel
theorem tyJ6_ok : ∀ k, k < 0 → parseFieldDescriptor (TJ6 k).2.2.1 = some (tyJ6 k) := by decide +kernel
abbrev cJ6_bitCount_0f7a4 : ByteArray := prog_14_method_49_code
def yJ6_bitCount_0f7a4 : MethodName := ⟨RJ6, "bitCount", "(I)I"⟩
def RJ9 : String := "java/lang/Math"
def TJ9 : u_T := fun k => match k with
  | _ => ("", "", "", false)
def tyJ9 : Nat → FieldType := fun k => match k with
  | _ => .int
abbrev wsJ90 : List Cond := u_ws RJ9 TJ9 0
theorem nmJ9 : ∀ a, a < 0 → ∀ b, b < 0 → a ≠ b → (TJ9 a).2.1 ≠ (TJ9 b).2.1 := by decide +kernel
theorem tyJ9_ok : ∀ k, k < 0 → parseFieldDescriptor (TJ9 k).2.2.1 = some (tyJ9 k) := by decide +kernel
abbrev cJ9_abs_067f4 : ByteArray := prog_15_method_61_code
def yJ9_abs_067f4 : MethodName := ⟨RJ9, "abs", "(J)J"⟩
abbrev cJ9_max_7cf53 : ByteArray := prog_15_method_65_code
def yJ9_max_7cf53 : MethodName := ⟨RJ9, "max", "(II)I"⟩
abbrev cJ9_min_7cf53 : ByteArray := prog_15_method_69_code
def yJ9_min_7cf53 : MethodName := ⟨RJ9, "min", "(II)I"⟩
def RJ0 : String := "java/lang/String"
def TJ0 : u_T := fun k => match k with
  | _ => ("", "", "", false)
def tyJ0 : Nat → FieldType := fun k => match k with
  | _ => .int
abbrev wsJ00 : List Cond := u_ws RJ0 TJ0 0
theorem nmJ0 : ∀ a, a < 0 → ∀ b, b < 0 → a ≠ b → (TJ0 a).2.1 ≠ (TJ0 b).2.1 := by decide +kernel
theorem tyJ0_ok : ∀ k, k < 0 → parseFieldDescriptor (TJ0 k).2.2.1 = some (tyJ0 k) := by decide +kernel
abbrev cJ0_length_8abf5 : ByteArray := prog_16_method_54_code
def yJ0_length_8abf5 : MethodName := ⟨RJ0, "length", "()I"⟩
abbrev cJ0_charAt_5068e : ByteArray := prog_16_method_56_code
def yJ0_charAt_5068e : MethodName := ⟨RJ0, "charAt", "(I)C"⟩
abbrev cJ0_coder_7d493 : ByteArray := prog_16_method_152_code
def yJ0_coder_7d493 : MethodName := ⟨RJ0, "coder", "()B"⟩
abbrev cJ0_isLatin1_aae02 : ByteArray := prog_16_method_154_code
def yJ0_isLatin1_aae02 : MethodName := ⟨RJ0, "isLatin1", "()Z"⟩
abbrev cJ0_checkIndex_df160 : ByteArray := prog_16_method_155_code
def yJ0_checkIndex_df160 : MethodName := ⟨RJ0, "checkIndex", "(II)V"⟩
def RJ1 : String := "java/lang/StringLatin1"
def TJ1 : u_T := fun k => match k with
  | _ => ("", "", "", false)
def tyJ1 : Nat → FieldType := fun k => match k with
  | _ => .int
abbrev wsJ10 : List Cond := u_ws RJ1 TJ1 0
theorem nmJ1 : ∀ a, a < 0 → ∀ b, b < 0 → a ≠ b → (TJ1 a).2.1 ≠ (TJ1 b).2.1 := by decide +kernel
theorem tyJ1_ok : ∀ k, k < 0 → parseFieldDescriptor (TJ1 k).2.2.1 = some (tyJ1 k) := by decide +kernel
abbrev cJ1_charAt_3b067 : ByteArray := prog_17_method_2_code
def yJ1_charAt_3b067 : MethodName := ⟨RJ1, "charAt", "([BI)C"⟩
def RJ2 : String := "java/lang/StringUTF16"
def TJ2 : u_T := fun k => match k with
  | _ => ("", "", "", false)
def tyJ2 : Nat → FieldType := fun k => match k with
  | _ => .int
abbrev wsJ20 : List Cond := u_ws RJ2 TJ2 0
theorem nmJ2 : ∀ a, a < 0 → ∀ b, b < 0 → a ≠ b → (TJ2 a).2.1 ≠ (TJ2 b).2.1 := by decide +kernel
theorem tyJ2_ok : ∀ k, k < 0 → parseFieldDescriptor (TJ2 k).2.2.1 = some (tyJ2 k) := by decide +kernel
abbrev cJ2_getChar_3b067 : ByteArray := prog_18_method_5_code
def yJ2_getChar_3b067 : MethodName := ⟨RJ2, "getChar", "([BI)C"⟩
abbrev cJ2_length_9d52b : ByteArray := prog_18_method_6_code
def yJ2_length_9d52b : MethodName := ⟨RJ2, "length", "([B)I"⟩
abbrev cJ2_charAt_3b067 : ByteArray := prog_18_method_83_code
def yJ2_charAt_3b067 : MethodName := ⟨RJ2, "charAt", "([BI)C"⟩
abbrev cJ2_checkIndex_2214a : ByteArray := prog_18_method_91_code
def yJ2_checkIndex_2214a : MethodName := ⟨RJ2, "checkIndex", "(I[B)V"⟩
def RJ10 : String := "java/lang/System"
def TJ10 : u_T := fun k => match k with
  | _ => ("", "", "", false)
def tyJ10 : Nat → FieldType := fun k => match k with
  | _ => .int
abbrev wsJ100 : List Cond := u_ws RJ10 TJ10 0
theorem nmJ10 : ∀ a, a < 0 → ∀ b, b < 0 → a ≠ b → (TJ10 a).2.1 ≠ (TJ10 b).2.1 := by decide +kernel
theorem tyJ10_ok : ∀ k, k < 0 → parseFieldDescriptor (TJ10 k).2.2.1 = some (tyJ10 k) := by decide +kernel
def RJxfd54e : String := "java/lang/constant/Constable"
def TJxfd54e : u_T := fun k => match k with
  | _ => ("", "", "", false)
def tyJxfd54e : Nat → FieldType := fun k => match k with
  | _ => .int
abbrev wsJxfd54e0 : List Cond := u_ws RJxfd54e TJxfd54e 0
theorem nmJxfd54e : ∀ a, a < 0 → ∀ b, b < 0 → a ≠ b → (TJxfd54e a).2.1 ≠ (TJxfd54e b).2.1 := by decide +kernel
theorem tyJxfd54e_ok : ∀ k, k < 0 → parseFieldDescriptor (TJxfd54e k).2.2.1 = some (tyJxfd54e k) := by decide +kernel
def RJx3cf43 : String := "java/lang/constant/ConstantDesc"
def TJx3cf43 : u_T := fun k => match k with
  | _ => ("", "", "", false)
def tyJx3cf43 : Nat → FieldType := fun k => match k with
  | _ => .int
abbrev wsJx3cf430 : List Cond := u_ws RJx3cf43 TJx3cf43 0
theorem nmJx3cf43 : ∀ a, a < 0 → ∀ b, b < 0 → a ≠ b → (TJx3cf43 a).2.1 ≠ (TJx3cf43 b).2.1 := by decide +kernel
theorem tyJx3cf43_ok : ∀ k, k < 0 → parseFieldDescriptor (TJx3cf43 k).2.2.1 = some (tyJx3cf43 k) := by decide +kernel
def RJ7 : String := "java/util/Arrays"
def TJ7 : u_T := fun k => match k with
  | _ => ("", "", "", false)
def tyJ7 : Nat → FieldType := fun k => match k with
  | _ => .int
abbrev wsJ70 : List Cond := u_ws RJ7 TJ7 0
theorem nmJ7 : ∀ a, a < 0 → ∀ b, b < 0 → a ≠ b → (TJ7 a).2.1 ≠ (TJ7 b).2.1 := by decide +kernel
theorem tyJ7_ok : ∀ k, k < 0 → parseFieldDescriptor (TJ7 k).2.2.1 = some (tyJ7 k) := by decide +kernel
abbrev cJ7_fill_d0a16 : ByteArray := prog_20_method_101_code
def yJ7_fill_d0a16 : MethodName := ⟨RJ7, "fill", "([JJ)V"⟩
abbrev cJ7_fill_53178 : ByteArray := prog_20_method_103_code
def yJ7_fill_53178 : MethodName := ⟨RJ7, "fill", "([II)V"⟩
def RJ3 : String := "jdk/internal/util/Preconditions"
def TJ3 : u_T := fun k => match k with
  | _ => ("", "", "", false)
def tyJ3 : Nat → FieldType := fun k => match k with
  | _ => .int
abbrev wsJ30 : List Cond := u_ws RJ3 TJ3 0
theorem nmJ3 : ∀ a, a < 0 → ∀ b, b < 0 → a ≠ b → (TJ3 a).2.1 ≠ (TJ3 b).2.1 := by decide +kernel
theorem tyJ3_ok : ∀ k, k < 0 → parseFieldDescriptor (TJ3 k).2.2.1 = some (tyJ3 k) := by decide +kernel
abbrev cJ3_checkIndex_8e157 : ByteArray := prog_21_method_11_code
def yJ3_checkIndex_8e157 : MethodName := ⟨RJ3, "checkIndex", "(IILjava/util/function/BiFunction;)I"⟩
def RL : String := "ArgumentMenderLaw"
abbrev cL_law : ByteArray := code
def yL_law : MethodName := ⟨RL, "law", "([I)Z"⟩
abbrev vwCl : List vw_C := [(RX0, TX0, 5), (RX1, TX1, 16), (RX2, TX2, 5), (RX3, TX3, 4), (RX4, TX4, 3), (RX5, TX5, 6), (RX6, TX6, 7), (RX7, TX7, 10), (RX8, TX8, 2), (RX9, TX9, 12), (RX10, TX10, 9), (RX11, TX11, 49)]
def am_on (o : Nat) : String := ([RX0, RX1, RX2, RX3, RX4, RX5, RX6, RX7, RX8, RX9, RX10, RX11, RJx145de, RJx9f9b0, RJxb160c, RJ6, RJ9, RJ0, RJ1, RJ2, RJ10, RJxfd54e, RJx3cf43, RJ7, RJ3, RL] : List String).getD o ""
def am_tb (k : Nat) : List Cond := match k with
  | 0 => k2_sels lw_privs
  | 1 => tables_1_1
  | 2 => tables_1_2
  | 3 => tables_1_3
  | 4 => tables_1_4
  | 5 => tables_1_5
  | 6 => tables_1_6
  | 7 => tables_1_7
  | 8 => tables_1_8
  | _ => tables_1_9
def am_at (p : Nat) : Option Cond := (am_tb (p / 1000))[p % 1000]?
theorem am_at_in {p : Nat} {w : Cond} (h : am_at p = some w) : w ∈ lw_tbl := by
  have h1 : w ∈ am_tb (p / 1000) := List.mem_of_getElem? h
  unfold lw_tbl tables_1
  generalize p / 1000 = k at h1
  simp only [List.mem_append]
  match k, h1 with
  | 0, h1 => exact Or.inl h1
  | 1, h1 => exact Or.inr (Or.inl h1)
  | 2, h1 => exact Or.inr (Or.inr (Or.inl h1))
  | 3, h1 => exact Or.inr (Or.inr (Or.inr (Or.inl h1)))
  | 4, h1 => exact Or.inr (Or.inr (Or.inr (Or.inr (Or.inl h1))))
  | 5, h1 => exact Or.inr (Or.inr (Or.inr (Or.inr (Or.inr (Or.inl h1)))))
  | 6, h1 => exact Or.inr (Or.inr (Or.inr (Or.inr (Or.inr (Or.inr (Or.inl h1))))))
  | 7, h1 => exact Or.inr (Or.inr (Or.inr (Or.inr (Or.inr (Or.inr (Or.inr (Or.inl h1)))))))
  | 8, h1 => exact Or.inr (Or.inr (Or.inr (Or.inr (Or.inr (Or.inr (Or.inr (Or.inr (Or.inl h1))))))))
  | k + 9, h1 => exact Or.inr (Or.inr (Or.inr (Or.inr (Or.inr (Or.inr (Or.inr (Or.inr (Or.inr h1))))))))
abbrev am_MT : Type := Nat × Nat × Nat × Nat × Nat × Nat × Nat
def am_mt0 : List am_MT := [(0, 2, 0, 1076, 1075, 0, 1005),
  (4, 0, 0, 5159, 5157, 5158, 1005),
  (1, 0, 0, 3132, 3130, 3131, 1005),
  (0, 2, 1, 1070, 1069, 0, 1004),
  (0, 0, 1, 3001, 2239, 3000, 1004),
  (0, 0, 1, 3121, 3119, 3120, 1004),
  (1, 0, 1, 3125, 3123, 3124, 1004),
  (0, 0, 1, 4004, 4002, 4003, 1004),
  (1, 0, 1, 3232, 3230, 3231, 1004),
  (1, 0, 1, 3216, 3214, 3215, 1004),
  (1, 0, 1, 3224, 3222, 3223, 1004),
  (1, 0, 1, 4000, 3238, 3239, 1004),
  (1, 0, 1, 4064, 4062, 4063, 1004),
  (0, 0, 1, 4078, 4076, 4077, 1004),
  (0, 0, 1, 5096, 5094, 5095, 1004),
  (0, 0, 1, 5001, 4239, 5000, 1004),
  (0, 2, 2, 1033, 1032, 0, 1002),
  (0, 0, 2, 2237, 2235, 2236, 1002),
  (0, 0, 2, 3021, 3020, 2, 1002),
  (0, 0, 2, 3078, 3077, 3, 1002)]
def am_mt1 : List am_MT := [(0, 0, 2, 3098, 3097, 7, 1002),
  (0, 0, 2, 3103, 3102, 8, 1002),
  (0, 0, 2, 3111, 3110, 9, 1002),
  (1, 0, 2, 3083, 3082, 4, 1002),
  (2, 0, 2, 3091, 3090, 6, 1002),
  (0, 0, 2, 3117, 3116, 10, 1002),
  (1, 0, 2, 3087, 3086, 5, 1002),
  (0, 2, 3, 2145, 2144, 0, 1010),
  (2, 0, 3, 5037, 5035, 5036, 1010),
  (2, 1, 3, 5040, 5039, 0, 1010),
  (3, 0, 3, 5045, 5043, 5044, 1010),
  (3, 0, 3, 5076, 5074, 5075, 1010),
  (1, 0, 3, 5051, 5050, 31, 1010),
  (0, 2, 4, 2171, 2170, 0, 1011),
  (0, 0, 4, 5033, 5031, 5032, 1011),
  (2, 0, 4, 5216, 5214, 5215, 1011),
  (1, 0, 4, 5227, 5225, 5226, 1011),
  (2, 0, 4, 5235, 5233, 5234, 1011),
  (0, 2, 5, 1039, 1038, 0, 1003),
  (1, 0, 5, 2225, 2223, 2224, 1003)]
def am_mt2 : List am_MT := [(0, 0, 5, 3005, 3003, 3004, 1003),
  (0, 0, 5, 3009, 3008, 0, 1003),
  (0, 0, 5, 3013, 3012, 1, 1003),
  (1, 0, 5, 3026, 3024, 3025, 1003),
  (0, 2, 6, 2111, 2110, 0, 1009),
  (0, 0, 6, 3203, 3201, 3202, 1009),
  (3, 0, 6, 4190, 4188, 4189, 1009),
  (2, 0, 6, 5005, 5003, 5004, 1009),
  (2, 0, 6, 5084, 5082, 5083, 1009),
  (2, 0, 6, 5013, 5011, 5012, 1009),
  (2, 0, 6, 5106, 5104, 5105, 1009),
  (5, 0, 6, 5125, 5123, 5124, 1009),
  (4, 0, 6, 4151, 4149, 4150, 1009),
  (4, 0, 6, 4169, 4167, 4168, 1009),
  (3, 0, 6, 4229, 4227, 4228, 1009),
  (0, 2, 7, 1237, 1236, 0, 1007),
  (5, 0, 7, 3162, 3160, 3161, 1007),
  (2, 0, 7, 3166, 3165, 14, 1007),
  (4, 0, 7, 3171, 3170, 15, 1007),
  (3, 0, 7, 3175, 3174, 16, 1007)]
def am_mt3 : List am_MT := [(3, 0, 7, 3179, 3178, 17, 1007),
  (3, 0, 7, 3183, 3182, 18, 1007),
  (2, 0, 7, 3187, 3186, 19, 1007),
  (2, 0, 7, 3191, 3190, 20, 1007),
  (0, 2, 8, 2098, 2097, 0, 1008),
  (3, 0, 8, 4020, 4018, 4019, 1008),
  (2, 0, 8, 4032, 4030, 4031, 1008),
  (3, 0, 8, 4090, 4088, 4089, 1008),
  (3, 0, 8, 4209, 4207, 4208, 1008),
  (4, 0, 8, 4213, 4212, 27, 1008),
  (3, 0, 8, 4221, 4220, 28, 1008),
  (2, 1, 8, 4217, 4216, 0, 1008),
  (0, 2, 9, 1229, 1228, 0, 1006),
  (1, 0, 9, 3141, 3139, 3140, 1006),
  (1, 0, 9, 3146, 3144, 3145, 1006),
  (1, 0, 9, 3150, 3149, 12, 1006),
  (3, 0, 9, 3157, 3156, 13, 1006),
  (1, 0, 9, 3199, 3198, 22, 1006),
  (1, 0, 9, 3195, 3194, 21, 1006),
  (0, 2, 10, 1025, 1024, 0, 1001)]
def am_mt4 : List am_MT := [(5, 0, 10, 2221, 2219, 2220, 1001),
  (1, 0, 10, 2229, 2227, 2228, 1001),
  (0, 0, 10, 2233, 2231, 2232, 1001),
  (1, 0, 10, 3208, 3206, 3207, 1001),
  (0, 0, 10, 3137, 3136, 11, 1001),
  (2, 0, 10, 3212, 3210, 3211, 1001),
  (2, 0, 10, 3220, 3218, 3219, 1001),
  (1, 0, 10, 3228, 3226, 3227, 1001),
  (2, 0, 10, 3236, 3234, 3235, 1001),
  (1, 0, 10, 4008, 4006, 4007, 1001),
  (1, 0, 10, 4012, 4010, 4011, 1001),
  (1, 0, 10, 4016, 4014, 4015, 1001),
  (1, 0, 10, 4024, 4022, 4023, 1001),
  (1, 0, 10, 4028, 4026, 4027, 1001),
  (1, 0, 10, 4036, 4034, 4035, 1001),
  (1, 0, 10, 4040, 4039, 23, 1001),
  (1, 0, 10, 4044, 4042, 4043, 1001),
  (1, 0, 10, 4048, 4047, 24, 1001),
  (1, 0, 10, 4052, 4050, 4051, 1001),
  (1, 0, 10, 4056, 4054, 4055, 1001)]
def am_mt5 : List am_MT := [(1, 0, 10, 4060, 4058, 4059, 1001),
  (1, 0, 10, 4069, 4067, 4068, 1001),
  (0, 0, 10, 4073, 4071, 4072, 1001),
  (2, 0, 10, 4082, 4080, 4081, 1001),
  (2, 0, 10, 4086, 4084, 4085, 1001),
  (2, 0, 10, 4094, 4092, 4093, 1001),
  (1, 0, 10, 4098, 4096, 4097, 1001),
  (1, 0, 10, 4102, 4100, 4101, 1001),
  (1, 0, 10, 4106, 4104, 4105, 1001),
  (1, 0, 10, 4110, 4108, 4109, 1001),
  (0, 0, 10, 4114, 4112, 4113, 1001),
  (0, 0, 10, 4118, 4116, 4117, 1001),
  (1, 0, 10, 4128, 4126, 4127, 1001),
  (1, 0, 10, 4132, 4130, 4131, 1001),
  (0, 0, 10, 4136, 4134, 4135, 1001),
  (3, 0, 10, 4144, 4143, 25, 1001),
  (3, 0, 10, 4140, 4138, 4139, 1001),
  (4, 0, 10, 4157, 4155, 4156, 1001),
  (3, 0, 10, 4161, 4159, 4160, 1001),
  (2, 0, 10, 4165, 4163, 4164, 1001)]
def am_mt6 : List am_MT := [(1, 0, 10, 4174, 4172, 4173, 1001),
  (2, 0, 10, 4178, 4176, 4177, 1001),
  (2, 0, 10, 4182, 4180, 4181, 1001),
  (2, 0, 10, 4186, 4185, 26, 1001),
  (1, 0, 10, 4197, 4195, 4196, 1001),
  (1, 0, 10, 4201, 4199, 4200, 1001),
  (2, 0, 10, 4205, 4203, 4204, 1001),
  (2, 0, 10, 4225, 4223, 4224, 1001),
  (0, 0, 10, 4237, 4236, 29, 1001),
  (0, 0, 10, 4233, 4231, 4232, 1001),
  (0, 0, 10, 5009, 5007, 5008, 1001),
  (0, 0, 10, 5018, 5016, 5017, 1001),
  (2, 0, 10, 5026, 5025, 30, 1001),
  (2, 0, 10, 5022, 5020, 5021, 1001),
  (2, 0, 10, 5055, 5053, 5054, 1001),
  (2, 0, 10, 5059, 5057, 5058, 1001),
  (2, 0, 10, 5063, 5061, 5062, 1001),
  (2, 0, 10, 5067, 5065, 5066, 1001),
  (1, 0, 10, 5072, 5070, 5071, 1001),
  (1, 0, 10, 5080, 5078, 5079, 1001)]
def am_mt7 : List am_MT := [(0, 0, 10, 5088, 5086, 5087, 1001),
  (1, 0, 10, 5092, 5090, 5091, 1001),
  (2, 0, 10, 5100, 5098, 5099, 1001),
  (2, 0, 10, 5121, 5120, 32, 1001),
  (2, 0, 10, 5117, 5115, 5116, 1001),
  (4, 0, 10, 5129, 5127, 5128, 1001),
  (2, 0, 10, 5133, 5131, 5132, 1001),
  (1, 0, 10, 5147, 5145, 5146, 1001),
  (2, 0, 10, 5138, 5137, 33, 1001),
  (2, 1, 10, 5142, 5141, 0, 1001),
  (3, 1, 10, 5110, 5109, 0, 1001),
  (3, 0, 10, 5151, 5149, 5150, 1001),
  (3, 0, 10, 5163, 5161, 5162, 1001),
  (4, 0, 10, 5155, 5154, 34, 1001),
  (0, 0, 10, 5167, 5165, 5166, 1001),
  (0, 0, 10, 5171, 5169, 5170, 1001),
  (2, 0, 10, 5175, 5173, 5174, 1001),
  (1, 0, 10, 5180, 5179, 35, 1001),
  (3, 0, 10, 5188, 5186, 5187, 1001),
  (2, 0, 10, 5192, 5190, 5191, 1001)]
def am_mt8 : List am_MT := [(1, 0, 10, 5196, 5194, 5195, 1001),
  (0, 0, 10, 5200, 5199, 36, 1001),
  (1, 0, 10, 5204, 5202, 5203, 1001),
  (1, 0, 10, 5208, 5206, 5207, 1001),
  (1, 1, 10, 5029, 5028, 0, 1001),
  (3, 1, 10, 4147, 4146, 0, 1001),
  (3, 0, 10, 5212, 5210, 5211, 1001),
  (3, 0, 10, 5223, 5221, 5222, 1001),
  (5, 0, 10, 5231, 5229, 5230, 1001),
  (0, 2, 11, 6001, 6000, 0, 1012),
  (3, 1, 11, 6157, 6156, 0, 1012),
  (1, 1, 11, 7238, 7237, 0, 1012),
  (2, 1, 11, 7089, 7088, 0, 1012),
  (1, 0, 11, 6153, 6151, 6152, 1012),
  (1, 0, 11, 6161, 6159, 6160, 1012),
  (0, 0, 11, 7150, 7149, 79, 1012),
  (0, 0, 11, 7093, 7092, 65, 1012),
  (0, 0, 11, 7057, 7056, 58, 1012),
  (0, 0, 11, 7029, 7028, 53, 1012),
  (0, 0, 11, 7041, 7040, 55, 1012)]
def am_mt9 : List am_MT := [(1, 0, 11, 7154, 7153, 80, 1012),
  (1, 0, 11, 7226, 7225, 89, 1012),
  (1, 0, 11, 7053, 7052, 57, 1012),
  (1, 0, 11, 7025, 7024, 52, 1012),
  (1, 0, 11, 7037, 7036, 54, 1012),
  (1, 0, 11, 7065, 7064, 60, 1012),
  (1, 0, 11, 7138, 7137, 76, 1012),
  (2, 0, 11, 7045, 7044, 56, 1012),
  (5, 0, 11, 6165, 6163, 6164, 1012),
  (1, 0, 11, 6169, 6167, 6168, 1012),
  (1, 0, 11, 6185, 6184, 38, 1012),
  (0, 0, 11, 6181, 6180, 37, 1012),
  (0, 0, 11, 6195, 6194, 39, 1012),
  (1, 0, 11, 6222, 6221, 45, 1012),
  (1, 0, 11, 6216, 6215, 44, 1012),
  (1, 0, 11, 6212, 6211, 43, 1012),
  (1, 0, 11, 6208, 6207, 42, 1012),
  (2, 0, 11, 6231, 6230, 47, 1012),
  (3, 0, 11, 6227, 6226, 46, 1012),
  (1, 0, 11, 6173, 6171, 6172, 1012)]
def am_mt10 : List am_MT := [(0, 0, 11, 6203, 6202, 41, 1012),
  (0, 0, 11, 7008, 7007, 50, 1012),
  (0, 0, 11, 7015, 7014, 51, 1012),
  (0, 0, 11, 7004, 7003, 49, 1012),
  (0, 0, 11, 6237, 6236, 48, 1012),
  (0, 0, 11, 6199, 6198, 40, 1012),
  (0, 0, 11, 6177, 6175, 6176, 1012),
  (2, 0, 11, 7021, 7019, 7020, 1012),
  (2, 0, 11, 7033, 7031, 7032, 1012),
  (1, 0, 11, 7061, 7060, 59, 1012),
  (1, 0, 11, 7049, 7047, 7048, 1012),
  (0, 0, 11, 7081, 7080, 63, 1012),
  (2, 0, 11, 7118, 7117, 71, 1012),
  (2, 0, 11, 7122, 7121, 72, 1012),
  (3, 0, 11, 7126, 7125, 73, 1012),
  (3, 0, 11, 7130, 7129, 74, 1012),
  (3, 0, 11, 7134, 7133, 75, 1012),
  (1, 0, 11, 7114, 7113, 70, 1012),
  (2, 0, 11, 7110, 7109, 69, 1012),
  (0, 0, 11, 7142, 7141, 77, 1012)]
def am_mt11 : List am_MT := [(2, 0, 11, 7106, 7105, 68, 1012),
  (1, 0, 11, 7146, 7145, 78, 1012),
  (1, 0, 11, 7101, 7100, 67, 1012),
  (1, 0, 11, 7097, 7096, 66, 1012),
  (0, 0, 11, 7086, 7085, 64, 1012),
  (0, 0, 11, 7077, 7076, 62, 1012),
  (1, 0, 11, 7073, 7072, 61, 1012),
  (2, 0, 11, 7158, 7157, 81, 1012),
  (1, 0, 11, 7166, 7165, 82, 1012),
  (1, 0, 11, 7182, 7181, 84, 1012),
  (1, 0, 11, 7198, 7197, 86, 1012),
  (1, 0, 11, 7194, 7193, 85, 1012),
  (0, 0, 11, 8110, 8109, 96, 1012),
  (0, 0, 11, 7210, 7209, 87, 1012),
  (2, 0, 11, 7069, 7067, 7068, 1012),
  (1, 0, 11, 7162, 7160, 7161, 1012),
  (1, 0, 11, 7170, 7168, 7169, 1012),
  (1, 0, 11, 7178, 7177, 83, 1012),
  (1, 0, 11, 7174, 7172, 7173, 1012),
  (1, 0, 11, 7186, 7184, 7185, 1012)]
def am_mt12 : List am_MT := [(1, 0, 11, 7190, 7188, 7189, 1012),
  (1, 0, 11, 7202, 7200, 7201, 1012),
  (0, 0, 11, 7206, 7204, 7205, 1012),
  (1, 0, 11, 7218, 7217, 88, 1012),
  (1, 0, 11, 7214, 7212, 7213, 1012),
  (1, 0, 11, 7222, 7220, 7221, 1012),
  (2, 0, 11, 7231, 7229, 7230, 1012),
  (1, 0, 11, 7235, 7233, 7234, 1012),
  (1, 0, 11, 8002, 8000, 8001, 1012),
  (1, 0, 11, 8006, 8004, 8005, 1012),
  (2, 0, 11, 8010, 8008, 8009, 1012),
  (1, 0, 11, 8018, 8017, 90, 1012),
  (1, 0, 11, 8022, 8021, 91, 1012),
  (2, 0, 11, 8014, 8012, 8013, 1012),
  (1, 0, 11, 8026, 8024, 8025, 1012),
  (1, 0, 11, 8030, 8028, 8029, 1012),
  (1, 0, 11, 8034, 8032, 8033, 1012),
  (1, 0, 11, 8038, 8036, 8037, 1012),
  (0, 0, 11, 8042, 8040, 8041, 1012),
  (0, 0, 11, 8046, 8044, 8045, 1012)]
def am_mt13 : List am_MT := [(1, 0, 11, 8050, 8048, 8049, 1012),
  (1, 0, 11, 8054, 8052, 8053, 1012),
  (0, 0, 11, 8058, 8056, 8057, 1012),
  (3, 0, 11, 8071, 8070, 93, 1012),
  (3, 0, 11, 8066, 8065, 92, 1012),
  (3, 0, 11, 8062, 8060, 8061, 1012),
  (4, 0, 11, 8075, 8073, 8074, 1012),
  (3, 0, 11, 8079, 8077, 8078, 1012),
  (3, 0, 11, 8087, 8086, 94, 1012),
  (2, 1, 11, 8090, 8089, 0, 1012),
  (2, 0, 11, 8083, 8081, 8082, 1012),
  (2, 0, 11, 8094, 8092, 8093, 1012),
  (1, 0, 11, 8098, 8096, 8097, 1012),
  (2, 0, 11, 8106, 8105, 95, 1012),
  (2, 0, 11, 8102, 8100, 8101, 1012),
  (1, 0, 11, 8114, 8112, 8113, 1012),
  (1, 0, 11, 8118, 8116, 8117, 1012),
  (2, 0, 11, 8126, 8125, 97, 1012),
  (2, 0, 11, 8122, 8120, 8121, 1012),
  (2, 0, 11, 8130, 8128, 8129, 1012)]
def am_mt14 : List am_MT := [(0, 0, 11, 8134, 8132, 8133, 1012),
  (1, 0, 11, 8142, 8141, 98, 1012),
  (0, 0, 11, 8138, 8136, 8137, 1012),
  (0, 0, 11, 8146, 8144, 8145, 1012),
  (2, 0, 11, 8166, 8165, 101, 1012),
  (1, 0, 11, 8158, 8157, 100, 1012),
  (1, 0, 11, 8171, 8170, 102, 1012),
  (2, 0, 11, 8154, 8153, 99, 1012),
  (2, 0, 11, 8150, 8148, 8149, 1012),
  (2, 0, 11, 8175, 8173, 8174, 1012),
  (2, 0, 11, 8179, 8177, 8178, 1012),
  (1, 0, 11, 8191, 8190, 104, 1012),
  (0, 0, 11, 8187, 8186, 103, 1012),
  (2, 0, 11, 8183, 8181, 8182, 1012),
  (2, 0, 11, 8198, 8196, 8197, 1012),
  (1, 0, 11, 8202, 8200, 8201, 1012),
  (1, 0, 11, 8210, 8209, 105, 1012),
  (1, 0, 11, 8206, 8204, 8205, 1012),
  (0, 0, 11, 8214, 8212, 8213, 1012),
  (1, 0, 11, 8222, 8221, 106, 1012)]
def am_mt15 : List am_MT := [(1, 0, 11, 8218, 8216, 8217, 1012),
  (1, 1, 11, 8230, 8229, 0, 1012),
  (2, 1, 11, 8236, 8235, 0, 1012),
  (3, 1, 11, 8233, 8232, 0, 1012),
  (2, 0, 11, 8226, 8224, 8225, 1012),
  (5, 0, 11, 9009, 9008, 108, 1012),
  (2, 0, 11, 9005, 9004, 107, 1012),
  (2, 0, 11, 9001, 8239, 9000, 1012),
  (4, 0, 11, 9013, 9011, 9012, 1012),
  (1, 0, 11, 9023, 9022, 109, 1012),
  (2, 0, 11, 9017, 9015, 9016, 1012),
  (1, 0, 11, 9027, 9025, 9026, 1012),
  (1, 0, 11, 9036, 9035, 110, 1012),
  (3, 0, 11, 9031, 9029, 9030, 1012),
  (3, 0, 11, 9040, 9038, 9039, 1012),
  (0, 0, 11, 9045, 9043, 9044, 1012),
  (0, 0, 11, 9049, 9047, 9048, 1012),
  (1, 0, 11, 9061, 9060, 111, 1012),
  (1, 1, 11, 9056, 9055, 0, 1012),
  (2, 0, 11, 9053, 9051, 9052, 1012)]
def am_mt16 : List am_MT := [(3, 0, 11, 9070, 9068, 9069, 1012),
  (2, 0, 11, 9075, 9073, 9074, 1012),
  (1, 0, 11, 9079, 9077, 9078, 1012),
  (1, 1, 11, 8161, 8160, 0, 1012),
  (2, 1, 11, 9091, 9090, 0, 1012),
  (3, 0, 11, 9084, 9082, 9083, 1012),
  (3, 0, 11, 9088, 9086, 9087, 1012),
  (5, 0, 11, 9095, 9093, 9094, 1012),
  (1, 1, 15, 4121, 4120, 0, 1020),
  (1, 2, 16, 5113, 0, 0, 1013),
  (2, 2, 16, 8194, 0, 0, 1013),
  (2, 2, 16, 3017, 0, 0, 1013),
  (0, 0, 17, 3030, 3028, 3029, 1014),
  (1, 0, 17, 3040, 3038, 3039, 1014),
  (0, 0, 17, 3034, 3032, 3033, 1014),
  (0, 0, 17, 3044, 3042, 3043, 1014),
  (2, 1, 17, 3050, 3049, 0, 1014),
  (2, 1, 18, 3047, 3046, 0, 1015),
  (2, 1, 19, 3068, 3067, 0, 1017),
  (1, 1, 19, 3064, 3063, 0, 1017)]
def am_mt17 : List am_MT := [(2, 1, 19, 3058, 3057, 0, 1017),
  (2, 1, 19, 3061, 3060, 0, 1017),
  (2, 1, 23, 5219, 5218, 0, 1019),
  (2, 1, 23, 3153, 3152, 0, 1019),
  (3, 1, 24, 3055, 3054, 0, 1016),
  (1, 2, 25, 0, 0, 0, 1000)]
def am_mt : List am_MT := am_mt0 ++ am_mt1 ++ am_mt2 ++ am_mt3 ++ am_mt4 ++ am_mt5 ++ am_mt6 ++ am_mt7 ++ am_mt8 ++ am_mt9 ++ am_mt10 ++ am_mt11 ++ am_mt12 ++ am_mt13 ++ am_mt14 ++ am_mt15 ++ am_mt16 ++ am_mt17
def am_me (j : Nat) : am_MT := am_mt.getD j (0, 2, 0, 0, 0, 0, 0)
/-- a method's word 'code', as the tables hold it -/
abbrev am_CW : Type := MethodName × ByteArray × Nat × Option FieldType
def am_cwo (p : Nat) : Option am_CW := match am_at p with
  | some (.code y b n r) => some (y, b, n, r)
  | _ => none
def am_cw (j : Nat) : am_CW := (am_cwo (am_me j).2.2.2.1).getD (yL_law, cL_law, 4, some .boolean)
def am_y (j : Nat) : MethodName := (am_cw j).1
def am_b (j : Nat) : ByteArray := (am_cw j).2.1
def am_ml (j : Nat) : Nat := (am_cw j).2.2.1
def am_rt (j : Nat) : Option FieldType := (am_cw j).2.2.2
def am_np (j : Nat) : Nat := (am_me j).1
def am_ss (j : Nat) : Nat := (am_me j).2.1
def am_ow (j : Nat) : Nat := (am_me j).2.2.1
def am_okm (q : am_MT) : Bool := match am_cwo q.2.2.2.1 with
  | some (y, _, n, _) => plainName y.cls && decide (am_on q.2.2.1 = y.cls) && decide (am_at q.2.2.2.2.2.2 = some (.initialized y.cls)) && decide (y.cls ≠ "java/lang/invoke/MethodHandle" ∧ y.cls ≠ "java/lang/invoke/VarHandle") && decide ((parseMethodDescriptor y.desc).map (fun d => d.parameters.length) = some q.1) && Nat.ble n 21 && (match q.2.1 with
    | 0 => decide (am_at q.2.2.2.2.1 = some (.instanceMethod y)) && decide (am_at q.2.2.2.2.2.1 = some (.selects y.cls y y))
    | 1 => decide (am_at q.2.2.2.2.1 = some (.static y))
    | _ => false)
  | none => false
def am_lkF : List (Nat × Nat × Nat × Nat × Nat) := [(5, 9, 5, 0, 1041), (5, 15, 5, 1, 1042), (10, 70, 5, 1, 1043), (2, 35, 5, 2, 1044), (5, 19, 5, 2, 1045), (5, 22, 5, 3, 1046), (2, 145, 5, 3, 1047), (2, 41, 5, 4, 1048), (5, 28, 5, 4, 1049), (5, 25, 5, 5, 1050), (2, 142, 5, 5, 1051), (0, 24, 0, 0, 1078), (1, 65, 0, 0, 1079), (9, 105, 0, 0, 1080), (10, 357, 0, 0, 1081), (0, 9, 0, 1, 1082), (9, 110, 0, 1, 1083), (0, 15, 0, 2, 1084), (9, 114, 0, 2, 1085), (0, 18, 0, 3, 1086), (9, 117, 0, 3, 1087), (0, 21, 0, 4, 1088), (9, 113, 0, 4, 1089), (1, 43, 1, 0, 1102), (2, 51, 1, 0, 1103), (10, 94, 1, 0, 1104), (1, 47, 1, 1, 1105), (3, 37, 1, 1, 1106), (9, 75, 1, 1, 1107), (6, 62, 1, 1, 1108), (2, 97, 1, 1, 1109), (10, 151, 1, 1, 1110), (9, 45, 1, 2, 1111), (1, 50, 1, 2, 1112), (2, 101, 1, 2, 1113), (6, 108, 1, 2, 1114), (10, 372, 1, 2, 1115), (1, 53, 1, 3, 1116), (2, 105, 1, 3, 1117), (10, 331, 1, 3, 1118), (1, 56, 1, 4, 1119), (8, 26, 1, 4, 1120), (2, 107, 1, 4, 1121), (10, 154, 1, 4, 1122), (1, 59, 1, 5, 1123), (3, 28, 1, 5, 1124), (7, 37, 1, 5, 1125), (9, 120, 1, 5, 1126), (2, 110, 1, 5, 1127), (8, 47, 1, 5, 1128), (10, 141, 1, 5, 1129), (6, 121, 1, 5, 1130), (1, 62, 1, 6, 1131), (9, 82, 1, 6, 1132), (2, 127, 1, 6, 1133), (10, 201, 1, 6, 1134), (1, 9, 1, 7, 1135), (2, 113, 1, 7, 1136), (8, 54, 1, 7, 1137), (10, 116, 1, 7, 1138), (1, 15, 1, 8, 1139), (8, 30, 1, 8, 1140), (2, 121, 1, 8, 1141), (10, 120, 1, 8, 1142), (7, 86, 1, 8, 1143), (1, 18, 1, 9, 1144), (9, 58, 1, 9, 1145), (2, 125, 1, 9, 1146), (10, 123, 1, 9, 1147), (1, 21, 1, 10, 1148), (9, 88, 1, 10, 1149), (2, 130, 1, 10, 1150), (10, 129, 1, 10, 1151), (1, 24, 1, 11, 1152), (9, 91, 1, 11, 1153), (2, 135, 1, 11, 1154), (10, 132, 1, 11, 1155), (6, 96, 1, 11, 1156), (1, 27, 1, 12, 1157), (9, 85, 1, 12, 1158), (2, 139, 1, 12, 1159), (10, 135, 1, 12, 1160), (1, 30, 1, 13, 1161), (8, 23, 1, 13, 1162), (7, 83, 1, 13, 1163), (1, 33, 1, 14, 1164), (8, 18, 1, 14, 1165), (7, 80, 1, 14, 1166), (1, 39, 1, 15, 1167), (9, 71, 1, 15, 1168), (10, 350, 1, 15, 1169), (2, 12, 2, 0, 1203), (10, 66, 2, 0, 1204), (2, 21, 2, 1, 1205), (10, 84, 2, 1, 1206), (2, 32, 2, 2, 1207), (10, 97, 2, 2, 1208), (2, 25, 2, 3, 1209), (10, 100, 2, 3, 1210), (2, 94, 2, 4, 1211), (7, 9, 7, 0, 1239), (9, 135, 7, 0, 2000), (10, 230, 7, 0, 2001), (7, 18, 7, 1, 2002), (9, 138, 7, 1, 2003), (7, 22, 7, 2, 2004), (9, 140, 7, 2, 2005), (6, 117, 7, 2, 2006), (10, 226, 7, 2, 2007), (7, 48, 7, 3, 2008), (9, 142, 7, 3, 2009), (6, 119, 7, 3, 2010), (10, 233, 7, 3, 2011), (7, 51, 7, 4, 2012), (9, 144, 7, 4, 2013), (7, 15, 7, 5, 2014), (7, 58, 7, 6, 2015), (7, 61, 7, 7, 2016), (7, 67, 7, 8, 2017), (7, 73, 7, 9, 2018), (9, 51, 9, 0, 2040), (3, 65, 9, 0, 2041), (6, 74, 9, 0, 2042), (9, 52, 9, 1, 2043), (6, 77, 9, 1, 2044), (9, 55, 9, 2, 2045), (6, 71, 9, 2, 2046), (9, 11, 9, 3, 2047), (6, 55, 9, 3, 2048), (3, 54, 9, 3, 2049), (10, 147, 9, 3, 2050), (9, 16, 9, 4, 2051), (10, 189, 9, 4, 2052), (9, 19, 9, 5, 2053), (6, 90, 9, 5, 2054), (10, 186, 9, 5, 2055), (9, 23, 9, 6, 2056), (6, 99, 9, 6, 2057), (10, 192, 9, 6, 2058), (9, 26, 9, 7, 2059), (6, 93, 9, 7, 2060), (10, 195, 9, 7, 2061), (9, 29, 9, 8, 2062), (10, 198, 9, 8, 2063), (9, 32, 9, 9, 2064), (10, 209, 9, 9, 2065), (9, 35, 9, 10, 2066), (10, 212, 9, 10, 2067), (9, 41, 9, 11, 2068), (8, 9, 8, 0, 2100), (8, 15, 8, 1, 2101), (6, 12, 6, 0, 2119), (6, 21, 6, 1, 2120), (6, 28, 6, 2, 2121), (6, 32, 6, 3, 2122), (6, 36, 6, 4, 2123), (6, 39, 6, 5, 2124), (6, 42, 6, 6, 2125), (3, 12, 3, 0, 2149), (3, 41, 3, 1, 2150), (10, 281, 3, 1, 2151), (3, 44, 3, 2, 2152), (10, 284, 3, 2, 2153), (3, 47, 3, 3, 2154), (10, 287, 3, 3, 2155), (4, 9, 4, 0, 2173), (10, 390, 4, 0, 2174), (3, 18, 4, 1, 2175), (4, 19, 4, 1, 2176), (10, 382, 4, 1, 2177), (4, 15, 4, 2, 2178), (3, 24, 4, 2, 2179), (10, 383, 4, 2, 2180), (10, 10, 10, 0, 2190), (10, 19, 10, 1, 2191), (10, 26, 10, 2, 2192), (10, 33, 10, 3, 2193), (10, 40, 10, 4, 2194), (10, 47, 10, 5, 2195), (10, 53, 10, 6, 2196), (10, 57, 10, 7, 2197), (10, 61, 10, 8, 2198), (11, 9, 11, 1, 6003), (11, 13, 11, 2, 6004), (11, 16, 11, 3, 6005), (11, 20, 11, 4, 6006), (11, 124, 11, 5, 6007), (11, 24, 11, 6, 6008), (11, 127, 11, 7, 6009), (11, 130, 11, 8, 6010), (11, 137, 11, 9, 6011), (11, 140, 11, 10, 6012), (11, 151, 11, 11, 6013), (11, 161, 11, 12, 6014), (11, 27, 11, 13, 6015), (11, 31, 11, 14, 6016), (11, 34, 11, 15, 6017), (11, 261, 11, 16, 6018), (11, 265, 11, 17, 6019), (11, 268, 11, 18, 6020), (11, 37, 11, 19, 6021), (11, 40, 11, 20, 6022), (11, 43, 11, 21, 6023), (11, 278, 11, 22, 6024), (11, 294, 11, 23, 6025), (11, 303, 11, 24, 6026), (11, 306, 11, 25, 6027), (11, 46, 11, 26, 6028), (11, 49, 11, 27, 6029), (11, 52, 11, 28, 6030), (11, 55, 11, 29, 6031), (11, 58, 11, 30, 6032), (11, 61, 11, 31, 6033), (11, 64, 11, 32, 6034), (11, 67, 11, 33, 6035), (11, 70, 11, 34, 6036), (11, 73, 11, 35, 6037), (11, 403, 11, 36, 6038), (11, 76, 11, 37, 6039), (11, 79, 11, 38, 6040), (11, 424, 11, 39, 6041), (11, 436, 11, 40, 6042), (11, 82, 11, 41, 6043), (11, 476, 11, 42, 6044), (11, 480, 11, 43, 6045), (11, 483, 11, 44, 6046), (11, 85, 11, 45, 6047), (11, 88, 11, 46, 6048), (11, 91, 11, 47, 6049), (11, 95, 11, 48, 6050)]
def am_lkM : List (Nat × Nat × Nat × Nat) := [(25, 9, 79, 1023), (10, 9, 16, 1031), (2, 11, 38, 1037), (2, 20, 3, 1068), (1, 38, 0, 1074), (10, 18, 3, 1224), (10, 25, 72, 1227), (9, 40, 55, 1235), (10, 32, 64, 2096), (10, 39, 44, 2109), (6, 11, 64, 2114), (6, 20, 72, 2116), (6, 27, 55, 2118), (10, 46, 27, 2143), (3, 11, 72, 2148), (10, 65, 33, 2169), (25, 13, 80, 2218), (10, 76, 39, 2222), (25, 18, 81, 2226), (25, 23, 82, 2230), (10, 80, 17, 2234), (2, 29, 4, 2238), (2, 38, 40, 3002), (5, 31, 41, 3006), (5, 35, 42, 3010), (5, 39, 9001, 3015), (2, 44, 18, 3018), (2, 59, 43, 3023), (5, 45, 332, 3027), (17, 335, 334, 3031), (5, 50, 333, 3037), (17, 492, 335, 3041), (17, 495, 337, 3045), (18, 9, 336, 3048), (17, 1059, 344, 3053), (17, 498, 340, 3056), (19, 67, 341, 3059), (19, 48, 339, 3062), (19, 414, 336, 3065), (19, 71, 338, 3066), (2, 63, 19, 3075), (2, 87, 23, 3080), (2, 81, 26, 3084), (2, 90, 24, 3088), (2, 68, 20, 3095), (2, 73, 21, 3100), (2, 78, 22, 3108), (2, 48, 25, 3114), (2, 54, 5, 3118), (10, 87, 6, 3122), (1, 68, 9999, 3126), (1, 74, 2, 3129), (0, 28, 9999, 3133), (10, 91, 84, 3134), (10, 103, 73, 3138), (9, 61, 9999, 3142), (10, 106, 74, 3143), (9, 67, 75, 3147), (9, 123, 343, 3151), (9, 78, 76, 3154), (9, 129, 9001, 3158), (9, 94, 56, 3159), (7, 25, 57, 3163), (7, 42, 343, 3167), (7, 29, 58, 3168), (7, 54, 59, 3172), (7, 64, 60, 3176), (7, 70, 61, 3180), (7, 76, 62, 3184), (7, 33, 63, 3188), (9, 98, 78, 3192), (9, 101, 77, 3196), (10, 109, 45, 3200), (6, 45, 343, 3204), (25, 28, 83, 3205), (25, 32, 85, 3209), (10, 112, 9, 3213), (25, 37, 86, 3217), (10, 126, 10, 3221), (25, 41, 87, 3225), (10, 138, 8, 3229), (25, 45, 88, 3233), (10, 144, 11, 3237), (1, 78, 7, 4001), (25, 49, 89, 4005), (25, 53, 90, 4009), (25, 57, 91, 4013), (10, 157, 65, 4017), (25, 61, 92, 4021), (25, 65, 93, 4025), (10, 161, 66, 4029), (25, 69, 94, 4033), (10, 165, 95, 4037), (25, 73, 96, 4041), (10, 169, 97, 4045), (25, 77, 98, 4049), (25, 81, 99, 4053), (25, 85, 100, 4057), (10, 172, 12, 4061), (25, 89, 101, 4066), (25, 93, 102, 4070), (10, 176, 7, 4074), (10, 179, 13, 4075), (25, 97, 103, 4079), (25, 101, 104, 4083), (10, 183, 67, 4087), (25, 105, 105, 4091), (25, 109, 106, 4095), (25, 113, 107, 4099), (25, 117, 108, 4103), (25, 121, 109, 4107), (25, 125, 110, 4111), (25, 129, 111, 4115), (10, 204, 328, 4119), (25, 133, 112, 4125), (25, 137, 113, 4129), (25, 141, 114, 4133), (25, 145, 116, 4137), (10, 219, 115, 4141), (10, 215, 165, 4145), (10, 222, 52, 4148), (6, 102, 9999, 4152), (6, 109, 56, 4153), (25, 150, 117, 4154), (25, 155, 118, 4158), (25, 159, 119, 4162), (10, 235, 53, 4166), (6, 113, 52, 4170), (25, 163, 120, 4171), (25, 167, 121, 4175), (25, 171, 122, 4179), (10, 239, 123, 4183), (10, 243, 46, 4187), (6, 51, 73, 4191), (6, 59, 74, 4192), (6, 67, 66, 4193), (25, 175, 124, 4194), (25, 179, 125, 4198), (25, 183, 126, 4202), (10, 247, 68, 4206), (8, 33, 69, 4210), (8, 41, 343, 4214), (8, 50, 71, 4215), (8, 37, 70, 4218), (25, 187, 127, 4222), (10, 250, 54, 4226), (25, 191, 129, 4230), (10, 253, 128, 4234), (10, 256, 15, 4238), (10, 259, 47, 5002), (25, 195, 130, 5006), (10, 263, 49, 5010), (6, 80, 328, 5014), (25, 199, 131, 5015), (25, 203, 133, 5019), (10, 278, 132, 5023), (10, 266, 164, 5027), (10, 269, 34, 5030), (10, 270, 28, 5034), (3, 33, 29, 5038), (10, 274, 30, 5042), (3, 50, 73, 5046), (3, 58, 74, 5047), (3, 61, 32, 5048), (25, 207, 134, 5052), (25, 211, 135, 5056), (25, 215, 136, 5060), (25, 219, 137, 5064), (10, 290, 9001, 5068), (25, 223, 138, 5069), (10, 295, 31, 5073), (25, 227, 139, 5077), (10, 299, 48, 5081), (25, 231, 140, 5085), (25, 235, 141, 5089), (10, 302, 14, 5093), (25, 239, 142, 5097), (10, 308, 50, 5103), (6, 86, 49, 5107), (10, 311, 150, 5108), (10, 340, 9003, 5111), (25, 243, 144, 5114), (10, 315, 143, 5118), (10, 319, 51, 5122), (25, 247, 145, 5126), (25, 251, 146, 5130), (10, 325, 148, 5135), (10, 334, 149, 5140), (25, 256, 147, 5144), (25, 261, 151, 5148), (10, 346, 153, 5152), (10, 354, 1, 5156), (25, 265, 152, 5160), (25, 269, 154, 5164), (25, 273, 155, 5168), (25, 277, 156, 5172), (10, 361, 157, 5177), (25, 281, 158, 5185), (25, 285, 159, 5189), (25, 289, 160, 5193), (10, 375, 161, 5197), (25, 293, 162, 5201), (25, 297, 163, 5205), (25, 301, 166, 5209), (10, 378, 35, 5213), (4, 22, 342, 5217), (25, 307, 167, 5220), (10, 387, 36, 5224), (25, 312, 168, 5228), (10, 393, 37, 5232), (10, 396, 9999, 5236), (25, 12, 169, 5239), (25, 296, 173, 6150), (11, 103, 170, 6155), (25, 300, 174, 6158), (25, 17, 188, 6162), (25, 22, 189, 6166), (25, 31, 199, 6170), (25, 27, 206, 6174), (11, 180, 191, 6178), (11, 133, 190, 6182), (11, 155, 9001, 6191), (11, 164, 192, 6192), (11, 238, 205, 6196), (11, 232, 200, 6200), (11, 190, 196, 6205), (11, 183, 195, 6209), (11, 176, 194, 6213), (11, 167, 332, 6217), (11, 172, 333, 6218), (11, 186, 193, 6219), (11, 200, 198, 6224), (11, 194, 197, 6228), (11, 235, 204, 6234), (11, 223, 203, 7001), (11, 226, 201, 7005), (11, 229, 202, 7012), (25, 36, 207, 7018), (11, 241, 183, 7022), (11, 118, 178, 7026), (25, 40, 208, 7030), (11, 245, 184, 7034), (11, 121, 179, 7038), (11, 249, 187, 7042), (25, 44, 210, 7046), (11, 255, 182, 7050), (11, 115, 177, 7054), (11, 258, 209, 7058), (11, 252, 185, 7062), (25, 48, 234, 7066), (11, 356, 226, 7070), (11, 335, 225, 7074), (11, 329, 211, 7078), (11, 332, 224, 7083), (11, 300, 172, 7087), (11, 111, 176, 7090), (11, 326, 223, 7094), (11, 317, 222, 7098), (11, 320, 220, 7103), (11, 309, 218, 7107), (11, 297, 217, 7111), (11, 271, 212, 7115), (11, 275, 213, 7119), (11, 281, 214, 7123), (11, 285, 215, 7127), (11, 288, 216, 7131), (11, 291, 186, 7135), (11, 313, 219, 7139), (11, 323, 221, 7143), (11, 107, 175, 7147), (11, 338, 180, 7151), (11, 341, 227, 7155), (25, 52, 235, 7159), (11, 344, 228, 7163), (25, 56, 236, 7167), (25, 60, 238, 7171), (11, 359, 237, 7175), (11, 347, 229, 7179), (25, 64, 239, 7183), (25, 68, 240, 7187), (11, 353, 231, 7191), (11, 350, 230, 7195), (25, 72, 241, 7199), (25, 96, 242, 7203), (11, 362, 233, 7207), (25, 76, 244, 7211), (11, 365, 243, 7215), (25, 88, 245, 7219), (11, 368, 181, 7223), (25, 100, 246, 7228), (25, 92, 247, 7232), (11, 372, 171, 7236), (25, 80, 248, 7239), (25, 84, 249, 8003), (25, 104, 250, 8007), (25, 108, 253, 8011), (11, 375, 251, 8015), (11, 378, 252, 8019), (25, 112, 254, 8023), (25, 116, 255, 8027), (25, 120, 256, 8031), (25, 124, 257, 8035), (25, 128, 258, 8039), (25, 132, 259, 8043), (25, 136, 260, 8047), (25, 140, 261, 8051), (25, 144, 262, 8055), (25, 149, 265, 8059), (11, 386, 264, 8063), (11, 383, 263, 8068), (25, 154, 266, 8072), (25, 158, 267, 8076), (25, 162, 270, 8080), (11, 390, 268, 8084), (11, 394, 269, 8088), (25, 170, 271, 8091), (25, 166, 272, 8095), (25, 174, 274, 8099), (11, 400, 273, 8103), (11, 397, 232, 8107), (25, 178, 275, 8111), (25, 182, 276, 8115), (25, 186, 278, 8119), (11, 406, 277, 8123), (25, 190, 279, 8127), (25, 194, 280, 8131), (25, 198, 282, 8135), (11, 409, 281, 8139), (25, 202, 283, 8143), (25, 206, 288, 8147), (11, 430, 287, 8151), (11, 421, 285, 8155), (11, 412, 323, 8159), (11, 415, 284, 8163), (11, 427, 286, 8168), (25, 210, 289, 8172), (25, 214, 290, 8176), (25, 218, 293, 8180), (11, 442, 292, 8184), (11, 439, 291, 8188), (11, 433, 9002, 8192), (25, 222, 294, 8195), (25, 226, 295, 8199), (25, 230, 297, 8203), (11, 447, 296, 8207), (25, 234, 298, 8211), (25, 238, 300, 8215), (11, 450, 299, 8219), (25, 242, 304, 8223), (11, 462, 301, 8228), (11, 465, 303, 8231), (11, 457, 302, 8234), (11, 453, 9003, 8237), (25, 246, 307, 8238), (11, 469, 306, 9002), (11, 472, 305, 9006), (25, 250, 308, 9010), (25, 255, 310, 9014), (11, 490, 309, 9020), (25, 260, 311, 9024), (25, 264, 313, 9028), (11, 495, 312, 9033), (25, 268, 314, 9037), (25, 272, 315, 9042), (25, 276, 316, 9046), (25, 280, 319, 9050), (11, 512, 318, 9054), (11, 515, 317, 9058), (25, 284, 320, 9067), (25, 288, 321, 9072), (25, 292, 322, 9076), (25, 304, 325, 9081), (25, 311, 326, 9085), (11, 523, 324, 9089), (25, 315, 327, 9092)]
def am_lkI : List (Nat × Nat × Int32 × Nat) := [(5, 38, 1000000, 3014), (10, 175, (-100000), 4065), (15, 265, 1431655765, 4122), (15, 266, 858993459, 4123), (15, 267, 252645135, 4124), (10, 360, 2000000000, 5176), (11, 154, 99999, 6190), (11, 264, 65535, 7082), (11, 316, 1000000, 7102), (11, 371, (-100000), 7227), (11, 461, 65536, 8227)]
def am_lkL : List (Nat × Nat × Int64 × Nat) := [(3, 39, 99, 5041), (10, 323, (-2), 5134), (10, 329, (-3), 5139), (10, 338, 10, 5143), (10, 364, 1103515245, 5181), (10, 366, 12345, 5182), (10, 368, 2147483648, 5183), (10, 370, 65536, 5184), (11, 101, 2, 6154), (11, 143, 97, 6186), (11, 145, 122, 6187), (11, 147, 48, 6188), (11, 149, 57, 6189), (11, 381, 200, 8067), (11, 445, 3, 8162), (11, 419, 99, 8167), (11, 486, (-2), 9018), (11, 488, (-3), 9019), (11, 493, 60, 9032), (11, 498, 90, 9041), (11, 510, 2000000000, 9057), (11, 500, 1103515245, 9062), (11, 502, 12345, 9063), (11, 504, 2147483648, 9064), (11, 506, 65536, 9065), (11, 508, 10, 9066), (11, 519, 20, 9071), (11, 521, 7, 9080), (25, 305, 4294967295, 9096)]
def am_lkS : List (Nat × Nat × Nat × Nat × String) := [(2, 57, 0, 3022, "cloth"), (2, 85, 1, 3079, "years"), (2, 99, 2, 3092, "law"), (2, 103, 3, 3093, "odds"), (2, 66, 4, 3094, "claim"), (2, 71, 5, 3099, "thread"), (2, 117, 6, 3104, "to"), (2, 119, 7, 3105, "hem"), (2, 123, 8, 3106, "holds"), (2, 76, 9, 3107, "quarrel"), (2, 133, 10, 3112, "by"), (2, 138, 11, 3113, "at"), (11, 197, 0, 6204, "cloth"), (11, 199, 1, 6223, "years"), (11, 204, 2, 6232, "law"), (11, 206, 3, 6233, "odds"), (11, 217, 4, 6238, "claim"), (11, 219, 5, 6239, "thread"), (11, 221, 9, 7000, "quarrel"), (11, 208, 6, 7009, "to"), (11, 210, 7, 7010, "hem"), (11, 212, 8, 7011, "holds"), (11, 214, 10, 7016, "by"), (11, 216, 11, 7017, "at")]
def am_N : Nat := 233
def am_shl : List Nat := [10, 2, 5, 20, 1, 21, 21, 21, 22, 22, 22, 21, 23, 0, 24, 24, 24, 24, 1, 21, 21, 21, 22, 22, 22, 21, 23, 0, 24, 24, 24, 24, 9, 25, 21, 21, 21, 21, 21, 21, 21, 21, 21, 21, 21, 21, 21, 26, 21, 21, 21, 21, 21, 21, 21, 21, 21, 21, 22, 22, 22, 22, 21, 21, 7, 21, 27, 8, 27, 23, 6, 8, 27, 23, 9, 25, 21, 21, 21, 21, 21, 21, 21, 21, 21, 21, 21, 21, 21, 26, 21, 21, 21, 21, 21, 21, 21, 21, 21, 21, 22, 22, 22, 22, 21, 21, 7, 21, 27, 7, 21, 27, 21, 28, 29, 30, 3, 9, 25, 21, 21, 21, 21, 21, 21, 21, 21, 21, 21, 21, 21, 21, 26, 21, 21, 21, 21, 21, 21, 21, 21, 21, 21, 22, 22, 22, 22, 21, 21, 7, 21, 27, 31, 32, 33, 4, 34, 4, 34, 4, 34, 4, 34, 1, 21, 21, 21, 22, 22, 22, 21, 23, 0, 24, 24, 24, 24, 1, 21, 21, 21, 22, 22, 22, 21, 23, 0, 24, 24, 24, 24, 1, 21, 21, 21, 22, 22, 22, 21, 23, 0, 24, 24, 24, 24, 11, 35, 36, 33, 20, 37, 35, 21, 21, 21, 27, 21, 21, 38, 39, 22, 22, 22, 22, 27, 23, 40, 41, 30, 42, 42, 43, 34]
def am_sh (a : Nat) : Nat := am_shl.getD a 99
def am_fl (k : Nat) : List (Nat × Nat × Nat) := match k with
  | 0 => [(0, 0, 0), (2, 24, 1), (2, 24, 2), (2, 24, 3), (2, 24, 4)]
  | 1 => [(0, 0, 0), (0, 0, 0), (0, 0, 0), (0, 0, 0), (0, 0, 0), (0, 0, 0), (0, 0, 0), (2, 21, 1), (2, 21, 2), (2, 21, 3), (2, 22, 4), (2, 22, 5), (2, 22, 6), (2, 21, 7), (2, 23, 8), (2, 0, 9)]
  | 2 => [(2, 5, 1), (2, 1, 3), (0, 0, 0), (0, 0, 0), (0, 0, 0)]
  | 3 => [(2, 9, 1), (0, 0, 0), (0, 0, 0), (0, 0, 0)]
  | 4 => [(0, 0, 0), (0, 0, 0), (2, 34, 1)]
  | 5 => [(2, 20, 1), (0, 0, 0), (0, 0, 0), (0, 0, 0), (0, 0, 0), (0, 0, 0)]
  | 6 => [(2, 8, 1), (2, 9, 4), (2, 7, 39), (2, 21, 42), (2, 28, 43), (2, 29, 44), (2, 30, 45)]
  | 7 => [(2, 21, 1), (0, 0, 0), (0, 0, 0), (0, 0, 0), (0, 0, 0), (2, 27, 2), (0, 0, 0), (0, 0, 0), (0, 0, 0), (0, 0, 0)]
  | 8 => [(2, 27, 1), (2, 23, 2)]
  | 9 => [(0, 0, 0), (0, 0, 0), (0, 0, 0), (2, 25, 1), (2, 26, 15), (2, 22, 26), (2, 22, 27), (2, 22, 28), (2, 22, 29), (2, 21, 30), (2, 21, 31), (2, 7, 32)]
  | 10 => [(2, 2, 1), (2, 1, 18), (2, 9, 32), (2, 8, 67), (2, 6, 70), (2, 3, 116), (2, 31, 152), (2, 32, 153), (2, 33, 154)]
  | 11 => [(0, 0, 0), (2, 35, 1), (2, 36, 2), (2, 33, 3), (2, 20, 4), (0, 0, 0), (2, 37, 5), (0, 0, 0), (0, 0, 0), (0, 0, 0), (0, 0, 0), (0, 0, 0), (0, 0, 0), (0, 0, 0), (2, 35, 6), (2, 21, 7), (0, 0, 0), (0, 0, 0), (0, 0, 0), (2, 21, 8), (2, 21, 9), (2, 27, 10), (0, 0, 0), (0, 0, 0), (0, 0, 0), (0, 0, 0), (2, 21, 11), (2, 21, 12), (2, 38, 13), (2, 39, 14), (2, 22, 15), (2, 22, 16), (2, 22, 17), (2, 22, 18), (2, 27, 19), (2, 23, 20), (0, 0, 0), (2, 40, 21), (2, 41, 22), (0, 0, 0), (0, 0, 0), (2, 30, 23), (1, 0, 0), (1, 0, 0), (1, 0, 0), (2, 42, 24), (2, 42, 25), (2, 43, 26), (2, 34, 27)]
  | _ => []
def am_ar (k : Nat) : Nat × Nat × Nat × Nat × Nat × Nat := match k with
  | 20 => (1, 800, 1, 0, 0, 0)
  | 21 => (0, 16, 0, 0, 0, 0)
  | 22 => (0, 10, 0, 0, 0, 0)
  | 23 => (0, 9, 0, 0, 0, 0)
  | 24 => (0, 30, 0, 0, 0, 0)
  | 25 => (4, 13, 4, 21, 1, 1)
  | 26 => (4, 10, 4, 21, 1, 1)
  | 27 => (0, 8, 0, 0, 0, 0)
  | 28 => (0, 976, 0, 0, 0, 0)
  | 29 => (0, 1024, 0, 0, 0, 0)
  | 30 => (0, 256, 0, 0, 0, 0)
  | 31 => (4, 4, 5, 4, 3, 2)
  | 32 => (4, 3, 6, 1, 10, 14)
  | 33 => (2, 3, 2, 0, 0, 0)
  | 34 => (3, 60, 3, 0, 0, 0)
  | 35 => (0, 116, 0, 0, 0, 0)
  | 36 => (0, 348, 0, 0, 0, 0)
  | 37 => (0, 5, 0, 0, 0, 0)
  | 38 => (0, 208, 0, 0, 0, 0)
  | 39 => (0, 160, 0, 0, 0, 0)
  | 40 => (0, 60, 0, 0, 0, 0)
  | 41 => (0, 780, 0, 0, 0, 0)
  | 42 => (0, 4, 0, 0, 0, 0)
  | 43 => (3, 240, 3, 0, 0, 0)
  | 61 => (7, 9, 0, 0, 0, 0)
  | 62 => (8, 0, 0, 0, 0, 0)
  | _ => (9, 0, 0, 0, 0, 0)
abbrev am_tk : Nat := 7
abbrev am_ta : Nat := 109
def am_nS : Nat := 12
def am_rk (j : Nat) : Nat := if am_ow j = 17 then 60 else am_ow j
def am_slen : List Nat := [5, 5, 3, 4, 5, 6, 2, 3, 5, 7, 2, 2]
def am_sbyt : List (List Int32) := [[99, 108, 111, 116, 104], [121, 101, 97, 114, 115], [108, 97, 119], [111, 100, 100, 115], [99, 108, 97, 105, 109], [116, 104, 114, 101, 97, 100], [116, 111], [104, 101, 109], [104, 111, 108, 100, 115], [113, 117, 97, 114, 114, 101, 108], [98, 121], [97, 116]]
def am_fact (k : Nat) : Int32 := ([1, 1, 2, 6, 24, 120, 720, 5040, 40320] : List Int32).getD k 0
def am_lkG : List (Nat × Nat × Nat) := [(10, 305, 5101)]
