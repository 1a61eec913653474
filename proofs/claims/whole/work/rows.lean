section
-- ===== PART A: goes FIRST, ahead of the names: the tables' words, and 'selects' of the private methods out of them =====
/-- a private method of a class that the tables say can be made, by its rows of tables_1 -/
def lw_okq (q : MethodName × Nat) : Prop := (q.1.cls ≠ "java/lang/invoke/MethodHandle" ∧ q.1.cls ≠ "java/lang/invoke/VarHandle") ∧ Cond.instantiable q.1.cls q.2 ∈ tables_1 ∧ Cond.privateMethod q.1 ∈ tables_1 ∧ Cond.instanceMethod q.1 ∈ tables_1
theorem lw_p0 : lw_okq (⟨"ArgumentMender$Tape", "isLetter", "()Z"⟩, 6) := ⟨⟨by decide +kernel, by decide +kernel⟩, List.mem_of_getElem? (i := 36) (by decide +kernel), List.mem_of_getElem? (i := 487) (by decide +kernel), List.mem_of_getElem? (i := 488) (by decide +kernel)⟩
theorem lw_p1 : lw_okq (⟨"ArgumentMender$Tape", "isDigit", "()Z"⟩, 6) := ⟨⟨by decide +kernel, by decide +kernel⟩, List.mem_of_getElem? (i := 36) (by decide +kernel), List.mem_of_getElem? (i := 491) (by decide +kernel), List.mem_of_getElem? (i := 492) (by decide +kernel)⟩
theorem lw_p2 : lw_okq (⟨"ArgumentMender$Reader", "readLine", "()Z"⟩, 5) := ⟨⟨by decide +kernel, by decide +kernel⟩, List.mem_of_getElem? (i := 30) (by decide +kernel), List.mem_of_getElem? (i := 499) (by decide +kernel), List.mem_of_getElem? (i := 500) (by decide +kernel)⟩
theorem lw_p3 : lw_okq (⟨"ArgumentMender$Reader", "readHead", "()Z"⟩, 5) := ⟨⟨by decide +kernel, by decide +kernel⟩, List.mem_of_getElem? (i := 30) (by decide +kernel), List.mem_of_getElem? (i := 556) (by decide +kernel), List.mem_of_getElem? (i := 557) (by decide +kernel)⟩
theorem lw_p4 : lw_okq (⟨"ArgumentMender$Reader", "takeWord", "(Ljava/lang/String;)Z"⟩, 5) := ⟨⟨by decide +kernel, by decide +kernel⟩, List.mem_of_getElem? (i := 30) (by decide +kernel), List.mem_of_getElem? (i := 561) (by decide +kernel), List.mem_of_getElem? (i := 562) (by decide +kernel)⟩
theorem lw_p5 : lw_okq (⟨"ArgumentMender$Reader", "fail", "(I)Z"⟩, 5) := ⟨⟨by decide +kernel, by decide +kernel⟩, List.mem_of_getElem? (i := 30) (by decide +kernel), List.mem_of_getElem? (i := 565) (by decide +kernel), List.mem_of_getElem? (i := 566) (by decide +kernel)⟩
theorem lw_p6 : lw_okq (⟨"ArgumentMender$Reader", "takeNumber", "(II)Z"⟩, 5) := ⟨⟨by decide +kernel, by decide +kernel⟩, List.mem_of_getElem? (i := 30) (by decide +kernel), List.mem_of_getElem? (i := 569) (by decide +kernel), List.mem_of_getElem? (i := 570) (by decide +kernel)⟩
theorem lw_p7 : lw_okq (⟨"ArgumentMender$Reader", "readClaim", "()Z"⟩, 5) := ⟨⟨by decide +kernel, by decide +kernel⟩, List.mem_of_getElem? (i := 30) (by decide +kernel), List.mem_of_getElem? (i := 576) (by decide +kernel), List.mem_of_getElem? (i := 577) (by decide +kernel)⟩
theorem lw_p8 : lw_okq (⟨"ArgumentMender$Reader", "readThread", "()Z"⟩, 5) := ⟨⟨by decide +kernel, by decide +kernel⟩, List.mem_of_getElem? (i := 30) (by decide +kernel), List.mem_of_getElem? (i := 581) (by decide +kernel), List.mem_of_getElem? (i := 582) (by decide +kernel)⟩
theorem lw_p9 : lw_okq (⟨"ArgumentMender$Reader", "readQuarrel", "()Z"⟩, 5) := ⟨⟨by decide +kernel, by decide +kernel⟩, List.mem_of_getElem? (i := 30) (by decide +kernel), List.mem_of_getElem? (i := 589) (by decide +kernel), List.mem_of_getElem? (i := 590) (by decide +kernel)⟩
theorem lw_p10 : lw_okq (⟨"ArgumentMender$Reader", "takeSign", "()Z"⟩, 5) := ⟨⟨by decide +kernel, by decide +kernel⟩, List.mem_of_getElem? (i := 30) (by decide +kernel), List.mem_of_getElem? (i := 595) (by decide +kernel), List.mem_of_getElem? (i := 596) (by decide +kernel)⟩
theorem lw_p11 : lw_okq (⟨"ArgumentMender", "refresh", "()V"⟩, 9) := ⟨⟨by decide +kernel, by decide +kernel⟩, List.mem_of_getElem? (i := 22) (by decide +kernel), List.mem_of_getElem? (i := 615) (by decide +kernel), List.mem_of_getElem? (i := 616) (by decide +kernel)⟩
theorem lw_p12 : lw_okq (⟨"ArgumentMender$Years", "begin", "(LArgumentMender$Cloth;)V"⟩, 12) := ⟨⟨by decide +kernel, by decide +kernel⟩, List.mem_of_getElem? (i := 226) (by decide +kernel), List.mem_of_getElem? (i := 628) (by decide +kernel), List.mem_of_getElem? (i := 629) (by decide +kernel)⟩
theorem lw_p13 : lw_okq (⟨"ArgumentMender$Years", "letIn", "(LArgumentMender$Acts;I[I)V"⟩, 12) := ⟨⟨by decide +kernel, by decide +kernel⟩, List.mem_of_getElem? (i := 226) (by decide +kernel), List.mem_of_getElem? (i := 635) (by decide +kernel), List.mem_of_getElem? (i := 636) (by decide +kernel)⟩
theorem lw_p14 : lw_okq (⟨"ArgumentMender$Tug", "begin", "(II)V"⟩, 10) := ⟨⟨by decide +kernel, by decide +kernel⟩, List.mem_of_getElem? (i := 234) (by decide +kernel), List.mem_of_getElem? (i := 644) (by decide +kernel), List.mem_of_getElem? (i := 645) (by decide +kernel)⟩
theorem lw_p15 : lw_okq (⟨"ArgumentMender$Tug", "divide", "(LArgumentMender$Cloth;I[II)V"⟩, 10) := ⟨⟨by decide +kernel, by decide +kernel⟩, List.mem_of_getElem? (i := 234) (by decide +kernel), List.mem_of_getElem? (i := 649) (by decide +kernel), List.mem_of_getElem? (i := 650) (by decide +kernel)⟩
def lw_privs_1 : List (MethodName × Nat) := [(⟨"ArgumentMender$Tape", "isLetter", "()Z"⟩, 6), (⟨"ArgumentMender$Tape", "isDigit", "()Z"⟩, 6), (⟨"ArgumentMender$Reader", "readLine", "()Z"⟩, 5), (⟨"ArgumentMender$Reader", "readHead", "()Z"⟩, 5), (⟨"ArgumentMender$Reader", "takeWord", "(Ljava/lang/String;)Z"⟩, 5), (⟨"ArgumentMender$Reader", "fail", "(I)Z"⟩, 5), (⟨"ArgumentMender$Reader", "takeNumber", "(II)Z"⟩, 5), (⟨"ArgumentMender$Reader", "readClaim", "()Z"⟩, 5), (⟨"ArgumentMender$Reader", "readThread", "()Z"⟩, 5), (⟨"ArgumentMender$Reader", "readQuarrel", "()Z"⟩, 5), (⟨"ArgumentMender$Reader", "takeSign", "()Z"⟩, 5), (⟨"ArgumentMender", "refresh", "()V"⟩, 9), (⟨"ArgumentMender$Years", "begin", "(LArgumentMender$Cloth;)V"⟩, 12), (⟨"ArgumentMender$Years", "letIn", "(LArgumentMender$Acts;I[I)V"⟩, 12), (⟨"ArgumentMender$Tug", "begin", "(II)V"⟩, 10), (⟨"ArgumentMender$Tug", "divide", "(LArgumentMender$Cloth;I[II)V"⟩, 10)]
theorem lw_r1 : ∀ q ∈ lw_privs_1, lw_okq q := List.forall_mem_cons.mpr ⟨lw_p0, List.forall_mem_cons.mpr ⟨lw_p1, List.forall_mem_cons.mpr ⟨lw_p2, List.forall_mem_cons.mpr ⟨lw_p3, List.forall_mem_cons.mpr ⟨lw_p4, List.forall_mem_cons.mpr ⟨lw_p5, List.forall_mem_cons.mpr ⟨lw_p6, List.forall_mem_cons.mpr ⟨lw_p7, List.forall_mem_cons.mpr ⟨lw_p8, List.forall_mem_cons.mpr ⟨lw_p9, List.forall_mem_cons.mpr ⟨lw_p10, List.forall_mem_cons.mpr ⟨lw_p11, List.forall_mem_cons.mpr ⟨lw_p12, List.forall_mem_cons.mpr ⟨lw_p13, List.forall_mem_cons.mpr ⟨lw_p14, List.forall_mem_cons.mpr ⟨lw_p15, fun _ h => absurd h List.not_mem_nil⟩⟩⟩⟩⟩⟩⟩⟩⟩⟩⟩⟩⟩⟩⟩⟩
theorem lw_p16 : lw_okq (⟨"ArgumentMender$Tug", "survey", "(LArgumentMender$Cloth;[II)V"⟩, 10) := ⟨⟨by decide +kernel, by decide +kernel⟩, List.mem_of_getElem? (i := 234) (by decide +kernel), List.mem_of_getElem? (i := 653) (by decide +kernel), List.mem_of_getElem? (i := 654) (by decide +kernel)⟩
theorem lw_p17 : lw_okq (⟨"ArgumentMender$Tug", "evenly", "(LArgumentMender$Cloth;[II)V"⟩, 10) := ⟨⟨by decide +kernel, by decide +kernel⟩, List.mem_of_getElem? (i := 234) (by decide +kernel), List.mem_of_getElem? (i := 657) (by decide +kernel), List.mem_of_getElem? (i := 658) (by decide +kernel)⟩
theorem lw_p18 : lw_okq (⟨"ArgumentMender$Tug", "byStrength", "(LArgumentMender$Cloth;[II)V"⟩, 10) := ⟨⟨by decide +kernel, by decide +kernel⟩, List.mem_of_getElem? (i := 234) (by decide +kernel), List.mem_of_getElem? (i := 661) (by decide +kernel), List.mem_of_getElem? (i := 662) (by decide +kernel)⟩
theorem lw_p19 : lw_okq (⟨"ArgumentMender$Tug", "passOn", "(LArgumentMender$Cloth;I)V"⟩, 10) := ⟨⟨by decide +kernel, by decide +kernel⟩, List.mem_of_getElem? (i := 234) (by decide +kernel), List.mem_of_getElem? (i := 665) (by decide +kernel), List.mem_of_getElem? (i := 666) (by decide +kernel)⟩
theorem lw_p20 : lw_okq (⟨"ArgumentMender$Tug", "tear", "(LArgumentMender$Cloth;[I)Z"⟩, 10) := ⟨⟨by decide +kernel, by decide +kernel⟩, List.mem_of_getElem? (i := 234) (by decide +kernel), List.mem_of_getElem? (i := 669) (by decide +kernel), List.mem_of_getElem? (i := 670) (by decide +kernel)⟩
theorem lw_p21 : lw_okq (⟨"ArgumentMender$Years", "addUp", "(LArgumentMender$Cloth;)V"⟩, 12) := ⟨⟨by decide +kernel, by decide +kernel⟩, List.mem_of_getElem? (i := 226) (by decide +kernel), List.mem_of_getElem? (i := 673) (by decide +kernel), List.mem_of_getElem? (i := 674) (by decide +kernel)⟩
theorem lw_p22 : lw_okq (⟨"ArgumentMender$Years", "note", "(I)V"⟩, 12) := ⟨⟨by decide +kernel, by decide +kernel⟩, List.mem_of_getElem? (i := 226) (by decide +kernel), List.mem_of_getElem? (i := 677) (by decide +kernel), List.mem_of_getElem? (i := 678) (by decide +kernel)⟩
theorem lw_p23 : lw_okq (⟨"ArgumentMender", "firstWithout", "(I)I"⟩, 9) := ⟨⟨by decide +kernel, by decide +kernel⟩, List.mem_of_getElem? (i := 22) (by decide +kernel), List.mem_of_getElem? (i := 758) (by decide +kernel), List.mem_of_getElem? (i := 759) (by decide +kernel)⟩
theorem lw_p24 : lw_okq (⟨"ArgumentMender", "together", "(I)I"⟩, 9) := ⟨⟨by decide +kernel, by decide +kernel⟩, List.mem_of_getElem? (i := 22) (by decide +kernel), List.mem_of_getElem? (i := 766) (by decide +kernel), List.mem_of_getElem? (i := 767) (by decide +kernel)⟩
theorem lw_p25 : lw_okq (⟨"ArgumentMender", "canTry", "(III)Z"⟩, 9) := ⟨⟨by decide +kernel, by decide +kernel⟩, List.mem_of_getElem? (i := 22) (by decide +kernel), List.mem_of_getElem? (i := 862) (by decide +kernel), List.mem_of_getElem? (i := 863) (by decide +kernel)⟩
theorem lw_p26 : lw_okq (⟨"ArgumentMender", "leastWord", "(II)I"⟩, 9) := ⟨⟨by decide +kernel, by decide +kernel⟩, List.mem_of_getElem? (i := 22) (by decide +kernel), List.mem_of_getElem? (i := 904) (by decide +kernel), List.mem_of_getElem? (i := 905) (by decide +kernel)⟩
theorem lw_p27 : lw_okq (⟨"ArgumentMender$Web", "reaches", "(LArgumentMender$Cloth;[III)Z"⟩, 2) := ⟨⟨by decide +kernel, by decide +kernel⟩, List.mem_of_getElem? (i := 335) (by decide +kernel), List.mem_of_getElem? (i := 931) (by decide +kernel), List.mem_of_getElem? (i := 932) (by decide +kernel)⟩
theorem lw_p28 : lw_okq (⟨"ArgumentMender$Web", "turned", "(LArgumentMender$Cloth;II)I"⟩, 2) := ⟨⟨by decide +kernel, by decide +kernel⟩, List.mem_of_getElem? (i := 335) (by decide +kernel), List.mem_of_getElem? (i := 939) (by decide +kernel), List.mem_of_getElem? (i := 940) (by decide +kernel)⟩
theorem lw_p29 : lw_okq (⟨"ArgumentMender", "hangingAtLast", "()I"⟩, 9) := ⟨⟨by decide +kernel, by decide +kernel⟩, List.mem_of_getElem? (i := 22) (by decide +kernel), List.mem_of_getElem? (i := 955) (by decide +kernel), List.mem_of_getElem? (i := 956) (by decide +kernel)⟩
theorem lw_p30 : lw_okq (⟨"ArgumentMender", "look", "(II)I"⟩, 9) := ⟨⟨by decide +kernel, by decide +kernel⟩, List.mem_of_getElem? (i := 22) (by decide +kernel), List.mem_of_getElem? (i := 984) (by decide +kernel), List.mem_of_getElem? (i := 985) (by decide +kernel)⟩
theorem lw_p31 : lw_okq (⟨"ArgumentMender$Sight", "agrees", "(LArgumentMender$Slot;)Z"⟩, 4) := ⟨⟨by decide +kernel, by decide +kernel⟩, List.mem_of_getElem? (i := 382) (by decide +kernel), List.mem_of_getElem? (i := 1009) (by decide +kernel), List.mem_of_getElem? (i := 1010) (by decide +kernel)⟩
def lw_privs_2 : List (MethodName × Nat) := [(⟨"ArgumentMender$Tug", "survey", "(LArgumentMender$Cloth;[II)V"⟩, 10), (⟨"ArgumentMender$Tug", "evenly", "(LArgumentMender$Cloth;[II)V"⟩, 10), (⟨"ArgumentMender$Tug", "byStrength", "(LArgumentMender$Cloth;[II)V"⟩, 10), (⟨"ArgumentMender$Tug", "passOn", "(LArgumentMender$Cloth;I)V"⟩, 10), (⟨"ArgumentMender$Tug", "tear", "(LArgumentMender$Cloth;[I)Z"⟩, 10), (⟨"ArgumentMender$Years", "addUp", "(LArgumentMender$Cloth;)V"⟩, 12), (⟨"ArgumentMender$Years", "note", "(I)V"⟩, 12), (⟨"ArgumentMender", "firstWithout", "(I)I"⟩, 9), (⟨"ArgumentMender", "together", "(I)I"⟩, 9), (⟨"ArgumentMender", "canTry", "(III)Z"⟩, 9), (⟨"ArgumentMender", "leastWord", "(II)I"⟩, 9), (⟨"ArgumentMender$Web", "reaches", "(LArgumentMender$Cloth;[III)Z"⟩, 2), (⟨"ArgumentMender$Web", "turned", "(LArgumentMender$Cloth;II)I"⟩, 2), (⟨"ArgumentMender", "hangingAtLast", "()I"⟩, 9), (⟨"ArgumentMender", "look", "(II)I"⟩, 9), (⟨"ArgumentMender$Sight", "agrees", "(LArgumentMender$Slot;)Z"⟩, 4)]
theorem lw_r2 : ∀ q ∈ lw_privs_2, lw_okq q := List.forall_mem_cons.mpr ⟨lw_p16, List.forall_mem_cons.mpr ⟨lw_p17, List.forall_mem_cons.mpr ⟨lw_p18, List.forall_mem_cons.mpr ⟨lw_p19, List.forall_mem_cons.mpr ⟨lw_p20, List.forall_mem_cons.mpr ⟨lw_p21, List.forall_mem_cons.mpr ⟨lw_p22, List.forall_mem_cons.mpr ⟨lw_p23, List.forall_mem_cons.mpr ⟨lw_p24, List.forall_mem_cons.mpr ⟨lw_p25, List.forall_mem_cons.mpr ⟨lw_p26, List.forall_mem_cons.mpr ⟨lw_p27, List.forall_mem_cons.mpr ⟨lw_p28, List.forall_mem_cons.mpr ⟨lw_p29, List.forall_mem_cons.mpr ⟨lw_p30, List.forall_mem_cons.mpr ⟨lw_p31, fun _ h => absurd h List.not_mem_nil⟩⟩⟩⟩⟩⟩⟩⟩⟩⟩⟩⟩⟩⟩⟩⟩
theorem lw_p32 : lw_okq (⟨"ArgumentMender", "areTwo", "(II)Z"⟩, 9) := ⟨⟨by decide +kernel, by decide +kernel⟩, List.mem_of_getElem? (i := 22) (by decide +kernel), List.mem_of_getElem? (i := 1079) (by decide +kernel), List.mem_of_getElem? (i := 1080) (by decide +kernel)⟩
theorem lw_p33 : lw_okq (⟨"ArgumentMender", "expected", "(II)J"⟩, 9) := ⟨⟨by decide +kernel, by decide +kernel⟩, List.mem_of_getElem? (i := 22) (by decide +kernel), List.mem_of_getElem? (i := 1096) (by decide +kernel), List.mem_of_getElem? (i := 1097) (by decide +kernel)⟩
theorem lw_p34 : lw_okq (⟨"ArgumentMender", "act", "(IIII)I"⟩, 9) := ⟨⟨by decide +kernel, by decide +kernel⟩, List.mem_of_getElem? (i := 22) (by decide +kernel), List.mem_of_getElem? (i := 1113) (by decide +kernel), List.mem_of_getElem? (i := 1114) (by decide +kernel)⟩
theorem lw_p35 : lw_okq (⟨"ArgumentMender", "drawEvening", "(I)I"⟩, 9) := ⟨⟨by decide +kernel, by decide +kernel⟩, List.mem_of_getElem? (i := 22) (by decide +kernel), List.mem_of_getElem? (i := 1138) (by decide +kernel), List.mem_of_getElem? (i := 1139) (by decide +kernel)⟩
theorem lw_p36 : lw_okq (⟨"ArgumentMender", "rowsThere", "()I"⟩, 9) := ⟨⟨by decide +kernel, by decide +kernel⟩, List.mem_of_getElem? (i := 22) (by decide +kernel), List.mem_of_getElem? (i := 1158) (by decide +kernel), List.mem_of_getElem? (i := 1159) (by decide +kernel)⟩
theorem lw_p37 : lw_okq (⟨"ArgumentMenderModel", "advance", "()V"⟩, 49) := ⟨⟨by decide +kernel, by decide +kernel⟩, List.mem_of_getElem? (i := 1198) (by decide +kernel), List.mem_of_getElem? (i := 1379) (by decide +kernel), List.mem_of_getElem? (i := 1380) (by decide +kernel)⟩
theorem lw_p38 : lw_okq (⟨"ArgumentMenderModel", "see", "(I)I"⟩, 49) := ⟨⟨by decide +kernel, by decide +kernel⟩, List.mem_of_getElem? (i := 1198) (by decide +kernel), List.mem_of_getElem? (i := 1383) (by decide +kernel), List.mem_of_getElem? (i := 1384) (by decide +kernel)⟩
theorem lw_p39 : lw_okq (⟨"ArgumentMenderModel", "good", "()Z"⟩, 49) := ⟨⟨by decide +kernel, by decide +kernel⟩, List.mem_of_getElem? (i := 1198) (by decide +kernel), List.mem_of_getElem? (i := 1393) (by decide +kernel), List.mem_of_getElem? (i := 1394) (by decide +kernel)⟩
theorem lw_p40 : lw_okq (⟨"ArgumentMenderModel", "readLine", "()V"⟩, 49) := ⟨⟨by decide +kernel, by decide +kernel⟩, List.mem_of_getElem? (i := 1198) (by decide +kernel), List.mem_of_getElem? (i := 1397) (by decide +kernel), List.mem_of_getElem? (i := 1398) (by decide +kernel)⟩
theorem lw_p41 : lw_okq (⟨"ArgumentMenderModel", "readFirst", "()V"⟩, 49) := ⟨⟨by decide +kernel, by decide +kernel⟩, List.mem_of_getElem? (i := 1198) (by decide +kernel), List.mem_of_getElem? (i := 1401) (by decide +kernel), List.mem_of_getElem? (i := 1402) (by decide +kernel)⟩
theorem lw_p42 : lw_okq (⟨"ArgumentMenderModel", "expects", "(Ljava/lang/String;)V"⟩, 49) := ⟨⟨by decide +kernel, by decide +kernel⟩, List.mem_of_getElem? (i := 1198) (by decide +kernel), List.mem_of_getElem? (i := 1406) (by decide +kernel), List.mem_of_getElem? (i := 1407) (by decide +kernel)⟩
theorem lw_p43 : lw_okq (⟨"ArgumentMenderModel", "takes", "(Ljava/lang/String;)Z"⟩, 49) := ⟨⟨by decide +kernel, by decide +kernel⟩, List.mem_of_getElem? (i := 1198) (by decide +kernel), List.mem_of_getElem? (i := 1410) (by decide +kernel), List.mem_of_getElem? (i := 1411) (by decide +kernel)⟩
theorem lw_p44 : lw_okq (⟨"ArgumentMenderModel", "is", "(Ljava/lang/String;)Z"⟩, 49) := ⟨⟨by decide +kernel, by decide +kernel⟩, List.mem_of_getElem? (i := 1198) (by decide +kernel), List.mem_of_getElem? (i := 1414) (by decide +kernel), List.mem_of_getElem? (i := 1415) (by decide +kernel)⟩
theorem lw_p45 : lw_okq (⟨"ArgumentMenderModel", "errs", "(I)V"⟩, 49) := ⟨⟨by decide +kernel, by decide +kernel⟩, List.mem_of_getElem? (i := 1198) (by decide +kernel), List.mem_of_getElem? (i := 1420) (by decide +kernel), List.mem_of_getElem? (i := 1421) (by decide +kernel)⟩
theorem lw_p46 : lw_okq (⟨"ArgumentMenderModel", "toldBy", "(Ljava/lang/String;II)I"⟩, 49) := ⟨⟨by decide +kernel, by decide +kernel⟩, List.mem_of_getElem? (i := 1198) (by decide +kernel), List.mem_of_getElem? (i := 1425) (by decide +kernel), List.mem_of_getElem? (i := 1426) (by decide +kernel)⟩
theorem lw_p47 : lw_okq (⟨"ArgumentMenderModel", "number", "(II)I"⟩, 49) := ⟨⟨by decide +kernel, by decide +kernel⟩, List.mem_of_getElem? (i := 1198) (by decide +kernel), List.mem_of_getElem? (i := 1429) (by decide +kernel), List.mem_of_getElem? (i := 1430) (by decide +kernel)⟩
def lw_privs_3 : List (MethodName × Nat) := [(⟨"ArgumentMender", "areTwo", "(II)Z"⟩, 9), (⟨"ArgumentMender", "expected", "(II)J"⟩, 9), (⟨"ArgumentMender", "act", "(IIII)I"⟩, 9), (⟨"ArgumentMender", "drawEvening", "(I)I"⟩, 9), (⟨"ArgumentMender", "rowsThere", "()I"⟩, 9), (⟨"ArgumentMenderModel", "advance", "()V"⟩, 49), (⟨"ArgumentMenderModel", "see", "(I)I"⟩, 49), (⟨"ArgumentMenderModel", "good", "()Z"⟩, 49), (⟨"ArgumentMenderModel", "readLine", "()V"⟩, 49), (⟨"ArgumentMenderModel", "readFirst", "()V"⟩, 49), (⟨"ArgumentMenderModel", "expects", "(Ljava/lang/String;)V"⟩, 49), (⟨"ArgumentMenderModel", "takes", "(Ljava/lang/String;)Z"⟩, 49), (⟨"ArgumentMenderModel", "is", "(Ljava/lang/String;)Z"⟩, 49), (⟨"ArgumentMenderModel", "errs", "(I)V"⟩, 49), (⟨"ArgumentMenderModel", "toldBy", "(Ljava/lang/String;II)I"⟩, 49), (⟨"ArgumentMenderModel", "number", "(II)I"⟩, 49)]
theorem lw_r3 : ∀ q ∈ lw_privs_3, lw_okq q := List.forall_mem_cons.mpr ⟨lw_p32, List.forall_mem_cons.mpr ⟨lw_p33, List.forall_mem_cons.mpr ⟨lw_p34, List.forall_mem_cons.mpr ⟨lw_p35, List.forall_mem_cons.mpr ⟨lw_p36, List.forall_mem_cons.mpr ⟨lw_p37, List.forall_mem_cons.mpr ⟨lw_p38, List.forall_mem_cons.mpr ⟨lw_p39, List.forall_mem_cons.mpr ⟨lw_p40, List.forall_mem_cons.mpr ⟨lw_p41, List.forall_mem_cons.mpr ⟨lw_p42, List.forall_mem_cons.mpr ⟨lw_p43, List.forall_mem_cons.mpr ⟨lw_p44, List.forall_mem_cons.mpr ⟨lw_p45, List.forall_mem_cons.mpr ⟨lw_p46, List.forall_mem_cons.mpr ⟨lw_p47, fun _ h => absurd h List.not_mem_nil⟩⟩⟩⟩⟩⟩⟩⟩⟩⟩⟩⟩⟩⟩⟩⟩
theorem lw_p48 : lw_okq (⟨"ArgumentMenderModel", "readNext", "()V"⟩, 49) := ⟨⟨by decide +kernel, by decide +kernel⟩, List.mem_of_getElem? (i := 1198) (by decide +kernel), List.mem_of_getElem? (i := 1435) (by decide +kernel), List.mem_of_getElem? (i := 1436) (by decide +kernel)⟩
theorem lw_p49 : lw_okq (⟨"ArgumentMenderModel", "isFull", "()Z"⟩, 49) := ⟨⟨by decide +kernel, by decide +kernel⟩, List.mem_of_getElem? (i := 1198) (by decide +kernel), List.mem_of_getElem? (i := 1442) (by decide +kernel), List.mem_of_getElem? (i := 1443) (by decide +kernel)⟩
theorem lw_p50 : lw_okq (⟨"ArgumentMenderModel", "readThread", "()V"⟩, 49) := ⟨⟨by decide +kernel, by decide +kernel⟩, List.mem_of_getElem? (i := 1198) (by decide +kernel), List.mem_of_getElem? (i := 1446) (by decide +kernel), List.mem_of_getElem? (i := 1447) (by decide +kernel)⟩
theorem lw_p51 : lw_okq (⟨"ArgumentMenderModel", "readQuarrel", "()V"⟩, 49) := ⟨⟨by decide +kernel, by decide +kernel⟩, List.mem_of_getElem? (i := 1198) (by decide +kernel), List.mem_of_getElem? (i := 1453) (by decide +kernel), List.mem_of_getElem? (i := 1454) (by decide +kernel)⟩
theorem lw_p52 : lw_okq (⟨"ArgumentMenderModel", "isThread", "(J)Z"⟩, 49) := ⟨⟨by decide +kernel, by decide +kernel⟩, List.mem_of_getElem? (i := 1198) (by decide +kernel), List.mem_of_getElem? (i := 1463) (by decide +kernel), List.mem_of_getElem? (i := 1464) (by decide +kernel)⟩
theorem lw_p53 : lw_okq (⟨"ArgumentMenderModel", "threadMany", "()I"⟩, 49) := ⟨⟨by decide +kernel, by decide +kernel⟩, List.mem_of_getElem? (i := 1198) (by decide +kernel), List.mem_of_getElem? (i := 1467) (by decide +kernel), List.mem_of_getElem? (i := 1468) (by decide +kernel)⟩
theorem lw_p54 : lw_okq (⟨"ArgumentMenderModel", "isQuarrel", "(I)Z"⟩, 49) := ⟨⟨by decide +kernel, by decide +kernel⟩, List.mem_of_getElem? (i := 1198) (by decide +kernel), List.mem_of_getElem? (i := 1475) (by decide +kernel), List.mem_of_getElem? (i := 1476) (by decide +kernel)⟩
theorem lw_p55 : lw_okq (⟨"ArgumentMenderModel", "quarrelMany", "()I"⟩, 49) := ⟨⟨by decide +kernel, by decide +kernel⟩, List.mem_of_getElem? (i := 1198) (by decide +kernel), List.mem_of_getElem? (i := 1479) (by decide +kernel), List.mem_of_getElem? (i := 1480) (by decide +kernel)⟩
theorem lw_p56 : lw_okq (⟨"ArgumentMenderModel", "quarrelOf", "(II)I"⟩, 49) := ⟨⟨by decide +kernel, by decide +kernel⟩, List.mem_of_getElem? (i := 1198) (by decide +kernel), List.mem_of_getElem? (i := 1483) (by decide +kernel), List.mem_of_getElem? (i := 1484) (by decide +kernel)⟩
theorem lw_p57 : lw_okq (⟨"ArgumentMenderModel", "isClaim", "(I)Z"⟩, 49) := ⟨⟨by decide +kernel, by decide +kernel⟩, List.mem_of_getElem? (i := 1198) (by decide +kernel), List.mem_of_getElem? (i := 1491) (by decide +kernel), List.mem_of_getElem? (i := 1492) (by decide +kernel)⟩
theorem lw_p58 : lw_okq (⟨"ArgumentMenderModel", "claims", "()I"⟩, 49) := ⟨⟨by decide +kernel, by decide +kernel⟩, List.mem_of_getElem? (i := 1198) (by decide +kernel), List.mem_of_getElem? (i := 1495) (by decide +kernel), List.mem_of_getElem? (i := 1496) (by decide +kernel)⟩
theorem lw_p59 : lw_okq (⟨"ArgumentMenderModel", "threadsOf", "(I)I"⟩, 49) := ⟨⟨by decide +kernel, by decide +kernel⟩, List.mem_of_getElem? (i := 1198) (by decide +kernel), List.mem_of_getElem? (i := 1499) (by decide +kernel), List.mem_of_getElem? (i := 1500) (by decide +kernel)⟩
theorem lw_p60 : lw_okq (⟨"ArgumentMenderModel", "fromOf", "(I)I"⟩, 49) := ⟨⟨by decide +kernel, by decide +kernel⟩, List.mem_of_getElem? (i := 1198) (by decide +kernel), List.mem_of_getElem? (i := 1503) (by decide +kernel), List.mem_of_getElem? (i := 1504) (by decide +kernel)⟩
theorem lw_p61 : lw_okq (⟨"ArgumentMenderModel", "asksYear", "(I)Z"⟩, 49) := ⟨⟨by decide +kernel, by decide +kernel⟩, List.mem_of_getElem? (i := 1198) (by decide +kernel), List.mem_of_getElem? (i := 1511) (by decide +kernel), List.mem_of_getElem? (i := 1512) (by decide +kernel)⟩
theorem lw_p62 : lw_okq (⟨"ArgumentMenderModel", "asksCloth", "()Z"⟩, 49) := ⟨⟨by decide +kernel, by decide +kernel⟩, List.mem_of_getElem? (i := 1198) (by decide +kernel), List.mem_of_getElem? (i := 1515) (by decide +kernel), List.mem_of_getElem? (i := 1516) (by decide +kernel)⟩
theorem lw_p63 : lw_okq (⟨"ArgumentMenderModel", "asItIs", "()V"⟩, 49) := ⟨⟨by decide +kernel, by decide +kernel⟩, List.mem_of_getElem? (i := 1198) (by decide +kernel), List.mem_of_getElem? (i := 1519) (by decide +kernel), List.mem_of_getElem? (i := 1520) (by decide +kernel)⟩
def lw_privs_4 : List (MethodName × Nat) := [(⟨"ArgumentMenderModel", "readNext", "()V"⟩, 49), (⟨"ArgumentMenderModel", "isFull", "()Z"⟩, 49), (⟨"ArgumentMenderModel", "readThread", "()V"⟩, 49), (⟨"ArgumentMenderModel", "readQuarrel", "()V"⟩, 49), (⟨"ArgumentMenderModel", "isThread", "(J)Z"⟩, 49), (⟨"ArgumentMenderModel", "threadMany", "()I"⟩, 49), (⟨"ArgumentMenderModel", "isQuarrel", "(I)Z"⟩, 49), (⟨"ArgumentMenderModel", "quarrelMany", "()I"⟩, 49), (⟨"ArgumentMenderModel", "quarrelOf", "(II)I"⟩, 49), (⟨"ArgumentMenderModel", "isClaim", "(I)Z"⟩, 49), (⟨"ArgumentMenderModel", "claims", "()I"⟩, 49), (⟨"ArgumentMenderModel", "threadsOf", "(I)I"⟩, 49), (⟨"ArgumentMenderModel", "fromOf", "(I)I"⟩, 49), (⟨"ArgumentMenderModel", "asksYear", "(I)Z"⟩, 49), (⟨"ArgumentMenderModel", "asksCloth", "()Z"⟩, 49), (⟨"ArgumentMenderModel", "asItIs", "()V"⟩, 49)]
theorem lw_r4 : ∀ q ∈ lw_privs_4, lw_okq q := List.forall_mem_cons.mpr ⟨lw_p48, List.forall_mem_cons.mpr ⟨lw_p49, List.forall_mem_cons.mpr ⟨lw_p50, List.forall_mem_cons.mpr ⟨lw_p51, List.forall_mem_cons.mpr ⟨lw_p52, List.forall_mem_cons.mpr ⟨lw_p53, List.forall_mem_cons.mpr ⟨lw_p54, List.forall_mem_cons.mpr ⟨lw_p55, List.forall_mem_cons.mpr ⟨lw_p56, List.forall_mem_cons.mpr ⟨lw_p57, List.forall_mem_cons.mpr ⟨lw_p58, List.forall_mem_cons.mpr ⟨lw_p59, List.forall_mem_cons.mpr ⟨lw_p60, List.forall_mem_cons.mpr ⟨lw_p61, List.forall_mem_cons.mpr ⟨lw_p62, List.forall_mem_cons.mpr ⟨lw_p63, fun _ h => absurd h List.not_mem_nil⟩⟩⟩⟩⟩⟩⟩⟩⟩⟩⟩⟩⟩⟩⟩⟩
theorem lw_p64 : lw_okq (⟨"ArgumentMenderModel", "goAll", "()V"⟩, 49) := ⟨⟨by decide +kernel, by decide +kernel⟩, List.mem_of_getElem? (i := 1198) (by decide +kernel), List.mem_of_getElem? (i := 1524) (by decide +kernel), List.mem_of_getElem? (i := 1525) (by decide +kernel)⟩
theorem lw_p65 : lw_okq (⟨"ArgumentMenderModel", "years", "()I"⟩, 49) := ⟨⟨by decide +kernel, by decide +kernel⟩, List.mem_of_getElem? (i := 1198) (by decide +kernel), List.mem_of_getElem? (i := 1531) (by decide +kernel), List.mem_of_getElem? (i := 1532) (by decide +kernel)⟩
theorem lw_p66 : lw_okq (⟨"ArgumentMenderModel", "goYear", "(I)V"⟩, 49) := ⟨⟨by decide +kernel, by decide +kernel⟩, List.mem_of_getElem? (i := 1198) (by decide +kernel), List.mem_of_getElem? (i := 1535) (by decide +kernel), List.mem_of_getElem? (i := 1536) (by decide +kernel)⟩
theorem lw_p67 : lw_okq (⟨"ArgumentMenderModel", "sewAll", "(I)V"⟩, 49) := ⟨⟨by decide +kernel, by decide +kernel⟩, List.mem_of_getElem? (i := 1198) (by decide +kernel), List.mem_of_getElem? (i := 1539) (by decide +kernel), List.mem_of_getElem? (i := 1540) (by decide +kernel)⟩
theorem lw_p68 : lw_okq (⟨"ArgumentMenderModel", "quarrelNow", "(II)V"⟩, 49) := ⟨⟨by decide +kernel, by decide +kernel⟩, List.mem_of_getElem? (i := 1198) (by decide +kernel), List.mem_of_getElem? (i := 1544) (by decide +kernel), List.mem_of_getElem? (i := 1545) (by decide +kernel)⟩
theorem lw_p69 : lw_okq (⟨"ArgumentMenderModel", "pullOnce", "(II)V"⟩, 49) := ⟨⟨by decide +kernel, by decide +kernel⟩, List.mem_of_getElem? (i := 1198) (by decide +kernel), List.mem_of_getElem? (i := 1548) (by decide +kernel), List.mem_of_getElem? (i := 1549) (by decide +kernel)⟩
theorem lw_p70 : lw_okq (⟨"ArgumentMenderModel", "shareOut", "(I)V"⟩, 49) := ⟨⟨by decide +kernel, by decide +kernel⟩, List.mem_of_getElem? (i := 1198) (by decide +kernel), List.mem_of_getElem? (i := 1552) (by decide +kernel), List.mem_of_getElem? (i := 1553) (by decide +kernel)⟩
theorem lw_p71 : lw_okq (⟨"ArgumentMenderModel", "isWhole", "(II)Z"⟩, 49) := ⟨⟨by decide +kernel, by decide +kernel⟩, List.mem_of_getElem? (i := 1198) (by decide +kernel), List.mem_of_getElem? (i := 1556) (by decide +kernel), List.mem_of_getElem? (i := 1557) (by decide +kernel)⟩
theorem lw_p72 : lw_okq (⟨"ArgumentMenderModel", "strongestOf", "(II)I"⟩, 49) := ⟨⟨by decide +kernel, by decide +kernel⟩, List.mem_of_getElem? (i := 1198) (by decide +kernel), List.mem_of_getElem? (i := 1560) (by decide +kernel), List.mem_of_getElem? (i := 1561) (by decide +kernel)⟩
theorem lw_p73 : lw_okq (⟨"ArgumentMenderModel", "shareEqually", "(III)V"⟩, 49) := ⟨⟨by decide +kernel, by decide +kernel⟩, List.mem_of_getElem? (i := 1198) (by decide +kernel), List.mem_of_getElem? (i := 1564) (by decide +kernel), List.mem_of_getElem? (i := 1565) (by decide +kernel)⟩
theorem lw_p74 : lw_okq (⟨"ArgumentMenderModel", "shareByStrength", "(III)V"⟩, 49) := ⟨⟨by decide +kernel, by decide +kernel⟩, List.mem_of_getElem? (i := 1198) (by decide +kernel), List.mem_of_getElem? (i := 1568) (by decide +kernel), List.mem_of_getElem? (i := 1569) (by decide +kernel)⟩
theorem lw_p75 : lw_okq (⟨"ArgumentMenderModel", "shareByHalves", "(III)V"⟩, 49) := ⟨⟨by decide +kernel, by decide +kernel⟩, List.mem_of_getElem? (i := 1198) (by decide +kernel), List.mem_of_getElem? (i := 1572) (by decide +kernel), List.mem_of_getElem? (i := 1573) (by decide +kernel)⟩
theorem lw_p76 : lw_okq (⟨"ArgumentMenderModel", "toOf", "(I)I"⟩, 49) := ⟨⟨by decide +kernel, by decide +kernel⟩, List.mem_of_getElem? (i := 1198) (by decide +kernel), List.mem_of_getElem? (i := 1576) (by decide +kernel), List.mem_of_getElem? (i := 1577) (by decide +kernel)⟩
theorem lw_p77 : lw_okq (⟨"ArgumentMenderModel", "tearNow", "()I"⟩, 49) := ⟨⟨by decide +kernel, by decide +kernel⟩, List.mem_of_getElem? (i := 1198) (by decide +kernel), List.mem_of_getElem? (i := 1580) (by decide +kernel), List.mem_of_getElem? (i := 1581) (by decide +kernel)⟩
theorem lw_p78 : lw_okq (⟨"ArgumentMenderModel", "keepQuarrel", "(I)V"⟩, 49) := ⟨⟨by decide +kernel, by decide +kernel⟩, List.mem_of_getElem? (i := 1198) (by decide +kernel), List.mem_of_getElem? (i := 1584) (by decide +kernel), List.mem_of_getElem? (i := 1585) (by decide +kernel)⟩
theorem lw_p79 : lw_okq (⟨"ArgumentMenderModel", "isCloth", "()Z"⟩, 49) := ⟨⟨by decide +kernel, by decide +kernel⟩, List.mem_of_getElem? (i := 1198) (by decide +kernel), List.mem_of_getElem? (i := 1588) (by decide +kernel), List.mem_of_getElem? (i := 1589) (by decide +kernel)⟩
def lw_privs_5 : List (MethodName × Nat) := [(⟨"ArgumentMenderModel", "goAll", "()V"⟩, 49), (⟨"ArgumentMenderModel", "years", "()I"⟩, 49), (⟨"ArgumentMenderModel", "goYear", "(I)V"⟩, 49), (⟨"ArgumentMenderModel", "sewAll", "(I)V"⟩, 49), (⟨"ArgumentMenderModel", "quarrelNow", "(II)V"⟩, 49), (⟨"ArgumentMenderModel", "pullOnce", "(II)V"⟩, 49), (⟨"ArgumentMenderModel", "shareOut", "(I)V"⟩, 49), (⟨"ArgumentMenderModel", "isWhole", "(II)Z"⟩, 49), (⟨"ArgumentMenderModel", "strongestOf", "(II)I"⟩, 49), (⟨"ArgumentMenderModel", "shareEqually", "(III)V"⟩, 49), (⟨"ArgumentMenderModel", "shareByStrength", "(III)V"⟩, 49), (⟨"ArgumentMenderModel", "shareByHalves", "(III)V"⟩, 49), (⟨"ArgumentMenderModel", "toOf", "(I)I"⟩, 49), (⟨"ArgumentMenderModel", "tearNow", "()I"⟩, 49), (⟨"ArgumentMenderModel", "keepQuarrel", "(I)V"⟩, 49), (⟨"ArgumentMenderModel", "isCloth", "()Z"⟩, 49)]
theorem lw_r5 : ∀ q ∈ lw_privs_5, lw_okq q := List.forall_mem_cons.mpr ⟨lw_p64, List.forall_mem_cons.mpr ⟨lw_p65, List.forall_mem_cons.mpr ⟨lw_p66, List.forall_mem_cons.mpr ⟨lw_p67, List.forall_mem_cons.mpr ⟨lw_p68, List.forall_mem_cons.mpr ⟨lw_p69, List.forall_mem_cons.mpr ⟨lw_p70, List.forall_mem_cons.mpr ⟨lw_p71, List.forall_mem_cons.mpr ⟨lw_p72, List.forall_mem_cons.mpr ⟨lw_p73, List.forall_mem_cons.mpr ⟨lw_p74, List.forall_mem_cons.mpr ⟨lw_p75, List.forall_mem_cons.mpr ⟨lw_p76, List.forall_mem_cons.mpr ⟨lw_p77, List.forall_mem_cons.mpr ⟨lw_p78, List.forall_mem_cons.mpr ⟨lw_p79, fun _ h => absurd h List.not_mem_nil⟩⟩⟩⟩⟩⟩⟩⟩⟩⟩⟩⟩⟩⟩⟩⟩
theorem lw_p80 : lw_okq (⟨"ArgumentMenderModel", "isYear", "(J)Z"⟩, 49) := ⟨⟨by decide +kernel, by decide +kernel⟩, List.mem_of_getElem? (i := 1198) (by decide +kernel), List.mem_of_getElem? (i := 1592) (by decide +kernel), List.mem_of_getElem? (i := 1593) (by decide +kernel)⟩
theorem lw_p81 : lw_okq (⟨"ArgumentMenderModel", "strengthOf", "(II)I"⟩, 49) := ⟨⟨by decide +kernel, by decide +kernel⟩, List.mem_of_getElem? (i := 1198) (by decide +kernel), List.mem_of_getElem? (i := 1596) (by decide +kernel), List.mem_of_getElem? (i := 1597) (by decide +kernel)⟩
theorem lw_p82 : lw_okq (⟨"ArgumentMenderModel", "tornIn", "(I)I"⟩, 49) := ⟨⟨by decide +kernel, by decide +kernel⟩, List.mem_of_getElem? (i := 1198) (by decide +kernel), List.mem_of_getElem? (i := 1604) (by decide +kernel), List.mem_of_getElem? (i := 1605) (by decide +kernel)⟩
theorem lw_p83 : lw_okq (⟨"ArgumentMenderModel", "holesIn", "(I)I"⟩, 49) := ⟨⟨by decide +kernel, by decide +kernel⟩, List.mem_of_getElem? (i := 1198) (by decide +kernel), List.mem_of_getElem? (i := 1616) (by decide +kernel), List.mem_of_getElem? (i := 1617) (by decide +kernel)⟩
theorem lw_p84 : lw_okq (⟨"ArgumentMenderModel", "wholeIn", "(I)I"⟩, 49) := ⟨⟨by decide +kernel, by decide +kernel⟩, List.mem_of_getElem? (i := 1198) (by decide +kernel), List.mem_of_getElem? (i := 1620) (by decide +kernel), List.mem_of_getElem? (i := 1621) (by decide +kernel)⟩
theorem lw_p85 : lw_okq (⟨"ArgumentMenderModel", "hungIn", "(I)I"⟩, 49) := ⟨⟨by decide +kernel, by decide +kernel⟩, List.mem_of_getElem? (i := 1198) (by decide +kernel), List.mem_of_getElem? (i := 1632) (by decide +kernel), List.mem_of_getElem? (i := 1633) (by decide +kernel)⟩
theorem lw_p86 : lw_okq (⟨"ArgumentMenderModel", "hungBy", "(I)I"⟩, 49) := ⟨⟨by decide +kernel, by decide +kernel⟩, List.mem_of_getElem? (i := 1198) (by decide +kernel), List.mem_of_getElem? (i := 1636) (by decide +kernel), List.mem_of_getElem? (i := 1637) (by decide +kernel)⟩
theorem lw_p87 : lw_okq (⟨"ArgumentMenderModel", "allClaims", "()I"⟩, 49) := ⟨⟨by decide +kernel, by decide +kernel⟩, List.mem_of_getElem? (i := 1198) (by decide +kernel), List.mem_of_getElem? (i := 1648) (by decide +kernel), List.mem_of_getElem? (i := 1649) (by decide +kernel)⟩
theorem lw_p88 : lw_okq (⟨"ArgumentMenderModel", "sumIn", "(I)I"⟩, 49) := ⟨⟨by decide +kernel, by decide +kernel⟩, List.mem_of_getElem? (i := 1198) (by decide +kernel), List.mem_of_getElem? (i := 1656) (by decide +kernel), List.mem_of_getElem? (i := 1657) (by decide +kernel)⟩
theorem lw_p89 : lw_okq (⟨"ArgumentMenderModel", "isAhead", "(J)Z"⟩, 49) := ⟨⟨by decide +kernel, by decide +kernel⟩, List.mem_of_getElem? (i := 1198) (by decide +kernel), List.mem_of_getElem? (i := 1664) (by decide +kernel), List.mem_of_getElem? (i := 1665) (by decide +kernel)⟩
theorem lw_p90 : lw_okq (⟨"ArgumentMenderModel", "asksQuarrel", "(I)Z"⟩, 49) := ⟨⟨by decide +kernel, by decide +kernel⟩, List.mem_of_getElem? (i := 1198) (by decide +kernel), List.mem_of_getElem? (i := 1696) (by decide +kernel), List.mem_of_getElem? (i := 1697) (by decide +kernel)⟩
theorem lw_p91 : lw_okq (⟨"ArgumentMenderModel", "comes", "(I)Z"⟩, 49) := ⟨⟨by decide +kernel, by decide +kernel⟩, List.mem_of_getElem? (i := 1198) (by decide +kernel), List.mem_of_getElem? (i := 1700) (by decide +kernel), List.mem_of_getElem? (i := 1701) (by decide +kernel)⟩
theorem lw_p92 : lw_okq (⟨"ArgumentMenderModel", "asksTry", "(III)Z"⟩, 49) := ⟨⟨by decide +kernel, by decide +kernel⟩, List.mem_of_getElem? (i := 1198) (by decide +kernel), List.mem_of_getElem? (i := 1744) (by decide +kernel), List.mem_of_getElem? (i := 1745) (by decide +kernel)⟩
theorem lw_p93 : lw_okq (⟨"ArgumentMenderModel", "tryOn", "(III)V"⟩, 49) := ⟨⟨by decide +kernel, by decide +kernel⟩, List.mem_of_getElem? (i := 1198) (by decide +kernel), List.mem_of_getElem? (i := 1749) (by decide +kernel), List.mem_of_getElem? (i := 1750) (by decide +kernel)⟩
theorem lw_p94 : lw_okq (⟨"ArgumentMenderModel", "gateOf", "(IIZ)I"⟩, 49) := ⟨⟨by decide +kernel, by decide +kernel⟩, List.mem_of_getElem? (i := 1198) (by decide +kernel), List.mem_of_getElem? (i := 1765) (by decide +kernel), List.mem_of_getElem? (i := 1766) (by decide +kernel)⟩
theorem lw_p95 : lw_okq (⟨"ArgumentMenderModel", "wordOf", "(II)I"⟩, 49) := ⟨⟨by decide +kernel, by decide +kernel⟩, List.mem_of_getElem? (i := 1198) (by decide +kernel), List.mem_of_getElem? (i := 1784) (by decide +kernel), List.mem_of_getElem? (i := 1785) (by decide +kernel)⟩
def lw_privs_6 : List (MethodName × Nat) := [(⟨"ArgumentMenderModel", "isYear", "(J)Z"⟩, 49), (⟨"ArgumentMenderModel", "strengthOf", "(II)I"⟩, 49), (⟨"ArgumentMenderModel", "tornIn", "(I)I"⟩, 49), (⟨"ArgumentMenderModel", "holesIn", "(I)I"⟩, 49), (⟨"ArgumentMenderModel", "wholeIn", "(I)I"⟩, 49), (⟨"ArgumentMenderModel", "hungIn", "(I)I"⟩, 49), (⟨"ArgumentMenderModel", "hungBy", "(I)I"⟩, 49), (⟨"ArgumentMenderModel", "allClaims", "()I"⟩, 49), (⟨"ArgumentMenderModel", "sumIn", "(I)I"⟩, 49), (⟨"ArgumentMenderModel", "isAhead", "(J)Z"⟩, 49), (⟨"ArgumentMenderModel", "asksQuarrel", "(I)Z"⟩, 49), (⟨"ArgumentMenderModel", "comes", "(I)Z"⟩, 49), (⟨"ArgumentMenderModel", "asksTry", "(III)Z"⟩, 49), (⟨"ArgumentMenderModel", "tryOn", "(III)V"⟩, 49), (⟨"ArgumentMenderModel", "gateOf", "(IIZ)I"⟩, 49), (⟨"ArgumentMenderModel", "wordOf", "(II)I"⟩, 49)]
theorem lw_r6 : ∀ q ∈ lw_privs_6, lw_okq q := List.forall_mem_cons.mpr ⟨lw_p80, List.forall_mem_cons.mpr ⟨lw_p81, List.forall_mem_cons.mpr ⟨lw_p82, List.forall_mem_cons.mpr ⟨lw_p83, List.forall_mem_cons.mpr ⟨lw_p84, List.forall_mem_cons.mpr ⟨lw_p85, List.forall_mem_cons.mpr ⟨lw_p86, List.forall_mem_cons.mpr ⟨lw_p87, List.forall_mem_cons.mpr ⟨lw_p88, List.forall_mem_cons.mpr ⟨lw_p89, List.forall_mem_cons.mpr ⟨lw_p90, List.forall_mem_cons.mpr ⟨lw_p91, List.forall_mem_cons.mpr ⟨lw_p92, List.forall_mem_cons.mpr ⟨lw_p93, List.forall_mem_cons.mpr ⟨lw_p94, List.forall_mem_cons.mpr ⟨lw_p95, fun _ h => absurd h List.not_mem_nil⟩⟩⟩⟩⟩⟩⟩⟩⟩⟩⟩⟩⟩⟩⟩⟩
theorem lw_p96 : lw_okq (⟨"ArgumentMenderModel", "hungLast", "()I"⟩, 49) := ⟨⟨by decide +kernel, by decide +kernel⟩, List.mem_of_getElem? (i := 1198) (by decide +kernel), List.mem_of_getElem? (i := 1788) (by decide +kernel), List.mem_of_getElem? (i := 1789) (by decide +kernel)⟩
theorem lw_p97 : lw_okq (⟨"ArgumentMenderModel", "findWay", "(II)Z"⟩, 49) := ⟨⟨by decide +kernel, by decide +kernel⟩, List.mem_of_getElem? (i := 1198) (by decide +kernel), List.mem_of_getElem? (i := 1804) (by decide +kernel), List.mem_of_getElem? (i := 1805) (by decide +kernel)⟩
theorem lw_p98 : lw_okq (⟨"ArgumentMenderModel", "hungWithout", "(I)I"⟩, 49) := ⟨⟨by decide +kernel, by decide +kernel⟩, List.mem_of_getElem? (i := 1198) (by decide +kernel), List.mem_of_getElem? (i := 1820) (by decide +kernel), List.mem_of_getElem? (i := 1821) (by decide +kernel)⟩
theorem lw_p99 : lw_okq (⟨"ArgumentMenderModel", "layFits", "(II)I"⟩, 49) := ⟨⟨by decide +kernel, by decide +kernel⟩, List.mem_of_getElem? (i := 1198) (by decide +kernel), List.mem_of_getElem? (i := 1832) (by decide +kernel), List.mem_of_getElem? (i := 1833) (by decide +kernel)⟩
theorem lw_p100 : lw_okq (⟨"ArgumentMenderModel", "askSeen", "(I)I"⟩, 49) := ⟨⟨by decide +kernel, by decide +kernel⟩, List.mem_of_getElem? (i := 1198) (by decide +kernel), List.mem_of_getElem? (i := 1836) (by decide +kernel), List.mem_of_getElem? (i := 1837) (by decide +kernel)⟩
theorem lw_p101 : lw_okq (⟨"ArgumentMenderModel", "numberAt", "(II)J"⟩, 49) := ⟨⟨by decide +kernel, by decide +kernel⟩, List.mem_of_getElem? (i := 1198) (by decide +kernel), List.mem_of_getElem? (i := 1844) (by decide +kernel), List.mem_of_getElem? (i := 1845) (by decide +kernel)⟩
theorem lw_p102 : lw_okq (⟨"ArgumentMenderModel", "isSeen", "(I)Z"⟩, 49) := ⟨⟨by decide +kernel, by decide +kernel⟩, List.mem_of_getElem? (i := 1198) (by decide +kernel), List.mem_of_getElem? (i := 1849) (by decide +kernel), List.mem_of_getElem? (i := 1850) (by decide +kernel)⟩
theorem lw_p103 : lw_okq (⟨"ArgumentMenderModel", "askOf", "()I"⟩, 49) := ⟨⟨by decide +kernel, by decide +kernel⟩, List.mem_of_getElem? (i := 1198) (by decide +kernel), List.mem_of_getElem? (i := 1865) (by decide +kernel), List.mem_of_getElem? (i := 1866) (by decide +kernel)⟩
theorem lw_p104 : lw_okq (⟨"ArgumentMenderModel", "worstIn", "(I)I"⟩, 49) := ⟨⟨by decide +kernel, by decide +kernel⟩, List.mem_of_getElem? (i := 1198) (by decide +kernel), List.mem_of_getElem? (i := 1869) (by decide +kernel), List.mem_of_getElem? (i := 1870) (by decide +kernel)⟩
theorem lw_p105 : lw_okq (⟨"ArgumentMenderModel", "hungByLaw", "(I)I"⟩, 49) := ⟨⟨by decide +kernel, by decide +kernel⟩, List.mem_of_getElem? (i := 1198) (by decide +kernel), List.mem_of_getElem? (i := 1888) (by decide +kernel), List.mem_of_getElem? (i := 1889) (by decide +kernel)⟩
theorem lw_p106 : lw_okq (⟨"ArgumentMenderModel", "worthOf", "(I)I"⟩, 49) := ⟨⟨by decide +kernel, by decide +kernel⟩, List.mem_of_getElem? (i := 1198) (by decide +kernel), List.mem_of_getElem? (i := 1900) (by decide +kernel), List.mem_of_getElem? (i := 1901) (by decide +kernel)⟩
theorem lw_p107 : lw_okq (⟨"ArgumentMenderModel", "areTwo", "(II)Z"⟩, 49) := ⟨⟨by decide +kernel, by decide +kernel⟩, List.mem_of_getElem? (i := 1198) (by decide +kernel), List.mem_of_getElem? (i := 1923) (by decide +kernel), List.mem_of_getElem? (i := 1924) (by decide +kernel)⟩
theorem lw_p108 : lw_okq (⟨"ArgumentMenderModel", "getsBy", "(IIIII)I"⟩, 49) := ⟨⟨by decide +kernel, by decide +kernel⟩, List.mem_of_getElem? (i := 1198) (by decide +kernel), List.mem_of_getElem? (i := 1927) (by decide +kernel), List.mem_of_getElem? (i := 1928) (by decide +kernel)⟩
theorem lw_p109 : lw_okq (⟨"ArgumentMenderModel", "layChance", "(I)V"⟩, 49) := ⟨⟨by decide +kernel, by decide +kernel⟩, List.mem_of_getElem? (i := 1198) (by decide +kernel), List.mem_of_getElem? (i := 1941) (by decide +kernel), List.mem_of_getElem? (i := 1942) (by decide +kernel)⟩
theorem lw_p110 : lw_okq (⟨"ArgumentMenderModel", "keepAct", "(I)I"⟩, 49) := ⟨⟨by decide +kernel, by decide +kernel⟩, List.mem_of_getElem? (i := 1198) (by decide +kernel), List.mem_of_getElem? (i := 1954) (by decide +kernel), List.mem_of_getElem? (i := 1955) (by decide +kernel)⟩
theorem lw_p111 : lw_okq (⟨"ArgumentMenderModel", "goDrawn", "(J)V"⟩, 49) := ⟨⟨by decide +kernel, by decide +kernel⟩, List.mem_of_getElem? (i := 1198) (by decide +kernel), List.mem_of_getElem? (i := 1979) (by decide +kernel), List.mem_of_getElem? (i := 1980) (by decide +kernel)⟩
def lw_privs_7 : List (MethodName × Nat) := [(⟨"ArgumentMenderModel", "hungLast", "()I"⟩, 49), (⟨"ArgumentMenderModel", "findWay", "(II)Z"⟩, 49), (⟨"ArgumentMenderModel", "hungWithout", "(I)I"⟩, 49), (⟨"ArgumentMenderModel", "layFits", "(II)I"⟩, 49), (⟨"ArgumentMenderModel", "askSeen", "(I)I"⟩, 49), (⟨"ArgumentMenderModel", "numberAt", "(II)J"⟩, 49), (⟨"ArgumentMenderModel", "isSeen", "(I)Z"⟩, 49), (⟨"ArgumentMenderModel", "askOf", "()I"⟩, 49), (⟨"ArgumentMenderModel", "worstIn", "(I)I"⟩, 49), (⟨"ArgumentMenderModel", "hungByLaw", "(I)I"⟩, 49), (⟨"ArgumentMenderModel", "worthOf", "(I)I"⟩, 49), (⟨"ArgumentMenderModel", "areTwo", "(II)Z"⟩, 49), (⟨"ArgumentMenderModel", "getsBy", "(IIIII)I"⟩, 49), (⟨"ArgumentMenderModel", "layChance", "(I)V"⟩, 49), (⟨"ArgumentMenderModel", "keepAct", "(I)I"⟩, 49), (⟨"ArgumentMenderModel", "goDrawn", "(J)V"⟩, 49)]
theorem lw_r7 : ∀ q ∈ lw_privs_7, lw_okq q := List.forall_mem_cons.mpr ⟨lw_p96, List.forall_mem_cons.mpr ⟨lw_p97, List.forall_mem_cons.mpr ⟨lw_p98, List.forall_mem_cons.mpr ⟨lw_p99, List.forall_mem_cons.mpr ⟨lw_p100, List.forall_mem_cons.mpr ⟨lw_p101, List.forall_mem_cons.mpr ⟨lw_p102, List.forall_mem_cons.mpr ⟨lw_p103, List.forall_mem_cons.mpr ⟨lw_p104, List.forall_mem_cons.mpr ⟨lw_p105, List.forall_mem_cons.mpr ⟨lw_p106, List.forall_mem_cons.mpr ⟨lw_p107, List.forall_mem_cons.mpr ⟨lw_p108, List.forall_mem_cons.mpr ⟨lw_p109, List.forall_mem_cons.mpr ⟨lw_p110, List.forall_mem_cons.mpr ⟨lw_p111, fun _ h => absurd h List.not_mem_nil⟩⟩⟩⟩⟩⟩⟩⟩⟩⟩⟩⟩⟩⟩⟩⟩
def lw_privs : List (MethodName × Nat) := lw_privs_1 ++ (lw_privs_2 ++ (lw_privs_3 ++ (lw_privs_4 ++ (lw_privs_5 ++ (lw_privs_6 ++ (lw_privs_7))))))
def lw_tbl : List Cond := k2_sels lw_privs ++ tables_1
theorem lw_privs_ok : ∀ q ∈ lw_privs, lw_okq q := by
  show ∀ q ∈ lw_privs_1 ++ (lw_privs_2 ++ (lw_privs_3 ++ (lw_privs_4 ++ (lw_privs_5 ++ (lw_privs_6 ++ (lw_privs_7)))))), lw_okq q
  exact List.forall_mem_append.mpr ⟨lw_r1, List.forall_mem_append.mpr ⟨lw_r2, List.forall_mem_append.mpr ⟨lw_r3, List.forall_mem_append.mpr ⟨lw_r4, List.forall_mem_append.mpr ⟨lw_r5, List.forall_mem_append.mpr ⟨lw_r6, lw_r7⟩⟩⟩⟩⟩⟩
def RX0 : String := "ArgumentMender$Acts"
def TX0 : u_T := fun k => match k with
  | 0 => ("ArgumentMender$Acts", "size", "I", false)
  | 1 => ("ArgumentMender$Acts", "kind", "[I", true)
  | 2 => ("ArgumentMender$Acts", "at", "[I", true)
  | 3 => ("ArgumentMender$Acts", "amount", "[I", true)
  | _ => ("ArgumentMender$Acts", "when", "[I", true)
def tyX0 : Nat → FieldType := fun k => match k with
  | 0 => .int
  | 1 => .array .int
  | 2 => .array .int
  | 3 => .array .int
  | _ => .array .int
abbrev wsX00 : List Cond := u_ws RX0 TX0 5
theorem nmX0 : ∀ a, a < 5 → ∀ b, b < 5 → a ≠ b → (TX0 a).2.1 ≠ (TX0 b).2.1 := by decide +kernel
theorem tyX0_ok : ∀ k, k < 5 → parseFieldDescriptor (TX0 k).2.2.1 = some (tyX0 k) := by decide +kernel
abbrev cX0_init : ByteArray := prog_2_method_1_code
def yX0_init : MethodName := ⟨RX0, "<init>", "()V"⟩
abbrev cX0_append : ByteArray := prog_2_method_2_code
def yX0_append : MethodName := ⟨RX0, "append", "(IIII)Z"⟩
abbrev cX0_copyFrom : ByteArray := prog_2_method_3_code
def yX0_copyFrom : MethodName := ⟨RX0, "copyFrom", "(LArgumentMender$Acts;)V"⟩
def RX1 : String := "ArgumentMender$Cloth"
def TX1 : u_T := fun k => match k with
  | 0 => ("ArgumentMender$Cloth", "lines", "I", false)
  | 1 => ("ArgumentMender$Cloth", "years", "I", false)
  | 2 => ("ArgumentMender$Cloth", "law", "I", false)
  | 3 => ("ArgumentMender$Cloth", "odds", "I", false)
  | 4 => ("ArgumentMender$Cloth", "claims", "I", false)
  | 5 => ("ArgumentMender$Cloth", "threads", "I", false)
  | 6 => ("ArgumentMender$Cloth", "quarrels", "I", false)
  | 7 => ("ArgumentMender$Cloth", "from", "[I", true)
  | 8 => ("ArgumentMender$Cloth", "to", "[I", true)
  | 9 => ("ArgumentMender$Cloth", "holds", "[I", true)
  | 10 => ("ArgumentMender$Cloth", "target", "[I", true)
  | 11 => ("ArgumentMender$Cloth", "pull", "[I", true)
  | 12 => ("ArgumentMender$Cloth", "when", "[I", true)
  | 13 => ("ArgumentMender$Cloth", "sorted", "[I", true)
  | 14 => ("ArgumentMender$Cloth", "begins", "[I", true)
  | _ => ("ArgumentMender$Cloth", "acts", "LArgumentMender$Acts;", true)
def tyX1 : Nat → FieldType := fun k => match k with
  | 0 => .int
  | 1 => .int
  | 2 => .int
  | 3 => .int
  | 4 => .int
  | 5 => .int
  | 6 => .int
  | 7 => .array .int
  | 8 => .array .int
  | 9 => .array .int
  | 10 => .array .int
  | 11 => .array .int
  | 12 => .array .int
  | 13 => .array .int
  | 14 => .array .int
  | _ => .object "ArgumentMender$Acts"
abbrev wsX10 : List Cond := u_ws RX1 TX1 16
theorem nmX1 : ∀ a, a < 16 → ∀ b, b < 16 → a ≠ b → (TX1 a).2.1 ≠ (TX1 b).2.1 := by decide +kernel
theorem tyX1_ok : ∀ k, k < 16 → parseFieldDescriptor (TX1 k).2.2.1 = some (tyX1 k) := by decide +kernel
abbrev cX1_init : ByteArray := prog_3_method_1_code
def yX1_init : MethodName := ⟨RX1, "<init>", "()V"⟩
abbrev cX1_clear : ByteArray := prog_3_method_2_code
def yX1_clear : MethodName := ⟨RX1, "clear", "()V"⟩
abbrev cX1_sortThreads : ByteArray := prog_3_method_3_code
def yX1_sortThreads : MethodName := ⟨RX1, "sortThreads", "()V"⟩
abbrev cX1_takeOver : ByteArray := prog_3_method_4_code
def yX1_takeOver : MethodName := ⟨RX1, "takeOver", "(LArgumentMender$Cloth;)V"⟩
abbrev cX1_isThere : ByteArray := prog_3_method_5_code
def yX1_isThere : MethodName := ⟨RX1, "isThere", "()Z"⟩
abbrev cX1_hasClaim : ByteArray := prog_3_method_6_code
def yX1_hasClaim : MethodName := ⟨RX1, "hasClaim", "(I)Z"⟩
abbrev cX1_hasThread : ByteArray := prog_3_method_7_code
def yX1_hasThread : MethodName := ⟨RX1, "hasThread", "(I)Z"⟩
abbrev cX1_hasQuarrel : ByteArray := prog_3_method_8_code
def yX1_hasQuarrel : MethodName := ⟨RX1, "hasQuarrel", "(I)Z"⟩
abbrev cX1_hasYear : ByteArray := prog_3_method_9_code
def yX1_hasYear : MethodName := ⟨RX1, "hasYear", "(I)Z"⟩
abbrev cX1_hasYearAhead : ByteArray := prog_3_method_10_code
def yX1_hasYearAhead : MethodName := ⟨RX1, "hasYearAhead", "(I)Z"⟩
abbrev cX1_allClaims : ByteArray := prog_3_method_11_code
def yX1_allClaims : MethodName := ⟨RX1, "allClaims", "()I"⟩
abbrev cX1_allThreads : ByteArray := prog_3_method_12_code
def yX1_allThreads : MethodName := ⟨RX1, "allThreads", "()I"⟩
abbrev cX1_allQuarrels : ByteArray := prog_3_method_13_code
def yX1_allQuarrels : MethodName := ⟨RX1, "allQuarrels", "()I"⟩
def RX2 : String := "ArgumentMender$Reader"
def TX2 : u_T := fun k => match k with
  | 0 => ("ArgumentMender$Reader", "tape", "LArgumentMender$Tape;", true)
  | 1 => ("ArgumentMender$Reader", "read", "LArgumentMender$Cloth;", true)
  | 2 => ("ArgumentMender$Reader", "fault", "I", false)
  | 3 => ("ArgumentMender$Reader", "place", "I", false)
  | _ => ("ArgumentMender$Reader", "taken", "I", false)
def tyX2 : Nat → FieldType := fun k => match k with
  | 0 => .object "ArgumentMender$Tape"
  | 1 => .object "ArgumentMender$Cloth"
  | 2 => .int
  | 3 => .int
  | _ => .int
abbrev wsX20 : List Cond := u_ws RX2 TX2 5
theorem nmX2 : ∀ a, a < 5 → ∀ b, b < 5 → a ≠ b → (TX2 a).2.1 ≠ (TX2 b).2.1 := by decide +kernel
theorem tyX2_ok : ∀ k, k < 5 → parseFieldDescriptor (TX2 k).2.2.1 = some (tyX2 k) := by decide +kernel
abbrev cX2_init : ByteArray := prog_4_method_1_code
def yX2_init : MethodName := ⟨RX2, "<init>", "()V"⟩
abbrev cX2_readAll : ByteArray := prog_4_method_2_code
def yX2_readAll : MethodName := ⟨RX2, "readAll", "()Z"⟩
abbrev cX2_readLine : ByteArray := prog_4_method_3_code
def yX2_readLine : MethodName := ⟨RX2, "readLine", "()Z"⟩
abbrev cX2_readHead : ByteArray := prog_4_method_4_code
def yX2_readHead : MethodName := ⟨RX2, "readHead", "()Z"⟩
abbrev cX2_readClaim : ByteArray := prog_4_method_5_code
def yX2_readClaim : MethodName := ⟨RX2, "readClaim", "()Z"⟩
abbrev cX2_readThread : ByteArray := prog_4_method_6_code
def yX2_readThread : MethodName := ⟨RX2, "readThread", "()Z"⟩
abbrev cX2_readQuarrel : ByteArray := prog_4_method_7_code
def yX2_readQuarrel : MethodName := ⟨RX2, "readQuarrel", "()Z"⟩
abbrev cX2_takeWord : ByteArray := prog_4_method_8_code
def yX2_takeWord : MethodName := ⟨RX2, "takeWord", "(Ljava/lang/String;)Z"⟩
abbrev cX2_takeNumber : ByteArray := prog_4_method_9_code
def yX2_takeNumber : MethodName := ⟨RX2, "takeNumber", "(II)Z"⟩
abbrev cX2_takeSign : ByteArray := prog_4_method_10_code
def yX2_takeSign : MethodName := ⟨RX2, "takeSign", "()Z"⟩
abbrev cX2_fail : ByteArray := prog_4_method_11_code
def yX2_fail : MethodName := ⟨RX2, "fail", "(I)Z"⟩
def RX3 : String := "ArgumentMender$Sight"
def TX3 : u_T := fun k => match k with
  | 0 => ("ArgumentMender$Sight", "years", "LArgumentMender$Years;", true)
  | 1 => ("ArgumentMender$Sight", "fitting", "I", false)
  | 2 => ("ArgumentMender$Sight", "first", "I", false)
  | _ => ("ArgumentMender$Sight", "last", "I", false)
def tyX3 : Nat → FieldType := fun k => match k with
  | 0 => .object "ArgumentMender$Years"
  | 1 => .int
  | 2 => .int
  | _ => .int
abbrev wsX30 : List Cond := u_ws RX3 TX3 4
theorem nmX3 : ∀ a, a < 4 → ∀ b, b < 4 → a ≠ b → (TX3 a).2.1 ≠ (TX3 b).2.1 := by decide +kernel
theorem tyX3_ok : ∀ k, k < 4 → parseFieldDescriptor (TX3 k).2.2.1 = some (tyX3 k) := by decide +kernel
abbrev cX3_init : ByteArray := prog_5_method_1_code
def yX3_init : MethodName := ⟨RX3, "<init>", "()V"⟩
abbrev cX3_isSeen : ByteArray := prog_5_method_2_code
def yX3_isSeen : MethodName := ⟨RX3, "isSeen", "(LArgumentMender$Cloth;LArgumentMender$Slot;)Z"⟩
abbrev cX3_isUpTo : ByteArray := prog_5_method_3_code
def yX3_isUpTo : MethodName := ⟨RX3, "isUpTo", "(JJ)Z"⟩
abbrev cX3_countFits : ByteArray := prog_5_method_4_code
def yX3_countFits : MethodName := ⟨RX3, "countFits", "(LArgumentMender$Cloth;LArgumentMender$Slot;I)V"⟩
abbrev cX3_agreesByLaw : ByteArray := prog_5_method_5_code
def yX3_agreesByLaw : MethodName := ⟨RX3, "agreesByLaw", "(LArgumentMender$Cloth;LArgumentMender$Slot;I)Z"⟩
abbrev cX3_agrees : ByteArray := prog_5_method_6_code
def yX3_agrees : MethodName := ⟨RX3, "agrees", "(LArgumentMender$Slot;)Z"⟩
def RX4 : String := "ArgumentMender$Slot"
def TX4 : u_T := fun k => match k with
  | 0 => ("ArgumentMender$Slot", "width", "I", false)
  | 1 => ("ArgumentMender$Slot", "length", "I", false)
  | _ => ("ArgumentMender$Slot", "numbers", "[J", true)
def tyX4 : Nat → FieldType := fun k => match k with
  | 0 => .int
  | 1 => .int
  | _ => .array .long
abbrev wsX40 : List Cond := u_ws RX4 TX4 3
theorem nmX4 : ∀ a, a < 3 → ∀ b, b < 3 → a ≠ b → (TX4 a).2.1 ≠ (TX4 b).2.1 := by decide +kernel
theorem tyX4_ok : ∀ k, k < 3 → parseFieldDescriptor (TX4 k).2.2.1 = some (tyX4 k) := by decide +kernel
abbrev cX4_init : ByteArray := prog_6_method_1_code
def yX4_init : MethodName := ⟨RX4, "<init>", "()V"⟩
abbrev cX4_isThere : ByteArray := prog_6_method_2_code
def yX4_isThere : MethodName := ⟨RX4, "isThere", "()Z"⟩
abbrev cX4_renew : ByteArray := prog_6_method_3_code
def yX4_renew : MethodName := ⟨RX4, "renew", "(II)V"⟩
abbrev cX4_narrowed : ByteArray := prog_6_method_4_code
def yX4_narrowed : MethodName := ⟨RX4, "narrowed", "(J)J"⟩
abbrev cX4_covers : ByteArray := prog_6_method_5_code
def yX4_covers : MethodName := ⟨RX4, "covers", "(II)Z"⟩
def RX5 : String := "ArgumentMender$Tape"
def TX5 : u_T := fun k => match k with
  | 0 => ("ArgumentMender$Tape", "bytes", "[B", true)
  | 1 => ("ArgumentMender$Tape", "length", "I", false)
  | 2 => ("ArgumentMender$Tape", "at", "I", false)
  | 3 => ("ArgumentMender$Tape", "start", "I", false)
  | 4 => ("ArgumentMender$Tape", "kind", "I", false)
  | _ => ("ArgumentMender$Tape", "value", "I", false)
def tyX5 : Nat → FieldType := fun k => match k with
  | 0 => .array .byte
  | 1 => .int
  | 2 => .int
  | 3 => .int
  | 4 => .int
  | _ => .int
abbrev wsX50 : List Cond := u_ws RX5 TX5 6
theorem nmX5 : ∀ a, a < 6 → ∀ b, b < 6 → a ≠ b → (TX5 a).2.1 ≠ (TX5 b).2.1 := by decide +kernel
theorem tyX5_ok : ∀ k, k < 6 → parseFieldDescriptor (TX5 k).2.2.1 = some (tyX5 k) := by decide +kernel
abbrev cX5_init : ByteArray := prog_7_method_1_code
def yX5_init : MethodName := ⟨RX5, "<init>", "()V"⟩
abbrev cX5_append : ByteArray := prog_7_method_2_code
def yX5_append : MethodName := ⟨RX5, "append", "(I)V"⟩
abbrev cX5_next : ByteArray := prog_7_method_3_code
def yX5_next : MethodName := ⟨RX5, "next", "()V"⟩
abbrev cX5_isLetter : ByteArray := prog_7_method_4_code
def yX5_isLetter : MethodName := ⟨RX5, "isLetter", "()Z"⟩
abbrev cX5_isDigit : ByteArray := prog_7_method_5_code
def yX5_isDigit : MethodName := ⟨RX5, "isDigit", "()Z"⟩
abbrev cX5_isAt : ByteArray := prog_7_method_6_code
def yX5_isAt : MethodName := ⟨RX5, "isAt", "(Ljava/lang/String;)Z"⟩
def RX6 : String := "ArgumentMender$Trials"
def TX6 : u_T := fun k => match k with
  | 0 => ("ArgumentMender$Trials", "web", "LArgumentMender$Web;", true)
  | 1 => ("ArgumentMender$Trials", "years", "LArgumentMender$Years;", true)
  | 2 => ("ArgumentMender$Trials", "tug", "LArgumentMender$Tug;", true)
  | 3 => ("ArgumentMender$Trials", "row", "[I", true)
  | 4 => ("ArgumentMender$Trials", "byWord", "[I", true)
  | 5 => ("ArgumentMender$Trials", "byEvening", "[I", true)
  | _ => ("ArgumentMender$Trials", "bySet", "[I", true)
def tyX6 : Nat → FieldType := fun k => match k with
  | 0 => .object "ArgumentMender$Web"
  | 1 => .object "ArgumentMender$Years"
  | 2 => .object "ArgumentMender$Tug"
  | 3 => .array .int
  | 4 => .array .int
  | 5 => .array .int
  | _ => .array .int
abbrev wsX60 : List Cond := u_ws RX6 TX6 7
theorem nmX6 : ∀ a, a < 7 → ∀ b, b < 7 → a ≠ b → (TX6 a).2.1 ≠ (TX6 b).2.1 := by decide +kernel
theorem tyX6_ok : ∀ k, k < 7 → parseFieldDescriptor (TX6 k).2.2.1 = some (tyX6 k) := by decide +kernel
abbrev cX6_init : ByteArray := prog_8_method_1_code
def yX6_init : MethodName := ⟨RX6, "<init>", "()V"⟩
abbrev cX6_forget : ByteArray := prog_8_method_2_code
def yX6_forget : MethodName := ⟨RX6, "forget", "()V"⟩
abbrev cX6_hungByWord : ByteArray := prog_8_method_3_code
def yX6_hungByWord : MethodName := ⟨RX6, "hungByWord", "(LArgumentMender$Cloth;II)I"⟩
abbrev cX6_hungByEvening : ByteArray := prog_8_method_4_code
def yX6_hungByEvening : MethodName := ⟨RX6, "hungByEvening", "(LArgumentMender$Cloth;I)I"⟩
abbrev cX6_hungByLaw : ByteArray := prog_8_method_5_code
def yX6_hungByLaw : MethodName := ⟨RX6, "hungByLaw", "(LArgumentMender$Cloth;I)I"⟩
abbrev cX6_hungWithout : ByteArray := prog_8_method_6_code
def yX6_hungWithout : MethodName := ⟨RX6, "hungWithout", "(LArgumentMender$Cloth;I)I"⟩
abbrev cX6_worthOfFirst : ByteArray := prog_8_method_7_code
def yX6_worthOfFirst : MethodName := ⟨RX6, "worthOfFirst", "(LArgumentMender$Cloth;I)I"⟩
abbrev cX6_gain : ByteArray := prog_8_method_8_code
def yX6_gain : MethodName := ⟨RX6, "gain", "(LArgumentMender$Cloth;IIII)I"⟩
abbrev cX6_tryPull : ByteArray := prog_8_method_9_code
def yX6_tryPull : MethodName := ⟨RX6, "tryPull", "(LArgumentMender$Cloth;[III)LArgumentMender$Tug;"⟩
abbrev cX6_leastHarm : ByteArray := prog_8_method_10_code
def yX6_leastHarm : MethodName := ⟨RX6, "leastHarm", "(LArgumentMender$Cloth;[III)I"⟩
abbrev cX6_alone : ByteArray := prog_8_method_11_code
def yX6_alone : MethodName := ⟨RX6, "alone", "(LArgumentMender$Cloth;[II)I"⟩
def RX7 : String := "ArgumentMender$Tug"
def TX7 : u_T := fun k => match k with
  | 0 => ("ArgumentMender$Tug", "share", "[I", true)
  | 1 => ("ArgumentMender$Tug", "times", "I", false)
  | 2 => ("ArgumentMender$Tug", "ripped", "I", false)
  | 3 => ("ArgumentMender$Tug", "lost", "I", false)
  | 4 => ("ArgumentMender$Tug", "intoHem", "I", false)
  | 5 => ("ArgumentMender$Tug", "load", "[I", true)
  | 6 => ("ArgumentMender$Tug", "whole", "I", false)
  | 7 => ("ArgumentMender$Tug", "together", "I", false)
  | 8 => ("ArgumentMender$Tug", "strong", "I", false)
  | _ => ("ArgumentMender$Tug", "second", "I", false)
def tyX7 : Nat → FieldType := fun k => match k with
  | 0 => .array .int
  | 1 => .int
  | 2 => .int
  | 3 => .int
  | 4 => .int
  | 5 => .array .int
  | 6 => .int
  | 7 => .int
  | 8 => .int
  | _ => .int
abbrev wsX70 : List Cond := u_ws RX7 TX7 10
theorem nmX7 : ∀ a, a < 10 → ∀ b, b < 10 → a ≠ b → (TX7 a).2.1 ≠ (TX7 b).2.1 := by decide +kernel
theorem tyX7_ok : ∀ k, k < 10 → parseFieldDescriptor (TX7 k).2.2.1 = some (tyX7 k) := by decide +kernel
abbrev cX7_init : ByteArray := prog_9_method_1_code
def yX7_init : MethodName := ⟨RX7, "<init>", "()V"⟩
abbrev cX7_drag : ByteArray := prog_9_method_2_code
def yX7_drag : MethodName := ⟨RX7, "drag", "(LArgumentMender$Cloth;I[III)V"⟩
abbrev cX7_begin : ByteArray := prog_9_method_3_code
def yX7_begin : MethodName := ⟨RX7, "begin", "(II)V"⟩
abbrev cX7_divide : ByteArray := prog_9_method_4_code
def yX7_divide : MethodName := ⟨RX7, "divide", "(LArgumentMender$Cloth;I[II)V"⟩
abbrev cX7_survey : ByteArray := prog_9_method_5_code
def yX7_survey : MethodName := ⟨RX7, "survey", "(LArgumentMender$Cloth;[II)V"⟩
abbrev cX7_evenly : ByteArray := prog_9_method_6_code
def yX7_evenly : MethodName := ⟨RX7, "evenly", "(LArgumentMender$Cloth;[II)V"⟩
abbrev cX7_byStrength : ByteArray := prog_9_method_7_code
def yX7_byStrength : MethodName := ⟨RX7, "byStrength", "(LArgumentMender$Cloth;[II)V"⟩
abbrev cX7_passOn : ByteArray := prog_9_method_8_code
def yX7_passOn : MethodName := ⟨RX7, "passOn", "(LArgumentMender$Cloth;I)V"⟩
abbrev cX7_tear : ByteArray := prog_9_method_9_code
def yX7_tear : MethodName := ⟨RX7, "tear", "(LArgumentMender$Cloth;[I)Z"⟩
def RX8 : String := "ArgumentMender$Web"
def TX8 : u_T := fun k => match k with
  | 0 => ("ArgumentMender$Web", "far", "[I", true)
  | _ => ("ArgumentMender$Web", "reachedBy", "[I", true)
def tyX8 : Nat → FieldType := fun k => match k with
  | 0 => .array .int
  | _ => .array .int
abbrev wsX80 : List Cond := u_ws RX8 TX8 2
theorem nmX8 : ∀ a, a < 2 → ∀ b, b < 2 → a ≠ b → (TX8 a).2.1 ≠ (TX8 b).2.1 := by decide +kernel
theorem tyX8_ok : ∀ k, k < 2 → parseFieldDescriptor (TX8 k).2.2.1 = some (tyX8 k) := by decide +kernel
abbrev cX8_init : ByteArray := prog_10_method_1_code
def yX8_init : MethodName := ⟨RX8, "<init>", "()V"⟩
abbrev cX8_wholeOf : ByteArray := prog_10_method_2_code
def yX8_wholeOf : MethodName := ⟨RX8, "wholeOf", "(LArgumentMender$Cloth;[II)I"⟩
abbrev cX8_hanging : ByteArray := prog_10_method_3_code
def yX8_hanging : MethodName := ⟨RX8, "hanging", "(LArgumentMender$Cloth;[I)I"⟩
abbrev cX8_shortest : ByteArray := prog_10_method_4_code
def yX8_shortest : MethodName := ⟨RX8, "shortest", "(LArgumentMender$Cloth;[II)I"⟩
abbrev cX8_fewest : ByteArray := prog_10_method_5_code
def yX8_fewest : MethodName := ⟨RX8, "fewest", "(LArgumentMender$Cloth;[II)I"⟩
abbrev cX8_reaches : ByteArray := prog_10_method_6_code
def yX8_reaches : MethodName := ⟨RX8, "reaches", "(LArgumentMender$Cloth;[III)Z"⟩
abbrev cX8_turned : ByteArray := prog_10_method_7_code
def yX8_turned : MethodName := ⟨RX8, "turned", "(LArgumentMender$Cloth;II)I"⟩
abbrev cX8_knot : ByteArray := prog_10_method_8_code
def yX8_knot : MethodName := ⟨RX8, "knot", "(LArgumentMender$Cloth;I)I"⟩
def RX9 : String := "ArgumentMender$Years"
def TX9 : u_T := fun k => match k with
  | 0 => ("ArgumentMender$Years", "law", "I", false)
  | 1 => ("ArgumentMender$Years", "gone", "I", false)
  | 2 => ("ArgumentMender$Years", "held", "I", false)
  | 3 => ("ArgumentMender$Years", "rows", "[[I", true)
  | 4 => ("ArgumentMender$Years", "shares", "[[I", true)
  | 5 => ("ArgumentMender$Years", "times", "[I", true)
  | 6 => ("ArgumentMender$Years", "ripped", "[I", true)
  | 7 => ("ArgumentMender$Years", "lost", "[I", true)
  | 8 => ("ArgumentMender$Years", "intoHem", "[I", true)
  | 9 => ("ArgumentMender$Years", "borne", "[I", true)
  | 10 => ("ArgumentMender$Years", "wear", "[I", true)
  | _ => ("ArgumentMender$Years", "tug", "LArgumentMender$Tug;", true)
def tyX9 : Nat → FieldType := fun k => match k with
  | 0 => .int
  | 1 => .int
  | 2 => .int
  | 3 => .array (.array .int)
  | 4 => .array (.array .int)
  | 5 => .array .int
  | 6 => .array .int
  | 7 => .array .int
  | 8 => .array .int
  | 9 => .array .int
  | 10 => .array .int
  | _ => .object "ArgumentMender$Tug"
abbrev wsX90 : List Cond := u_ws RX9 TX9 12
theorem nmX9 : ∀ a, a < 12 → ∀ b, b < 12 → a ≠ b → (TX9 a).2.1 ≠ (TX9 b).2.1 := by decide +kernel
theorem tyX9_ok : ∀ k, k < 12 → parseFieldDescriptor (TX9 k).2.2.1 = some (tyX9 k) := by decide +kernel
abbrev cX9_init : ByteArray := prog_11_method_1_code
def yX9_init : MethodName := ⟨RX9, "<init>", "()V"⟩
abbrev cX9_asTold : ByteArray := prog_11_method_2_code
def yX9_asTold : MethodName := ⟨RX9, "asTold", "(LArgumentMender$Cloth;)V"⟩
abbrev cX9_live : ByteArray := prog_11_method_3_code
def yX9_live : MethodName := ⟨RX9, "live", "(LArgumentMender$Cloth;)V"⟩
abbrev cX9_begin : ByteArray := prog_11_method_4_code
def yX9_begin : MethodName := ⟨RX9, "begin", "(LArgumentMender$Cloth;)V"⟩
abbrev cX9_letIn : ByteArray := prog_11_method_5_code
def yX9_letIn : MethodName := ⟨RX9, "letIn", "(LArgumentMender$Acts;I[I)V"⟩
abbrev cX9_note : ByteArray := prog_11_method_6_code
def yX9_note : MethodName := ⟨RX9, "note", "(I)V"⟩
abbrev cX9_addUp : ByteArray := prog_11_method_7_code
def yX9_addUp : MethodName := ⟨RX9, "addUp", "(LArgumentMender$Cloth;)V"⟩
def RX10 : String := "ArgumentMender"
def TX10 : u_T := fun k => match k with
  | 0 => ("ArgumentMender", "reader", "LArgumentMender$Reader;", true)
  | 1 => ("ArgumentMender", "cloth", "LArgumentMender$Cloth;", true)
  | 2 => ("ArgumentMender", "now", "LArgumentMender$Years;", true)
  | 3 => ("ArgumentMender", "web", "LArgumentMender$Web;", true)
  | 4 => ("ArgumentMender", "trials", "LArgumentMender$Trials;", true)
  | 5 => ("ArgumentMender", "sight", "LArgumentMender$Sight;", true)
  | 6 => ("ArgumentMender", "slots", "[LArgumentMender$Slot;", true)
  | 7 => ("ArgumentMender", "images", "[LArgumentMender$Cloth;", true)
  | _ => ("ArgumentMender", "kept", "[Z", true)
def tyX10 : Nat → FieldType := fun k => match k with
  | 0 => .object "ArgumentMender$Reader"
  | 1 => .object "ArgumentMender$Cloth"
  | 2 => .object "ArgumentMender$Years"
  | 3 => .object "ArgumentMender$Web"
  | 4 => .object "ArgumentMender$Trials"
  | 5 => .object "ArgumentMender$Sight"
  | 6 => .array (.object "ArgumentMender$Slot")
  | 7 => .array (.object "ArgumentMender$Cloth")
  | _ => .array .boolean
abbrev wsX100 : List Cond := u_ws RX10 TX10 9
theorem nmX10 : ∀ a, a < 9 → ∀ b, b < 9 → a ≠ b → (TX10 a).2.1 ≠ (TX10 b).2.1 := by decide +kernel
theorem tyX10_ok : ∀ k, k < 9 → parseFieldDescriptor (TX10 k).2.2.1 = some (tyX10 k) := by decide +kernel
abbrev cX10_init : ByteArray := prog_1_method_1_code
def yX10_init : MethodName := ⟨RX10, "<init>", "()V"⟩
abbrev cX10_feed : ByteArray := prog_1_method_2_code
def yX10_feed : MethodName := ⟨RX10, "feed", "(IIIII)I"⟩
abbrev cX10_end : ByteArray := prog_1_method_3_code
def yX10_end : MethodName := ⟨RX10, "end", "(I)I"⟩
abbrev cX10_cloth : ByteArray := prog_1_method_4_code
def yX10_cloth : MethodName := ⟨RX10, "cloth", "()I"⟩
abbrev cX10_fault : ByteArray := prog_1_method_5_code
def yX10_fault : MethodName := ⟨RX10, "fault", "(I)I"⟩
abbrev cX10_refresh : ByteArray := prog_1_method_6_code
def yX10_refresh : MethodName := ⟨RX10, "refresh", "()V"⟩
abbrev cX10_thread : ByteArray := prog_1_method_7_code
def yX10_thread : MethodName := ⟨RX10, "thread", "(II)I"⟩
abbrev cX10_quarrel : ByteArray := prog_1_method_8_code
def yX10_quarrel : MethodName := ⟨RX10, "quarrel", "(II)I"⟩
abbrev cX10_threads : ByteArray := prog_1_method_9_code
def yX10_threads : MethodName := ⟨RX10, "threads", "(I)I"⟩
abbrev cX10_strength : ByteArray := prog_1_method_10_code
def yX10_strength : MethodName := ⟨RX10, "strength", "(II)I"⟩
abbrev cX10_torn : ByteArray := prog_1_method_11_code
def yX10_torn : MethodName := ⟨RX10, "torn", "(I)I"⟩
abbrev cX10_tears : ByteArray := prog_1_method_12_code
def yX10_tears : MethodName := ⟨RX10, "tears", "(I)I"⟩
abbrev cX10_holes : ByteArray := prog_1_method_13_code
def yX10_holes : MethodName := ⟨RX10, "holes", "(I)I"⟩
abbrev cX10_hole : ByteArray := prog_1_method_14_code
def yX10_hole : MethodName := ⟨RX10, "hole", "(I)I"⟩
abbrev cX10_hung : ByteArray := prog_1_method_15_code
def yX10_hung : MethodName := ⟨RX10, "hung", "(I)I"⟩
abbrev cX10_falls : ByteArray := prog_1_method_16_code
def yX10_falls : MethodName := ⟨RX10, "falls", "(I)I"⟩
abbrev cX10_firstWithout : ByteArray := prog_1_method_17_code
def yX10_firstWithout : MethodName := ⟨RX10, "firstWithout", "(I)I"⟩
abbrev cX10_sum : ByteArray := prog_1_method_18_code
def yX10_sum : MethodName := ⟨RX10, "sum", "(I)I"⟩
abbrev cX10_together : ByteArray := prog_1_method_19_code
def yX10_together : MethodName := ⟨RX10, "together", "(I)I"⟩
abbrev cX10_strongest : ByteArray := prog_1_method_20_code
def yX10_strongest : MethodName := ⟨RX10, "strongest", "(I)I"⟩
abbrev cX10_weakest : ByteArray := prog_1_method_21_code
def yX10_weakest : MethodName := ⟨RX10, "weakest", "(I)I"⟩
abbrev cX10_loses : ByteArray := prog_1_method_22_code
def yX10_loses : MethodName := ⟨RX10, "loses", "(I)I"⟩
abbrev cX10_bare : ByteArray := prog_1_method_23_code
def yX10_bare : MethodName := ⟨RX10, "bare", "(I)I"⟩
abbrev cX10_frail : ByteArray := prog_1_method_24_code
def yX10_frail : MethodName := ⟨RX10, "frail", "()I"⟩
abbrev cX10_stuff : ByteArray := prog_1_method_25_code
def yX10_stuff : MethodName := ⟨RX10, "stuff", "(II)I"⟩
abbrev cX10_steps : ByteArray := prog_1_method_26_code
def yX10_steps : MethodName := ⟨RX10, "steps", "(II)I"⟩
abbrev cX10_has : ByteArray := prog_1_method_27_code
def yX10_has : MethodName := ⟨RX10, "has", "(II)I"⟩
abbrev cX10_pulls : ByteArray := prog_1_method_28_code
def yX10_pulls : MethodName := ⟨RX10, "pulls", "(I)I"⟩
abbrev cX10_rips : ByteArray := prog_1_method_29_code
def yX10_rips : MethodName := ⟨RX10, "rips", "(I)I"⟩
abbrev cX10_through : ByteArray := prog_1_method_30_code
def yX10_through : MethodName := ⟨RX10, "through", "(I)I"⟩
abbrev cX10_hem : ByteArray := prog_1_method_31_code
def yX10_hem : MethodName := ⟨RX10, "hem", "(I)I"⟩
abbrev cX10_loud : ByteArray := prog_1_method_32_code
def yX10_loud : MethodName := ⟨RX10, "loud", "()I"⟩
abbrev cX10_worst : ByteArray := prog_1_method_33_code
def yX10_worst : MethodName := ⟨RX10, "worst", "()I"⟩
abbrev cX10_bears : ByteArray := prog_1_method_34_code
def yX10_bears : MethodName := ⟨RX10, "bears", "(I)I"⟩
abbrev cX10_worn : ByteArray := prog_1_method_35_code
def yX10_worn : MethodName := ⟨RX10, "worn", "(I)I"⟩
abbrev cX10_idle : ByteArray := prog_1_method_36_code
def yX10_idle : MethodName := ⟨RX10, "idle", "()I"⟩
abbrev cX10_canTry : ByteArray := prog_1_method_37_code
def yX10_canTry : MethodName := ⟨RX10, "canTry", "(III)Z"⟩
abbrev cX10_tries : ByteArray := prog_1_method_38_code
def yX10_tries : MethodName := ⟨RX10, "tries", "(III)I"⟩
abbrev cX10_would : ByteArray := prog_1_method_39_code
def yX10_would : MethodName := ⟨RX10, "would", "(IIII)I"⟩
abbrev cX10_lets : ByteArray := prog_1_method_40_code
def yX10_lets : MethodName := ⟨RX10, "lets", "(III)I"⟩
abbrev cX10_gate : ByteArray := prog_1_method_41_code
def yX10_gate : MethodName := ⟨RX10, "gate", "(II)I"⟩
abbrev cX10_soft : ByteArray := prog_1_method_42_code
def yX10_soft : MethodName := ⟨RX10, "soft", "(I)I"⟩
abbrev cX10_bursts : ByteArray := prog_1_method_43_code
def yX10_bursts : MethodName := ⟨RX10, "bursts", "(II)I"⟩
abbrev cX10_word : ByteArray := prog_1_method_44_code
def yX10_word : MethodName := ⟨RX10, "word", "(II)I"⟩
abbrev cX10_leastWord : ByteArray := prog_1_method_45_code
def yX10_leastWord : MethodName := ⟨RX10, "leastWord", "(II)I"⟩
abbrev cX10_darn : ByteArray := prog_1_method_46_code
def yX10_darn : MethodName := ⟨RX10, "darn", "(I)I"⟩
abbrev cX10_mend : ByteArray := prog_1_method_47_code
def yX10_mend : MethodName := ⟨RX10, "mend", "(I)I"⟩
abbrev cX10_cut : ByteArray := prog_1_method_48_code
def yX10_cut : MethodName := ⟨RX10, "cut", "(II)I"⟩
abbrev cX10_keys : ByteArray := prog_1_method_49_code
def yX10_keys : MethodName := ⟨RX10, "keys", "(II)I"⟩
abbrev cX10_hangingAtLast : ByteArray := prog_1_method_50_code
def yX10_hangingAtLast : MethodName := ⟨RX10, "hangingAtLast", "()I"⟩
abbrev cX10_blame : ByteArray := prog_1_method_51_code
def yX10_blame : MethodName := ⟨RX10, "blame", "()I"⟩
abbrev cX10_dear : ByteArray := prog_1_method_52_code
def yX10_dear : MethodName := ⟨RX10, "dear", "()I"⟩
abbrev cX10_worse : ByteArray := prog_1_method_53_code
def yX10_worse : MethodName := ⟨RX10, "worse", "()I"⟩
abbrev cX10_look : ByteArray := prog_1_method_54_code
def yX10_look : MethodName := ⟨RX10, "look", "(II)I"⟩
abbrev cX10_fits : ByteArray := prog_1_method_55_code
def yX10_fits : MethodName := ⟨RX10, "fits", "(II)I"⟩
abbrev cX10_least : ByteArray := prog_1_method_56_code
def yX10_least : MethodName := ⟨RX10, "least", "(II)I"⟩
abbrev cX10_greatest : ByteArray := prog_1_method_57_code
def yX10_greatest : MethodName := ⟨RX10, "greatest", "(II)I"⟩
abbrev cX10_ask : ByteArray := prog_1_method_58_code
def yX10_ask : MethodName := ⟨RX10, "ask", "(II)I"⟩
abbrev cX10_leaves : ByteArray := prog_1_method_59_code
def yX10_leaves : MethodName := ⟨RX10, "leaves", "(II)I"⟩
abbrev cX10_laws : ByteArray := prog_1_method_60_code
def yX10_laws : MethodName := ⟨RX10, "laws", "(I)I"⟩
abbrev cX10_by : ByteArray := prog_1_method_61_code
def yX10_by : MethodName := ⟨RX10, "by", "(I)I"⟩
abbrev cX10_law : ByteArray := prog_1_method_62_code
def yX10_law : MethodName := ⟨RX10, "law", "()I"⟩
abbrev cX10_worth : ByteArray := prog_1_method_63_code
def yX10_worth : MethodName := ⟨RX10, "worth", "(I)I"⟩
abbrev cX10_share : ByteArray := prog_1_method_64_code
def yX10_share : MethodName := ⟨RX10, "share", "(II)I"⟩
abbrev cX10_areTwo : ByteArray := prog_1_method_65_code
def yX10_areTwo : MethodName := ⟨RX10, "areTwo", "(II)Z"⟩
abbrev cX10_rests : ByteArray := prog_1_method_66_code
def yX10_rests : MethodName := ⟨RX10, "rests", "(II)I"⟩
abbrev cX10_gets : ByteArray := prog_1_method_67_code
def yX10_gets : MethodName := ⟨RX10, "gets", "(IIII)I"⟩
abbrev cX10_chance : ByteArray := prog_1_method_68_code
def yX10_chance : MethodName := ⟨RX10, "chance", "(II)J"⟩
abbrev cX10_mean : ByteArray := prog_1_method_69_code
def yX10_mean : MethodName := ⟨RX10, "mean", "(I)J"⟩
abbrev cX10_expected : ByteArray := prog_1_method_70_code
def yX10_expected : MethodName := ⟨RX10, "expected", "(II)J"⟩
abbrev cX10_power : ByteArray := prog_1_method_71_code
def yX10_power : MethodName := ⟨RX10, "power", "(JI)J"⟩
abbrev cX10_inLowest : ByteArray := prog_1_method_72_code
def yX10_inLowest : MethodName := ⟨RX10, "inLowest", "(JJI)J"⟩
abbrev cX10_sews : ByteArray := prog_1_method_73_code
def yX10_sews : MethodName := ⟨RX10, "sews", "(III)I"⟩
abbrev cX10_quarrels : ByteArray := prog_1_method_74_code
def yX10_quarrels : MethodName := ⟨RX10, "quarrels", "(III)I"⟩
abbrev cX10_act : ByteArray := prog_1_method_75_code
def yX10_act : MethodName := ⟨RX10, "act", "(IIII)I"⟩
abbrev cX10_undo : ByteArray := prog_1_method_76_code
def yX10_undo : MethodName := ⟨RX10, "undo", "()I"⟩
abbrev cX10_anew : ByteArray := prog_1_method_77_code
def yX10_anew : MethodName := ⟨RX10, "anew", "()I"⟩
abbrev cX10_drawn : ByteArray := prog_1_method_78_code
def yX10_drawn : MethodName := ⟨RX10, "drawn", "(II)I"⟩
abbrev cX10_drawEvening : ByteArray := prog_1_method_79_code
def yX10_drawEvening : MethodName := ⟨RX10, "drawEvening", "(I)I"⟩
abbrev cX10_luck : ByteArray := prog_1_method_80_code
def yX10_luck : MethodName := ⟨RX10, "luck", "(III)I"⟩
abbrev cX10_rate : ByteArray := prog_1_method_81_code
def yX10_rate : MethodName := ⟨RX10, "rate", "(II)I"⟩
abbrev cX10_count : ByteArray := prog_1_method_82_code
def yX10_count : MethodName := ⟨RX10, "count", "(I)I"⟩
abbrev cX10_rowsThere : ByteArray := prog_1_method_83_code
def yX10_rowsThere : MethodName := ⟨RX10, "rowsThere", "()I"⟩
abbrev cX10_image : ByteArray := prog_1_method_84_code
def yX10_image : MethodName := ⟨RX10, "image", "(I)I"⟩
abbrev cX10_back : ByteArray := prog_1_method_85_code
def yX10_back : MethodName := ⟨RX10, "back", "(I)I"⟩
abbrev cX10_hasSlot : ByteArray := prog_1_method_86_code
def yX10_hasSlot : MethodName := ⟨RX10, "hasSlot", "(I)Z"⟩
abbrev cX10_within : ByteArray := prog_1_method_87_code
def yX10_within : MethodName := ⟨RX10, "within", "(III)Z"⟩
abbrev cX10_row : ByteArray := prog_1_method_88_code
def yX10_row : MethodName := ⟨RX10, "row", "(III)I"⟩
abbrev cX10_write : ByteArray := prog_1_method_89_code
def yX10_write : MethodName := ⟨RX10, "write", "(IIJ)I"⟩
abbrev cX10_paste : ByteArray := prog_1_method_90_code
def yX10_paste : MethodName := ⟨RX10, "paste", "(IIIII)I"⟩
def RX11 : String := "ArgumentMenderModel"
def TX11 : u_T := fun k => match k with
  | 0 => ("ArgumentMenderModel", "thrown", "I", false)
  | 1 => ("ArgumentMenderModel", "world", "[I", true)
  | 2 => ("ArgumentMenderModel", "images", "[I", true)
  | 3 => ("ArgumentMenderModel", "hasImage", "[Z", true)
  | 4 => ("ArgumentMenderModel", "tape", "[B", true)
  | 5 => ("ArgumentMenderModel", "taped", "I", false)
  | 6 => ("ArgumentMenderModel", "five", "[I", true)
  | 7 => ("ArgumentMenderModel", "size", "I", false)
  | 8 => ("ArgumentMenderModel", "at", "I", false)
  | 9 => ("ArgumentMenderModel", "from", "I", false)
  | 10 => ("ArgumentMenderModel", "token", "I", false)
  | 11 => ("ArgumentMenderModel", "value", "I", false)
  | 12 => ("ArgumentMenderModel", "faultKind", "I", false)
  | 13 => ("ArgumentMenderModel", "faultPlace", "I", false)
  | 14 => ("ArgumentMenderModel", "fresh", "[I", true)
  | 15 => ("ArgumentMenderModel", "holdsNow", "[I", true)
  | 16 => ("ArgumentMenderModel", "lawNow", "I", false)
  | 17 => ("ArgumentMenderModel", "thereSet", "I", false)
  | 18 => ("ArgumentMenderModel", "comeSet", "I", false)
  | 19 => ("ArgumentMenderModel", "now", "[I", true)
  | 20 => ("ArgumentMenderModel", "shareNow", "[I", true)
  | 21 => ("ArgumentMenderModel", "loadNow", "[I", true)
  | 22 => ("ArgumentMenderModel", "lostNow", "I", false)
  | 23 => ("ArgumentMenderModel", "hemNow", "I", false)
  | 24 => ("ArgumentMenderModel", "pullsNow", "I", false)
  | 25 => ("ArgumentMenderModel", "ripsNow", "I", false)
  | 26 => ("ArgumentMenderModel", "wornBy", "[I", true)
  | 27 => ("ArgumentMenderModel", "bearsBy", "[I", true)
  | 28 => ("ArgumentMenderModel", "strengthAt", "[I", true)
  | 29 => ("ArgumentMenderModel", "shareBy", "[I", true)
  | 30 => ("ArgumentMenderModel", "pullsBy", "[I", true)
  | 31 => ("ArgumentMenderModel", "ripsBy", "[I", true)
  | 32 => ("ArgumentMenderModel", "throughBy", "[I", true)
  | 33 => ("ArgumentMenderModel", "hemBy", "[I", true)
  | 34 => ("ArgumentMenderModel", "farOf", "[I", true)
  | 35 => ("ArgumentMenderModel", "cameBy", "[I", true)
  | 36 => ("ArgumentMenderModel", "usedSet", "I", false)
  | 37 => ("ArgumentMenderModel", "fit", "[I", true)
  | 38 => ("ArgumentMenderModel", "knownBy", "[I", true)
  | 39 => ("ArgumentMenderModel", "fitMany", "I", false)
  | 40 => ("ArgumentMenderModel", "askWorst", "I", false)
  | 41 => ("ArgumentMenderModel", "worthBy", "[I", true)
  | 42 => ("ArgumentMenderModel", "oftenAll", "J", false)
  | 43 => ("ArgumentMenderModel", "oftenHung", "J", false)
  | 44 => ("ArgumentMenderModel", "oftenMany", "J", false)
  | 45 => ("ArgumentMenderModel", "many", "[I", true)
  | 46 => ("ArgumentMenderModel", "width", "[I", true)
  | 47 => ("ArgumentMenderModel", "numbers", "[J", true)
  | _ => ("ArgumentMenderModel", "moving", "[J", true)
def tyX11 : Nat → FieldType := fun k => match k with
  | 0 => .int
  | 1 => .array .int
  | 2 => .array .int
  | 3 => .array .boolean
  | 4 => .array .byte
  | 5 => .int
  | 6 => .array .int
  | 7 => .int
  | 8 => .int
  | 9 => .int
  | 10 => .int
  | 11 => .int
  | 12 => .int
  | 13 => .int
  | 14 => .array .int
  | 15 => .array .int
  | 16 => .int
  | 17 => .int
  | 18 => .int
  | 19 => .array .int
  | 20 => .array .int
  | 21 => .array .int
  | 22 => .int
  | 23 => .int
  | 24 => .int
  | 25 => .int
  | 26 => .array .int
  | 27 => .array .int
  | 28 => .array .int
  | 29 => .array .int
  | 30 => .array .int
  | 31 => .array .int
  | 32 => .array .int
  | 33 => .array .int
  | 34 => .array .int
  | 35 => .array .int
  | 36 => .int
  | 37 => .array .int
  | 38 => .array .int
  | 39 => .int
  | 40 => .int
  | 41 => .array .int
  | 42 => .long
  | 43 => .long
  | 44 => .long
  | 45 => .array .int
  | 46 => .array .int
  | 47 => .array .long
  | _ => .array .long
abbrev wsX110 : List Cond := u_ws RX11 TX11 49
theorem nmX11 : ∀ a, a < 49 → ∀ b, b < 49 → a ≠ b → (TX11 a).2.1 ≠ (TX11 b).2.1 := by decide +kernel
theorem tyX11_ok : ∀ k, k < 49 → parseFieldDescriptor (TX11 k).2.2.1 = some (tyX11 k) := by decide +kernel
abbrev cX11_init : ByteArray := prog_13_method_1_code
def yX11_init : MethodName := ⟨RX11, "<init>", "()V"⟩
abbrev cX11_in : ByteArray := prog_13_method_3_code
def yX11_in : MethodName := ⟨RX11, "in", "(JJJ)Z"⟩
abbrev cX11_bits : ByteArray := prog_13_method_4_code
def yX11_bits : MethodName := ⟨RX11, "bits", "(I)I"⟩
abbrev cX11_bit : ByteArray := prog_13_method_5_code
def yX11_bit : MethodName := ⟨RX11, "bit", "(II)I"⟩
abbrev cX11_image : ByteArray := prog_13_method_6_code
def yX11_image : MethodName := ⟨RX11, "image", "(I)I"⟩
abbrev cX11_back : ByteArray := prog_13_method_7_code
def yX11_back : MethodName := ⟨RX11, "back", "(I)I"⟩
abbrev cX11_isCloth : ByteArray := prog_13_method_8_code
def yX11_isCloth : MethodName := ⟨RX11, "isCloth", "()Z"⟩
abbrev cX11_years : ByteArray := prog_13_method_9_code
def yX11_years : MethodName := ⟨RX11, "years", "()I"⟩
abbrev cX11_claims : ByteArray := prog_13_method_10_code
def yX11_claims : MethodName := ⟨RX11, "claims", "()I"⟩
abbrev cX11_threadMany : ByteArray := prog_13_method_11_code
def yX11_threadMany : MethodName := ⟨RX11, "threadMany", "()I"⟩
abbrev cX11_quarrelMany : ByteArray := prog_13_method_12_code
def yX11_quarrelMany : MethodName := ⟨RX11, "quarrelMany", "()I"⟩
abbrev cX11_isYear : ByteArray := prog_13_method_13_code
def yX11_isYear : MethodName := ⟨RX11, "isYear", "(J)Z"⟩
abbrev cX11_isAhead : ByteArray := prog_13_method_14_code
def yX11_isAhead : MethodName := ⟨RX11, "isAhead", "(J)Z"⟩
abbrev cX11_isClaim : ByteArray := prog_13_method_15_code
def yX11_isClaim : MethodName := ⟨RX11, "isClaim", "(I)Z"⟩
abbrev cX11_isThread : ByteArray := prog_13_method_16_code
def yX11_isThread : MethodName := ⟨RX11, "isThread", "(J)Z"⟩
abbrev cX11_isQuarrel : ByteArray := prog_13_method_17_code
def yX11_isQuarrel : MethodName := ⟨RX11, "isQuarrel", "(I)Z"⟩
abbrev cX11_fromOf : ByteArray := prog_13_method_18_code
def yX11_fromOf : MethodName := ⟨RX11, "fromOf", "(I)I"⟩
abbrev cX11_toOf : ByteArray := prog_13_method_19_code
def yX11_toOf : MethodName := ⟨RX11, "toOf", "(I)I"⟩
abbrev cX11_quarrelOf : ByteArray := prog_13_method_20_code
def yX11_quarrelOf : MethodName := ⟨RX11, "quarrelOf", "(II)I"⟩
abbrev cX11_feed : ByteArray := prog_13_method_21_code
def yX11_feed : MethodName := ⟨RX11, "feed", "(IIIII)I"⟩
abbrev cX11_end : ByteArray := prog_13_method_22_code
def yX11_end : MethodName := ⟨RX11, "end", "(I)I"⟩
abbrev cX11_see : ByteArray := prog_13_method_23_code
def yX11_see : MethodName := ⟨RX11, "see", "(I)I"⟩
abbrev cX11_advance : ByteArray := prog_13_method_24_code
def yX11_advance : MethodName := ⟨RX11, "advance", "()V"⟩
abbrev cX11_good : ByteArray := prog_13_method_25_code
def yX11_good : MethodName := ⟨RX11, "good", "()Z"⟩
abbrev cX11_errs : ByteArray := prog_13_method_26_code
def yX11_errs : MethodName := ⟨RX11, "errs", "(I)V"⟩
abbrev cX11_is : ByteArray := prog_13_method_27_code
def yX11_is : MethodName := ⟨RX11, "is", "(Ljava/lang/String;)Z"⟩
abbrev cX11_takes : ByteArray := prog_13_method_28_code
def yX11_takes : MethodName := ⟨RX11, "takes", "(Ljava/lang/String;)Z"⟩
abbrev cX11_expects : ByteArray := prog_13_method_29_code
def yX11_expects : MethodName := ⟨RX11, "expects", "(Ljava/lang/String;)V"⟩
abbrev cX11_number : ByteArray := prog_13_method_30_code
def yX11_number : MethodName := ⟨RX11, "number", "(II)I"⟩
abbrev cX11_toldBy : ByteArray := prog_13_method_31_code
def yX11_toldBy : MethodName := ⟨RX11, "toldBy", "(Ljava/lang/String;II)I"⟩
abbrev cX11_fault : ByteArray := prog_13_method_32_code
def yX11_fault : MethodName := ⟨RX11, "fault", "(I)I"⟩
abbrev cX11_readFirst : ByteArray := prog_13_method_33_code
def yX11_readFirst : MethodName := ⟨RX11, "readFirst", "()V"⟩
abbrev cX11_readThread : ByteArray := prog_13_method_34_code
def yX11_readThread : MethodName := ⟨RX11, "readThread", "()V"⟩
abbrev cX11_readQuarrel : ByteArray := prog_13_method_35_code
def yX11_readQuarrel : MethodName := ⟨RX11, "readQuarrel", "()V"⟩
abbrev cX11_isFull : ByteArray := prog_13_method_36_code
def yX11_isFull : MethodName := ⟨RX11, "isFull", "()Z"⟩
abbrev cX11_readNext : ByteArray := prog_13_method_37_code
def yX11_readNext : MethodName := ⟨RX11, "readNext", "()V"⟩
abbrev cX11_readLine : ByteArray := prog_13_method_38_code
def yX11_readLine : MethodName := ⟨RX11, "readLine", "()V"⟩
abbrev cX11_cloth : ByteArray := prog_13_method_39_code
def yX11_cloth : MethodName := ⟨RX11, "cloth", "()I"⟩
abbrev cX11_thread : ByteArray := prog_13_method_40_code
def yX11_thread : MethodName := ⟨RX11, "thread", "(II)I"⟩
abbrev cX11_quarrel : ByteArray := prog_13_method_41_code
def yX11_quarrel : MethodName := ⟨RX11, "quarrel", "(II)I"⟩
abbrev cX11_threadsOf : ByteArray := prog_13_method_42_code
def yX11_threadsOf : MethodName := ⟨RX11, "threadsOf", "(I)I"⟩
abbrev cX11_threads : ByteArray := prog_13_method_43_code
def yX11_threads : MethodName := ⟨RX11, "threads", "(I)I"⟩
abbrev cX11_asItIs : ByteArray := prog_13_method_44_code
def yX11_asItIs : MethodName := ⟨RX11, "asItIs", "()V"⟩
abbrev cX11_isWhole : ByteArray := prog_13_method_45_code
def yX11_isWhole : MethodName := ⟨RX11, "isWhole", "(II)Z"⟩
abbrev cX11_strongestOf : ByteArray := prog_13_method_46_code
def yX11_strongestOf : MethodName := ⟨RX11, "strongestOf", "(II)I"⟩
abbrev cX11_shareEqually : ByteArray := prog_13_method_47_code
def yX11_shareEqually : MethodName := ⟨RX11, "shareEqually", "(III)V"⟩
abbrev cX11_shareByStrength : ByteArray := prog_13_method_48_code
def yX11_shareByStrength : MethodName := ⟨RX11, "shareByStrength", "(III)V"⟩
abbrev cX11_shareByHalves : ByteArray := prog_13_method_49_code
def yX11_shareByHalves : MethodName := ⟨RX11, "shareByHalves", "(III)V"⟩
abbrev cX11_shareOut : ByteArray := prog_13_method_50_code
def yX11_shareOut : MethodName := ⟨RX11, "shareOut", "(I)V"⟩
abbrev cX11_pullOnce : ByteArray := prog_13_method_51_code
def yX11_pullOnce : MethodName := ⟨RX11, "pullOnce", "(II)V"⟩
abbrev cX11_tearNow : ByteArray := prog_13_method_52_code
def yX11_tearNow : MethodName := ⟨RX11, "tearNow", "()I"⟩
abbrev cX11_quarrelNow : ByteArray := prog_13_method_53_code
def yX11_quarrelNow : MethodName := ⟨RX11, "quarrelNow", "(II)V"⟩
abbrev cX11_keepQuarrel : ByteArray := prog_13_method_54_code
def yX11_keepQuarrel : MethodName := ⟨RX11, "keepQuarrel", "(I)V"⟩
abbrev cX11_sewAll : ByteArray := prog_13_method_55_code
def yX11_sewAll : MethodName := ⟨RX11, "sewAll", "(I)V"⟩
abbrev cX11_goYear : ByteArray := prog_13_method_56_code
def yX11_goYear : MethodName := ⟨RX11, "goYear", "(I)V"⟩
abbrev cX11_goAll : ByteArray := prog_13_method_57_code
def yX11_goAll : MethodName := ⟨RX11, "goAll", "()V"⟩
abbrev cX11_asksCloth : ByteArray := prog_13_method_58_code
def yX11_asksCloth : MethodName := ⟨RX11, "asksCloth", "()Z"⟩
abbrev cX11_asksYear : ByteArray := prog_13_method_59_code
def yX11_asksYear : MethodName := ⟨RX11, "asksYear", "(I)Z"⟩
abbrev cX11_strengthOf : ByteArray := prog_13_method_60_code
def yX11_strengthOf : MethodName := ⟨RX11, "strengthOf", "(II)I"⟩
abbrev cX11_tornIn : ByteArray := prog_13_method_61_code
def yX11_tornIn : MethodName := ⟨RX11, "tornIn", "(I)I"⟩
abbrev cX11_wholeIn : ByteArray := prog_13_method_62_code
def yX11_wholeIn : MethodName := ⟨RX11, "wholeIn", "(I)I"⟩
abbrev cX11_hungBy : ByteArray := prog_13_method_63_code
def yX11_hungBy : MethodName := ⟨RX11, "hungBy", "(I)I"⟩
abbrev cX11_hungIn : ByteArray := prog_13_method_64_code
def yX11_hungIn : MethodName := ⟨RX11, "hungIn", "(I)I"⟩
abbrev cX11_hungLast : ByteArray := prog_13_method_65_code
def yX11_hungLast : MethodName := ⟨RX11, "hungLast", "()I"⟩
abbrev cX11_allClaims : ByteArray := prog_13_method_66_code
def yX11_allClaims : MethodName := ⟨RX11, "allClaims", "()I"⟩
abbrev cX11_strength : ByteArray := prog_13_method_67_code
def yX11_strength : MethodName := ⟨RX11, "strength", "(II)I"⟩
abbrev cX11_torn : ByteArray := prog_13_method_68_code
def yX11_torn : MethodName := ⟨RX11, "torn", "(I)I"⟩
abbrev cX11_tears : ByteArray := prog_13_method_69_code
def yX11_tears : MethodName := ⟨RX11, "tears", "(I)I"⟩
abbrev cX11_holesIn : ByteArray := prog_13_method_70_code
def yX11_holesIn : MethodName := ⟨RX11, "holesIn", "(I)I"⟩
abbrev cX11_holes : ByteArray := prog_13_method_71_code
def yX11_holes : MethodName := ⟨RX11, "holes", "(I)I"⟩
abbrev cX11_hole : ByteArray := prog_13_method_72_code
def yX11_hole : MethodName := ⟨RX11, "hole", "(I)I"⟩
abbrev cX11_hung : ByteArray := prog_13_method_73_code
def yX11_hung : MethodName := ⟨RX11, "hung", "(I)I"⟩
abbrev cX11_falls : ByteArray := prog_13_method_74_code
def yX11_falls : MethodName := ⟨RX11, "falls", "(I)I"⟩
abbrev cX11_frail : ByteArray := prog_13_method_75_code
def yX11_frail : MethodName := ⟨RX11, "frail", "()I"⟩
abbrev cX11_sumIn : ByteArray := prog_13_method_76_code
def yX11_sumIn : MethodName := ⟨RX11, "sumIn", "(I)I"⟩
abbrev cX11_sum : ByteArray := prog_13_method_77_code
def yX11_sum : MethodName := ⟨RX11, "sum", "(I)I"⟩
abbrev cX11_loses : ByteArray := prog_13_method_78_code
def yX11_loses : MethodName := ⟨RX11, "loses", "(I)I"⟩
abbrev cX11_stuff : ByteArray := prog_13_method_79_code
def yX11_stuff : MethodName := ⟨RX11, "stuff", "(II)I"⟩
abbrev cX11_bare : ByteArray := prog_13_method_80_code
def yX11_bare : MethodName := ⟨RX11, "bare", "(I)I"⟩
abbrev cX11_strongest : ByteArray := prog_13_method_81_code
def yX11_strongest : MethodName := ⟨RX11, "strongest", "(I)I"⟩
abbrev cX11_weakest : ByteArray := prog_13_method_82_code
def yX11_weakest : MethodName := ⟨RX11, "weakest", "(I)I"⟩
abbrev cX11_steps : ByteArray := prog_13_method_83_code
def yX11_steps : MethodName := ⟨RX11, "steps", "(II)I"⟩
abbrev cX11_asksQuarrel : ByteArray := prog_13_method_84_code
def yX11_asksQuarrel : MethodName := ⟨RX11, "asksQuarrel", "(I)Z"⟩
abbrev cX11_comes : ByteArray := prog_13_method_85_code
def yX11_comes : MethodName := ⟨RX11, "comes", "(I)Z"⟩
abbrev cX11_has : ByteArray := prog_13_method_86_code
def yX11_has : MethodName := ⟨RX11, "has", "(II)I"⟩
abbrev cX11_pulls : ByteArray := prog_13_method_87_code
def yX11_pulls : MethodName := ⟨RX11, "pulls", "(I)I"⟩
abbrev cX11_rips : ByteArray := prog_13_method_88_code
def yX11_rips : MethodName := ⟨RX11, "rips", "(I)I"⟩
abbrev cX11_through : ByteArray := prog_13_method_89_code
def yX11_through : MethodName := ⟨RX11, "through", "(I)I"⟩
abbrev cX11_hem : ByteArray := prog_13_method_90_code
def yX11_hem : MethodName := ⟨RX11, "hem", "(I)I"⟩
abbrev cX11_loud : ByteArray := prog_13_method_91_code
def yX11_loud : MethodName := ⟨RX11, "loud", "()I"⟩
abbrev cX11_worst : ByteArray := prog_13_method_92_code
def yX11_worst : MethodName := ⟨RX11, "worst", "()I"⟩
abbrev cX11_bears : ByteArray := prog_13_method_93_code
def yX11_bears : MethodName := ⟨RX11, "bears", "(I)I"⟩
abbrev cX11_worn : ByteArray := prog_13_method_94_code
def yX11_worn : MethodName := ⟨RX11, "worn", "(I)I"⟩
abbrev cX11_idle : ByteArray := prog_13_method_95_code
def yX11_idle : MethodName := ⟨RX11, "idle", "()I"⟩
abbrev cX11_tryOn : ByteArray := prog_13_method_96_code
def yX11_tryOn : MethodName := ⟨RX11, "tryOn", "(III)V"⟩
abbrev cX11_asksTry : ByteArray := prog_13_method_97_code
def yX11_asksTry : MethodName := ⟨RX11, "asksTry", "(III)Z"⟩
abbrev cX11_tries : ByteArray := prog_13_method_98_code
def yX11_tries : MethodName := ⟨RX11, "tries", "(III)I"⟩
abbrev cX11_would : ByteArray := prog_13_method_99_code
def yX11_would : MethodName := ⟨RX11, "would", "(IIII)I"⟩
abbrev cX11_lets : ByteArray := prog_13_method_100_code
def yX11_lets : MethodName := ⟨RX11, "lets", "(III)I"⟩
abbrev cX11_gateOf : ByteArray := prog_13_method_101_code
def yX11_gateOf : MethodName := ⟨RX11, "gateOf", "(IIZ)I"⟩
abbrev cX11_orNone : ByteArray := prog_13_method_102_code
def yX11_orNone : MethodName := ⟨RX11, "orNone", "(II)I"⟩
abbrev cX11_gate : ByteArray := prog_13_method_103_code
def yX11_gate : MethodName := ⟨RX11, "gate", "(II)I"⟩
abbrev cX11_bursts : ByteArray := prog_13_method_104_code
def yX11_bursts : MethodName := ⟨RX11, "bursts", "(II)I"⟩
abbrev cX11_soft : ByteArray := prog_13_method_105_code
def yX11_soft : MethodName := ⟨RX11, "soft", "(I)I"⟩
abbrev cX11_wordOf : ByteArray := prog_13_method_106_code
def yX11_wordOf : MethodName := ⟨RX11, "wordOf", "(II)I"⟩
abbrev cX11_word : ByteArray := prog_13_method_107_code
def yX11_word : MethodName := ⟨RX11, "word", "(II)I"⟩
abbrev cX11_darn : ByteArray := prog_13_method_108_code
def yX11_darn : MethodName := ⟨RX11, "darn", "(I)I"⟩
abbrev cX11_mend : ByteArray := prog_13_method_109_code
def yX11_mend : MethodName := ⟨RX11, "mend", "(I)I"⟩
abbrev cX11_findWay : ByteArray := prog_13_method_110_code
def yX11_findWay : MethodName := ⟨RX11, "findWay", "(II)Z"⟩
abbrev cX11_cut : ByteArray := prog_13_method_111_code
def yX11_cut : MethodName := ⟨RX11, "cut", "(II)I"⟩
abbrev cX11_keys : ByteArray := prog_13_method_112_code
def yX11_keys : MethodName := ⟨RX11, "keys", "(II)I"⟩
abbrev cX11_blame : ByteArray := prog_13_method_113_code
def yX11_blame : MethodName := ⟨RX11, "blame", "()I"⟩
abbrev cX11_hungWithout : ByteArray := prog_13_method_114_code
def yX11_hungWithout : MethodName := ⟨RX11, "hungWithout", "(I)I"⟩
abbrev cX11_dear : ByteArray := prog_13_method_115_code
def yX11_dear : MethodName := ⟨RX11, "dear", "()I"⟩
abbrev cX11_worse : ByteArray := prog_13_method_116_code
def yX11_worse : MethodName := ⟨RX11, "worse", "()I"⟩
abbrev cX11_numberAt : ByteArray := prog_13_method_117_code
def yX11_numberAt : MethodName := ⟨RX11, "numberAt", "(II)J"⟩
abbrev cX11_askSeen : ByteArray := prog_13_method_118_code
def yX11_askSeen : MethodName := ⟨RX11, "askSeen", "(I)I"⟩
abbrev cX11_isSeen : ByteArray := prog_13_method_119_code
def yX11_isSeen : MethodName := ⟨RX11, "isSeen", "(I)Z"⟩
abbrev cX11_layFits : ByteArray := prog_13_method_120_code
def yX11_layFits : MethodName := ⟨RX11, "layFits", "(II)I"⟩
abbrev cX11_fits : ByteArray := prog_13_method_121_code
def yX11_fits : MethodName := ⟨RX11, "fits", "(II)I"⟩
abbrev cX11_least : ByteArray := prog_13_method_122_code
def yX11_least : MethodName := ⟨RX11, "least", "(II)I"⟩
abbrev cX11_greatest : ByteArray := prog_13_method_123_code
def yX11_greatest : MethodName := ⟨RX11, "greatest", "(II)I"⟩
abbrev cX11_worstIn : ByteArray := prog_13_method_124_code
def yX11_worstIn : MethodName := ⟨RX11, "worstIn", "(I)I"⟩
abbrev cX11_askOf : ByteArray := prog_13_method_125_code
def yX11_askOf : MethodName := ⟨RX11, "askOf", "()I"⟩
abbrev cX11_ask : ByteArray := prog_13_method_126_code
def yX11_ask : MethodName := ⟨RX11, "ask", "(II)I"⟩
abbrev cX11_leaves : ByteArray := prog_13_method_127_code
def yX11_leaves : MethodName := ⟨RX11, "leaves", "(II)I"⟩
abbrev cX11_laws : ByteArray := prog_13_method_128_code
def yX11_laws : MethodName := ⟨RX11, "laws", "(I)I"⟩
abbrev cX11_hungByLaw : ByteArray := prog_13_method_129_code
def yX11_hungByLaw : MethodName := ⟨RX11, "hungByLaw", "(I)I"⟩
abbrev cX11_by : ByteArray := prog_13_method_130_code
def yX11_by : MethodName := ⟨RX11, "by", "(I)I"⟩
abbrev cX11_law : ByteArray := prog_13_method_131_code
def yX11_law : MethodName := ⟨RX11, "law", "()I"⟩
abbrev cX11_worthOf : ByteArray := prog_13_method_132_code
def yX11_worthOf : MethodName := ⟨RX11, "worthOf", "(I)I"⟩
abbrev cX11_worth : ByteArray := prog_13_method_133_code
def yX11_worth : MethodName := ⟨RX11, "worth", "(I)I"⟩
abbrev cX11_factorial : ByteArray := prog_13_method_134_code
def yX11_factorial : MethodName := ⟨RX11, "factorial", "(I)I"⟩
abbrev cX11_divisor : ByteArray := prog_13_method_135_code
def yX11_divisor : MethodName := ⟨RX11, "divisor", "(JJ)J"⟩
abbrev cX11_part : ByteArray := prog_13_method_136_code
def yX11_part : MethodName := ⟨RX11, "part", "(JJI)J"⟩
abbrev cX11_share : ByteArray := prog_13_method_137_code
def yX11_share : MethodName := ⟨RX11, "share", "(II)I"⟩
abbrev cX11_getsBy : ByteArray := prog_13_method_138_code
def yX11_getsBy : MethodName := ⟨RX11, "getsBy", "(IIIII)I"⟩
abbrev cX11_areTwo : ByteArray := prog_13_method_139_code
def yX11_areTwo : MethodName := ⟨RX11, "areTwo", "(II)Z"⟩
abbrev cX11_rests : ByteArray := prog_13_method_140_code
def yX11_rests : MethodName := ⟨RX11, "rests", "(II)I"⟩
abbrev cX11_gets : ByteArray := prog_13_method_141_code
def yX11_gets : MethodName := ⟨RX11, "gets", "(IIII)I"⟩
abbrev cX11_layChance : ByteArray := prog_13_method_142_code
def yX11_layChance : MethodName := ⟨RX11, "layChance", "(I)V"⟩
abbrev cX11_chance : ByteArray := prog_13_method_143_code
def yX11_chance : MethodName := ⟨RX11, "chance", "(II)J"⟩
abbrev cX11_mean : ByteArray := prog_13_method_144_code
def yX11_mean : MethodName := ⟨RX11, "mean", "(I)J"⟩
abbrev cX11_keepAct : ByteArray := prog_13_method_145_code
def yX11_keepAct : MethodName := ⟨RX11, "keepAct", "(I)I"⟩
abbrev cX11_sews : ByteArray := prog_13_method_146_code
def yX11_sews : MethodName := ⟨RX11, "sews", "(III)I"⟩
abbrev cX11_quarrels : ByteArray := prog_13_method_147_code
def yX11_quarrels : MethodName := ⟨RX11, "quarrels", "(III)I"⟩
abbrev cX11_undo : ByteArray := prog_13_method_148_code
def yX11_undo : MethodName := ⟨RX11, "undo", "()I"⟩
abbrev cX11_anew : ByteArray := prog_13_method_149_code
def yX11_anew : MethodName := ⟨RX11, "anew", "()I"⟩
abbrev cX11_goDrawn : ByteArray := prog_13_method_150_code
def yX11_goDrawn : MethodName := ⟨RX11, "goDrawn", "(J)V"⟩
abbrev cX11_isSeed : ByteArray := prog_13_method_151_code
def yX11_isSeed : MethodName := ⟨RX11, "isSeed", "(I)Z"⟩
abbrev cX11_drawn : ByteArray := prog_13_method_152_code
def yX11_drawn : MethodName := ⟨RX11, "drawn", "(II)I"⟩
abbrev cX11_luck : ByteArray := prog_13_method_153_code
def yX11_luck : MethodName := ⟨RX11, "luck", "(III)I"⟩
abbrev cX11_rate : ByteArray := prog_13_method_154_code
def yX11_rate : MethodName := ⟨RX11, "rate", "(II)I"⟩
abbrev cX11_count : ByteArray := prog_13_method_155_code
def yX11_count : MethodName := ⟨RX11, "count", "(I)I"⟩
abbrev cX11_isSlot : ByteArray := prog_13_method_156_code
def yX11_isSlot : MethodName := ⟨RX11, "isSlot", "(I)Z"⟩
abbrev cX11_clipped : ByteArray := prog_13_method_157_code
def yX11_clipped : MethodName := ⟨RX11, "clipped", "(JI)J"⟩
abbrev cX11_row : ByteArray := prog_13_method_158_code
def yX11_row : MethodName := ⟨RX11, "row", "(III)I"⟩
abbrev cX11_write : ByteArray := prog_13_method_159_code
def yX11_write : MethodName := ⟨RX11, "write", "(IIJ)I"⟩
abbrev cX11_paste : ByteArray := prog_13_method_160_code
def yX11_paste : MethodName := ⟨RX11, "paste", "(IIIII)I"⟩
def RJx145de : String := "java/io/Serializable"
def TJx145de : u_T := fun k => match k with
  | _ => ("", "", "", false)
def tyJx145de : Nat → FieldType := fun k => match k with
  | _ => .int
abbrev wsJx145de0 : List Cond := u_ws RJx145de TJx145de 0
theorem nmJx145de : ∀ a, a < 0 → ∀ b, b < 0 → a ≠ b → (TJx145de a).2.1 ≠ (TJx145de b).2.1 := by decide +kernel
theorem tyJx145de_ok : ∀ k, k < 0 → parseFieldDescriptor (TJx145de k).2.2.1 = some (tyJx145de k) := by decide +kernel
def RJx9f9b0 : String := "java/lang/CharSequence"
def TJx9f9b0 : u_T := fun k => match k with
  | _ => ("", "", "", false)
def tyJx9f9b0 : Nat → FieldType := fun k => match k with
  | _ => .int
abbrev wsJx9f9b00 : List Cond := u_ws RJx9f9b0 TJx9f9b0 0
theorem nmJx9f9b0 : ∀ a, a < 0 → ∀ b, b < 0 → a ≠ b → (TJx9f9b0 a).2.1 ≠ (TJx9f9b0 b).2.1 := by decide +kernel
theorem tyJx9f9b0_ok : ∀ k, k < 0 → parseFieldDescriptor (TJx9f9b0 k).2.2.1 = some (tyJx9f9b0 k) := by decide +kernel
def RJxb160c : String := "java/lang/Comparable"
def TJxb160c : u_T := fun k => match k with
  | _ => ("", "", "", false)
def tyJxb160c : Nat → FieldType := fun k => match k with
  | _ => .int
abbrev wsJxb160c0 : List Cond := u_ws RJxb160c TJxb160c 0
theorem nmJxb160c : ∀ a, a < 0 → ∀ b, b < 0 → a ≠ b → (TJxb160c a).2.1 ≠ (TJxb160c b).2.1 := by decide +kernel
theorem tyJxb160c_ok : ∀ k, k < 0 → parseFieldDescriptor (TJxb160c k).2.2.1 = some (tyJxb160c k) := by decide +kernel
def RJ6 : String := "java/lang/Integer"
def TJ6 : u_T := fun k => match k with
  | _ => ("", "", "", false)
def tyJ6 : Nat → FieldType := fun k => match k with
  | _ => .int
abbrev wsJ60 : List Cond := u_ws RJ6 TJ6 0
theorem nmJ6 : ∀ a, a < 0 → ∀ b, b < 0 → a ≠ b → (TJ6 a).2.1 ≠ (TJ6 b).2.1 := by decide +kernel
theorem tyJ6_ok : ∀ k, k < 0 → parseFieldDescriptor (TJ6 k).2.2.1 = some (tyJ6 k) := by decide +kernel
abbrev cJ6_bitCount_0f7a4 : ByteArray := prog_14_method_49_code
def yJ6_bitCount_0f7a4 : MethodName := ⟨RJ6, "bitCount", "(I)I"⟩
def RJ9 : String := "java/lang/Math"
def TJ9 : u_T := fun k => match k with
  | _ => ("", "", "", false)
def tyJ9 : Nat → FieldType := fun k => match k with
  | _ => .int
abbrev wsJ90 : List Cond := u_ws RJ9 TJ9 0
theorem nmJ9 : ∀ a, a < 0 → ∀ b, b < 0 → a ≠ b → (TJ9 a).2.1 ≠ (TJ9 b).2.1 := by decide +kernel
theorem tyJ9_ok : ∀ k, k < 0 → parseFieldDescriptor (TJ9 k).2.2.1 = some (tyJ9 k) := by decide +kernel
abbrev cJ9_abs_067f4 : ByteArray := prog_15_method_61_code
def yJ9_abs_067f4 : MethodName := ⟨RJ9, "abs", "(J)J"⟩
abbrev cJ9_max_7cf53 : ByteArray := prog_15_method_65_code
def yJ9_max_7cf53 : MethodName := ⟨RJ9, "max", "(II)I"⟩
abbrev cJ9_min_7cf53 : ByteArray := prog_15_method_69_code
def yJ9_min_7cf53 : MethodName := ⟨RJ9, "min", "(II)I"⟩
def RJ0 : String := "java/lang/String"
def TJ0 : u_T := fun k => match k with
  | _ => ("", "", "", false)
def tyJ0 : Nat → FieldType := fun k => match k with
  | _ => .int
abbrev wsJ00 : List Cond := u_ws RJ0 TJ0 0
theorem nmJ0 : ∀ a, a < 0 → ∀ b, b < 0 → a ≠ b → (TJ0 a).2.1 ≠ (TJ0 b).2.1 := by decide +kernel
theorem tyJ0_ok : ∀ k, k < 0 → parseFieldDescriptor (TJ0 k).2.2.1 = some (tyJ0 k) := by decide +kernel
abbrev cJ0_length_8abf5 : ByteArray := prog_16_method_54_code
def yJ0_length_8abf5 : MethodName := ⟨RJ0, "length", "()I"⟩
abbrev cJ0_charAt_5068e : ByteArray := prog_16_method_56_code
def yJ0_charAt_5068e : MethodName := ⟨RJ0, "charAt", "(I)C"⟩
abbrev cJ0_coder_7d493 : ByteArray := prog_16_method_152_code
def yJ0_coder_7d493 : MethodName := ⟨RJ0, "coder", "()B"⟩
abbrev cJ0_isLatin1_aae02 : ByteArray := prog_16_method_154_code
def yJ0_isLatin1_aae02 : MethodName := ⟨RJ0, "isLatin1", "()Z"⟩
abbrev cJ0_checkIndex_df160 : ByteArray := prog_16_method_155_code
def yJ0_checkIndex_df160 : MethodName := ⟨RJ0, "checkIndex", "(II)V"⟩
def RJ1 : String := "java/lang/StringLatin1"
def TJ1 : u_T := fun k => match k with
  | _ => ("", "", "", false)
def tyJ1 : Nat → FieldType := fun k => match k with
  | _ => .int
abbrev wsJ10 : List Cond := u_ws RJ1 TJ1 0
theorem nmJ1 : ∀ a, a < 0 → ∀ b, b < 0 → a ≠ b → (TJ1 a).2.1 ≠ (TJ1 b).2.1 := by decide +kernel
theorem tyJ1_ok : ∀ k, k < 0 → parseFieldDescriptor (TJ1 k).2.2.1 = some (tyJ1 k) := by decide +kernel
abbrev cJ1_charAt_3b067 : ByteArray := prog_17_method_2_code
def yJ1_charAt_3b067 : MethodName := ⟨RJ1, "charAt", "([BI)C"⟩
def RJ2 : String := "java/lang/StringUTF16"
def TJ2 : u_T := fun k => match k with
  | _ => ("", "", "", false)
def tyJ2 : Nat → FieldType := fun k => match k with
  | _ => .int
abbrev wsJ20 : List Cond := u_ws RJ2 TJ2 0
theorem nmJ2 : ∀ a, a < 0 → ∀ b, b < 0 → a ≠ b → (TJ2 a).2.1 ≠ (TJ2 b).2.1 := by decide +kernel
theorem tyJ2_ok : ∀ k, k < 0 → parseFieldDescriptor (TJ2 k).2.2.1 = some (tyJ2 k) := by decide +kernel
abbrev cJ2_getChar_3b067 : ByteArray := prog_18_method_5_code
def yJ2_getChar_3b067 : MethodName := ⟨RJ2, "getChar", "([BI)C"⟩
abbrev cJ2_length_9d52b : ByteArray := prog_18_method_6_code
def yJ2_length_9d52b : MethodName := ⟨RJ2, "length", "([B)I"⟩
abbrev cJ2_charAt_3b067 : ByteArray := prog_18_method_83_code
def yJ2_charAt_3b067 : MethodName := ⟨RJ2, "charAt", "([BI)C"⟩
abbrev cJ2_checkIndex_2214a : ByteArray := prog_18_method_91_code
def yJ2_checkIndex_2214a : MethodName := ⟨RJ2, "checkIndex", "(I[B)V"⟩
def RJ10 : String := "java/lang/System"
def TJ10 : u_T := fun k => match k with
  | _ => ("", "", "", false)
def tyJ10 : Nat → FieldType := fun k => match k with
  | _ => .int
abbrev wsJ100 : List Cond := u_ws RJ10 TJ10 0
theorem nmJ10 : ∀ a, a < 0 → ∀ b, b < 0 → a ≠ b → (TJ10 a).2.1 ≠ (TJ10 b).2.1 := by decide +kernel
theorem tyJ10_ok : ∀ k, k < 0 → parseFieldDescriptor (TJ10 k).2.2.1 = some (tyJ10 k) := by decide +kernel
def RJxfd54e : String := "java/lang/constant/Constable"
def TJxfd54e : u_T := fun k => match k with
  | _ => ("", "", "", false)
def tyJxfd54e : Nat → FieldType := fun k => match k with
  | _ => .int
abbrev wsJxfd54e0 : List Cond := u_ws RJxfd54e TJxfd54e 0
theorem nmJxfd54e : ∀ a, a < 0 → ∀ b, b < 0 → a ≠ b → (TJxfd54e a).2.1 ≠ (TJxfd54e b).2.1 := by decide +kernel
theorem tyJxfd54e_ok : ∀ k, k < 0 → parseFieldDescriptor (TJxfd54e k).2.2.1 = some (tyJxfd54e k) := by decide +kernel
def RJx3cf43 : String := "java/lang/constant/ConstantDesc"
def TJx3cf43 : u_T := fun k => match k with
  | _ => ("", "", "", false)
def tyJx3cf43 : Nat → FieldType := fun k => match k with
  | _ => .int
abbrev wsJx3cf430 : List Cond := u_ws RJx3cf43 TJx3cf43 0
theorem nmJx3cf43 : ∀ a, a < 0 → ∀ b, b < 0 → a ≠ b → (TJx3cf43 a).2.1 ≠ (TJx3cf43 b).2.1 := by decide +kernel
theorem tyJx3cf43_ok : ∀ k, k < 0 → parseFieldDescriptor (TJx3cf43 k).2.2.1 = some (tyJx3cf43 k) := by decide +kernel
def RJ7 : String := "java/util/Arrays"
def TJ7 : u_T := fun k => match k with
  | _ => ("", "", "", false)
def tyJ7 : Nat → FieldType := fun k => match k with
  | _ => .int
abbrev wsJ70 : List Cond := u_ws RJ7 TJ7 0
theorem nmJ7 : ∀ a, a < 0 → ∀ b, b < 0 → a ≠ b → (TJ7 a).2.1 ≠ (TJ7 b).2.1 := by decide +kernel
theorem tyJ7_ok : ∀ k, k < 0 → parseFieldDescriptor (TJ7 k).2.2.1 = some (tyJ7 k) := by decide +kernel
abbrev cJ7_fill_d0a16 : ByteArray := prog_20_method_101_code
def yJ7_fill_d0a16 : MethodName := ⟨RJ7, "fill", "([JJ)V"⟩
abbrev cJ7_fill_53178 : ByteArray := prog_20_method_103_code
def yJ7_fill_53178 : MethodName := ⟨RJ7, "fill", "([II)V"⟩
def RJ3 : String := "jdk/internal/util/Preconditions"
def TJ3 : u_T := fun k => match k with
  | _ => ("", "", "", false)
def tyJ3 : Nat → FieldType := fun k => match k with
  | _ => .int
abbrev wsJ30 : List Cond := u_ws RJ3 TJ3 0
theorem nmJ3 : ∀ a, a < 0 → ∀ b, b < 0 → a ≠ b → (TJ3 a).2.1 ≠ (TJ3 b).2.1 := by decide +kernel
theorem tyJ3_ok : ∀ k, k < 0 → parseFieldDescriptor (TJ3 k).2.2.1 = some (tyJ3 k) := by decide +kernel
abbrev cJ3_checkIndex_8e157 : ByteArray := prog_21_method_11_code
def yJ3_checkIndex_8e157 : MethodName := ⟨RJ3, "checkIndex", "(IILjava/util/function/BiFunction;)I"⟩
def RL : String := "ArgumentMenderLaw"
abbrev cL_law : ByteArray := code
def yL_law : MethodName := ⟨RL, "law", "([I)Z"⟩
abbrev vwCl : List vw_C := [(RX0, TX0, 5), (RX1, TX1, 16), (RX2, TX2, 5), (RX3, TX3, 4), (RX4, TX4, 3), (RX5, TX5, 6), (RX6, TX6, 7), (RX7, TX7, 10), (RX8, TX8, 2), (RX9, TX9, 12), (RX10, TX10, 9), (RX11, TX11, 49)]
def am_on (o : Nat) : String := ([RX0, RX1, RX2, RX3, RX4, RX5, RX6, RX7, RX8, RX9, RX10, RX11, RJx145de, RJx9f9b0, RJxb160c, RJ6, RJ9, RJ0, RJ1, RJ2, RJ10, RJxfd54e, RJx3cf43, RJ7, RJ3, RL] : List String).getD o ""
def am_tb (k : Nat) : List Cond := match k with
  | 0 => k2_sels lw_privs
  | 1 => tables_1_1
  | 2 => tables_1_2
  | 3 => tables_1_3
  | 4 => tables_1_4
  | 5 => tables_1_5
  | 6 => tables_1_6
  | 7 => tables_1_7
  | 8 => tables_1_8
  | _ => tables_1_9
def am_at (p : Nat) : Option Cond := (am_tb (p / 1000))[p % 1000]?
theorem am_at_in {p : Nat} {w : Cond} (h : am_at p = some w) : w ∈ lw_tbl := by
  have h1 : w ∈ am_tb (p / 1000) := List.mem_of_getElem? h
  unfold lw_tbl tables_1
  generalize p / 1000 = k at h1
  simp only [List.mem_append]
  match k, h1 with
  | 0, h1 => exact Or.inl h1
  | 1, h1 => exact Or.inr (Or.inl h1)
  | 2, h1 => exact Or.inr (Or.inr (Or.inl h1))
  | 3, h1 => exact Or.inr (Or.inr (Or.inr (Or.inl h1)))
  | 4, h1 => exact Or.inr (Or.inr (Or.inr (Or.inr (Or.inl h1))))
  | 5, h1 => exact Or.inr (Or.inr (Or.inr (Or.inr (Or.inr (Or.inl h1)))))
  | 6, h1 => exact Or.inr (Or.inr (Or.inr (Or.inr (Or.inr (Or.inr (Or.inl h1))))))
  | 7, h1 => exact Or.inr (Or.inr (Or.inr (Or.inr (Or.inr (Or.inr (Or.inr (Or.inl h1)))))))
  | 8, h1 => exact Or.inr (Or.inr (Or.inr (Or.inr (Or.inr (Or.inr (Or.inr (Or.inr (Or.inl h1))))))))
  | k + 9, h1 => exact Or.inr (Or.inr (Or.inr (Or.inr (Or.inr (Or.inr (Or.inr (Or.inr (Or.inr h1))))))))
abbrev am_MT : Type := Nat × Nat × Nat × Nat × Nat × Nat × Nat
def am_mt0 : List am_MT := [(0, 2, 0, 1076, 1075, 0, 1005),
  (4, 0, 0, 5159, 5157, 5158, 1005),
  (1, 0, 0, 3132, 3130, 3131, 1005),
  (0, 2, 1, 1070, 1069, 0, 1004),
  (0, 0, 1, 3001, 2239, 3000, 1004),
  (0, 0, 1, 3121, 3119, 3120, 1004),
  (1, 0, 1, 3125, 3123, 3124, 1004),
  (0, 0, 1, 4004, 4002, 4003, 1004),
  (1, 0, 1, 3232, 3230, 3231, 1004),
  (1, 0, 1, 3216, 3214, 3215, 1004),
  (1, 0, 1, 3224, 3222, 3223, 1004),
  (1, 0, 1, 4000, 3238, 3239, 1004),
  (1, 0, 1, 4064, 4062, 4063, 1004),
  (0, 0, 1, 4078, 4076, 4077, 1004),
  (0, 0, 1, 5096, 5094, 5095, 1004),
  (0, 0, 1, 5001, 4239, 5000, 1004),
  (0, 2, 2, 1033, 1032, 0, 1002),
  (0, 0, 2, 2237, 2235, 2236, 1002),
  (0, 0, 2, 3021, 3020, 2, 1002),
  (0, 0, 2, 3078, 3077, 3, 1002)]
def am_mt1 : List am_MT := [(0, 0, 2, 3098, 3097, 7, 1002),
  (0, 0, 2, 3103, 3102, 8, 1002),
  (0, 0, 2, 3111, 3110, 9, 1002),
  (1, 0, 2, 3083, 3082, 4, 1002),
  (2, 0, 2, 3091, 3090, 6, 1002),
  (0, 0, 2, 3117, 3116, 10, 1002),
  (1, 0, 2, 3087, 3086, 5, 1002),
  (0, 2, 3, 2145, 2144, 0, 1010),
  (2, 0, 3, 5037, 5035, 5036, 1010),
  (2, 1, 3, 5040, 5039, 0, 1010),
  (3, 0, 3, 5045, 5043, 5044, 1010),
  (3, 0, 3, 5076, 5074, 5075, 1010),
  (1, 0, 3, 5051, 5050, 31, 1010),
  (0, 2, 4, 2171, 2170, 0, 1011),
  (0, 0, 4, 5033, 5031, 5032, 1011),
  (2, 0, 4, 5216, 5214, 5215, 1011),
  (1, 0, 4, 5227, 5225, 5226, 1011),
  (2, 0, 4, 5235, 5233, 5234, 1011),
  (0, 2, 5, 1039, 1038, 0, 1003),
  (1, 0, 5, 2225, 2223, 2224, 1003)]
def am_mt2 : List am_MT := [(0, 0, 5, 3005, 3003, 3004, 1003),
  (0, 0, 5, 3009, 3008, 0, 1003),
  (0, 0, 5, 3013, 3012, 1, 1003),
  (1, 0, 5, 3026, 3024, 3025, 1003),
  (0, 2, 6, 2111, 2110, 0, 1009),
  (0, 0, 6, 3203, 3201, 3202, 1009),
  (3, 0, 6, 4190, 4188, 4189, 1009),
  (2, 0, 6, 5005, 5003, 5004, 1009),
  (2, 0, 6, 5084, 5082, 5083, 1009),
  (2, 0, 6, 5013, 5011, 5012, 1009),
  (2, 0, 6, 5106, 5104, 5105, 1009),
  (5, 0, 6, 5125, 5123, 5124, 1009),
  (4, 0, 6, 4151, 4149, 4150, 1009),
  (4, 0, 6, 4169, 4167, 4168, 1009),
  (3, 0, 6, 4229, 4227, 4228, 1009),
  (0, 2, 7, 1237, 1236, 0, 1007),
  (5, 0, 7, 3162, 3160, 3161, 1007),
  (2, 0, 7, 3166, 3165, 14, 1007),
  (4, 0, 7, 3171, 3170, 15, 1007),
  (3, 0, 7, 3175, 3174, 16, 1007)]
def am_mt3 : List am_MT := [(3, 0, 7, 3179, 3178, 17, 1007),
  (3, 0, 7, 3183, 3182, 18, 1007),
  (2, 0, 7, 3187, 3186, 19, 1007),
  (2, 0, 7, 3191, 3190, 20, 1007),
  (0, 2, 8, 2098, 2097, 0, 1008),
  (3, 0, 8, 4020, 4018, 4019, 1008),
  (2, 0, 8, 4032, 4030, 4031, 1008),
  (3, 0, 8, 4090, 4088, 4089, 1008),
  (3, 0, 8, 4209, 4207, 4208, 1008),
  (4, 0, 8, 4213, 4212, 27, 1008),
  (3, 0, 8, 4221, 4220, 28, 1008),
  (2, 1, 8, 4217, 4216, 0, 1008),
  (0, 2, 9, 1229, 1228, 0, 1006),
  (1, 0, 9, 3141, 3139, 3140, 1006),
  (1, 0, 9, 3146, 3144, 3145, 1006),
  (1, 0, 9, 3150, 3149, 12, 1006),
  (3, 0, 9, 3157, 3156, 13, 1006),
  (1, 0, 9, 3199, 3198, 22, 1006),
  (1, 0, 9, 3195, 3194, 21, 1006),
  (0, 2, 10, 1025, 1024, 0, 1001)]
def am_mt4 : List am_MT := [(5, 0, 10, 2221, 2219, 2220, 1001),
  (1, 0, 10, 2229, 2227, 2228, 1001),
  (0, 0, 10, 2233, 2231, 2232, 1001),
  (1, 0, 10, 3208, 3206, 3207, 1001),
  (0, 0, 10, 3137, 3136, 11, 1001),
  (2, 0, 10, 3212, 3210, 3211, 1001),
  (2, 0, 10, 3220, 3218, 3219, 1001),
  (1, 0, 10, 3228, 3226, 3227, 1001),
  (2, 0, 10, 3236, 3234, 3235, 1001),
  (1, 0, 10, 4008, 4006, 4007, 1001),
  (1, 0, 10, 4012, 4010, 4011, 1001),
  (1, 0, 10, 4016, 4014, 4015, 1001),
  (1, 0, 10, 4024, 4022, 4023, 1001),
  (1, 0, 10, 4028, 4026, 4027, 1001),
  (1, 0, 10, 4036, 4034, 4035, 1001),
  (1, 0, 10, 4040, 4039, 23, 1001),
  (1, 0, 10, 4044, 4042, 4043, 1001),
  (1, 0, 10, 4048, 4047, 24, 1001),
  (1, 0, 10, 4052, 4050, 4051, 1001),
  (1, 0, 10, 4056, 4054, 4055, 1001)]
def am_mt5 : List am_MT := [(1, 0, 10, 4060, 4058, 4059, 1001),
  (1, 0, 10, 4069, 4067, 4068, 1001),
  (0, 0, 10, 4073, 4071, 4072, 1001),
  (2, 0, 10, 4082, 4080, 4081, 1001),
  (2, 0, 10, 4086, 4084, 4085, 1001),
  (2, 0, 10, 4094, 4092, 4093, 1001),
  (1, 0, 10, 4098, 4096, 4097, 1001),
  (1, 0, 10, 4102, 4100, 4101, 1001),
  (1, 0, 10, 4106, 4104, 4105, 1001),
  (1, 0, 10, 4110, 4108, 4109, 1001),
  (0, 0, 10, 4114, 4112, 4113, 1001),
  (0, 0, 10, 4118, 4116, 4117, 1001),
  (1, 0, 10, 4128, 4126, 4127, 1001),
  (1, 0, 10, 4132, 4130, 4131, 1001),
  (0, 0, 10, 4136, 4134, 4135, 1001),
  (3, 0, 10, 4144, 4143, 25, 1001),
  (3, 0, 10, 4140, 4138, 4139, 1001),
  (4, 0, 10, 4157, 4155, 4156, 1001),
  (3, 0, 10, 4161, 4159, 4160, 1001),
  (2, 0, 10, 4165, 4163, 4164, 1001)]
def am_mt6 : List am_MT := [(1, 0, 10, 4174, 4172, 4173, 1001),
  (2, 0, 10, 4178, 4176, 4177, 1001),
  (2, 0, 10, 4182, 4180, 4181, 1001),
  (2, 0, 10, 4186, 4185, 26, 1001),
  (1, 0, 10, 4197, 4195, 4196, 1001),
  (1, 0, 10, 4201, 4199, 4200, 1001),
  (2, 0, 10, 4205, 4203, 4204, 1001),
  (2, 0, 10, 4225, 4223, 4224, 1001),
  (0, 0, 10, 4237, 4236, 29, 1001),
  (0, 0, 10, 4233, 4231, 4232, 1001),
  (0, 0, 10, 5009, 5007, 5008, 1001),
  (0, 0, 10, 5018, 5016, 5017, 1001),
  (2, 0, 10, 5026, 5025, 30, 1001),
  (2, 0, 10, 5022, 5020, 5021, 1001),
  (2, 0, 10, 5055, 5053, 5054, 1001),
  (2, 0, 10, 5059, 5057, 5058, 1001),
  (2, 0, 10, 5063, 5061, 5062, 1001),
  (2, 0, 10, 5067, 5065, 5066, 1001),
  (1, 0, 10, 5072, 5070, 5071, 1001),
  (1, 0, 10, 5080, 5078, 5079, 1001)]
def am_mt7 : List am_MT := [(0, 0, 10, 5088, 5086, 5087, 1001),
  (1, 0, 10, 5092, 5090, 5091, 1001),
  (2, 0, 10, 5100, 5098, 5099, 1001),
  (2, 0, 10, 5121, 5120, 32, 1001),
  (2, 0, 10, 5117, 5115, 5116, 1001),
  (4, 0, 10, 5129, 5127, 5128, 1001),
  (2, 0, 10, 5133, 5131, 5132, 1001),
  (1, 0, 10, 5147, 5145, 5146, 1001),
  (2, 0, 10, 5138, 5137, 33, 1001),
  (2, 1, 10, 5142, 5141, 0, 1001),
  (3, 1, 10, 5110, 5109, 0, 1001),
  (3, 0, 10, 5151, 5149, 5150, 1001),
  (3, 0, 10, 5163, 5161, 5162, 1001),
  (4, 0, 10, 5155, 5154, 34, 1001),
  (0, 0, 10, 5167, 5165, 5166, 1001),
  (0, 0, 10, 5171, 5169, 5170, 1001),
  (2, 0, 10, 5175, 5173, 5174, 1001),
  (1, 0, 10, 5180, 5179, 35, 1001),
  (3, 0, 10, 5188, 5186, 5187, 1001),
  (2, 0, 10, 5192, 5190, 5191, 1001)]
def am_mt8 : List am_MT := [(1, 0, 10, 5196, 5194, 5195, 1001),
  (0, 0, 10, 5200, 5199, 36, 1001),
  (1, 0, 10, 5204, 5202, 5203, 1001),
  (1, 0, 10, 5208, 5206, 5207, 1001),
  (1, 1, 10, 5029, 5028, 0, 1001),
  (3, 1, 10, 4147, 4146, 0, 1001),
  (3, 0, 10, 5212, 5210, 5211, 1001),
  (3, 0, 10, 5223, 5221, 5222, 1001),
  (5, 0, 10, 5231, 5229, 5230, 1001),
  (0, 2, 11, 6001, 6000, 0, 1012),
  (3, 1, 11, 6157, 6156, 0, 1012),
  (1, 1, 11, 7238, 7237, 0, 1012),
  (2, 1, 11, 7089, 7088, 0, 1012),
  (1, 0, 11, 6153, 6151, 6152, 1012),
  (1, 0, 11, 6161, 6159, 6160, 1012),
  (0, 0, 11, 7150, 7149, 79, 1012),
  (0, 0, 11, 7093, 7092, 65, 1012),
  (0, 0, 11, 7057, 7056, 58, 1012),
  (0, 0, 11, 7029, 7028, 53, 1012),
  (0, 0, 11, 7041, 7040, 55, 1012)]
def am_mt9 : List am_MT := [(1, 0, 11, 7154, 7153, 80, 1012),
  (1, 0, 11, 7226, 7225, 89, 1012),
  (1, 0, 11, 7053, 7052, 57, 1012),
  (1, 0, 11, 7025, 7024, 52, 1012),
  (1, 0, 11, 7037, 7036, 54, 1012),
  (1, 0, 11, 7065, 7064, 60, 1012),
  (1, 0, 11, 7138, 7137, 76, 1012),
  (2, 0, 11, 7045, 7044, 56, 1012),
  (5, 0, 11, 6165, 6163, 6164, 1012),
  (1, 0, 11, 6169, 6167, 6168, 1012),
  (1, 0, 11, 6185, 6184, 38, 1012),
  (0, 0, 11, 6181, 6180, 37, 1012),
  (0, 0, 11, 6195, 6194, 39, 1012),
  (1, 0, 11, 6222, 6221, 45, 1012),
  (1, 0, 11, 6216, 6215, 44, 1012),
  (1, 0, 11, 6212, 6211, 43, 1012),
  (1, 0, 11, 6208, 6207, 42, 1012),
  (2, 0, 11, 6231, 6230, 47, 1012),
  (3, 0, 11, 6227, 6226, 46, 1012),
  (1, 0, 11, 6173, 6171, 6172, 1012)]
def am_mt10 : List am_MT := [(0, 0, 11, 6203, 6202, 41, 1012),
  (0, 0, 11, 7008, 7007, 50, 1012),
  (0, 0, 11, 7015, 7014, 51, 1012),
  (0, 0, 11, 7004, 7003, 49, 1012),
  (0, 0, 11, 6237, 6236, 48, 1012),
  (0, 0, 11, 6199, 6198, 40, 1012),
  (0, 0, 11, 6177, 6175, 6176, 1012),
  (2, 0, 11, 7021, 7019, 7020, 1012),
  (2, 0, 11, 7033, 7031, 7032, 1012),
  (1, 0, 11, 7061, 7060, 59, 1012),
  (1, 0, 11, 7049, 7047, 7048, 1012),
  (0, 0, 11, 7081, 7080, 63, 1012),
  (2, 0, 11, 7118, 7117, 71, 1012),
  (2, 0, 11, 7122, 7121, 72, 1012),
  (3, 0, 11, 7126, 7125, 73, 1012),
  (3, 0, 11, 7130, 7129, 74, 1012),
  (3, 0, 11, 7134, 7133, 75, 1012),
  (1, 0, 11, 7114, 7113, 70, 1012),
  (2, 0, 11, 7110, 7109, 69, 1012),
  (0, 0, 11, 7142, 7141, 77, 1012)]
def am_mt11 : List am_MT := [(2, 0, 11, 7106, 7105, 68, 1012),
  (1, 0, 11, 7146, 7145, 78, 1012),
  (1, 0, 11, 7101, 7100, 67, 1012),
  (1, 0, 11, 7097, 7096, 66, 1012),
  (0, 0, 11, 7086, 7085, 64, 1012),
  (0, 0, 11, 7077, 7076, 62, 1012),
  (1, 0, 11, 7073, 7072, 61, 1012),
  (2, 0, 11, 7158, 7157, 81, 1012),
  (1, 0, 11, 7166, 7165, 82, 1012),
  (1, 0, 11, 7182, 7181, 84, 1012),
  (1, 0, 11, 7198, 7197, 86, 1012),
  (1, 0, 11, 7194, 7193, 85, 1012),
  (0, 0, 11, 8110, 8109, 96, 1012),
  (0, 0, 11, 7210, 7209, 87, 1012),
  (2, 0, 11, 7069, 7067, 7068, 1012),
  (1, 0, 11, 7162, 7160, 7161, 1012),
  (1, 0, 11, 7170, 7168, 7169, 1012),
  (1, 0, 11, 7178, 7177, 83, 1012),
  (1, 0, 11, 7174, 7172, 7173, 1012),
  (1, 0, 11, 7186, 7184, 7185, 1012)]
def am_mt12 : List am_MT := [(1, 0, 11, 7190, 7188, 7189, 1012),
  (1, 0, 11, 7202, 7200, 7201, 1012),
  (0, 0, 11, 7206, 7204, 7205, 1012),
  (1, 0, 11, 7218, 7217, 88, 1012),
  (1, 0, 11, 7214, 7212, 7213, 1012),
  (1, 0, 11, 7222, 7220, 7221, 1012),
  (2, 0, 11, 7231, 7229, 7230, 1012),
  (1, 0, 11, 7235, 7233, 7234, 1012),
  (1, 0, 11, 8002, 8000, 8001, 1012),
  (1, 0, 11, 8006, 8004, 8005, 1012),
  (2, 0, 11, 8010, 8008, 8009, 1012),
  (1, 0, 11, 8018, 8017, 90, 1012),
  (1, 0, 11, 8022, 8021, 91, 1012),
  (2, 0, 11, 8014, 8012, 8013, 1012),
  (1, 0, 11, 8026, 8024, 8025, 1012),
  (1, 0, 11, 8030, 8028, 8029, 1012),
  (1, 0, 11, 8034, 8032, 8033, 1012),
  (1, 0, 11, 8038, 8036, 8037, 1012),
  (0, 0, 11, 8042, 8040, 8041, 1012),
  (0, 0, 11, 8046, 8044, 8045, 1012)]
def am_mt13 : List am_MT := [(1, 0, 11, 8050, 8048, 8049, 1012),
  (1, 0, 11, 8054, 8052, 8053, 1012),
  (0, 0, 11, 8058, 8056, 8057, 1012),
  (3, 0, 11, 8071, 8070, 93, 1012),
  (3, 0, 11, 8066, 8065, 92, 1012),
  (3, 0, 11, 8062, 8060, 8061, 1012),
  (4, 0, 11, 8075, 8073, 8074, 1012),
  (3, 0, 11, 8079, 8077, 8078, 1012),
  (3, 0, 11, 8087, 8086, 94, 1012),
  (2, 1, 11, 8090, 8089, 0, 1012),
  (2, 0, 11, 8083, 8081, 8082, 1012),
  (2, 0, 11, 8094, 8092, 8093, 1012),
  (1, 0, 11, 8098, 8096, 8097, 1012),
  (2, 0, 11, 8106, 8105, 95, 1012),
  (2, 0, 11, 8102, 8100, 8101, 1012),
  (1, 0, 11, 8114, 8112, 8113, 1012),
  (1, 0, 11, 8118, 8116, 8117, 1012),
  (2, 0, 11, 8126, 8125, 97, 1012),
  (2, 0, 11, 8122, 8120, 8121, 1012),
  (2, 0, 11, 8130, 8128, 8129, 1012)]
def am_mt14 : List am_MT := [(0, 0, 11, 8134, 8132, 8133, 1012),
  (1, 0, 11, 8142, 8141, 98, 1012),
  (0, 0, 11, 8138, 8136, 8137, 1012),
  (0, 0, 11, 8146, 8144, 8145, 1012),
  (2, 0, 11, 8166, 8165, 101, 1012),
  (1, 0, 11, 8158, 8157, 100, 1012),
  (1, 0, 11, 8171, 8170, 102, 1012),
  (2, 0, 11, 8154, 8153, 99, 1012),
  (2, 0, 11, 8150, 8148, 8149, 1012),
  (2, 0, 11, 8175, 8173, 8174, 1012),
  (2, 0, 11, 8179, 8177, 8178, 1012),
  (1, 0, 11, 8191, 8190, 104, 1012),
  (0, 0, 11, 8187, 8186, 103, 1012),
  (2, 0, 11, 8183, 8181, 8182, 1012),
  (2, 0, 11, 8198, 8196, 8197, 1012),
  (1, 0, 11, 8202, 8200, 8201, 1012),
  (1, 0, 11, 8210, 8209, 105, 1012),
  (1, 0, 11, 8206, 8204, 8205, 1012),
  (0, 0, 11, 8214, 8212, 8213, 1012),
  (1, 0, 11, 8222, 8221, 106, 1012)]
def am_mt15 : List am_MT := [(1, 0, 11, 8218, 8216, 8217, 1012),
  (1, 1, 11, 8230, 8229, 0, 1012),
  (2, 1, 11, 8236, 8235, 0, 1012),
  (3, 1, 11, 8233, 8232, 0, 1012),
  (2, 0, 11, 8226, 8224, 8225, 1012),
  (5, 0, 11, 9009, 9008, 108, 1012),
  (2, 0, 11, 9005, 9004, 107, 1012),
  (2, 0, 11, 9001, 8239, 9000, 1012),
  (4, 0, 11, 9013, 9011, 9012, 1012),
  (1, 0, 11, 9023, 9022, 109, 1012),
  (2, 0, 11, 9017, 9015, 9016, 1012),
  (1, 0, 11, 9027, 9025, 9026, 1012),
  (1, 0, 11, 9036, 9035, 110, 1012),
  (3, 0, 11, 9031, 9029, 9030, 1012),
  (3, 0, 11, 9040, 9038, 9039, 1012),
  (0, 0, 11, 9045, 9043, 9044, 1012),
  (0, 0, 11, 9049, 9047, 9048, 1012),
  (1, 0, 11, 9061, 9060, 111, 1012),
  (1, 1, 11, 9056, 9055, 0, 1012),
  (2, 0, 11, 9053, 9051, 9052, 1012)]
def am_mt16 : List am_MT := [(3, 0, 11, 9070, 9068, 9069, 1012),
  (2, 0, 11, 9075, 9073, 9074, 1012),
  (1, 0, 11, 9079, 9077, 9078, 1012),
  (1, 1, 11, 8161, 8160, 0, 1012),
  (2, 1, 11, 9091, 9090, 0, 1012),
  (3, 0, 11, 9084, 9082, 9083, 1012),
  (3, 0, 11, 9088, 9086, 9087, 1012),
  (5, 0, 11, 9095, 9093, 9094, 1012),
  (1, 1, 15, 4121, 4120, 0, 1020),
  (1, 2, 16, 5113, 0, 0, 1013),
  (2, 2, 16, 8194, 0, 0, 1013),
  (2, 2, 16, 3017, 0, 0, 1013),
  (0, 0, 17, 3030, 3028, 3029, 1014),
  (1, 0, 17, 3040, 3038, 3039, 1014),
  (0, 0, 17, 3034, 3032, 3033, 1014),
  (0, 0, 17, 3044, 3042, 3043, 1014),
  (2, 1, 17, 3050, 3049, 0, 1014),
  (2, 1, 18, 3047, 3046, 0, 1015),
  (2, 1, 19, 3068, 3067, 0, 1017),
  (1, 1, 19, 3064, 3063, 0, 1017)]
def am_mt17 : List am_MT := [(2, 1, 19, 3058, 3057, 0, 1017),
  (2, 1, 19, 3061, 3060, 0, 1017),
  (2, 1, 23, 5219, 5218, 0, 1019),
  (2, 1, 23, 3153, 3152, 0, 1019),
  (3, 1, 24, 3055, 3054, 0, 1016),
  (1, 2, 25, 0, 0, 0, 1000)]
def am_mt : List am_MT := am_mt0 ++ am_mt1 ++ am_mt2 ++ am_mt3 ++ am_mt4 ++ am_mt5 ++ am_mt6 ++ am_mt7 ++ am_mt8 ++ am_mt9 ++ am_mt10 ++ am_mt11 ++ am_mt12 ++ am_mt13 ++ am_mt14 ++ am_mt15 ++ am_mt16 ++ am_mt17
def am_me (j : Nat) : am_MT := am_mt.getD j (0, 2, 0, 0, 0, 0, 0)
/-- a method's word 'code', as the tables hold it -/
abbrev am_CW : Type := MethodName × ByteArray × Nat × Option FieldType
def am_cwo (p : Nat) : Option am_CW := match am_at p with
  | some (.code y b n r) => some (y, b, n, r)
  | _ => none
def am_cw (j : Nat) : am_CW := (am_cwo (am_me j).2.2.2.1).getD (yX0_init, cX0_init, 1, none)
def am_y (j : Nat) : MethodName := (am_cw j).1
def am_b (j : Nat) : ByteArray := (am_cw j).2.1
def am_ml (j : Nat) : Nat := (am_cw j).2.2.1
def am_rt (j : Nat) : Option FieldType := (am_cw j).2.2.2
def am_np (j : Nat) : Nat := (am_me j).1
def am_ss (j : Nat) : Nat := (am_me j).2.1
def am_ow (j : Nat) : Nat := (am_me j).2.2.1
def am_okm (q : am_MT) : Bool := match am_cwo q.2.2.2.1 with
  | some (y, _, n, _) => plainName y.cls && decide (am_on q.2.2.1 = y.cls) && decide (am_at q.2.2.2.2.2.2 = some (.initialized y.cls)) && decide (y.cls ≠ "java/lang/invoke/MethodHandle" ∧ y.cls ≠ "java/lang/invoke/VarHandle") && decide ((parseMethodDescriptor y.desc).map (fun d => d.parameters.length) = some q.1) && Nat.ble n 21 && (match q.2.1 with
    | 0 => decide (am_at q.2.2.2.2.1 = some (.instanceMethod y)) && decide (am_at q.2.2.2.2.2.1 = some (.selects y.cls y y))
    | 1 => decide (am_at q.2.2.2.2.1 = some (.static y))
    | _ => false)
  | none => false
def am_lkF : List (Nat × Nat × Nat × Nat × Nat) := [(5, 9, 5, 0, 1041), (5, 15, 5, 1, 1042), (10, 70, 5, 1, 1043), (2, 35, 5, 2, 1044), (5, 19, 5, 2, 1045), (5, 22, 5, 3, 1046), (2, 145, 5, 3, 1047), (2, 41, 5, 4, 1048), (5, 28, 5, 4, 1049), (5, 25, 5, 5, 1050), (2, 142, 5, 5, 1051), (0, 24, 0, 0, 1078), (1, 65, 0, 0, 1079), (9, 105, 0, 0, 1080), (10, 357, 0, 0, 1081), (0, 9, 0, 1, 1082), (9, 110, 0, 1, 1083), (0, 15, 0, 2, 1084), (9, 114, 0, 2, 1085), (0, 18, 0, 3, 1086), (9, 117, 0, 3, 1087), (0, 21, 0, 4, 1088), (9, 113, 0, 4, 1089), (1, 43, 1, 0, 1102), (2, 51, 1, 0, 1103), (10, 94, 1, 0, 1104), (1, 47, 1, 1, 1105), (3, 37, 1, 1, 1106), (9, 75, 1, 1, 1107), (6, 62, 1, 1, 1108), (2, 97, 1, 1, 1109), (10, 151, 1, 1, 1110), (9, 45, 1, 2, 1111), (1, 50, 1, 2, 1112), (2, 101, 1, 2, 1113), (6, 108, 1, 2, 1114), (10, 372, 1, 2, 1115), (1, 53, 1, 3, 1116), (2, 105, 1, 3, 1117), (10, 331, 1, 3, 1118), (1, 56, 1, 4, 1119), (8, 26, 1, 4, 1120), (2, 107, 1, 4, 1121), (10, 154, 1, 4, 1122), (1, 59, 1, 5, 1123), (3, 28, 1, 5, 1124), (7, 37, 1, 5, 1125), (9, 120, 1, 5, 1126), (2, 110, 1, 5, 1127), (8, 47, 1, 5, 1128), (10, 141, 1, 5, 1129), (6, 121, 1, 5, 1130), (1, 62, 1, 6, 1131), (9, 82, 1, 6, 1132), (2, 127, 1, 6, 1133), (10, 201, 1, 6, 1134), (1, 9, 1, 7, 1135), (2, 113, 1, 7, 1136), (8, 54, 1, 7, 1137), (10, 116, 1, 7, 1138), (1, 15, 1, 8, 1139), (8, 30, 1, 8, 1140), (2, 121, 1, 8, 1141), (10, 120, 1, 8, 1142), (7, 86, 1, 8, 1143), (1, 18, 1, 9, 1144), (9, 58, 1, 9, 1145), (2, 125, 1, 9, 1146), (10, 123, 1, 9, 1147), (1, 21, 1, 10, 1148), (9, 88, 1, 10, 1149), (2, 130, 1, 10, 1150), (10, 129, 1, 10, 1151), (1, 24, 1, 11, 1152), (9, 91, 1, 11, 1153), (2, 135, 1, 11, 1154), (10, 132, 1, 11, 1155), (6, 96, 1, 11, 1156), (1, 27, 1, 12, 1157), (9, 85, 1, 12, 1158), (2, 139, 1, 12, 1159), (10, 135, 1, 12, 1160), (1, 30, 1, 13, 1161), (8, 23, 1, 13, 1162), (7, 83, 1, 13, 1163), (1, 33, 1, 14, 1164), (8, 18, 1, 14, 1165), (7, 80, 1, 14, 1166), (1, 39, 1, 15, 1167), (9, 71, 1, 15, 1168), (10, 350, 1, 15, 1169), (2, 12, 2, 0, 1203), (10, 66, 2, 0, 1204), (2, 21, 2, 1, 1205), (10, 84, 2, 1, 1206), (2, 32, 2, 2, 1207), (10, 97, 2, 2, 1208), (2, 25, 2, 3, 1209), (10, 100, 2, 3, 1210), (2, 94, 2, 4, 1211), (7, 9, 7, 0, 1239), (9, 135, 7, 0, 2000), (10, 230, 7, 0, 2001), (7, 18, 7, 1, 2002), (9, 138, 7, 1, 2003), (7, 22, 7, 2, 2004), (9, 140, 7, 2, 2005), (6, 117, 7, 2, 2006), (10, 226, 7, 2, 2007), (7, 48, 7, 3, 2008), (9, 142, 7, 3, 2009), (6, 119, 7, 3, 2010), (10, 233, 7, 3, 2011), (7, 51, 7, 4, 2012), (9, 144, 7, 4, 2013), (7, 15, 7, 5, 2014), (7, 58, 7, 6, 2015), (7, 61, 7, 7, 2016), (7, 67, 7, 8, 2017), (7, 73, 7, 9, 2018), (9, 51, 9, 0, 2040), (3, 65, 9, 0, 2041), (6, 74, 9, 0, 2042), (9, 52, 9, 1, 2043), (6, 77, 9, 1, 2044), (9, 55, 9, 2, 2045), (6, 71, 9, 2, 2046), (9, 11, 9, 3, 2047), (6, 55, 9, 3, 2048), (3, 54, 9, 3, 2049), (10, 147, 9, 3, 2050), (9, 16, 9, 4, 2051), (10, 189, 9, 4, 2052), (9, 19, 9, 5, 2053), (6, 90, 9, 5, 2054), (10, 186, 9, 5, 2055), (9, 23, 9, 6, 2056), (6, 99, 9, 6, 2057), (10, 192, 9, 6, 2058), (9, 26, 9, 7, 2059), (6, 93, 9, 7, 2060), (10, 195, 9, 7, 2061), (9, 29, 9, 8, 2062), (10, 198, 9, 8, 2063), (9, 32, 9, 9, 2064), (10, 209, 9, 9, 2065), (9, 35, 9, 10, 2066), (10, 212, 9, 10, 2067), (9, 41, 9, 11, 2068), (8, 9, 8, 0, 2100), (8, 15, 8, 1, 2101), (6, 12, 6, 0, 2119), (6, 21, 6, 1, 2120), (6, 28, 6, 2, 2121), (6, 32, 6, 3, 2122), (6, 36, 6, 4, 2123), (6, 39, 6, 5, 2124), (6, 42, 6, 6, 2125), (3, 12, 3, 0, 2149), (3, 41, 3, 1, 2150), (10, 281, 3, 1, 2151), (3, 44, 3, 2, 2152), (10, 284, 3, 2, 2153), (3, 47, 3, 3, 2154), (10, 287, 3, 3, 2155), (4, 9, 4, 0, 2173), (10, 390, 4, 0, 2174), (3, 18, 4, 1, 2175), (4, 19, 4, 1, 2176), (10, 382, 4, 1, 2177), (4, 15, 4, 2, 2178), (3, 24, 4, 2, 2179), (10, 383, 4, 2, 2180), (10, 10, 10, 0, 2190), (10, 19, 10, 1, 2191), (10, 26, 10, 2, 2192), (10, 33, 10, 3, 2193), (10, 40, 10, 4, 2194), (10, 47, 10, 5, 2195), (10, 53, 10, 6, 2196), (10, 57, 10, 7, 2197), (10, 61, 10, 8, 2198), (11, 9, 11, 1, 6003), (11, 13, 11, 2, 6004), (11, 16, 11, 3, 6005), (11, 20, 11, 4, 6006), (11, 124, 11, 5, 6007), (11, 24, 11, 6, 6008), (11, 127, 11, 7, 6009), (11, 130, 11, 8, 6010), (11, 137, 11, 9, 6011), (11, 140, 11, 10, 6012), (11, 151, 11, 11, 6013), (11, 161, 11, 12, 6014), (11, 27, 11, 13, 6015), (11, 31, 11, 14, 6016), (11, 34, 11, 15, 6017), (11, 261, 11, 16, 6018), (11, 265, 11, 17, 6019), (11, 268, 11, 18, 6020), (11, 37, 11, 19, 6021), (11, 40, 11, 20, 6022), (11, 43, 11, 21, 6023), (11, 278, 11, 22, 6024), (11, 294, 11, 23, 6025), (11, 303, 11, 24, 6026), (11, 306, 11, 25, 6027), (11, 46, 11, 26, 6028), (11, 49, 11, 27, 6029), (11, 52, 11, 28, 6030), (11, 55, 11, 29, 6031), (11, 58, 11, 30, 6032), (11, 61, 11, 31, 6033), (11, 64, 11, 32, 6034), (11, 67, 11, 33, 6035), (11, 70, 11, 34, 6036), (11, 73, 11, 35, 6037), (11, 403, 11, 36, 6038), (11, 76, 11, 37, 6039), (11, 79, 11, 38, 6040), (11, 424, 11, 39, 6041), (11, 436, 11, 40, 6042), (11, 82, 11, 41, 6043), (11, 476, 11, 42, 6044), (11, 480, 11, 43, 6045), (11, 483, 11, 44, 6046), (11, 85, 11, 45, 6047), (11, 88, 11, 46, 6048), (11, 91, 11, 47, 6049), (11, 95, 11, 48, 6050)]
def am_lkM : List (Nat × Nat × Nat × Nat) := [(25, 9, 79, 1023), (10, 9, 16, 1031), (2, 11, 38, 1037), (2, 20, 3, 1068), (1, 38, 0, 1074), (10, 18, 3, 1224), (10, 25, 72, 1227), (9, 40, 55, 1235), (10, 32, 64, 2096), (10, 39, 44, 2109), (6, 11, 64, 2114), (6, 20, 72, 2116), (6, 27, 55, 2118), (10, 46, 27, 2143), (3, 11, 72, 2148), (10, 65, 33, 2169), (25, 13, 80, 2218), (10, 76, 39, 2222), (25, 18, 81, 2226), (25, 23, 82, 2230), (10, 80, 17, 2234), (2, 29, 4, 2238), (2, 38, 40, 3002), (5, 31, 41, 3006), (5, 35, 42, 3010), (5, 39, 9001, 3015), (2, 44, 18, 3018), (2, 59, 43, 3023), (5, 45, 332, 3027), (17, 335, 334, 3031), (5, 50, 333, 3037), (17, 492, 335, 3041), (17, 495, 337, 3045), (18, 9, 336, 3048), (17, 1059, 344, 3053), (17, 498, 340, 3056), (19, 67, 341, 3059), (19, 48, 339, 3062), (19, 414, 336, 3065), (19, 71, 338, 3066), (2, 63, 19, 3075), (2, 87, 23, 3080), (2, 81, 26, 3084), (2, 90, 24, 3088), (2, 68, 20, 3095), (2, 73, 21, 3100), (2, 78, 22, 3108), (2, 48, 25, 3114), (2, 54, 5, 3118), (10, 87, 6, 3122), (1, 68, 9999, 3126), (1, 74, 2, 3129), (0, 28, 9999, 3133), (10, 91, 84, 3134), (10, 103, 73, 3138), (9, 61, 9999, 3142), (10, 106, 74, 3143), (9, 67, 75, 3147), (9, 123, 343, 3151), (9, 78, 76, 3154), (9, 129, 9001, 3158), (9, 94, 56, 3159), (7, 25, 57, 3163), (7, 42, 343, 3167), (7, 29, 58, 3168), (7, 54, 59, 3172), (7, 64, 60, 3176), (7, 70, 61, 3180), (7, 76, 62, 3184), (7, 33, 63, 3188), (9, 98, 78, 3192), (9, 101, 77, 3196), (10, 109, 45, 3200), (6, 45, 343, 3204), (25, 28, 83, 3205), (25, 32, 85, 3209), (10, 112, 9, 3213), (25, 37, 86, 3217), (10, 126, 10, 3221), (25, 41, 87, 3225), (10, 138, 8, 3229), (25, 45, 88, 3233), (10, 144, 11, 3237), (1, 78, 7, 4001), (25, 49, 89, 4005), (25, 53, 90, 4009), (25, 57, 91, 4013), (10, 157, 65, 4017), (25, 61, 92, 4021), (25, 65, 93, 4025), (10, 161, 66, 4029), (25, 69, 94, 4033), (10, 165, 95, 4037), (25, 73, 96, 4041), (10, 169, 97, 4045), (25, 77, 98, 4049), (25, 81, 99, 4053), (25, 85, 100, 4057), (10, 172, 12, 4061), (25, 89, 101, 4066), (25, 93, 102, 4070), (10, 176, 7, 4074), (10, 179, 13, 4075), (25, 97, 103, 4079), (25, 101, 104, 4083), (10, 183, 67, 4087), (25, 105, 105, 4091), (25, 109, 106, 4095), (25, 113, 107, 4099), (25, 117, 108, 4103), (25, 121, 109, 4107), (25, 125, 110, 4111), (25, 129, 111, 4115), (10, 204, 328, 4119), (25, 133, 112, 4125), (25, 137, 113, 4129), (25, 141, 114, 4133), (25, 145, 116, 4137), (10, 219, 115, 4141), (10, 215, 165, 4145), (10, 222, 52, 4148), (6, 102, 9999, 4152), (6, 109, 56, 4153), (25, 150, 117, 4154), (25, 155, 118, 4158), (25, 159, 119, 4162), (10, 235, 53, 4166), (6, 113, 52, 4170), (25, 163, 120, 4171), (25, 167, 121, 4175), (25, 171, 122, 4179), (10, 239, 123, 4183), (10, 243, 46, 4187), (6, 51, 73, 4191), (6, 59, 74, 4192), (6, 67, 66, 4193), (25, 175, 124, 4194), (25, 179, 125, 4198), (25, 183, 126, 4202), (10, 247, 68, 4206), (8, 33, 69, 4210), (8, 41, 343, 4214), (8, 50, 71, 4215), (8, 37, 70, 4218), (25, 187, 127, 4222), (10, 250, 54, 4226), (25, 191, 129, 4230), (10, 253, 128, 4234), (10, 256, 15, 4238), (10, 259, 47, 5002), (25, 195, 130, 5006), (10, 263, 49, 5010), (6, 80, 328, 5014), (25, 199, 131, 5015), (25, 203, 133, 5019), (10, 278, 132, 5023), (10, 266, 164, 5027), (10, 269, 34, 5030), (10, 270, 28, 5034), (3, 33, 29, 5038), (10, 274, 30, 5042), (3, 50, 73, 5046), (3, 58, 74, 5047), (3, 61, 32, 5048), (25, 207, 134, 5052), (25, 211, 135, 5056), (25, 215, 136, 5060), (25, 219, 137, 5064), (10, 290, 9001, 5068), (25, 223, 138, 5069), (10, 295, 31, 5073), (25, 227, 139, 5077), (10, 299, 48, 5081), (25, 231, 140, 5085), (25, 235, 141, 5089), (10, 302, 14, 5093), (25, 239, 142, 5097), (10, 308, 50, 5103), (6, 86, 49, 5107), (10, 311, 150, 5108), (10, 340, 9003, 5111), (25, 243, 144, 5114), (10, 315, 143, 5118), (10, 319, 51, 5122), (25, 247, 145, 5126), (25, 251, 146, 5130), (10, 325, 148, 5135), (10, 334, 149, 5140), (25, 256, 147, 5144), (25, 261, 151, 5148), (10, 346, 153, 5152), (10, 354, 1, 5156), (25, 265, 152, 5160), (25, 269, 154, 5164), (25, 273, 155, 5168), (25, 277, 156, 5172), (10, 361, 157, 5177), (25, 281, 158, 5185), (25, 285, 159, 5189), (25, 289, 160, 5193), (10, 375, 161, 5197), (25, 293, 162, 5201), (25, 297, 163, 5205), (25, 301, 166, 5209), (10, 378, 35, 5213), (4, 22, 342, 5217), (25, 307, 167, 5220), (10, 387, 36, 5224), (25, 312, 168, 5228), (10, 393, 37, 5232), (10, 396, 9999, 5236), (25, 12, 169, 5239), (25, 296, 173, 6150), (11, 103, 170, 6155), (25, 300, 174, 6158), (25, 17, 188, 6162), (25, 22, 189, 6166), (25, 31, 199, 6170), (25, 27, 206, 6174), (11, 180, 191, 6178), (11, 133, 190, 6182), (11, 155, 9001, 6191), (11, 164, 192, 6192), (11, 238, 205, 6196), (11, 232, 200, 6200), (11, 190, 196, 6205), (11, 183, 195, 6209), (11, 176, 194, 6213), (11, 167, 332, 6217), (11, 172, 333, 6218), (11, 186, 193, 6219), (11, 200, 198, 6224), (11, 194, 197, 6228), (11, 235, 204, 6234), (11, 223, 203, 7001), (11, 226, 201, 7005), (11, 229, 202, 7012), (25, 36, 207, 7018), (11, 241, 183, 7022), (11, 118, 178, 7026), (25, 40, 208, 7030), (11, 245, 184, 7034), (11, 121, 179, 7038), (11, 249, 187, 7042), (25, 44, 210, 7046), (11, 255, 182, 7050), (11, 115, 177, 7054), (11, 258, 209, 7058), (11, 252, 185, 7062), (25, 48, 234, 7066), (11, 356, 226, 7070), (11, 335, 225, 7074), (11, 329, 211, 7078), (11, 332, 224, 7083), (11, 300, 172, 7087), (11, 111, 176, 7090), (11, 326, 223, 7094), (11, 317, 222, 7098), (11, 320, 220, 7103), (11, 309, 218, 7107), (11, 297, 217, 7111), (11, 271, 212, 7115), (11, 275, 213, 7119), (11, 281, 214, 7123), (11, 285, 215, 7127), (11, 288, 216, 7131), (11, 291, 186, 7135), (11, 313, 219, 7139), (11, 323, 221, 7143), (11, 107, 175, 7147), (11, 338, 180, 7151), (11, 341, 227, 7155), (25, 52, 235, 7159), (11, 344, 228, 7163), (25, 56, 236, 7167), (25, 60, 238, 7171), (11, 359, 237, 7175), (11, 347, 229, 7179), (25, 64, 239, 7183), (25, 68, 240, 7187), (11, 353, 231, 7191), (11, 350, 230, 7195), (25, 72, 241, 7199), (25, 96, 242, 7203), (11, 362, 233, 7207), (25, 76, 244, 7211), (11, 365, 243, 7215), (25, 88, 245, 7219), (11, 368, 181, 7223), (25, 100, 246, 7228), (25, 92, 247, 7232), (11, 372, 171, 7236), (25, 80, 248, 7239), (25, 84, 249, 8003), (25, 104, 250, 8007), (25, 108, 253, 8011), (11, 375, 251, 8015), (11, 378, 252, 8019), (25, 112, 254, 8023), (25, 116, 255, 8027), (25, 120, 256, 8031), (25, 124, 257, 8035), (25, 128, 258, 8039), (25, 132, 259, 8043), (25, 136, 260, 8047), (25, 140, 261, 8051), (25, 144, 262, 8055), (25, 149, 265, 8059), (11, 386, 264, 8063), (11, 383, 263, 8068), (25, 154, 266, 8072), (25, 158, 267, 8076), (25, 162, 270, 8080), (11, 390, 268, 8084), (11, 394, 269, 8088), (25, 170, 271, 8091), (25, 166, 272, 8095), (25, 174, 274, 8099), (11, 400, 273, 8103), (11, 397, 232, 8107), (25, 178, 275, 8111), (25, 182, 276, 8115), (25, 186, 278, 8119), (11, 406, 277, 8123), (25, 190, 279, 8127), (25, 194, 280, 8131), (25, 198, 282, 8135), (11, 409, 281, 8139), (25, 202, 283, 8143), (25, 206, 288, 8147), (11, 430, 287, 8151), (11, 421, 285, 8155), (11, 412, 323, 8159), (11, 415, 284, 8163), (11, 427, 286, 8168), (25, 210, 289, 8172), (25, 214, 290, 8176), (25, 218, 293, 8180), (11, 442, 292, 8184), (11, 439, 291, 8188), (11, 433, 9002, 8192), (25, 222, 294, 8195), (25, 226, 295, 8199), (25, 230, 297, 8203), (11, 447, 296, 8207), (25, 234, 298, 8211), (25, 238, 300, 8215), (11, 450, 299, 8219), (25, 242, 304, 8223), (11, 462, 301, 8228), (11, 465, 303, 8231), (11, 457, 302, 8234), (11, 453, 9003, 8237), (25, 246, 307, 8238), (11, 469, 306, 9002), (11, 472, 305, 9006), (25, 250, 308, 9010), (25, 255, 310, 9014), (11, 490, 309, 9020), (25, 260, 311, 9024), (25, 264, 313, 9028), (11, 495, 312, 9033), (25, 268, 314, 9037), (25, 272, 315, 9042), (25, 276, 316, 9046), (25, 280, 319, 9050), (11, 512, 318, 9054), (11, 515, 317, 9058), (25, 284, 320, 9067), (25, 288, 321, 9072), (25, 292, 322, 9076), (25, 304, 325, 9081), (25, 311, 326, 9085), (11, 523, 324, 9089), (25, 315, 327, 9092)]
def am_lkI : List (Nat × Nat × Int32 × Nat) := [(5, 38, 1000000, 3014), (10, 175, (-100000), 4065), (15, 265, 1431655765, 4122), (15, 266, 858993459, 4123), (15, 267, 252645135, 4124), (10, 360, 2000000000, 5176), (11, 154, 99999, 6190), (11, 264, 65535, 7082), (11, 316, 1000000, 7102), (11, 371, (-100000), 7227), (11, 461, 65536, 8227)]
def am_lkL : List (Nat × Nat × Int64 × Nat) := [(3, 39, 99, 5041), (10, 323, (-2), 5134), (10, 329, (-3), 5139), (10, 338, 10, 5143), (10, 364, 1103515245, 5181), (10, 366, 12345, 5182), (10, 368, 2147483648, 5183), (10, 370, 65536, 5184), (11, 101, 2, 6154), (11, 143, 97, 6186), (11, 145, 122, 6187), (11, 147, 48, 6188), (11, 149, 57, 6189), (11, 381, 200, 8067), (11, 445, 3, 8162), (11, 419, 99, 8167), (11, 486, (-2), 9018), (11, 488, (-3), 9019), (11, 493, 60, 9032), (11, 498, 90, 9041), (11, 510, 2000000000, 9057), (11, 500, 1103515245, 9062), (11, 502, 12345, 9063), (11, 504, 2147483648, 9064), (11, 506, 65536, 9065), (11, 508, 10, 9066), (11, 519, 20, 9071), (11, 521, 7, 9080), (25, 305, 4294967295, 9096)]
def am_lkS : List (Nat × Nat × Nat × Nat × String) := [(2, 57, 0, 3022, "cloth"), (2, 85, 1, 3079, "years"), (2, 99, 2, 3092, "law"), (2, 103, 3, 3093, "odds"), (2, 66, 4, 3094, "claim"), (2, 71, 5, 3099, "thread"), (2, 117, 6, 3104, "to"), (2, 119, 7, 3105, "hem"), (2, 123, 8, 3106, "holds"), (2, 76, 9, 3107, "quarrel"), (2, 133, 10, 3112, "by"), (2, 138, 11, 3113, "at"), (11, 197, 0, 6204, "cloth"), (11, 199, 1, 6223, "years"), (11, 204, 2, 6232, "law"), (11, 206, 3, 6233, "odds"), (11, 217, 4, 6238, "claim"), (11, 219, 5, 6239, "thread"), (11, 221, 9, 7000, "quarrel"), (11, 208, 6, 7009, "to"), (11, 210, 7, 7010, "hem"), (11, 212, 8, 7011, "holds"), (11, 214, 10, 7016, "by"), (11, 216, 11, 7017, "at")]
def am_N : Nat := 233
def am_shl : List Nat := [10, 2, 5, 20, 1, 21, 21, 21, 22, 22, 22, 21, 23, 0, 24, 24, 24, 24, 1, 21, 21, 21, 22, 22, 22, 21, 23, 0, 24, 24, 24, 24, 9, 25, 21, 21, 21, 21, 21, 21, 21, 21, 21, 21, 21, 21, 21, 26, 21, 21, 21, 21, 21, 21, 21, 21, 21, 21, 22, 22, 22, 22, 21, 21, 7, 21, 27, 8, 27, 23, 6, 8, 27, 23, 9, 25, 21, 21, 21, 21, 21, 21, 21, 21, 21, 21, 21, 21, 21, 26, 21, 21, 21, 21, 21, 21, 21, 21, 21, 21, 22, 22, 22, 22, 21, 21, 7, 21, 27, 7, 21, 27, 21, 28, 29, 30, 3, 9, 25, 21, 21, 21, 21, 21, 21, 21, 21, 21, 21, 21, 21, 21, 26, 21, 21, 21, 21, 21, 21, 21, 21, 21, 21, 22, 22, 22, 22, 21, 21, 7, 21, 27, 31, 32, 33, 4, 34, 4, 34, 4, 34, 4, 34, 1, 21, 21, 21, 22, 22, 22, 21, 23, 0, 24, 24, 24, 24, 1, 21, 21, 21, 22, 22, 22, 21, 23, 0, 24, 24, 24, 24, 1, 21, 21, 21, 22, 22, 22, 21, 23, 0, 24, 24, 24, 24, 11, 35, 36, 33, 20, 37, 35, 21, 21, 21, 27, 21, 21, 38, 39, 22, 22, 22, 22, 27, 23, 40, 41, 30, 42, 42, 43, 34]
def am_sh (a : Nat) : Nat := am_shl.getD a 99
def am_fl (k : Nat) : List (Nat × Nat × Nat) := match k with
  | 0 => [(0, 0, 0), (2, 24, 1), (2, 24, 2), (2, 24, 3), (2, 24, 4)]
  | 1 => [(0, 0, 0), (0, 0, 0), (0, 0, 0), (0, 0, 0), (0, 0, 0), (0, 0, 0), (0, 0, 0), (2, 21, 1), (2, 21, 2), (2, 21, 3), (2, 22, 4), (2, 22, 5), (2, 22, 6), (2, 21, 7), (2, 23, 8), (2, 0, 9)]
  | 2 => [(2, 5, 1), (2, 1, 3), (0, 0, 0), (0, 0, 0), (0, 0, 0)]
  | 3 => [(2, 9, 1), (0, 0, 0), (0, 0, 0), (0, 0, 0)]
  | 4 => [(0, 0, 0), (0, 0, 0), (2, 34, 1)]
  | 5 => [(2, 20, 1), (0, 0, 0), (0, 0, 0), (0, 0, 0), (0, 0, 0), (0, 0, 0)]
  | 6 => [(2, 8, 1), (2, 9, 4), (2, 7, 39), (2, 21, 42), (2, 28, 43), (2, 29, 44), (2, 30, 45)]
  | 7 => [(2, 21, 1), (0, 0, 0), (0, 0, 0), (0, 0, 0), (0, 0, 0), (2, 27, 2), (0, 0, 0), (0, 0, 0), (0, 0, 0), (0, 0, 0)]
  | 8 => [(2, 27, 1), (2, 23, 2)]
  | 9 => [(0, 0, 0), (0, 0, 0), (0, 0, 0), (2, 25, 1), (2, 26, 15), (2, 22, 26), (2, 22, 27), (2, 22, 28), (2, 22, 29), (2, 21, 30), (2, 21, 31), (2, 7, 32)]
  | 10 => [(2, 2, 1), (2, 1, 18), (2, 9, 32), (2, 8, 67), (2, 6, 70), (2, 3, 116), (2, 31, 152), (2, 32, 153), (2, 33, 154)]
  | 11 => [(0, 0, 0), (2, 35, 1), (2, 36, 2), (2, 33, 3), (2, 20, 4), (0, 0, 0), (2, 37, 5), (0, 0, 0), (0, 0, 0), (0, 0, 0), (0, 0, 0), (0, 0, 0), (0, 0, 0), (0, 0, 0), (2, 35, 6), (2, 21, 7), (0, 0, 0), (0, 0, 0), (0, 0, 0), (2, 21, 8), (2, 21, 9), (2, 27, 10), (0, 0, 0), (0, 0, 0), (0, 0, 0), (0, 0, 0), (2, 21, 11), (2, 21, 12), (2, 38, 13), (2, 39, 14), (2, 22, 15), (2, 22, 16), (2, 22, 17), (2, 22, 18), (2, 27, 19), (2, 23, 20), (0, 0, 0), (2, 40, 21), (2, 41, 22), (0, 0, 0), (0, 0, 0), (2, 30, 23), (1, 0, 0), (1, 0, 0), (1, 0, 0), (2, 42, 24), (2, 42, 25), (2, 43, 26), (2, 34, 27)]
  | _ => []
def am_ar (k : Nat) : Nat × Nat × Nat × Nat × Nat × Nat := match k with
  | 20 => (1, 800, 1, 0, 0, 0)
  | 21 => (0, 16, 0, 0, 0, 0)
  | 22 => (0, 10, 0, 0, 0, 0)
  | 23 => (0, 9, 0, 0, 0, 0)
  | 24 => (0, 30, 0, 0, 0, 0)
  | 25 => (4, 13, 4, 21, 1, 1)
  | 26 => (4, 10, 4, 21, 1, 1)
  | 27 => (0, 8, 0, 0, 0, 0)
  | 28 => (0, 976, 0, 0, 0, 0)
  | 29 => (0, 1024, 0, 0, 0, 0)
  | 30 => (0, 256, 0, 0, 0, 0)
  | 31 => (4, 4, 5, 4, 3, 2)
  | 32 => (4, 3, 6, 1, 10, 14)
  | 33 => (2, 3, 2, 0, 0, 0)
  | 34 => (3, 60, 3, 0, 0, 0)
  | 35 => (0, 116, 0, 0, 0, 0)
  | 36 => (0, 348, 0, 0, 0, 0)
  | 37 => (0, 5, 0, 0, 0, 0)
  | 38 => (0, 208, 0, 0, 0, 0)
  | 39 => (0, 160, 0, 0, 0, 0)
  | 40 => (0, 60, 0, 0, 0, 0)
  | 41 => (0, 780, 0, 0, 0, 0)
  | 42 => (0, 4, 0, 0, 0, 0)
  | 43 => (3, 240, 3, 0, 0, 0)
  | 61 => (7, 9, 0, 0, 0, 0)
  | 62 => (8, 0, 0, 0, 0, 0)
  | _ => (9, 0, 0, 0, 0, 0)
abbrev am_tk : Nat := 7
abbrev am_ta : Nat := 109
def am_nS : Nat := 12
def am_rk (j : Nat) : Nat := if am_ow j = 17 then 60 else am_ow j
def am_slen : List Nat := [5, 5, 3, 4, 5, 6, 2, 3, 5, 7, 2, 2]
def am_sbyt : List (List Int32) := [[99, 108, 111, 116, 104], [121, 101, 97, 114, 115], [108, 97, 119], [111, 100, 100, 115], [99, 108, 97, 105, 109], [116, 104, 114, 101, 97, 100], [116, 111], [104, 101, 109], [104, 111, 108, 100, 115], [113, 117, 97, 114, 114, 101, 108], [98, 121], [97, 116]]
def am_fact (k : Nat) : Int32 := ([1, 1, 2, 6, 24, 120, 720, 5040, 40320] : List Int32).getD k 0
def am_lkG : List (Nat × Nat × Nat) := [(10, 305, 5101)]
end
section
/-! the words that a call may carry along; checks of the tables, by the kernel -/
def am_g : List Cond := lw_tbl.filter goodWord
theorem am_gin {w : Cond} (h : w ∈ lw_tbl) (hg : goodWord w = true) : w ∈ am_g := List.mem_filter.mpr ⟨h, hg⟩
theorem am_gat {w : Cond} {i : Nat} (h : am_at i = some w) (hg : goodWord w = true) : w ∈ am_g := am_gin (am_at_in h) hg
theorem am_ggood {w : Cond} (h : w ∈ am_g) : (w.onTables && w.keeps) = true ∨ ∃ ty, w = .arrayClass ty := good_of_word (List.mem_filter.mp h).2
def am_okq (q : am_MT) : Bool := Nat.beq q.2.1 2 || am_okm q
set_option maxRecDepth 100000 in
theorem am_mt_ok0 : am_mt0.all am_okq = true := by decide +kernel
set_option maxRecDepth 100000 in
theorem am_mt_ok1 : am_mt1.all am_okq = true := by decide +kernel
set_option maxRecDepth 100000 in
theorem am_mt_ok2 : am_mt2.all am_okq = true := by decide +kernel
set_option maxRecDepth 100000 in
theorem am_mt_ok3 : am_mt3.all am_okq = true := by decide +kernel
set_option maxRecDepth 100000 in
theorem am_mt_ok4 : am_mt4.all am_okq = true := by decide +kernel
set_option maxRecDepth 100000 in
theorem am_mt_ok5 : am_mt5.all am_okq = true := by decide +kernel
set_option maxRecDepth 100000 in
theorem am_mt_ok6 : am_mt6.all am_okq = true := by decide +kernel
set_option maxRecDepth 100000 in
theorem am_mt_ok7 : am_mt7.all am_okq = true := by decide +kernel
set_option maxRecDepth 100000 in
theorem am_mt_ok8 : am_mt8.all am_okq = true := by decide +kernel
set_option maxRecDepth 100000 in
theorem am_mt_ok9 : am_mt9.all am_okq = true := by decide +kernel
set_option maxRecDepth 100000 in
theorem am_mt_ok10 : am_mt10.all am_okq = true := by decide +kernel
set_option maxRecDepth 100000 in
theorem am_mt_ok11 : am_mt11.all am_okq = true := by decide +kernel
set_option maxRecDepth 100000 in
theorem am_mt_ok12 : am_mt12.all am_okq = true := by decide +kernel
set_option maxRecDepth 100000 in
theorem am_mt_ok13 : am_mt13.all am_okq = true := by decide +kernel
set_option maxRecDepth 100000 in
theorem am_mt_ok14 : am_mt14.all am_okq = true := by decide +kernel
set_option maxRecDepth 100000 in
theorem am_mt_ok15 : am_mt15.all am_okq = true := by decide +kernel
set_option maxRecDepth 100000 in
theorem am_mt_ok16 : am_mt16.all am_okq = true := by decide +kernel
set_option maxRecDepth 100000 in
theorem am_mt_ok17 : am_mt17.all am_okq = true := by decide +kernel
theorem am_mt_ok : am_mt.all am_okq = true := by
  simp only [am_mt, List.all_append, am_mt_ok0, am_mt_ok1, am_mt_ok2, am_mt_ok3, am_mt_ok4, am_mt_ok5, am_mt_ok6, am_mt_ok7, am_mt_ok8, am_mt_ok9, am_mt_ok10, am_mt_ok11, am_mt_ok12, am_mt_ok13, am_mt_ok14, am_mt_ok15, am_mt_ok16, am_mt_ok17, Bool.and_self]
theorem am_me_ok (j : Nat) : am_okq (am_me j) = true := by
  unfold am_me
  rw [List.getD_eq_getElem?_getD]
  cases h : am_mt[j]? with
  | none => rfl
  | some q => exact List.all_eq_true.mp am_mt_ok q (List.mem_of_getElem? h)
def am_cl (k : Nat) : vw_C := vwCl.getD k (RX0, TX0, 5)
def am_okF (q : Nat × Nat × Nat × Nat × Nat) : Bool := Nat.blt q.2.2.1 12 && Nat.blt q.2.2.2.1 (am_cl q.2.2.1).2.2 && decide (am_at q.2.2.2.2 = some (.fieldLink (am_on q.1) q.2.1 ((am_cl q.2.2.1).2.1 q.2.2.2.1).1 ((am_cl q.2.2.1).2.1 q.2.2.2.1).2.1 ((am_cl q.2.2.1).2.1 q.2.2.2.1).2.2.1))
set_option maxRecDepth 100000 in
theorem am_lkF_ok : am_lkF.all am_okF = true := by decide +kernel
def am_pn (j : Nat) : MethodName := match j with
  | 9999 => arraycopyName
  | 9001 => Lib.Math.min.name
  | 9002 => Lib.Math.max.name
  | 9003 => Lib.MathLoose.abs_long.x
  | j => am_y j
def am_okM (q : Nat × Nat × Nat × Nat) : Bool := decide (am_at q.2.2.2 = some (.methodLink (am_on q.1) q.2.1 (am_pn q.2.2.1)))
set_option maxRecDepth 100000 in
theorem am_lkM_ok : am_lkM.all am_okM = true := by decide +kernel
def am_okI (q : Nat × Nat × Int32 × Nat) : Bool := decide (am_at q.2.2.2 = some (.constant (am_on q.1) q.2.1 q.2.2.1))
set_option maxRecDepth 100000 in
theorem am_lkI_ok : am_lkI.all am_okI = true := by decide +kernel
def am_okL (q : Nat × Nat × Int64 × Nat) : Bool := decide (am_at q.2.2.2 = some (.constantLong (am_on q.1) q.2.1 q.2.2.1))
set_option maxRecDepth 100000 in
theorem am_lkL_ok : am_lkL.all am_okL = true := by decide +kernel
set_option maxRecDepth 100000 in
theorem am_uws0 : (vwCl.flatMap (fun q => u_ws q.1 q.2.1 q.2.2)).all (fun w => decide (w ∈ am_tb 1) || decide (w ∈ am_tb 2) || decide (w ∈ am_tb 3) || decide (w ∈ am_tb 4) || decide (w ∈ am_tb 5) || decide (w ∈ am_tb 6) || decide (w ∈ am_tb 7) || decide (w ∈ am_tb 8) || decide (w ∈ am_tb 9)) = true := by decide +kernel
set_option maxRecDepth 100000 in
theorem am_uws1 : (vwCl.flatMap (fun q => u_ws q.1 q.2.1 q.2.2)).all goodWord = true := by decide +kernel
end
section
/-! ===== the typed machine: references carry their kind, the memory is two tables of numbers; shape and references never change behind the constructors ===== -/
abbrev aV : Type := Int32 ⊕ (Int64 ⊕ (Nat × Nat))
abbrev aM : Type := (Nat → Nat → Int32) × (Nat → Nat → Int64)
abbrev aL : Type := List (Option aV)
abbrev aR : Type := Option aV × aM
abbrev aC : Type := Nat × va_G × (Nat → ClassId) × (Nat → Nat)
abbrev aK : Type := Nat → aL → List aV → aM → Option aR
abbrev am_E : Type := Nat × Instr × Nat × Nat × Nat × Int32 × Int64
def am_u (f : Nat → Nat → Int32) (a i : Nat) (x : Int32) : Nat → Nat → Int32 := fun b j => if b = a ∧ j = i then x else f b j
def am_ul (f : Nat → Nat → Int64) (a i : Nat) (x : Int64) : Nat → Nat → Int64 := fun b j => if b = a ∧ j = i then x else f b j
def am_ua {α : Type} (f : Nat → Nat → α) (a : Nat) (g : Nat → α) : Nat → Nat → α := fun b => if b = a then g else f b
def am_ad (C : aC) (a : Nat) : Nat := if a < 5000 then C.1 + a else C.2.2.2 (a - 5000)
def am_cv (C : aC) (v : aV) : Value := match v with
  | .inl x => .int x
  | .inr (.inl x) => .long x
  | .inr (.inr q) => .ref (am_ad C q.2)
def am_fv (C : aC) (M : aM) (a j : Nat) (d : Nat × Nat × Nat) : Value := match d.1 with
  | 0 => .int (M.1 a j)
  | 1 => .long (M.2 a j)
  | _ => .ref (am_ad C (a + d.2.2))
def am_fs (C : aC) (M : aM) (a : Nat) : List Value := (am_fl (am_sh a)).mapIdx (fun j d => am_fv C M a j d)
abbrev am_AT : Type := Nat × Nat × Nat × Nat × Nat × Nat
def am_ac (C : aC) (M : aM) (a : Nat) (q : am_AT) : (Nat → Int32) ⊕ (Nat → Int64) ⊕ (Nat → UInt32) ⊕ (Nat → UInt64) ⊕ (Nat → Option Nat) := match q.1 with
  | 3 => .inr (.inl (M.2 a))
  | 4 => .inr (.inr (.inr (.inr (fun i => some (am_ad C (a + (q.2.2.2.2.1 + q.2.2.2.2.2 * i)))))))
  | _ => .inl (M.1 a)
def am_ce (C : aC) (M : aM) (a : Nat) : va_E := if am_sh a < 20 then .inr (am_sh a, am_fs C M a) else .inl (C.2.2.1 (am_ar (am_sh a)).2.2.1, (am_ar (am_sh a)).2.1, am_ac C M a (am_ar (am_sh a)))
def am_ws (C : aC) (M : aM) : va_W := (List.range am_N).map (fun a => (am_ad C a, am_ce C M a))
def am_A (C : aC) : Nat → Prop := fun q => C.1 ≤ q
def am_tys (C : aC) : List (ClassId × FieldType) := [(C.2.2.1 0, .int), (C.2.2.1 1, .byte), (C.2.2.1 2, .boolean), (C.2.2.1 3, .long), (C.2.2.1 4, .array .int), (C.2.2.1 5, .object "ArgumentMender$Slot"), (C.2.2.1 6, .object "ArgumentMender$Cloth")]
theorem am_N_lt {a : Nat} (h : a < am_N) : a < 5000 := Nat.lt_trans h (by decide)
theorem am_ad_in (C : aC) {a : Nat} (h : a < am_N) : am_ad C a = C.1 + a := by unfold am_ad; rw [if_pos (am_N_lt h)]
theorem am_ws_get (C : aC) (M : aM) {a : Nat} (h : a < am_N) : (am_ws C M)[a]? = some (am_ad C a, am_ce C M a) := by
  unfold am_ws
  rw [List.getElem?_map, List.getElem?_range h]
  rfl
theorem am_ws_no (C : aC) (M : aM) {a : Nat} (h : ¬ a < am_N) : (am_ws C M)[a]? = none := by
  unfold am_ws
  rw [List.getElem?_eq_none]
  simp
  omega
theorem am_ws_set (C : aC) {M M' : aM} {a : Nat} (h : a < am_N) (hM : ∀ b, b < am_N → b ≠ a → am_ce C M' b = am_ce C M b) : (am_ws C M).set a (am_ad C a, am_ce C M' a) = am_ws C M' := by
  apply List.ext_getElem?
  intro b
  by_cases hb : b < am_N
  · rw [am_ws_get C M' hb]
    by_cases e : b = a
    · subst e
      rw [List.getElem?_set_self (by simp [am_ws]; exact hb)]
    · rw [List.getElem?_set_ne (Ne.symm e), am_ws_get C M hb, hM b hb e]
  · rw [am_ws_no C M' hb, List.getElem?_eq_none]
    simp [am_ws]
    omega
theorem am_wD (C : aC) (M : aM) : va_D (am_A C) (am_ws C M) := by
  have key : ∀ (k : Nat) (q : Nat × va_E), (am_ws C M)[k]? = some q → k < am_N ∧ q.1 = C.1 + k := by
    intro k q hk
    by_cases h : k < am_N
    · rw [am_ws_get C M h] at hk
      cases hk
      exact ⟨h, am_ad_in C h⟩
    · rw [am_ws_no C M h] at hk
      cases hk
  refine ⟨fun i j p q hi hj e => ?_, fun k q hk => ?_⟩
  · have h1 := (key i p hi).2
    have h2 := (key j q hj).2
    omega
  · show C.1 ≤ q.1
    rw [(key k q hk).2]
    omega
/-! locals: a fixed row of places -/
def am_ld : aL → Nat → Option aV
  | [], _ => none
  | v :: _, 0 => v
  | _ :: r, i + 1 => am_ld r i
def am_set : aL → Nat → Option aV → aL
  | [], _, _ => []
  | _ :: r, 0, v => v :: r
  | x :: r, i + 1, v => x :: am_set r i v
theorem am_set_len : ∀ (al : aL) (i : Nat) (v : Option aV), (am_set al i v).length = al.length
  | [], _, _ => rfl
  | _ :: _, 0, _ => rfl
  | _ :: r, i + 1, v => by simp [am_set, am_set_len r i v]
theorem am_ld_set : ∀ (al : aL) (i : Nat) (v : Option aV) (k : Nat), am_ld (am_set al i v) k = if k = i ∧ i < al.length then v else am_ld al k
  | [], i, v, k => by simp [am_set, am_ld]
  | x :: r, 0, v, k => by cases k <;> simp [am_set, am_ld]
  | x :: r, i + 1, v, k => by
    cases k with
    | zero => simp [am_set, am_ld]
    | succ k => simp [am_set, am_ld, am_ld_set r i v k]
theorem am_ld_lt : ∀ (al : aL) (i : Nat) (v : aV), am_ld al i = some v → i < al.length
  | [], _, _, h => by simp [am_ld] at h
  | _ :: _, 0, _, _ => by simp
  | _ :: r, i + 1, v, h => by simpa using am_ld_lt r i v h
def am_kl (al : aL) (i : Nat) : aL := match i with
  | 0 => al
  | k + 1 => match am_ld al k with
    | some (.inr (.inl _)) => am_set al k none
    | _ => al
def am_s1 (al : aL) (i : Nat) (v : aV) : aL := am_set (am_kl al i) i (some v)
def am_s2 (al : aL) (i : Nat) (v : aV) : aL := am_set (am_set (am_kl al i) (i + 1) none) i (some v)
theorem am_kl_len (al : aL) (i : Nat) : (am_kl al i).length = al.length := by
  unfold am_kl
  split
  · rfl
  · split
    · exact am_set_len _ _ _
    · rfl
theorem am_kl_ld {al : aL} {i k : Nat} {v : aV} (h : am_ld (am_kl al i) k = some v) : am_ld al k = some v ∧ ¬ (k + 1 = i ∧ ∃ x, v = .inr (.inl x)) := by
  unfold am_kl at h
  split at h
  · exact ⟨h, fun q => by omega⟩
  · rename_i n
    split at h
    · rename_i x hx
      rw [am_ld_set] at h
      split at h
      · cases h
      · refine ⟨h, fun q => ?_⟩
        have hk : k = n := by omega
        subst hk
        rename_i hn
        exact hn ⟨rfl, am_ld_lt _ _ _ hx⟩
    · rename_i hx
      refine ⟨h, fun q => ?_⟩
      have hk : k = n := by omega
      subst hk
      obtain ⟨-, x, e⟩ := q
      subst e
      exact hx x h
def am_wkb (kd a : Nat) : Bool := (Nat.blt a am_N && Nat.beq (am_sh a) kd) || (Nat.beq kd 60 && Nat.ble 5000 a && Nat.blt a (5000 + am_nS)) || (Nat.beq kd 61 && Nat.beq a 5100) || (Nat.beq kd 62 && Nat.beq a 5200)
def am_ok (v : aV) : Prop := match v with
  | .inr (.inr q) => am_wkb q.1 q.2 = true
  | _ => True
def am_wk (st : List aV) : Prop := ∀ v ∈ st, am_ok v
def am_wl (al : aL) : Prop := ∀ (i : Nat) (v : aV), am_ld al i = some v → am_ok v
theorem am_wk_c {v : aV} {st : List aV} (h : am_ok v) (ht : am_wk st) : am_wk (v :: st) := fun u hu => by
  rcases List.mem_cons.mp hu with e | e
  · rw [e]; exact h
  · exact ht u e
theorem am_wk_t {v : aV} {st : List aV} (h : am_wk (v :: st)) : am_wk st := fun u hu => h u (List.mem_cons_of_mem _ hu)
theorem am_wk_h {v : aV} {st : List aV} (h : am_wk (v :: st)) : am_ok v := h v List.mem_cons_self
theorem am_wl_s1 {al : aL} {i : Nat} {v : aV} (h : am_wl al) (hv : am_ok v) : am_wl (am_s1 al i v) := by
  intro k u hk
  unfold am_s1 at hk
  rw [am_ld_set] at hk
  split at hk
  · cases hk; exact hv
  · exact h k u (am_kl_ld hk).1
theorem am_wl_s2 {al : aL} {i : Nat} {v : aV} (h : am_wl al) (hv : am_ok v) : am_wl (am_s2 al i v) := by
  intro k u hk
  unfold am_s2 at hk
  rw [am_ld_set] at hk
  split at hk
  · cases hk; exact hv
  · rw [am_ld_set] at hk
    split at hk
    · cases hk
    · exact h k u (am_kl_ld hk).1
def am_lh (C : aC) (ls : Array Slot) (nL : Nat) (al : aL) : Prop := ls.size = nL ∧ lv_wf ls ∧ al.length = nL ∧ ∀ (i : Nat) (v : aV), am_ld al i = some v → ls[i]? = some (.val (am_cv C v))
def am_lv (C : aC) (al : aL) (nL : Nat) : List (Nat × Value) := (List.range nL).filterMap (fun k => (am_ld al k).map (fun v => (k, am_cv C v)))
theorem am_lv_mem {C : aC} {al : aL} {nL k : Nat} {v : aV} (hk : k < nL) (h : am_ld al k = some v) : (k, am_cv C v) ∈ am_lv C al nL := by
  unfold am_lv
  exact List.mem_filterMap.mpr ⟨k, List.mem_range.mpr hk, by rw [h]; rfl⟩
theorem am_lh_has {C : aC} {ls : Array Slot} {nL : Nat} {al : aL} (h : am_lh C ls nL al) : lv_has ls nL (am_lv C al nL) := by
  refine ⟨h.1, h.2.1, fun q hq => ?_⟩
  obtain ⟨k, -, hk⟩ := List.mem_filterMap.mp hq
  cases hv : am_ld al k with
  | none => rw [hv] at hk; cases hk
  | some v =>
    rw [hv] at hk
    cases hk
    exact h.2.2.2 k v hv
theorem am_lh_sub {C : aC} {ls : Array Slot} {nL : Nat} {al al' : aL} (h : am_lh C ls nL al) (hl : al'.length = al.length) (hs : ∀ i v, am_ld al' i = some v → am_ld al i = some v) : am_lh C ls nL al' := ⟨h.1, h.2.1, hl.trans h.2.2.1, fun i v hv => h.2.2.2 i v (hs i v hv)⟩
theorem am_cat1 {C : aC} {v : aV} (h : ¬ ∃ x, v = .inr (.inl x)) : (am_cv C v).category = 1 := by
  match v with
  | .inl x => rfl
  | .inr (.inl x) => exact absurd ⟨x, rfl⟩ h
  | .inr (.inr q) => rfl
theorem am_lh_s1 {C : aC} {ls ls' : Array Slot} {nL i : Nat} {al : aL} {v : aV} (h : am_lh C ls nL al) (hi : i < nL) (h' : lv_has ls' nL ((i, am_cv C v) :: (am_lv C al nL).filter (fun q => !(q.1 == i) && !(q.1 + 1 == i && q.2.category == 2)))) : am_lh C ls' nL (am_s1 al i v) := by
  refine ⟨h'.1, h'.2.1, by unfold am_s1; rw [am_set_len, am_kl_len]; exact h.2.2.1, fun k u hk => ?_⟩
  unfold am_s1 at hk
  rw [am_ld_set] at hk
  split at hk
  · rename_i e
    cases hk
    rw [e.1]
    exact h'.2.2 (i, am_cv C v) List.mem_cons_self
  · rename_i e
    obtain ⟨h1, h2⟩ := am_kl_ld hk
    have hki : k ≠ i := fun q => e ⟨q, by rw [am_kl_len, h.2.2.1]; exact hi⟩
    refine h'.2.2 (k, am_cv C u) (List.mem_cons_of_mem _ (List.mem_filter.mpr ⟨am_lv_mem (by have := am_ld_lt _ _ _ h1; rw [h.2.2.1] at this; exact this) h1, ?_⟩))
    by_cases hq : k + 1 = i
    · have := am_cat1 (C := C) (v := u) (fun z => h2 ⟨hq, z⟩)
      simp [hki, this]
    · simp [hki, hq]
theorem am_lh_s2 {C : aC} {ls ls' : Array Slot} {nL i : Nat} {al : aL} {v : aV} (h : am_lh C ls nL al) (hi : i + 1 < nL) (h' : lv_has ls' nL ((i, am_cv C v) :: (am_lv C al nL).filter (fun q => !(q.1 == i) && (!(q.1 == i + 1) && !(q.1 + 1 == i && q.2.category == 2))))) : am_lh C ls' nL (am_s2 al i v) := by
  refine ⟨h'.1, h'.2.1, by unfold am_s2; rw [am_set_len, am_set_len, am_kl_len]; exact h.2.2.1, fun k u hk => ?_⟩
  unfold am_s2 at hk
  rw [am_ld_set] at hk
  split at hk
  · rename_i e
    cases hk
    rw [e.1]
    exact h'.2.2 (i, am_cv C v) List.mem_cons_self
  · rename_i e
    rw [am_ld_set] at hk
    split at hk
    · cases hk
    · rename_i e2
      obtain ⟨h1, h2⟩ := am_kl_ld hk
      have hki : k ≠ i := fun q => e ⟨q, by rw [am_set_len, am_kl_len, h.2.2.1]; omega⟩
      have hki2 : k ≠ i + 1 := fun q => e2 ⟨q, by rw [am_kl_len, h.2.2.1]; omega⟩
      refine h'.2.2 (k, am_cv C u) (List.mem_cons_of_mem _ (List.mem_filter.mpr ⟨am_lv_mem (by have := am_ld_lt _ _ _ h1; rw [h.2.2.1] at this; exact this) h1, ?_⟩))
      by_cases hq : k + 1 = i
      · have := am_cat1 (C := C) (v := u) (fun z => h2 ⟨hq, z⟩)
        simp [hki, hki2, this]
      · simp [hki, hki2, hq]
def am_inB (j : Int32) (n : Nat) : Bool := !(decide (j < 0) || Nat.ble n j.toNatClampNeg)
theorem am_inB_in {j : Int32} {n : Nat} (h : am_inB j n = true) : vp_in j n := by
  unfold am_inB at h
  unfold vp_in
  simp only [Bool.not_eq_true', Bool.or_eq_false_iff, decide_eq_false_iff_not] at h
  intro q
  rcases q with q | q
  · exact h.1 q
  · have := Nat.ble_eq_true_of_le q
    rw [this] at h
    exact absurd h.2 (by decide)
/-! ===== one step: to a continuation ===== -/
def am_pop : Nat → List aV → List aV → Option (List aV × List aV)
  | 0, acc, st => some (acc, st)
  | n + 1, acc, v :: st => am_pop n (v :: acc) st
  | _ + 1, _, [] => none
def am_wd : List aV → Nat
  | [] => 0
  | .inr (.inl _) :: r => 2 + am_wd r
  | _ :: r => 1 + am_wd r
def am_ret (rt : Nat) (ins : Instr) (st : List aV) (M : aM) : Option aR := match ins, st with
  | .ireturn, [.inl v] => match rt with
    | 0 => some (some (.inl v), M)
    | 1 => some (some (.inl (v &&& 1)), M)
    | _ => none
  | .lreturn, [.inr (.inl v)] => match rt with
    | 2 => some (some (.inr (.inl v)), M)
    | _ => none
  | .areturn, [.inr (.inr q)] => match rt with
    | 3 => some (some (.inr (.inr q)), M)
    | _ => none
  | .return_, [] => match rt with
    | 4 => some (none, M)
    | _ => none
  | _, _ => none
def am_bi (o : Option aR) (f : Int32 → aM → Option aR) : Option aR := match o with
  | some (some (.inl v), M) => f v M
  | _ => none
def am_bl (o : Option aR) (f : Int64 → aM → Option aR) : Option aR := match o with
  | some (some (.inr (.inl v)), M) => f v M
  | _ => none
/-- the one reference that is ever answered -/
def am_br (o : Option aR) (f : aM → Option aR) : Option aR := match o with
  | some (some (.inr (.inr (kq, a))), M) => match Nat.beq kq am_tk, Nat.beq a am_ta with
    | true, true => f M
    | _, _ => none
  | _ => none
def am_bv (o : Option aR) (f : aM → Option aR) : Option aR := match o with
  | some (none, M) => f M
  | _ => none
/-- the callee's answer, by its kind: 0 an int, 2 a long, 3 a reference, else nothing -/
def am_back (kd : Nat) (k : aK) (pc : Nat) (al : aL) (r : List aV) (o : Option aR) : Option aR := match kd with
  | 0 => am_bi o (fun v M => k (pc + 3) al (.inl v :: r) M)
  | 2 => am_bl o (fun v M => k (pc + 3) al (.inr (.inl v) :: r) M)
  | 3 => am_br o (fun M => k (pc + 3) al (.inr (.inr (am_tk, am_ta)) :: r) M)
  | _ => am_bv o (fun M => k (pc + 3) al r M)
def am_cpOk (sp dp n : Int32) (l0 l1 : Nat) : Bool := !(decide (sp < 0)) && !(decide (dp < 0)) && !(decide (n < 0)) && Nat.ble (sp.toNatClampNeg + n.toNatClampNeg) l0 && Nat.ble (dp.toNatClampNeg + n.toNatClampNeg) l1

def am_iadd (k : aK) (pc : Nat) (al : aL) (st : List aV) (M : aM) : Option aR := match st with
  | .inl y :: .inl x :: r => k (pc + 1) al (.inl (x + y) :: r) M
  | _ => none
def am_isub (k : aK) (pc : Nat) (al : aL) (st : List aV) (M : aM) : Option aR := match st with
  | .inl y :: .inl x :: r => k (pc + 1) al (.inl (x - y) :: r) M
  | _ => none
def am_imul (k : aK) (pc : Nat) (al : aL) (st : List aV) (M : aM) : Option aR := match st with
  | .inl y :: .inl x :: r => k (pc + 1) al (.inl (x * y) :: r) M
  | _ => none
def am_iand (k : aK) (pc : Nat) (al : aL) (st : List aV) (M : aM) : Option aR := match st with
  | .inl y :: .inl x :: r => k (pc + 1) al (.inl (x &&& y) :: r) M
  | _ => none
def am_ior (k : aK) (pc : Nat) (al : aL) (st : List aV) (M : aM) : Option aR := match st with
  | .inl y :: .inl x :: r => k (pc + 1) al (.inl (x ||| y) :: r) M
  | _ => none
def am_ixor (k : aK) (pc : Nat) (al : aL) (st : List aV) (M : aM) : Option aR := match st with
  | .inl y :: .inl x :: r => k (pc + 1) al (.inl (x ^^^ y) :: r) M
  | _ => none
def am_ishl (k : aK) (pc : Nat) (al : aL) (st : List aV) (M : aM) : Option aR := match st with
  | .inl y :: .inl x :: r => k (pc + 1) al (.inl (x <<< (y &&& 31)) :: r) M
  | _ => none
def am_ishr (k : aK) (pc : Nat) (al : aL) (st : List aV) (M : aM) : Option aR := match st with
  | .inl y :: .inl x :: r => k (pc + 1) al (.inl (x >>> (y &&& 31)) :: r) M
  | _ => none
def am_iushr (k : aK) (pc : Nat) (al : aL) (st : List aV) (M : aM) : Option aR := match st with
  | .inl y :: .inl x :: r => k (pc + 1) al (.inl ((x.toUInt32 >>> (y.toUInt32 &&& Int32.toUInt32 31)).toInt32) :: r) M
  | _ => none
def am_idiv (k : aK) (pc : Nat) (al : aL) (st : List aV) (M : aM) : Option aR := match st with
  | .inl y :: .inl x :: r => if y = 0 then none else k (pc + 1) al (.inl (x / y) :: r) M
  | _ => none
def am_irem (k : aK) (pc : Nat) (al : aL) (st : List aV) (M : aM) : Option aR := match st with
  | .inl y :: .inl x :: r => if y = 0 then none else k (pc + 1) al (.inl (x - x / y * y) :: r) M
  | _ => none
def am_ladd (k : aK) (pc : Nat) (al : aL) (st : List aV) (M : aM) : Option aR := match st with
  | .inr (.inl y) :: .inr (.inl x) :: r => k (pc + 1) al (.inr (.inl (x + y)) :: r) M
  | _ => none
def am_lsub (k : aK) (pc : Nat) (al : aL) (st : List aV) (M : aM) : Option aR := match st with
  | .inr (.inl y) :: .inr (.inl x) :: r => k (pc + 1) al (.inr (.inl (x - y)) :: r) M
  | _ => none
def am_lmul (k : aK) (pc : Nat) (al : aL) (st : List aV) (M : aM) : Option aR := match st with
  | .inr (.inl y) :: .inr (.inl x) :: r => k (pc + 1) al (.inr (.inl (x * y)) :: r) M
  | _ => none
def am_land (k : aK) (pc : Nat) (al : aL) (st : List aV) (M : aM) : Option aR := match st with
  | .inr (.inl y) :: .inr (.inl x) :: r => k (pc + 1) al (.inr (.inl (x &&& y)) :: r) M
  | _ => none
def am_lor (k : aK) (pc : Nat) (al : aL) (st : List aV) (M : aM) : Option aR := match st with
  | .inr (.inl y) :: .inr (.inl x) :: r => k (pc + 1) al (.inr (.inl (x ||| y)) :: r) M
  | _ => none
def am_ldiv (k : aK) (pc : Nat) (al : aL) (st : List aV) (M : aM) : Option aR := match st with
  | .inr (.inl y) :: .inr (.inl x) :: r => if y = 0 then none else k (pc + 1) al (.inr (.inl (x / y)) :: r) M
  | _ => none
def am_lrem (k : aK) (pc : Nat) (al : aL) (st : List aV) (M : aM) : Option aR := match st with
  | .inr (.inl y) :: .inr (.inl x) :: r => if y = 0 then none else k (pc + 1) al (.inr (.inl (x - x / y * y)) :: r) M
  | _ => none
def am_lshl (k : aK) (pc : Nat) (al : aL) (st : List aV) (M : aM) : Option aR := match st with
  | .inl y :: .inr (.inl x) :: r => k (pc + 1) al (.inr (.inl (x <<< (y.toInt64 &&& 63))) :: r) M
  | _ => none
def am_lshr (k : aK) (pc : Nat) (al : aL) (st : List aV) (M : aM) : Option aR := match st with
  | .inl y :: .inr (.inl x) :: r => k (pc + 1) al (.inr (.inl (x >>> (y.toInt64 &&& 63))) :: r) M
  | _ => none
def am_ineg (k : aK) (pc : Nat) (al : aL) (st : List aV) (M : aM) : Option aR := match st with
  | .inl x :: r => k (pc + 1) al (.inl (-x) :: r) M
  | _ => none
def am_i2b (k : aK) (pc : Nat) (al : aL) (st : List aV) (M : aM) : Option aR := match st with
  | .inl x :: r => k (pc + 1) al (.inl (x.toInt8.toInt32) :: r) M
  | _ => none
def am_i2s (k : aK) (pc : Nat) (al : aL) (st : List aV) (M : aM) : Option aR := match st with
  | .inl x :: r => k (pc + 1) al (.inl (x.toInt16.toInt32) :: r) M
  | _ => none
def am_i2c (k : aK) (pc : Nat) (al : aL) (st : List aV) (M : aM) : Option aR := match st with
  | .inl x :: r => k (pc + 1) al (.inl ((x.toUInt32 % 65536).toInt32) :: r) M
  | _ => none
def am_lneg (k : aK) (pc : Nat) (al : aL) (st : List aV) (M : aM) : Option aR := match st with
  | .inr (.inl x) :: r => k (pc + 1) al (.inr (.inl (-x)) :: r) M
  | _ => none
def am_i2l (k : aK) (pc : Nat) (al : aL) (st : List aV) (M : aM) : Option aR := match st with
  | .inl x :: r => k (pc + 1) al (.inr (.inl x.toInt64) :: r) M
  | _ => none
def am_l2i (k : aK) (pc : Nat) (al : aL) (st : List aV) (M : aM) : Option aR := match st with
  | .inr (.inl x) :: r => k (pc + 1) al (.inl x.toInt32 :: r) M
  | _ => none
def am_lcmp (k : aK) (pc : Nat) (al : aL) (st : List aV) (M : aM) : Option aR := match st with
  | .inr (.inl y) :: .inr (.inl x) :: r => k (pc + 1) al (.inl (lg_cmp x y) :: r) M
  | _ => none
def am_ifeq (t : Nat) (k : aK) (pc : Nat) (al : aL) (st : List aV) (M : aM) : Option aR := match st with
  | .inl x :: r => if x = 0 then k t al r M else k (pc + 3) al r M
  | _ => none
def am_iceq (t : Nat) (k : aK) (pc : Nat) (al : aL) (st : List aV) (M : aM) : Option aR := match st with
  | .inl y :: .inl x :: r => if x = y then k t al r M else k (pc + 3) al r M
  | _ => none
def am_ifne (t : Nat) (k : aK) (pc : Nat) (al : aL) (st : List aV) (M : aM) : Option aR := match st with
  | .inl x :: r => if ¬ x = 0 then k t al r M else k (pc + 3) al r M
  | _ => none
def am_icne (t : Nat) (k : aK) (pc : Nat) (al : aL) (st : List aV) (M : aM) : Option aR := match st with
  | .inl y :: .inl x :: r => if ¬ x = y then k t al r M else k (pc + 3) al r M
  | _ => none
def am_iflt (t : Nat) (k : aK) (pc : Nat) (al : aL) (st : List aV) (M : aM) : Option aR := match st with
  | .inl x :: r => if x < 0 then k t al r M else k (pc + 3) al r M
  | _ => none
def am_iclt (t : Nat) (k : aK) (pc : Nat) (al : aL) (st : List aV) (M : aM) : Option aR := match st with
  | .inl y :: .inl x :: r => if x < y then k t al r M else k (pc + 3) al r M
  | _ => none
def am_ifge (t : Nat) (k : aK) (pc : Nat) (al : aL) (st : List aV) (M : aM) : Option aR := match st with
  | .inl x :: r => if 0 ≤ x then k t al r M else k (pc + 3) al r M
  | _ => none
def am_icge (t : Nat) (k : aK) (pc : Nat) (al : aL) (st : List aV) (M : aM) : Option aR := match st with
  | .inl y :: .inl x :: r => if y ≤ x then k t al r M else k (pc + 3) al r M
  | _ => none
def am_ifgt (t : Nat) (k : aK) (pc : Nat) (al : aL) (st : List aV) (M : aM) : Option aR := match st with
  | .inl x :: r => if 0 < x then k t al r M else k (pc + 3) al r M
  | _ => none
def am_icgt (t : Nat) (k : aK) (pc : Nat) (al : aL) (st : List aV) (M : aM) : Option aR := match st with
  | .inl y :: .inl x :: r => if y < x then k t al r M else k (pc + 3) al r M
  | _ => none
def am_ifle (t : Nat) (k : aK) (pc : Nat) (al : aL) (st : List aV) (M : aM) : Option aR := match st with
  | .inl x :: r => if x ≤ 0 then k t al r M else k (pc + 3) al r M
  | _ => none
def am_icle (t : Nat) (k : aK) (pc : Nat) (al : aL) (st : List aV) (M : aM) : Option aR := match st with
  | .inl y :: .inl x :: r => if x ≤ y then k t al r M else k (pc + 3) al r M
  | _ => none
def am_dup (k : aK) (pc : Nat) (al : aL) (st : List aV) (M : aM) : Option aR := match st with
  | .inl x :: r => k (pc + 1) al (.inl x :: .inl x :: r) M
  | .inr (.inr q) :: r => k (pc + 1) al (.inr (.inr q) :: .inr (.inr q) :: r) M
  | _ => none
def am_dup2 (k : aK) (pc : Nat) (al : aL) (st : List aV) (M : aM) : Option aR := match st with
  | .inl x :: .inr (.inr q) :: r => k (pc + 1) al (.inl x :: .inr (.inr q) :: .inl x :: .inr (.inr q) :: r) M
  | _ => none
def am_popi (k : aK) (pc : Nat) (al : aL) (st : List aV) (M : aM) : Option aR := match st with
  | .inl _ :: r => k (pc + 1) al r M
  | .inr (.inr _) :: r => k (pc + 1) al r M
  | _ => none
def am_il (n i : Nat) (k : aK) (pc : Nat) (al : aL) (st : List aV) (M : aM) : Option aR := match am_ld al i with
  | some (.inl x) => k (pc + n) al (.inl x :: st) M
  | _ => none
def am_ll (n i : Nat) (k : aK) (pc : Nat) (al : aL) (st : List aV) (M : aM) : Option aR := match am_ld al i with
  | some (.inr (.inl x)) => k (pc + n) al (.inr (.inl x) :: st) M
  | _ => none
def am_al (n i : Nat) (k : aK) (pc : Nat) (al : aL) (st : List aV) (M : aM) : Option aR := match am_ld al i with
  | some (.inr (.inr q)) => k (pc + n) al (.inr (.inr q) :: st) M
  | _ => none
def am_is (n i : Nat) (k : aK) (pc : Nat) (al : aL) (st : List aV) (M : aM) : Option aR := match Nat.blt i al.length, st with
  | true, .inl x :: r => k (pc + n) (am_s1 al i (.inl x)) r M
  | _, _ => none
def am_ls (n i : Nat) (k : aK) (pc : Nat) (al : aL) (st : List aV) (M : aM) : Option aR := match Nat.blt (i + 1) al.length, st with
  | true, .inr (.inl x) :: r => k (pc + n) (am_s2 al i (.inr (.inl x))) r M
  | _, _ => none
def am_as (n i : Nat) (k : aK) (pc : Nat) (al : aL) (st : List aV) (M : aM) : Option aR := match Nat.blt i al.length, st with
  | true, .inr (.inr q) :: r => k (pc + n) (am_s1 al i (.inr (.inr q))) r M
  | _, _ => none
def am_inc (i : Nat) (d : Int32) (k : aK) (pc : Nat) (al : aL) (st : List aV) (M : aM) : Option aR := match am_ld al i with
  | some (.inl x) => k (pc + 3) (am_s1 al i (.inl (x + d))) st M
  | _ => none
def am_fd (kd f : Nat) : Nat × Nat × Nat := (am_fl kd).getD f (9, 0, 0)
def am_gf (kd f : Nat) (k : aK) (pc : Nat) (al : aL) (st : List aV) (M : aM) : Option aR := match st with
  | .inr (.inr (kq, a)) :: r => match Nat.beq kq kd, am_fd kd f with
    | true, (0, _, _) => k (pc + 3) al (.inl (M.1 a f) :: r) M
    | true, (1, _, _) => k (pc + 3) al (.inr (.inl (M.2 a f)) :: r) M
    | true, (2, k2, d) => k (pc + 3) al (.inr (.inr (k2, a + d)) :: r) M
    | _, _ => none
  | _ => none
def am_pf (kd f : Nat) (k : aK) (pc : Nat) (al : aL) (st : List aV) (M : aM) : Option aR := match st with
  | .inl v :: .inr (.inr (kq, a)) :: r => match Nat.beq kq kd, am_fd kd f with
    | true, (0, _, _) => k (pc + 3) al r (am_u M.1 a f v, M.2)
    | _, _ => none
  | .inr (.inl v) :: .inr (.inr (kq, a)) :: r => match Nat.beq kq kd, am_fd kd f with
    | true, (1, _, _) => k (pc + 3) al r (M.1, am_ul M.2 a f v)
    | _, _ => none
  | _ => none
def am_iald (X : Option (Nat × (Nat → Int32))) (k : aK) (pc : Nat) (al : aL) (st : List aV) (M : aM) : Option aR := match st with
  | .inl j :: .inr (.inr (kq, a)) :: r => match am_ar kq with
    | (0, n, _, _, _, _) => if am_inB j n then k (pc + 1) al (.inl (M.1 a j.toNatClampNeg) :: r) M else none
    | (7, _, _, _, _, _) => if am_inB j 9 then k (pc + 1) al (.inl (am_fact j.toNatClampNeg) :: r) M else none
    | (8, _, _, _, _, _) => match X with
      | some (n, xs) => if am_inB j n then k (pc + 1) al (.inl (xs j.toNatClampNeg) :: r) M else none
      | none => none
    | _ => none
  | _ => none
def am_bald (k : aK) (pc : Nat) (al : aL) (st : List aV) (M : aM) : Option aR := match st with
  | .inl j :: .inr (.inr (kq, a)) :: r => match am_ar kq with
    | (1, n, _, _, _, _) => if am_inB j n then k (pc + 1) al (.inl (M.1 a j.toNatClampNeg) :: r) M else none
    | (2, n, _, _, _, _) => if am_inB j n then k (pc + 1) al (.inl (M.1 a j.toNatClampNeg) :: r) M else none
    | _ => none
  | _ => none
def am_lald (k : aK) (pc : Nat) (al : aL) (st : List aV) (M : aM) : Option aR := match st with
  | .inl j :: .inr (.inr (kq, a)) :: r => match am_ar kq with
    | (3, n, _, _, _, _) => if am_inB j n then k (pc + 1) al (.inr (.inl (M.2 a j.toNatClampNeg)) :: r) M else none
    | _ => none
  | _ => none
def am_aald (k : aK) (pc : Nat) (al : aL) (st : List aV) (M : aM) : Option aR := match st with
  | .inl j :: .inr (.inr (kq, a)) :: r => match am_ar kq with
    | (4, n, _, ek, o, d) => if am_inB j n then k (pc + 1) al (.inr (.inr (ek, a + (o + d * j.toNatClampNeg))) :: r) M else none
    | _ => none
  | _ => none
def am_iast (k : aK) (pc : Nat) (al : aL) (st : List aV) (M : aM) : Option aR := match st with
  | .inl v :: .inl j :: .inr (.inr (kq, a)) :: r => match am_ar kq with
    | (0, n, _, _, _, _) => if am_inB j n then k (pc + 1) al r (am_u M.1 a j.toNatClampNeg v, M.2) else none
    | _ => none
  | _ => none
def am_bast (k : aK) (pc : Nat) (al : aL) (st : List aV) (M : aM) : Option aR := match st with
  | .inl v :: .inl j :: .inr (.inr (kq, a)) :: r => match am_ar kq with
    | (1, n, _, _, _, _) => if am_inB j n then k (pc + 1) al r (am_u M.1 a j.toNatClampNeg v.toInt8.toInt32, M.2) else none
    | (2, n, _, _, _, _) => if am_inB j n then k (pc + 1) al r (am_u M.1 a j.toNatClampNeg (v &&& 1), M.2) else none
    | _ => none
  | _ => none
def am_last (k : aK) (pc : Nat) (al : aL) (st : List aV) (M : aM) : Option aR := match st with
  | .inr (.inl v) :: .inl j :: .inr (.inr (kq, a)) :: r => match am_ar kq with
    | (3, n, _, _, _, _) => if am_inB j n then k (pc + 1) al r (M.1, am_ul M.2 a j.toNatClampNeg v) else none
    | _ => none
  | _ => none
def am_alen (X : Option (Nat × (Nat → Int32))) (k : aK) (pc : Nat) (al : aL) (st : List aV) (M : aM) : Option aR := match st with
  | .inr (.inr (kq, _)) :: r => match am_ar kq with
    | (0, n, _, _, _, _) => k (pc + 1) al (.inl (nI n) :: r) M
    | (3, n, _, _, _, _) => k (pc + 1) al (.inl (nI n) :: r) M
    | (8, _, _, _, _, _) => match X with
      | some (n, _) => k (pc + 1) al (.inl (nI n) :: r) M
      | none => none
    | _ => none
  | _ => none
/-- invokevirtual: the callee's arguments are taken off, its answer comes back; x: receiver's kind, arguments, kind of answer -/
def am_iv (sem : Nat → List aV → aM → Option aR) (j x : Nat) (k : aK) (pc : Nat) (al : aL) (st : List aV) (M : aM) : Option aR := match am_pop (x / 10 % 100 + 1) [] st with
  | some (.inr (.inr (kq, a)) :: as, r) => match Nat.beq kq (x / 1000), Nat.ble (am_wd r) 8 with
    | true, true => am_back (x % 10) k pc al r (sem j (.inr (.inr (kq, a)) :: as) M)
    | _, _ => none
  | _ => none
def am_cpi (k : aK) (pc : Nat) (al : aL) (st : List aV) (M : aM) : Option aR := match st with
  | .inl n :: .inl dp :: .inr (.inr (k1, a)) :: .inl sp :: .inr (.inr (k0, b)) :: r => match am_ar k0, am_ar k1, Nat.ble (am_wd r) 4 with
    | (0, l0, _, _, _, _), (0, l1, _, _, _, _), true => if am_cpOk sp dp n l0 l1 then k (pc + 3) al r (am_ua M.1 a (va_cpy (M.1 b) (M.1 a) sp.toNatClampNeg dp.toNatClampNeg n.toNatClampNeg), M.2) else none
    | (3, l0, _, _, _, _), (3, l1, _, _, _, _), true => if am_cpOk sp dp n l0 l1 then k (pc + 3) al r (M.1, am_ua M.2 a (va_cpy (M.2 b) (M.2 a) sp.toNatClampNeg dp.toNatClampNeg n.toNatClampNeg)) else none
    | _, _, _ => none
  | _ => none
def am_mn (k : aK) (pc : Nat) (al : aL) (st : List aV) (M : aM) : Option aR := match st with
  | .inl y :: .inl x :: r => match Nat.ble (am_wd r) 8 with
    | true => k (pc + 3) al (.inl (if y < x then y else x) :: r) M
    | false => none
  | _ => none
def am_mx (k : aK) (pc : Nat) (al : aL) (st : List aV) (M : aM) : Option aR := match st with
  | .inl y :: .inl x :: r => match Nat.ble (am_wd r) 8 with
    | true => k (pc + 3) al (.inl (if x < y then y else x) :: r) M
    | false => none
  | _ => none
def am_ab (k : aK) (pc : Nat) (al : aL) (st : List aV) (M : aM) : Option aR := match st with
  | .inr (.inl x) :: r => match Nat.ble (am_wd r) 8 with
    | true => k (pc + 3) al (.inr (.inl (if 0 < x then x else -x)) :: r) M
    | false => none
  | _ => none
def am_iS (sem : Nat → List aV → aM → Option aR) (j x : Nat) (k : aK) (pc : Nat) (al : aL) (st : List aV) (M : aM) : Option aR := match am_pop (x / 10) [] st with
  | some (as, r) => match Nat.ble (am_wd r) 8 with
    | true => am_back (x % 10) k pc al r (sem j as M)
    | false => none
  | none => none
def am_sw (k : aK) (al : aL) (r : List aV) (M : aM) (x : Int32) (d : Nat) : List (Int32 × Nat) → Option aR
  | [] => k d al r M
  | (c, t) :: q => if x = c then k t al r M else am_sw k al r M x d q

def am_len (ins : Instr) : Nat := match ins with
  | .iload _ | .lload _ | .aload _ | .istore _ | .lstore _ | .astore _ | .bipush _ | .ldc _ => 2
  | .sipush _ | .iinc _ _ | .goto _ | .if_icmp _ _ | .ifCond _ _ | .getfield _ | .putfield _ | .getstatic _ | .invokevirtual _ | .invokestatic _ | .ldc_w _ | .ldc2_w _ => 3
  | _ => 1
def am_stp (X : Option (Nat × (Nat → Int32))) (sws : List (List (Int32 × Nat) × Nat)) (sem : Nat → List aV → aM → Option aR) (rt : Nat) (k : aK) (ins : Instr) (a1 a2 : Nat) (a3 : Int32) (a4 : Int64) (pc : Nat) (al : aL) (st : List aV) (M : aM) : Option aR := match ins with
  | .iconst _ => k (pc + 1) al (.inl a3 :: st) M
  | .bipush _ => k (pc + 2) al (.inl a3 :: st) M
  | .sipush _ => k (pc + 3) al (.inl a3 :: st) M
  | .lconst _ => k (pc + 1) al (.inr (.inl a4) :: st) M
  | .ldc _ => match a2 with
    | 0 => k (pc + 2) al (.inl a3 :: st) M
    | _ => k (pc + 2) al (.inr (.inr (60, 5000 + a1)) :: st) M
  | .ldc_w _ => k (pc + 3) al (.inl a3 :: st) M
  | .ldc2_w _ => k (pc + 3) al (.inr (.inl a4) :: st) M
  | .iload_n _ => am_il 1 a1 k pc al st M
  | .iload _ => am_il 2 a1 k pc al st M
  | .lload_n _ => am_ll 1 a1 k pc al st M
  | .lload _ => am_ll 2 a1 k pc al st M
  | .aload_n _ => am_al 1 a1 k pc al st M
  | .aload _ => am_al 2 a1 k pc al st M
  | .istore_n _ => am_is 1 a1 k pc al st M
  | .istore _ => am_is 2 a1 k pc al st M
  | .lstore_n _ => am_ls 1 a1 k pc al st M
  | .lstore _ => am_ls 2 a1 k pc al st M
  | .astore_n _ => am_as 1 a1 k pc al st M
  | .astore _ => am_as 2 a1 k pc al st M
  | .iinc _ _ => am_inc a1 a3 k pc al st M
  | .dup => am_dup k pc al st M
  | .dup2 => am_dup2 k pc al st M
  | .pop => am_popi k pc al st M
  | .goto _ => k a1 al st M
  | .ifCond .eq _ => am_ifeq a1 k pc al st M
  | .ifCond .ne _ => am_ifne a1 k pc al st M
  | .ifCond .lt _ => am_iflt a1 k pc al st M
  | .ifCond .ge _ => am_ifge a1 k pc al st M
  | .ifCond .gt _ => am_ifgt a1 k pc al st M
  | .ifCond .le _ => am_ifle a1 k pc al st M
  | .if_icmp .eq _ => am_iceq a1 k pc al st M
  | .if_icmp .ne _ => am_icne a1 k pc al st M
  | .if_icmp .lt _ => am_iclt a1 k pc al st M
  | .if_icmp .ge _ => am_icge a1 k pc al st M
  | .if_icmp .gt _ => am_icgt a1 k pc al st M
  | .if_icmp .le _ => am_icle a1 k pc al st M
  | .getfield _ => am_gf a1 a2 k pc al st M
  | .putfield _ => am_pf a1 a2 k pc al st M
  | .getstatic _ => k (pc + 3) al (.inr (.inr (61, 5100)) :: st) M
  | .iaload => am_iald X k pc al st M
  | .baload => am_bald k pc al st M
  | .laload => am_lald k pc al st M
  | .aaload => am_aald k pc al st M
  | .iastore => am_iast k pc al st M
  | .bastore => am_bast k pc al st M
  | .lastore => am_last k pc al st M
  | .arraylength => am_alen X k pc al st M
  | .invokevirtual _ => am_iv sem a1 a2 k pc al st M
  | .invokestatic _ => match a2 with
    | 0 => none
    | 1 => am_cpi k pc al st M
    | 2 => am_mn k pc al st M
    | 3 => am_mx k pc al st M
    | 4 => am_ab k pc al st M
    | x + 5 => am_iS sem a1 x k pc al st M
  | .tableswitch _ _ _ _ => match st with
    | .inl x :: r => am_sw k al r M x (sws.getD a1 ([], 0)).2 (sws.getD a1 ([], 0)).1
    | _ => none
  | .iadd => am_iadd k pc al st M
  | .isub => am_isub k pc al st M
  | .imul => am_imul k pc al st M
  | .iand => am_iand k pc al st M
  | .ior => am_ior k pc al st M
  | .ixor => am_ixor k pc al st M
  | .ishl => am_ishl k pc al st M
  | .ishr => am_ishr k pc al st M
  | .iushr => am_iushr k pc al st M
  | .idiv => am_idiv k pc al st M
  | .irem => am_irem k pc al st M
  | .ladd => am_ladd k pc al st M
  | .lsub => am_lsub k pc al st M
  | .lmul => am_lmul k pc al st M
  | .land => am_land k pc al st M
  | .lor => am_lor k pc al st M
  | .ldiv => am_ldiv k pc al st M
  | .lrem => am_lrem k pc al st M
  | .lshl => am_lshl k pc al st M
  | .lshr => am_lshr k pc al st M
  | .ineg => am_ineg k pc al st M
  | .i2b => am_i2b k pc al st M
  | .i2s => am_i2s k pc al st M
  | .i2c => am_i2c k pc al st M
  | .lneg => am_lneg k pc al st M
  | .i2l => am_i2l k pc al st M
  | .l2i => am_l2i k pc al st M
  | .lcmp => am_lcmp k pc al st M
  | ins => am_ret rt ins st M
def am_chi (sws : List (List (Int32 × Nat) × Nat)) (o pc : Nat) (ins : Instr) (a1 a2 : Nat) (a3 : Int32) (a4 : Int64) : Bool := match ins with
  | .iconst n => decide (Int32.ofInt n = a3)
  | .bipush n => decide ((Int8.ofInt n).toInt32 = a3)
  | .sipush n => decide ((Int16.ofInt n).toInt32 = a3)
  | .lconst n => decide (Int64.ofNat (n : Nat) = a4)
  | .ldc i => match a2 with
    | 0 => am_lkI.any (fun q => Nat.beq q.1 o && Nat.beq q.2.1 i && decide (q.2.2.1 = a3))
    | _ => am_lkS.any (fun q => Nat.beq q.1 o && Nat.beq q.2.1 i && Nat.beq q.2.2.1 a1)
  | .ldc_w i => am_lkI.any (fun q => Nat.beq q.1 o && Nat.beq q.2.1 i && decide (q.2.2.1 = a3))
  | .ldc2_w i => am_lkL.any (fun q => Nat.beq q.1 o && Nat.beq q.2.1 i && decide (q.2.2.1 = a4))
  | .iload_n n => Nat.beq n.val a1
  | .lload_n n => Nat.beq n.val a1
  | .aload_n n => Nat.beq n.val a1
  | .istore_n n => Nat.beq n.val a1
  | .lstore_n n => Nat.beq n.val a1
  | .astore_n n => Nat.beq n.val a1
  | .iload i => Nat.beq i a1
  | .lload i => Nat.beq i a1
  | .aload i => Nat.beq i a1
  | .istore i => Nat.beq i a1
  | .lstore i => Nat.beq i a1
  | .astore i => Nat.beq i a1
  | .iinc i n => Nat.beq i a1 && decide (Int32.ofInt n = a3)
  | .goto off => decide ((pc : Int) + off = (a1 : Int))
  | .ifCond _ off => decide ((pc : Int) + off = (a1 : Int))
  | .if_icmp _ off => decide ((pc : Int) + off = (a1 : Int))
  | .getfield i => am_lkF.any (fun q => Nat.beq q.1 o && Nat.beq q.2.1 i && Nat.beq q.2.2.1 a1 && Nat.beq q.2.2.2.1 a2)
  | .putfield i => !((am_cl a1).2.1 a2).2.2.2 && am_lkF.any (fun q => Nat.beq q.1 o && Nat.beq q.2.1 i && Nat.beq q.2.2.1 a1 && Nat.beq q.2.2.2.1 a2)
  | .getstatic i => am_lkG.any (fun q => Nat.beq q.1 o && Nat.beq q.2.1 i)
  | .invokevirtual i => am_lkM.any (fun q => Nat.beq q.1 o && Nat.beq q.2.1 i && Nat.beq q.2.2.1 a1) && Nat.blt a1 9000 && (Nat.blt (am_ow a1) 12 || Nat.beq (am_rk a1) 60) && Nat.beq (am_ss a1) 0 && Nat.beq (am_np a1) (a2 / 10 % 100) && Nat.beq (am_rk a1) (a2 / 1000)
  | .invokestatic i => match a2 with
    | 0 => false
    | 1 => am_lkM.any (fun q => Nat.beq q.1 o && Nat.beq q.2.1 i && Nat.beq q.2.2.1 9999)
    | 2 => am_lkM.any (fun q => Nat.beq q.1 o && Nat.beq q.2.1 i && Nat.beq q.2.2.1 9001)
    | 3 => am_lkM.any (fun q => Nat.beq q.1 o && Nat.beq q.2.1 i && Nat.beq q.2.2.1 9002)
    | 4 => am_lkM.any (fun q => Nat.beq q.1 o && Nat.beq q.2.1 i && Nat.beq q.2.2.1 9003)
    | x + 5 => am_lkM.any (fun q => Nat.beq q.1 o && Nat.beq q.2.1 i && Nat.beq q.2.2.1 a1) && Nat.blt a1 9000 && Nat.beq (am_ss a1) 1 && Nat.beq (am_np a1) (x / 10)
  | .tableswitch d lo hi offs => decide ((pc : Int) + d = ((sws.getD a1 ([], 0)).2 : Int)) && decide (hi + 1 - lo = ((sws.getD a1 ([], 0)).1.length : Int)) && decide (offs.toList.length = (sws.getD a1 ([], 0)).1.length) && (List.range (sws.getD a1 ([], 0)).1.length).all (fun i => decide (((sws.getD a1 ([], 0)).1.getD i (0, 0)).1.toInt = lo + (i : Int)) && decide ((pc : Int) + offs.toList.getD i 0 = (((sws.getD a1 ([], 0)).1.getD i (0, 0)).2 : Int)))
  | _ => true
def am_isw (ins : Instr) : Bool := match ins with
  | .tableswitch _ _ _ _ => true
  | _ => false
def am_chk (sws : List (List (Int32 × Nat) × Nat)) (j : Nat) (q : am_E) : Bool := decide (decode (am_b j) q.1 = .ok (q.2.1, q.2.2.1)) && (am_isw q.2.1 || Nat.beq q.2.2.1 (am_len q.2.1)) && am_chi sws (am_ow j) q.1 q.2.1 q.2.2.2.1 q.2.2.2.2.1 q.2.2.2.2.2.1 q.2.2.2.2.2.2
def am_fetch : List am_E → Nat → Option (Instr × Nat × Nat × Int32 × Int64)
  | [], _ => none
  | (q, i, _, x) :: r, pc => match Nat.beq q pc with
    | true => some (i, x)
    | false => am_fetch r pc
def am_keep : List Bool → aL → aL
  | [], _ => []
  | _ :: _, [] => []
  | true :: m, v :: al => v :: am_keep m al
  | false :: m, _ :: al => none :: am_keep m al
def am_cutf : List (Nat × List Bool) → Nat → Option (List Bool)
  | [], _ => none
  | (q, m) :: r, pc => match Nat.beq q pc with
    | true => some m
    | false => am_cutf r pc
/-- from a place on until a cut, where the continuation takes over -/
def am_seg (X : Option (Nat × (Nat → Int32))) (sws : List (List (Int32 × Nat) × Nat)) (sem : Nat → List aV → aM → Option aR) (rt : Nat) (cd : List am_E) (cut : List (Nat × List Bool)) (kap : aK) : Nat → aK
  | 0 => fun _ _ _ _ => none
  | n + 1 => fun pc al st M => match am_fetch cd pc with
    | some (ins, a1, a2, a3, a4) => am_stp X sws sem rt (fun pc' al' st' M' => match am_cutf cut pc' with
      | some m => kap pc' (am_keep m al') st' M'
      | none => am_seg X sws sem rt cd cut kap n pc' al' st' M') ins a1 a2 a3 a4 pc al st M
    | none => none
end
section
/-! ===== facts of the tables, as the steps use them ===== -/
theorem am_beq {a b : Nat} (h : Nat.beq a b = true) : a = b := Nat.eq_of_beq_eq_true h
theorem am_blt {a b : Nat} (h : Nat.blt a b = true) : a < b := Nat.le_of_ble_eq_true h
theorem am_lkF_use {o i a1 a2 : Nat} (h : am_lkF.any (fun q => Nat.beq q.1 o && Nat.beq q.2.1 i && Nat.beq q.2.2.1 a1 && Nat.beq q.2.2.2.1 a2) = true) : a1 < 12 ∧ a2 < (am_cl a1).2.2 ∧ Cond.fieldLink (am_on o) i ((am_cl a1).2.1 a2).1 ((am_cl a1).2.1 a2).2.1 ((am_cl a1).2.1 a2).2.2.1 ∈ am_g := by
  obtain ⟨⟨q1, q2, q3, q4, q5⟩, hq, he⟩ := List.any_eq_true.mp h
  have hok := List.all_eq_true.mp am_lkF_ok _ hq
  simp only [Bool.and_eq_true] at he
  obtain ⟨⟨⟨e1, e2⟩, e3⟩, e4⟩ := he
  have e1 := am_beq e1
  have e2 := am_beq e2
  have e3 := am_beq e3
  have e4 := am_beq e4
  try dsimp only at e1 e2 e3 e4
  subst e1; subst e2; subst e3; subst e4
  unfold am_okF at hok
  simp only [Bool.and_eq_true, decide_eq_true_eq] at hok
  exact ⟨am_blt hok.1.1, am_blt hok.1.2, am_gat hok.2 rfl⟩
theorem am_lkM_use {o i a1 : Nat} (h : am_lkM.any (fun q => Nat.beq q.1 o && Nat.beq q.2.1 i && Nat.beq q.2.2.1 a1) = true) : Cond.methodLink (am_on o) i (am_pn a1) ∈ am_g := by
  obtain ⟨⟨q1, q2, q3, q4⟩, hq, he⟩ := List.any_eq_true.mp h
  have hok := List.all_eq_true.mp am_lkM_ok _ hq
  simp only [Bool.and_eq_true] at he
  obtain ⟨⟨e1, e2⟩, e3⟩ := he
  have e1 := am_beq e1
  have e2 := am_beq e2
  have e3 := am_beq e3
  try dsimp only at e1 e2 e3
  subst e1; subst e2; subst e3
  unfold am_okM at hok
  simp only [decide_eq_true_eq] at hok
  exact am_gat hok rfl
theorem am_lkI_use {o i : Nat} {a3 : Int32} (h : am_lkI.any (fun q => Nat.beq q.1 o && Nat.beq q.2.1 i && decide (q.2.2.1 = a3)) = true) : Cond.constant (am_on o) i a3 ∈ am_g := by
  obtain ⟨⟨q1, q2, q3, q4⟩, hq, he⟩ := List.any_eq_true.mp h
  have hok := List.all_eq_true.mp am_lkI_ok _ hq
  simp only [Bool.and_eq_true, decide_eq_true_eq] at he
  obtain ⟨⟨e1, e2⟩, e3⟩ := he
  have e1 := am_beq e1
  have e2 := am_beq e2
  try dsimp only at e1 e2 e3
  subst e1; subst e2; subst e3
  unfold am_okI at hok
  simp only [decide_eq_true_eq] at hok
  exact am_gat hok rfl
theorem am_lkL_use {o i : Nat} {a4 : Int64} (h : am_lkL.any (fun q => Nat.beq q.1 o && Nat.beq q.2.1 i && decide (q.2.2.1 = a4)) = true) : Cond.constantLong (am_on o) i a4 ∈ am_g := by
  obtain ⟨⟨q1, q2, q3, q4⟩, hq, he⟩ := List.any_eq_true.mp h
  have hok := List.all_eq_true.mp am_lkL_ok _ hq
  simp only [Bool.and_eq_true, decide_eq_true_eq] at he
  obtain ⟨⟨e1, e2⟩, e3⟩ := he
  have e1 := am_beq e1
  have e2 := am_beq e2
  try dsimp only at e1 e2 e3
  subst e1; subst e2; subst e3
  unfold am_okL at hok
  simp only [decide_eq_true_eq] at hok
  exact am_gat hok rfl
theorem am_cl_at : ∀ kd : Nat, kd < 12 → vwCl[kd]? = some (am_cl kd) := by
  intro kd h
  match kd, h with
  | 0, _ => rfl
  | 1, _ => rfl
  | 2, _ => rfl
  | 3, _ => rfl
  | 4, _ => rfl
  | 5, _ => rfl
  | 6, _ => rfl
  | 7, _ => rfl
  | 8, _ => rfl
  | 9, _ => rfl
  | 10, _ => rfl
  | 11, _ => rfl
  | k + 12, h => exact absurd h (by omega)
theorem am_cl_in {kd : Nat} (h : kd < 12) : am_cl kd ∈ vwCl := List.mem_of_getElem? (am_cl_at kd h)
theorem am_uws {kd : Nat} (h : kd < 12) : ∀ w ∈ u_ws (am_cl kd).1 (am_cl kd).2.1 (am_cl kd).2.2, w ∈ am_g := by
  intro w hw
  have hm : w ∈ vwCl.flatMap (fun q => u_ws q.1 q.2.1 q.2.2) := List.mem_flatMap.mpr ⟨am_cl kd, am_cl_in h, hw⟩
  have h0 := List.all_eq_true.mp am_uws0 w hm
  have h1 := List.all_eq_true.mp am_uws1 w hm
  simp only [Bool.or_eq_true, decide_eq_true_eq] at h0
  have key : ∀ k : Nat, k < 10 → w ∈ am_tb k → w ∈ am_g := by
    intro k hk hkw
    obtain ⟨i, hi⟩ := List.getElem?_of_mem hkw
    refine am_gin ?_ h1
    unfold lw_tbl tables_1
    simp only [List.mem_append]
    match k, hk, hkw with
    | 0, _, h1 => exact Or.inl h1
    | 1, _, h1 => exact Or.inr (Or.inl h1)
    | 2, _, h1 => exact Or.inr (Or.inr (Or.inl h1))
    | 3, _, h1 => exact Or.inr (Or.inr (Or.inr (Or.inl h1)))
    | 4, _, h1 => exact Or.inr (Or.inr (Or.inr (Or.inr (Or.inl h1))))
    | 5, _, h1 => exact Or.inr (Or.inr (Or.inr (Or.inr (Or.inr (Or.inl h1)))))
    | 6, _, h1 => exact Or.inr (Or.inr (Or.inr (Or.inr (Or.inr (Or.inr (Or.inl h1))))))
    | 7, _, h1 => exact Or.inr (Or.inr (Or.inr (Or.inr (Or.inr (Or.inr (Or.inr (Or.inl h1)))))))
    | 8, _, h1 => exact Or.inr (Or.inr (Or.inr (Or.inr (Or.inr (Or.inr (Or.inr (Or.inr (Or.inl h1))))))))
    | 9, _, h1 => exact Or.inr (Or.inr (Or.inr (Or.inr (Or.inr (Or.inr (Or.inr (Or.inr (Or.inr h1))))))))
  rcases h0 with (((((((h0 | h0) | h0) | h0) | h0) | h0) | h0) | h0) | h0
  · exact key 1 (by decide) h0
  · exact key 2 (by decide) h0
  · exact key 3 (by decide) h0
  · exact key 4 (by decide) h0
  · exact key 5 (by decide) h0
  · exact key 6 (by decide) h0
  · exact key 7 (by decide) h0
  · exact key 8 (by decide) h0
  · exact key 9 (by decide) h0
set_option maxRecDepth 100000 in
theorem am_nm0 : vwCl.all (fun q => (List.range q.2.2).all fun a => (List.range q.2.2).all fun b => Nat.beq a b || decide ((q.2.1 a).2.1 ≠ (q.2.1 b).2.1)) = true := by decide +kernel
theorem am_nm {kd : Nat} (h : kd < 12) : ∀ a, a < (am_cl kd).2.2 → ∀ b, b < (am_cl kd).2.2 → a ≠ b → ((am_cl kd).2.1 a).2.1 ≠ ((am_cl kd).2.1 b).2.1 := by
  intro a ha b hb hab
  have h0 := List.all_eq_true.mp am_nm0 _ (am_cl_in h)
  have h1 := List.all_eq_true.mp h0 a (List.mem_range.mpr ha)
  have h2 := List.all_eq_true.mp h1 b (List.mem_range.mpr hb)
  simp only [Bool.or_eq_true, decide_eq_true_eq] at h2
  rcases h2 with h2 | h2
  · exact absurd (am_beq h2) hab
  · exact h2
def am_ty0 (kd f : Nat) : FieldType := (parseFieldDescriptor ((am_cl kd).2.1 f).2.2.1).getD .int
set_option maxRecDepth 100000 in
theorem am_ty1 : (List.range 12).all (fun kd => (List.range (am_cl kd).2.2).all fun f => (parseFieldDescriptor ((am_cl kd).2.1 f).2.2.1).isSome && (match (am_fd kd f).1 with
  | 0 => decide (am_ty0 kd f = .int)
  | 1 => decide (am_ty0 kd f = .long)
  | _ => true)) = true := by decide +kernel
theorem am_tyok {kd : Nat} (h : kd < 12) : ∀ f, f < (am_cl kd).2.2 → parseFieldDescriptor ((am_cl kd).2.1 f).2.2.1 = some (am_ty0 kd f) := by
  intro f hf
  have h0 := List.all_eq_true.mp am_ty1 kd (List.mem_range.mpr h)
  have h1 := List.all_eq_true.mp h0 f (List.mem_range.mpr hf)
  simp only [Bool.and_eq_true] at h1
  obtain ⟨x, hx⟩ := Option.isSome_iff_exists.mp h1.1
  unfold am_ty0
  rw [hx]
  rfl
theorem am_tyI {kd f : Nat} (h : kd < 12) (hf : f < (am_cl kd).2.2) (e : (am_fd kd f).1 = 0) : parseFieldDescriptor ((am_cl kd).2.1 f).2.2.1 = some .int := by
  have h0 := List.all_eq_true.mp am_ty1 kd (List.mem_range.mpr h)
  have h1 := List.all_eq_true.mp h0 f (List.mem_range.mpr hf)
  simp only [Bool.and_eq_true] at h1
  have h2 := h1.2
  rw [e] at h2
  rw [am_tyok h f hf, of_decide_eq_true h2]
theorem am_tyL {kd f : Nat} (h : kd < 12) (hf : f < (am_cl kd).2.2) (e : (am_fd kd f).1 = 1) : parseFieldDescriptor ((am_cl kd).2.1 f).2.2.1 = some .long := by
  have h0 := List.all_eq_true.mp am_ty1 kd (List.mem_range.mpr h)
  have h1 := List.all_eq_true.mp h0 f (List.mem_range.mpr hf)
  simp only [Bool.and_eq_true] at h1
  have h2 := h1.2
  rw [e] at h2
  rw [am_tyok h f hf, of_decide_eq_true h2]
theorem am_fd_at {kd f : Nat} {q : Nat × Nat × Nat} (h : am_fd kd f = q) (h9 : q.1 ≠ 9) : (am_fl kd)[f]? = some q := by
  unfold am_fd at h
  rw [List.getD_eq_getElem?_getD] at h
  cases hq : (am_fl kd)[f]? with
  | none => rw [hq] at h; subst h; exact absurd rfl h9
  | some z => rw [hq] at h; subst h; rfl
theorem am_wk_lo {kd a : Nat} (h : am_wkb kd a = true) (hk : kd < 60) : a < am_N ∧ am_sh a = kd := by
  unfold am_wkb at h
  simp only [Bool.or_eq_true, Bool.and_eq_true] at h
  rcases h with ((h | h) | h) | h
  · exact ⟨am_blt h.1, am_beq h.2⟩
  · have := am_beq h.1.1; omega
  · have := am_beq h.1; omega
  · have := am_beq h.1; omega
theorem am_wk_ar {kd a : Nat} (h : am_wkb kd a = true) (hk : (am_ar kd).1 < 5) : a < am_N ∧ am_sh a = kd := by
  unfold am_wkb at h
  simp only [Bool.or_eq_true, Bool.and_eq_true] at h
  rcases h with ((h | h) | h) | h
  · exact ⟨am_blt h.1, am_beq h.2⟩
  · rw [am_beq h.1.1] at hk; exact absurd hk (by decide)
  · rw [am_beq h.1] at hk; exact absurd hk (by decide)
  · rw [am_beq h.1] at hk; exact absurd hk (by decide)
set_option maxRecDepth 100000 in
theorem am_clo0 : (List.range am_N).all (fun a => (am_fl (am_sh a)).all (fun q => !(Nat.beq q.1 2) || am_wkb q.2.1 (a + q.2.2))) = true := by decide +kernel
set_option maxRecDepth 100000 in
theorem am_clo1 : (List.range am_N).all (fun a => !(Nat.beq (am_ar (am_sh a)).1 4) || (List.range (am_ar (am_sh a)).2.1).all (fun i => am_wkb (am_ar (am_sh a)).2.2.2.1 (a + ((am_ar (am_sh a)).2.2.2.2.1 + (am_ar (am_sh a)).2.2.2.2.2 * i)))) = true := by decide +kernel
set_option maxRecDepth 100000 in
theorem am_clo2 : (List.range am_N).all (fun a => Nat.blt (am_sh a) 20 == Nat.beq (am_ar (am_sh a)).1 9 && (!(Nat.blt (am_ar (am_sh a)).1 4) || Nat.beq (am_ar (am_sh a)).2.2.1 (am_ar (am_sh a)).1) && (!(Nat.beq (am_ar (am_sh a)).1 4) || (Nat.ble 4 (am_ar (am_sh a)).2.2.1 && Nat.ble (am_ar (am_sh a)).2.2.1 6)) && Nat.ble (am_ar (am_sh a)).2.1 2000) = true := by decide +kernel
theorem am_clo_f {a f : Nat} {k2 dd : Nat} (ha : a < am_N) (h : am_fd (am_sh a) f = (2, k2, dd)) : am_wkb k2 (a + dd) = true := by
  have h0 := List.all_eq_true.mp am_clo0 a (List.mem_range.mpr ha)
  have h1 := List.all_eq_true.mp h0 _ (List.mem_of_getElem? (am_fd_at h (by simp)))
  simpa using h1
theorem am_clo_a {a i : Nat} {n ci ek f0 dd : Nat} (ha : a < am_N) (h : am_ar (am_sh a) = (4, n, ci, ek, f0, dd)) (hi : i < n) : am_wkb ek (a + (f0 + dd * i)) = true := by
  have h0 := List.all_eq_true.mp am_clo1 a (List.mem_range.mpr ha)
  rw [h] at h0
  simp only [Bool.or_eq_true] at h0
  rcases h0 with h0 | h0
  · exact absurd h0 (by decide)
  · exact List.all_eq_true.mp h0 i (List.mem_range.mpr hi)
theorem am_clo_k {a : Nat} (ha : a < am_N) : (am_sh a < 20 ↔ (am_ar (am_sh a)).1 = 9) ∧ ((am_ar (am_sh a)).1 < 4 → (am_ar (am_sh a)).2.2.1 = (am_ar (am_sh a)).1) ∧ ((am_ar (am_sh a)).1 = 4 → 4 ≤ (am_ar (am_sh a)).2.2.1 ∧ (am_ar (am_sh a)).2.2.1 ≤ 6) ∧ (am_ar (am_sh a)).2.1 ≤ 2000 := by
  have h0 := List.all_eq_true.mp am_clo2 a (List.mem_range.mpr ha)
  simp only [Bool.and_eq_true, Bool.or_eq_true, beq_iff_eq] at h0
  obtain ⟨⟨⟨h1, h2⟩, h3⟩, h4⟩ := h0
  refine ⟨⟨fun q => ?_, fun q => ?_⟩, fun q => ?_, fun q => ?_, Nat.le_of_ble_eq_true h4⟩
  · have e : Nat.blt (am_sh a) 20 = true := Nat.ble_eq_true_of_le q
    rw [e] at h1
    exact am_beq h1.symm
  · have e : Nat.beq (am_ar (am_sh a)).1 9 = true := by rw [q]; rfl
    rw [e] at h1
    exact am_blt h1
  · rcases h2 with h2 | h2
    · have e : Nat.blt (am_ar (am_sh a)).1 4 = true := Nat.ble_eq_true_of_le q
      rw [e] at h2
      exact absurd h2 (by decide)
    · exact am_beq h2
  · rcases h3 with h3 | h3
    · have e : Nat.beq (am_ar (am_sh a)).1 4 = true := by rw [q]; rfl
      rw [e] at h3
      exact absurd h3 (by decide)
    · exact ⟨Nat.le_of_ble_eq_true h3.1, Nat.le_of_ble_eq_true h3.2⟩
theorem am_ce_o {C : aC} {M : aM} {a kd : Nat} (h : am_sh a = kd) (hk : kd < 20) : am_ce C M a = .inr (kd, am_fs C M a) := by
  unfold am_ce
  rw [h, if_pos hk]
theorem am_ce_a {C : aC} {M : aM} {a kd : Nat} {q : am_AT} (ha : a < am_N) (h : am_sh a = kd) (hq : am_ar kd = q) (h9 : q.1 ≠ 9) : am_ce C M a = .inl (C.2.2.1 q.2.2.1, q.2.1, am_ac C M a q) := by
  unfold am_ce
  subst h
  rw [if_neg (fun z => h9 (by rw [← hq]; exact (am_clo_k ha).1.mp z)), hq]
theorem am_ce_same {C : aC} {M M' : aM} {b : Nat} (h1 : M'.1 b = M.1 b) (h2 : M'.2 b = M.2 b) : am_ce C M' b = am_ce C M b := by
  unfold am_ce
  have e1 : am_fs C M' b = am_fs C M b := by
    unfold am_fs am_fv
    simp only [h1, h2]
  have e2 : ∀ q, am_ac C M' b q = am_ac C M b q := by
    intro q
    unfold am_ac
    simp only [h1, h2]
  rw [e1, e2]
theorem am_u_ne {f : Nat → Nat → Int32} {a b i : Nat} {x : Int32} (h : b ≠ a) : am_u f a i x b = f b := by
  funext j
  unfold am_u
  rw [if_neg (fun q => h q.1)]
theorem am_u_eq {f : Nat → Nat → Int32} {a i : Nat} {x : Int32} : am_u f a i x a = upd (f a) i x := by
  funext j
  unfold am_u upd
  by_cases h : j = i
  · rw [if_pos ⟨rfl, h⟩, if_pos h]
  · rw [if_neg (fun q => h q.2), if_neg h]
theorem am_ul_ne {f : Nat → Nat → Int64} {a b i : Nat} {x : Int64} (h : b ≠ a) : am_ul f a i x b = f b := by
  funext j
  unfold am_ul
  rw [if_neg (fun q => h q.1)]
theorem am_ul_eq {f : Nat → Nat → Int64} {a i : Nat} {x : Int64} : am_ul f a i x a = vp_updL (f a) i x := by
  funext j
  unfold am_ul vp_updL
  by_cases h : j = i
  · rw [if_pos ⟨rfl, h⟩, if_pos h]
  · rw [if_neg (fun q => h q.2), if_neg h]
theorem am_ua_ne {α : Type} {f : Nat → Nat → α} {a b : Nat} {g : Nat → α} (h : b ≠ a) : am_ua f a g b = f b := by
  unfold am_ua
  rw [if_neg h]
theorem am_ua_eq {α : Type} {f : Nat → Nat → α} {a : Nat} {g : Nat → α} : am_ua f a g a = g := by
  unfold am_ua
  rw [if_pos rfl]
theorem am_fs_at {C : aC} {M : aM} {a kd f : Nat} {q : Nat × Nat × Nat} (h : am_sh a = kd) (hq : am_fd kd f = q) (h9 : q.1 ≠ 9) : (am_fs C M a)[f]? = some (am_fv C M a f q) := by
  unfold am_fs
  rw [List.getElem?_mapIdx, h, am_fd_at hq h9]
  rfl
theorem am_fs_i {C : aC} {M : aM} {a f k2 dd : Nat} {v : Int32} (hq : am_fd (am_sh a) f = (0, k2, dd)) : am_fs C (am_u M.1 a f v, M.2) a = (am_fs C M a).set f (.int v) := by
  have hl := am_fd_at hq (by simp)
  have hlt : f < (am_fl (am_sh a)).length := (List.getElem?_eq_some_iff.mp hl).1
  apply List.ext_getElem?
  intro i
  unfold am_fs
  by_cases e : i = f
  · subst e
    rw [List.getElem?_set_self (by simpa using hlt), List.getElem?_mapIdx, hl]
    simp [am_fv, am_u]
  · rw [List.getElem?_set_ne (Ne.symm e), List.getElem?_mapIdx, List.getElem?_mapIdx]
    congr 1
    funext q
    unfold am_fv
    have e2 : am_u M.1 a f v a i = M.1 a i := by unfold am_u; rw [if_neg (fun q => e q.2)]
    simp only [e2]
theorem am_fs_l {C : aC} {M : aM} {a f k2 dd : Nat} {v : Int64} (hq : am_fd (am_sh a) f = (1, k2, dd)) : am_fs C (M.1, am_ul M.2 a f v) a = (am_fs C M a).set f (.long v) := by
  have hl := am_fd_at hq (by simp)
  have hlt : f < (am_fl (am_sh a)).length := (List.getElem?_eq_some_iff.mp hl).1
  apply List.ext_getElem?
  intro i
  unfold am_fs
  by_cases e : i = f
  · subst e
    rw [List.getElem?_set_self (by simpa using hlt), List.getElem?_mapIdx, hl]
    simp [am_fv, am_ul]
  · rw [List.getElem?_set_ne (Ne.symm e), List.getElem?_mapIdx, List.getElem?_mapIdx]
    congr 1
    funext q
    unfold am_fv
    have e2 : am_ul M.2 a f v a i = M.2 a i := by unfold am_ul; rw [if_neg (fun q => e q.2)]
    simp only [e2]
/-! ===== contracts ===== -/
def am_KS (C : aC) (U : State) : Prop := ∀ q ∈ am_lkS, vk_R (am_on q.1) q.2.1 q.2.2.2.2 (am_ad C (5000 + q.2.2.1)) U
def am_KH (C : aC) (U : State) (H : Heap) : Prop := vk_S am_nS am_slen am_sbyt (fun i => am_ad C (5000 + i)) (fun i => am_ad C (5040 + i)) (am_A C) U H ∧ va_T .int (am_ad C 5100) 9 (fun k => .int (am_fact k)) (am_A C) U H ∧ va_Z "ArgumentMender" "FACTORIALS" "[I" (.ref (am_ad C 5100)) (am_A C) U H ∧ va_Z "java/lang/String" "COMPACT_STRINGS" "Z" (.int 1) (am_A C) U H ∧ va_Zq "jdk/internal/util/Preconditions" "SIOOBE_FORMATTER" "Ljava/util/function/BiFunction;" (am_A C) U H
def am_K (C : aC) (U : State) (H : Heap) : Prop := va_K C.2.1 vwCl (am_tys C) U ∧ am_KS C U ∧ am_KH C U H
theorem am_K.warm {C : aC} {s U : State} {H H1 : Heap} (h : am_K C s H) (hW : s.WarmedH U.vm) (hq : ∀ a : Nat, a < H.size → ¬ am_A C a → H1[a]? = H[a]?) : am_K C U H1 := by
  obtain ⟨h1, h2, h3, h4, h5, h6, h7⟩ := h
  exact ⟨va_K.moved hW.alike h1, fun q hq => (h2 q hq).warm hW, (h3.moved hW.alike).kept hq, (h4.moved hW.alike).kept hq, (h5.moved hW.alike).kept hq, (h6.moved hW.alike).kept hq, (h7.moved hW.alike).kept hq⟩
theorem am_K.same {C : aC} {s U : State} {H : Heap} (h : am_K C s H) (hv : U.vm = s.vm) : am_K C U H := by
  obtain ⟨h1, h2, h3, h4, h5, h6, h7⟩ := h
  have ha : s.vm.Alike U.vm := by rw [hv]; exact Vm.Alike.refl _
  exact ⟨va_K.moved ha h1, fun q hq => (h2 q hq).same hv, h3.moved ha, h4.moved ha, h5.moved ha, h6.moved ha, h7.moved ha⟩
def am_rm (d : Nat) : Room := { frames := d, cells := 0, slots := 0, locals := 40 * d }
def am_wsU (j : Nat) : List Cond := .code (am_y j) (am_b j) (am_ml j) (am_rt j) :: am_g
def am_Pc (C : aC) (as : List aV) (M : aM) : Array Value → State → Prop := fun v U => v = (as.map (am_cv C)).toArray ∧ am_K C U U.heap ∧ va_P C.2.1 vwCl (am_ws C M) U.heap
def am_okO (v : Option aV) : Prop := ∀ u, v = some u → am_ok u
def am_Qc (C : aC) (r : aR) : Array Value → State → Outcome → State → Prop := fun _ st o t => o = .returned (r.1.map (am_cv C)) ∧ va_P C.2.1 vwCl (am_ws C r.2) t.heap ∧ va_F (am_A C) st t ∧ am_okO r.1
/-- method j, in a room of depth d, does what F says -/
def am_Snd (d j : Nat) (F : List aV → aM → Option aR) : Prop := ∀ (as : List aV) (M : aM) (r : aR), am_wk as → F as M = some r → ∀ (l : Launch) (C : aC), Met l (am_y j) (am_wsU j) (am_rm d) (am_Pc C as M) (am_Qc C r) 0 0 (am_A C)
theorem am_Pc_blind (C : aC) (as : List aV) (M : aM) : FrameBlind (am_Pc C as M) := by
  intro a U g mk h
  obtain ⟨h1, h2, h3⟩ := h
  exact ⟨h1, am_K.same (U := U.calling g mk a) h2 rfl, h3⟩
/-- the machine's own facts at a method's body -/
abbrev am_F (X : Option (Nat × (Nat → Int32))) (p : Program) (R : Room) (s : State) (m : MethodId) (args : Array Value) (c : Code) (C : aC) (j d ce sl : Nat) : Prop :=
  p.tables.exec = Jvm.exec ∧ c.code = am_b j ∧ c.maxLocals = am_ml j ∧ s.vm.findClass (am_on (am_ow j)) = some m.cls ∧ (∀ w ∈ am_g, w.before args s = true) ∧ am_K C s s.heap ∧ (d ≤ R.frames ∧ 40 * d ≤ R.locals ∧ ce ≤ R.cells ∧ sl ≤ R.slots) ∧ ∀ (n : Nat) (xs : Nat → Int32), X = some (n, xs) → va_X (am_ad C 5200) n xs s s.heap ∧ am_ad C 5200 < s.heap.size ∧ ¬ am_A C (am_ad C 5200)
def am_Wd (p : Program) (l : Launch) (e : Env) (R : Room) (s : State) (m : MethodId) (args : Array Value) (below : List Frame) (meth : Method) (c : Code) (C : aC) (nL ce sl : Nat) (Q : State → Prop) (pc : Nat) (al : aL) (st : List aV) (M : aM) : Prop :=
  am_wl al → am_wk st → ∀ (H : Heap) (locs : List Loc) (ls : Array Slot), am_lh C ls nL al → va_P C.2.1 vwCl (am_ws C M) H → va_S (am_A C) s.heap H locs → W p l e R s m args below meth c H locs ce sl Q (F0 m pc ls (st.map (am_cv C)))
abbrev am_HK (p : Program) (l : Launch) (e : Env) (R : Room) (s : State) (m : MethodId) (args : Array Value) (below : List Frame) (meth : Method) (c : Code) (C : aC) (nL ce sl : Nat) (Q : State → Prop) (r : aR) (k : aK) : Prop :=
  ∀ (pc : Nat) (al : aL) (st : List aV) (M : aM), k pc al st M = some r → am_Wd p l e R s m args below meth c C nL ce sl Q pc al st M

section AMS
variable {X : Option (Nat × (Nat → Int32))} {sws : List (List (Int32 × Nat) × Nat)} {sem : Nat → List aV → aM → Option aR} {p : Program} {l : Launch} {e : Env} {R : Room} {s : State} {m : MethodId} {args : Array Value} {below : List Frame} {meth : Method} {c : Code} {C : aC} {Q : State → Prop} {j d ce sl : Nat} {r : aR} {k : aK} {pc a1 a2 : Nat} {a3 : Int32} {a4 : Int64} {al : aL} {st : List aV} {M : aM}
theorem am_o_iadd  (F : am_F X p R s m args c C j d ce sl) (hk : am_HK p l e R s m args below meth c C (am_ml j) ce sl Q r k) (hdg : decode (am_b j) pc = .ok (.iadd, 1)) (h : am_iadd k pc al st M = some r) : am_Wd p l e R s m args below meth c C (am_ml j) ce sl Q pc al st M := by
  intro hal hst H locs ls hl hP hS
  unfold am_iadd at h
  split at h
  · exact lv_iadd F.1 F.2.1 hdg (hk _ _ _ _ h hal (am_wk_c trivial (am_wk_t (am_wk_t hst))) H locs ls hl hP hS)
  · cases h
theorem am_o_isub  (F : am_F X p R s m args c C j d ce sl) (hk : am_HK p l e R s m args below meth c C (am_ml j) ce sl Q r k) (hdg : decode (am_b j) pc = .ok (.isub, 1)) (h : am_isub k pc al st M = some r) : am_Wd p l e R s m args below meth c C (am_ml j) ce sl Q pc al st M := by
  intro hal hst H locs ls hl hP hS
  unfold am_isub at h
  split at h
  · exact lv_isub F.1 F.2.1 hdg (hk _ _ _ _ h hal (am_wk_c trivial (am_wk_t (am_wk_t hst))) H locs ls hl hP hS)
  · cases h
theorem am_o_imul  (F : am_F X p R s m args c C j d ce sl) (hk : am_HK p l e R s m args below meth c C (am_ml j) ce sl Q r k) (hdg : decode (am_b j) pc = .ok (.imul, 1)) (h : am_imul k pc al st M = some r) : am_Wd p l e R s m args below meth c C (am_ml j) ce sl Q pc al st M := by
  intro hal hst H locs ls hl hP hS
  unfold am_imul at h
  split at h
  · exact lv_imul F.1 F.2.1 hdg (hk _ _ _ _ h hal (am_wk_c trivial (am_wk_t (am_wk_t hst))) H locs ls hl hP hS)
  · cases h
theorem am_o_iand  (F : am_F X p R s m args c C j d ce sl) (hk : am_HK p l e R s m args below meth c C (am_ml j) ce sl Q r k) (hdg : decode (am_b j) pc = .ok (.iand, 1)) (h : am_iand k pc al st M = some r) : am_Wd p l e R s m args below meth c C (am_ml j) ce sl Q pc al st M := by
  intro hal hst H locs ls hl hP hS
  unfold am_iand at h
  split at h
  · exact lv_iand F.1 F.2.1 hdg (hk _ _ _ _ h hal (am_wk_c trivial (am_wk_t (am_wk_t hst))) H locs ls hl hP hS)
  · cases h
theorem am_o_ior  (F : am_F X p R s m args c C j d ce sl) (hk : am_HK p l e R s m args below meth c C (am_ml j) ce sl Q r k) (hdg : decode (am_b j) pc = .ok (.ior, 1)) (h : am_ior k pc al st M = some r) : am_Wd p l e R s m args below meth c C (am_ml j) ce sl Q pc al st M := by
  intro hal hst H locs ls hl hP hS
  unfold am_ior at h
  split at h
  · exact lv_ior F.1 F.2.1 hdg (hk _ _ _ _ h hal (am_wk_c trivial (am_wk_t (am_wk_t hst))) H locs ls hl hP hS)
  · cases h
theorem am_o_ixor  (F : am_F X p R s m args c C j d ce sl) (hk : am_HK p l e R s m args below meth c C (am_ml j) ce sl Q r k) (hdg : decode (am_b j) pc = .ok (.ixor, 1)) (h : am_ixor k pc al st M = some r) : am_Wd p l e R s m args below meth c C (am_ml j) ce sl Q pc al st M := by
  intro hal hst H locs ls hl hP hS
  unfold am_ixor at h
  split at h
  · exact lv_ixor F.1 F.2.1 hdg (hk _ _ _ _ h hal (am_wk_c trivial (am_wk_t (am_wk_t hst))) H locs ls hl hP hS)
  · cases h
theorem am_o_ishl  (F : am_F X p R s m args c C j d ce sl) (hk : am_HK p l e R s m args below meth c C (am_ml j) ce sl Q r k) (hdg : decode (am_b j) pc = .ok (.ishl, 1)) (h : am_ishl k pc al st M = some r) : am_Wd p l e R s m args below meth c C (am_ml j) ce sl Q pc al st M := by
  intro hal hst H locs ls hl hP hS
  unfold am_ishl at h
  split at h
  · exact lv_ishl F.1 F.2.1 hdg (hk _ _ _ _ h hal (am_wk_c trivial (am_wk_t (am_wk_t hst))) H locs ls hl hP hS)
  · cases h
theorem am_o_ishr  (F : am_F X p R s m args c C j d ce sl) (hk : am_HK p l e R s m args below meth c C (am_ml j) ce sl Q r k) (hdg : decode (am_b j) pc = .ok (.ishr, 1)) (h : am_ishr k pc al st M = some r) : am_Wd p l e R s m args below meth c C (am_ml j) ce sl Q pc al st M := by
  intro hal hst H locs ls hl hP hS
  unfold am_ishr at h
  split at h
  · exact lv_ishr F.1 F.2.1 hdg (hk _ _ _ _ h hal (am_wk_c trivial (am_wk_t (am_wk_t hst))) H locs ls hl hP hS)
  · cases h
theorem am_o_iushr  (F : am_F X p R s m args c C j d ce sl) (hk : am_HK p l e R s m args below meth c C (am_ml j) ce sl Q r k) (hdg : decode (am_b j) pc = .ok (.iushr, 1)) (h : am_iushr k pc al st M = some r) : am_Wd p l e R s m args below meth c C (am_ml j) ce sl Q pc al st M := by
  intro hal hst H locs ls hl hP hS
  unfold am_iushr at h
  split at h
  · exact lv_iushr F.1 F.2.1 hdg rfl (hk _ _ _ _ h hal (am_wk_c trivial (am_wk_t (am_wk_t hst))) H locs ls hl hP hS)
  · cases h
theorem am_o_ladd  (F : am_F X p R s m args c C j d ce sl) (hk : am_HK p l e R s m args below meth c C (am_ml j) ce sl Q r k) (hdg : decode (am_b j) pc = .ok (.ladd, 1)) (h : am_ladd k pc al st M = some r) : am_Wd p l e R s m args below meth c C (am_ml j) ce sl Q pc al st M := by
  intro hal hst H locs ls hl hP hS
  unfold am_ladd at h
  split at h
  · exact lv_ladd F.1 F.2.1 hdg (hk _ _ _ _ h hal (am_wk_c trivial (am_wk_t (am_wk_t hst))) H locs ls hl hP hS)
  · cases h
theorem am_o_lsub  (F : am_F X p R s m args c C j d ce sl) (hk : am_HK p l e R s m args below meth c C (am_ml j) ce sl Q r k) (hdg : decode (am_b j) pc = .ok (.lsub, 1)) (h : am_lsub k pc al st M = some r) : am_Wd p l e R s m args below meth c C (am_ml j) ce sl Q pc al st M := by
  intro hal hst H locs ls hl hP hS
  unfold am_lsub at h
  split at h
  · exact lv_lsub F.1 F.2.1 hdg (hk _ _ _ _ h hal (am_wk_c trivial (am_wk_t (am_wk_t hst))) H locs ls hl hP hS)
  · cases h
theorem am_o_lmul  (F : am_F X p R s m args c C j d ce sl) (hk : am_HK p l e R s m args below meth c C (am_ml j) ce sl Q r k) (hdg : decode (am_b j) pc = .ok (.lmul, 1)) (h : am_lmul k pc al st M = some r) : am_Wd p l e R s m args below meth c C (am_ml j) ce sl Q pc al st M := by
  intro hal hst H locs ls hl hP hS
  unfold am_lmul at h
  split at h
  · exact lv_lmul F.1 F.2.1 hdg (hk _ _ _ _ h hal (am_wk_c trivial (am_wk_t (am_wk_t hst))) H locs ls hl hP hS)
  · cases h
theorem am_o_land  (F : am_F X p R s m args c C j d ce sl) (hk : am_HK p l e R s m args below meth c C (am_ml j) ce sl Q r k) (hdg : decode (am_b j) pc = .ok (.land, 1)) (h : am_land k pc al st M = some r) : am_Wd p l e R s m args below meth c C (am_ml j) ce sl Q pc al st M := by
  intro hal hst H locs ls hl hP hS
  unfold am_land at h
  split at h
  · exact lv_land F.1 F.2.1 hdg (hk _ _ _ _ h hal (am_wk_c trivial (am_wk_t (am_wk_t hst))) H locs ls hl hP hS)
  · cases h
theorem am_o_lor  (F : am_F X p R s m args c C j d ce sl) (hk : am_HK p l e R s m args below meth c C (am_ml j) ce sl Q r k) (hdg : decode (am_b j) pc = .ok (.lor, 1)) (h : am_lor k pc al st M = some r) : am_Wd p l e R s m args below meth c C (am_ml j) ce sl Q pc al st M := by
  intro hal hst H locs ls hl hP hS
  unfold am_lor at h
  split at h
  · exact lv_lor F.1 F.2.1 hdg (hk _ _ _ _ h hal (am_wk_c trivial (am_wk_t (am_wk_t hst))) H locs ls hl hP hS)
  · cases h
theorem am_o_lshl  (F : am_F X p R s m args c C j d ce sl) (hk : am_HK p l e R s m args below meth c C (am_ml j) ce sl Q r k) (hdg : decode (am_b j) pc = .ok (.lshl, 1)) (h : am_lshl k pc al st M = some r) : am_Wd p l e R s m args below meth c C (am_ml j) ce sl Q pc al st M := by
  intro hal hst H locs ls hl hP hS
  unfold am_lshl at h
  split at h
  · exact lv_lshl F.1 F.2.1 hdg rfl (hk _ _ _ _ h hal (am_wk_c trivial (am_wk_t (am_wk_t hst))) H locs ls hl hP hS)
  · cases h
theorem am_o_lshr  (F : am_F X p R s m args c C j d ce sl) (hk : am_HK p l e R s m args below meth c C (am_ml j) ce sl Q r k) (hdg : decode (am_b j) pc = .ok (.lshr, 1)) (h : am_lshr k pc al st M = some r) : am_Wd p l e R s m args below meth c C (am_ml j) ce sl Q pc al st M := by
  intro hal hst H locs ls hl hP hS
  unfold am_lshr at h
  split at h
  · exact lv_lshr F.1 F.2.1 hdg rfl (hk _ _ _ _ h hal (am_wk_c trivial (am_wk_t (am_wk_t hst))) H locs ls hl hP hS)
  · cases h
theorem am_o_idiv  (F : am_F X p R s m args c C j d ce sl) (hk : am_HK p l e R s m args below meth c C (am_ml j) ce sl Q r k) (hdg : decode (am_b j) pc = .ok (.idiv, 1)) (h : am_idiv k pc al st M = some r) : am_Wd p l e R s m args below meth c C (am_ml j) ce sl Q pc al st M := by
  intro hal hst H locs ls hl hP hS
  unfold am_idiv at h
  split at h
  · split at h
    · cases h
    · rename_i hy
      exact lv_idiv F.1 F.2.1 hdg hy (hk _ _ _ _ h hal (am_wk_c trivial (am_wk_t (am_wk_t hst))) H locs ls hl hP hS)
  · cases h
theorem am_o_irem  (F : am_F X p R s m args c C j d ce sl) (hk : am_HK p l e R s m args below meth c C (am_ml j) ce sl Q r k) (hdg : decode (am_b j) pc = .ok (.irem, 1)) (h : am_irem k pc al st M = some r) : am_Wd p l e R s m args below meth c C (am_ml j) ce sl Q pc al st M := by
  intro hal hst H locs ls hl hP hS
  unfold am_irem at h
  split at h
  · split at h
    · cases h
    · rename_i hy
      exact lv_irem F.1 F.2.1 hdg hy (hk _ _ _ _ h hal (am_wk_c trivial (am_wk_t (am_wk_t hst))) H locs ls hl hP hS)
  · cases h
theorem am_o_ldiv  (F : am_F X p R s m args c C j d ce sl) (hk : am_HK p l e R s m args below meth c C (am_ml j) ce sl Q r k) (hdg : decode (am_b j) pc = .ok (.ldiv, 1)) (h : am_ldiv k pc al st M = some r) : am_Wd p l e R s m args below meth c C (am_ml j) ce sl Q pc al st M := by
  intro hal hst H locs ls hl hP hS
  unfold am_ldiv at h
  split at h
  · split at h
    · cases h
    · rename_i hy
      exact lv_ldiv F.1 F.2.1 hdg hy (hk _ _ _ _ h hal (am_wk_c trivial (am_wk_t (am_wk_t hst))) H locs ls hl hP hS)
  · cases h
theorem am_o_lrem  (F : am_F X p R s m args c C j d ce sl) (hk : am_HK p l e R s m args below meth c C (am_ml j) ce sl Q r k) (hdg : decode (am_b j) pc = .ok (.lrem, 1)) (h : am_lrem k pc al st M = some r) : am_Wd p l e R s m args below meth c C (am_ml j) ce sl Q pc al st M := by
  intro hal hst H locs ls hl hP hS
  unfold am_lrem at h
  split at h
  · split at h
    · cases h
    · rename_i hy
      exact lv_lrem F.1 F.2.1 hdg hy (hk _ _ _ _ h hal (am_wk_c trivial (am_wk_t (am_wk_t hst))) H locs ls hl hP hS)
  · cases h
theorem am_o_ineg  (F : am_F X p R s m args c C j d ce sl) (hk : am_HK p l e R s m args below meth c C (am_ml j) ce sl Q r k) (hdg : decode (am_b j) pc = .ok (.ineg, 1)) (h : am_ineg k pc al st M = some r) : am_Wd p l e R s m args below meth c C (am_ml j) ce sl Q pc al st M := by
  intro hal hst H locs ls hl hP hS
  unfold am_ineg at h
  split at h
  · exact lv_ineg F.1 F.2.1 hdg (hk _ _ _ _ h hal (am_wk_c trivial (am_wk_t hst)) H locs ls hl hP hS)
  · cases h
theorem am_o_i2b  (F : am_F X p R s m args c C j d ce sl) (hk : am_HK p l e R s m args below meth c C (am_ml j) ce sl Q r k) (hdg : decode (am_b j) pc = .ok (.i2b, 1)) (h : am_i2b k pc al st M = some r) : am_Wd p l e R s m args below meth c C (am_ml j) ce sl Q pc al st M := by
  intro hal hst H locs ls hl hP hS
  unfold am_i2b at h
  split at h
  · exact lv_i2b F.1 F.2.1 hdg rfl (hk _ _ _ _ h hal (am_wk_c trivial (am_wk_t hst)) H locs ls hl hP hS)
  · cases h
theorem am_o_i2s  (F : am_F X p R s m args c C j d ce sl) (hk : am_HK p l e R s m args below meth c C (am_ml j) ce sl Q r k) (hdg : decode (am_b j) pc = .ok (.i2s, 1)) (h : am_i2s k pc al st M = some r) : am_Wd p l e R s m args below meth c C (am_ml j) ce sl Q pc al st M := by
  intro hal hst H locs ls hl hP hS
  unfold am_i2s at h
  split at h
  · exact lv_i2s F.1 F.2.1 hdg rfl (hk _ _ _ _ h hal (am_wk_c trivial (am_wk_t hst)) H locs ls hl hP hS)
  · cases h
theorem am_o_i2c  (F : am_F X p R s m args c C j d ce sl) (hk : am_HK p l e R s m args below meth c C (am_ml j) ce sl Q r k) (hdg : decode (am_b j) pc = .ok (.i2c, 1)) (h : am_i2c k pc al st M = some r) : am_Wd p l e R s m args below meth c C (am_ml j) ce sl Q pc al st M := by
  intro hal hst H locs ls hl hP hS
  unfold am_i2c at h
  split at h
  · exact lv_i2c F.1 F.2.1 hdg rfl (hk _ _ _ _ h hal (am_wk_c trivial (am_wk_t hst)) H locs ls hl hP hS)
  · cases h
theorem am_o_lneg  (F : am_F X p R s m args c C j d ce sl) (hk : am_HK p l e R s m args below meth c C (am_ml j) ce sl Q r k) (hdg : decode (am_b j) pc = .ok (.lneg, 1)) (h : am_lneg k pc al st M = some r) : am_Wd p l e R s m args below meth c C (am_ml j) ce sl Q pc al st M := by
  intro hal hst H locs ls hl hP hS
  unfold am_lneg at h
  split at h
  · exact lv_lneg F.1 F.2.1 hdg (hk _ _ _ _ h hal (am_wk_c trivial (am_wk_t hst)) H locs ls hl hP hS)
  · cases h
theorem am_o_i2l  (F : am_F X p R s m args c C j d ce sl) (hk : am_HK p l e R s m args below meth c C (am_ml j) ce sl Q r k) (hdg : decode (am_b j) pc = .ok (.i2l, 1)) (h : am_i2l k pc al st M = some r) : am_Wd p l e R s m args below meth c C (am_ml j) ce sl Q pc al st M := by
  intro hal hst H locs ls hl hP hS
  unfold am_i2l at h
  split at h
  · exact lv_i2l F.1 F.2.1 hdg rfl (hk _ _ _ _ h hal (am_wk_c trivial (am_wk_t hst)) H locs ls hl hP hS)
  · cases h
theorem am_o_l2i  (F : am_F X p R s m args c C j d ce sl) (hk : am_HK p l e R s m args below meth c C (am_ml j) ce sl Q r k) (hdg : decode (am_b j) pc = .ok (.l2i, 1)) (h : am_l2i k pc al st M = some r) : am_Wd p l e R s m args below meth c C (am_ml j) ce sl Q pc al st M := by
  intro hal hst H locs ls hl hP hS
  unfold am_l2i at h
  split at h
  · exact lv_l2i F.1 F.2.1 hdg rfl (hk _ _ _ _ h hal (am_wk_c trivial (am_wk_t hst)) H locs ls hl hP hS)
  · cases h
theorem am_o_lcmp  (F : am_F X p R s m args c C j d ce sl) (hk : am_HK p l e R s m args below meth c C (am_ml j) ce sl Q r k) (hdg : decode (am_b j) pc = .ok (.lcmp, 1)) (h : am_lcmp k pc al st M = some r) : am_Wd p l e R s m args below meth c C (am_ml j) ce sl Q pc al st M := by
  intro hal hst H locs ls hl hP hS
  unfold am_lcmp at h
  split at h
  · exact W.lcmp F.1 F.2.1 hdg (hk _ _ _ _ h hal (am_wk_c trivial (am_wk_t (am_wk_t hst))) H locs ls hl hP hS)
  · cases h
theorem am_o_ifeq {off : Int} (ht : (pc : Int) + off = (a1 : Int)) (F : am_F X p R s m args c C j d ce sl) (hk : am_HK p l e R s m args below meth c C (am_ml j) ce sl Q r k) (hdg : decode (am_b j) pc = .ok (.ifCond .eq off, 3)) (h : am_ifeq a1 k pc al st M = some r) : am_Wd p l e R s m args below meth c C (am_ml j) ce sl Q pc al st M := by
  intro hal hst H locs ls hl hP hS
  unfold am_ifeq at h
  split at h
  · refine lv_if_eq (tgt := a1) F.1 F.2.1 hdg ht (fun q => ?_) (fun q => ?_)
    · rw [if_pos q] at h
      exact hk _ _ _ _ h hal (am_wk_t hst) H locs ls hl hP hS
    · rw [if_neg q] at h
      exact hk _ _ _ _ h hal (am_wk_t hst) H locs ls hl hP hS
  · cases h
theorem am_o_iceq {off : Int} (ht : (pc : Int) + off = (a1 : Int)) (F : am_F X p R s m args c C j d ce sl) (hk : am_HK p l e R s m args below meth c C (am_ml j) ce sl Q r k) (hdg : decode (am_b j) pc = .ok (.if_icmp .eq off, 3)) (h : am_iceq a1 k pc al st M = some r) : am_Wd p l e R s m args below meth c C (am_ml j) ce sl Q pc al st M := by
  intro hal hst H locs ls hl hP hS
  unfold am_iceq at h
  split at h
  · refine lv_icmp_eq (tgt := a1) F.1 F.2.1 hdg ht (fun q => ?_) (fun q => ?_)
    · rw [if_pos q] at h
      exact hk _ _ _ _ h hal (am_wk_t (am_wk_t hst)) H locs ls hl hP hS
    · rw [if_neg q] at h
      exact hk _ _ _ _ h hal (am_wk_t (am_wk_t hst)) H locs ls hl hP hS
  · cases h
theorem am_o_ifne {off : Int} (ht : (pc : Int) + off = (a1 : Int)) (F : am_F X p R s m args c C j d ce sl) (hk : am_HK p l e R s m args below meth c C (am_ml j) ce sl Q r k) (hdg : decode (am_b j) pc = .ok (.ifCond .ne off, 3)) (h : am_ifne a1 k pc al st M = some r) : am_Wd p l e R s m args below meth c C (am_ml j) ce sl Q pc al st M := by
  intro hal hst H locs ls hl hP hS
  unfold am_ifne at h
  split at h
  · refine lv_if_ne (tgt := a1) F.1 F.2.1 hdg ht (fun q => ?_) (fun q => ?_)
    · rw [if_pos q] at h
      exact hk _ _ _ _ h hal (am_wk_t hst) H locs ls hl hP hS
    · rw [if_neg (fun z => z q)] at h
      exact hk _ _ _ _ h hal (am_wk_t hst) H locs ls hl hP hS
  · cases h
theorem am_o_icne {off : Int} (ht : (pc : Int) + off = (a1 : Int)) (F : am_F X p R s m args c C j d ce sl) (hk : am_HK p l e R s m args below meth c C (am_ml j) ce sl Q r k) (hdg : decode (am_b j) pc = .ok (.if_icmp .ne off, 3)) (h : am_icne a1 k pc al st M = some r) : am_Wd p l e R s m args below meth c C (am_ml j) ce sl Q pc al st M := by
  intro hal hst H locs ls hl hP hS
  unfold am_icne at h
  split at h
  · refine lv_icmp_ne (tgt := a1) F.1 F.2.1 hdg ht (fun q => ?_) (fun q => ?_)
    · rw [if_pos q] at h
      exact hk _ _ _ _ h hal (am_wk_t (am_wk_t hst)) H locs ls hl hP hS
    · rw [if_neg (fun z => z q)] at h
      exact hk _ _ _ _ h hal (am_wk_t (am_wk_t hst)) H locs ls hl hP hS
  · cases h
theorem am_o_iflt {off : Int} (ht : (pc : Int) + off = (a1 : Int)) (F : am_F X p R s m args c C j d ce sl) (hk : am_HK p l e R s m args below meth c C (am_ml j) ce sl Q r k) (hdg : decode (am_b j) pc = .ok (.ifCond .lt off, 3)) (h : am_iflt a1 k pc al st M = some r) : am_Wd p l e R s m args below meth c C (am_ml j) ce sl Q pc al st M := by
  intro hal hst H locs ls hl hP hS
  unfold am_iflt at h
  split at h
  · refine lv_if_lt (tgt := a1) F.1 F.2.1 hdg ht (fun q => ?_) (fun q => ?_)
    · rw [if_pos q] at h
      exact hk _ _ _ _ h hal (am_wk_t hst) H locs ls hl hP hS
    · rw [if_neg q] at h
      exact hk _ _ _ _ h hal (am_wk_t hst) H locs ls hl hP hS
  · cases h
theorem am_o_iclt {off : Int} (ht : (pc : Int) + off = (a1 : Int)) (F : am_F X p R s m args c C j d ce sl) (hk : am_HK p l e R s m args below meth c C (am_ml j) ce sl Q r k) (hdg : decode (am_b j) pc = .ok (.if_icmp .lt off, 3)) (h : am_iclt a1 k pc al st M = some r) : am_Wd p l e R s m args below meth c C (am_ml j) ce sl Q pc al st M := by
  intro hal hst H locs ls hl hP hS
  unfold am_iclt at h
  split at h
  · refine lv_icmp_lt (tgt := a1) F.1 F.2.1 hdg ht (fun q => ?_) (fun q => ?_)
    · rw [if_pos q] at h
      exact hk _ _ _ _ h hal (am_wk_t (am_wk_t hst)) H locs ls hl hP hS
    · rw [if_neg q] at h
      exact hk _ _ _ _ h hal (am_wk_t (am_wk_t hst)) H locs ls hl hP hS
  · cases h
theorem am_o_ifge {off : Int} (ht : (pc : Int) + off = (a1 : Int)) (F : am_F X p R s m args c C j d ce sl) (hk : am_HK p l e R s m args below meth c C (am_ml j) ce sl Q r k) (hdg : decode (am_b j) pc = .ok (.ifCond .ge off, 3)) (h : am_ifge a1 k pc al st M = some r) : am_Wd p l e R s m args below meth c C (am_ml j) ce sl Q pc al st M := by
  intro hal hst H locs ls hl hP hS
  unfold am_ifge at h
  split at h
  · refine lv_if_ge (tgt := a1) F.1 F.2.1 hdg ht (fun q => ?_) (fun q => ?_)
    · rw [if_pos q] at h
      exact hk _ _ _ _ h hal (am_wk_t hst) H locs ls hl hP hS
    · rw [if_neg q] at h
      exact hk _ _ _ _ h hal (am_wk_t hst) H locs ls hl hP hS
  · cases h
theorem am_o_icge {off : Int} (ht : (pc : Int) + off = (a1 : Int)) (F : am_F X p R s m args c C j d ce sl) (hk : am_HK p l e R s m args below meth c C (am_ml j) ce sl Q r k) (hdg : decode (am_b j) pc = .ok (.if_icmp .ge off, 3)) (h : am_icge a1 k pc al st M = some r) : am_Wd p l e R s m args below meth c C (am_ml j) ce sl Q pc al st M := by
  intro hal hst H locs ls hl hP hS
  unfold am_icge at h
  split at h
  · refine lv_icmp_ge (tgt := a1) F.1 F.2.1 hdg ht (fun q => ?_) (fun q => ?_)
    · rw [if_pos q] at h
      exact hk _ _ _ _ h hal (am_wk_t (am_wk_t hst)) H locs ls hl hP hS
    · rw [if_neg q] at h
      exact hk _ _ _ _ h hal (am_wk_t (am_wk_t hst)) H locs ls hl hP hS
  · cases h
theorem am_o_ifgt {off : Int} (ht : (pc : Int) + off = (a1 : Int)) (F : am_F X p R s m args c C j d ce sl) (hk : am_HK p l e R s m args below meth c C (am_ml j) ce sl Q r k) (hdg : decode (am_b j) pc = .ok (.ifCond .gt off, 3)) (h : am_ifgt a1 k pc al st M = some r) : am_Wd p l e R s m args below meth c C (am_ml j) ce sl Q pc al st M := by
  intro hal hst H locs ls hl hP hS
  unfold am_ifgt at h
  split at h
  · refine lv_if_gt (tgt := a1) F.1 F.2.1 hdg ht (fun q => ?_) (fun q => ?_)
    · rw [if_pos q] at h
      exact hk _ _ _ _ h hal (am_wk_t hst) H locs ls hl hP hS
    · rw [if_neg q] at h
      exact hk _ _ _ _ h hal (am_wk_t hst) H locs ls hl hP hS
  · cases h
theorem am_o_icgt {off : Int} (ht : (pc : Int) + off = (a1 : Int)) (F : am_F X p R s m args c C j d ce sl) (hk : am_HK p l e R s m args below meth c C (am_ml j) ce sl Q r k) (hdg : decode (am_b j) pc = .ok (.if_icmp .gt off, 3)) (h : am_icgt a1 k pc al st M = some r) : am_Wd p l e R s m args below meth c C (am_ml j) ce sl Q pc al st M := by
  intro hal hst H locs ls hl hP hS
  unfold am_icgt at h
  split at h
  · refine lv_icmp_gt (tgt := a1) F.1 F.2.1 hdg ht (fun q => ?_) (fun q => ?_)
    · rw [if_pos q] at h
      exact hk _ _ _ _ h hal (am_wk_t (am_wk_t hst)) H locs ls hl hP hS
    · rw [if_neg q] at h
      exact hk _ _ _ _ h hal (am_wk_t (am_wk_t hst)) H locs ls hl hP hS
  · cases h
theorem am_o_ifle {off : Int} (ht : (pc : Int) + off = (a1 : Int)) (F : am_F X p R s m args c C j d ce sl) (hk : am_HK p l e R s m args below meth c C (am_ml j) ce sl Q r k) (hdg : decode (am_b j) pc = .ok (.ifCond .le off, 3)) (h : am_ifle a1 k pc al st M = some r) : am_Wd p l e R s m args below meth c C (am_ml j) ce sl Q pc al st M := by
  intro hal hst H locs ls hl hP hS
  unfold am_ifle at h
  split at h
  · refine lv_if_le (tgt := a1) F.1 F.2.1 hdg ht (fun q => ?_) (fun q => ?_)
    · rw [if_pos q] at h
      exact hk _ _ _ _ h hal (am_wk_t hst) H locs ls hl hP hS
    · rw [if_neg q] at h
      exact hk _ _ _ _ h hal (am_wk_t hst) H locs ls hl hP hS
  · cases h
theorem am_o_icle {off : Int} (ht : (pc : Int) + off = (a1 : Int)) (F : am_F X p R s m args c C j d ce sl) (hk : am_HK p l e R s m args below meth c C (am_ml j) ce sl Q r k) (hdg : decode (am_b j) pc = .ok (.if_icmp .le off, 3)) (h : am_icle a1 k pc al st M = some r) : am_Wd p l e R s m args below meth c C (am_ml j) ce sl Q pc al st M := by
  intro hal hst H locs ls hl hP hS
  unfold am_icle at h
  split at h
  · refine lv_icmp_le (tgt := a1) F.1 F.2.1 hdg ht (fun q => ?_) (fun q => ?_)
    · rw [if_pos q] at h
      exact hk _ _ _ _ h hal (am_wk_t (am_wk_t hst)) H locs ls hl hP hS
    · rw [if_neg q] at h
      exact hk _ _ _ _ h hal (am_wk_t (am_wk_t hst)) H locs ls hl hP hS
  · cases h
theorem am_o_iconst {n : Int} (hn : Int32.ofInt n = a3) (F : am_F X p R s m args c C j d ce sl) (hk : am_HK p l e R s m args below meth c C (am_ml j) ce sl Q r k) (hdg : decode (am_b j) pc = .ok (.iconst n, 1)) (h : k (pc + 1) al (.inl a3 :: st) M = some r) : am_Wd p l e R s m args below meth c C (am_ml j) ce sl Q pc al st M := by
  intro hal hst H locs ls hl hP hS
  exact lv_iconst F.1 F.2.1 hdg hn (hk _ _ _ _ h hal (am_wk_c trivial hst) H locs ls hl hP hS)
theorem am_o_bipush {n : Int} (hn : (Int8.ofInt n).toInt32 = a3) (F : am_F X p R s m args c C j d ce sl) (hk : am_HK p l e R s m args below meth c C (am_ml j) ce sl Q r k) (hdg : decode (am_b j) pc = .ok (.bipush n, 2)) (h : k (pc + 2) al (.inl a3 :: st) M = some r) : am_Wd p l e R s m args below meth c C (am_ml j) ce sl Q pc al st M := by
  intro hal hst H locs ls hl hP hS
  exact lv_bipush F.1 F.2.1 hdg hn (hk _ _ _ _ h hal (am_wk_c trivial hst) H locs ls hl hP hS)
theorem am_o_sipush {n : Int} (hn : (Int16.ofInt n).toInt32 = a3) (F : am_F X p R s m args c C j d ce sl) (hk : am_HK p l e R s m args below meth c C (am_ml j) ce sl Q r k) (hdg : decode (am_b j) pc = .ok (.sipush n, 3)) (h : k (pc + 3) al (.inl a3 :: st) M = some r) : am_Wd p l e R s m args below meth c C (am_ml j) ce sl Q pc al st M := by
  intro hal hst H locs ls hl hP hS
  exact lv_sipush F.1 F.2.1 hdg hn (hk _ _ _ _ h hal (am_wk_c trivial hst) H locs ls hl hP hS)
theorem am_o_lconst {n : Fin 2} (hn : Int64.ofNat (n : Nat) = a4) (F : am_F X p R s m args c C j d ce sl) (hk : am_HK p l e R s m args below meth c C (am_ml j) ce sl Q r k) (hdg : decode (am_b j) pc = .ok (.lconst n, 1)) (h : k (pc + 1) al (.inr (.inl a4) :: st) M = some r) : am_Wd p l e R s m args below meth c C (am_ml j) ce sl Q pc al st M := by
  intro hal hst H locs ls hl hP hS
  exact lv_lconst F.1 F.2.1 hdg hn (hk _ _ _ _ h hal (am_wk_c trivial hst) H locs ls hl hP hS)
theorem am_o_ldci {i : Nat} (hc : Cond.constant (am_on (am_ow j)) i a3 ∈ am_g) (F : am_F X p R s m args c C j d ce sl) (hk : am_HK p l e R s m args below meth c C (am_ml j) ce sl Q r k) (hdg : decode (am_b j) pc = .ok (.ldc i, 2)) (h : k (pc + 2) al (.inl a3 :: st) M = some r) : am_Wd p l e R s m args below meth c C (am_ml j) ce sl Q pc al st M := by
  intro hal hst H locs ls hl hP hS
  exact lv_ldc F.1 F.2.1 F.2.2.2.1 (F.2.2.2.2.1 _ hc) hdg (hk _ _ _ _ h hal (am_wk_c trivial hst) H locs ls hl hP hS)
theorem am_o_ldcw {i : Nat} (hc : Cond.constant (am_on (am_ow j)) i a3 ∈ am_g) (F : am_F X p R s m args c C j d ce sl) (hk : am_HK p l e R s m args below meth c C (am_ml j) ce sl Q r k) (hdg : decode (am_b j) pc = .ok (.ldc_w i, 3)) (h : k (pc + 3) al (.inl a3 :: st) M = some r) : am_Wd p l e R s m args below meth c C (am_ml j) ce sl Q pc al st M := by
  intro hal hst H locs ls hl hP hS
  exact lv_ldcw F.1 F.2.1 F.2.2.2.1 (F.2.2.2.2.1 _ hc) hdg (hk _ _ _ _ h hal (am_wk_c trivial hst) H locs ls hl hP hS)
theorem am_o_ldc2 {i : Nat} (hc : Cond.constantLong (am_on (am_ow j)) i a4 ∈ am_g) (F : am_F X p R s m args c C j d ce sl) (hk : am_HK p l e R s m args below meth c C (am_ml j) ce sl Q r k) (hdg : decode (am_b j) pc = .ok (.ldc2_w i, 3)) (h : k (pc + 3) al (.inr (.inl a4) :: st) M = some r) : am_Wd p l e R s m args below meth c C (am_ml j) ce sl Q pc al st M := by
  intro hal hst H locs ls hl hP hS
  exact lv_ldc2 F.1 F.2.1 F.2.2.2.1 (F.2.2.2.2.1 _ hc) hdg (hk _ _ _ _ h hal (am_wk_c trivial hst) H locs ls hl hP hS)
theorem am_strs_lt : am_lkS.all (fun q => Nat.blt q.2.2.1 am_nS) = true := by decide +kernel
theorem am_wk_s {i : Nat} (h : i < am_nS) : am_wkb 60 (5000 + i) = true := by
  unfold am_wkb
  have e1 : Nat.ble 5000 (5000 + i) = true := Nat.ble_eq_true_of_le (by omega)
  have e2 : Nat.blt (5000 + i) (5000 + am_nS) = true := Nat.ble_eq_true_of_le (by omega)
  rw [e1, e2]
  simp
theorem am_o_ldcs {i : Nat} (hc : am_lkS.any (fun q => Nat.beq q.1 (am_ow j) && Nat.beq q.2.1 i && Nat.beq q.2.2.1 a1) = true) (F : am_F X p R s m args c C j d ce sl) (hk : am_HK p l e R s m args below meth c C (am_ml j) ce sl Q r k) (hdg : decode (am_b j) pc = .ok (.ldc i, 2)) (h : k (pc + 2) al (.inr (.inr (60, 5000 + a1)) :: st) M = some r) : am_Wd p l e R s m args below meth c C (am_ml j) ce sl Q pc al st M := by
  intro hal hst H locs ls hl hP hS
  obtain ⟨⟨q1, q2, q3, q4, q5⟩, hq, he⟩ := List.any_eq_true.mp hc
  simp only [Bool.and_eq_true] at he
  obtain ⟨⟨e1, e2⟩, e3⟩ := he
  have e1 := am_beq e1
  have e2 := am_beq e2
  have e3 := am_beq e3
  try dsimp only at e1 e2 e3
  subst e2; subst e3
  have hz := F.2.2.2.2.2.1.2.1 _ hq
  have hlt := am_blt (List.all_eq_true.mp am_strs_lt _ hq)
  try dsimp only at hz hlt
  rw [e1] at hz
  exact va_ldcS F.1 F.2.1 F.2.2.2.1 hz hdg (hk _ _ _ _ h hal (am_wk_c (am_wk_s hlt) hst) H locs ls hl hP hS)
theorem am_o_iload_n {n : Fin 4} (hn : Nat.beq n.val a1 = true) (F : am_F X p R s m args c C j d ce sl) (hk : am_HK p l e R s m args below meth c C (am_ml j) ce sl Q r k) (hdg : decode (am_b j) pc = .ok (.iload_n n, 1)) (h : am_il 1 a1 k pc al st M = some r) : am_Wd p l e R s m args below meth c C (am_ml j) ce sl Q pc al st M := by
  intro hal hst H locs ls hl hP hS
  unfold am_il at h
  split at h
  · rename_i hx
    exact lv_iload_n F.1 F.2.1 hdg (am_beq hn) (hl.2.2.2 _ _ hx) (hk _ _ _ _ h hal (am_wk_c trivial hst) H locs ls hl hP hS)
  · cases h
theorem am_o_iload {i : Nat} (hn : Nat.beq i a1 = true) (F : am_F X p R s m args c C j d ce sl) (hk : am_HK p l e R s m args below meth c C (am_ml j) ce sl Q r k) (hdg : decode (am_b j) pc = .ok (.iload i, 2)) (h : am_il 2 a1 k pc al st M = some r) : am_Wd p l e R s m args below meth c C (am_ml j) ce sl Q pc al st M := by
  intro hal hst H locs ls hl hP hS
  have hn := am_beq hn
  subst hn
  unfold am_il at h
  split at h
  · rename_i hx
    exact lv_iload F.1 F.2.1 hdg (hl.2.2.2 _ _ hx) (hk _ _ _ _ h hal (am_wk_c trivial hst) H locs ls hl hP hS)
  · cases h
theorem am_o_lload_n {n : Fin 4} (hn : Nat.beq n.val a1 = true) (F : am_F X p R s m args c C j d ce sl) (hk : am_HK p l e R s m args below meth c C (am_ml j) ce sl Q r k) (hdg : decode (am_b j) pc = .ok (.lload_n n, 1)) (h : am_ll 1 a1 k pc al st M = some r) : am_Wd p l e R s m args below meth c C (am_ml j) ce sl Q pc al st M := by
  intro hal hst H locs ls hl hP hS
  unfold am_ll at h
  split at h
  · rename_i hx
    exact lv_lload_n F.1 F.2.1 hdg (am_beq hn) (hl.2.2.2 _ _ hx) (hk _ _ _ _ h hal (am_wk_c trivial hst) H locs ls hl hP hS)
  · cases h
theorem am_o_lload {i : Nat} (hn : Nat.beq i a1 = true) (F : am_F X p R s m args c C j d ce sl) (hk : am_HK p l e R s m args below meth c C (am_ml j) ce sl Q r k) (hdg : decode (am_b j) pc = .ok (.lload i, 2)) (h : am_ll 2 a1 k pc al st M = some r) : am_Wd p l e R s m args below meth c C (am_ml j) ce sl Q pc al st M := by
  intro hal hst H locs ls hl hP hS
  have hn := am_beq hn
  subst hn
  unfold am_ll at h
  split at h
  · rename_i hx
    exact lv_lload F.1 F.2.1 hdg (hl.2.2.2 _ _ hx) (hk _ _ _ _ h hal (am_wk_c trivial hst) H locs ls hl hP hS)
  · cases h
theorem am_o_aload_n {n : Fin 4} (hn : Nat.beq n.val a1 = true) (F : am_F X p R s m args c C j d ce sl) (hk : am_HK p l e R s m args below meth c C (am_ml j) ce sl Q r k) (hdg : decode (am_b j) pc = .ok (.aload_n n, 1)) (h : am_al 1 a1 k pc al st M = some r) : am_Wd p l e R s m args below meth c C (am_ml j) ce sl Q pc al st M := by
  intro hal hst H locs ls hl hP hS
  unfold am_al at h
  split at h
  · rename_i hx
    exact lv_aload_n F.1 F.2.1 hdg (am_beq hn) (hl.2.2.2 _ _ hx) (hk _ _ _ _ h hal (am_wk_c (hal _ _ hx) hst) H locs ls hl hP hS)
  · cases h
theorem am_o_aload {i : Nat} (hn : Nat.beq i a1 = true) (F : am_F X p R s m args c C j d ce sl) (hk : am_HK p l e R s m args below meth c C (am_ml j) ce sl Q r k) (hdg : decode (am_b j) pc = .ok (.aload i, 2)) (h : am_al 2 a1 k pc al st M = some r) : am_Wd p l e R s m args below meth c C (am_ml j) ce sl Q pc al st M := by
  intro hal hst H locs ls hl hP hS
  have hn := am_beq hn
  subst hn
  unfold am_al at h
  split at h
  · rename_i hx
    exact lv_aload F.1 F.2.1 hdg (hl.2.2.2 _ _ hx) (hk _ _ _ _ h hal (am_wk_c (hal _ _ hx) hst) H locs ls hl hP hS)
  · cases h
theorem am_o_istore_n {n : Fin 4} (hn : Nat.beq n.val a1 = true) (F : am_F X p R s m args c C j d ce sl) (hk : am_HK p l e R s m args below meth c C (am_ml j) ce sl Q r k) (hdg : decode (am_b j) pc = .ok (.istore_n n, 1)) (h : am_is 1 a1 k pc al st M = some r) : am_Wd p l e R s m args below meth c C (am_ml j) ce sl Q pc al st M := by
  intro hal hst H locs ls hl hP hS
  unfold am_is at h
  split at h
  · rename_i hb
    have hlt := am_blt hb
    rw [hl.2.2.1] at hlt
    exact lv_istore_n (lv := am_lv C al (am_ml j)) F.1 F.2.1 hdg (am_beq hn) (am_lh_has hl) hlt rfl (fun ls' h' => hk _ _ _ _ h (am_wl_s1 hal trivial) (am_wk_t hst) H locs ls' (am_lh_s1 hl hlt h') hP hS)
  · cases h
theorem am_o_istore {i : Nat} (hn : Nat.beq i a1 = true) (F : am_F X p R s m args c C j d ce sl) (hk : am_HK p l e R s m args below meth c C (am_ml j) ce sl Q r k) (hdg : decode (am_b j) pc = .ok (.istore i, 2)) (h : am_is 2 a1 k pc al st M = some r) : am_Wd p l e R s m args below meth c C (am_ml j) ce sl Q pc al st M := by
  intro hal hst H locs ls hl hP hS
  have hn := am_beq hn
  subst hn
  unfold am_is at h
  split at h
  · rename_i hb
    have hlt := am_blt hb
    rw [hl.2.2.1] at hlt
    exact lv_istore (lv := am_lv C al (am_ml j)) F.1 F.2.1 hdg (am_lh_has hl) hlt rfl (fun ls' h' => hk _ _ _ _ h (am_wl_s1 hal trivial) (am_wk_t hst) H locs ls' (am_lh_s1 hl hlt h') hP hS)
  · cases h
theorem am_o_lstore_n {n : Fin 4} (hn : Nat.beq n.val a1 = true) (F : am_F X p R s m args c C j d ce sl) (hk : am_HK p l e R s m args below meth c C (am_ml j) ce sl Q r k) (hdg : decode (am_b j) pc = .ok (.lstore_n n, 1)) (h : am_ls 1 a1 k pc al st M = some r) : am_Wd p l e R s m args below meth c C (am_ml j) ce sl Q pc al st M := by
  intro hal hst H locs ls hl hP hS
  unfold am_ls at h
  split at h
  · rename_i hb
    have hlt := am_blt hb
    rw [hl.2.2.1] at hlt
    exact lv_lstore_n (lv := am_lv C al (am_ml j)) F.1 F.2.1 hdg (am_beq hn) (am_lh_has hl) hlt rfl (fun ls' h' => hk _ _ _ _ h (am_wl_s2 hal trivial) (am_wk_t hst) H locs ls' (am_lh_s2 hl hlt h') hP hS)
  · cases h
theorem am_o_lstore {i : Nat} (hn : Nat.beq i a1 = true) (F : am_F X p R s m args c C j d ce sl) (hk : am_HK p l e R s m args below meth c C (am_ml j) ce sl Q r k) (hdg : decode (am_b j) pc = .ok (.lstore i, 2)) (h : am_ls 2 a1 k pc al st M = some r) : am_Wd p l e R s m args below meth c C (am_ml j) ce sl Q pc al st M := by
  intro hal hst H locs ls hl hP hS
  have hn := am_beq hn
  subst hn
  unfold am_ls at h
  split at h
  · rename_i hb
    have hlt := am_blt hb
    rw [hl.2.2.1] at hlt
    exact lv_lstore (lv := am_lv C al (am_ml j)) F.1 F.2.1 hdg (am_lh_has hl) hlt rfl (fun ls' h' => hk _ _ _ _ h (am_wl_s2 hal trivial) (am_wk_t hst) H locs ls' (am_lh_s2 hl hlt h') hP hS)
  · cases h
theorem am_o_astore_n {n : Fin 4} (hn : Nat.beq n.val a1 = true) (F : am_F X p R s m args c C j d ce sl) (hk : am_HK p l e R s m args below meth c C (am_ml j) ce sl Q r k) (hdg : decode (am_b j) pc = .ok (.astore_n n, 1)) (h : am_as 1 a1 k pc al st M = some r) : am_Wd p l e R s m args below meth c C (am_ml j) ce sl Q pc al st M := by
  intro hal hst H locs ls hl hP hS
  unfold am_as at h
  split at h
  · rename_i hb
    have hlt := am_blt hb
    rw [hl.2.2.1] at hlt
    exact lv_astore_n (lv := am_lv C al (am_ml j)) F.1 F.2.1 hdg (am_beq hn) (am_lh_has hl) hlt rfl (fun ls' h' => hk _ _ _ _ h (am_wl_s1 hal (am_wk_h hst)) (am_wk_t hst) H locs ls' (am_lh_s1 hl hlt h') hP hS)
  · cases h
theorem am_o_astore {i : Nat} (hn : Nat.beq i a1 = true) (F : am_F X p R s m args c C j d ce sl) (hk : am_HK p l e R s m args below meth c C (am_ml j) ce sl Q r k) (hdg : decode (am_b j) pc = .ok (.astore i, 2)) (h : am_as 2 a1 k pc al st M = some r) : am_Wd p l e R s m args below meth c C (am_ml j) ce sl Q pc al st M := by
  intro hal hst H locs ls hl hP hS
  have hn := am_beq hn
  subst hn
  unfold am_as at h
  split at h
  · rename_i hb
    have hlt := am_blt hb
    rw [hl.2.2.1] at hlt
    exact lv_astore (lv := am_lv C al (am_ml j)) F.1 F.2.1 hdg (am_lh_has hl) hlt rfl (fun ls' h' => hk _ _ _ _ h (am_wl_s1 hal (am_wk_h hst)) (am_wk_t hst) H locs ls' (am_lh_s1 hl hlt h') hP hS)
  · cases h
theorem am_o_iinc {i : Nat} {n : Int} (hn : Nat.beq i a1 = true) (hv : Int32.ofInt n = a3) (F : am_F X p R s m args c C j d ce sl) (hk : am_HK p l e R s m args below meth c C (am_ml j) ce sl Q r k) (hdg : decode (am_b j) pc = .ok (.iinc i n, 3)) (h : am_inc a1 a3 k pc al st M = some r) : am_Wd p l e R s m args below meth c C (am_ml j) ce sl Q pc al st M := by
  intro hal hst H locs ls hl hP hS
  have hn := am_beq hn
  subst hn
  subst hv
  unfold am_inc at h
  split at h
  · rename_i hx
    have hlt := am_ld_lt _ _ _ hx
    rw [hl.2.2.1] at hlt
    obtain ⟨kk, hkk⟩ := List.getElem?_of_mem (am_lv_mem (C := C) hlt hx)
    exact lv_iinc (lv := am_lv C al (am_ml j)) F.1 F.2.1 hdg (am_lh_has hl) hkk rfl hlt rfl (fun ls' h' => hk _ _ _ _ h (am_wl_s1 hal trivial) hst H locs ls' (am_lh_s1 hl hlt h') hP hS)
  · cases h
theorem am_o_dup  (F : am_F X p R s m args c C j d ce sl) (hk : am_HK p l e R s m args below meth c C (am_ml j) ce sl Q r k) (hdg : decode (am_b j) pc = .ok (.dup, 1)) (h : am_dup k pc al st M = some r) : am_Wd p l e R s m args below meth c C (am_ml j) ce sl Q pc al st M := by
  intro hal hst H locs ls hl hP hS
  unfold am_dup at h
  split at h
  · exact lv_dup F.1 F.2.1 hdg rfl (hk _ _ _ _ h hal (am_wk_c trivial hst) H locs ls hl hP hS)
  · exact lv_dup F.1 F.2.1 hdg rfl (hk _ _ _ _ h hal (am_wk_c (am_wk_h hst) hst) H locs ls hl hP hS)
  · cases h
theorem am_o_dup2  (F : am_F X p R s m args c C j d ce sl) (hk : am_HK p l e R s m args below meth c C (am_ml j) ce sl Q r k) (hdg : decode (am_b j) pc = .ok (.dup2, 1)) (h : am_dup2 k pc al st M = some r) : am_Wd p l e R s m args below meth c C (am_ml j) ce sl Q pc al st M := by
  intro hal hst H locs ls hl hP hS
  unfold am_dup2 at h
  split at h
  · exact lv_dup2_11 F.1 F.2.1 hdg rfl rfl (hk _ _ _ _ h hal (am_wk_c trivial (am_wk_c (am_wk_h (am_wk_t hst)) hst)) H locs ls hl hP hS)
  · cases h
theorem am_o_pop  (F : am_F X p R s m args c C j d ce sl) (hk : am_HK p l e R s m args below meth c C (am_ml j) ce sl Q r k) (hdg : decode (am_b j) pc = .ok (.pop, 1)) (h : am_popi k pc al st M = some r) : am_Wd p l e R s m args below meth c C (am_ml j) ce sl Q pc al st M := by
  intro hal hst H locs ls hl hP hS
  unfold am_popi at h
  split at h
  · exact lv_pop F.1 F.2.1 hdg rfl (hk _ _ _ _ h hal (am_wk_t hst) H locs ls hl hP hS)
  · exact lv_pop F.1 F.2.1 hdg rfl (hk _ _ _ _ h hal (am_wk_t hst) H locs ls hl hP hS)
  · cases h
theorem am_o_goto {off : Int} (ht : (pc : Int) + off = (a1 : Int)) (F : am_F X p R s m args c C j d ce sl) (hk : am_HK p l e R s m args below meth c C (am_ml j) ce sl Q r k) (hdg : decode (am_b j) pc = .ok (.goto off, 3)) (h : k a1 al st M = some r) : am_Wd p l e R s m args below meth c C (am_ml j) ce sl Q pc al st M := by
  intro hal hst H locs ls hl hP hS
  exact lv_goto (tgt := a1) F.1 F.2.1 hdg ht (hk _ _ _ _ h hal hst H locs ls hl hP hS)
end AMS
end
section
section AMH
variable {X : Option (Nat × (Nat → Int32))} {sws : List (List (Int32 × Nat) × Nat)} {sem : Nat → List aV → aM → Option aR} {p : Program} {l : Launch} {e : Env} {R : Room} {s : State} {m : MethodId} {args : Array Value} {below : List Frame} {meth : Method} {c : Code} {C : aC} {Q : State → Prop} {j d ce sl : Nat} {r : aR} {k : aK} {pc a1 a2 : Nat} {a3 : Int32} {a4 : Int64} {al : aL} {st : List aV} {M : aM}
theorem am_o_getfield {i : Nat} (hch : am_lkF.any (fun q => Nat.beq q.1 (am_ow j) && Nat.beq q.2.1 i && Nat.beq q.2.2.1 a1 && Nat.beq q.2.2.2.1 a2) = true) (F : am_F X p R s m args c C j d ce sl) (hk : am_HK p l e R s m args below meth c C (am_ml j) ce sl Q r k) (hdg : decode (am_b j) pc = .ok (.getfield i, 3)) (h : am_gf a1 a2 k pc al st M = some r) : am_Wd p l e R s m args below meth c C (am_ml j) ce sl Q pc al st M := by
  intro hal hst H locs ls hl hP hS
  obtain ⟨h12, hf, hlk⟩ := am_lkF_use hch
  unfold am_gf at h
  split at h
  · rename_i kq a rest
    have hok : am_wkb kq a = true := am_wk_h hst
    split at h
    · rename_i k2 dd hb hfd
      have hb := am_beq hb
      subst hb
      obtain ⟨haN, hsh⟩ := am_wk_lo hok (by omega)
      exact va_get (D := C.2.1) (ci := kq) (v := .int (M.1 a a2)) (C := (am_cl kq).1) (T := (am_cl kq).2.1) (N := (am_cl kq).2.2) (fs := am_fs C M a) F.1 F.2.1 F.2.2.2.2.1 (am_uws h12) F.2.2.2.1 F.2.2.2.2.2.1.1 hP a (by rw [am_ws_get C M haN, am_ce_o hsh (by omega)]) (am_cl_at kq h12) a2 hf (F.2.2.2.2.1 _ hlk) (fun _ z => z) (by rw [am_fs_at hsh hfd (by simp)]; rfl) hdg (hk _ _ _ _ h hal (am_wk_c trivial (am_wk_t hst)) H locs ls hl hP hS)
    · rename_i k2 dd hb hfd
      have hb := am_beq hb
      subst hb
      obtain ⟨haN, hsh⟩ := am_wk_lo hok (by omega)
      exact va_get (D := C.2.1) (ci := kq) (v := .long (M.2 a a2)) (C := (am_cl kq).1) (T := (am_cl kq).2.1) (N := (am_cl kq).2.2) (fs := am_fs C M a) F.1 F.2.1 F.2.2.2.2.1 (am_uws h12) F.2.2.2.1 F.2.2.2.2.2.1.1 hP a (by rw [am_ws_get C M haN, am_ce_o hsh (by omega)]) (am_cl_at kq h12) a2 hf (F.2.2.2.2.1 _ hlk) (fun _ z => z) (by rw [am_fs_at hsh hfd (by simp)]; rfl) hdg (hk _ _ _ _ h hal (am_wk_c trivial (am_wk_t hst)) H locs ls hl hP hS)
    · rename_i k2 dd hb hfd
      have hb := am_beq hb
      subst hb
      obtain ⟨haN, hsh⟩ := am_wk_lo hok (by omega)
      exact va_get (D := C.2.1) (ci := kq) (v := .ref (am_ad C (a + dd))) (C := (am_cl kq).1) (T := (am_cl kq).2.1) (N := (am_cl kq).2.2) (fs := am_fs C M a) F.1 F.2.1 F.2.2.2.2.1 (am_uws h12) F.2.2.2.1 F.2.2.2.2.2.1.1 hP a (by rw [am_ws_get C M haN, am_ce_o hsh (by omega)]) (am_cl_at kq h12) a2 hf (F.2.2.2.2.1 _ hlk) (fun _ z => z) (by rw [am_fs_at hsh hfd (by simp)]; rfl) hdg (hk _ _ _ _ h hal (am_wk_c (am_clo_f haN (by rw [hsh]; exact hfd)) (am_wk_t hst)) H locs ls hl hP hS)
    · cases h
  · cases h
theorem am_o_putfield {i : Nat} (hfi : (!((am_cl a1).2.1 a2).2.2.2) = true) (hch : am_lkF.any (fun q => Nat.beq q.1 (am_ow j) && Nat.beq q.2.1 i && Nat.beq q.2.2.1 a1 && Nat.beq q.2.2.2.1 a2) = true) (F : am_F X p R s m args c C j d ce sl) (hk : am_HK p l e R s m args below meth c C (am_ml j) ce sl Q r k) (hdg : decode (am_b j) pc = .ok (.putfield i, 3)) (h : am_pf a1 a2 k pc al st M = some r) : am_Wd p l e R s m args below meth c C (am_ml j) ce sl Q pc al st M := by
  intro hal hst H locs ls hl hP hS
  obtain ⟨h12, hf, hlk⟩ := am_lkF_use hch
  have hfin : ((am_cl a1).2.1 a2).2.2.2 = false := by simpa using hfi
  unfold am_pf at h
  split at h
  · rename_i v kq a rest
    split at h
    · rename_i k2 dd hb hfd
      have hb := am_beq hb
      subst hb
      have hok : am_wkb kq a = true := am_wk_h (am_wk_t hst)
      obtain ⟨haN, hsh⟩ := am_wk_lo hok (by omega)
      have hfd' := hfd
      rw [← hsh] at hfd'
      refine va_put (D := C.2.1) (ci := kq) (v := .int v) (ty := .int) (C := (am_cl kq).1) (T := (am_cl kq).2.1) (N := (am_cl kq).2.2) (fs := am_fs C M a) F.1 F.2.1 F.2.2.2.2.1 (am_uws h12) (am_ty0 kq) (am_tyok h12) (am_nm h12) F.2.2.2.1 F.2.2.2.2.2.1.1 hP (am_wD C M) hS a (by rw [am_ws_get C M haN, am_ce_o hsh (by omega)]) (am_cl_at kq h12) a2 hf (F.2.2.2.2.1 _ hlk) (fun _ z => z) hfin (am_tyI h12 hf (by rw [hfd])) rfl rfl (List.getElem?_eq_some_iff.mp (am_fs_at (C := C) (M := M) hsh hfd (by simp))).1 hdg (fun H1 locs1 hP1 hD1 hS1 => ?_)
      refine hk _ _ _ _ h hal (am_wk_t (am_wk_t hst)) H1 locs1 ls hl ?_ hS1
      rw [← am_ws_set C (M := M) (M' := (am_u M.1 a a2 v, M.2)) haN (fun b hb hne => am_ce_same (am_u_ne hne) rfl), am_ce_o hsh (by omega), am_fs_i hfd']
      exact hP1
    · cases h
  · rename_i v kq a rest
    split at h
    · rename_i k2 dd hb hfd
      have hb := am_beq hb
      subst hb
      have hok : am_wkb kq a = true := am_wk_h (am_wk_t hst)
      obtain ⟨haN, hsh⟩ := am_wk_lo hok (by omega)
      have hfd' := hfd
      rw [← hsh] at hfd'
      refine va_put (D := C.2.1) (ci := kq) (v := .long v) (ty := .long) (C := (am_cl kq).1) (T := (am_cl kq).2.1) (N := (am_cl kq).2.2) (fs := am_fs C M a) F.1 F.2.1 F.2.2.2.2.1 (am_uws h12) (am_ty0 kq) (am_tyok h12) (am_nm h12) F.2.2.2.1 F.2.2.2.2.2.1.1 hP (am_wD C M) hS a (by rw [am_ws_get C M haN, am_ce_o hsh (by omega)]) (am_cl_at kq h12) a2 hf (F.2.2.2.2.1 _ hlk) (fun _ z => z) hfin (am_tyL h12 hf (by rw [hfd])) rfl rfl (List.getElem?_eq_some_iff.mp (am_fs_at (C := C) (M := M) hsh hfd (by simp))).1 hdg (fun H1 locs1 hP1 hD1 hS1 => ?_)
      refine hk _ _ _ _ h hal (am_wk_t (am_wk_t hst)) H1 locs1 ls hl ?_ hS1
      rw [← am_ws_set C (M := M) (M' := (M.1, am_ul M.2 a a2 v)) haN (fun b hb hne => am_ce_same rfl (am_ul_ne hne)), am_ce_o hsh (by omega), am_fs_l hfd']
      exact hP1
    · cases h
  · cases h
theorem am_arr {C : aC} {M : aM} {kq a : Nat} {q : am_AT} (hok : am_wkb kq a = true) (hq : am_ar kq = q) (h5 : q.1 < 5) : a < am_N ∧ am_sh a = kq ∧ (am_ws C M)[a]? = some (am_ad C a, .inl (C.2.2.1 q.2.2.1, q.2.1, am_ac C M a q)) ∧ (q.1 < 4 → q.2.2.1 = q.1) ∧ (q.1 = 4 → 4 ≤ q.2.2.1 ∧ q.2.2.1 ≤ 6) := by
  obtain ⟨haN, hsh⟩ := am_wk_ar hok (by rw [hq]; exact h5)
  have hk := am_clo_k haN
  rw [hsh, hq] at hk
  exact ⟨haN, hsh, by rw [am_ws_get C M haN, am_ce_a haN hsh hq (by omega)], hk.2.1, hk.2.2.1⟩
set_option maxRecDepth 100000 in
theorem am_c70 : (List.range am_N).all (fun a => !(Nat.beq (am_ar (am_sh a)).1 7) && !(Nat.beq (am_ar (am_sh a)).1 8)) = true := by decide +kernel
theorem am_c7 (a : Nat) (h : a < am_N) : (am_ar (am_sh a)).1 ≠ 7 ∧ (am_ar (am_sh a)).1 ≠ 8 := by
  have h0 := List.all_eq_true.mp am_c70 a (List.mem_range.mpr h)
  simp only [Bool.and_eq_true, Bool.not_eq_true'] at h0
  exact ⟨fun q => by rw [q] at h0; exact absurd h0.1 (by decide), fun q => by rw [q] at h0; exact absurd h0.2 (by decide)⟩
theorem am_x61 {kq a : Nat} (hok : am_wkb kq a = true) (har : (am_ar kq).1 = 7) : a = 5100 := by
  unfold am_wkb at hok
  simp only [Bool.or_eq_true, Bool.and_eq_true] at hok
  rcases hok with ((q | q) | q) | q
  · exact absurd (by rw [am_beq q.2]; exact har) (am_c7 _ (am_blt q.1)).1
  · rw [am_beq q.1.1] at har; exact absurd har (by decide)
  · exact am_beq q.2
  · rw [am_beq q.1] at har; exact absurd har (by decide)
theorem am_x62 {kq a : Nat} (hok : am_wkb kq a = true) (har : (am_ar kq).1 = 8) : a = 5200 := by
  unfold am_wkb at hok
  simp only [Bool.or_eq_true, Bool.and_eq_true] at hok
  rcases hok with ((q | q) | q) | q
  · exact absurd (by rw [am_beq q.2]; exact har) (am_c7 _ (am_blt q.1)).2
  · rw [am_beq q.1.1] at har; exact absurd har (by decide)
  · rw [am_beq q.1] at har; exact absurd har (by decide)
  · exact am_beq q.2
theorem am_o_iaload  (F : am_F X p R s m args c C j d ce sl) (hk : am_HK p l e R s m args below meth c C (am_ml j) ce sl Q r k) (hdg : decode (am_b j) pc = .ok (.iaload, 1)) (h : am_iald X k pc al st M = some r) : am_Wd p l e R s m args below meth c C (am_ml j) ce sl Q pc al st M := by
  intro hal hst H locs ls hl hP hS
  unfold am_iald at h
  split at h
  · rename_i jj kq a rest
    have hok : am_wkb kq a = true := am_wk_h (am_wk_t hst)
    split at h
    · rename_i n ci ek f0 dd har
      split at h
      · rename_i hin
        obtain ⟨haN, hsh, hws, hci, -⟩ := am_arr (C := C) (M := M) hok har (by simp)
        have hci : ci = 0 := hci (by simp)
        subst hci
        exact va_iald F.1 F.2.1 F.2.2.2.2.2.1.1 hP a 0 hws rfl (am_inB_in hin) hdg (hk _ _ _ _ h hal (am_wk_c trivial (am_wk_t (am_wk_t hst))) H locs ls hl hP hS)
      · cases h
    · rename_i har
      split at h
      · rename_i hin
        have ha := am_x61 hok (by rw [har])
        subst ha
        exact va_ti F.1 F.2.1 F.2.2.2.2.2.1.2.2.2.1 hS (am_inB_in hin) rfl hdg (hk _ _ _ _ h hal (am_wk_c trivial (am_wk_t (am_wk_t hst))) H locs ls hl hP hS)
      · cases h
    · rename_i har
      have ha := am_x62 hok (by rw [har])
      subst ha
      split at h
      · rename_i n xs
        split at h
        · rename_i hin
          obtain ⟨x1, x2, x3⟩ := F.2.2.2.2.2.2.2 n xs rfl
          exact va_sld F.1 F.2.1 x1 x2 x3 hS (am_inB_in hin) hdg (hk _ _ _ _ h hal (am_wk_c trivial (am_wk_t (am_wk_t hst))) H locs ls hl hP hS)
        · cases h
      · cases h
    · cases h
  · cases h
theorem am_o_baload  (F : am_F X p R s m args c C j d ce sl) (hk : am_HK p l e R s m args below meth c C (am_ml j) ce sl Q r k) (hdg : decode (am_b j) pc = .ok (.baload, 1)) (h : am_bald k pc al st M = some r) : am_Wd p l e R s m args below meth c C (am_ml j) ce sl Q pc al st M := by
  intro hal hst H locs ls hl hP hS
  unfold am_bald at h
  split at h
  · rename_i jj kq a rest
    have hok : am_wkb kq a = true := am_wk_h (am_wk_t hst)
    split at h
    · rename_i n ci ek f0 dd har
      split at h
      · rename_i hin
        obtain ⟨haN, hsh, hws, hci, -⟩ := am_arr (C := C) (M := M) hok har (by simp)
        have hci : ci = 1 := hci (by simp)
        subst hci
        exact va_bald F.1 F.2.1 F.2.2.2.2.2.1.1 hP a 1 hws rfl (am_inB_in hin) hdg (hk _ _ _ _ h hal (am_wk_c trivial (am_wk_t (am_wk_t hst))) H locs ls hl hP hS)
      · cases h
    · rename_i n ci ek f0 dd har
      split at h
      · rename_i hin
        obtain ⟨haN, hsh, hws, hci, -⟩ := am_arr (C := C) (M := M) hok har (by simp)
        have hci : ci = 2 := hci (by simp)
        subst hci
        exact va_zald F.1 F.2.1 F.2.2.2.2.2.1.1 hP a 2 hws rfl (am_inB_in hin) hdg (hk _ _ _ _ h hal (am_wk_c trivial (am_wk_t (am_wk_t hst))) H locs ls hl hP hS)
      · cases h
    · cases h
  · cases h
theorem am_o_laload  (F : am_F X p R s m args c C j d ce sl) (hk : am_HK p l e R s m args below meth c C (am_ml j) ce sl Q r k) (hdg : decode (am_b j) pc = .ok (.laload, 1)) (h : am_lald k pc al st M = some r) : am_Wd p l e R s m args below meth c C (am_ml j) ce sl Q pc al st M := by
  intro hal hst H locs ls hl hP hS
  unfold am_lald at h
  split at h
  · rename_i jj kq a rest
    have hok : am_wkb kq a = true := am_wk_h (am_wk_t hst)
    split at h
    · rename_i n ci ek f0 dd har
      split at h
      · rename_i hin
        obtain ⟨haN, hsh, hws, hci, -⟩ := am_arr (C := C) (M := M) hok har (by simp)
        have hci : ci = 3 := hci (by simp)
        subst hci
        exact va_lald F.1 F.2.1 F.2.2.2.2.2.1.1 hP a 3 hws rfl (am_inB_in hin) hdg (hk _ _ _ _ h hal (am_wk_c trivial (am_wk_t (am_wk_t hst))) H locs ls hl hP hS)
      · cases h
    · cases h
  · cases h
theorem am_o_aaload  (F : am_F X p R s m args c C j d ce sl) (hk : am_HK p l e R s m args below meth c C (am_ml j) ce sl Q r k) (hdg : decode (am_b j) pc = .ok (.aaload, 1)) (h : am_aald k pc al st M = some r) : am_Wd p l e R s m args below meth c C (am_ml j) ce sl Q pc al st M := by
  intro hal hst H locs ls hl hP hS
  unfold am_aald at h
  split at h
  · rename_i jj kq a rest
    have hok : am_wkb kq a = true := am_wk_h (am_wk_t hst)
    split at h
    · rename_i n ci ek f0 dd har
      split at h
      · rename_i hin
        obtain ⟨haN, hsh, hws, -, hci⟩ := am_arr (C := C) (M := M) hok har (by simp)
        have hci := hci rfl
        dsimp only at hci
        have hin' := am_inB_in hin
        have hlt : jj.toNatClampNeg < n := Nat.not_le.mp fun q => hin' (Or.inr q)
        obtain ⟨ty, hty, href⟩ : ∃ ty, (am_tys C)[ci]? = some (C.2.2.1 ci, ty) ∧ ty.isReference = true := by
          rcases (show ci = 4 ∨ ci = 5 ∨ ci = 6 by omega) with q | q | q <;> subst q
          · exact ⟨_, rfl, rfl⟩
          · exact ⟨_, rfl, rfl⟩
          · exact ⟨_, rfl, rfl⟩
        exact W.aald (v := .ref (am_ad C (a + (f0 + dd * jj.toNatClampNeg)))) (ty := ty) F.1 F.2.1 (hP a _ hws) ((F.2.2.2.2.2.1.1.2 ci _ hty).1 n (fun i => va_rf (some (am_ad C (a + (f0 + dd * i)))))) href (fun q => by cases q) (by show ¬ (jj < 0 ∨ (arrV _ _ _).slots.size ≤ _); rw [arrV_size]; exact hin') (by show (arrV _ _ _).slots[_]? = _; rw [arrV_read _ _ hlt]; rfl) rfl rfl hdg (hk _ _ _ _ h hal (am_wk_c (am_clo_a haN (by rw [hsh]; exact har) hlt) (am_wk_t (am_wk_t hst))) H locs ls hl hP hS)
      · cases h
    · cases h
  · cases h
theorem am_o_iastore  (F : am_F X p R s m args c C j d ce sl) (hk : am_HK p l e R s m args below meth c C (am_ml j) ce sl Q r k) (hdg : decode (am_b j) pc = .ok (.iastore, 1)) (h : am_iast k pc al st M = some r) : am_Wd p l e R s m args below meth c C (am_ml j) ce sl Q pc al st M := by
  intro hal hst H locs ls hl hP hS
  unfold am_iast at h
  split at h
  · rename_i v jj kq a rest
    have hok : am_wkb kq a = true := am_wk_h (am_wk_t (am_wk_t hst))
    split at h
    · rename_i n ci ek f0 dd har
      split at h
      · rename_i hin
        obtain ⟨haN, hsh, hws, hci, -⟩ := am_arr (C := C) (M := M) hok har (by simp)
        have hci : ci = 0 := hci (by simp)
        subst hci
        refine va_iast F.1 F.2.1 F.2.2.2.2.2.1.1 hP (am_wD C M) hS a 0 hws rfl (am_inB_in hin) hdg (fun H1 locs1 hP1 hD1 hS1 => ?_)
        refine hk _ _ _ _ h hal (am_wk_t (am_wk_t (am_wk_t hst))) H1 locs1 ls hl ?_ hS1
        rw [← am_ws_set C (M := M) (M' := (am_u M.1 a jj.toNatClampNeg v, M.2)) haN (fun b hb hne => am_ce_same (am_u_ne hne) rfl), am_ce_a haN hsh har (by simp)]
        unfold am_ac
        dsimp only
        rw [am_u_eq]
        exact hP1
      · cases h
    · cases h
  · cases h
theorem am_o_bastore  (F : am_F X p R s m args c C j d ce sl) (hk : am_HK p l e R s m args below meth c C (am_ml j) ce sl Q r k) (hdg : decode (am_b j) pc = .ok (.bastore, 1)) (h : am_bast k pc al st M = some r) : am_Wd p l e R s m args below meth c C (am_ml j) ce sl Q pc al st M := by
  intro hal hst H locs ls hl hP hS
  unfold am_bast at h
  split at h
  · rename_i v jj kq a rest
    have hok : am_wkb kq a = true := am_wk_h (am_wk_t (am_wk_t hst))
    split at h
    · rename_i n ci ek f0 dd har
      split at h
      · rename_i hin
        obtain ⟨haN, hsh, hws, hci, -⟩ := am_arr (C := C) (M := M) hok har (by simp)
        have hci : ci = 1 := hci (by simp)
        subst hci
        refine va_bast F.1 F.2.1 F.2.2.2.2.2.1.1 hP (am_wD C M) hS a 1 hws rfl (am_inB_in hin) hdg (fun H1 locs1 hP1 hD1 hS1 => ?_)
        refine hk _ _ _ _ h hal (am_wk_t (am_wk_t (am_wk_t hst))) H1 locs1 ls hl ?_ hS1
        rw [← am_ws_set C (M := M) (M' := (am_u M.1 a jj.toNatClampNeg v.toInt8.toInt32, M.2)) haN (fun b hb hne => am_ce_same (am_u_ne hne) rfl), am_ce_a haN hsh har (by simp)]
        unfold am_ac
        dsimp only
        rw [am_u_eq, ← vp_nar_byte]
        exact hP1
      · cases h
    · rename_i n ci ek f0 dd har
      split at h
      · rename_i hin
        obtain ⟨haN, hsh, hws, hci, -⟩ := am_arr (C := C) (M := M) hok har (by simp)
        have hci : ci = 2 := hci (by simp)
        subst hci
        refine va_zast F.1 F.2.1 F.2.2.2.2.2.1.1 hP (am_wD C M) hS a 2 hws rfl (am_inB_in hin) hdg (fun H1 locs1 hP1 hD1 hS1 => ?_)
        refine hk _ _ _ _ h hal (am_wk_t (am_wk_t (am_wk_t hst))) H1 locs1 ls hl ?_ hS1
        rw [← am_ws_set C (M := M) (M' := (am_u M.1 a jj.toNatClampNeg (v &&& 1), M.2)) haN (fun b hb hne => am_ce_same (am_u_ne hne) rfl), am_ce_a haN hsh har (by simp)]
        unfold am_ac
        dsimp only
        rw [am_u_eq, show v &&& 1 = vp_nar .boolean v from rfl]
        exact hP1
      · cases h
    · cases h
  · cases h
theorem am_o_lastore  (F : am_F X p R s m args c C j d ce sl) (hk : am_HK p l e R s m args below meth c C (am_ml j) ce sl Q r k) (hdg : decode (am_b j) pc = .ok (.lastore, 1)) (h : am_last k pc al st M = some r) : am_Wd p l e R s m args below meth c C (am_ml j) ce sl Q pc al st M := by
  intro hal hst H locs ls hl hP hS
  unfold am_last at h
  split at h
  · rename_i v jj kq a rest
    have hok : am_wkb kq a = true := am_wk_h (am_wk_t (am_wk_t hst))
    split at h
    · rename_i n ci ek f0 dd har
      split at h
      · rename_i hin
        obtain ⟨haN, hsh, hws, hci, -⟩ := am_arr (C := C) (M := M) hok har (by simp)
        have hci : ci = 3 := hci (by simp)
        subst hci
        refine va_last F.1 F.2.1 F.2.2.2.2.2.1.1 hP (am_wD C M) hS a 3 hws rfl (am_inB_in hin) hdg (fun H1 locs1 hP1 hD1 hS1 => ?_)
        refine hk _ _ _ _ h hal (am_wk_t (am_wk_t (am_wk_t hst))) H1 locs1 ls hl ?_ hS1
        rw [← am_ws_set C (M := M) (M' := (M.1, am_ul M.2 a jj.toNatClampNeg v)) haN (fun b hb hne => am_ce_same rfl (am_ul_ne hne)), am_ce_a haN hsh har (by simp)]
        unfold am_ac
        dsimp only
        rw [am_ul_eq]
        exact hP1
      · cases h
    · cases h
  · cases h
theorem am_o_arraylength  (F : am_F X p R s m args c C j d ce sl) (hk : am_HK p l e R s m args below meth c C (am_ml j) ce sl Q r k) (hdg : decode (am_b j) pc = .ok (.arraylength, 1)) (h : am_alen X k pc al st M = some r) : am_Wd p l e R s m args below meth c C (am_ml j) ce sl Q pc al st M := by
  intro hal hst H locs ls hl hP hS
  unfold am_alen at h
  split at h
  · rename_i kq a rest
    have hok : am_wkb kq a = true := am_wk_h hst
    split at h
    · rename_i n ci ek f0 dd har
      obtain ⟨haN, hsh, hws, hci, -⟩ := am_arr (C := C) (M := M) hok har (by simp)
      have hci : ci = 0 := hci (by simp)
      subst hci
      exact va_alen F.1 F.2.1 F.2.2.2.2.2.1.1 hP a 0 hws rfl rfl hdg (hk _ _ _ _ h hal (am_wk_c trivial (am_wk_t hst)) H locs ls hl hP hS)
    · rename_i n ci ek f0 dd har
      obtain ⟨haN, hsh, hws, hci, -⟩ := am_arr (C := C) (M := M) hok har (by simp)
      have hci : ci = 3 := hci (by simp)
      subst hci
      exact va_alen F.1 F.2.1 F.2.2.2.2.2.1.1 hP a 3 hws rfl rfl hdg (hk _ _ _ _ h hal (am_wk_c trivial (am_wk_t hst)) H locs ls hl hP hS)
    · rename_i har
      have ha := am_x62 hok (by rw [har])
      subst ha
      split at h
      · rename_i n xs
        obtain ⟨x1, x2, x3⟩ := F.2.2.2.2.2.2.2 n xs rfl
        exact va_slen F.1 F.2.1 x1 x2 x3 hS hdg (hk _ _ _ _ h hal (am_wk_c trivial (am_wk_t hst)) H locs ls hl hP hS)
      · cases h
    · cases h
  · cases h
set_option maxRecDepth 100000 in
theorem am_lkG_ok : am_lkG.all (fun q => decide (am_at q.2.2 = some (.fieldLink (am_on q.1) q.2.1 "ArgumentMender" "FACTORIALS" "[I"))) = true := by decide +kernel
theorem am_o_getstatic {i : Nat} (hch : am_lkG.any (fun q => Nat.beq q.1 (am_ow j) && Nat.beq q.2.1 i) = true) (F : am_F X p R s m args c C j d ce sl) (hk : am_HK p l e R s m args below meth c C (am_ml j) ce sl Q r k) (hdg : decode (am_b j) pc = .ok (.getstatic i, 3)) (h : k (pc + 3) al (.inr (.inr (61, 5100)) :: st) M = some r) : am_Wd p l e R s m args below meth c C (am_ml j) ce sl Q pc al st M := by
  intro hal hst H locs ls hl hP hS
  obtain ⟨⟨q1, q2, q3⟩, hq, he⟩ := List.any_eq_true.mp hch
  have hok := of_decide_eq_true (List.all_eq_true.mp am_lkG_ok _ hq)
  simp only [Bool.and_eq_true] at he
  obtain ⟨e1, e2⟩ := he
  have e1 := am_beq e1
  have e2 := am_beq e2
  try dsimp only at e1 e2
  subst e2
  rw [e1] at hok
  exact va_gets F.1 F.2.1 F.2.2.2.2.2.1.2.2.2.2.1 hS F.2.2.2.1 (F.2.2.2.2.1 _ (am_gat hok rfl)) (fun _ z => z) hdg (hk _ _ _ _ h hal (am_wk_c (show am_wkb 61 5100 = true by decide) hst) H locs ls hl hP hS)
end AMH
end
section
section AMC
variable {X : Option (Nat × (Nat → Int32))} {sws : List (List (Int32 × Nat) × Nat)} {sem : Nat → List aV → aM → Option aR} {p : Program} {l : Launch} {e : Env} {R : Room} {s : State} {m : MethodId} {args : Array Value} {below : List Frame} {meth : Method} {c : Code} {C : aC} {Q : State → Prop} {j d ce sl rt : Nat} {r : aR} {k : aK} {pc a1 a2 : Nat} {a3 : Int32} {a4 : Int64} {al : aL} {st : List aV} {M : aM}
theorem am_callW {H : Heap} {locs : List Loc} {ls : Array Slot} {st0 rest : List Value} {rr : aR} {aa : Array Value}
    (hr : va_Run p l e R s m args below meth c H locs ce sl 0 0 (F0 m pc ls st0) rest (am_Qc C rr aa) (am_A C)) (hS : va_S (am_A C) s.heap H locs)
    (kk : am_okO rr.1 → ∀ (H1 : Heap) (locs1 : List Loc), va_P C.2.1 vwCl (am_ws C rr.2) H1 → va_S (am_A C) s.heap H1 locs1 → W p l e R s m args below meth c H1 locs1 ce sl Q (F0 m (pc + 3) ls ((rr.1.map (am_cv C)).toList ++ rest))) : W p l e R s m args below meth c H locs ce sl Q (F0 m pc ls st0) := by
  intro T hT X0
  obtain ⟨v, st₀, t, T', L, h0, X', hL, e1, e2, ⟨hv, hp, ⟨hz, hk⟩, hro⟩, st⟩ := hr T hT X0
  injection hv with hv
  subst hv
  rw [h0] at hz hk
  have hS1 : va_S (am_A C) s.heap T'.heap (locs ++ L) := by
    refine ⟨Nat.le_trans hS.1 (by rw [e1]; exact hz), fun q h1 h2 => ?_, fun q hq => ?_⟩
    · rw [e1, hk q (Nat.lt_of_lt_of_le h1 hS.1) h2]
      exact hS.2.1 q h1 h2
    · rcases List.mem_append.mp hq with hq | hq
      · exact hS.2.2 q hq
      · exact hL q hq
  obtain ⟨t2, a1, b1⟩ := kk hro T'.heap (locs ++ L) (by rw [e1]; exact hp) hS1 T' rfl X'
  exact ⟨t2, st t2 a1, b1⟩
theorem am_back_none {kd : Nat} {k : aK} {pc : Nat} {al : aL} {rest : List aV} : am_back kd k pc al rest none = none := by
  unfold am_back
  split <;> rfl
theorem am_back_ok {kd : Nat} {rest : List aV} {rr : aR} (hk : am_HK p l e R s m args below meth c C (am_ml j) ce sl Q r k) (hro : am_okO rr.1) (h : am_back kd k pc al rest (some rr) = some r) (hal : am_wl al) (hst : am_wk rest) (H : Heap) (locs : List Loc) (ls : Array Slot) (hl : am_lh C ls (am_ml j) al) (hP : va_P C.2.1 vwCl (am_ws C rr.2) H) (hS : va_S (am_A C) s.heap H locs) : W p l e R s m args below meth c H locs ce sl Q (F0 m (pc + 3) ls ((rr.1.map (am_cv C)).toList ++ rest.map (am_cv C))) := by
  obtain ⟨rv, M2⟩ := rr
  unfold am_back at h
  split at h
  · unfold am_bi at h
    split at h
    · rename_i hq
      cases hq
      exact hk _ _ _ _ h hal (am_wk_c trivial hst) H locs ls hl hP hS
    · cases h
  · unfold am_bl at h
    split at h
    · rename_i hq
      cases hq
      exact hk _ _ _ _ h hal (am_wk_c trivial hst) H locs ls hl hP hS
    · cases h
  · unfold am_br at h
    split at h
    · rename_i hq
      cases hq
      split at h
      · rename_i e1 e2
        have e1 := am_beq e1
        have e2 := am_beq e2
        subst e1
        subst e2
        exact hk _ _ _ _ h hal (am_wk_c (hro _ rfl) hst) H locs ls hl hP hS
      · cases h
    · cases h
  · unfold am_bv at h
    split at h
    · rename_i hq
      cases hq
      exact hk _ _ _ _ h hal hst H locs ls hl hP hS
    · cases h
theorem am_pop_ok : ∀ (n : Nat) (acc st as r : List aV), am_pop n acc st = some (as, r) → as.length = n + acc.length ∧ as.reverse ++ r = acc.reverse ++ st
  | 0, acc, st, as, r, h => by
    unfold am_pop at h
    cases h
    exact ⟨by omega, rfl⟩
  | n + 1, acc, [], as, r, h => by
    unfold am_pop at h
    cases h
  | n + 1, acc, v :: st, as, r, h => by
    unfold am_pop at h
    obtain ⟨h1, h2⟩ := am_pop_ok n (v :: acc) st as r h
    refine ⟨by simp at h1; omega, ?_⟩
    rw [h2]
    simp
theorem am_wd_cv (C : aC) : ∀ (st : List aV), ((st.map (am_cv C)).map fun v => v.category).sum = am_wd st
  | [] => rfl
  | .inl x :: r => by
    show 1 + ((r.map (am_cv C)).map fun v => v.category).sum = 1 + am_wd r
    rw [am_wd_cv C r]
  | .inr (.inl x) :: r => by
    show 2 + ((r.map (am_cv C)).map fun v => v.category).sum = 2 + am_wd r
    rw [am_wd_cv C r]
  | .inr (.inr q) :: r => by
    show 1 + ((r.map (am_cv C)).map fun v => v.category).sum = 1 + am_wd r
    rw [am_wd_cv C r]
theorem am_wk_app {a b : List aV} (h : am_wk (a ++ b)) : am_wk a ∧ am_wk b := ⟨fun v hv => h v (List.mem_append_left _ hv), fun v hv => h v (List.mem_append_right _ hv)⟩
theorem am_wk_rev {a : List aV} (h : am_wk a.reverse) : am_wk a := fun v hv => h v (List.mem_reverse.mpr hv)
/-- what the tables say of a callee -/
theorem am_okj {j : Nat} (h : am_ss j < 2) : am_okm (am_me j) = true := by
  have h0 := am_me_ok j
  unfold am_okq at h0
  simp only [Bool.or_eq_true] at h0
  rcases h0 with h0 | h0
  · have := am_beq h0
    unfold am_ss at h
    omega
  · exact h0
theorem am_okj_all {j : Nat} (h : am_ss j < 2) : am_cwo (am_me j).2.2.2.1 = some (am_cw j) ∧ plainName (am_y j).cls = true ∧ am_on (am_ow j) = (am_y j).cls ∧ Cond.initialized (am_y j).cls ∈ am_g ∧ ((am_y j).cls ≠ "java/lang/invoke/MethodHandle" ∧ (am_y j).cls ≠ "java/lang/invoke/VarHandle") ∧ (parseMethodDescriptor (am_y j).desc).map (fun d => d.parameters.length) = some (am_np j) ∧ am_ml j ≤ 21 ∧ Cond.code (am_y j) (am_b j) (am_ml j) (am_rt j) ∈ am_g ∧ (am_ss j = 0 → Cond.instanceMethod (am_y j) ∈ am_g ∧ Cond.selects (am_y j).cls (am_y j) (am_y j) ∈ am_g) ∧ (am_ss j = 1 → Cond.static (am_y j) ∈ am_g) := by
  have h0 := am_okj h
  unfold am_okm at h0
  split at h0
  · rename_i y b n r hc
    have ecw : am_cw j = (y, b, n, r) := by unfold am_cw; rw [hc]; rfl
    have ey : am_y j = y := by unfold am_y; rw [ecw]
    have eb : am_b j = b := by unfold am_b; rw [ecw]
    have en : am_ml j = n := by unfold am_ml; rw [ecw]
    have er : am_rt j = r := by unfold am_rt; rw [ecw]
    rw [ey, eb, en, er, ecw]
    simp only [Bool.and_eq_true, decide_eq_true_eq] at h0
    obtain ⟨⟨⟨⟨⟨⟨h1, h2⟩, h3⟩, h4⟩, h5⟩, h6⟩, h7⟩ := h0
    have hcode : am_at (am_me j).2.2.2.1 = some (.code y b n r) := by
      unfold am_cwo at hc
      split at hc
      · rename_i hq
        cases hc
        exact hq
      · cases hc
    refine ⟨hc, h1, h2, am_gat h3 rfl, h4, h5, Nat.le_of_ble_eq_true h6, am_gat hcode rfl, fun q => ?_, fun q => ?_⟩
    · have q : (am_me j).2.1 = 0 := q
      rw [q] at h7
      simp only [Bool.and_eq_true, decide_eq_true_eq] at h7
      exact ⟨am_gat h7.1 rfl, am_gat h7.2 rfl⟩
    · have q : (am_me j).2.1 = 1 := q
      rw [q] at h7
      simp only [decide_eq_true_eq] at h7
      exact am_gat h7 rfl
  · cases h0
theorem am_goodU {j : Nat} (h : am_ss j < 2) : GoodIn am_g (am_wsU j) := by
  intro w hw
  unfold am_wsU at hw
  rcases List.mem_cons.mp hw with e | e
  · subst e
    have := (am_okj_all h).2.2.2.2.2.2.2.1
    exact ⟨this, am_ggood this⟩
  · exact ⟨e, am_ggood e⟩
theorem am_pn_lo {j : Nat} (h : j < 9000) : am_pn j = am_y j := by
  unfold am_pn
  split
  · omega
  · omega
  · omega
  · omega
  · rfl
theorem am_callB {s : State} {args : Array Value} {o i j2 d2 : Nat} {R : Room} {d : Nat} (hts : ∀ w ∈ am_g, w.before args s = true) (hlk : Cond.methodLink (am_on o) i (am_y j2) ∈ am_g) (hss : am_ss j2 < 2) (hd : d2 + 1 ≤ d) (hR : d ≤ R.frames ∧ 40 * d ≤ R.locals) : CallB R s args (am_on o) i (am_y j2) (am_b j2) (am_ml j2) (am_rt j2) (am_wsU j2) (am_rm d2) 0 0 (am_np j2) := by
  obtain ⟨-, -, -, h4, h5, h6, h7, h8, -, -⟩ := am_okj_all hss
  exact callB_of (am_np j2) hts (am_goodU hss) rfl rfl rfl (hts _ h4) (hts _ hlk) ⟨h5.1, h5.2, h6⟩ ⟨show d2 + 1 ≤ R.frames by omega, show 8 + (am_ml j2 + 11) + 40 * d2 ≤ R.locals by omega⟩
set_option maxRecDepth 100000 in
theorem am_on_cl : (List.range 12).all (fun kd => decide (am_on kd = (am_cl kd).1)) = true := by decide +kernel
set_option maxRecDepth 100000 in
theorem am_on_str : (List.range 400).all (fun j => !(Nat.beq (am_rk j) 60) || decide (am_on (am_ow j) = "java/lang/String")) = true := by decide +kernel
theorem am_on_s {j : Nat} (h : am_rk j = 60) : am_on (am_ow j) = "java/lang/String" := by
  by_cases hj : j < 400
  · have h0 := List.all_eq_true.mp am_on_str j (List.mem_range.mpr hj)
    rw [h] at h0
    simpa using h0
  · exfalso
    have e : am_me j = (0, 2, 0, 0, 0, 0, 0) := by
      unfold am_me
      rw [List.getD_eq_getElem?_getD, List.getElem?_eq_none]
      · rfl
      · have : am_mt.length = 346 := by decide +kernel
        omega
    unfold am_rk am_ow at h
    rw [e] at h
    exact absurd h (by decide)
theorem am_rk_lo {j : Nat} (h : am_rk j ≠ 60) : am_rk j = am_ow j := by
  unfold am_rk at h ⊢
  split
  · rename_i q
    rw [if_pos q] at h
    exact absurd rfl h
  · rfl
theorem am_str_ad {a : Nat} (h : am_wkb 60 a = true) : ∃ i, i < am_nS ∧ a = 5000 + i := by
  unfold am_wkb at h
  simp only [Bool.or_eq_true, Bool.and_eq_true] at h
  rcases h with ((h | h) | h) | h
  · exfalso
    have h1 := am_clo_k (am_blt h.1)
    have h2 := am_beq h.2
    rw [h2] at h1
    exact absurd (h1.1.mpr (by decide)) (by decide)
  · have h1 := Nat.le_of_ble_eq_true h.1.2
    have h2 := am_blt h.2
    exact ⟨a - 5000, by omega, by omega⟩
  · exact absurd (am_beq h.1) (by decide)
  · exact absurd (am_beq h.1) (by decide)
/-- a receiver of the callee's kind -/
theorem am_rcv {H : Heap} {locs : List Loc} {kq a j2 : Nat} (F : am_F X p R s m args c C j d ce sl) (hP : va_P C.2.1 vwCl (am_ws C M) H) (hS : va_S (am_A C) s.heap H locs) (hok : am_wkb kq a = true) (hkq : kq = am_rk j2) (hss : am_ss j2 < 2) (hlt : am_ow j2 < 12 ∨ am_rk j2 = 60) : ∃ cellB : Cell, H[am_ad C a]? = some cellB ∧ cellB.vm.isStatics = false ∧ s.vm.findClass (am_y j2).cls = some cellB.cls := by
  obtain ⟨-, -, h3, -⟩ := am_okj_all hss
  rw [← h3]
  by_cases h60 : am_rk j2 = 60
  · rw [am_on_s h60]
    rw [hkq, h60] at hok
    obtain ⟨i, hi, rfl⟩ := am_str_ad hok
    exact vk_recv (adK := fun i => am_ad C (5000 + i)) F.2.2.2.2.2.1.2.2.1 hi hS
  · have e := am_rk_lo h60
    have h12 : am_ow j2 < 12 := hlt.resolve_right h60
    obtain ⟨haN, hsh⟩ := am_wk_lo hok (by omega)
    rw [of_decide_eq_true (List.all_eq_true.mp am_on_cl (am_ow j2) (List.mem_range.mpr h12))]
    exact va_recv F.2.2.2.2.2.1.1 hP (am_cl_at _ h12) (q0 := a) (fs := am_fs C M a) (by rw [am_ws_get C M haN, am_ce_o (show am_sh a = am_ow j2 by omega) (by omega)])

theorem am_o_invokevirtual (hs : ∀ j2 : Nat, ∃ d2 : Nat, d2 + 1 ≤ d ∧ am_Snd d2 j2 (sem j2)) {i : Nat} (hch : am_lkM.any (fun q => Nat.beq q.1 (am_ow j) && Nat.beq q.2.1 i && Nat.beq q.2.2.1 a1) = true) (h9 : a1 < 9000) (hvl : am_ow a1 < 12 ∨ am_rk a1 = 60) (hss0 : am_ss a1 = 0) (hnp : am_np a1 = a2 / 10 % 100) (hrk : am_rk a1 = a2 / 1000) (F : am_F X p R s m args c C j d ce sl) (hk : am_HK p l e R s m args below meth c C (am_ml j) ce sl Q r k) (hdg : decode (am_b j) pc = .ok (.invokevirtual i, 3)) (h : am_iv sem a1 a2 k pc al st M = some r) : am_Wd p l e R s m args below meth c C (am_ml j) ce sl Q pc al st M := by
  intro hal hst H locs ls hl hP hS
  have hlk := am_lkM_use hch
  rw [am_pn_lo h9] at hlk
  unfold am_iv at h
  split at h
  · rename_i kq a as rest hpop
    split at h
    · rename_i hb1 hb3
      obtain ⟨hlen, heq⟩ := am_pop_ok _ _ _ _ _ hpop
      simp only [List.reverse_nil, List.nil_append, List.reverse_cons] at heq
      have hwd := Nat.le_of_ble_eq_true hb3
      have hkq : kq = am_rk a1 := (am_beq hb1).trans hrk.symm
      have hss : am_ss a1 < 2 := by omega
      rw [← heq] at hst
      obtain ⟨hst1, hst2⟩ := am_wk_app hst
      have hasw : am_wk (.inr (.inr (kq, a)) :: as) := am_wk_rev (by simpa using hst1)
      have hok : am_wkb kq a = true := am_wk_h hasw
      cases hsem : sem a1 (.inr (.inr (kq, a)) :: as) M with
      | none => rw [hsem] at h; exact absurd h (by simp [am_back_none])
      | some rr =>
        rw [hsem] at h
        obtain ⟨d2, hd2, hsnd⟩ := hs a1
        have hmet := hsnd _ _ _ hasw hsem
        obtain ⟨-, -, -, -, -, -, -, -, hvi, -⟩ := am_okj_all hss
        have hcb := am_callB (R := R) F.2.2.2.2.1 hlk hss hd2 ⟨F.2.2.2.2.2.2.1.1, F.2.2.2.2.2.2.1.2.1⟩
        have hst0 : st.map (am_cv C) = (as.map (am_cv C)).reverse ++ .ref (am_ad C a) :: rest.map (am_cv C) := by
          rw [← heq]
          simp [am_cv]
        rw [hst0]
        exact am_callW (va_runV (As := as.map (am_cv C)) (rest := rest.map (am_cv C)) (b := am_ad C a) (C := (am_y a1).cls) ⟨F.1, F.2.1, F.2.2.1, F.2.2.2.1, F.2.2.2.2.1⟩ (hmet l C) ⟨hcb, F.2.2.2.2.1 _ (hvi hss0).1, F.2.2.2.2.1 _ (hvi hss0).2⟩ ⟨am_Pc_blind C _ M, am_rcv F hP hS hok hkq hss hvl, fun U hU hW => ⟨by simp [am_cv], F.2.2.2.2.2.1.warm hW (by rw [hU]; exact hS.2.1), by rw [hU]; exact hP⟩⟩ rfl (by simp at hlen ⊢; omega) hl.1 rfl (lv_room (by rw [am_wd_cv]; exact hwd)) hdg ⟨by have := F.2.2.2.2.2.2.1.2.2.1; omega, by have := F.2.2.2.2.2.2.1.2.2.2; omega⟩) hS (fun hro H1 locs1 hP1 hS1 => am_back_ok hk hro h hal hst2 H1 locs1 ls hl hP1 hS1)
    · cases h
  · cases h
theorem am_o_invokestatic (hs : ∀ j2 : Nat, ∃ d2 : Nat, d2 + 1 ≤ d ∧ am_Snd d2 j2 (sem j2)) {i : Nat} (hch : am_lkM.any (fun q => Nat.beq q.1 (am_ow j) && Nat.beq q.2.1 i && Nat.beq q.2.2.1 a1) = true) (h9 : a1 < 9000) (hss0 : am_ss a1 = 1) {x : Nat} (hnp : am_np a1 = x / 10) (F : am_F X p R s m args c C j d ce sl) (hk : am_HK p l e R s m args below meth c C (am_ml j) ce sl Q r k) (hdg : decode (am_b j) pc = .ok (.invokestatic i, 3)) (h : am_iS sem a1 x k pc al st M = some r) : am_Wd p l e R s m args below meth c C (am_ml j) ce sl Q pc al st M := by
  intro hal hst H locs ls hl hP hS
  have hlk := am_lkM_use hch
  rw [am_pn_lo h9] at hlk
  unfold am_iS at h
  split at h
  · rename_i as rest hpop
    split at h
    · rename_i hb3
      obtain ⟨hlen, heq⟩ := am_pop_ok _ _ _ _ _ hpop
      simp only [List.reverse_nil, List.nil_append] at heq
      have hwd := Nat.le_of_ble_eq_true hb3
      have hss : am_ss a1 < 2 := by omega
      rw [← heq] at hst
      obtain ⟨hst1, hst2⟩ := am_wk_app hst
      have hasw : am_wk as := am_wk_rev hst1
      cases hsem : sem a1 as M with
      | none => rw [hsem] at h; exact absurd h (by simp [am_back_none])
      | some rr =>
        rw [hsem] at h
        obtain ⟨d2, hd2, hsnd⟩ := hs a1
        have hmet := hsnd _ _ _ hasw hsem
        obtain ⟨-, -, -, -, -, -, -, -, -, hvi⟩ := am_okj_all hss
        have hcb := am_callB (R := R) F.2.2.2.2.1 hlk hss hd2 ⟨F.2.2.2.2.2.2.1.1, F.2.2.2.2.2.2.1.2.1⟩
        have hst0 : st.map (am_cv C) = (as.map (am_cv C)).reverse ++ rest.map (am_cv C) := by
          rw [← heq]
          simp
        rw [hst0]
        exact am_callW (va_runS (As := as.map (am_cv C)) (rest := rest.map (am_cv C)) ⟨F.1, F.2.1, F.2.2.1, F.2.2.2.1, F.2.2.2.2.1⟩ (hmet l C) ⟨hcb, F.2.2.2.2.1 _ (hvi hss0)⟩ ⟨am_Pc_blind C _ M, fun U hU hW => ⟨rfl, F.2.2.2.2.2.1.warm hW (by rw [hU]; exact hS.2.1), by rw [hU]; exact hP⟩⟩ rfl (by simp at hlen ⊢; omega) hl.1 rfl (lv_room (by rw [am_wd_cv]; exact hwd)) hdg ⟨by have := F.2.2.2.2.2.2.1.2.2.1; omega, by have := F.2.2.2.2.2.2.1.2.2.2; omega⟩) hS (fun hro H1 locs1 hP1 hS1 => am_back_ok hk hro h hal hst2 H1 locs1 ls hl hP1 hS1)
    · cases h
  · cases h
set_option maxRecDepth 100000 in
theorem am_lib0 : decide (am_at 3128 = some (.native arraycopyName)) && decide (am_at 3127 = some (.static arraycopyName)) && decide (am_at 1018 = some (.initialized "java/lang/System")) && decide (am_at 1013 = some (.initialized "java/lang/Math")) = true := by decide +kernel
theorem am_libc : Cond.native arraycopyName ∈ am_g ∧ Cond.static arraycopyName ∈ am_g ∧ Cond.initialized "java/lang/System" ∈ am_g ∧ Cond.initialized "java/lang/Math" ∈ am_g := by
  have h := am_lib0
  simp only [Bool.and_eq_true, decide_eq_true_eq] at h
  exact ⟨am_gat h.1.1.1 rfl, am_gat h.1.1.2 rfl, am_gat h.1.2 rfl, am_gat h.2 rfl⟩
set_option maxRecDepth 100000 in
theorem am_math_min : Cond.static Lib.Math.min.name ∈ am_g ∧ Cond.code Lib.Math.min.name Lib.Math.min.code 2 (some .int) ∈ am_g := by
  have h : decide (am_at 3016 = some (.static Lib.Math.min.name)) && decide (am_at 3017 = some (.code Lib.Math.min.name Lib.Math.min.code 2 (some .int))) = true := by decide +kernel
  simp only [Bool.and_eq_true, decide_eq_true_eq] at h
  exact ⟨am_gat h.1 rfl, am_gat h.2 rfl⟩
set_option maxRecDepth 100000 in
theorem am_math_max : Cond.static Lib.Math.max.name ∈ am_g ∧ Cond.code Lib.Math.max.name Lib.Math.max.code 2 (some .int) ∈ am_g := by
  have h : decide (am_at 8193 = some (.static Lib.Math.max.name)) && decide (am_at 8194 = some (.code Lib.Math.max.name Lib.Math.max.code 2 (some .int))) = true := by decide +kernel
  simp only [Bool.and_eq_true, decide_eq_true_eq] at h
  exact ⟨am_gat h.1 rfl, am_gat h.2 rfl⟩
set_option maxRecDepth 100000 in
theorem am_math_abs : Cond.static Lib.MathLoose.abs_long.x ∈ am_g ∧ Cond.code Lib.MathLoose.abs_long.x Lib.MathLoose.abs_long.code 2 (some .long) ∈ am_g := by
  have h : decide (am_at 5112 = some (.static Lib.MathLoose.abs_long.x)) && decide (am_at 5113 = some (.code Lib.MathLoose.abs_long.x Lib.MathLoose.abs_long.code 2 (some .long))) = true := by decide +kernel
  simp only [Bool.and_eq_true, decide_eq_true_eq] at h
  exact ⟨am_gat h.1 rfl, am_gat h.2 rfl⟩
theorem am_o_mmin (hd : 1 ≤ d) {i : Nat} (hch : am_lkM.any (fun q => Nat.beq q.1 (am_ow j) && Nat.beq q.2.1 i && Nat.beq q.2.2.1 9001) = true) (F : am_F X p R s m args c C j d ce sl) (hk : am_HK p l e R s m args below meth c C (am_ml j) ce sl Q r k) (hdg : decode (am_b j) pc = .ok (.invokestatic i, 3)) (h : am_mn k pc al st M = some r) : am_Wd p l e R s m args below meth c C (am_ml j) ce sl Q pc al st M := by
  intro hal hst H locs ls hl hP hS
  have hlk := am_lkM_use hch
  unfold am_mn at h
  split at h
  · split at h
    · rename_i hb
      have hwd := Nat.le_of_ble_eq_true hb
      have hR := F.2.2.2.2.2.2.1
      exact va_mmin F.1 F.2.1 (F.2.2.1.trans hl.1.symm) F.2.2.2.1 (F.2.2.2.2.1 _ hlk) (F.2.2.2.2.1 _ am_math_min.1) (F.2.2.2.2.1 _ am_libc.2.2.2) (F.2.2.2.2.1 _ am_math_min.2) (by omega) (by rw [am_wd_cv]; omega) hR.2.2.1 hR.2.2.2 hdg (hk _ _ _ _ h hal (am_wk_c trivial (am_wk_t (am_wk_t hst))) H locs ls hl hP hS)
    · cases h
  · cases h
theorem am_o_mmax (hd : 1 ≤ d) {i : Nat} (hch : am_lkM.any (fun q => Nat.beq q.1 (am_ow j) && Nat.beq q.2.1 i && Nat.beq q.2.2.1 9002) = true) (F : am_F X p R s m args c C j d ce sl) (hk : am_HK p l e R s m args below meth c C (am_ml j) ce sl Q r k) (hdg : decode (am_b j) pc = .ok (.invokestatic i, 3)) (h : am_mx k pc al st M = some r) : am_Wd p l e R s m args below meth c C (am_ml j) ce sl Q pc al st M := by
  intro hal hst H locs ls hl hP hS
  have hlk := am_lkM_use hch
  unfold am_mx at h
  split at h
  · split at h
    · rename_i hb
      have hwd := Nat.le_of_ble_eq_true hb
      have hR := F.2.2.2.2.2.2.1
      exact va_mmax F.1 F.2.1 (F.2.2.1.trans hl.1.symm) F.2.2.2.1 (F.2.2.2.2.1 _ hlk) (F.2.2.2.2.1 _ am_math_max.1) (F.2.2.2.2.1 _ am_libc.2.2.2) (F.2.2.2.2.1 _ am_math_max.2) (by omega) (by rw [am_wd_cv]; omega) hR.2.2.1 hR.2.2.2 hdg (hk _ _ _ _ h hal (am_wk_c trivial (am_wk_t (am_wk_t hst))) H locs ls hl hP hS)
    · cases h
  · cases h
theorem am_o_mabs (hd : 1 ≤ d) {i : Nat} (hch : am_lkM.any (fun q => Nat.beq q.1 (am_ow j) && Nat.beq q.2.1 i && Nat.beq q.2.2.1 9003) = true) (F : am_F X p R s m args c C j d ce sl) (hk : am_HK p l e R s m args below meth c C (am_ml j) ce sl Q r k) (hdg : decode (am_b j) pc = .ok (.invokestatic i, 3)) (h : am_ab k pc al st M = some r) : am_Wd p l e R s m args below meth c C (am_ml j) ce sl Q pc al st M := by
  intro hal hst H locs ls hl hP hS
  have hlk := am_lkM_use hch
  unfold am_ab at h
  split at h
  · split at h
    · rename_i hb
      have hwd := Nat.le_of_ble_eq_true hb
      have hR := F.2.2.2.2.2.2.1
      exact va_mabs_long F.1 F.2.1 (F.2.2.1.trans hl.1.symm) F.2.2.2.1 (F.2.2.2.2.1 _ hlk) (F.2.2.2.2.1 _ am_math_abs.1) (F.2.2.2.2.1 _ am_libc.2.2.2) (F.2.2.2.2.1 _ am_math_abs.2) (by omega) (by rw [am_wd_cv]; omega) hR.2.2.1 hR.2.2.2 hdg (hk _ _ _ _ h hal (am_wk_c trivial (am_wk_t hst)) H locs ls hl hP hS)
    · cases h
  · cases h
theorem am_o_arraycopy (hd : 1 ≤ d) {i : Nat} (hch : am_lkM.any (fun q => Nat.beq q.1 (am_ow j) && Nat.beq q.2.1 i && Nat.beq q.2.2.1 9999) = true) (F : am_F X p R s m args c C j d ce sl) (hk : am_HK p l e R s m args below meth c C (am_ml j) ce sl Q r k) (hdg : decode (am_b j) pc = .ok (.invokestatic i, 3)) (h : am_cpi k pc al st M = some r) : am_Wd p l e R s m args below meth c C (am_ml j) ce sl Q pc al st M := by
  intro hal hst H locs ls hl hP hS
  have hlk := am_lkM_use hch
  unfold am_cpi at h
  split at h
  · rename_i n dp k1 a sp k0 b rest
    split at h
    · rename_i l0 c0 e0 f0 d0 l1 c1 e1 f1 d1 har0 har1 hb
      split at h
      · rename_i hcp
        have hwd := Nat.le_of_ble_eq_true hb
        have hR := F.2.2.2.2.2.2.1
        have hok1 : am_wkb k1 a = true := am_wk_h (am_wk_t (am_wk_t hst))
        have hok0 : am_wkb k0 b = true := am_wk_h (am_wk_t (am_wk_t (am_wk_t (am_wk_t hst))))
        obtain ⟨haN1, hsh1, hws1, hci1, -⟩ := am_arr (C := C) (M := M) hok1 har1 (by simp)
        obtain ⟨haN0, hsh0, hws0, hci0, -⟩ := am_arr (C := C) (M := M) hok0 har0 (by simp)
        have hci1 : c1 = 0 := hci1 (by simp)
        have hci0 : c0 = 0 := hci0 (by simp)
        subst hci1
        subst hci0
        unfold am_cpOk at hcp
        simp only [Bool.and_eq_true, Bool.not_eq_true', decide_eq_false_iff_not] at hcp
        obtain ⟨⟨⟨⟨c1, c2⟩, c3⟩, c4⟩, c5⟩ := hcp
        refine va_copyi F.1 F.2.1 (F.2.2.1.trans hl.1.symm) F.2.2.2.1 (F.2.2.2.2.1 _ hlk) (F.2.2.2.2.1 _ am_libc.1) (F.2.2.2.2.1 _ am_libc.2.1) (F.2.2.2.2.1 _ am_libc.2.2.1) F.2.2.2.2.2.1.1 hP (am_wD C M) hS b a 0 0 hws0 hws1 rfl rfl rfl c1 c2 c3 (Nat.le_of_ble_eq_true c4) (Nat.le_of_ble_eq_true c5) (fun _ _ => rfl) (by omega) (by rw [am_wd_cv]; show _ + (7 + 11) ≤ _; omega) hdg (fun H1 locs1 hP1 hD1 hS1 => ?_)
        refine hk _ _ _ _ h hal (am_wk_t (am_wk_t (am_wk_t (am_wk_t (am_wk_t hst))))) H1 locs1 ls hl ?_ hS1
        rw [← am_ws_set C (M := M) (M' := (am_ua M.1 a (va_cpy (M.1 b) (M.1 a) sp.toNatClampNeg dp.toNatClampNeg n.toNatClampNeg), M.2)) haN1 (fun b hb hne => am_ce_same (am_ua_ne hne) rfl), am_ce_a haN1 hsh1 har1 (by simp)]
        unfold am_ac
        dsimp only
        rw [am_ua_eq]
        exact hP1
      · cases h
    · rename_i l0 c0 e0 f0 d0 l1 c1 e1 f1 d1 har0 har1 hb
      split at h
      · rename_i hcp
        have hwd := Nat.le_of_ble_eq_true hb
        have hR := F.2.2.2.2.2.2.1
        have hok1 : am_wkb k1 a = true := am_wk_h (am_wk_t (am_wk_t hst))
        have hok0 : am_wkb k0 b = true := am_wk_h (am_wk_t (am_wk_t (am_wk_t (am_wk_t hst))))
        obtain ⟨haN1, hsh1, hws1, hci1, -⟩ := am_arr (C := C) (M := M) hok1 har1 (by simp)
        obtain ⟨haN0, hsh0, hws0, hci0, -⟩ := am_arr (C := C) (M := M) hok0 har0 (by simp)
        have hci1 : c1 = 3 := hci1 (by simp)
        have hci0 : c0 = 3 := hci0 (by simp)
        subst hci1
        subst hci0
        unfold am_cpOk at hcp
        simp only [Bool.and_eq_true, Bool.not_eq_true', decide_eq_false_iff_not] at hcp
        obtain ⟨⟨⟨⟨c1, c2⟩, c3⟩, c4⟩, c5⟩ := hcp
        refine va_copyl F.1 F.2.1 (F.2.2.1.trans hl.1.symm) F.2.2.2.1 (F.2.2.2.2.1 _ hlk) (F.2.2.2.2.1 _ am_libc.1) (F.2.2.2.2.1 _ am_libc.2.1) (F.2.2.2.2.1 _ am_libc.2.2.1) F.2.2.2.2.2.1.1 hP (am_wD C M) hS b a 3 3 hws0 hws1 rfl rfl rfl c1 c2 c3 (Nat.le_of_ble_eq_true c4) (Nat.le_of_ble_eq_true c5) (fun _ _ => rfl) (by omega) (by rw [am_wd_cv]; show _ + (7 + 11) ≤ _; omega) hdg (fun H1 locs1 hP1 hD1 hS1 => ?_)
        refine hk _ _ _ _ h hal (am_wk_t (am_wk_t (am_wk_t (am_wk_t (am_wk_t hst))))) H1 locs1 ls hl ?_ hS1
        rw [← am_ws_set C (M := M) (M' := (M.1, am_ua M.2 a (va_cpy (M.2 b) (M.2 a) sp.toNatClampNeg dp.toNatClampNeg n.toNatClampNeg))) haN1 (fun b hb hne => am_ce_same rfl (am_ua_ne hne)), am_ce_a haN1 hsh1 har1 (by simp)]
        unfold am_ac
        dsimp only
        rw [am_ua_eq]
        exact hP1
      · cases h
    · cases h
  · cases h
end AMC
end
section
section AMT
variable {X : Option (Nat × (Nat → Int32))} {sws : List (List (Int32 × Nat) × Nat)} {sem : Nat → List aV → aM → Option aR} {p : Program} {l : Launch} {e : Env} {R : Room} {s : State} {m : MethodId} {args : Array Value} {below : List Frame} {meth : Method} {c : Code} {C : aC} {Q : State → Prop} {j d ce sl rt : Nat} {r : aR} {k : aK} {pc a1 a2 : Nat} {a3 : Int32} {a4 : Int64} {al : aL} {st : List aV} {M : aM}
theorem am_sw_ok (x : Int32) (dt : Nat) : ∀ (q : List (Int32 × Nat)), am_sw k al st M x dt q = some r → (∃ (i : Nat) (c : Int32) (t : Nat), q[i]? = some (c, t) ∧ x = c ∧ k t al st M = some r) ∨ ((∀ (i : Nat) (c : Int32) (t : Nat), q[i]? = some (c, t) → x ≠ c) ∧ k dt al st M = some r)
  | [], h => Or.inr ⟨fun i c t hi => by simp at hi, h⟩
  | (c0, t0) :: q, h => by
    unfold am_sw at h
    split at h
    · rename_i hx
      exact Or.inl ⟨0, c0, t0, rfl, hx, h⟩
    · rename_i hx
      rcases am_sw_ok x dt q h with ⟨i, c, t, h1, h2, h3⟩ | ⟨h1, h2⟩
      · exact Or.inl ⟨i + 1, c, t, h1, h2, h3⟩
      · refine Or.inr ⟨fun i c t hi => ?_, h2⟩
        cases i with
        | zero => cases hi; exact hx
        | succ i => exact h1 i c t hi
theorem am_o_tableswitch {dfl lo hi : Int} {offs : Array Int} {len : Nat} (hch : (decide ((pc : Int) + dfl = ((sws.getD a1 ([], 0)).2 : Int)) && decide (hi + 1 - lo = ((sws.getD a1 ([], 0)).1.length : Int)) && decide (offs.toList.length = (sws.getD a1 ([], 0)).1.length) && (List.range (sws.getD a1 ([], 0)).1.length).all (fun i => decide (((sws.getD a1 ([], 0)).1.getD i (0, 0)).1.toInt = lo + (i : Int)) && decide ((pc : Int) + offs.toList.getD i 0 = (((sws.getD a1 ([], 0)).1.getD i (0, 0)).2 : Int)))) = true)
    (F : am_F X p R s m args c C j d ce sl) (hk : am_HK p l e R s m args below meth c C (am_ml j) ce sl Q r k) (hdg : decode (am_b j) pc = .ok (.tableswitch dfl lo hi offs, len)) (h : (match st with
    | .inl x :: r => am_sw k al r M x (sws.getD a1 ([], 0)).2 (sws.getD a1 ([], 0)).1
    | _ => none) = some r) : am_Wd p l e R s m args below meth c C (am_ml j) ce sl Q pc al st M := by
  intro hal hst H locs ls hl hP hS
  generalize (sws.getD a1 ([], 0)).2 = dt at hch h
  generalize (sws.getD a1 ([], 0)).1 = q at hch h
  simp only [Bool.and_eq_true, decide_eq_true_eq, List.all_eq_true, List.mem_range] at hch
  obtain ⟨⟨⟨h1, h2⟩, h3⟩, h4⟩ := hch
  split at h
  · rename_i x rest
    rcases am_sw_ok x dt q h with ⟨i, cc, t, g1, g2, g3⟩ | ⟨g1, g2⟩
    · have hi := (List.getElem?_eq_some_iff.mp g1).1
      obtain ⟨e1, e2⟩ := h4 i hi
      have eq : q.getD i (0, 0) = (cc, t) := by rw [List.getD_eq_getElem?_getD, g1]; rfl
      rw [eq] at e1 e2
      dsimp only at e1 e2
      rw [← g2] at e1
      have ho : offs[(x.toInt - lo).toNat]? = some (offs.toList.getD i 0) := by
        have e3 : (x.toInt - lo).toNat = i := by omega
        rw [e3, ← Array.getElem?_toList, List.getD_eq_getElem?_getD]
        have hio : i < offs.toList.length := by omega
        rw [List.getElem?_eq_getElem hio]
        rfl
      exact lv_tableIn (tgt := t) F.1 F.2.1 hdg (by omega) (by omega) ho e2 (hk _ _ _ _ g3 hal (am_wk_t hst) H locs ls hl hP hS)
    · refine lv_tableOut (tgt := dt) F.1 F.2.1 hdg ?_ h1 (hk _ _ _ _ g2 hal (am_wk_t hst) H locs ls hl hP hS)
      rcases Int.lt_or_le x.toInt lo with q1 | q1
      · exact Or.inl q1
      · rcases Int.lt_or_le hi x.toInt with q2 | q2
        · exact Or.inr q2
        · exfalso
          have hlt : (x.toInt - lo).toNat < q.length := by omega
          obtain ⟨e1, -⟩ := h4 _ hlt
          have hq : q[(x.toInt - lo).toNat]? = some (q.getD (x.toInt - lo).toNat (0, 0)) := by
            rw [List.getD_eq_getElem?_getD, List.getElem?_eq_getElem hlt]
            rfl
          refine g1 _ (q.getD (x.toInt - lo).toNat (0, 0)).1 (q.getD (x.toInt - lo).toNat (0, 0)).2 hq ?_
          rw [← Int32.toInt_inj, e1]
          omega
  · cases h
/-- returns: handed on to whoever walks the method -/
abbrev am_HR (p : Program) (l : Launch) (e : Env) (R : Room) (s : State) (m : MethodId) (args : Array Value) (below : List Frame) (meth : Method) (c : Code) (C : aC) (j nL ce sl rt : Nat) (Q : State → Prop) (r : aR) : Prop :=
  ∀ (pc : Nat) (al : aL) (st : List aV) (M : aM) (ins : Instr), am_ret rt ins st M = some r → decode (am_b j) pc = .ok (ins, 1) → am_Wd p l e R s m args below meth c C nL ce sl Q pc al st M
theorem am_stp_ok {ins : Instr} {len : Nat} (hs : ∀ j2 : Nat, ∃ d2 : Nat, d2 + 1 ≤ d ∧ am_Snd d2 j2 (sem j2)) (F : am_F X p R s m args c C j d ce sl) (hk : am_HK p l e R s m args below meth c C (am_ml j) ce sl Q r k) (hR : am_HR p l e R s m args below meth c C j (am_ml j) ce sl rt Q r)
    (hdg : decode (am_b j) pc = .ok (ins, len)) (hln : (am_isw ins || Nat.beq len (am_len ins)) = true) (hch : am_chi sws (am_ow j) pc ins a1 a2 a3 a4 = true) (h : am_stp X sws sem rt k ins a1 a2 a3 a4 pc al st M = some r) : am_Wd p l e R s m args below meth c C (am_ml j) ce sl Q pc al st M := by
  have h1d : 1 ≤ d := by
    obtain ⟨d2, h2, -⟩ := hs 0
    omega
  have hl1 : am_isw ins = false → len = am_len ins := by
    intro q
    rw [q, Bool.false_or] at hln
    exact am_beq hln
  cases ins with
  | iadd =>
    have hln := hl1 rfl
    subst hln
    exact am_o_iadd F hk hdg h
  | isub =>
    have hln := hl1 rfl
    subst hln
    exact am_o_isub F hk hdg h
  | imul =>
    have hln := hl1 rfl
    subst hln
    exact am_o_imul F hk hdg h
  | iand =>
    have hln := hl1 rfl
    subst hln
    exact am_o_iand F hk hdg h
  | ior =>
    have hln := hl1 rfl
    subst hln
    exact am_o_ior F hk hdg h
  | ixor =>
    have hln := hl1 rfl
    subst hln
    exact am_o_ixor F hk hdg h
  | ishl =>
    have hln := hl1 rfl
    subst hln
    exact am_o_ishl F hk hdg h
  | ishr =>
    have hln := hl1 rfl
    subst hln
    exact am_o_ishr F hk hdg h
  | iushr =>
    have hln := hl1 rfl
    subst hln
    exact am_o_iushr F hk hdg h
  | ladd =>
    have hln := hl1 rfl
    subst hln
    exact am_o_ladd F hk hdg h
  | lsub =>
    have hln := hl1 rfl
    subst hln
    exact am_o_lsub F hk hdg h
  | lmul =>
    have hln := hl1 rfl
    subst hln
    exact am_o_lmul F hk hdg h
  | land =>
    have hln := hl1 rfl
    subst hln
    exact am_o_land F hk hdg h
  | lor =>
    have hln := hl1 rfl
    subst hln
    exact am_o_lor F hk hdg h
  | lshl =>
    have hln := hl1 rfl
    subst hln
    exact am_o_lshl F hk hdg h
  | lshr =>
    have hln := hl1 rfl
    subst hln
    exact am_o_lshr F hk hdg h
  | idiv =>
    have hln := hl1 rfl
    subst hln
    exact am_o_idiv F hk hdg h
  | irem =>
    have hln := hl1 rfl
    subst hln
    exact am_o_irem F hk hdg h
  | ldiv =>
    have hln := hl1 rfl
    subst hln
    exact am_o_ldiv F hk hdg h
  | lrem =>
    have hln := hl1 rfl
    subst hln
    exact am_o_lrem F hk hdg h
  | ineg =>
    have hln := hl1 rfl
    subst hln
    exact am_o_ineg F hk hdg h
  | i2b =>
    have hln := hl1 rfl
    subst hln
    exact am_o_i2b F hk hdg h
  | i2s =>
    have hln := hl1 rfl
    subst hln
    exact am_o_i2s F hk hdg h
  | i2c =>
    have hln := hl1 rfl
    subst hln
    exact am_o_i2c F hk hdg h
  | lneg =>
    have hln := hl1 rfl
    subst hln
    exact am_o_lneg F hk hdg h
  | i2l =>
    have hln := hl1 rfl
    subst hln
    exact am_o_i2l F hk hdg h
  | l2i =>
    have hln := hl1 rfl
    subst hln
    exact am_o_l2i F hk hdg h
  | lcmp =>
    have hln := hl1 rfl
    subst hln
    exact am_o_lcmp F hk hdg h
  | dup =>
    have hln := hl1 rfl
    subst hln
    exact am_o_dup F hk hdg h
  | dup2 =>
    have hln := hl1 rfl
    subst hln
    exact am_o_dup2 F hk hdg h
  | pop =>
    have hln := hl1 rfl
    subst hln
    exact am_o_pop F hk hdg h
  | iaload =>
    have hln := hl1 rfl
    subst hln
    exact am_o_iaload F hk hdg h
  | baload =>
    have hln := hl1 rfl
    subst hln
    exact am_o_baload F hk hdg h
  | laload =>
    have hln := hl1 rfl
    subst hln
    exact am_o_laload F hk hdg h
  | aaload =>
    have hln := hl1 rfl
    subst hln
    exact am_o_aaload F hk hdg h
  | iastore =>
    have hln := hl1 rfl
    subst hln
    exact am_o_iastore F hk hdg h
  | bastore =>
    have hln := hl1 rfl
    subst hln
    exact am_o_bastore F hk hdg h
  | lastore =>
    have hln := hl1 rfl
    subst hln
    exact am_o_lastore F hk hdg h
  | arraylength =>
    have hln := hl1 rfl
    subst hln
    exact am_o_arraylength F hk hdg h
  | iconst n =>
    have hln := hl1 rfl
    subst hln
    exact am_o_iconst (of_decide_eq_true hch) F hk hdg h
  | bipush n =>
    have hln := hl1 rfl
    subst hln
    exact am_o_bipush (of_decide_eq_true hch) F hk hdg h
  | sipush n =>
    have hln := hl1 rfl
    subst hln
    exact am_o_sipush (of_decide_eq_true hch) F hk hdg h
  | lconst n =>
    have hln := hl1 rfl
    subst hln
    exact am_o_lconst (of_decide_eq_true hch) F hk hdg h
  | ldc i =>
    have hln := hl1 rfl
    subst hln
    match a2, hch, h with
    | 0, hch, h => exact am_o_ldci (am_lkI_use hch) F hk hdg h
    | _ + 1, hch, h => exact am_o_ldcs hch F hk hdg h
  | ldc_w i =>
    have hln := hl1 rfl
    subst hln
    exact am_o_ldcw (am_lkI_use hch) F hk hdg h
  | ldc2_w i =>
    have hln := hl1 rfl
    subst hln
    exact am_o_ldc2 (am_lkL_use hch) F hk hdg h
  | iload_n n =>
    have hln := hl1 rfl
    subst hln
    exact am_o_iload_n hch F hk hdg h
  | iload i =>
    have hln := hl1 rfl
    subst hln
    exact am_o_iload hch F hk hdg h
  | lload_n n =>
    have hln := hl1 rfl
    subst hln
    exact am_o_lload_n hch F hk hdg h
  | lload i =>
    have hln := hl1 rfl
    subst hln
    exact am_o_lload hch F hk hdg h
  | aload_n n =>
    have hln := hl1 rfl
    subst hln
    exact am_o_aload_n hch F hk hdg h
  | aload i =>
    have hln := hl1 rfl
    subst hln
    exact am_o_aload hch F hk hdg h
  | istore_n n =>
    have hln := hl1 rfl
    subst hln
    exact am_o_istore_n hch F hk hdg h
  | istore i =>
    have hln := hl1 rfl
    subst hln
    exact am_o_istore hch F hk hdg h
  | lstore_n n =>
    have hln := hl1 rfl
    subst hln
    exact am_o_lstore_n hch F hk hdg h
  | lstore i =>
    have hln := hl1 rfl
    subst hln
    exact am_o_lstore hch F hk hdg h
  | astore_n n =>
    have hln := hl1 rfl
    subst hln
    exact am_o_astore_n hch F hk hdg h
  | astore i =>
    have hln := hl1 rfl
    subst hln
    exact am_o_astore hch F hk hdg h
  | iinc i n =>
    have hln := hl1 rfl
    subst hln
    simp only [am_chi, Bool.and_eq_true, decide_eq_true_eq] at hch
    exact am_o_iinc hch.1 hch.2 F hk hdg h
  | goto off =>
    have hln := hl1 rfl
    subst hln
    exact am_o_goto (of_decide_eq_true hch) F hk hdg h
  | ifCond cd off =>
    have hln := hl1 rfl
    subst hln
    cases cd with
    | eq => exact am_o_ifeq (of_decide_eq_true hch) F hk hdg h
    | ne => exact am_o_ifne (of_decide_eq_true hch) F hk hdg h
    | lt => exact am_o_iflt (of_decide_eq_true hch) F hk hdg h
    | ge => exact am_o_ifge (of_decide_eq_true hch) F hk hdg h
    | gt => exact am_o_ifgt (of_decide_eq_true hch) F hk hdg h
    | le => exact am_o_ifle (of_decide_eq_true hch) F hk hdg h
  | if_icmp cd off =>
    have hln := hl1 rfl
    subst hln
    cases cd with
    | eq => exact am_o_iceq (of_decide_eq_true hch) F hk hdg h
    | ne => exact am_o_icne (of_decide_eq_true hch) F hk hdg h
    | lt => exact am_o_iclt (of_decide_eq_true hch) F hk hdg h
    | ge => exact am_o_icge (of_decide_eq_true hch) F hk hdg h
    | gt => exact am_o_icgt (of_decide_eq_true hch) F hk hdg h
    | le => exact am_o_icle (of_decide_eq_true hch) F hk hdg h
  | getfield i =>
    have hln := hl1 rfl
    subst hln
    exact am_o_getfield hch F hk hdg h
  | putfield i =>
    have hln := hl1 rfl
    subst hln
    simp only [am_chi, Bool.and_eq_true] at hch
    exact am_o_putfield hch.1 hch.2 F hk hdg h
  | getstatic i =>
    have hln := hl1 rfl
    subst hln
    exact am_o_getstatic hch F hk hdg h
  | invokevirtual i =>
    have hln := hl1 rfl
    subst hln
    simp only [am_chi, Bool.and_eq_true, Bool.or_eq_true] at hch
    exact am_o_invokevirtual hs hch.1.1.1.1.1 (am_blt hch.1.1.1.1.2) (hch.1.1.1.2.imp am_blt am_beq) (am_beq hch.1.1.2) (am_beq hch.1.2) (am_beq hch.2) F hk hdg h
  | invokestatic i =>
    have hln := hl1 rfl
    subst hln
    match a2, hch, h with
    | 0, hch, h => cases h
    | 1, hch, h => exact am_o_arraycopy h1d hch F hk hdg h
    | 2, hch, h => exact am_o_mmin h1d hch F hk hdg h
    | 3, hch, h => exact am_o_mmax h1d hch F hk hdg h
    | 4, hch, h => exact am_o_mabs h1d hch F hk hdg h
    | x + 5, hch, h =>
      simp only [am_chi, Bool.and_eq_true] at hch
      exact am_o_invokestatic hs hch.1.1.1 (am_blt hch.1.1.2) (am_beq hch.1.2) (am_beq hch.2) F hk hdg h
  | tableswitch dfl lo hi offs => exact am_o_tableswitch (a1 := a1) (sws := sws) hch F hk hdg h
  | ireturn =>
    have hln := hl1 rfl
    subst hln
    exact hR _ _ _ _ _ h hdg
  | lreturn =>
    have hln := hl1 rfl
    subst hln
    exact hR _ _ _ _ _ h hdg
  | areturn =>
    have hln := hl1 rfl
    subst hln
    exact hR _ _ _ _ _ h hdg
  | return_ =>
    have hln := hl1 rfl
    subst hln
    exact hR _ _ _ _ _ h hdg
  | _ => exact absurd h (by simp [am_stp, am_ret])
theorem am_fetch_in : ∀ (cd : List am_E) (pc : Nat) (x : Instr × Nat × Nat × Int32 × Int64), am_fetch cd pc = some x → ∃ n, (pc, x.1, n, x.2) ∈ cd
  | [], _, _, h => by simp [am_fetch] at h
  | (q, i, n, y) :: cd, pc, x, h => by
    unfold am_fetch at h
    split at h
    · rename_i hq
      cases h
      rw [← am_beq hq]
      exact ⟨n, List.mem_cons_self⟩
    · obtain ⟨n2, h2⟩ := am_fetch_in cd pc x h
      exact ⟨n2, List.mem_cons_of_mem _ h2⟩
theorem am_keep_ld : ∀ (msk : List Bool) (al : aL) (i : Nat) (v : aV), am_ld (am_keep msk al) i = some v → am_ld al i = some v
  | [], al, i, v, h => by simp [am_keep, am_ld] at h
  | _ :: _, [], i, v, h => by simp [am_keep, am_ld] at h
  | true :: msk, x :: al, 0, v, h => h
  | false :: msk, x :: al, 0, v, h => by simp [am_keep, am_ld] at h
  | true :: msk, x :: al, i + 1, v, h => am_keep_ld msk al i v h
  | false :: msk, x :: al, i + 1, v, h => am_keep_ld msk al i v h
theorem am_keep_len : ∀ (msk : List Bool) (al : aL), msk.length = al.length → (am_keep msk al).length = al.length
  | [], al, h => by simpa [am_keep] using h
  | _ :: _, [], h => by simp at h
  | true :: msk, x :: al, h => by simp [am_keep, am_keep_len msk al (by simpa using h)]
  | false :: msk, x :: al, h => by simp [am_keep, am_keep_len msk al (by simpa using h)]
theorem am_cutf_in : ∀ (cut : List (Nat × List Bool)) (pc : Nat) (msk : List Bool), am_cutf cut pc = some msk → (pc, msk) ∈ cut
  | [], _, _, h => by simp [am_cutf] at h
  | (q, x) :: cut, pc, msk, h => by
    unfold am_cutf at h
    split at h
    · rename_i hq
      cases h
      rw [← am_beq hq]
      exact List.mem_cons_self
    · exact List.mem_cons_of_mem _ (am_cutf_in cut pc msk h)
theorem am_seg_ok {cd : List am_E} {cut : List (Nat × List Bool)} {kap : aK} (hs : ∀ j2 : Nat, ∃ d2 : Nat, d2 + 1 ≤ d ∧ am_Snd d2 j2 (sem j2)) (F : am_F X p R s m args c C j d ce sl) (hR : am_HR p l e R s m args below meth c C j (am_ml j) ce sl rt Q r) (hcd : cd.all (am_chk sws j) = true) (hcut : ∀ q ∈ cut, q.2.length = am_ml j)
    (hkap : am_HK p l e R s m args below meth c C (am_ml j) ce sl Q r kap) : ∀ (n pc : Nat) (al : aL) (st : List aV) (M : aM), am_seg X sws sem rt cd cut kap n pc al st M = some r → am_Wd p l e R s m args below meth c C (am_ml j) ce sl Q pc al st M
  | 0, _, _, _, _, h => by cases h
  | n + 1, pc, al, st, M, h => by
    unfold am_seg at h
    split at h
    · rename_i ins a1 a2 a3 a4 hf
      obtain ⟨len, hin⟩ := am_fetch_in _ _ _ hf
      have hq := List.all_eq_true.mp hcd _ hin
      unfold am_chk at hq
      simp only [Bool.and_eq_true, decide_eq_true_eq] at hq
      refine am_stp_ok (ins := ins) (len := len) (a1 := a1) (a2 := a2) (a3 := a3) (a4 := a4) hs F ?_ hR hq.1.1 hq.1.2 hq.2 h
      intro pc' al' st' M' h'
      dsimp only at h'
      split at h'
      · rename_i msk hc
        intro hal hst H locs ls hl hP hS
        exact hkap _ _ _ _ h' (fun i v hv => hal i v (am_keep_ld msk al' i v hv)) hst H locs ls (am_lh_sub hl (am_keep_len msk al' (by rw [hcut _ (am_cutf_in _ _ _ hc), hl.2.2.1])) (am_keep_ld msk al')) hP hS
      · exact am_seg_ok hs F hR hcd hcut hkap n pc' al' st' M' h'
    · cases h
end AMT
/-! ===== methods ===== -/
/-- from a place of method j on, at depth d, with the answer r: in every world -/
def am_Ev (d j : Nat) (pc : Nat) (al : aL) (st : List aV) (M : aM) (r : aR) : Prop := ∀ (p : Program) (l : Launch) (e : Env) (s : State) (m : MethodId) (args : Array Value) (below : List Frame) (meth : Method) (c : Code) (C : aC), am_F none p (am_rm d) s m args c C j d 0 0 → meth.sig.returnType = am_rt j → meth.locks = false → am_Wd p l e (am_rm d) s m args below meth c C (am_ml j) 0 0 (MQ below (am_Qc C r) args s 0 0 (am_A C)) pc al st M
/-- how a method's answers come back: 0 an int, 1 a boolean, 2 a long, 3 a reference, 4 nothing -/
def am_rtc (j : Nat) : Nat := match am_rt j with
  | some .int => 0
  | some .boolean => 1
  | some .long => 2
  | some (.object _) => 3
  | none => 4
  | _ => 5
theorem am_rt_of {j : Nat} {n : Nat} (h : am_rtc j = n) : (n = 0 → am_rt j = some .int) ∧ (n = 1 → am_rt j = some .boolean) ∧ (n = 2 → am_rt j = some .long) ∧ (n = 3 → ∃ x, am_rt j = some (.object x)) ∧ (n = 4 → am_rt j = none) := by
  subst h
  unfold am_rtc
  cases hq : am_rt j with
  | none => simp
  | some ty => cases ty <;> simp
section AMZ
variable {p : Program} {l : Launch} {e : Env} {R : Room} {s : State} {m : MethodId} {args : Array Value} {below : List Frame} {meth : Method} {c : Code} {H : Heap} {locs : List Loc} {cells slots : Nat}
theorem am_zret {cc : ByteArray} {Qc : Array Value → State → Outcome → State → Prop} {free : Addr → Prop} {v : Int32} (hexec : p.tables.exec = Jvm.exec) (hb : c.code = cc) (hr : meth.sig.returnType = some .boolean)
    (hq : ∀ t : State, t.heap = H → s.WarmedH t.vm → Qc args s (.returned (some (.int (v &&& 1)))) t) (hf : ∀ q ∈ locs, free q.base)
    {pc : Nat} {ls : Array Slot} (hdg : decode cc pc = .ok (.ireturn, 1)) (hlocks : meth.locks = false) : W p l e R s m args below meth c H locs cells slots (MQ below Qc args s cells slots free) (F0 m pc ls [.int v]) := by
  intro T hT X
  obtain ⟨fs, hret, hrun, hended, hW, hframe⟩ := X.leave (v := some (.int (v &&& 1))) (hlocks := hlocks) (fun h => by rw [hr] at h; cases h)
  have hmeth' : T.vm.method? m = some meth := X.method'
  refine ⟨T.setFrames fs, ?_, .returned (some (.int (v &&& 1))), hrun, hended, hq _ hT hW, locs, ⟨⟨_, rfl⟩, hW, hframe⟩, hf⟩
  jvm_step X.here [X.here.top, hexec, hb, hdg, hmeth', hr, narrow]
  (try refine ⟨rfl, ?_⟩); (try refine ⟨rfl, ?_⟩)
  first | (intro acts; rw [hret _ acts rfl rfl rfl]) | rw [hret _ _ rfl rfl rfl]
  exact Steps.refl _
end AMZ
theorem am_okr {v : aV} (h : am_wk [v]) : am_okO (some v) := fun u hu => by cases hu; exact am_wk_h h
theorem am_ret_ok {d j rt : Nat} {p : Program} {l : Launch} {e : Env} {s : State} {m : MethodId} {args : Array Value} {below : List Frame} {meth : Method} {c : Code} {C : aC} {r : aR} (F : am_F none p (am_rm d) s m args c C j d 0 0) (hr : meth.sig.returnType = am_rt j) (hlocks : meth.locks = false) (hrt : am_rtc j = rt) : am_HR p l e (am_rm d) s m args below meth c C j (am_ml j) 0 0 rt (MQ below (am_Qc C r) args s 0 0 (am_A C)) r := by
  intro pc al st M ins h hdg hal hst H locs ls hl hP hS
  obtain ⟨r0, r1, r2, r3, r4⟩ := am_rt_of hrt
  unfold am_ret at h
  split at h
  · split at h
    · cases h
      exact W.iret F.1 F.2.1 (hr.trans (r0 rfl)) (fun t ht hW => ⟨rfl, by rw [ht]; exact hP, hS.F ht, am_okr hst⟩) hS.2.2 hdg hlocks
    · cases h
      exact am_zret F.1 F.2.1 (hr.trans (r1 rfl)) (fun t ht hW => ⟨rfl, by rw [ht]; exact hP, hS.F ht, fun u hu => by cases hu; trivial⟩) hS.2.2 hdg hlocks
    · cases h
  · split at h
    · cases h
      exact W.lret F.1 F.2.1 (hr.trans (r2 rfl)) (fun t ht hW => ⟨rfl, by rw [ht]; exact hP, hS.F ht, am_okr hst⟩) hS.2.2 hdg hlocks
    · cases h
  · split at h
    · cases h
      obtain ⟨x, hx⟩ := r3 rfl
      exact W.aret F.1 F.2.1 (hr.trans hx) (Or.inl ⟨x, rfl⟩) (Or.inr ⟨_, rfl⟩) (fun t ht hW => ⟨rfl, by rw [ht]; exact hP, hS.F ht, am_okr hst⟩) hS.2.2 hdg hlocks
    · cases h
  · split at h
    · cases h
      exact W.vret F.1 F.2.1 (hr.trans (r4 rfl)) (fun t ht hW => ⟨rfl, by rw [ht]; exact hP, hS.F ht, fun u hu => by cases hu⟩) hS.2.2 hdg hlocks
    · cases h
  · cases h
/-- a stretch of a method: to its cuts -/
theorem am_Ev_seg {d j rt : Nat} {sws : List (List (Int32 × Nat) × Nat)} {sem : Nat → List aV → aM → Option aR} {cd : List am_E} {cut : List (Nat × List Bool)} {r : aR} (hs : ∀ j2 : Nat, ∃ d2 : Nat, d2 + 1 ≤ d ∧ am_Snd d2 j2 (sem j2)) (hrt : am_rtc j = rt) (hcd : cd.all (am_chk sws j) = true) (hcut : ∀ q ∈ cut, q.2.length = am_ml j) (kap : aK) (n : Nat) {pc : Nat} {al : aL} {st : List aV} {M : aM}
    (h : am_seg none sws sem rt cd cut kap n pc al st M = some r) (hkap : ∀ (pc : Nat) (al : aL) (st : List aV) (M : aM), kap pc al st M = some r → am_Ev d j pc al st M r) : am_Ev d j pc al st M r := by
  intro p l e s m args below meth c C F hr hlocks
  exact am_seg_ok hs F (am_ret_ok F hr hlocks hrt) hcd hcut (fun pc al st M hk => hkap pc al st M hk p l e s m args below meth c C F hr hlocks) n pc al st M h
/-- the locals with which a method begins -/
def am_lay : List aV → aL
  | [] => []
  | .inr (.inl x) :: r => some (.inr (.inl x)) :: none :: am_lay r
  | v :: r => some v :: am_lay r
def am_pad : Nat → aL → aL
  | 0, _ => []
  | n + 1, [] => none :: am_pad n []
  | n + 1, v :: r => v :: am_pad n r
theorem am_pad_len : ∀ (n : Nat) (al : aL), (am_pad n al).length = n
  | 0, _ => rfl
  | n + 1, [] => by simp [am_pad, am_pad_len n []]
  | n + 1, v :: r => by simp [am_pad, am_pad_len n r]
theorem am_pad_ld : ∀ (n : Nat) (al : aL) (i : Nat) (v : aV), am_ld (am_pad n al) i = some v → am_ld al i = some v
  | 0, _, i, v, h => by simp [am_pad, am_ld] at h
  | n + 1, [], 0, v, h => by simp [am_pad, am_ld] at h
  | n + 1, [], i + 1, v, h => by
    have := am_pad_ld n [] i v h
    simp [am_ld] at this
  | n + 1, x :: r, 0, v, h => h
  | n + 1, x :: r, i + 1, v, h => am_pad_ld n r i v h
theorem am_lay_args (C : aC) : ∀ (as : List aV) (b i : Nat) (v : aV), am_ld (am_lay as) i = some v → (b + i, am_cv C v) ∈ lv_args b (as.map (am_cv C)) ∧ v ∈ as
  | [], b, i, v, h => by simp [am_lay, am_ld] at h
  | .inl x :: r, b, 0, v, h => by
    simp only [am_lay, am_ld, Option.some.injEq] at h
    subst h
    exact ⟨List.mem_cons_self, List.mem_cons_self⟩
  | .inl x :: r, b, i + 1, v, h => by
    obtain ⟨h1, h2⟩ := am_lay_args C r (b + 1) i v h
    refine ⟨List.mem_cons_of_mem _ ?_, List.mem_cons_of_mem _ h2⟩
    rw [show b + (i + 1) = b + 1 + i by omega]
    exact h1
  | .inr (.inr x) :: r, b, 0, v, h => by
    simp only [am_lay, am_ld, Option.some.injEq] at h
    subst h
    exact ⟨List.mem_cons_self, List.mem_cons_self⟩
  | .inr (.inr x) :: r, b, i + 1, v, h => by
    obtain ⟨h1, h2⟩ := am_lay_args C r (b + 1) i v h
    refine ⟨List.mem_cons_of_mem _ ?_, List.mem_cons_of_mem _ h2⟩
    rw [show b + (i + 1) = b + 1 + i by omega]
    exact h1
  | .inr (.inl x) :: r, b, 0, v, h => by
    simp only [am_lay, am_ld, Option.some.injEq] at h
    subst h
    exact ⟨List.mem_cons_self, List.mem_cons_self⟩
  | .inr (.inl x) :: r, b, 1, v, h => by simp [am_lay, am_ld] at h
  | .inr (.inl x) :: r, b, i + 2, v, h => by
    obtain ⟨h1, h2⟩ := am_lay_args C r (b + 2) i v h
    refine ⟨List.mem_cons_of_mem _ ?_, List.mem_cons_of_mem _ h2⟩
    rw [show b + (i + 2) = b + 2 + i by omega]
    exact h1
theorem am_lay_len (C : aC) : ∀ (as : List aV), (lg_sl (as.map (am_cv C))).length = (am_lay as).length
  | [] => rfl
  | .inl x :: r => by
    have := am_lay_len C r
    simp only [lg_sl, List.map_cons, List.flatMap_cons, List.length_append] at this ⊢
    rw [this]
    simp [am_lay, am_cv, Value.category]
    omega
  | .inr (.inr x) :: r => by
    have := am_lay_len C r
    simp only [lg_sl, List.map_cons, List.flatMap_cons, List.length_append] at this ⊢
    rw [this]
    simp [am_lay, am_cv, Value.category]
    omega
  | .inr (.inl x) :: r => by
    have := am_lay_len C r
    simp only [lg_sl, List.map_cons, List.flatMap_cons, List.length_append] at this ⊢
    rw [this]
    simp [am_lay, am_cv, Value.category]
    omega
/-- a method's contract, out of the walk of its body -/
theorem am_meth {d j : Nat} {F : List aV → aM → Option aR} (hss : am_ss j < 2) (hF : ∀ (as : List aV) (M : aM) (r : aR), am_wk as → F as M = some r → (am_lay as).length ≤ am_ml j ∧ am_Ev d j 0 (am_pad (am_ml j) (am_lay as)) [] M r) : am_Snd d j F := by
  intro as M r has h l C
  obtain ⟨h2, h3⟩ := hF as M r has h
  obtain ⟨-, hpl, hon, -⟩ := am_okj_all hss
  refine Met.ofW (cc := am_b j) (maxL := am_ml j) (ret := am_rt j) hpl rfl ?_
  intro p e s m args below meth c s₁ B hml hv
  obtain ⟨rfl, hK, hP⟩ := hv
  have hts := atoms_spec (ws := am_wsU j) B.pre
  have hown : s.vm.findClass (am_y j).cls = some m.cls := findClass_of_methodNamed B.named
  have hl := lv_entry (as.map (am_cv C)) (n := am_ml j) (by rw [am_lay_len]; exact h2)
  rw [lg_entry_eq]
  generalize (lg_sl (as.map (am_cv C)) ++ List.replicate (am_ml j - (lg_sl (as.map (am_cv C))).length) Slot.unset).toArray = ls at hl ⊢
  refine h3 p l e s m _ below meth c C ⟨B.exec, B.bytes, hml, by rw [hon]; exact hown, fun w hw => hts w (List.mem_cons_of_mem _ hw), hK, ⟨Nat.le_refl _, Nat.le_refl _, Nat.le_refl _, Nat.le_refl _⟩, fun n xs q => by cases q⟩ B.returns B.notSynchronized ?_ (fun v hv => by cases hv) s.heap [] ls ?_ hP va_S.rf
  · intro i v hv
    exact has v (am_lay_args C as 0 i v (am_pad_ld _ _ _ _ hv)).2
  · refine ⟨hl.1, hl.2.1, am_pad_len _ _, fun i v hv => ?_⟩
    have := hl.2.2 _ (am_lay_args C as 0 i v (am_pad_ld _ _ _ _ hv)).1
    simpa using this
theorem am_Snd_no (j : Nat) : am_Snd 0 j (fun _ _ => none) := by
  intro as M r _ h
  cases h
/-! what callers know of their callees; where a stretch is cut -/
def am_s0 : Nat → List aV → aM → Option aR := fun _ _ _ => none
def am_sm (q : Nat) (F : List aV → aM → Option aR) (rest : Nat → List aV → aM → Option aR) : Nat → List aV → aM → Option aR := fun j => match Nat.beq j q with
  | true => F
  | false => rest j
theorem am_s0_ok {d : Nat} (h : 1 ≤ d) : ∀ j2 : Nat, ∃ d2 : Nat, d2 + 1 ≤ d ∧ am_Snd d2 j2 (am_s0 j2) := fun j2 => ⟨0, h, am_Snd_no j2⟩
theorem am_sm_ok {d dq q : Nat} {F : List aV → aM → Option aR} {rest : Nat → List aV → aM → Option aR} (hF : am_Snd dq q F) (hd : dq + 1 ≤ d) (hr : ∀ j2 : Nat, ∃ d2 : Nat, d2 + 1 ≤ d ∧ am_Snd d2 j2 (rest j2)) : ∀ j2 : Nat, ∃ d2 : Nat, d2 + 1 ≤ d ∧ am_Snd d2 j2 (am_sm q F rest j2) := by
  intro j2
  unfold am_sm
  split
  · rename_i e
    rw [am_beq e]
    exact ⟨dq, hd, hF⟩
  · exact hr j2
def am_k0 : aK := fun _ _ _ _ => none
def am_kc (q : Nat) (f : aL → List aV → aM → Option aR) (rest : aK) : aK := fun pc al st M => match Nat.beq pc q with
  | true => f al st M
  | false => rest pc al st M
theorem am_k0_ok {d j : Nat} {r : aR} : ∀ (pc : Nat) (al : aL) (st : List aV) (M : aM), am_k0 pc al st M = some r → am_Ev d j pc al st M r := fun _ _ _ _ h => by cases h
theorem am_kc_ok {d j q : Nat} {r : aR} {f : aL → List aV → aM → Option aR} {rest : aK} (hf : ∀ (al : aL) (st : List aV) (M : aM), f al st M = some r → am_Ev d j q al st M r) (hr : ∀ (pc : Nat) (al : aL) (st : List aV) (M : aM), rest pc al st M = some r → am_Ev d j pc al st M r) : ∀ (pc : Nat) (al : aL) (st : List aV) (M : aM), am_kc q f rest pc al st M = some r → am_Ev d j pc al st M r := by
  intro pc al st M h
  unfold am_kc at h
  split at h
  · rename_i e
    rw [am_beq e]
    exact hf al st M h
  · exact hr pc al st M h
end
section
theorem tx_coder_0 : decode (am_b 334) 0 = .ok (.getstatic 38, 3) := by decide +kernel
theorem tx_coder_3 : decode (am_b 334) 3 = .ok (.ifCond .eq 10, 3) := by decide +kernel
theorem tx_coder_6 : decode (am_b 334) 6 = .ok (.aload_n 0, 1) := by decide +kernel
theorem tx_coder_7 : decode (am_b 334) 7 = .ok (.getfield 15, 3) := by decide +kernel
theorem tx_coder_10 : decode (am_b 334) 10 = .ok (.goto 4, 3) := by decide +kernel
theorem tx_coder_13 : decode (am_b 334) 13 = .ok (.iconst 1, 1) := by decide +kernel
theorem tx_coder_14 : decode (am_b 334) 14 = .ok (.ireturn, 1) := by decide +kernel
theorem tx_l_coder : am_ml 334 = 1 := by decide +kernel
theorem tx_r_coder : am_rt 334 = some .byte := by decide +kernel
theorem tx_s_coder : am_ss 334 < 2 := by decide +kernel
theorem tx_n_coder : am_np 334 = 0 := by decide +kernel
theorem tx_lat_0 : decode (am_b 335) 0 = .ok (.getstatic 38, 3) := by decide +kernel
theorem tx_lat_3 : decode (am_b 335) 3 = .ok (.ifCond .eq 14, 3) := by decide +kernel
theorem tx_lat_6 : decode (am_b 335) 6 = .ok (.aload_n 0, 1) := by decide +kernel
theorem tx_lat_7 : decode (am_b 335) 7 = .ok (.getfield 15, 3) := by decide +kernel
theorem tx_lat_10 : decode (am_b 335) 10 = .ok (.ifCond .ne 7, 3) := by decide +kernel
theorem tx_lat_13 : decode (am_b 335) 13 = .ok (.iconst 1, 1) := by decide +kernel
theorem tx_lat_14 : decode (am_b 335) 14 = .ok (.goto 4, 3) := by decide +kernel
theorem tx_lat_17 : decode (am_b 335) 17 = .ok (.iconst 0, 1) := by decide +kernel
theorem tx_lat_18 : decode (am_b 335) 18 = .ok (.ireturn, 1) := by decide +kernel
theorem tx_l_lat : am_ml 335 = 1 := by decide +kernel
theorem tx_r_lat : am_rt 335 = some .boolean := by decide +kernel
theorem tx_s_lat : am_ss 335 < 2 := by decide +kernel
theorem tx_n_lat : am_np 335 = 0 := by decide +kernel
theorem tx_len_0 : decode (am_b 332) 0 = .ok (.aload_n 0, 1) := by decide +kernel
theorem tx_len_1 : decode (am_b 332) 1 = .ok (.getfield 9, 3) := by decide +kernel
theorem tx_len_4 : decode (am_b 332) 4 = .ok (.arraylength, 1) := by decide +kernel
theorem tx_len_5 : decode (am_b 332) 5 = .ok (.aload_n 0, 1) := by decide +kernel
theorem tx_len_6 : decode (am_b 332) 6 = .ok (.invokevirtual 335, 3) := by decide +kernel
theorem tx_len_9 : decode (am_b 332) 9 = .ok (.ishr, 1) := by decide +kernel
theorem tx_len_10 : decode (am_b 332) 10 = .ok (.ireturn, 1) := by decide +kernel
theorem tx_l_len : am_ml 332 = 1 := by decide +kernel
theorem tx_r_len : am_rt 332 = some .int := by decide +kernel
theorem tx_s_len : am_ss 332 < 2 := by decide +kernel
theorem tx_n_len : am_np 332 = 0 := by decide +kernel
theorem tx_ch_0 : decode (am_b 333) 0 = .ok (.aload_n 0, 1) := by decide +kernel
theorem tx_ch_1 : decode (am_b 333) 1 = .ok (.invokevirtual 492, 3) := by decide +kernel
theorem tx_ch_4 : decode (am_b 333) 4 = .ok (.ifCond .eq 12, 3) := by decide +kernel
theorem tx_ch_7 : decode (am_b 333) 7 = .ok (.aload_n 0, 1) := by decide +kernel
theorem tx_ch_8 : decode (am_b 333) 8 = .ok (.getfield 9, 3) := by decide +kernel
theorem tx_ch_11 : decode (am_b 333) 11 = .ok (.iload_n 1, 1) := by decide +kernel
theorem tx_ch_12 : decode (am_b 333) 12 = .ok (.invokestatic 495, 3) := by decide +kernel
theorem tx_ch_15 : decode (am_b 333) 15 = .ok (.ireturn, 1) := by decide +kernel
theorem tx_ch_16 : decode (am_b 333) 16 = .ok (.aload_n 0, 1) := by decide +kernel
theorem tx_ch_17 : decode (am_b 333) 17 = .ok (.getfield 9, 3) := by decide +kernel
theorem tx_ch_20 : decode (am_b 333) 20 = .ok (.iload_n 1, 1) := by decide +kernel
theorem tx_ch_21 : decode (am_b 333) 21 = .ok (.invokestatic 498, 3) := by decide +kernel
theorem tx_ch_24 : decode (am_b 333) 24 = .ok (.ireturn, 1) := by decide +kernel
theorem tx_l_ch : am_ml 333 = 2 := by decide +kernel
theorem tx_r_ch : am_rt 333 = some .char := by decide +kernel
theorem tx_s_ch : am_ss 333 < 2 := by decide +kernel
theorem tx_n_ch : am_np 333 = 1 := by decide +kernel
theorem tx_lc_0 : decode (am_b 337) 0 = .ok (.iload_n 1, 1) := by decide +kernel
theorem tx_lc_1 : decode (am_b 337) 1 = .ok (.aload_n 0, 1) := by decide +kernel
theorem tx_lc_2 : decode (am_b 337) 2 = .ok (.arraylength, 1) := by decide +kernel
theorem tx_lc_3 : decode (am_b 337) 3 = .ok (.invokestatic 9, 3) := by decide +kernel
theorem tx_lc_6 : decode (am_b 337) 6 = .ok (.aload_n 0, 1) := by decide +kernel
theorem tx_lc_7 : decode (am_b 337) 7 = .ok (.iload_n 1, 1) := by decide +kernel
theorem tx_lc_8 : decode (am_b 337) 8 = .ok (.baload, 1) := by decide +kernel
theorem tx_lc_9 : decode (am_b 337) 9 = .ok (.sipush 255, 3) := by decide +kernel
theorem tx_lc_12 : decode (am_b 337) 12 = .ok (.iand, 1) := by decide +kernel
theorem tx_lc_13 : decode (am_b 337) 13 = .ok (.i2c, 1) := by decide +kernel
theorem tx_lc_14 : decode (am_b 337) 14 = .ok (.ireturn, 1) := by decide +kernel
theorem tx_l_lc : am_ml 337 = 2 := by decide +kernel
theorem tx_r_lc : am_rt 337 = some .char := by decide +kernel
theorem tx_s_lc : am_ss 337 < 2 := by decide +kernel
theorem tx_n_lc : am_np 337 = 2 := by decide +kernel
theorem tx_ci_0 : decode (am_b 336) 0 = .ok (.iload_n 0, 1) := by decide +kernel
theorem tx_ci_1 : decode (am_b 336) 1 = .ok (.iload_n 1, 1) := by decide +kernel
theorem tx_ci_2 : decode (am_b 336) 2 = .ok (.getstatic 1053, 3) := by decide +kernel
theorem tx_ci_5 : decode (am_b 336) 5 = .ok (.invokestatic 1059, 3) := by decide +kernel
theorem tx_ci_8 : decode (am_b 336) 8 = .ok (.pop, 1) := by decide +kernel
theorem tx_ci_9 : decode (am_b 336) 9 = .ok (.return_, 1) := by decide +kernel
theorem tx_l_ci : am_ml 336 = 2 := by decide +kernel
theorem tx_r_ci : am_rt 336 = none := by decide +kernel
theorem tx_s_ci : am_ss 336 < 2 := by decide +kernel
theorem tx_n_ci : am_np 336 = 2 := by decide +kernel
theorem tx_pc_0 : decode (am_b 344) 0 = .ok (.iload_n 0, 1) := by decide +kernel
theorem tx_pc_1 : decode (am_b 344) 1 = .ok (.ifCond .lt 8, 3) := by decide +kernel
theorem tx_pc_4 : decode (am_b 344) 4 = .ok (.iload_n 0, 1) := by decide +kernel
theorem tx_pc_5 : decode (am_b 344) 5 = .ok (.iload_n 1, 1) := by decide +kernel
theorem tx_pc_6 : decode (am_b 344) 6 = .ok (.if_icmp .lt 10, 3) := by decide +kernel
theorem tx_pc_9 : decode (am_b 344) 9 = .ok (.aload_n 2, 1) := by decide +kernel
theorem tx_pc_10 : decode (am_b 344) 10 = .ok (.iload_n 0, 1) := by decide +kernel
theorem tx_pc_11 : decode (am_b 344) 11 = .ok (.iload_n 1, 1) := by decide +kernel
theorem tx_pc_12 : decode (am_b 344) 12 = .ok (.invokestatic 95, 3) := by decide +kernel
theorem tx_pc_15 : decode (am_b 344) 15 = .ok (.athrow, 1) := by decide +kernel
theorem tx_pc_16 : decode (am_b 344) 16 = .ok (.iload_n 0, 1) := by decide +kernel
theorem tx_pc_17 : decode (am_b 344) 17 = .ok (.ireturn, 1) := by decide +kernel
theorem tx_l_pc : am_ml 344 = 3 := by decide +kernel
theorem tx_r_pc : am_rt 344 = some .int := by decide +kernel
theorem tx_s_pc : am_ss 344 < 2 := by decide +kernel
theorem tx_n_pc : am_np 344 = 3 := by decide +kernel
theorem tx_k_compact : Cond.fieldLink (am_on 17) 38 "java/lang/String" "COMPACT_STRINGS" "Z" ∈ am_g := am_gat (i := 3035) (by decide +kernel) rfl
theorem tx_k_coderf : Cond.fieldLink (am_on 17) 15 "java/lang/String" "coder" "B" ∈ am_g := am_gat (i := 9098) (by decide +kernel) rfl
theorem tx_k_value : Cond.fieldLink (am_on 17) 9 "java/lang/String" "value" "[B" ∈ am_g := am_gat (i := 9097) (by decide +kernel) rfl
theorem tx_k_form : Cond.fieldLink (am_on 17) 1053 "jdk/internal/util/Preconditions" "SIOOBE_FORMATTER" "Ljava/util/function/BiFunction;" ∈ am_g := am_gat (i := 3051) (by decide +kernel) rfl
theorem tx_k_coder : Cond.methodLink (am_on 17) 335 (am_y 334) ∈ am_g := am_gat (i := 3031) (by decide +kernel) rfl
theorem tx_k_lat : Cond.methodLink (am_on 17) 492 (am_y 335) ∈ am_g := am_gat (i := 3041) (by decide +kernel) rfl
theorem tx_k_lc : Cond.methodLink (am_on 17) 495 (am_y 337) ∈ am_g := am_gat (i := 3045) (by decide +kernel) rfl
theorem tx_k_ci : Cond.methodLink (am_on 18) 9 (am_y 336) ∈ am_g := am_gat (i := 3048) (by decide +kernel) rfl
theorem tx_k_pc : Cond.methodLink (am_on 17) 1059 (am_y 344) ∈ am_g := am_gat (i := 3053) (by decide +kernel) rfl
theorem tx_o_coder : am_ow 334 = 17 := by decide +kernel
theorem tx_o_lat : am_ow 335 = 17 := by decide +kernel
theorem tx_o_len : am_ow 332 = 17 := by decide +kernel
theorem tx_o_ch : am_ow 333 = 17 := by decide +kernel
theorem tx_o_lc : am_ow 337 = 18 := by decide +kernel
theorem tx_o_ci : am_ow 336 = 17 := by decide +kernel
theorem tx_o_pc : am_ow 344 = 24 := by decide +kernel

def am_PX (C : aC) (vs : List Value) (M : aM) : Array Value → State → Prop := fun v U => v = vs.toArray ∧ am_K C U U.heap ∧ va_P C.2.1 vwCl (am_ws C M) U.heap
theorem am_PX_blind (C : aC) (vs : List Value) (M : aM) : FrameBlind (am_PX C vs M) := by
  intro a U g mk h
  obtain ⟨h1, h2, h3⟩ := h
  exact ⟨h1, am_K.same (U := U.calling g mk a) h2 rfl, h3⟩
theorem am_methX {d j : Nat} (hss : am_ss j < 2) (l : Launch) (C : aC) (vs : List Value) (M : aM) (r : aR) (hlen : (lg_sl vs).length ≤ am_ml j)
    (hW : ∀ (p : Program) (e : Env) (s : State) (m : MethodId) (args : Array Value) (below : List Frame) (meth : Method) (c : Code) (ls : Array Slot), am_F none p (am_rm d) s m args c C j d 0 0 → meth.sig.returnType = am_rt j → meth.locks = false → lv_has ls (am_ml j) (lv_args 0 vs) → va_P C.2.1 vwCl (am_ws C M) s.heap → W p l e (am_rm d) s m args below meth c s.heap [] 0 0 (MQ below (am_Qc C r) args s 0 0 (am_A C)) (F0 m 0 ls [])) : Met l (am_y j) (am_wsU j) (am_rm d) (am_PX C vs M) (am_Qc C r) 0 0 (am_A C) := by
  obtain ⟨-, hpl, hon, -⟩ := am_okj_all hss
  refine Met.ofW (cc := am_b j) (maxL := am_ml j) (ret := am_rt j) hpl rfl ?_
  intro p e s m args below meth c s₁ B hml hv
  obtain ⟨rfl, hK, hP⟩ := hv
  have hts := atoms_spec (ws := am_wsU j) B.pre
  have hown : s.vm.findClass (am_y j).cls = some m.cls := findClass_of_methodNamed B.named
  have hl := lv_entry vs (n := am_ml j) hlen
  rw [lg_entry_eq]
  exact hW p e s m _ below meth c _ ⟨B.exec, B.bytes, hml, by rw [hon]; exact hown, fun w hw => hts w (List.mem_cons_of_mem _ hw), hK, ⟨Nat.le_refl _, Nat.le_refl _, Nat.le_refl _, Nat.le_refl _⟩, fun n xs q => by cases q⟩ B.returns B.notSynchronized hl hP

theorem tx_short (i : Nat) : am_slen.getD i 0 ≤ 7 := by
  rw [List.getD_eq_getElem?_getD]
  cases h : am_slen[i]? with
  | none => simp
  | some x =>
    have h1 : am_slen.all (fun x => Nat.ble x 7) = true := by decide
    exact Nat.le_of_ble_eq_true (List.all_eq_true.mp h1 x (List.mem_of_getElem? h))

/-- Preconditions.checkIndex, in range -/
theorem tx_pc (l : Launch) (C : aC) (M : aM) (k n : Int32) (v : Value) (hv : v = .null ∨ ∃ t, v = .ref t) (h0 : ¬ k < 0) (h1 : k < n) : Met l (am_y 344) (am_wsU 344) (am_rm 1) (am_PX C [.int k, .int n, v] M) (am_Qc C (some (.inl k), M)) 0 0 (am_A C) := by
  refine am_methX tx_s_pc l C _ M _ ?_ ?_
  · rcases hv with rfl | ⟨t, rfl⟩ <;> (rw [tx_l_pc]; exact Nat.le_of_ble_eq_true rfl)
  · intro p e s m args below meth c ls F hr hlocks hl hP
    have hl0 : ls[0]? = some (.val (.int k)) := hl.2.2 (0, .int k) (by simp [lv_args])
    have hl1 : ls[1]? = some (.val (.int n)) := hl.2.2 (1, .int n) (by simp [lv_args, Value.category])
    have hS : va_S (am_A C) s.heap s.heap [] := va_S.rf
    refine lv_iload_n F.1 F.2.1 tx_pc_0 rfl hl0 ?_
    refine lv_if_lt (tgt := 9) F.1 F.2.1 tx_pc_1 (by decide) (fun q => absurd q h0) (fun _ => ?_)
    refine lv_iload_n F.1 F.2.1 tx_pc_4 rfl hl0 ?_
    refine lv_iload_n F.1 F.2.1 tx_pc_5 rfl hl1 ?_
    refine lv_icmp_lt (tgt := 16) F.1 F.2.1 tx_pc_6 (by decide) (fun _ => ?_) (fun q => absurd h1 q)
    refine lv_iload_n F.1 F.2.1 tx_pc_16 rfl hl0 ?_
    exact W.iret F.1 F.2.1 (hr.trans tx_r_pc) (fun t ht hW => ⟨rfl, by rw [ht]; exact hP, hS.F ht, fun u hu => by cases hu; trivial⟩) hS.2.2 tx_pc_17 hlocks
/-- String.checkIndex, in range -/
theorem tx_ci (l : Launch) (C : aC) (M : aM) (k n : Int32) (h0 : ¬ k < 0) (h1 : k < n) : Met l (am_y 336) (am_wsU 336) (am_rm 2) (am_PX C [.int k, .int n] M) (am_Qc C (none, M)) 0 0 (am_A C) := by
  refine am_methX tx_s_ci l C _ M _ (by rw [tx_l_ci]; exact Nat.le_of_ble_eq_true rfl) ?_
  intro p e s m args below meth c ls F hr hlocks hl hP
  have hl0 : ls[0]? = some (.val (.int k)) := hl.2.2 (0, .int k) (by simp [lv_args])
  have hl1 : ls[1]? = some (.val (.int n)) := hl.2.2 (1, .int n) (by simp [lv_args, Value.category])
  have hS : va_S (am_A C) s.heap s.heap [] := va_S.rf
  have hown := F.2.2.2.1
  rw [tx_o_ci] at hown
  refine lv_iload_n F.1 F.2.1 tx_ci_0 rfl hl0 ?_
  refine lv_iload_n F.1 F.2.1 tx_ci_1 rfl hl1 ?_
  have key : ∀ v : Value, (v = .null ∨ ∃ t, v = .ref t) → W p l e (am_rm 2) s m args below meth c s.heap [] 0 0 (MQ below (am_Qc C (none, M)) args s 0 0 (am_A C)) (F0 m 5 ls [v, .int n, .int k]) := by
    intro v hv
    have hcb := am_callB (R := am_rm 2) (d := 2) (d2 := 1) F.2.2.2.2.1 tx_k_pc tx_s_pc (by decide) ⟨Nat.le_refl _, Nat.le_refl _⟩
    refine am_callW (va_runS (As := [.int k, .int n, v]) (rest := []) ⟨F.1, F.2.1, F.2.2.1, hown, F.2.2.2.2.1⟩ (tx_pc l C M k n v hv h0 h1) ⟨hcb, F.2.2.2.2.1 _ ((am_okj_all tx_s_pc).2.2.2.2.2.2.2.2.2 (by decide +kernel))⟩ ⟨am_PX_blind C _ M, fun U hU hW => ⟨rfl, F.2.2.2.2.2.1.warm hW (by rw [hU]; exact hS.2.1), by rw [hU]; exact hP⟩⟩ rfl tx_n_pc.symm hl.1 rfl (lv_room (by decide)) tx_ci_5 ⟨Nat.le_refl _, Nat.le_refl _⟩) hS (fun hro H1 locs1 hP1 hS1 => ?_)
    refine lv_pop F.1 F.2.1 tx_ci_8 rfl ?_
    exact W.vret F.1 F.2.1 (hr.trans tx_r_ci) (fun t ht hW => ⟨rfl, by rw [ht]; exact hP1, hS1.F ht, fun u hu => by cases hu⟩) hS1.2.2 tx_ci_9 hlocks
  rcases F.2.2.2.2.2.1.2.2.2.2.2.2 with hz | ⟨t, hz⟩
  · exact va_gets F.1 F.2.1 hz hS hown (F.2.2.2.2.1 _ tx_k_form) (fun _ z => z) tx_ci_2 (key _ (Or.inl rfl))
  · exact va_gets F.1 F.2.1 hz hS hown (F.2.2.2.2.1 _ tx_k_form) (fun _ z => z) tx_ci_2 (key _ (Or.inr ⟨t, rfl⟩))
/-- StringLatin1.charAt, in range -/
theorem tx_lc (l : Launch) (C : aC) (M : aM) (i : Nat) (hi : i < am_nS) (k : Int32) (hin : vp_in k (am_slen.getD i 0)) : Met l (am_y 337) (am_wsU 337) (am_rm 3) (am_PX C [.ref (am_ad C (5040 + i)), .int k] M) (am_Qc C (some (.inl ((am_sbyt.getD i []).getD k.toNatClampNeg 0 &&& 255)), M)) 0 0 (am_A C) := by
  refine am_methX tx_s_lc l C _ M _ (by rw [tx_l_lc]; exact Nat.le_of_ble_eq_true rfl) ?_
  intro p e s m args below meth c ls F hr hlocks hl hP
  have hl0 : ls[0]? = some (.val (.ref (am_ad C (5040 + i)))) := hl.2.2 (0, .ref (am_ad C (5040 + i))) (by simp [lv_args])
  have hl1 : ls[1]? = some (.val (.int k)) := hl.2.2 (1, .int k) (by simp [lv_args, Value.category])
  have hS : va_S (am_A C) s.heap s.heap [] := va_S.rf
  have hown := F.2.2.2.1
  rw [tx_o_lc] at hown
  have hT := (F.2.2.2.2.2.1.2.2.1.1 i hi).2.2.2
  have hlt : am_slen.getD i 0 < 2 ^ 31 := Nat.lt_of_le_of_lt (tx_short i) (by decide)
  obtain ⟨jj, hj, rfl⟩ := vp_in_of hin hlt
  refine lv_iload_n F.1 F.2.1 tx_lc_0 rfl hl1 ?_
  refine lv_aload_n F.1 F.2.1 tx_lc_1 rfl hl0 ?_
  refine va_tlen F.1 F.2.1 hT hS (v := nI (am_slen.getD i 0)) rfl tx_lc_2 ?_
  have hcb := am_callB (R := am_rm 3) (d := 3) (d2 := 2) F.2.2.2.2.1 tx_k_ci tx_s_ci (by decide) ⟨Nat.le_refl _, Nat.le_refl _⟩
  refine am_callW (va_runS (As := [.int (nI jj), .int (nI (am_slen.getD i 0))]) (rest := []) ⟨F.1, F.2.1, F.2.2.1, hown, F.2.2.2.2.1⟩ (tx_ci l C M (nI jj) (nI (am_slen.getD i 0)) (nI_pos (by omega)) (nI_lt hj hlt)) ⟨hcb, F.2.2.2.2.1 _ ((am_okj_all tx_s_ci).2.2.2.2.2.2.2.2.2 (by decide +kernel))⟩ ⟨am_PX_blind C _ M, fun U hU hW => ⟨rfl, F.2.2.2.2.2.1.warm hW (by rw [hU]; exact hS.2.1), by rw [hU]; exact hP⟩⟩ rfl tx_n_ci.symm hl.1 rfl (lv_room (by decide)) tx_lc_3 ⟨Nat.le_refl _, Nat.le_refl _⟩) hS (fun hro H1 locs1 hP1 hS1 => ?_)
  refine lv_aload_n F.1 F.2.1 tx_lc_6 rfl hl0 ?_
  refine lv_iload_n F.1 F.2.1 tx_lc_7 rfl hl1 ?_
  refine va_tb F.1 F.2.1 hT hS1 hin rfl tx_lc_8 ?_
  refine lv_sipush (v := 255) F.1 F.2.1 tx_lc_9 (by decide) ?_
  refine lv_iand F.1 F.2.1 tx_lc_12 ?_
  refine lv_i2c F.1 F.2.1 tx_lc_13 (sc_c2 _) ?_
  exact W.zret F.1 F.2.1 (hr.trans tx_r_lc) (sc_nar _) (fun t ht hW => ⟨rfl, by rw [ht]; exact hP1, hS1.F ht, fun u hu => by cases hu; trivial⟩) hS1.2.2 tx_lc_14 hlocks
/-- String.coder of a constant text -/
def f334 (z : Nat) (c0 : Nat) (M : aM) : Option aR := match am_wkb 60 c0 with
  | true => some (some (.inl 0), M)
  | false => none
def F334 (z : Nat) (as : List aV) (M : aM) : Option aR := match as with
  | [.inr (.inr (60, c0))] => f334 z c0 M
  | _ => none
theorem S334 (z : Nat) : am_Snd 1 334 (F334 z) := am_meth tx_s_coder (fun as M r has h => by
  rw [tx_l_coder]
  unfold F334 at h
  split at h
  · rename_i c0
    refine ⟨Nat.le_of_ble_eq_true rfl, ?_⟩
    unfold f334 at h
    split at h
    · rename_i hw
      cases h
      obtain ⟨i, hi, rfl⟩ := am_str_ad hw
      intro p l e s m args below meth c C F hr hlocks hal hst H locs ls hl hP hS
      have hown := F.2.2.2.1
      rw [tx_o_coder] at hown
      refine va_gets F.1 F.2.1 F.2.2.2.2.2.1.2.2.2.2.2.1 hS hown (F.2.2.2.2.1 _ tx_k_compact) (fun _ z => z) tx_coder_0 ?_
      refine lv_if_eq (tgt := 13) F.1 F.2.1 tx_coder_3 (by decide) (fun q => absurd q (by decide)) (fun _ => ?_)
      refine lv_aload_n F.1 F.2.1 tx_coder_6 rfl (hl.2.2.2 0 _ rfl) ?_
      refine vk_getf F.1 F.2.1 (F.2.2.2.2.2.1.2.2.1.1 i hi).2.1 hS hown (F.2.2.2.2.1 _ tx_k_coderf) (fun _ z => z) tx_coder_7 ?_
      refine lv_goto (tgt := 14) F.1 F.2.1 tx_coder_10 (by decide) ?_
      exact W.zret F.1 F.2.1 (hr.trans tx_r_coder) (by decide) (fun t ht hW => ⟨rfl, by rw [ht]; exact hP, hS.F ht, fun u hu => by cases hu; trivial⟩) hS.2.2 tx_coder_14 hlocks
    · cases h
  · cases h)
/-- String.isLatin1 of a constant text -/
def f335 (z : Nat) (c0 : Nat) (M : aM) : Option aR := match am_wkb 60 c0 with
  | true => some (some (.inl 1), M)
  | false => none
def F335 (z : Nat) (as : List aV) (M : aM) : Option aR := match as with
  | [.inr (.inr (60, c0))] => f335 z c0 M
  | _ => none
theorem S335 (z : Nat) : am_Snd 1 335 (F335 z) := am_meth tx_s_lat (fun as M r has h => by
  rw [tx_l_lat]
  unfold F335 at h
  split at h
  · rename_i c0
    refine ⟨Nat.le_of_ble_eq_true rfl, ?_⟩
    unfold f335 at h
    split at h
    · rename_i hw
      cases h
      obtain ⟨i, hi, rfl⟩ := am_str_ad hw
      intro p l e s m args below meth c C F hr hlocks hal hst H locs ls hl hP hS
      have hown := F.2.2.2.1
      rw [tx_o_lat] at hown
      refine va_gets F.1 F.2.1 F.2.2.2.2.2.1.2.2.2.2.2.1 hS hown (F.2.2.2.2.1 _ tx_k_compact) (fun _ z => z) tx_lat_0 ?_
      refine lv_if_eq (tgt := 17) F.1 F.2.1 tx_lat_3 (by decide) (fun q => absurd q (by decide)) (fun _ => ?_)
      refine lv_aload_n F.1 F.2.1 tx_lat_6 rfl (hl.2.2.2 0 _ rfl) ?_
      refine vk_getf F.1 F.2.1 (F.2.2.2.2.2.1.2.2.1.1 i hi).2.1 hS hown (F.2.2.2.2.1 _ tx_k_coderf) (fun _ z => z) tx_lat_7 ?_
      refine lv_if_ne (tgt := 17) F.1 F.2.1 tx_lat_10 (by decide) (fun q => absurd rfl q) (fun _ => ?_)
      refine lv_iconst (v := 1) F.1 F.2.1 tx_lat_13 (by decide) ?_
      refine lv_goto (tgt := 18) F.1 F.2.1 tx_lat_14 (by decide) ?_
      exact W.zret F.1 F.2.1 (hr.trans tx_r_lat) (by decide) (fun t ht hW => ⟨rfl, by rw [ht]; exact hP, hS.F ht, fun u hu => by cases hu; trivial⟩) hS.2.2 tx_lat_18 hlocks
    · cases h
  · cases h)
/-- String.length of a constant text -/
def f332 (z : Nat) (c0 : Nat) (M : aM) : Option aR := match am_wkb 60 c0 with
  | true => some (some (.inl (nI (am_slen.getD (c0 - 5000) 0))), M)
  | false => none
def F332 (z : Nat) (as : List aV) (M : aM) : Option aR := match as with
  | [.inr (.inr (60, c0))] => f332 z c0 M
  | _ => none
theorem S332 (z : Nat) : am_Snd 3 332 (F332 z) := am_meth tx_s_len (fun as M r has h => by
  rw [tx_l_len]
  unfold F332 at h
  split at h
  · rename_i c0
    refine ⟨Nat.le_of_ble_eq_true rfl, ?_⟩
    unfold f332 at h
    split at h
    · rename_i hw
      cases h
      obtain ⟨i, hi, rfl⟩ := am_str_ad hw
      rw [Nat.add_sub_cancel_left]
      intro p l e s m args below meth c C F hr hlocks hal hst H locs ls hl hP hS
      have hown := F.2.2.2.1
      rw [tx_o_len] at hown
      refine lv_aload_n F.1 F.2.1 tx_len_0 rfl (hl.2.2.2 0 _ rfl) ?_
      refine vk_getf F.1 F.2.1 (F.2.2.2.2.2.1.2.2.1.1 i hi).2.2.1 hS hown (F.2.2.2.2.1 _ tx_k_value) (fun _ z => z) tx_len_1 ?_
      refine va_tlen F.1 F.2.1 (F.2.2.2.2.2.1.2.2.1.1 i hi).2.2.2 hS (v := nI (am_slen.getD i 0)) rfl tx_len_4 ?_
      refine lv_aload_n F.1 F.2.1 tx_len_5 rfl (hl.2.2.2 0 _ rfl) ?_
      have hcb := am_callB (R := am_rm 3) (d := 3) (d2 := 1) F.2.2.2.2.1 tx_k_coder tx_s_coder (by decide) ⟨Nat.le_refl _, Nat.le_refl _⟩
      have hvi := (am_okj_all tx_s_coder).2.2.2.2.2.2.2.2.1 (by decide +kernel)
      have hmet := S334 0 [.inr (.inr (60, 5000 + i))] M (some (.inl 0), M) (am_wk_c hw (fun v hv => by cases hv)) (by show f334 0 (5000 + i) M = _; unfold f334; rw [hw]) l C
      refine am_callW (va_runV (As := []) (rest := [.int (nI (am_slen.getD i 0))]) (b := am_ad C (5000 + i)) (C := (am_y 334).cls) ⟨F.1, F.2.1, F.2.2.1, hown, F.2.2.2.2.1⟩ hmet ⟨hcb, F.2.2.2.2.1 _ hvi.1, F.2.2.2.2.1 _ hvi.2⟩ ⟨am_Pc_blind C _ M, am_rcv F hP hS hw (by decide +kernel) tx_s_coder (Or.inr (by decide +kernel)), fun U hU hW => ⟨rfl, F.2.2.2.2.2.1.warm hW (by rw [hU]; exact hS.2.1), by rw [hU]; exact hP⟩⟩ rfl tx_n_coder.symm hl.1 rfl (lv_room (Nat.le_of_ble_eq_true rfl)) tx_len_6 ⟨Nat.le_refl _, Nat.le_refl _⟩) hS (fun hro H1 locs1 hP1 hS1 => ?_)
      refine lv_ishr F.1 F.2.1 tx_len_9 ?_
      rw [sb_shr0]
      exact W.iret F.1 F.2.1 (hr.trans tx_r_len) (fun t ht hW => ⟨rfl, by rw [ht]; exact hP1, hS1.F ht, fun u hu => by cases hu; trivial⟩) hS1.2.2 tx_len_10 hlocks
    · cases h
  · cases h)
/-- String.charAt of a constant text -/
def f333 (z : Nat) (c0 : Nat) (x1 : Int32) (M : aM) : Option aR := match am_wkb 60 c0, am_inB x1 (am_slen.getD (c0 - 5000) 0) with
  | true, true => some (some (.inl ((am_sbyt.getD (c0 - 5000) []).getD x1.toNatClampNeg 0 &&& 255)), M)
  | _, _ => none
def F333 (z : Nat) (as : List aV) (M : aM) : Option aR := match as with
  | [.inr (.inr (60, c0)), .inl x1] => f333 z c0 x1 M
  | _ => none
theorem S333 (z : Nat) : am_Snd 4 333 (F333 z) := am_meth tx_s_ch (fun as M r has h => by
  rw [tx_l_ch]
  unfold F333 at h
  split at h
  · rename_i c0 x1
    refine ⟨Nat.le_of_ble_eq_true rfl, ?_⟩
    unfold f333 at h
    split at h
    · rename_i hw hin
      cases h
      obtain ⟨i, hi, rfl⟩ := am_str_ad hw
      rw [Nat.add_sub_cancel_left] at hin ⊢
      have hin := am_inB_in hin
      intro p l e s m args below meth c C F hr hlocks hal hst H locs ls hl hP hS
      have hown := F.2.2.2.1
      rw [tx_o_ch] at hown
      refine lv_aload_n F.1 F.2.1 tx_ch_0 rfl (hl.2.2.2 0 _ rfl) ?_
      have hcb := am_callB (R := am_rm 4) (d := 4) (d2 := 1) F.2.2.2.2.1 tx_k_lat tx_s_lat (by decide) ⟨Nat.le_refl _, Nat.le_refl _⟩
      have hvi := (am_okj_all tx_s_lat).2.2.2.2.2.2.2.2.1 (by decide +kernel)
      have hmet := S335 0 [.inr (.inr (60, 5000 + i))] M (some (.inl 1), M) (am_wk_c hw (fun v hv => by cases hv)) (by show f335 0 (5000 + i) M = _; unfold f335; rw [hw]) l C
      refine am_callW (va_runV (As := []) (rest := []) (b := am_ad C (5000 + i)) (C := (am_y 335).cls) ⟨F.1, F.2.1, F.2.2.1, hown, F.2.2.2.2.1⟩ hmet ⟨hcb, F.2.2.2.2.1 _ hvi.1, F.2.2.2.2.1 _ hvi.2⟩ ⟨am_Pc_blind C _ M, am_rcv F hP hS hw (by decide +kernel) tx_s_lat (Or.inr (by decide +kernel)), fun U hU hW => ⟨rfl, F.2.2.2.2.2.1.warm hW (by rw [hU]; exact hS.2.1), by rw [hU]; exact hP⟩⟩ rfl tx_n_lat.symm hl.1 rfl (lv_room (by decide)) tx_ch_1 ⟨Nat.le_refl _, Nat.le_refl _⟩) hS (fun hro H1 locs1 hP1 hS1 => ?_)
      refine lv_if_eq (tgt := 16) F.1 F.2.1 tx_ch_4 (by decide) (fun q => absurd q (by decide)) (fun _ => ?_)
      refine lv_aload_n F.1 F.2.1 tx_ch_7 rfl (hl.2.2.2 0 _ rfl) ?_
      refine vk_getf F.1 F.2.1 (F.2.2.2.2.2.1.2.2.1.1 i hi).2.2.1 hS1 hown (F.2.2.2.2.1 _ tx_k_value) (fun _ z => z) tx_ch_8 ?_
      refine lv_iload_n F.1 F.2.1 tx_ch_11 rfl (hl.2.2.2 1 _ rfl) ?_
      have hcb2 := am_callB (R := am_rm 4) (d := 4) (d2 := 3) F.2.2.2.2.1 tx_k_lc tx_s_lc (by decide) ⟨Nat.le_refl _, Nat.le_refl _⟩
      refine am_callW (va_runS (As := [.ref (am_ad C (5040 + i)), .int x1]) (rest := []) ⟨F.1, F.2.1, F.2.2.1, hown, F.2.2.2.2.1⟩ (tx_lc l C M i hi x1 hin) ⟨hcb2, F.2.2.2.2.1 _ ((am_okj_all tx_s_lc).2.2.2.2.2.2.2.2.2 (by decide +kernel))⟩ ⟨am_PX_blind C _ M, fun U hU hW => ⟨rfl, F.2.2.2.2.2.1.warm hW (by rw [hU]; exact hS1.2.1), by rw [hU]; exact hP1⟩⟩ rfl tx_n_lc.symm hl.1 rfl (lv_room (by decide)) tx_ch_12 ⟨Nat.le_refl _, Nat.le_refl _⟩) hS1 (fun hro H2 locs2 hP2 hS2 => ?_)
      exact W.zret F.1 F.2.1 (hr.trans tx_r_ch) (sc_nar _) (fun t ht hW => ⟨rfl, by rw [ht]; exact hP2, hS2.F ht, fun u hu => by cases hu; trivial⟩) hS2.2.2 tx_ch_15 hlocks
    · cases h
  · cases h)
end
section
def cd1_0 : List am_E := [(0, .aload_n 0, 1, 0, 0, 0, 0), (1, .getfield 24, 3, 0, 0, 0, 0), (4, .bipush 30, 2, 0, 0, 30, 0), (6, .if_icmp .lt 5, 3, 11, 0, 0, 0), (9, .iconst 0, 1, 0, 0, 0, 0), (10, .ireturn, 1, 0, 0, 0, 0), (11, .aload_n 0, 1, 0, 0, 0, 0), (12, .getfield 9, 3, 0, 1, 0, 0), (15, .aload_n 0, 1, 0, 0, 0, 0), (16, .getfield 24, 3, 0, 0, 0, 0), (19, .iload_n 1, 1, 1, 0, 0, 0), (20, .iastore, 1, 0, 0, 0, 0), (21, .aload_n 0, 1, 0, 0, 0, 0), (22, .getfield 15, 3, 0, 2, 0, 0), (25, .aload_n 0, 1, 0, 0, 0, 0), (26, .getfield 24, 3, 0, 0, 0, 0), (29, .iload_n 2, 1, 2, 0, 0, 0), (30, .iastore, 1, 0, 0, 0, 0), (31, .aload_n 0, 1, 0, 0, 0, 0), (32, .getfield 18, 3, 0, 3, 0, 0), (35, .aload_n 0, 1, 0, 0, 0, 0), (36, .getfield 24, 3, 0, 0, 0, 0), (39, .iload_n 3, 1, 3, 0, 0, 0), (40, .iastore, 1, 0, 0, 0, 0), (41, .aload_n 0, 1, 0, 0, 0, 0), (42, .getfield 21, 3, 0, 4, 0, 0), (45, .aload_n 0, 1, 0, 0, 0, 0), (46, .getfield 24, 3, 0, 0, 0, 0), (49, .iload 4, 2, 4, 0, 0, 0), (51, .iastore, 1, 0, 0, 0, 0), (52, .aload_n 0, 1, 0, 0, 0, 0), (53, .dup, 1, 0, 0, 0, 0), (54, .getfield 24, 3, 0, 0, 0, 0), (57, .iconst 1, 1, 0, 0, 1, 0), (58, .iadd, 1, 0, 0, 0, 0), (59, .putfield 24, 3, 0, 0, 0, 0), (62, .iconst 1, 1, 0, 0, 1, 0), (63, .ireturn, 1, 0, 0, 0, 0)]
def cd1 : List am_E := cd1_0
def am_w1 : List (List (Int32 × Nat) × Nat) := []
set_option maxRecDepth 100000 in
theorem kcd1_0 : cd1_0.all (am_chk am_w1 1) = true := by decide +kernel
theorem am_k1 : cd1.all (am_chk am_w1 1) = true := by
  simp only [cd1, List.all_append, kcd1_0, Bool.and_self]
theorem am_r1 : am_rtc 1 = 1 := by decide +kernel
theorem am_l1 : am_ml 1 = 5 := by decide +kernel
def am_s1_ (z : Nat) : Nat → List aV → aM → Option aR := am_s0
theorem hs1 (z : Nat) : ∀ j2 : Nat, ∃ d2 : Nat, d2 + 1 ≤ 1 ∧ am_Snd d2 j2 (am_s1_ z j2) := (am_s0_ok (by decide))
def f1_52 (z : Nat)  (c0 : Nat) (M : aM) : Option aR :=
  let I1 := am_u M.1 c0 0 ((M.1 c0 0) + (1 : Int32))
  some (some (.inl ((1 : Int32) &&& 1)), (I1, M.2))
set_option maxRecDepth 100000 in
set_option maxHeartbeats 4000000 in
theorem e1_52 (z : Nat) : ∀ (c0 : Nat) (M : aM) (r : aR), f1_52 z c0 M = some r → am_Ev 1 1 52 [some (.inr (.inr (0, c0))), none, none, none, none] [] M r := by
  intro c0 M r h
  exact am_Ev_seg (sem := am_s1_ z) (cut := ([] : List (Nat × List Bool))) (hs1 z) am_r1 am_k1 (by rw [am_l1]; decide) am_k0 9 h am_k0_ok
/-- ArgumentMender$Acts.append(IIII)Z -/
def f1 (z : Nat) (c0 : Nat) (x1 : Int32) (x2 : Int32) (x3 : Int32) (x4 : Int32) (M : aM) : Option aR :=
  if (M.1 c0 0) < (30 : Int32) then
    if am_inB (M.1 c0 0) 30 then
      let I1 := am_u M.1 (c0 + 1) (M.1 c0 0).toNatClampNeg x1
      if am_inB (I1 c0 0) 30 then
        let I2 := am_u I1 (c0 + 2) (I1 c0 0).toNatClampNeg x2
        if am_inB (I2 c0 0) 30 then
          let I3 := am_u I2 (c0 + 3) (I2 c0 0).toNatClampNeg x3
          if am_inB (I3 c0 0) 30 then
            let I4 := am_u I3 (c0 + 4) (I3 c0 0).toNatClampNeg x4
            f1_52 z c0 (I4, M.2)
          else
            none
        else
          none
      else
        none
    else
      none
  else
    some (some (.inl ((0 : Int32) &&& 1)), M)
set_option maxRecDepth 100000 in
set_option maxHeartbeats 4000000 in
theorem e1 (z : Nat) : ∀ (c0 : Nat) (x1 : Int32) (x2 : Int32) (x3 : Int32) (x4 : Int32) (M : aM) (r : aR), f1 z c0 x1 x2 x3 x4 M = some r → am_Ev 1 1 0 [some (.inr (.inr (0, c0))), some (.inl x1), some (.inl x2), some (.inl x3), some (.inl x4)] [] M r := by
  intro c0 x1 x2 x3 x4 M r h
  exact am_Ev_seg (sem := am_s1_ z) (cut := ([(52, [true, false, false, false, false])] : List (Nat × List Bool))) (hs1 z) am_r1 am_k1 (by rw [am_l1]; decide) (am_kc 52 (fun al st M => match al, st with
      | [some (.inr (.inr (0, c0))), none, none, none, none], [] => f1_52 z c0 M
      | _, _ => none) am_k0) 30 h (am_kc_ok (fun al st M hk => by
      split at hk
      · exact e1_52 z _ _ _ hk
      · cases hk) am_k0_ok)
def F1 (z : Nat) (as : List aV) (M : aM) : Option aR := match as with
  | [.inr (.inr (0, c0)), .inl x1, .inl x2, .inl x3, .inl x4] => f1 z c0 x1 x2 x3 x4 M
  | _ => none
theorem S1 (z : Nat) : am_Snd 1 1 (F1 z) := am_meth (by decide +kernel) (fun as M r has h => by
    rw [am_l1]
    unfold F1 at h
    split at h
    · exact ⟨Nat.le_of_ble_eq_true rfl, e1 z _ _ _ _ _ _ _ h⟩
    · cases h)
def cd2_0 : List am_E := [(0, .aload_n 0, 1, 0, 0, 0, 0), (1, .aload_n 1, 1, 1, 0, 0, 0), (2, .getfield 24, 3, 0, 0, 0, 0), (5, .putfield 24, 3, 0, 0, 0, 0), (8, .aload_n 1, 1, 1, 0, 0, 0), (9, .getfield 9, 3, 0, 1, 0, 0), (12, .iconst 0, 1, 0, 0, 0, 0), (13, .aload_n 0, 1, 0, 0, 0, 0), (14, .getfield 9, 3, 0, 1, 0, 0), (17, .iconst 0, 1, 0, 0, 0, 0), (18, .bipush 30, 2, 0, 0, 30, 0), (20, .invokestatic 28, 3, 0, 1, 0, 0), (23, .aload_n 1, 1, 1, 0, 0, 0), (24, .getfield 15, 3, 0, 2, 0, 0), (27, .iconst 0, 1, 0, 0, 0, 0), (28, .aload_n 0, 1, 0, 0, 0, 0), (29, .getfield 15, 3, 0, 2, 0, 0), (32, .iconst 0, 1, 0, 0, 0, 0), (33, .bipush 30, 2, 0, 0, 30, 0), (35, .invokestatic 28, 3, 0, 1, 0, 0), (38, .aload_n 1, 1, 1, 0, 0, 0), (39, .getfield 18, 3, 0, 3, 0, 0), (42, .iconst 0, 1, 0, 0, 0, 0), (43, .aload_n 0, 1, 0, 0, 0, 0), (44, .getfield 18, 3, 0, 3, 0, 0), (47, .iconst 0, 1, 0, 0, 0, 0), (48, .bipush 30, 2, 0, 0, 30, 0), (50, .invokestatic 28, 3, 0, 1, 0, 0), (53, .aload_n 1, 1, 1, 0, 0, 0), (54, .getfield 21, 3, 0, 4, 0, 0), (57, .iconst 0, 1, 0, 0, 0, 0), (58, .aload_n 0, 1, 0, 0, 0, 0), (59, .getfield 21, 3, 0, 4, 0, 0), (62, .iconst 0, 1, 0, 0, 0, 0), (63, .bipush 30, 2, 0, 0, 30, 0), (65, .invokestatic 28, 3, 0, 1, 0, 0), (68, .return_, 1, 0, 0, 0, 0)]
def cd2 : List am_E := cd2_0
def am_w2 : List (List (Int32 × Nat) × Nat) := []
set_option maxRecDepth 100000 in
theorem kcd2_0 : cd2_0.all (am_chk am_w2 2) = true := by decide +kernel
theorem am_k2 : cd2.all (am_chk am_w2 2) = true := by
  simp only [cd2, List.all_append, kcd2_0, Bool.and_self]
theorem am_r2 : am_rtc 2 = 4 := by decide +kernel
theorem am_l2 : am_ml 2 = 2 := by decide +kernel
def am_s2_ (z : Nat) : Nat → List aV → aM → Option aR := am_s0
theorem hs2 (z : Nat) : ∀ j2 : Nat, ∃ d2 : Nat, d2 + 1 ≤ 1 ∧ am_Snd d2 j2 (am_s2_ z j2) := (am_s0_ok (by decide))
def f2_68 (z : Nat)  (M : aM) : Option aR :=
  some (none, M)
set_option maxRecDepth 100000 in
set_option maxHeartbeats 4000000 in
theorem e2_68 (z : Nat) : ∀ (M : aM) (r : aR), f2_68 z  M = some r → am_Ev 1 2 68 [none, none] [] M r := by
  intro  M r h
  exact am_Ev_seg (sem := am_s2_ z) (cut := ([] : List (Nat × List Bool))) (hs2 z) am_r2 am_k2 (by rw [am_l2]; decide) am_k0 2 h am_k0_ok
def f2_38 (z : Nat)  (c0 : Nat) (c1 : Nat) (M : aM) : Option aR :=
  if am_cpOk (0 : Int32) (0 : Int32) (30 : Int32) 30 30 then
    let I1 := am_ua M.1 (c0 + 3) (va_cpy (M.1 (c1 + 3)) (M.1 (c0 + 3)) (0 : Int32).toNatClampNeg (0 : Int32).toNatClampNeg (30 : Int32).toNatClampNeg)
    if am_cpOk (0 : Int32) (0 : Int32) (30 : Int32) 30 30 then
      let I2 := am_ua I1 (c0 + 4) (va_cpy (I1 (c1 + 4)) (I1 (c0 + 4)) (0 : Int32).toNatClampNeg (0 : Int32).toNatClampNeg (30 : Int32).toNatClampNeg)
      f2_68 z (I2, M.2)
    else
      none
  else
    none
set_option maxRecDepth 100000 in
set_option maxHeartbeats 4000000 in
theorem e2_38 (z : Nat) : ∀ (c0 : Nat) (c1 : Nat) (M : aM) (r : aR), f2_38 z c0 c1 M = some r → am_Ev 1 2 38 [some (.inr (.inr (0, c0))), some (.inr (.inr (0, c1)))] [] M r := by
  intro c0 c1 M r h
  exact am_Ev_seg (sem := am_s2_ z) (cut := ([(68, [false, false])] : List (Nat × List Bool))) (hs2 z) am_r2 am_k2 (by rw [am_l2]; decide) (am_kc 68 (fun al st M => match al, st with
      | [none, none], [] => f2_68 z  M
      | _, _ => none) am_k0) 18 h (am_kc_ok (fun al st M hk => by
      split at hk
      · exact e2_68 z _ _ hk
      · cases hk) am_k0_ok)
/-- ArgumentMender$Acts.copyFrom(LArgumentMender$Acts;)V -/
def f2 (z : Nat) (c0 : Nat) (c1 : Nat) (M : aM) : Option aR :=
  let I1 := am_u M.1 c0 0 (M.1 c1 0)
  if am_cpOk (0 : Int32) (0 : Int32) (30 : Int32) 30 30 then
    let I2 := am_ua I1 (c0 + 1) (va_cpy (I1 (c1 + 1)) (I1 (c0 + 1)) (0 : Int32).toNatClampNeg (0 : Int32).toNatClampNeg (30 : Int32).toNatClampNeg)
    if am_cpOk (0 : Int32) (0 : Int32) (30 : Int32) 30 30 then
      let I3 := am_ua I2 (c0 + 2) (va_cpy (I2 (c1 + 2)) (I2 (c0 + 2)) (0 : Int32).toNatClampNeg (0 : Int32).toNatClampNeg (30 : Int32).toNatClampNeg)
      f2_38 z c0 c1 (I3, M.2)
    else
      none
  else
    none
set_option maxRecDepth 100000 in
set_option maxHeartbeats 4000000 in
theorem e2 (z : Nat) : ∀ (c0 : Nat) (c1 : Nat) (M : aM) (r : aR), f2 z c0 c1 M = some r → am_Ev 1 2 0 [some (.inr (.inr (0, c0))), some (.inr (.inr (0, c1)))] [] M r := by
  intro c0 c1 M r h
  exact am_Ev_seg (sem := am_s2_ z) (cut := ([(38, [true, true])] : List (Nat × List Bool))) (hs2 z) am_r2 am_k2 (by rw [am_l2]; decide) (am_kc 38 (fun al st M => match al, st with
      | [some (.inr (.inr (0, c0))), some (.inr (.inr (0, c1)))], [] => f2_38 z c0 c1 M
      | _, _ => none) am_k0) 22 h (am_kc_ok (fun al st M hk => by
      split at hk
      · exact e2_38 z _ _ _ _ hk
      · cases hk) am_k0_ok)
def F2 (z : Nat) (as : List aV) (M : aM) : Option aR := match as with
  | [.inr (.inr (0, c0)), .inr (.inr (0, c1))] => f2 z c0 c1 M
  | _ => none
theorem S2 (z : Nat) : am_Snd 1 2 (F2 z) := am_meth (by decide +kernel) (fun as M r has h => by
    rw [am_l2]
    unfold F2 at h
    split at h
    · exact ⟨Nat.le_of_ble_eq_true rfl, e2 z _ _ _ _ h⟩
    · cases h)
def cd4_0 : List am_E := [(0, .aload_n 0, 1, 0, 0, 0, 0), (1, .iconst 0, 1, 0, 0, 0, 0), (2, .putfield 43, 3, 1, 0, 0, 0), (5, .aload_n 0, 1, 0, 0, 0, 0), (6, .iconst 0, 1, 0, 0, 0, 0), (7, .putfield 47, 3, 1, 1, 0, 0), (10, .aload_n 0, 1, 0, 0, 0, 0), (11, .iconst 0, 1, 0, 0, 0, 0), (12, .putfield 50, 3, 1, 2, 0, 0), (15, .aload_n 0, 1, 0, 0, 0, 0), (16, .iconst 0, 1, 0, 0, 0, 0), (17, .putfield 53, 3, 1, 3, 0, 0), (20, .aload_n 0, 1, 0, 0, 0, 0), (21, .iconst 0, 1, 0, 0, 0, 0), (22, .putfield 56, 3, 1, 4, 0, 0), (25, .aload_n 0, 1, 0, 0, 0, 0), (26, .iconst 0, 1, 0, 0, 0, 0), (27, .putfield 59, 3, 1, 5, 0, 0), (30, .aload_n 0, 1, 0, 0, 0, 0), (31, .iconst 0, 1, 0, 0, 0, 0), (32, .putfield 62, 3, 1, 6, 0, 0), (35, .aload_n 0, 1, 0, 0, 0, 0), (36, .getfield 39, 3, 1, 15, 0, 0), (39, .iconst 0, 1, 0, 0, 0, 0), (40, .putfield 65, 3, 0, 0, 0, 0), (43, .return_, 1, 0, 0, 0, 0)]
def cd4 : List am_E := cd4_0
def am_w4 : List (List (Int32 × Nat) × Nat) := []
set_option maxRecDepth 100000 in
theorem kcd4_0 : cd4_0.all (am_chk am_w4 4) = true := by decide +kernel
theorem am_k4 : cd4.all (am_chk am_w4 4) = true := by
  simp only [cd4, List.all_append, kcd4_0, Bool.and_self]
theorem am_r4 : am_rtc 4 = 4 := by decide +kernel
theorem am_l4 : am_ml 4 = 1 := by decide +kernel
def am_s4_ (z : Nat) : Nat → List aV → aM → Option aR := am_s0
theorem hs4 (z : Nat) : ∀ j2 : Nat, ∃ d2 : Nat, d2 + 1 ≤ 1 ∧ am_Snd d2 j2 (am_s4_ z j2) := (am_s0_ok (by decide))
def f4_43 (z : Nat)  (M : aM) : Option aR :=
  some (none, M)
set_option maxRecDepth 100000 in
set_option maxHeartbeats 4000000 in
theorem e4_43 (z : Nat) : ∀ (M : aM) (r : aR), f4_43 z  M = some r → am_Ev 1 4 43 [none] [] M r := by
  intro  M r h
  exact am_Ev_seg (sem := am_s4_ z) (cut := ([] : List (Nat × List Bool))) (hs4 z) am_r4 am_k4 (by rw [am_l4]; decide) am_k0 2 h am_k0_ok
def f4_20 (z : Nat)  (c0 : Nat) (M : aM) : Option aR :=
  let I1 := am_u M.1 c0 4 (0 : Int32)
  let I2 := am_u I1 c0 5 (0 : Int32)
  let I3 := am_u I2 c0 6 (0 : Int32)
  let I4 := am_u I3 (c0 + 9) 0 (0 : Int32)
  f4_43 z (I4, M.2)
set_option maxRecDepth 100000 in
set_option maxHeartbeats 4000000 in
theorem e4_20 (z : Nat) : ∀ (c0 : Nat) (M : aM) (r : aR), f4_20 z c0 M = some r → am_Ev 1 4 20 [some (.inr (.inr (1, c0)))] [] M r := by
  intro c0 M r h
  exact am_Ev_seg (sem := am_s4_ z) (cut := ([(43, [false])] : List (Nat × List Bool))) (hs4 z) am_r4 am_k4 (by rw [am_l4]; decide) (am_kc 43 (fun al st M => match al, st with
      | [none], [] => f4_43 z  M
      | _, _ => none) am_k0) 15 h (am_kc_ok (fun al st M hk => by
      split at hk
      · exact e4_43 z _ _ hk
      · cases hk) am_k0_ok)
/-- ArgumentMender$Cloth.clear()V -/
def f4 (z : Nat) (c0 : Nat) (M : aM) : Option aR :=
  let I1 := am_u M.1 c0 0 (0 : Int32)
  let I2 := am_u I1 c0 1 (0 : Int32)
  let I3 := am_u I2 c0 2 (0 : Int32)
  let I4 := am_u I3 c0 3 (0 : Int32)
  f4_20 z c0 (I4, M.2)
set_option maxRecDepth 100000 in
set_option maxHeartbeats 4000000 in
theorem e4 (z : Nat) : ∀ (c0 : Nat) (M : aM) (r : aR), f4 z c0 M = some r → am_Ev 1 4 0 [some (.inr (.inr (1, c0)))] [] M r := by
  intro c0 M r h
  exact am_Ev_seg (sem := am_s4_ z) (cut := ([(20, [true])] : List (Nat × List Bool))) (hs4 z) am_r4 am_k4 (by rw [am_l4]; decide) (am_kc 20 (fun al st M => match al, st with
      | [some (.inr (.inr (1, c0)))], [] => f4_20 z c0 M
      | _, _ => none) am_k0) 14 h (am_kc_ok (fun al st M hk => by
      split at hk
      · exact e4_20 z _ _ _ hk
      · cases hk) am_k0_ok)
def F4 (z : Nat) (as : List aV) (M : aM) : Option aR := match as with
  | [.inr (.inr (1, c0))] => f4 z c0 M
  | _ => none
theorem S4 (z : Nat) : am_Snd 1 4 (F4 z) := am_meth (by decide +kernel) (fun as M r has h => by
    rw [am_l4]
    unfold F4 at h
    split at h
    · exact ⟨Nat.le_of_ble_eq_true rfl, e4 z _ _ _ h⟩
    · cases h)
def cd5_0 : List am_E := [(0, .iconst 0, 1, 0, 0, 0, 0), (1, .istore_n 1, 1, 1, 0, 0, 0), (2, .iconst 0, 1, 0, 0, 0, 0), (3, .istore_n 2, 1, 2, 0, 0, 0), (4, .iload_n 2, 1, 2, 0, 0, 0), (5, .bipush 8, 2, 0, 0, 8, 0), (7, .if_icmp .ge 52, 3, 59, 0, 0, 0), (10, .aload_n 0, 1, 0, 0, 0, 0), (11, .getfield 33, 3, 1, 14, 0, 0), (14, .iload_n 2, 1, 2, 0, 0, 0), (15, .iload_n 1, 1, 1, 0, 0, 0), (16, .iastore, 1, 0, 0, 0, 0), (17, .iconst 0, 1, 0, 0, 0, 0), (18, .istore_n 3, 1, 3, 0, 0, 0), (19, .iload_n 3, 1, 3, 0, 0, 0), (20, .aload_n 0, 1, 0, 0, 0, 0), (21, .getfield 59, 3, 1, 5, 0, 0), (24, .if_icmp .ge 29, 3, 53, 0, 0, 0), (27, .aload_n 0, 1, 0, 0, 0, 0), (28, .getfield 9, 3, 1, 7, 0, 0), (31, .iload_n 3, 1, 3, 0, 0, 0), (32, .iaload, 1, 0, 0, 0, 0), (33, .iload_n 2, 1, 2, 0, 0, 0), (34, .if_icmp .ne 13, 3, 47, 0, 0, 0), (37, .aload_n 0, 1, 0, 0, 0, 0), (38, .getfield 30, 3, 1, 13, 0, 0), (41, .iload_n 1, 1, 1, 0, 0, 0), (42, .iload_n 3, 1, 3, 0, 0, 0), (43, .iastore, 1, 0, 0, 0, 0), (44, .iinc 1 1, 3, 1, 0, 1, 0), (47, .iinc 3 1, 3, 3, 0, 1, 0), (50, .goto (-31), 3, 19, 0, 0, 0), (53, .iinc 2 1, 3, 2, 0, 1, 0), (56, .goto (-52), 3, 4, 0, 0, 0), (59, .aload_n 0, 1, 0, 0, 0, 0), (60, .getfield 33, 3, 1, 14, 0, 0), (63, .bipush 8, 2, 0, 0, 8, 0), (65, .iload_n 1, 1, 1, 0, 0, 0), (66, .iastore, 1, 0, 0, 0, 0), (67, .return_, 1, 0, 0, 0, 0)]
def cd5 : List am_E := cd5_0
def am_w5 : List (List (Int32 × Nat) × Nat) := []
set_option maxRecDepth 100000 in
theorem kcd5_0 : cd5_0.all (am_chk am_w5 5) = true := by decide +kernel
theorem am_k5 : cd5.all (am_chk am_w5 5) = true := by
  simp only [cd5, List.all_append, kcd5_0, Bool.and_self]
theorem am_r5 : am_rtc 5 = 4 := by decide +kernel
theorem am_l5 : am_ml 5 = 4 := by decide +kernel
def am_s5_ (z : Nat) : Nat → List aV → aM → Option aR := am_s0
theorem hs5 (z : Nat) : ∀ j2 : Nat, ∃ d2 : Nat, d2 + 1 ≤ 1 ∧ am_Snd d2 j2 (am_s5_ z j2) := (am_s0_ok (by decide))
def f5_19 (z : Nat) (k4 : Nat → Int32 → Int32 → aM → Option aR) : Nat → Nat → Int32 → Int32 → Int32 → aM → Option aR
  | 0, _, _, _, _, _ => none
  | n + 1, c0, x1, x2, x3, M =>
    if (M.1 c0 5) ≤ x3 then
      k4 c0 x1 (x2 + (1 : Int32)) M
    else
      if am_inB x3 16 then
        if ¬ (M.1 (c0 + 1) x3.toNatClampNeg) = x2 then
          f5_19 z k4 n c0 x1 x2 (x3 + (1 : Int32)) M
        else
          if am_inB x1 16 then
            let I1 := am_u M.1 (c0 + 7) x1.toNatClampNeg x3
            f5_19 z k4 n c0 (x1 + (1 : Int32)) x2 (x3 + (1 : Int32)) (I1, M.2)
          else
            none
      else
        none
set_option maxRecDepth 100000 in
set_option maxHeartbeats 4000000 in
theorem e5_19 (z : Nat) (k4 : Nat → Int32 → Int32 → aM → Option aR) (hk4 : ∀ (c0 : Nat) (x1 : Int32) (x2 : Int32) (M : aM) (r : aR), k4 c0 x1 x2 M = some r → am_Ev 1 5 4 [some (.inr (.inr (1, c0))), some (.inl x1), some (.inl x2), none] [] M r) : ∀ (n : Nat) (c0 : Nat) (x1 : Int32) (x2 : Int32) (x3 : Int32) (M : aM) (r : aR), f5_19 z k4 n c0 x1 x2 x3 M = some r → am_Ev 1 5 19 [some (.inr (.inr (1, c0))), some (.inl x1), some (.inl x2), some (.inl x3)] [] M r := by
  intro n
  induction n with
  | zero =>
    intro c0 x1 x2 x3 M r h
    cases h
  | succ n ih =>
    intro c0 x1 x2 x3 M r h
    exact am_Ev_seg (sem := am_s5_ z) (cut := ([(4, [true, true, true, false]), (19, [true, true, true, true])] : List (Nat × List Bool))) (hs5 z) am_r5 am_k5 (by rw [am_l5]; decide) (am_kc 4 (fun al st M => match al, st with
      | [some (.inr (.inr (1, c0))), some (.inl x1), some (.inl x2), none], [] => k4 c0 x1 x2 M
      | _, _ => none) (am_kc 19 (fun al st M => match al, st with
      | [some (.inr (.inr (1, c0))), some (.inl x1), some (.inl x2), some (.inl x3)], [] => f5_19 z k4 n c0 x1 x2 x3 M
      | _, _ => none) am_k0)) 20 h (am_kc_ok (fun al st M hk => by
      split at hk
      · exact hk4 _ _ _ _ _ hk
      · cases hk) (am_kc_ok (fun al st M hk => by
      split at hk
      · exact ih _ _ _ _ _ _ hk
      · cases hk) am_k0_ok))
def f5_4 (z : Nat) : Nat → Nat → Int32 → Int32 → aM → Option aR
  | 0, _, _, _, _ => none
  | n + 1, c0, x1, x2, M =>
    if (8 : Int32) ≤ x2 then
      if am_inB (8 : Int32) 9 then
        let I1 := am_u M.1 (c0 + 8) (8 : Int32).toNatClampNeg x1
        some (none, (I1, M.2))
      else
        none
    else
      if am_inB x2 9 then
        let I2 := am_u M.1 (c0 + 8) x2.toNatClampNeg x1
        f5_19 z (f5_4 z n) z c0 x1 x2 (0 : Int32) (I2, M.2)
      else
        none
set_option maxRecDepth 100000 in
set_option maxHeartbeats 4000000 in
theorem e5_4 (z : Nat) : ∀ (n : Nat) (c0 : Nat) (x1 : Int32) (x2 : Int32) (M : aM) (r : aR), f5_4 z n c0 x1 x2 M = some r → am_Ev 1 5 4 [some (.inr (.inr (1, c0))), some (.inl x1), some (.inl x2), none] [] M r := by
  intro n
  induction n with
  | zero =>
    intro c0 x1 x2 M r h
    cases h
  | succ n ih =>
    intro c0 x1 x2 M r h
    exact am_Ev_seg (sem := am_s5_ z) (cut := ([(19, [true, true, true, true])] : List (Nat × List Bool))) (hs5 z) am_r5 am_k5 (by rw [am_l5]; decide) (am_kc 19 (fun al st M => match al, st with
      | [some (.inr (.inr (1, c0))), some (.inl x1), some (.inl x2), some (.inl x3)], [] => f5_19 z (f5_4 z n) z c0 x1 x2 x3 M
      | _, _ => none) am_k0) 12 h (am_kc_ok (fun al st M hk => by
      split at hk
      · exact e5_19 z _ ih _ _ _ _ _ _ _ hk
      · cases hk) am_k0_ok)
/-- ArgumentMender$Cloth.sortThreads()V -/
def f5 (z : Nat) (c0 : Nat) (M : aM) : Option aR :=
  f5_4 z z c0 (0 : Int32) (0 : Int32) M
set_option maxRecDepth 100000 in
set_option maxHeartbeats 4000000 in
theorem e5 (z : Nat) : ∀ (c0 : Nat) (M : aM) (r : aR), f5 z c0 M = some r → am_Ev 1 5 0 [some (.inr (.inr (1, c0))), none, none, none] [] M r := by
  intro c0 M r h
  exact am_Ev_seg (sem := am_s5_ z) (cut := ([(4, [true, true, true, false])] : List (Nat × List Bool))) (hs5 z) am_r5 am_k5 (by rw [am_l5]; decide) (am_kc 4 (fun al st M => match al, st with
      | [some (.inr (.inr (1, c0))), some (.inl x1), some (.inl x2), none], [] => f5_4 z z c0 x1 x2 M
      | _, _ => none) am_k0) 6 h (am_kc_ok (fun al st M hk => by
      split at hk
      · exact e5_4 z _ _ _ _ _ _ hk
      · cases hk) am_k0_ok)
def F5 (z : Nat) (as : List aV) (M : aM) : Option aR := match as with
  | [.inr (.inr (1, c0))] => f5 z c0 M
  | _ => none
theorem S5 (z : Nat) : am_Snd 1 5 (F5 z) := am_meth (by decide +kernel) (fun as M r has h => by
    rw [am_l5]
    unfold F5 at h
    split at h
    · exact ⟨Nat.le_of_ble_eq_true rfl, e5 z _ _ _ h⟩
    · cases h)
def cd6_0 : List am_E := [(0, .aload_n 0, 1, 0, 0, 0, 0), (1, .aload_n 1, 1, 1, 0, 0, 0), (2, .getfield 43, 3, 1, 0, 0, 0), (5, .putfield 43, 3, 1, 0, 0, 0), (8, .aload_n 0, 1, 0, 0, 0, 0), (9, .aload_n 1, 1, 1, 0, 0, 0), (10, .getfield 47, 3, 1, 1, 0, 0), (13, .putfield 47, 3, 1, 1, 0, 0), (16, .aload_n 0, 1, 0, 0, 0, 0), (17, .aload_n 1, 1, 1, 0, 0, 0), (18, .getfield 50, 3, 1, 2, 0, 0), (21, .putfield 50, 3, 1, 2, 0, 0), (24, .aload_n 0, 1, 0, 0, 0, 0), (25, .aload_n 1, 1, 1, 0, 0, 0), (26, .getfield 53, 3, 1, 3, 0, 0), (29, .putfield 53, 3, 1, 3, 0, 0), (32, .aload_n 0, 1, 0, 0, 0, 0), (33, .aload_n 1, 1, 1, 0, 0, 0), (34, .getfield 56, 3, 1, 4, 0, 0), (37, .putfield 56, 3, 1, 4, 0, 0), (40, .aload_n 0, 1, 0, 0, 0, 0), (41, .aload_n 1, 1, 1, 0, 0, 0), (42, .getfield 59, 3, 1, 5, 0, 0), (45, .putfield 59, 3, 1, 5, 0, 0), (48, .aload_n 0, 1, 0, 0, 0, 0), (49, .aload_n 1, 1, 1, 0, 0, 0), (50, .getfield 62, 3, 1, 6, 0, 0), (53, .putfield 62, 3, 1, 6, 0, 0), (56, .aload_n 1, 1, 1, 0, 0, 0), (57, .getfield 9, 3, 1, 7, 0, 0), (60, .iconst 0, 1, 0, 0, 0, 0), (61, .aload_n 0, 1, 0, 0, 0, 0), (62, .getfield 9, 3, 1, 7, 0, 0), (65, .iconst 0, 1, 0, 0, 0, 0), (66, .bipush 16, 2, 0, 0, 16, 0), (68, .invokestatic 68, 3, 0, 1, 0, 0), (71, .aload_n 1, 1, 1, 0, 0, 0), (72, .getfield 15, 3, 1, 8, 0, 0), (75, .iconst 0, 1, 0, 0, 0, 0), (76, .aload_n 0, 1, 0, 0, 0, 0)]
def cd6_1 : List am_E := [(77, .getfield 15, 3, 1, 8, 0, 0), (80, .iconst 0, 1, 0, 0, 0, 0), (81, .bipush 16, 2, 0, 0, 16, 0), (83, .invokestatic 68, 3, 0, 1, 0, 0), (86, .aload_n 1, 1, 1, 0, 0, 0), (87, .getfield 18, 3, 1, 9, 0, 0), (90, .iconst 0, 1, 0, 0, 0, 0), (91, .aload_n 0, 1, 0, 0, 0, 0), (92, .getfield 18, 3, 1, 9, 0, 0), (95, .iconst 0, 1, 0, 0, 0, 0), (96, .bipush 16, 2, 0, 0, 16, 0), (98, .invokestatic 68, 3, 0, 1, 0, 0), (101, .aload_n 1, 1, 1, 0, 0, 0), (102, .getfield 21, 3, 1, 10, 0, 0), (105, .iconst 0, 1, 0, 0, 0, 0), (106, .aload_n 0, 1, 0, 0, 0, 0), (107, .getfield 21, 3, 1, 10, 0, 0), (110, .iconst 0, 1, 0, 0, 0, 0), (111, .bipush 10, 2, 0, 0, 10, 0), (113, .invokestatic 68, 3, 0, 1, 0, 0), (116, .aload_n 1, 1, 1, 0, 0, 0), (117, .getfield 24, 3, 1, 11, 0, 0), (120, .iconst 0, 1, 0, 0, 0, 0), (121, .aload_n 0, 1, 0, 0, 0, 0), (122, .getfield 24, 3, 1, 11, 0, 0), (125, .iconst 0, 1, 0, 0, 0, 0), (126, .bipush 10, 2, 0, 0, 10, 0), (128, .invokestatic 68, 3, 0, 1, 0, 0), (131, .aload_n 1, 1, 1, 0, 0, 0), (132, .getfield 27, 3, 1, 12, 0, 0), (135, .iconst 0, 1, 0, 0, 0, 0), (136, .aload_n 0, 1, 0, 0, 0, 0), (137, .getfield 27, 3, 1, 12, 0, 0), (140, .iconst 0, 1, 0, 0, 0, 0), (141, .bipush 10, 2, 0, 0, 10, 0), (143, .invokestatic 68, 3, 0, 1, 0, 0), (146, .aload_n 1, 1, 1, 0, 0, 0), (147, .getfield 30, 3, 1, 13, 0, 0), (150, .iconst 0, 1, 0, 0, 0, 0), (151, .aload_n 0, 1, 0, 0, 0, 0)]
def cd6_2 : List am_E := [(152, .getfield 30, 3, 1, 13, 0, 0), (155, .iconst 0, 1, 0, 0, 0, 0), (156, .bipush 16, 2, 0, 0, 16, 0), (158, .invokestatic 68, 3, 0, 1, 0, 0), (161, .aload_n 1, 1, 1, 0, 0, 0), (162, .getfield 33, 3, 1, 14, 0, 0), (165, .iconst 0, 1, 0, 0, 0, 0), (166, .aload_n 0, 1, 0, 0, 0, 0), (167, .getfield 33, 3, 1, 14, 0, 0), (170, .iconst 0, 1, 0, 0, 0, 0), (171, .bipush 9, 2, 0, 0, 9, 0), (173, .invokestatic 68, 3, 0, 1, 0, 0), (176, .aload_n 0, 1, 0, 0, 0, 0), (177, .getfield 39, 3, 1, 15, 0, 0), (180, .aload_n 1, 1, 1, 0, 0, 0), (181, .getfield 39, 3, 1, 15, 0, 0), (184, .invokevirtual 74, 3, 2, 14, 0, 0), (187, .return_, 1, 0, 0, 0, 0)]
def cd6 : List am_E := cd6_0 ++ (cd6_1 ++ (cd6_2))
def am_w6 : List (List (Int32 × Nat) × Nat) := []
set_option maxRecDepth 100000 in
theorem kcd6_0 : cd6_0.all (am_chk am_w6 6) = true := by decide +kernel
set_option maxRecDepth 100000 in
theorem kcd6_1 : cd6_1.all (am_chk am_w6 6) = true := by decide +kernel
set_option maxRecDepth 100000 in
theorem kcd6_2 : cd6_2.all (am_chk am_w6 6) = true := by decide +kernel
theorem am_k6 : cd6.all (am_chk am_w6 6) = true := by
  simp only [cd6, List.all_append, kcd6_0, kcd6_1, kcd6_2, Bool.and_self]
theorem am_r6 : am_rtc 6 = 4 := by decide +kernel
theorem am_l6 : am_ml 6 = 2 := by decide +kernel
def am_s6_ (z : Nat) : Nat → List aV → aM → Option aR := (am_sm 2 (F2 z) am_s0)
theorem hs6 (z : Nat) : ∀ j2 : Nat, ∃ d2 : Nat, d2 + 1 ≤ 2 ∧ am_Snd d2 j2 (am_s6_ z j2) := (am_sm_ok (S2 z) (by decide) (am_s0_ok (by decide)))
def f6_161 (z : Nat)  (c0 : Nat) (c1 : Nat) (M : aM) : Option aR :=
  if am_cpOk (0 : Int32) (0 : Int32) (9 : Int32) 9 9 then
    let I1 := am_ua M.1 (c0 + 8) (va_cpy (M.1 (c1 + 8)) (M.1 (c0 + 8)) (0 : Int32).toNatClampNeg (0 : Int32).toNatClampNeg (9 : Int32).toNatClampNeg)
    am_bv (f2 z (c0 + 9) (c1 + 9) (I1, M.2)) fun M2 =>
      some (none, M2)
  else
    none
set_option maxRecDepth 100000 in
set_option maxHeartbeats 4000000 in
theorem e6_161 (z : Nat) : ∀ (c0 : Nat) (c1 : Nat) (M : aM) (r : aR), f6_161 z c0 c1 M = some r → am_Ev 2 6 161 [some (.inr (.inr (1, c0))), some (.inr (.inr (1, c1)))] [] M r := by
  intro c0 c1 M r h
  exact am_Ev_seg (sem := am_s6_ z) (cut := ([] : List (Nat × List Bool))) (hs6 z) am_r6 am_k6 (by rw [am_l6]; decide) am_k0 15 h am_k0_ok
def f6_131 (z : Nat)  (c0 : Nat) (c1 : Nat) (M : aM) : Option aR :=
  if am_cpOk (0 : Int32) (0 : Int32) (10 : Int32) 10 10 then
    let I1 := am_ua M.1 (c0 + 6) (va_cpy (M.1 (c1 + 6)) (M.1 (c0 + 6)) (0 : Int32).toNatClampNeg (0 : Int32).toNatClampNeg (10 : Int32).toNatClampNeg)
    if am_cpOk (0 : Int32) (0 : Int32) (16 : Int32) 16 16 then
      let I2 := am_ua I1 (c0 + 7) (va_cpy (I1 (c1 + 7)) (I1 (c0 + 7)) (0 : Int32).toNatClampNeg (0 : Int32).toNatClampNeg (16 : Int32).toNatClampNeg)
      f6_161 z c0 c1 (I2, M.2)
    else
      none
  else
    none
set_option maxRecDepth 100000 in
set_option maxHeartbeats 4000000 in
theorem e6_131 (z : Nat) : ∀ (c0 : Nat) (c1 : Nat) (M : aM) (r : aR), f6_131 z c0 c1 M = some r → am_Ev 2 6 131 [some (.inr (.inr (1, c0))), some (.inr (.inr (1, c1)))] [] M r := by
  intro c0 c1 M r h
  exact am_Ev_seg (sem := am_s6_ z) (cut := ([(161, [true, true])] : List (Nat × List Bool))) (hs6 z) am_r6 am_k6 (by rw [am_l6]; decide) (am_kc 161 (fun al st M => match al, st with
      | [some (.inr (.inr (1, c0))), some (.inr (.inr (1, c1)))], [] => f6_161 z c0 c1 M
      | _, _ => none) am_k0) 18 h (am_kc_ok (fun al st M hk => by
      split at hk
      · exact e6_161 z _ _ _ _ hk
      · cases hk) am_k0_ok)
def f6_101 (z : Nat)  (c0 : Nat) (c1 : Nat) (M : aM) : Option aR :=
  if am_cpOk (0 : Int32) (0 : Int32) (10 : Int32) 10 10 then
    let I1 := am_ua M.1 (c0 + 4) (va_cpy (M.1 (c1 + 4)) (M.1 (c0 + 4)) (0 : Int32).toNatClampNeg (0 : Int32).toNatClampNeg (10 : Int32).toNatClampNeg)
    if am_cpOk (0 : Int32) (0 : Int32) (10 : Int32) 10 10 then
      let I2 := am_ua I1 (c0 + 5) (va_cpy (I1 (c1 + 5)) (I1 (c0 + 5)) (0 : Int32).toNatClampNeg (0 : Int32).toNatClampNeg (10 : Int32).toNatClampNeg)
      f6_131 z c0 c1 (I2, M.2)
    else
      none
  else
    none
set_option maxRecDepth 100000 in
set_option maxHeartbeats 4000000 in
theorem e6_101 (z : Nat) : ∀ (c0 : Nat) (c1 : Nat) (M : aM) (r : aR), f6_101 z c0 c1 M = some r → am_Ev 2 6 101 [some (.inr (.inr (1, c0))), some (.inr (.inr (1, c1)))] [] M r := by
  intro c0 c1 M r h
  exact am_Ev_seg (sem := am_s6_ z) (cut := ([(131, [true, true])] : List (Nat × List Bool))) (hs6 z) am_r6 am_k6 (by rw [am_l6]; decide) (am_kc 131 (fun al st M => match al, st with
      | [some (.inr (.inr (1, c0))), some (.inr (.inr (1, c1)))], [] => f6_131 z c0 c1 M
      | _, _ => none) am_k0) 18 h (am_kc_ok (fun al st M hk => by
      split at hk
      · exact e6_131 z _ _ _ _ hk
      · cases hk) am_k0_ok)
def f6_71 (z : Nat)  (c0 : Nat) (c1 : Nat) (M : aM) : Option aR :=
  if am_cpOk (0 : Int32) (0 : Int32) (16 : Int32) 16 16 then
    let I1 := am_ua M.1 (c0 + 2) (va_cpy (M.1 (c1 + 2)) (M.1 (c0 + 2)) (0 : Int32).toNatClampNeg (0 : Int32).toNatClampNeg (16 : Int32).toNatClampNeg)
    if am_cpOk (0 : Int32) (0 : Int32) (16 : Int32) 16 16 then
      let I2 := am_ua I1 (c0 + 3) (va_cpy (I1 (c1 + 3)) (I1 (c0 + 3)) (0 : Int32).toNatClampNeg (0 : Int32).toNatClampNeg (16 : Int32).toNatClampNeg)
      f6_101 z c0 c1 (I2, M.2)
    else
      none
  else
    none
set_option maxRecDepth 100000 in
set_option maxHeartbeats 4000000 in
theorem e6_71 (z : Nat) : ∀ (c0 : Nat) (c1 : Nat) (M : aM) (r : aR), f6_71 z c0 c1 M = some r → am_Ev 2 6 71 [some (.inr (.inr (1, c0))), some (.inr (.inr (1, c1)))] [] M r := by
  intro c0 c1 M r h
  exact am_Ev_seg (sem := am_s6_ z) (cut := ([(101, [true, true])] : List (Nat × List Bool))) (hs6 z) am_r6 am_k6 (by rw [am_l6]; decide) (am_kc 101 (fun al st M => match al, st with
      | [some (.inr (.inr (1, c0))), some (.inr (.inr (1, c1)))], [] => f6_101 z c0 c1 M
      | _, _ => none) am_k0) 18 h (am_kc_ok (fun al st M hk => by
      split at hk
      · exact e6_101 z _ _ _ _ hk
      · cases hk) am_k0_ok)
def f6_32 (z : Nat)  (c0 : Nat) (c1 : Nat) (M : aM) : Option aR :=
  let I1 := am_u M.1 c0 4 (M.1 c1 4)
  let I2 := am_u I1 c0 5 (I1 c1 5)
  let I3 := am_u I2 c0 6 (I2 c1 6)
  if am_cpOk (0 : Int32) (0 : Int32) (16 : Int32) 16 16 then
    let I4 := am_ua I3 (c0 + 1) (va_cpy (I3 (c1 + 1)) (I3 (c0 + 1)) (0 : Int32).toNatClampNeg (0 : Int32).toNatClampNeg (16 : Int32).toNatClampNeg)
    f6_71 z c0 c1 (I4, M.2)
  else
    none
set_option maxRecDepth 100000 in
set_option maxHeartbeats 4000000 in
theorem e6_32 (z : Nat) : ∀ (c0 : Nat) (c1 : Nat) (M : aM) (r : aR), f6_32 z c0 c1 M = some r → am_Ev 2 6 32 [some (.inr (.inr (1, c0))), some (.inr (.inr (1, c1)))] [] M r := by
  intro c0 c1 M r h
  exact am_Ev_seg (sem := am_s6_ z) (cut := ([(71, [true, true])] : List (Nat × List Bool))) (hs6 z) am_r6 am_k6 (by rw [am_l6]; decide) (am_kc 71 (fun al st M => match al, st with
      | [some (.inr (.inr (1, c0))), some (.inr (.inr (1, c1)))], [] => f6_71 z c0 c1 M
      | _, _ => none) am_k0) 22 h (am_kc_ok (fun al st M hk => by
      split at hk
      · exact e6_71 z _ _ _ _ hk
      · cases hk) am_k0_ok)
/-- ArgumentMender$Cloth.takeOver(LArgumentMender$Cloth;)V -/
def f6 (z : Nat) (c0 : Nat) (c1 : Nat) (M : aM) : Option aR :=
  let I1 := am_u M.1 c0 0 (M.1 c1 0)
  let I2 := am_u I1 c0 1 (I1 c1 1)
  let I3 := am_u I2 c0 2 (I2 c1 2)
  let I4 := am_u I3 c0 3 (I3 c1 3)
  f6_32 z c0 c1 (I4, M.2)
set_option maxRecDepth 100000 in
set_option maxHeartbeats 4000000 in
theorem e6 (z : Nat) : ∀ (c0 : Nat) (c1 : Nat) (M : aM) (r : aR), f6 z c0 c1 M = some r → am_Ev 2 6 0 [some (.inr (.inr (1, c0))), some (.inr (.inr (1, c1)))] [] M r := by
  intro c0 c1 M r h
  exact am_Ev_seg (sem := am_s6_ z) (cut := ([(32, [true, true])] : List (Nat × List Bool))) (hs6 z) am_r6 am_k6 (by rw [am_l6]; decide) (am_kc 32 (fun al st M => match al, st with
      | [some (.inr (.inr (1, c0))), some (.inr (.inr (1, c1)))], [] => f6_32 z c0 c1 M
      | _, _ => none) am_k0) 18 h (am_kc_ok (fun al st M hk => by
      split at hk
      · exact e6_32 z _ _ _ _ hk
      · cases hk) am_k0_ok)
def F6 (z : Nat) (as : List aV) (M : aM) : Option aR := match as with
  | [.inr (.inr (1, c0)), .inr (.inr (1, c1))] => f6 z c0 c1 M
  | _ => none
theorem S6 (z : Nat) : am_Snd 2 6 (F6 z) := am_meth (by decide +kernel) (fun as M r has h => by
    rw [am_l6]
    unfold F6 at h
    split at h
    · exact ⟨Nat.le_of_ble_eq_true rfl, e6 z _ _ _ _ h⟩
    · cases h)
def cd7_0 : List am_E := [(0, .aload_n 0, 1, 0, 0, 0, 0), (1, .getfield 43, 3, 1, 0, 0, 0), (4, .ifCond .le 7, 3, 11, 0, 0, 0), (7, .iconst 1, 1, 0, 0, 1, 0), (8, .goto 4, 3, 12, 0, 0, 0), (11, .iconst 0, 1, 0, 0, 0, 0), (12, .ireturn, 1, 0, 0, 0, 0)]
def cd7 : List am_E := cd7_0
def am_w7 : List (List (Int32 × Nat) × Nat) := []
set_option maxRecDepth 100000 in
theorem kcd7_0 : cd7_0.all (am_chk am_w7 7) = true := by decide +kernel
theorem am_k7 : cd7.all (am_chk am_w7 7) = true := by
  simp only [cd7, List.all_append, kcd7_0, Bool.and_self]
theorem am_r7 : am_rtc 7 = 1 := by decide +kernel
theorem am_l7 : am_ml 7 = 1 := by decide +kernel
def am_s7_ (z : Nat) : Nat → List aV → aM → Option aR := am_s0
theorem hs7 (z : Nat) : ∀ j2 : Nat, ∃ d2 : Nat, d2 + 1 ≤ 1 ∧ am_Snd d2 j2 (am_s7_ z j2) := (am_s0_ok (by decide))
/-- ArgumentMender$Cloth.isThere()Z -/
def f7 (z : Nat) (c0 : Nat) (M : aM) : Option aR :=
  if (M.1 c0 0) ≤ 0 then
    some (some (.inl ((0 : Int32) &&& 1)), M)
  else
    some (some (.inl ((1 : Int32) &&& 1)), M)
set_option maxRecDepth 100000 in
set_option maxHeartbeats 4000000 in
theorem e7 (z : Nat) : ∀ (c0 : Nat) (M : aM) (r : aR), f7 z c0 M = some r → am_Ev 1 7 0 [some (.inr (.inr (1, c0)))] [] M r := by
  intro c0 M r h
  exact am_Ev_seg (sem := am_s7_ z) (cut := ([] : List (Nat × List Bool))) (hs7 z) am_r7 am_k7 (by rw [am_l7]; decide) am_k0 7 h am_k0_ok
def F7 (z : Nat) (as : List aV) (M : aM) : Option aR := match as with
  | [.inr (.inr (1, c0))] => f7 z c0 M
  | _ => none
theorem S7 (z : Nat) : am_Snd 1 7 (F7 z) := am_meth (by decide +kernel) (fun as M r has h => by
    rw [am_l7]
    unfold F7 at h
    split at h
    · exact ⟨Nat.le_of_ble_eq_true rfl, e7 z _ _ _ h⟩
    · cases h)
def cd8_0 : List am_E := [(0, .iload_n 1, 1, 1, 0, 0, 0), (1, .ifCond .lt 15, 3, 16, 0, 0, 0), (4, .iload_n 1, 1, 1, 0, 0, 0), (5, .aload_n 0, 1, 0, 0, 0, 0), (6, .getfield 56, 3, 1, 4, 0, 0), (9, .if_icmp .ge 7, 3, 16, 0, 0, 0), (12, .iconst 1, 1, 0, 0, 1, 0), (13, .goto 4, 3, 17, 0, 0, 0), (16, .iconst 0, 1, 0, 0, 0, 0), (17, .ireturn, 1, 0, 0, 0, 0)]
def cd8 : List am_E := cd8_0
def am_w8 : List (List (Int32 × Nat) × Nat) := []
set_option maxRecDepth 100000 in
theorem kcd8_0 : cd8_0.all (am_chk am_w8 8) = true := by decide +kernel
theorem am_k8 : cd8.all (am_chk am_w8 8) = true := by
  simp only [cd8, List.all_append, kcd8_0, Bool.and_self]
theorem am_r8 : am_rtc 8 = 1 := by decide +kernel
theorem am_l8 : am_ml 8 = 2 := by decide +kernel
def am_s8_ (z : Nat) : Nat → List aV → aM → Option aR := am_s0
theorem hs8 (z : Nat) : ∀ j2 : Nat, ∃ d2 : Nat, d2 + 1 ≤ 1 ∧ am_Snd d2 j2 (am_s8_ z j2) := (am_s0_ok (by decide))
/-- ArgumentMender$Cloth.hasClaim(I)Z -/
def f8 (z : Nat) (c0 : Nat) (x1 : Int32) (M : aM) : Option aR :=
  if x1 < 0 then
    some (some (.inl ((0 : Int32) &&& 1)), M)
  else
    if (M.1 c0 4) ≤ x1 then
      some (some (.inl ((0 : Int32) &&& 1)), M)
    else
      some (some (.inl ((1 : Int32) &&& 1)), M)
set_option maxRecDepth 100000 in
set_option maxHeartbeats 4000000 in
theorem e8 (z : Nat) : ∀ (c0 : Nat) (x1 : Int32) (M : aM) (r : aR), f8 z c0 x1 M = some r → am_Ev 1 8 0 [some (.inr (.inr (1, c0))), some (.inl x1)] [] M r := by
  intro c0 x1 M r h
  exact am_Ev_seg (sem := am_s8_ z) (cut := ([] : List (Nat × List Bool))) (hs8 z) am_r8 am_k8 (by rw [am_l8]; decide) am_k0 10 h am_k0_ok
def F8 (z : Nat) (as : List aV) (M : aM) : Option aR := match as with
  | [.inr (.inr (1, c0)), .inl x1] => f8 z c0 x1 M
  | _ => none
theorem S8 (z : Nat) : am_Snd 1 8 (F8 z) := am_meth (by decide +kernel) (fun as M r has h => by
    rw [am_l8]
    unfold F8 at h
    split at h
    · exact ⟨Nat.le_of_ble_eq_true rfl, e8 z _ _ _ _ h⟩
    · cases h)
def cd9_0 : List am_E := [(0, .iload_n 1, 1, 1, 0, 0, 0), (1, .ifCond .lt 15, 3, 16, 0, 0, 0), (4, .iload_n 1, 1, 1, 0, 0, 0), (5, .aload_n 0, 1, 0, 0, 0, 0), (6, .getfield 59, 3, 1, 5, 0, 0), (9, .if_icmp .ge 7, 3, 16, 0, 0, 0), (12, .iconst 1, 1, 0, 0, 1, 0), (13, .goto 4, 3, 17, 0, 0, 0), (16, .iconst 0, 1, 0, 0, 0, 0), (17, .ireturn, 1, 0, 0, 0, 0)]
def cd9 : List am_E := cd9_0
def am_w9 : List (List (Int32 × Nat) × Nat) := []
set_option maxRecDepth 100000 in
theorem kcd9_0 : cd9_0.all (am_chk am_w9 9) = true := by decide +kernel
theorem am_k9 : cd9.all (am_chk am_w9 9) = true := by
  simp only [cd9, List.all_append, kcd9_0, Bool.and_self]
theorem am_r9 : am_rtc 9 = 1 := by decide +kernel
theorem am_l9 : am_ml 9 = 2 := by decide +kernel
def am_s9_ (z : Nat) : Nat → List aV → aM → Option aR := am_s0
theorem hs9 (z : Nat) : ∀ j2 : Nat, ∃ d2 : Nat, d2 + 1 ≤ 1 ∧ am_Snd d2 j2 (am_s9_ z j2) := (am_s0_ok (by decide))
/-- ArgumentMender$Cloth.hasThread(I)Z -/
def f9 (z : Nat) (c0 : Nat) (x1 : Int32) (M : aM) : Option aR :=
  if x1 < 0 then
    some (some (.inl ((0 : Int32) &&& 1)), M)
  else
    if (M.1 c0 5) ≤ x1 then
      some (some (.inl ((0 : Int32) &&& 1)), M)
    else
      some (some (.inl ((1 : Int32) &&& 1)), M)
set_option maxRecDepth 100000 in
set_option maxHeartbeats 4000000 in
theorem e9 (z : Nat) : ∀ (c0 : Nat) (x1 : Int32) (M : aM) (r : aR), f9 z c0 x1 M = some r → am_Ev 1 9 0 [some (.inr (.inr (1, c0))), some (.inl x1)] [] M r := by
  intro c0 x1 M r h
  exact am_Ev_seg (sem := am_s9_ z) (cut := ([] : List (Nat × List Bool))) (hs9 z) am_r9 am_k9 (by rw [am_l9]; decide) am_k0 10 h am_k0_ok
def F9 (z : Nat) (as : List aV) (M : aM) : Option aR := match as with
  | [.inr (.inr (1, c0)), .inl x1] => f9 z c0 x1 M
  | _ => none
theorem S9 (z : Nat) : am_Snd 1 9 (F9 z) := am_meth (by decide +kernel) (fun as M r has h => by
    rw [am_l9]
    unfold F9 at h
    split at h
    · exact ⟨Nat.le_of_ble_eq_true rfl, e9 z _ _ _ _ h⟩
    · cases h)
def cd10_0 : List am_E := [(0, .iload_n 1, 1, 1, 0, 0, 0), (1, .ifCond .lt 15, 3, 16, 0, 0, 0), (4, .iload_n 1, 1, 1, 0, 0, 0), (5, .aload_n 0, 1, 0, 0, 0, 0), (6, .getfield 62, 3, 1, 6, 0, 0), (9, .if_icmp .ge 7, 3, 16, 0, 0, 0), (12, .iconst 1, 1, 0, 0, 1, 0), (13, .goto 4, 3, 17, 0, 0, 0), (16, .iconst 0, 1, 0, 0, 0, 0), (17, .ireturn, 1, 0, 0, 0, 0)]
def cd10 : List am_E := cd10_0
def am_w10 : List (List (Int32 × Nat) × Nat) := []
set_option maxRecDepth 100000 in
theorem kcd10_0 : cd10_0.all (am_chk am_w10 10) = true := by decide +kernel
theorem am_k10 : cd10.all (am_chk am_w10 10) = true := by
  simp only [cd10, List.all_append, kcd10_0, Bool.and_self]
theorem am_r10 : am_rtc 10 = 1 := by decide +kernel
theorem am_l10 : am_ml 10 = 2 := by decide +kernel
def am_s10_ (z : Nat) : Nat → List aV → aM → Option aR := am_s0
theorem hs10 (z : Nat) : ∀ j2 : Nat, ∃ d2 : Nat, d2 + 1 ≤ 1 ∧ am_Snd d2 j2 (am_s10_ z j2) := (am_s0_ok (by decide))
/-- ArgumentMender$Cloth.hasQuarrel(I)Z -/
def f10 (z : Nat) (c0 : Nat) (x1 : Int32) (M : aM) : Option aR :=
  if x1 < 0 then
    some (some (.inl ((0 : Int32) &&& 1)), M)
  else
    if (M.1 c0 6) ≤ x1 then
      some (some (.inl ((0 : Int32) &&& 1)), M)
    else
      some (some (.inl ((1 : Int32) &&& 1)), M)
set_option maxRecDepth 100000 in
set_option maxHeartbeats 4000000 in
theorem e10 (z : Nat) : ∀ (c0 : Nat) (x1 : Int32) (M : aM) (r : aR), f10 z c0 x1 M = some r → am_Ev 1 10 0 [some (.inr (.inr (1, c0))), some (.inl x1)] [] M r := by
  intro c0 x1 M r h
  exact am_Ev_seg (sem := am_s10_ z) (cut := ([] : List (Nat × List Bool))) (hs10 z) am_r10 am_k10 (by rw [am_l10]; decide) am_k0 10 h am_k0_ok
def F10 (z : Nat) (as : List aV) (M : aM) : Option aR := match as with
  | [.inr (.inr (1, c0)), .inl x1] => f10 z c0 x1 M
  | _ => none
theorem S10 (z : Nat) : am_Snd 1 10 (F10 z) := am_meth (by decide +kernel) (fun as M r has h => by
    rw [am_l10]
    unfold F10 at h
    split at h
    · exact ⟨Nat.le_of_ble_eq_true rfl, e10 z _ _ _ _ h⟩
    · cases h)
def cd11_0 : List am_E := [(0, .aload_n 0, 1, 0, 0, 0, 0), (1, .invokevirtual 78, 3, 7, 1000, 0, 0), (4, .ifCond .eq 19, 3, 23, 0, 0, 0), (7, .iload_n 1, 1, 1, 0, 0, 0), (8, .ifCond .lt 15, 3, 23, 0, 0, 0), (11, .iload_n 1, 1, 1, 0, 0, 0), (12, .aload_n 0, 1, 0, 0, 0, 0), (13, .getfield 47, 3, 1, 1, 0, 0), (16, .if_icmp .gt 7, 3, 23, 0, 0, 0), (19, .iconst 1, 1, 0, 0, 1, 0), (20, .goto 4, 3, 24, 0, 0, 0), (23, .iconst 0, 1, 0, 0, 0, 0), (24, .ireturn, 1, 0, 0, 0, 0)]
def cd11 : List am_E := cd11_0
def am_w11 : List (List (Int32 × Nat) × Nat) := []
set_option maxRecDepth 100000 in
theorem kcd11_0 : cd11_0.all (am_chk am_w11 11) = true := by decide +kernel
theorem am_k11 : cd11.all (am_chk am_w11 11) = true := by
  simp only [cd11, List.all_append, kcd11_0, Bool.and_self]
theorem am_r11 : am_rtc 11 = 1 := by decide +kernel
theorem am_l11 : am_ml 11 = 2 := by decide +kernel
def am_s11_ (z : Nat) : Nat → List aV → aM → Option aR := (am_sm 7 (F7 z) am_s0)
theorem hs11 (z : Nat) : ∀ j2 : Nat, ∃ d2 : Nat, d2 + 1 ≤ 2 ∧ am_Snd d2 j2 (am_s11_ z j2) := (am_sm_ok (S7 z) (by decide) (am_s0_ok (by decide)))
/-- ArgumentMender$Cloth.hasYear(I)Z -/
def f11 (z : Nat) (c0 : Nat) (x1 : Int32) (M : aM) : Option aR :=
  am_bi (f7 z c0 M) fun v2 M1 =>
    if v2 = 0 then
      some (some (.inl ((0 : Int32) &&& 1)), M1)
    else
      if x1 < 0 then
        some (some (.inl ((0 : Int32) &&& 1)), M1)
      else
        if (M1.1 c0 1) < x1 then
          some (some (.inl ((0 : Int32) &&& 1)), M1)
        else
          some (some (.inl ((1 : Int32) &&& 1)), M1)
set_option maxRecDepth 100000 in
set_option maxHeartbeats 4000000 in
theorem e11 (z : Nat) : ∀ (c0 : Nat) (x1 : Int32) (M : aM) (r : aR), f11 z c0 x1 M = some r → am_Ev 2 11 0 [some (.inr (.inr (1, c0))), some (.inl x1)] [] M r := by
  intro c0 x1 M r h
  exact am_Ev_seg (sem := am_s11_ z) (cut := ([] : List (Nat × List Bool))) (hs11 z) am_r11 am_k11 (by rw [am_l11]; decide) am_k0 13 h am_k0_ok
def F11 (z : Nat) (as : List aV) (M : aM) : Option aR := match as with
  | [.inr (.inr (1, c0)), .inl x1] => f11 z c0 x1 M
  | _ => none
theorem S11 (z : Nat) : am_Snd 2 11 (F11 z) := am_meth (by decide +kernel) (fun as M r has h => by
    rw [am_l11]
    unfold F11 at h
    split at h
    · exact ⟨Nat.le_of_ble_eq_true rfl, e11 z _ _ _ _ h⟩
    · cases h)
def cd12_0 : List am_E := [(0, .aload_n 0, 1, 0, 0, 0, 0), (1, .invokevirtual 78, 3, 7, 1000, 0, 0), (4, .ifCond .eq 19, 3, 23, 0, 0, 0), (7, .iload_n 1, 1, 1, 0, 0, 0), (8, .ifCond .lt 15, 3, 23, 0, 0, 0), (11, .iload_n 1, 1, 1, 0, 0, 0), (12, .aload_n 0, 1, 0, 0, 0, 0), (13, .getfield 47, 3, 1, 1, 0, 0), (16, .if_icmp .ge 7, 3, 23, 0, 0, 0), (19, .iconst 1, 1, 0, 0, 1, 0), (20, .goto 4, 3, 24, 0, 0, 0), (23, .iconst 0, 1, 0, 0, 0, 0), (24, .ireturn, 1, 0, 0, 0, 0)]
def cd12 : List am_E := cd12_0
def am_w12 : List (List (Int32 × Nat) × Nat) := []
set_option maxRecDepth 100000 in
theorem kcd12_0 : cd12_0.all (am_chk am_w12 12) = true := by decide +kernel
theorem am_k12 : cd12.all (am_chk am_w12 12) = true := by
  simp only [cd12, List.all_append, kcd12_0, Bool.and_self]
theorem am_r12 : am_rtc 12 = 1 := by decide +kernel
theorem am_l12 : am_ml 12 = 2 := by decide +kernel
def am_s12_ (z : Nat) : Nat → List aV → aM → Option aR := (am_sm 7 (F7 z) am_s0)
theorem hs12 (z : Nat) : ∀ j2 : Nat, ∃ d2 : Nat, d2 + 1 ≤ 2 ∧ am_Snd d2 j2 (am_s12_ z j2) := (am_sm_ok (S7 z) (by decide) (am_s0_ok (by decide)))
/-- ArgumentMender$Cloth.hasYearAhead(I)Z -/
def f12 (z : Nat) (c0 : Nat) (x1 : Int32) (M : aM) : Option aR :=
  am_bi (f7 z c0 M) fun v2 M1 =>
    if v2 = 0 then
      some (some (.inl ((0 : Int32) &&& 1)), M1)
    else
      if x1 < 0 then
        some (some (.inl ((0 : Int32) &&& 1)), M1)
      else
        if (M1.1 c0 1) ≤ x1 then
          some (some (.inl ((0 : Int32) &&& 1)), M1)
        else
          some (some (.inl ((1 : Int32) &&& 1)), M1)
set_option maxRecDepth 100000 in
set_option maxHeartbeats 4000000 in
theorem e12 (z : Nat) : ∀ (c0 : Nat) (x1 : Int32) (M : aM) (r : aR), f12 z c0 x1 M = some r → am_Ev 2 12 0 [some (.inr (.inr (1, c0))), some (.inl x1)] [] M r := by
  intro c0 x1 M r h
  exact am_Ev_seg (sem := am_s12_ z) (cut := ([] : List (Nat × List Bool))) (hs12 z) am_r12 am_k12 (by rw [am_l12]; decide) am_k0 13 h am_k0_ok
def F12 (z : Nat) (as : List aV) (M : aM) : Option aR := match as with
  | [.inr (.inr (1, c0)), .inl x1] => f12 z c0 x1 M
  | _ => none
theorem S12 (z : Nat) : am_Snd 2 12 (F12 z) := am_meth (by decide +kernel) (fun as M r has h => by
    rw [am_l12]
    unfold F12 at h
    split at h
    · exact ⟨Nat.le_of_ble_eq_true rfl, e12 z _ _ _ _ h⟩
    · cases h)
def cd13_0 : List am_E := [(0, .iconst 1, 1, 0, 0, 1, 0), (1, .aload_n 0, 1, 0, 0, 0, 0), (2, .getfield 56, 3, 1, 4, 0, 0), (5, .ishl, 1, 0, 0, 0, 0), (6, .iconst 1, 1, 0, 0, 1, 0), (7, .isub, 1, 0, 0, 0, 0), (8, .ireturn, 1, 0, 0, 0, 0)]
def cd13 : List am_E := cd13_0
def am_w13 : List (List (Int32 × Nat) × Nat) := []
set_option maxRecDepth 100000 in
theorem kcd13_0 : cd13_0.all (am_chk am_w13 13) = true := by decide +kernel
theorem am_k13 : cd13.all (am_chk am_w13 13) = true := by
  simp only [cd13, List.all_append, kcd13_0, Bool.and_self]
theorem am_r13 : am_rtc 13 = 0 := by decide +kernel
theorem am_l13 : am_ml 13 = 1 := by decide +kernel
def am_s13_ (z : Nat) : Nat → List aV → aM → Option aR := am_s0
theorem hs13 (z : Nat) : ∀ j2 : Nat, ∃ d2 : Nat, d2 + 1 ≤ 1 ∧ am_Snd d2 j2 (am_s13_ z j2) := (am_s0_ok (by decide))
/-- ArgumentMender$Cloth.allClaims()I -/
def f13 (z : Nat) (c0 : Nat) (M : aM) : Option aR :=
  some (some (.inl (((1 : Int32) <<< ((M.1 c0 4) &&& 31)) - (1 : Int32))), M)
set_option maxRecDepth 100000 in
set_option maxHeartbeats 4000000 in
theorem e13 (z : Nat) : ∀ (c0 : Nat) (M : aM) (r : aR), f13 z c0 M = some r → am_Ev 1 13 0 [some (.inr (.inr (1, c0)))] [] M r := by
  intro c0 M r h
  exact am_Ev_seg (sem := am_s13_ z) (cut := ([] : List (Nat × List Bool))) (hs13 z) am_r13 am_k13 (by rw [am_l13]; decide) am_k0 8 h am_k0_ok
def F13 (z : Nat) (as : List aV) (M : aM) : Option aR := match as with
  | [.inr (.inr (1, c0))] => f13 z c0 M
  | _ => none
theorem S13 (z : Nat) : am_Snd 1 13 (F13 z) := am_meth (by decide +kernel) (fun as M r has h => by
    rw [am_l13]
    unfold F13 at h
    split at h
    · exact ⟨Nat.le_of_ble_eq_true rfl, e13 z _ _ _ h⟩
    · cases h)
def cd14_0 : List am_E := [(0, .iconst 1, 1, 0, 0, 1, 0), (1, .aload_n 0, 1, 0, 0, 0, 0), (2, .getfield 59, 3, 1, 5, 0, 0), (5, .ishl, 1, 0, 0, 0, 0), (6, .iconst 1, 1, 0, 0, 1, 0), (7, .isub, 1, 0, 0, 0, 0), (8, .ireturn, 1, 0, 0, 0, 0)]
def cd14 : List am_E := cd14_0
def am_w14 : List (List (Int32 × Nat) × Nat) := []
set_option maxRecDepth 100000 in
theorem kcd14_0 : cd14_0.all (am_chk am_w14 14) = true := by decide +kernel
theorem am_k14 : cd14.all (am_chk am_w14 14) = true := by
  simp only [cd14, List.all_append, kcd14_0, Bool.and_self]
theorem am_r14 : am_rtc 14 = 0 := by decide +kernel
theorem am_l14 : am_ml 14 = 1 := by decide +kernel
def am_s14_ (z : Nat) : Nat → List aV → aM → Option aR := am_s0
theorem hs14 (z : Nat) : ∀ j2 : Nat, ∃ d2 : Nat, d2 + 1 ≤ 1 ∧ am_Snd d2 j2 (am_s14_ z j2) := (am_s0_ok (by decide))
/-- ArgumentMender$Cloth.allThreads()I -/
def f14 (z : Nat) (c0 : Nat) (M : aM) : Option aR :=
  some (some (.inl (((1 : Int32) <<< ((M.1 c0 5) &&& 31)) - (1 : Int32))), M)
set_option maxRecDepth 100000 in
set_option maxHeartbeats 4000000 in
theorem e14 (z : Nat) : ∀ (c0 : Nat) (M : aM) (r : aR), f14 z c0 M = some r → am_Ev 1 14 0 [some (.inr (.inr (1, c0)))] [] M r := by
  intro c0 M r h
  exact am_Ev_seg (sem := am_s14_ z) (cut := ([] : List (Nat × List Bool))) (hs14 z) am_r14 am_k14 (by rw [am_l14]; decide) am_k0 8 h am_k0_ok
def F14 (z : Nat) (as : List aV) (M : aM) : Option aR := match as with
  | [.inr (.inr (1, c0))] => f14 z c0 M
  | _ => none
theorem S14 (z : Nat) : am_Snd 1 14 (F14 z) := am_meth (by decide +kernel) (fun as M r has h => by
    rw [am_l14]
    unfold F14 at h
    split at h
    · exact ⟨Nat.le_of_ble_eq_true rfl, e14 z _ _ _ h⟩
    · cases h)
def cd15_0 : List am_E := [(0, .iconst 1, 1, 0, 0, 1, 0), (1, .aload_n 0, 1, 0, 0, 0, 0), (2, .getfield 62, 3, 1, 6, 0, 0), (5, .ishl, 1, 0, 0, 0, 0), (6, .iconst 1, 1, 0, 0, 1, 0), (7, .isub, 1, 0, 0, 0, 0), (8, .ireturn, 1, 0, 0, 0, 0)]
def cd15 : List am_E := cd15_0
def am_w15 : List (List (Int32 × Nat) × Nat) := []
set_option maxRecDepth 100000 in
theorem kcd15_0 : cd15_0.all (am_chk am_w15 15) = true := by decide +kernel
theorem am_k15 : cd15.all (am_chk am_w15 15) = true := by
  simp only [cd15, List.all_append, kcd15_0, Bool.and_self]
theorem am_r15 : am_rtc 15 = 0 := by decide +kernel
theorem am_l15 : am_ml 15 = 1 := by decide +kernel
def am_s15_ (z : Nat) : Nat → List aV → aM → Option aR := am_s0
theorem hs15 (z : Nat) : ∀ j2 : Nat, ∃ d2 : Nat, d2 + 1 ≤ 1 ∧ am_Snd d2 j2 (am_s15_ z j2) := (am_s0_ok (by decide))
/-- ArgumentMender$Cloth.allQuarrels()I -/
def f15 (z : Nat) (c0 : Nat) (M : aM) : Option aR :=
  some (some (.inl (((1 : Int32) <<< ((M.1 c0 6) &&& 31)) - (1 : Int32))), M)
set_option maxRecDepth 100000 in
set_option maxHeartbeats 4000000 in
theorem e15 (z : Nat) : ∀ (c0 : Nat) (M : aM) (r : aR), f15 z c0 M = some r → am_Ev 1 15 0 [some (.inr (.inr (1, c0)))] [] M r := by
  intro c0 M r h
  exact am_Ev_seg (sem := am_s15_ z) (cut := ([] : List (Nat × List Bool))) (hs15 z) am_r15 am_k15 (by rw [am_l15]; decide) am_k0 8 h am_k0_ok
def F15 (z : Nat) (as : List aV) (M : aM) : Option aR := match as with
  | [.inr (.inr (1, c0))] => f15 z c0 M
  | _ => none
theorem S15 (z : Nat) : am_Snd 1 15 (F15 z) := am_meth (by decide +kernel) (fun as M r has h => by
    rw [am_l15]
    unfold F15 at h
    split at h
    · exact ⟨Nat.le_of_ble_eq_true rfl, e15 z _ _ _ h⟩
    · cases h)
def cd26_0 : List am_E := [(0, .aload_n 0, 1, 0, 0, 0, 0), (1, .iload_n 1, 1, 1, 0, 0, 0), (2, .putfield 32, 3, 2, 2, 0, 0), (5, .aload_n 0, 1, 0, 0, 0, 0), (6, .aload_n 0, 1, 0, 0, 0, 0), (7, .getfield 12, 3, 2, 0, 0, 0), (10, .getfield 145, 3, 5, 3, 0, 0), (13, .putfield 25, 3, 2, 3, 0, 0), (16, .iconst 0, 1, 0, 0, 0, 0), (17, .ireturn, 1, 0, 0, 0, 0)]
def cd26 : List am_E := cd26_0
def am_w26 : List (List (Int32 × Nat) × Nat) := []
set_option maxRecDepth 100000 in
theorem kcd26_0 : cd26_0.all (am_chk am_w26 26) = true := by decide +kernel
theorem am_k26 : cd26.all (am_chk am_w26 26) = true := by
  simp only [cd26, List.all_append, kcd26_0, Bool.and_self]
theorem am_r26 : am_rtc 26 = 1 := by decide +kernel
theorem am_l26 : am_ml 26 = 2 := by decide +kernel
def am_s26_ (z : Nat) : Nat → List aV → aM → Option aR := am_s0
theorem hs26 (z : Nat) : ∀ j2 : Nat, ∃ d2 : Nat, d2 + 1 ≤ 1 ∧ am_Snd d2 j2 (am_s26_ z j2) := (am_s0_ok (by decide))
/-- ArgumentMender$Reader.fail(I)Z -/
def f26 (z : Nat) (x1 : Int32) (M : aM) : Option aR :=
  let I1 := am_u M.1 1 2 x1
  let I2 := am_u I1 1 3 (I1 2 3)
  some (some (.inl ((0 : Int32) &&& 1)), (I2, M.2))
set_option maxRecDepth 100000 in
set_option maxHeartbeats 4000000 in
theorem e26 (z : Nat) : ∀ (x1 : Int32) (M : aM) (r : aR), f26 z x1 M = some r → am_Ev 1 26 0 [some (.inr (.inr (2, 1))), some (.inl x1)] [] M r := by
  intro x1 M r h
  exact am_Ev_seg (sem := am_s26_ z) (cut := ([] : List (Nat × List Bool))) (hs26 z) am_r26 am_k26 (by rw [am_l26]; decide) am_k0 11 h am_k0_ok
def F26 (z : Nat) (as : List aV) (M : aM) : Option aR := match as with
  | [.inr (.inr (2, 1)), .inl x1] => f26 z x1 M
  | _ => none
theorem S26 (z : Nat) : am_Snd 1 26 (F26 z) := am_meth (by decide +kernel) (fun as M r has h => by
    rw [am_l26]
    unfold F26 at h
    split at h
    · exact ⟨Nat.le_of_ble_eq_true rfl, e26 z _ _ _ h⟩
    · cases h)
def cd41_0 : List am_E := [(0, .aload_n 0, 1, 0, 0, 0, 0), (1, .getfield 9, 3, 5, 0, 0, 0), (4, .aload_n 0, 1, 0, 0, 0, 0), (5, .getfield 19, 3, 5, 2, 0, 0), (8, .baload, 1, 0, 0, 0, 0), (9, .bipush 97, 2, 0, 0, 97, 0), (11, .if_icmp .lt 21, 3, 32, 0, 0, 0), (14, .aload_n 0, 1, 0, 0, 0, 0), (15, .getfield 9, 3, 5, 0, 0, 0), (18, .aload_n 0, 1, 0, 0, 0, 0), (19, .getfield 19, 3, 5, 2, 0, 0), (22, .baload, 1, 0, 0, 0, 0), (23, .bipush 122, 2, 0, 0, 122, 0), (25, .if_icmp .gt 7, 3, 32, 0, 0, 0), (28, .iconst 1, 1, 0, 0, 1, 0), (29, .goto 4, 3, 33, 0, 0, 0), (32, .iconst 0, 1, 0, 0, 0, 0), (33, .ireturn, 1, 0, 0, 0, 0)]
def cd41 : List am_E := cd41_0
def am_w41 : List (List (Int32 × Nat) × Nat) := []
set_option maxRecDepth 100000 in
theorem kcd41_0 : cd41_0.all (am_chk am_w41 41) = true := by decide +kernel
theorem am_k41 : cd41.all (am_chk am_w41 41) = true := by
  simp only [cd41, List.all_append, kcd41_0, Bool.and_self]
theorem am_r41 : am_rtc 41 = 1 := by decide +kernel
theorem am_l41 : am_ml 41 = 1 := by decide +kernel
def am_s41_ (z : Nat) : Nat → List aV → aM → Option aR := am_s0
theorem hs41 (z : Nat) : ∀ j2 : Nat, ∃ d2 : Nat, d2 + 1 ≤ 1 ∧ am_Snd d2 j2 (am_s41_ z j2) := (am_s0_ok (by decide))
/-- ArgumentMender$Tape.isLetter()Z -/
def f41 (z : Nat) (M : aM) : Option aR :=
  if am_inB (M.1 2 2) 800 then
    if (M.1 3 (M.1 2 2).toNatClampNeg) < (97 : Int32) then
      some (some (.inl ((0 : Int32) &&& 1)), M)
    else
      if am_inB (M.1 2 2) 800 then
        if (122 : Int32) < (M.1 3 (M.1 2 2).toNatClampNeg) then
          some (some (.inl ((0 : Int32) &&& 1)), M)
        else
          some (some (.inl ((1 : Int32) &&& 1)), M)
      else
        none
  else
    none
set_option maxRecDepth 100000 in
set_option maxHeartbeats 4000000 in
theorem e41 (z : Nat) : ∀ (M : aM) (r : aR), f41 z  M = some r → am_Ev 1 41 0 [some (.inr (.inr (5, 2)))] [] M r := by
  intro  M r h
  exact am_Ev_seg (sem := am_s41_ z) (cut := ([] : List (Nat × List Bool))) (hs41 z) am_r41 am_k41 (by rw [am_l41]; decide) am_k0 18 h am_k0_ok
def F41 (z : Nat) (as : List aV) (M : aM) : Option aR := match as with
  | [.inr (.inr (5, 2))] => f41 z  M
  | _ => none
theorem S41 (z : Nat) : am_Snd 1 41 (F41 z) := am_meth (by decide +kernel) (fun as M r has h => by
    rw [am_l41]
    unfold F41 at h
    split at h
    · exact ⟨Nat.le_of_ble_eq_true rfl, e41 z _ _ h⟩
    · cases h)
def cd42_0 : List am_E := [(0, .aload_n 0, 1, 0, 0, 0, 0), (1, .getfield 9, 3, 5, 0, 0, 0), (4, .aload_n 0, 1, 0, 0, 0, 0), (5, .getfield 19, 3, 5, 2, 0, 0), (8, .baload, 1, 0, 0, 0, 0), (9, .bipush 48, 2, 0, 0, 48, 0), (11, .if_icmp .lt 21, 3, 32, 0, 0, 0), (14, .aload_n 0, 1, 0, 0, 0, 0), (15, .getfield 9, 3, 5, 0, 0, 0), (18, .aload_n 0, 1, 0, 0, 0, 0), (19, .getfield 19, 3, 5, 2, 0, 0), (22, .baload, 1, 0, 0, 0, 0), (23, .bipush 57, 2, 0, 0, 57, 0), (25, .if_icmp .gt 7, 3, 32, 0, 0, 0), (28, .iconst 1, 1, 0, 0, 1, 0), (29, .goto 4, 3, 33, 0, 0, 0), (32, .iconst 0, 1, 0, 0, 0, 0), (33, .ireturn, 1, 0, 0, 0, 0)]
def cd42 : List am_E := cd42_0
def am_w42 : List (List (Int32 × Nat) × Nat) := []
set_option maxRecDepth 100000 in
theorem kcd42_0 : cd42_0.all (am_chk am_w42 42) = true := by decide +kernel
theorem am_k42 : cd42.all (am_chk am_w42 42) = true := by
  simp only [cd42, List.all_append, kcd42_0, Bool.and_self]
theorem am_r42 : am_rtc 42 = 1 := by decide +kernel
theorem am_l42 : am_ml 42 = 1 := by decide +kernel
def am_s42_ (z : Nat) : Nat → List aV → aM → Option aR := am_s0
theorem hs42 (z : Nat) : ∀ j2 : Nat, ∃ d2 : Nat, d2 + 1 ≤ 1 ∧ am_Snd d2 j2 (am_s42_ z j2) := (am_s0_ok (by decide))
/-- ArgumentMender$Tape.isDigit()Z -/
def f42 (z : Nat) (M : aM) : Option aR :=
  if am_inB (M.1 2 2) 800 then
    if (M.1 3 (M.1 2 2).toNatClampNeg) < (48 : Int32) then
      some (some (.inl ((0 : Int32) &&& 1)), M)
    else
      if am_inB (M.1 2 2) 800 then
        if (57 : Int32) < (M.1 3 (M.1 2 2).toNatClampNeg) then
          some (some (.inl ((0 : Int32) &&& 1)), M)
        else
          some (some (.inl ((1 : Int32) &&& 1)), M)
      else
        none
  else
    none
set_option maxRecDepth 100000 in
set_option maxHeartbeats 4000000 in
theorem e42 (z : Nat) : ∀ (M : aM) (r : aR), f42 z  M = some r → am_Ev 1 42 0 [some (.inr (.inr (5, 2)))] [] M r := by
  intro  M r h
  exact am_Ev_seg (sem := am_s42_ z) (cut := ([] : List (Nat × List Bool))) (hs42 z) am_r42 am_k42 (by rw [am_l42]; decide) am_k0 18 h am_k0_ok
def F42 (z : Nat) (as : List aV) (M : aM) : Option aR := match as with
  | [.inr (.inr (5, 2))] => f42 z  M
  | _ => none
theorem S42 (z : Nat) : am_Snd 1 42 (F42 z) := am_meth (by decide +kernel) (fun as M r has h => by
    rw [am_l42]
    unfold F42 at h
    split at h
    · exact ⟨Nat.le_of_ble_eq_true rfl, e42 z _ _ h⟩
    · cases h)
def cd40_0 : List am_E := [(0, .aload_n 0, 1, 0, 0, 0, 0), (1, .getfield 19, 3, 5, 2, 0, 0), (4, .aload_n 0, 1, 0, 0, 0, 0), (5, .getfield 15, 3, 5, 1, 0, 0), (8, .if_icmp .ge 44, 3, 52, 0, 0, 0), (11, .aload_n 0, 1, 0, 0, 0, 0), (12, .getfield 9, 3, 5, 0, 0, 0), (15, .aload_n 0, 1, 0, 0, 0, 0), (16, .getfield 19, 3, 5, 2, 0, 0), (19, .baload, 1, 0, 0, 0, 0), (20, .bipush 32, 2, 0, 0, 32, 0), (22, .if_icmp .eq 17, 3, 39, 0, 0, 0), (25, .aload_n 0, 1, 0, 0, 0, 0), (26, .getfield 9, 3, 5, 0, 0, 0), (29, .aload_n 0, 1, 0, 0, 0, 0), (30, .getfield 19, 3, 5, 2, 0, 0), (33, .baload, 1, 0, 0, 0, 0), (34, .bipush 10, 2, 0, 0, 10, 0), (36, .if_icmp .ne 16, 3, 52, 0, 0, 0), (39, .aload_n 0, 1, 0, 0, 0, 0), (40, .dup, 1, 0, 0, 0, 0), (41, .getfield 19, 3, 5, 2, 0, 0), (44, .iconst 1, 1, 0, 0, 1, 0), (45, .iadd, 1, 0, 0, 0, 0), (46, .putfield 19, 3, 5, 2, 0, 0), (49, .goto (-49), 3, 0, 0, 0, 0), (52, .aload_n 0, 1, 0, 0, 0, 0), (53, .aload_n 0, 1, 0, 0, 0, 0), (54, .getfield 19, 3, 5, 2, 0, 0), (57, .putfield 22, 3, 5, 3, 0, 0), (60, .aload_n 0, 1, 0, 0, 0, 0), (61, .iconst 0, 1, 0, 0, 0, 0), (62, .putfield 25, 3, 5, 5, 0, 0), (65, .aload_n 0, 1, 0, 0, 0, 0), (66, .getfield 19, 3, 5, 2, 0, 0), (69, .aload_n 0, 1, 0, 0, 0, 0), (70, .getfield 15, 3, 5, 1, 0, 0), (73, .if_icmp .lt 11, 3, 84, 0, 0, 0), (76, .aload_n 0, 1, 0, 0, 0, 0), (77, .iconst 0, 1, 0, 0, 0, 0)]
def cd40_1 : List am_E := [(78, .putfield 28, 3, 5, 4, 0, 0), (81, .goto 151, 3, 232, 0, 0, 0), (84, .aload_n 0, 1, 0, 0, 0, 0), (85, .invokevirtual 31, 3, 41, 5000, 0, 0), (88, .ifCond .eq 39, 3, 127, 0, 0, 0), (91, .aload_n 0, 1, 0, 0, 0, 0), (92, .iconst 1, 1, 0, 0, 1, 0), (93, .putfield 28, 3, 5, 4, 0, 0), (96, .aload_n 0, 1, 0, 0, 0, 0), (97, .getfield 19, 3, 5, 2, 0, 0), (100, .aload_n 0, 1, 0, 0, 0, 0), (101, .getfield 15, 3, 5, 1, 0, 0), (104, .if_icmp .ge 128, 3, 232, 0, 0, 0), (107, .aload_n 0, 1, 0, 0, 0, 0), (108, .invokevirtual 31, 3, 41, 5000, 0, 0), (111, .ifCond .eq 121, 3, 232, 0, 0, 0), (114, .aload_n 0, 1, 0, 0, 0, 0), (115, .dup, 1, 0, 0, 0, 0), (116, .getfield 19, 3, 5, 2, 0, 0), (119, .iconst 1, 1, 0, 0, 1, 0), (120, .iadd, 1, 0, 0, 0, 0), (121, .putfield 19, 3, 5, 2, 0, 0), (124, .goto (-28), 3, 96, 0, 0, 0), (127, .aload_n 0, 1, 0, 0, 0, 0), (128, .invokevirtual 35, 3, 42, 5000, 0, 0), (131, .ifCond .eq 68, 3, 199, 0, 0, 0), (134, .aload_n 0, 1, 0, 0, 0, 0), (135, .iconst 2, 1, 0, 0, 2, 0), (136, .putfield 28, 3, 5, 4, 0, 0), (139, .aload_n 0, 1, 0, 0, 0, 0), (140, .getfield 19, 3, 5, 2, 0, 0), (143, .aload_n 0, 1, 0, 0, 0, 0), (144, .getfield 15, 3, 5, 1, 0, 0), (147, .if_icmp .ge 85, 3, 232, 0, 0, 0), (150, .aload_n 0, 1, 0, 0, 0, 0), (151, .invokevirtual 35, 3, 42, 5000, 0, 0), (154, .ifCond .eq 78, 3, 232, 0, 0, 0), (157, .aload_n 0, 1, 0, 0, 0, 0), (158, .ldc 38, 2, 0, 0, 1000000, 0), (160, .aload_n 0, 1, 0, 0, 0, 0)]
def cd40_2 : List am_E := [(161, .getfield 25, 3, 5, 5, 0, 0), (164, .bipush 10, 2, 0, 0, 10, 0), (166, .imul, 1, 0, 0, 0, 0), (167, .aload_n 0, 1, 0, 0, 0, 0), (168, .getfield 9, 3, 5, 0, 0, 0), (171, .aload_n 0, 1, 0, 0, 0, 0), (172, .getfield 19, 3, 5, 2, 0, 0), (175, .baload, 1, 0, 0, 0, 0), (176, .iadd, 1, 0, 0, 0, 0), (177, .bipush 48, 2, 0, 0, 48, 0), (179, .isub, 1, 0, 0, 0, 0), (180, .invokestatic 39, 3, 0, 2, 0, 0), (183, .putfield 25, 3, 5, 5, 0, 0), (186, .aload_n 0, 1, 0, 0, 0, 0), (187, .dup, 1, 0, 0, 0, 0), (188, .getfield 19, 3, 5, 2, 0, 0), (191, .iconst 1, 1, 0, 0, 1, 0), (192, .iadd, 1, 0, 0, 0, 0), (193, .putfield 19, 3, 5, 2, 0, 0), (196, .goto (-57), 3, 139, 0, 0, 0), (199, .aload_n 0, 1, 0, 0, 0, 0), (200, .aload_n 0, 1, 0, 0, 0, 0), (201, .getfield 9, 3, 5, 0, 0, 0), (204, .aload_n 0, 1, 0, 0, 0, 0), (205, .getfield 19, 3, 5, 2, 0, 0), (208, .baload, 1, 0, 0, 0, 0), (209, .bipush 59, 2, 0, 0, 59, 0), (211, .if_icmp .ne 7, 3, 218, 0, 0, 0), (214, .iconst 3, 1, 0, 0, 3, 0), (215, .goto 4, 3, 219, 0, 0, 0), (218, .iconst 4, 1, 0, 0, 4, 0), (219, .putfield 28, 3, 5, 4, 0, 0), (222, .aload_n 0, 1, 0, 0, 0, 0), (223, .dup, 1, 0, 0, 0, 0), (224, .getfield 19, 3, 5, 2, 0, 0), (227, .iconst 1, 1, 0, 0, 1, 0), (228, .iadd, 1, 0, 0, 0, 0), (229, .putfield 19, 3, 5, 2, 0, 0), (232, .return_, 1, 0, 0, 0, 0)]
def cd40 : List am_E := cd40_0 ++ (cd40_1 ++ (cd40_2))
def am_w40 : List (List (Int32 × Nat) × Nat) := []
set_option maxRecDepth 100000 in
theorem kcd40_0 : cd40_0.all (am_chk am_w40 40) = true := by decide +kernel
set_option maxRecDepth 100000 in
theorem kcd40_1 : cd40_1.all (am_chk am_w40 40) = true := by decide +kernel
set_option maxRecDepth 100000 in
theorem kcd40_2 : cd40_2.all (am_chk am_w40 40) = true := by decide +kernel
theorem am_k40 : cd40.all (am_chk am_w40 40) = true := by
  simp only [cd40, List.all_append, kcd40_0, kcd40_1, kcd40_2, Bool.and_self]
theorem am_r40 : am_rtc 40 = 4 := by decide +kernel
theorem am_l40 : am_ml 40 = 1 := by decide +kernel
def am_s40_ (z : Nat) : Nat → List aV → aM → Option aR := (am_sm 41 (F41 z) (am_sm 42 (F42 z) am_s0))
theorem hs40 (z : Nat) : ∀ j2 : Nat, ∃ d2 : Nat, d2 + 1 ≤ 2 ∧ am_Snd d2 j2 (am_s40_ z j2) := (am_sm_ok (S41 z) (by decide) (am_sm_ok (S42 z) (by decide) (am_s0_ok (by decide))))
def f40_96 (z : Nat) : Nat → aM → Option aR
  | 0, _ => none
  | n + 1, M =>
    if (M.1 2 1) ≤ (M.1 2 2) then
      some (none, M)
    else
      am_bi (f41 z M) fun v2 M1 =>
        if v2 = 0 then
          some (none, M1)
        else
          let I3 := am_u M1.1 2 2 ((M1.1 2 2) + (1 : Int32))
          f40_96 z n (I3, M1.2)
set_option maxRecDepth 100000 in
set_option maxHeartbeats 4000000 in
theorem e40_96 (z : Nat) : ∀ (n : Nat) (M : aM) (r : aR), f40_96 z n  M = some r → am_Ev 2 40 96 [some (.inr (.inr (5, 2)))] [] M r := by
  intro n
  induction n with
  | zero =>
    intro  M r h
    cases h
  | succ n ih =>
    intro  M r h
    exact am_Ev_seg (sem := am_s40_ z) (cut := ([(96, [true])] : List (Nat × List Bool))) (hs40 z) am_r40 am_k40 (by rw [am_l40]; decide) (am_kc 96 (fun al st M => match al, st with
      | [some (.inr (.inr (5, 2)))], [] => f40_96 z n  M
      | _, _ => none) am_k0) 17 h (am_kc_ok (fun al st M hk => by
      split at hk
      · exact ih _ _ hk
      · cases hk) am_k0_ok)
def f40_139 (z : Nat) : Nat → aM → Option aR
  | 0, _ => none
  | n + 1, M =>
    if (M.1 2 1) ≤ (M.1 2 2) then
      some (none, M)
    else
      am_bi (f42 z M) fun v2 M1 =>
        if v2 = 0 then
          some (none, M1)
        else
          if am_inB (M1.1 2 2) 800 then
            let I3 := am_u M1.1 2 5 (if ((((M1.1 2 5) * (10 : Int32)) + (M1.1 3 (M1.1 2 2).toNatClampNeg)) - (48 : Int32)) < (1000000 : Int32) then ((((M1.1 2 5) * (10 : Int32)) + (M1.1 3 (M1.1 2 2).toNatClampNeg)) - (48 : Int32)) else (1000000 : Int32))
            let I4 := am_u I3 2 2 ((I3 2 2) + (1 : Int32))
            f40_139 z n (I4, M1.2)
          else
            none
set_option maxRecDepth 100000 in
set_option maxHeartbeats 4000000 in
theorem e40_139 (z : Nat) : ∀ (n : Nat) (M : aM) (r : aR), f40_139 z n  M = some r → am_Ev 2 40 139 [some (.inr (.inr (5, 2)))] [] M r := by
  intro n
  induction n with
  | zero =>
    intro  M r h
    cases h
  | succ n ih =>
    intro  M r h
    exact am_Ev_seg (sem := am_s40_ z) (cut := ([(139, [true])] : List (Nat × List Bool))) (hs40 z) am_r40 am_k40 (by rw [am_l40]; decide) (am_kc 139 (fun al st M => match al, st with
      | [some (.inr (.inr (5, 2)))], [] => f40_139 z n  M
      | _, _ => none) am_k0) 33 h (am_kc_ok (fun al st M hk => by
      split at hk
      · exact ih _ _ hk
      · cases hk) am_k0_ok)
def f40_0 (z : Nat) : Nat → aM → Option aR
  | 0, _ => none
  | n + 1, M =>
    if (M.1 2 1) ≤ (M.1 2 2) then
      let I1 := am_u M.1 2 3 (M.1 2 2)
      let I2 := am_u I1 2 5 (0 : Int32)
      if (I2 2 2) < (I2 2 1) then
        am_bi (f41 z (I2, M.2)) fun v4 M3 =>
          if v4 = 0 then
            am_bi (f42 z M3) fun v6 M5 =>
              if v6 = 0 then
                if am_inB (M5.1 2 2) 800 then
                  if ¬ (M5.1 3 (M5.1 2 2).toNatClampNeg) = (59 : Int32) then
                    let I7 := am_u M5.1 2 4 (4 : Int32)
                    let I8 := am_u I7 2 2 ((I7 2 2) + (1 : Int32))
                    some (none, (I8, M5.2))
                  else
                    let I9 := am_u M5.1 2 4 (3 : Int32)
                    let I10 := am_u I9 2 2 ((I9 2 2) + (1 : Int32))
                    some (none, (I10, M5.2))
                else
                  none
              else
                let I11 := am_u M5.1 2 4 (2 : Int32)
                f40_139 z z (I11, M5.2)
          else
            let I12 := am_u M3.1 2 4 (1 : Int32)
            f40_96 z z (I12, M3.2)
      else
        let I13 := am_u I2 2 4 (0 : Int32)
        some (none, (I13, M.2))
    else
      if am_inB (M.1 2 2) 800 then
        if (M.1 3 (M.1 2 2).toNatClampNeg) = (32 : Int32) then
          let I14 := am_u M.1 2 2 ((M.1 2 2) + (1 : Int32))
          f40_0 z n (I14, M.2)
        else
          if am_inB (M.1 2 2) 800 then
            if ¬ (M.1 3 (M.1 2 2).toNatClampNeg) = (10 : Int32) then
              let I15 := am_u M.1 2 3 (M.1 2 2)
              let I16 := am_u I15 2 5 (0 : Int32)
              if (I16 2 2) < (I16 2 1) then
                am_bi (f41 z (I16, M.2)) fun v18 M17 =>
                  if v18 = 0 then
                    am_bi (f42 z M17) fun v20 M19 =>
                      if v20 = 0 then
                        if am_inB (M19.1 2 2) 800 then
                          if ¬ (M19.1 3 (M19.1 2 2).toNatClampNeg) = (59 : Int32) then
                            let I21 := am_u M19.1 2 4 (4 : Int32)
                            let I22 := am_u I21 2 2 ((I21 2 2) + (1 : Int32))
                            some (none, (I22, M19.2))
                          else
                            let I23 := am_u M19.1 2 4 (3 : Int32)
                            let I24 := am_u I23 2 2 ((I23 2 2) + (1 : Int32))
                            some (none, (I24, M19.2))
                        else
                          none
                      else
                        let I25 := am_u M19.1 2 4 (2 : Int32)
                        f40_139 z z (I25, M19.2)
                  else
                    let I26 := am_u M17.1 2 4 (1 : Int32)
                    f40_96 z z (I26, M17.2)
              else
                let I27 := am_u I16 2 4 (0 : Int32)
                some (none, (I27, M.2))
            else
              let I28 := am_u M.1 2 2 ((M.1 2 2) + (1 : Int32))
              f40_0 z n (I28, M.2)
          else
            none
      else
        none
set_option maxRecDepth 100000 in
set_option maxHeartbeats 4000000 in
theorem e40_0 (z : Nat) : ∀ (n : Nat) (M : aM) (r : aR), f40_0 z n  M = some r → am_Ev 2 40 0 [some (.inr (.inr (5, 2)))] [] M r := by
  intro n
  induction n with
  | zero =>
    intro  M r h
    cases h
  | succ n ih =>
    intro  M r h
    exact am_Ev_seg (sem := am_s40_ z) (cut := ([(0, [true]), (96, [true]), (139, [true])] : List (Nat × List Bool))) (hs40 z) am_r40 am_k40 (by rw [am_l40]; decide) (am_kc 0 (fun al st M => match al, st with
      | [some (.inr (.inr (5, 2)))], [] => f40_0 z n  M
      | _, _ => none) (am_kc 96 (fun al st M => match al, st with
      | [some (.inr (.inr (5, 2)))], [] => f40_96 z z  M
      | _, _ => none) (am_kc 139 (fun al st M => match al, st with
      | [some (.inr (.inr (5, 2)))], [] => f40_139 z z  M
      | _, _ => none) am_k0))) 56 h (am_kc_ok (fun al st M hk => by
      split at hk
      · exact ih _ _ hk
      · cases hk) (am_kc_ok (fun al st M hk => by
      split at hk
      · exact e40_96 z _ _ _ hk
      · cases hk) (am_kc_ok (fun al st M hk => by
      split at hk
      · exact e40_139 z _ _ _ hk
      · cases hk) am_k0_ok)))
/-- ArgumentMender$Tape.next()V -/
def f40 (z : Nat) (M : aM) : Option aR := f40_0 z z  M
theorem e40 (z : Nat) : ∀ (M : aM) (r : aR), f40 z  M = some r → am_Ev 2 40 0 [some (.inr (.inr (5, 2)))] [] M r := by
  intro  M r h
  exact e40_0 z _  _ _ h
def F40 (z : Nat) (as : List aV) (M : aM) : Option aR := match as with
  | [.inr (.inr (5, 2))] => f40 z  M
  | _ => none
theorem S40 (z : Nat) : am_Snd 2 40 (F40 z) := am_meth (by decide +kernel) (fun as M r has h => by
    rw [am_l40]
    unfold F40 at h
    split at h
    · exact ⟨Nat.le_of_ble_eq_true rfl, e40 z _ _ h⟩
    · cases h)
def cd24_0 : List am_E := [(0, .aload_n 0, 1, 0, 0, 0, 0), (1, .getfield 12, 3, 2, 0, 0, 0), (4, .getfield 41, 3, 5, 4, 0, 0), (7, .iconst 2, 1, 0, 0, 2, 0), (8, .if_icmp .eq 9, 3, 17, 0, 0, 0), (11, .aload_n 0, 1, 0, 0, 0, 0), (12, .iconst 1, 1, 0, 0, 1, 0), (13, .invokevirtual 81, 3, 26, 2010, 0, 0), (16, .ireturn, 1, 0, 0, 0, 0), (17, .aload_n 0, 1, 0, 0, 0, 0), (18, .getfield 12, 3, 2, 0, 0, 0), (21, .getfield 142, 3, 5, 5, 0, 0), (24, .iload_n 1, 1, 1, 0, 0, 0), (25, .if_icmp .lt 14, 3, 39, 0, 0, 0), (28, .aload_n 0, 1, 0, 0, 0, 0), (29, .getfield 12, 3, 2, 0, 0, 0), (32, .getfield 142, 3, 5, 5, 0, 0), (35, .iload_n 2, 1, 2, 0, 0, 0), (36, .if_icmp .le 9, 3, 45, 0, 0, 0), (39, .aload_n 0, 1, 0, 0, 0, 0), (40, .iconst 2, 1, 0, 0, 2, 0), (41, .invokevirtual 81, 3, 26, 2010, 0, 0), (44, .ireturn, 1, 0, 0, 0, 0), (45, .aload_n 0, 1, 0, 0, 0, 0), (46, .aload_n 0, 1, 0, 0, 0, 0), (47, .getfield 12, 3, 2, 0, 0, 0), (50, .getfield 142, 3, 5, 5, 0, 0), (53, .putfield 94, 3, 2, 4, 0, 0), (56, .aload_n 0, 1, 0, 0, 0, 0), (57, .getfield 12, 3, 2, 0, 0, 0), (60, .invokevirtual 38, 3, 40, 5004, 0, 0), (63, .iconst 1, 1, 0, 0, 1, 0), (64, .ireturn, 1, 0, 0, 0, 0)]
def cd24 : List am_E := cd24_0
def am_w24 : List (List (Int32 × Nat) × Nat) := []
set_option maxRecDepth 100000 in
theorem kcd24_0 : cd24_0.all (am_chk am_w24 24) = true := by decide +kernel
theorem am_k24 : cd24.all (am_chk am_w24 24) = true := by
  simp only [cd24, List.all_append, kcd24_0, Bool.and_self]
theorem am_r24 : am_rtc 24 = 1 := by decide +kernel
theorem am_l24 : am_ml 24 = 3 := by decide +kernel
def am_s24_ (z : Nat) : Nat → List aV → aM → Option aR := (am_sm 26 (F26 z) (am_sm 40 (F40 z) am_s0))
theorem hs24 (z : Nat) : ∀ j2 : Nat, ∃ d2 : Nat, d2 + 1 ≤ 3 ∧ am_Snd d2 j2 (am_s24_ z j2) := (am_sm_ok (S26 z) (by decide) (am_sm_ok (S40 z) (by decide) (am_s0_ok (by decide))))
/-- ArgumentMender$Reader.takeNumber(II)Z -/
def f24 (z : Nat) (x1 : Int32) (x2 : Int32) (M : aM) : Option aR :=
  if (M.1 2 4) = (2 : Int32) then
    if (M.1 2 5) < x1 then
      am_bi (f26 z (2 : Int32) M) fun v2 M1 =>
        some (some (.inl (v2 &&& 1)), M1)
    else
      if (M.1 2 5) ≤ x2 then
        let I3 := am_u M.1 1 4 (M.1 2 5)
        am_bv (f40 z (I3, M.2)) fun M4 =>
          some (some (.inl ((1 : Int32) &&& 1)), M4)
      else
        am_bi (f26 z (2 : Int32) M) fun v6 M5 =>
          some (some (.inl (v6 &&& 1)), M5)
  else
    am_bi (f26 z (1 : Int32) M) fun v8 M7 =>
      some (some (.inl (v8 &&& 1)), M7)
set_option maxRecDepth 100000 in
set_option maxHeartbeats 4000000 in
theorem e24 (z : Nat) : ∀ (x1 : Int32) (x2 : Int32) (M : aM) (r : aR), f24 z x1 x2 M = some r → am_Ev 3 24 0 [some (.inr (.inr (2, 1))), some (.inl x1), some (.inl x2)] [] M r := by
  intro x1 x2 M r h
  exact am_Ev_seg (sem := am_s24_ z) (cut := ([] : List (Nat × List Bool))) (hs24 z) am_r24 am_k24 (by rw [am_l24]; decide) am_k0 26 h am_k0_ok
def F24 (z : Nat) (as : List aV) (M : aM) : Option aR := match as with
  | [.inr (.inr (2, 1)), .inl x1, .inl x2] => f24 z x1 x2 M
  | _ => none
theorem S24 (z : Nat) : am_Snd 3 24 (F24 z) := am_meth (by decide +kernel) (fun as M r has h => by
    rw [am_l24]
    unfold F24 at h
    split at h
    · exact ⟨Nat.le_of_ble_eq_true rfl, e24 z _ _ _ _ h⟩
    · cases h)
def cd20_0 : List am_E := [(0, .aload_n 0, 1, 0, 0, 0, 0), (1, .getfield 21, 3, 2, 1, 0, 0), (4, .getfield 107, 3, 1, 4, 0, 0), (7, .bipush 8, 2, 0, 0, 8, 0), (9, .if_icmp .lt 9, 3, 18, 0, 0, 0), (12, .aload_n 0, 1, 0, 0, 0, 0), (13, .iconst 3, 1, 0, 0, 3, 0), (14, .invokevirtual 81, 3, 26, 2010, 0, 0), (17, .ireturn, 1, 0, 0, 0, 0), (18, .aload_n 0, 1, 0, 0, 0, 0), (19, .getfield 12, 3, 2, 0, 0, 0), (22, .invokevirtual 38, 3, 40, 5004, 0, 0), (25, .aload_n 0, 1, 0, 0, 0, 0), (26, .getfield 21, 3, 2, 1, 0, 0), (29, .dup, 1, 0, 0, 0, 0), (30, .getfield 107, 3, 1, 4, 0, 0), (33, .iconst 1, 1, 0, 0, 1, 0), (34, .iadd, 1, 0, 0, 0, 0), (35, .putfield 107, 3, 1, 4, 0, 0), (38, .iconst 1, 1, 0, 0, 1, 0), (39, .ireturn, 1, 0, 0, 0, 0)]
def cd20 : List am_E := cd20_0
def am_w20 : List (List (Int32 × Nat) × Nat) := []
set_option maxRecDepth 100000 in
theorem kcd20_0 : cd20_0.all (am_chk am_w20 20) = true := by decide +kernel
theorem am_k20 : cd20.all (am_chk am_w20 20) = true := by
  simp only [cd20, List.all_append, kcd20_0, Bool.and_self]
theorem am_r20 : am_rtc 20 = 1 := by decide +kernel
theorem am_l20 : am_ml 20 = 1 := by decide +kernel
def am_s20_ (z : Nat) : Nat → List aV → aM → Option aR := (am_sm 26 (F26 z) (am_sm 40 (F40 z) am_s0))
theorem hs20 (z : Nat) : ∀ j2 : Nat, ∃ d2 : Nat, d2 + 1 ≤ 3 ∧ am_Snd d2 j2 (am_s20_ z j2) := (am_sm_ok (S26 z) (by decide) (am_sm_ok (S40 z) (by decide) (am_s0_ok (by decide))))
/-- ArgumentMender$Reader.readClaim()Z -/
def f20 (z : Nat) (M : aM) : Option aR :=
  if (M.1 4 4) < (8 : Int32) then
    am_bv (f40 z M) fun M1 =>
      let I2 := am_u M1.1 4 4 ((M1.1 4 4) + (1 : Int32))
      some (some (.inl ((1 : Int32) &&& 1)), (I2, M1.2))
  else
    am_bi (f26 z (3 : Int32) M) fun v4 M3 =>
      some (some (.inl (v4 &&& 1)), M3)
set_option maxRecDepth 100000 in
set_option maxHeartbeats 4000000 in
theorem e20 (z : Nat) : ∀ (M : aM) (r : aR), f20 z  M = some r → am_Ev 3 20 0 [some (.inr (.inr (2, 1)))] [] M r := by
  intro  M r h
  exact am_Ev_seg (sem := am_s20_ z) (cut := ([] : List (Nat × List Bool))) (hs20 z) am_r20 am_k20 (by rw [am_l20]; decide) am_k0 18 h am_k0_ok
def F20 (z : Nat) (as : List aV) (M : aM) : Option aR := match as with
  | [.inr (.inr (2, 1))] => f20 z  M
  | _ => none
theorem S20 (z : Nat) : am_Snd 3 20 (F20 z) := am_meth (by decide +kernel) (fun as M r has h => by
    rw [am_l20]
    unfold F20 at h
    split at h
    · exact ⟨Nat.le_of_ble_eq_true rfl, e20 z _ _ h⟩
    · cases h)
def cd25_0 : List am_E := [(0, .aload_n 0, 1, 0, 0, 0, 0), (1, .getfield 12, 3, 2, 0, 0, 0), (4, .getfield 41, 3, 5, 4, 0, 0), (7, .iconst 3, 1, 0, 0, 3, 0), (8, .if_icmp .eq 9, 3, 17, 0, 0, 0), (11, .aload_n 0, 1, 0, 0, 0, 0), (12, .iconst 1, 1, 0, 0, 1, 0), (13, .invokevirtual 81, 3, 26, 2010, 0, 0), (16, .ireturn, 1, 0, 0, 0, 0), (17, .aload_n 0, 1, 0, 0, 0, 0), (18, .getfield 12, 3, 2, 0, 0, 0), (21, .invokevirtual 38, 3, 40, 5004, 0, 0), (24, .iconst 1, 1, 0, 0, 1, 0), (25, .ireturn, 1, 0, 0, 0, 0)]
def cd25 : List am_E := cd25_0
def am_w25 : List (List (Int32 × Nat) × Nat) := []
set_option maxRecDepth 100000 in
theorem kcd25_0 : cd25_0.all (am_chk am_w25 25) = true := by decide +kernel
theorem am_k25 : cd25.all (am_chk am_w25 25) = true := by
  simp only [cd25, List.all_append, kcd25_0, Bool.and_self]
theorem am_r25 : am_rtc 25 = 1 := by decide +kernel
theorem am_l25 : am_ml 25 = 1 := by decide +kernel
def am_s25_ (z : Nat) : Nat → List aV → aM → Option aR := (am_sm 26 (F26 z) (am_sm 40 (F40 z) am_s0))
theorem hs25 (z : Nat) : ∀ j2 : Nat, ∃ d2 : Nat, d2 + 1 ≤ 3 ∧ am_Snd d2 j2 (am_s25_ z j2) := (am_sm_ok (S26 z) (by decide) (am_sm_ok (S40 z) (by decide) (am_s0_ok (by decide))))
/-- ArgumentMender$Reader.takeSign()Z -/
def f25 (z : Nat) (M : aM) : Option aR :=
  if (M.1 2 4) = (3 : Int32) then
    am_bv (f40 z M) fun M1 =>
      some (some (.inl ((1 : Int32) &&& 1)), M1)
  else
    am_bi (f26 z (1 : Int32) M) fun v3 M2 =>
      some (some (.inl (v3 &&& 1)), M2)
set_option maxRecDepth 100000 in
set_option maxHeartbeats 4000000 in
theorem e25 (z : Nat) : ∀ (M : aM) (r : aR), f25 z  M = some r → am_Ev 3 25 0 [some (.inr (.inr (2, 1)))] [] M r := by
  intro  M r h
  exact am_Ev_seg (sem := am_s25_ z) (cut := ([] : List (Nat × List Bool))) (hs25 z) am_r25 am_k25 (by rw [am_l25]; decide) am_k0 11 h am_k0_ok
def F25 (z : Nat) (as : List aV) (M : aM) : Option aR := match as with
  | [.inr (.inr (2, 1))] => f25 z  M
  | _ => none
theorem S25 (z : Nat) : am_Snd 3 25 (F25 z) := am_meth (by decide +kernel) (fun as M r has h => by
    rw [am_l25]
    unfold F25 at h
    split at h
    · exact ⟨Nat.le_of_ble_eq_true rfl, e25 z _ _ h⟩
    · cases h)
def cd29_0 : List am_E := [(0, .lload_n 0, 1, 0, 0, 0, 0), (1, .lconst 0, 1, 0, 0, 0, 0), (2, .lcmp, 1, 0, 0, 0, 0), (3, .ifCond .lt 13, 3, 16, 0, 0, 0), (6, .lload_n 0, 1, 0, 0, 0, 0), (7, .lload_n 2, 1, 2, 0, 0, 0), (8, .lcmp, 1, 0, 0, 0, 0), (9, .ifCond .gt 7, 3, 16, 0, 0, 0), (12, .iconst 1, 1, 0, 0, 1, 0), (13, .goto 4, 3, 17, 0, 0, 0), (16, .iconst 0, 1, 0, 0, 0, 0), (17, .ireturn, 1, 0, 0, 0, 0)]
def cd29 : List am_E := cd29_0
def am_w29 : List (List (Int32 × Nat) × Nat) := []
set_option maxRecDepth 100000 in
theorem kcd29_0 : cd29_0.all (am_chk am_w29 29) = true := by decide +kernel
theorem am_k29 : cd29.all (am_chk am_w29 29) = true := by
  simp only [cd29, List.all_append, kcd29_0, Bool.and_self]
theorem am_r29 : am_rtc 29 = 1 := by decide +kernel
theorem am_l29 : am_ml 29 = 4 := by decide +kernel
def am_s29_ (z : Nat) : Nat → List aV → aM → Option aR := am_s0
theorem hs29 (z : Nat) : ∀ j2 : Nat, ∃ d2 : Nat, d2 + 1 ≤ 1 ∧ am_Snd d2 j2 (am_s29_ z j2) := (am_s0_ok (by decide))
/-- ArgumentMender$Sight.isUpTo(JJ)Z -/
def f29 (z : Nat) (y0 : Int64) (y2 : Int64) (M : aM) : Option aR :=
  if (lg_cmp y0 (0 : Int64)) < 0 then
    some (some (.inl ((0 : Int32) &&& 1)), M)
  else
    if 0 < (lg_cmp y0 y2) then
      some (some (.inl ((0 : Int32) &&& 1)), M)
    else
      some (some (.inl ((1 : Int32) &&& 1)), M)
set_option maxRecDepth 100000 in
set_option maxHeartbeats 4000000 in
theorem e29 (z : Nat) : ∀ (y0 : Int64) (y2 : Int64) (M : aM) (r : aR), f29 z y0 y2 M = some r → am_Ev 1 29 0 [some (.inr (.inl y0)), none, some (.inr (.inl y2)), none] [] M r := by
  intro y0 y2 M r h
  exact am_Ev_seg (sem := am_s29_ z) (cut := ([] : List (Nat × List Bool))) (hs29 z) am_r29 am_k29 (by rw [am_l29]; decide) am_k0 12 h am_k0_ok
def F29 (z : Nat) (as : List aV) (M : aM) : Option aR := match as with
  | [.inr (.inl y0), .inr (.inl y2)] => f29 z y0 y2 M
  | _ => none
theorem S29 (z : Nat) : am_Snd 1 29 (F29 z) := am_meth (by decide +kernel) (fun as M r has h => by
    rw [am_l29]
    unfold F29 at h
    split at h
    · exact ⟨Nat.le_of_ble_eq_true rfl, e29 z _ _ _ _ h⟩
    · cases h)
def cd28_0 : List am_E := [(0, .aload_n 2, 1, 2, 0, 0, 0), (1, .getfield 18, 3, 4, 1, 0, 0), (4, .iconst 3, 1, 0, 0, 3, 0), (5, .irem, 1, 0, 0, 0, 0), (6, .ifCond .eq 5, 3, 11, 0, 0, 0), (9, .iconst 0, 1, 0, 0, 0, 0), (10, .ireturn, 1, 0, 0, 0, 0), (11, .iconst 0, 1, 0, 0, 0, 0), (12, .istore_n 3, 1, 3, 0, 0, 0), (13, .iload_n 3, 1, 3, 0, 0, 0), (14, .iconst 2, 1, 0, 0, 2, 0), (15, .iadd, 1, 0, 0, 0, 0), (16, .aload_n 2, 1, 2, 0, 0, 0), (17, .getfield 18, 3, 4, 1, 0, 0), (20, .if_icmp .ge 66, 3, 86, 0, 0, 0), (23, .aload_n 2, 1, 2, 0, 0, 0), (24, .getfield 24, 3, 4, 2, 0, 0), (27, .iload_n 3, 1, 3, 0, 0, 0), (28, .laload, 1, 0, 0, 0, 0), (29, .aload_n 1, 1, 1, 0, 0, 0), (30, .getfield 28, 3, 1, 5, 0, 0), (33, .iconst 1, 1, 0, 0, 1, 0), (34, .isub, 1, 0, 0, 0, 0), (35, .i2l, 1, 0, 0, 0, 0), (36, .invokestatic 33, 3, 29, 25, 0, 0), (39, .ifCond .eq 39, 3, 78, 0, 0, 0), (42, .aload_n 2, 1, 2, 0, 0, 0), (43, .getfield 24, 3, 4, 2, 0, 0), (46, .iload_n 3, 1, 3, 0, 0, 0), (47, .iconst 1, 1, 0, 0, 1, 0), (48, .iadd, 1, 0, 0, 0, 0), (49, .laload, 1, 0, 0, 0, 0), (50, .aload_n 1, 1, 1, 0, 0, 0), (51, .getfield 37, 3, 1, 1, 0, 0), (54, .i2l, 1, 0, 0, 0, 0), (55, .invokestatic 33, 3, 29, 25, 0, 0), (58, .ifCond .eq 20, 3, 78, 0, 0, 0), (61, .aload_n 2, 1, 2, 0, 0, 0), (62, .getfield 24, 3, 4, 2, 0, 0), (65, .iload_n 3, 1, 3, 0, 0, 0)]
def cd28_1 : List am_E := [(66, .iconst 2, 1, 0, 0, 2, 0), (67, .iadd, 1, 0, 0, 0, 0), (68, .laload, 1, 0, 0, 0, 0), (69, .ldc2_w 39, 3, 0, 0, 0, 99), (72, .invokestatic 33, 3, 29, 25, 0, 0), (75, .ifCond .ne 5, 3, 80, 0, 0, 0), (78, .iconst 0, 1, 0, 0, 0, 0), (79, .ireturn, 1, 0, 0, 0, 0), (80, .iinc 3 3, 3, 3, 0, 3, 0), (83, .goto (-70), 3, 13, 0, 0, 0), (86, .iconst 1, 1, 0, 0, 1, 0), (87, .ireturn, 1, 0, 0, 0, 0)]
def cd28 : List am_E := cd28_0 ++ (cd28_1)
def am_w28 : List (List (Int32 × Nat) × Nat) := []
set_option maxRecDepth 100000 in
theorem kcd28_0 : cd28_0.all (am_chk am_w28 28) = true := by decide +kernel
set_option maxRecDepth 100000 in
theorem kcd28_1 : cd28_1.all (am_chk am_w28 28) = true := by decide +kernel
theorem am_k28 : cd28.all (am_chk am_w28 28) = true := by
  simp only [cd28, List.all_append, kcd28_0, kcd28_1, Bool.and_self]
theorem am_r28 : am_rtc 28 = 1 := by decide +kernel
theorem am_l28 : am_ml 28 = 4 := by decide +kernel
def am_s28_ (z : Nat) : Nat → List aV → aM → Option aR := (am_sm 29 (F29 z) am_s0)
theorem hs28 (z : Nat) : ∀ j2 : Nat, ∃ d2 : Nat, d2 + 1 ≤ 2 ∧ am_Snd d2 j2 (am_s28_ z j2) := (am_sm_ok (S29 z) (by decide) (am_s0_ok (by decide)))
def f28_13 (z : Nat) : Nat → Nat → Nat → Int32 → aM → Option aR
  | 0, _, _, _, _ => none
  | n + 1, c1, c2, x3, M =>
    if (M.1 c2 1) ≤ (x3 + (2 : Int32)) then
      some (some (.inl ((1 : Int32) &&& 1)), M)
    else
      if am_inB x3 60 then
        am_bi (f29 z (M.2 (c2 + 1) x3.toNatClampNeg) (Int32.toInt64 ((M.1 c1 5) - (1 : Int32))) M) fun v2 M1 =>
          if v2 = 0 then
            some (some (.inl ((0 : Int32) &&& 1)), M1)
          else
            if am_inB (x3 + (1 : Int32)) 60 then
              am_bi (f29 z (M1.2 (c2 + 1) (x3 + (1 : Int32)).toNatClampNeg) (Int32.toInt64 (M1.1 c1 1)) M1) fun v4 M3 =>
                if v4 = 0 then
                  some (some (.inl ((0 : Int32) &&& 1)), M3)
                else
                  if am_inB (x3 + (2 : Int32)) 60 then
                    am_bi (f29 z (M3.2 (c2 + 1) (x3 + (2 : Int32)).toNatClampNeg) (99 : Int64) M3) fun v6 M5 =>
                      if ¬ v6 = 0 then
                        f28_13 z n c1 c2 (x3 + (3 : Int32)) M5
                      else
                        some (some (.inl ((0 : Int32) &&& 1)), M5)
                  else
                    none
            else
              none
      else
        none
set_option maxRecDepth 100000 in
set_option maxHeartbeats 4000000 in
theorem e28_13 (z : Nat) : ∀ (n : Nat) (c1 : Nat) (c2 : Nat) (x3 : Int32) (M : aM) (r : aR), f28_13 z n c1 c2 x3 M = some r → am_Ev 2 28 13 [none, some (.inr (.inr (1, c1))), some (.inr (.inr (4, c2))), some (.inl x3)] [] M r := by
  intro n
  induction n with
  | zero =>
    intro c1 c2 x3 M r h
    cases h
  | succ n ih =>
    intro c1 c2 x3 M r h
    exact am_Ev_seg (sem := am_s28_ z) (cut := ([(13, [false, true, true, true])] : List (Nat × List Bool))) (hs28 z) am_r28 am_k28 (by rw [am_l28]; decide) (am_kc 13 (fun al st M => match al, st with
      | [none, some (.inr (.inr (1, c1))), some (.inr (.inr (4, c2))), some (.inl x3)], [] => f28_13 z n c1 c2 x3 M
      | _, _ => none) am_k0) 41 h (am_kc_ok (fun al st M hk => by
      split at hk
      · exact ih _ _ _ _ _ hk
      · cases hk) am_k0_ok)
/-- ArgumentMender$Sight.isSeen(LArgumentMender$Cloth;LArgumentMender$Slot;)Z -/
def f28 (z : Nat) (c1 : Nat) (c2 : Nat) (M : aM) : Option aR :=
  if (3 : Int32) = 0 then
    none
  else
    if ((M.1 c2 1) - (M.1 c2 1) / (3 : Int32) * (3 : Int32)) = 0 then
      f28_13 z z c1 c2 (0 : Int32) M
    else
      some (some (.inl ((0 : Int32) &&& 1)), M)
set_option maxRecDepth 100000 in
set_option maxHeartbeats 4000000 in
theorem e28 (z : Nat) : ∀ (c1 : Nat) (c2 : Nat) (M : aM) (r : aR), f28 z c1 c2 M = some r → am_Ev 2 28 0 [some (.inr (.inr (3, 116))), some (.inr (.inr (1, c1))), some (.inr (.inr (4, c2))), none] [] M r := by
  intro c1 c2 M r h
  exact am_Ev_seg (sem := am_s28_ z) (cut := ([(13, [false, true, true, true])] : List (Nat × List Bool))) (hs28 z) am_r28 am_k28 (by rw [am_l28]; decide) (am_kc 13 (fun al st M => match al, st with
      | [none, some (.inr (.inr (1, c1))), some (.inr (.inr (4, c2))), some (.inl x3)], [] => f28_13 z z c1 c2 x3 M
      | _, _ => none) am_k0) 9 h (am_kc_ok (fun al st M hk => by
      split at hk
      · exact e28_13 z _ _ _ _ _ _ hk
      · cases hk) am_k0_ok)
def F28 (z : Nat) (as : List aV) (M : aM) : Option aR := match as with
  | [.inr (.inr (3, 116)), .inr (.inr (1, c1)), .inr (.inr (4, c2))] => f28 z c1 c2 M
  | _ => none
theorem S28 (z : Nat) : am_Snd 2 28 (F28 z) := am_meth (by decide +kernel) (fun as M r has h => by
    rw [am_l28]
    unfold F28 at h
    split at h
    · exact ⟨Nat.le_of_ble_eq_true rfl, e28 z _ _ _ _ h⟩
    · cases h)
def cd32_0 : List am_E := [(0, .iconst 0, 1, 0, 0, 0, 0), (1, .istore_n 2, 1, 2, 0, 0, 0), (2, .iload_n 2, 1, 2, 0, 0, 0), (3, .iconst 2, 1, 0, 0, 2, 0), (4, .iadd, 1, 0, 0, 0, 0), (5, .aload_n 1, 1, 1, 0, 0, 0), (6, .getfield 18, 3, 4, 1, 0, 0), (9, .if_icmp .ge 55, 3, 64, 0, 0, 0), (12, .aload_n 1, 1, 1, 0, 0, 0), (13, .getfield 24, 3, 4, 2, 0, 0), (16, .iload_n 2, 1, 2, 0, 0, 0), (17, .laload, 1, 0, 0, 0, 0), (18, .l2i, 1, 0, 0, 0, 0), (19, .istore_n 3, 1, 3, 0, 0, 0), (20, .aload_n 1, 1, 1, 0, 0, 0), (21, .getfield 24, 3, 4, 2, 0, 0), (24, .iload_n 2, 1, 2, 0, 0, 0), (25, .iconst 1, 1, 0, 0, 1, 0), (26, .iadd, 1, 0, 0, 0, 0), (27, .laload, 1, 0, 0, 0, 0), (28, .l2i, 1, 0, 0, 0, 0), (29, .istore 4, 2, 4, 0, 0, 0), (31, .aload_n 0, 1, 0, 0, 0, 0), (32, .getfield 12, 3, 3, 0, 0, 0), (35, .getfield 54, 3, 9, 3, 0, 0), (38, .iload 4, 2, 4, 0, 0, 0), (40, .aaload, 1, 0, 0, 0, 0), (41, .iload_n 3, 1, 3, 0, 0, 0), (42, .iaload, 1, 0, 0, 0, 0), (43, .i2l, 1, 0, 0, 0, 0), (44, .aload_n 1, 1, 1, 0, 0, 0), (45, .getfield 24, 3, 4, 2, 0, 0), (48, .iload_n 2, 1, 2, 0, 0, 0), (49, .iconst 2, 1, 0, 0, 2, 0), (50, .iadd, 1, 0, 0, 0, 0), (51, .laload, 1, 0, 0, 0, 0), (52, .lcmp, 1, 0, 0, 0, 0), (53, .ifCond .eq 5, 3, 58, 0, 0, 0), (56, .iconst 0, 1, 0, 0, 0, 0), (57, .ireturn, 1, 0, 0, 0, 0)]
def cd32_1 : List am_E := [(58, .iinc 2 3, 3, 2, 0, 3, 0), (61, .goto (-59), 3, 2, 0, 0, 0), (64, .iconst 1, 1, 0, 0, 1, 0), (65, .ireturn, 1, 0, 0, 0, 0)]
def cd32 : List am_E := cd32_0 ++ (cd32_1)
def am_w32 : List (List (Int32 × Nat) × Nat) := []
set_option maxRecDepth 100000 in
theorem kcd32_0 : cd32_0.all (am_chk am_w32 32) = true := by decide +kernel
set_option maxRecDepth 100000 in
theorem kcd32_1 : cd32_1.all (am_chk am_w32 32) = true := by decide +kernel
theorem am_k32 : cd32.all (am_chk am_w32 32) = true := by
  simp only [cd32, List.all_append, kcd32_0, kcd32_1, Bool.and_self]
theorem am_r32 : am_rtc 32 = 1 := by decide +kernel
theorem am_l32 : am_ml 32 = 5 := by decide +kernel
def am_s32_ (z : Nat) : Nat → List aV → aM → Option aR := am_s0
theorem hs32 (z : Nat) : ∀ j2 : Nat, ∃ d2 : Nat, d2 + 1 ≤ 1 ∧ am_Snd d2 j2 (am_s32_ z j2) := (am_s0_ok (by decide))
def f32_2 (z : Nat) : Nat → Nat → Int32 → aM → Option aR
  | 0, _, _, _ => none
  | n + 1, c1, x2, M =>
    if (M.1 c1 1) ≤ (x2 + (2 : Int32)) then
      some (some (.inl ((1 : Int32) &&& 1)), M)
    else
      if am_inB x2 60 then
        if am_inB (x2 + (1 : Int32)) 60 then
          if am_inB (Int64.toInt32 (M.2 (c1 + 1) (x2 + (1 : Int32)).toNatClampNeg)) 13 then
            if am_inB (Int64.toInt32 (M.2 (c1 + 1) x2.toNatClampNeg)) 16 then
              if am_inB (x2 + (2 : Int32)) 60 then
                if (lg_cmp (Int32.toInt64 (M.1 (118 + (1 + 1 * (Int64.toInt32 (M.2 (c1 + 1) (x2 + (1 : Int32)).toNatClampNeg)).toNatClampNeg)) (Int64.toInt32 (M.2 (c1 + 1) x2.toNatClampNeg)).toNatClampNeg)) (M.2 (c1 + 1) (x2 + (2 : Int32)).toNatClampNeg)) = 0 then
                  f32_2 z n c1 (x2 + (3 : Int32)) M
                else
                  some (some (.inl ((0 : Int32) &&& 1)), M)
              else
                none
            else
              none
          else
            none
        else
          none
      else
        none
set_option maxRecDepth 100000 in
set_option maxHeartbeats 4000000 in
theorem e32_2 (z : Nat) : ∀ (n : Nat) (c1 : Nat) (x2 : Int32) (M : aM) (r : aR), f32_2 z n c1 x2 M = some r → am_Ev 1 32 2 [some (.inr (.inr (3, 116))), some (.inr (.inr (4, c1))), some (.inl x2), none, none] [] M r := by
  intro n
  induction n with
  | zero =>
    intro c1 x2 M r h
    cases h
  | succ n ih =>
    intro c1 x2 M r h
    exact am_Ev_seg (sem := am_s32_ z) (cut := ([(2, [true, true, true, false, false])] : List (Nat × List Bool))) (hs32 z) am_r32 am_k32 (by rw [am_l32]; decide) (am_kc 2 (fun al st M => match al, st with
      | [some (.inr (.inr (3, 116))), some (.inr (.inr (4, c1))), some (.inl x2), none, none], [] => f32_2 z n c1 x2 M
      | _, _ => none) am_k0) 40 h (am_kc_ok (fun al st M hk => by
      split at hk
      · exact ih _ _ _ _ hk
      · cases hk) am_k0_ok)
/-- ArgumentMender$Sight.agrees(LArgumentMender$Slot;)Z -/
def f32 (z : Nat) (c1 : Nat) (M : aM) : Option aR :=
  f32_2 z z c1 (0 : Int32) M
set_option maxRecDepth 100000 in
set_option maxHeartbeats 4000000 in
theorem e32 (z : Nat) : ∀ (c1 : Nat) (M : aM) (r : aR), f32 z c1 M = some r → am_Ev 1 32 0 [some (.inr (.inr (3, 116))), some (.inr (.inr (4, c1))), none, none, none] [] M r := by
  intro c1 M r h
  exact am_Ev_seg (sem := am_s32_ z) (cut := ([(2, [true, true, true, false, false])] : List (Nat × List Bool))) (hs32 z) am_r32 am_k32 (by rw [am_l32]; decide) (am_kc 2 (fun al st M => match al, st with
      | [some (.inr (.inr (3, 116))), some (.inr (.inr (4, c1))), some (.inl x2), none, none], [] => f32_2 z z c1 x2 M
      | _, _ => none) am_k0) 4 h (am_kc_ok (fun al st M hk => by
      split at hk
      · exact e32_2 z _ _ _ _ _ hk
      · cases hk) am_k0_ok)
def F32 (z : Nat) (as : List aV) (M : aM) : Option aR := match as with
  | [.inr (.inr (3, 116)), .inr (.inr (4, c1))] => f32 z c1 M
  | _ => none
theorem S32 (z : Nat) : am_Snd 1 32 (F32 z) := am_meth (by decide +kernel) (fun as M r has h => by
    rw [am_l32]
    unfold F32 at h
    split at h
    · exact ⟨Nat.le_of_ble_eq_true rfl, e32 z _ _ _ h⟩
    · cases h)
def cd73_0 : List am_E := [(0, .aload_n 0, 1, 0, 0, 0, 0), (1, .aload_n 1, 1, 1, 0, 0, 0), (2, .getfield 45, 3, 1, 2, 0, 0), (5, .putfield 51, 3, 9, 0, 0, 0), (8, .aload_n 0, 1, 0, 0, 0, 0), (9, .iconst 0, 1, 0, 0, 0, 0), (10, .putfield 52, 3, 9, 1, 0, 0), (13, .aload_n 0, 1, 0, 0, 0, 0), (14, .iconst 0, 1, 0, 0, 0, 0), (15, .putfield 55, 3, 9, 2, 0, 0), (18, .aload_n 1, 1, 1, 0, 0, 0), (19, .getfield 58, 3, 1, 9, 0, 0), (22, .iconst 0, 1, 0, 0, 0, 0), (23, .aload_n 0, 1, 0, 0, 0, 0), (24, .getfield 11, 3, 9, 3, 0, 0), (27, .iconst 0, 1, 0, 0, 0, 0), (28, .aaload, 1, 0, 0, 0, 0), (29, .iconst 0, 1, 0, 0, 0, 0), (30, .bipush 16, 2, 0, 0, 16, 0), (32, .invokestatic 61, 3, 0, 1, 0, 0), (35, .return_, 1, 0, 0, 0, 0)]
def cd73 : List am_E := cd73_0
def am_w73 : List (List (Int32 × Nat) × Nat) := []
set_option maxRecDepth 100000 in
theorem kcd73_0 : cd73_0.all (am_chk am_w73 73) = true := by decide +kernel
theorem am_k73 : cd73.all (am_chk am_w73 73) = true := by
  simp only [cd73, List.all_append, kcd73_0, Bool.and_self]
theorem am_r73 : am_rtc 73 = 4 := by decide +kernel
theorem am_l73 : am_ml 73 = 2 := by decide +kernel
def am_s73_ (z : Nat) : Nat → List aV → aM → Option aR := am_s0
theorem hs73 (z : Nat) : ∀ j2 : Nat, ∃ d2 : Nat, d2 + 1 ≤ 1 ∧ am_Snd d2 j2 (am_s73_ z j2) := (am_s0_ok (by decide))
def f73_35 (z : Nat)  (M : aM) : Option aR :=
  some (none, M)
set_option maxRecDepth 100000 in
set_option maxHeartbeats 4000000 in
theorem e73_35 (z : Nat) : ∀ (M : aM) (r : aR), f73_35 z  M = some r → am_Ev 1 73 35 [none, none] [] M r := by
  intro  M r h
  exact am_Ev_seg (sem := am_s73_ z) (cut := ([] : List (Nat × List Bool))) (hs73 z) am_r73 am_k73 (by rw [am_l73]; decide) am_k0 2 h am_k0_ok
/-- ArgumentMender$Years.asTold(LArgumentMender$Cloth;)V -/
def f73 (z : Nat) (c0 : Nat) (c1 : Nat) (M : aM) : Option aR :=
  let I1 := am_u M.1 c0 0 (M.1 c1 2)
  let I2 := am_u I1 c0 1 (0 : Int32)
  let I3 := am_u I2 c0 2 (0 : Int32)
  if am_inB (0 : Int32) 13 then
    if am_cpOk (0 : Int32) (0 : Int32) (16 : Int32) 16 16 then
      let I4 := am_ua I3 ((c0 + 1) + (1 + 1 * (0 : Int32).toNatClampNeg)) (va_cpy (I3 (c1 + 3)) (I3 ((c0 + 1) + (1 + 1 * (0 : Int32).toNatClampNeg))) (0 : Int32).toNatClampNeg (0 : Int32).toNatClampNeg (16 : Int32).toNatClampNeg)
      f73_35 z (I4, M.2)
    else
      none
  else
    none
set_option maxRecDepth 100000 in
set_option maxHeartbeats 4000000 in
theorem e73 (z : Nat) : ∀ (c0 : Nat) (c1 : Nat) (M : aM) (r : aR), f73 z c0 c1 M = some r → am_Ev 1 73 0 [some (.inr (.inr (9, c0))), some (.inr (.inr (1, c1)))] [] M r := by
  intro c0 c1 M r h
  exact am_Ev_seg (sem := am_s73_ z) (cut := ([(35, [false, false])] : List (Nat × List Bool))) (hs73 z) am_r73 am_k73 (by rw [am_l73]; decide) (am_kc 35 (fun al st M => match al, st with
      | [none, none], [] => f73_35 z  M
      | _, _ => none) am_k0) 22 h (am_kc_ok (fun al st M hk => by
      split at hk
      · exact e73_35 z _ _ hk
      · cases hk) am_k0_ok)
def F73 (z : Nat) (as : List aV) (M : aM) : Option aR := match as with
  | [.inr (.inr (9, c0)), .inr (.inr (1, c1))] => f73 z c0 c1 M
  | _ => none
theorem S73 (z : Nat) : am_Snd 1 73 (F73 z) := am_meth (by decide +kernel) (fun as M r has h => by
    rw [am_l73]
    unfold F73 at h
    split at h
    · exact ⟨Nat.le_of_ble_eq_true rfl, e73 z _ _ _ _ h⟩
    · cases h)
def cd343_0 : List am_E := [(0, .iconst 0, 1, 0, 0, 0, 0), (1, .istore_n 2, 1, 2, 0, 0, 0), (2, .aload_n 0, 1, 0, 0, 0, 0), (3, .arraylength, 1, 0, 0, 0, 0), (4, .istore_n 3, 1, 3, 0, 0, 0), (5, .iload_n 2, 1, 2, 0, 0, 0), (6, .iload_n 3, 1, 3, 0, 0, 0), (7, .if_icmp .ge 13, 3, 20, 0, 0, 0), (10, .aload_n 0, 1, 0, 0, 0, 0), (11, .iload_n 2, 1, 2, 0, 0, 0), (12, .iload_n 1, 1, 1, 0, 0, 0), (13, .iastore, 1, 0, 0, 0, 0), (14, .iinc 2 1, 3, 2, 0, 1, 0), (17, .goto (-12), 3, 5, 0, 0, 0), (20, .return_, 1, 0, 0, 0, 0)]
def cd343 : List am_E := cd343_0
def am_w343 : List (List (Int32 × Nat) × Nat) := []
set_option maxRecDepth 100000 in
theorem kcd343_0 : cd343_0.all (am_chk am_w343 343) = true := by decide +kernel
theorem am_k343 : cd343.all (am_chk am_w343 343) = true := by
  simp only [cd343, List.all_append, kcd343_0, Bool.and_self]
theorem am_r343 : am_rtc 343 = 4 := by decide +kernel
theorem am_l343 : am_ml 343 = 4 := by decide +kernel
def am_s343_ (z : Nat) : Nat → List aV → aM → Option aR := am_s0
theorem hs343 (z : Nat) : ∀ j2 : Nat, ∃ d2 : Nat, d2 + 1 ≤ 1 ∧ am_Snd d2 j2 (am_s343_ z j2) := (am_s0_ok (by decide))
def f343_k21_5 (z : Nat) : Nat → Nat → Int32 → Int32 → Int32 → aM → Option aR
  | 0, _, _, _, _, _ => none
  | n + 1, c0, x1, x2, x3, M =>
    if x3 ≤ x2 then
      some (none, M)
    else
      if am_inB x2 16 then
        let I1 := am_u M.1 c0 x2.toNatClampNeg x1
        f343_k21_5 z n c0 x1 (x2 + (1 : Int32)) x3 (I1, M.2)
      else
        none
set_option maxRecDepth 100000 in
set_option maxHeartbeats 4000000 in
theorem e343_k21_5 (z : Nat) : ∀ (n : Nat) (c0 : Nat) (x1 : Int32) (x2 : Int32) (x3 : Int32) (M : aM) (r : aR), f343_k21_5 z n c0 x1 x2 x3 M = some r → am_Ev 1 343 5 [some (.inr (.inr (21, c0))), some (.inl x1), some (.inl x2), some (.inl x3)] [] M r := by
  intro n
  induction n with
  | zero =>
    intro c0 x1 x2 x3 M r h
    cases h
  | succ n ih =>
    intro c0 x1 x2 x3 M r h
    exact am_Ev_seg (sem := am_s343_ z) (cut := ([(5, [true, true, true, true])] : List (Nat × List Bool))) (hs343 z) am_r343 am_k343 (by rw [am_l343]; decide) (am_kc 5 (fun al st M => match al, st with
      | [some (.inr (.inr (21, c0))), some (.inl x1), some (.inl x2), some (.inl x3)], [] => f343_k21_5 z n c0 x1 x2 x3 M
      | _, _ => none) am_k0) 11 h (am_kc_ok (fun al st M hk => by
      split at hk
      · exact ih _ _ _ _ _ _ hk
      · cases hk) am_k0_ok)
/-- java/util/Arrays.fill([II)V for rows of kind 21 -/
def f343_k21 (z : Nat) (c0 : Nat) (x1 : Int32) (M : aM) : Option aR :=
  f343_k21_5 z z c0 x1 (0 : Int32) (nI 16) M
set_option maxRecDepth 100000 in
set_option maxHeartbeats 4000000 in
theorem e343_k21 (z : Nat) : ∀ (c0 : Nat) (x1 : Int32) (M : aM) (r : aR), f343_k21 z c0 x1 M = some r → am_Ev 1 343 0 [some (.inr (.inr (21, c0))), some (.inl x1), none, none] [] M r := by
  intro c0 x1 M r h
  exact am_Ev_seg (sem := am_s343_ z) (cut := ([(5, [true, true, true, true])] : List (Nat × List Bool))) (hs343 z) am_r343 am_k343 (by rw [am_l343]; decide) (am_kc 5 (fun al st M => match al, st with
      | [some (.inr (.inr (21, c0))), some (.inl x1), some (.inl x2), some (.inl x3)], [] => f343_k21_5 z z c0 x1 x2 x3 M
      | _, _ => none) am_k0) 7 h (am_kc_ok (fun al st M hk => by
      split at hk
      · exact e343_k21_5 z _ _ _ _ _ _ _ hk
      · cases hk) am_k0_ok)
def f343_k22_5 (z : Nat) : Nat → Nat → Int32 → Int32 → Int32 → aM → Option aR
  | 0, _, _, _, _, _ => none
  | n + 1, c0, x1, x2, x3, M =>
    if x3 ≤ x2 then
      some (none, M)
    else
      if am_inB x2 10 then
        let I1 := am_u M.1 c0 x2.toNatClampNeg x1
        f343_k22_5 z n c0 x1 (x2 + (1 : Int32)) x3 (I1, M.2)
      else
        none
set_option maxRecDepth 100000 in
set_option maxHeartbeats 4000000 in
theorem e343_k22_5 (z : Nat) : ∀ (n : Nat) (c0 : Nat) (x1 : Int32) (x2 : Int32) (x3 : Int32) (M : aM) (r : aR), f343_k22_5 z n c0 x1 x2 x3 M = some r → am_Ev 1 343 5 [some (.inr (.inr (22, c0))), some (.inl x1), some (.inl x2), some (.inl x3)] [] M r := by
  intro n
  induction n with
  | zero =>
    intro c0 x1 x2 x3 M r h
    cases h
  | succ n ih =>
    intro c0 x1 x2 x3 M r h
    exact am_Ev_seg (sem := am_s343_ z) (cut := ([(5, [true, true, true, true])] : List (Nat × List Bool))) (hs343 z) am_r343 am_k343 (by rw [am_l343]; decide) (am_kc 5 (fun al st M => match al, st with
      | [some (.inr (.inr (22, c0))), some (.inl x1), some (.inl x2), some (.inl x3)], [] => f343_k22_5 z n c0 x1 x2 x3 M
      | _, _ => none) am_k0) 11 h (am_kc_ok (fun al st M hk => by
      split at hk
      · exact ih _ _ _ _ _ _ hk
      · cases hk) am_k0_ok)
/-- java/util/Arrays.fill([II)V for rows of kind 22 -/
def f343_k22 (z : Nat) (c0 : Nat) (x1 : Int32) (M : aM) : Option aR :=
  f343_k22_5 z z c0 x1 (0 : Int32) (nI 10) M
set_option maxRecDepth 100000 in
set_option maxHeartbeats 4000000 in
theorem e343_k22 (z : Nat) : ∀ (c0 : Nat) (x1 : Int32) (M : aM) (r : aR), f343_k22 z c0 x1 M = some r → am_Ev 1 343 0 [some (.inr (.inr (22, c0))), some (.inl x1), none, none] [] M r := by
  intro c0 x1 M r h
  exact am_Ev_seg (sem := am_s343_ z) (cut := ([(5, [true, true, true, true])] : List (Nat × List Bool))) (hs343 z) am_r343 am_k343 (by rw [am_l343]; decide) (am_kc 5 (fun al st M => match al, st with
      | [some (.inr (.inr (22, c0))), some (.inl x1), some (.inl x2), some (.inl x3)], [] => f343_k22_5 z z c0 x1 x2 x3 M
      | _, _ => none) am_k0) 7 h (am_kc_ok (fun al st M hk => by
      split at hk
      · exact e343_k22_5 z _ _ _ _ _ _ _ hk
      · cases hk) am_k0_ok)
def f343_k23_5 (z : Nat) : Nat → Nat → Int32 → Int32 → Int32 → aM → Option aR
  | 0, _, _, _, _, _ => none
  | n + 1, c0, x1, x2, x3, M =>
    if x3 ≤ x2 then
      some (none, M)
    else
      if am_inB x2 9 then
        let I1 := am_u M.1 c0 x2.toNatClampNeg x1
        f343_k23_5 z n c0 x1 (x2 + (1 : Int32)) x3 (I1, M.2)
      else
        none
set_option maxRecDepth 100000 in
set_option maxHeartbeats 4000000 in
theorem e343_k23_5 (z : Nat) : ∀ (n : Nat) (c0 : Nat) (x1 : Int32) (x2 : Int32) (x3 : Int32) (M : aM) (r : aR), f343_k23_5 z n c0 x1 x2 x3 M = some r → am_Ev 1 343 5 [some (.inr (.inr (23, c0))), some (.inl x1), some (.inl x2), some (.inl x3)] [] M r := by
  intro n
  induction n with
  | zero =>
    intro c0 x1 x2 x3 M r h
    cases h
  | succ n ih =>
    intro c0 x1 x2 x3 M r h
    exact am_Ev_seg (sem := am_s343_ z) (cut := ([(5, [true, true, true, true])] : List (Nat × List Bool))) (hs343 z) am_r343 am_k343 (by rw [am_l343]; decide) (am_kc 5 (fun al st M => match al, st with
      | [some (.inr (.inr (23, c0))), some (.inl x1), some (.inl x2), some (.inl x3)], [] => f343_k23_5 z n c0 x1 x2 x3 M
      | _, _ => none) am_k0) 11 h (am_kc_ok (fun al st M hk => by
      split at hk
      · exact ih _ _ _ _ _ _ hk
      · cases hk) am_k0_ok)
/-- java/util/Arrays.fill([II)V for rows of kind 23 -/
def f343_k23 (z : Nat) (c0 : Nat) (x1 : Int32) (M : aM) : Option aR :=
  f343_k23_5 z z c0 x1 (0 : Int32) (nI 9) M
set_option maxRecDepth 100000 in
set_option maxHeartbeats 4000000 in
theorem e343_k23 (z : Nat) : ∀ (c0 : Nat) (x1 : Int32) (M : aM) (r : aR), f343_k23 z c0 x1 M = some r → am_Ev 1 343 0 [some (.inr (.inr (23, c0))), some (.inl x1), none, none] [] M r := by
  intro c0 x1 M r h
  exact am_Ev_seg (sem := am_s343_ z) (cut := ([(5, [true, true, true, true])] : List (Nat × List Bool))) (hs343 z) am_r343 am_k343 (by rw [am_l343]; decide) (am_kc 5 (fun al st M => match al, st with
      | [some (.inr (.inr (23, c0))), some (.inl x1), some (.inl x2), some (.inl x3)], [] => f343_k23_5 z z c0 x1 x2 x3 M
      | _, _ => none) am_k0) 7 h (am_kc_ok (fun al st M hk => by
      split at hk
      · exact e343_k23_5 z _ _ _ _ _ _ _ hk
      · cases hk) am_k0_ok)
def f343_k27_5 (z : Nat) : Nat → Nat → Int32 → Int32 → Int32 → aM → Option aR
  | 0, _, _, _, _, _ => none
  | n + 1, c0, x1, x2, x3, M =>
    if x3 ≤ x2 then
      some (none, M)
    else
      if am_inB x2 8 then
        let I1 := am_u M.1 c0 x2.toNatClampNeg x1
        f343_k27_5 z n c0 x1 (x2 + (1 : Int32)) x3 (I1, M.2)
      else
        none
set_option maxRecDepth 100000 in
set_option maxHeartbeats 4000000 in
theorem e343_k27_5 (z : Nat) : ∀ (n : Nat) (c0 : Nat) (x1 : Int32) (x2 : Int32) (x3 : Int32) (M : aM) (r : aR), f343_k27_5 z n c0 x1 x2 x3 M = some r → am_Ev 1 343 5 [some (.inr (.inr (27, c0))), some (.inl x1), some (.inl x2), some (.inl x3)] [] M r := by
  intro n
  induction n with
  | zero =>
    intro c0 x1 x2 x3 M r h
    cases h
  | succ n ih =>
    intro c0 x1 x2 x3 M r h
    exact am_Ev_seg (sem := am_s343_ z) (cut := ([(5, [true, true, true, true])] : List (Nat × List Bool))) (hs343 z) am_r343 am_k343 (by rw [am_l343]; decide) (am_kc 5 (fun al st M => match al, st with
      | [some (.inr (.inr (27, c0))), some (.inl x1), some (.inl x2), some (.inl x3)], [] => f343_k27_5 z n c0 x1 x2 x3 M
      | _, _ => none) am_k0) 11 h (am_kc_ok (fun al st M hk => by
      split at hk
      · exact ih _ _ _ _ _ _ hk
      · cases hk) am_k0_ok)
/-- java/util/Arrays.fill([II)V for rows of kind 27 -/
def f343_k27 (z : Nat) (c0 : Nat) (x1 : Int32) (M : aM) : Option aR :=
  f343_k27_5 z z c0 x1 (0 : Int32) (nI 8) M
set_option maxRecDepth 100000 in
set_option maxHeartbeats 4000000 in
theorem e343_k27 (z : Nat) : ∀ (c0 : Nat) (x1 : Int32) (M : aM) (r : aR), f343_k27 z c0 x1 M = some r → am_Ev 1 343 0 [some (.inr (.inr (27, c0))), some (.inl x1), none, none] [] M r := by
  intro c0 x1 M r h
  exact am_Ev_seg (sem := am_s343_ z) (cut := ([(5, [true, true, true, true])] : List (Nat × List Bool))) (hs343 z) am_r343 am_k343 (by rw [am_l343]; decide) (am_kc 5 (fun al st M => match al, st with
      | [some (.inr (.inr (27, c0))), some (.inl x1), some (.inl x2), some (.inl x3)], [] => f343_k27_5 z z c0 x1 x2 x3 M
      | _, _ => none) am_k0) 7 h (am_kc_ok (fun al st M hk => by
      split at hk
      · exact e343_k27_5 z _ _ _ _ _ _ _ hk
      · cases hk) am_k0_ok)
def f343_k28_5 (z : Nat) : Nat → Nat → Int32 → Int32 → Int32 → aM → Option aR
  | 0, _, _, _, _, _ => none
  | n + 1, c0, x1, x2, x3, M =>
    if x3 ≤ x2 then
      some (none, M)
    else
      if am_inB x2 976 then
        let I1 := am_u M.1 c0 x2.toNatClampNeg x1
        f343_k28_5 z n c0 x1 (x2 + (1 : Int32)) x3 (I1, M.2)
      else
        none
set_option maxRecDepth 100000 in
set_option maxHeartbeats 4000000 in
theorem e343_k28_5 (z : Nat) : ∀ (n : Nat) (c0 : Nat) (x1 : Int32) (x2 : Int32) (x3 : Int32) (M : aM) (r : aR), f343_k28_5 z n c0 x1 x2 x3 M = some r → am_Ev 1 343 5 [some (.inr (.inr (28, c0))), some (.inl x1), some (.inl x2), some (.inl x3)] [] M r := by
  intro n
  induction n with
  | zero =>
    intro c0 x1 x2 x3 M r h
    cases h
  | succ n ih =>
    intro c0 x1 x2 x3 M r h
    exact am_Ev_seg (sem := am_s343_ z) (cut := ([(5, [true, true, true, true])] : List (Nat × List Bool))) (hs343 z) am_r343 am_k343 (by rw [am_l343]; decide) (am_kc 5 (fun al st M => match al, st with
      | [some (.inr (.inr (28, c0))), some (.inl x1), some (.inl x2), some (.inl x3)], [] => f343_k28_5 z n c0 x1 x2 x3 M
      | _, _ => none) am_k0) 11 h (am_kc_ok (fun al st M hk => by
      split at hk
      · exact ih _ _ _ _ _ _ hk
      · cases hk) am_k0_ok)
/-- java/util/Arrays.fill([II)V for rows of kind 28 -/
def f343_k28 (z : Nat) (c0 : Nat) (x1 : Int32) (M : aM) : Option aR :=
  f343_k28_5 z z c0 x1 (0 : Int32) (nI 976) M
set_option maxRecDepth 100000 in
set_option maxHeartbeats 4000000 in
theorem e343_k28 (z : Nat) : ∀ (c0 : Nat) (x1 : Int32) (M : aM) (r : aR), f343_k28 z c0 x1 M = some r → am_Ev 1 343 0 [some (.inr (.inr (28, c0))), some (.inl x1), none, none] [] M r := by
  intro c0 x1 M r h
  exact am_Ev_seg (sem := am_s343_ z) (cut := ([(5, [true, true, true, true])] : List (Nat × List Bool))) (hs343 z) am_r343 am_k343 (by rw [am_l343]; decide) (am_kc 5 (fun al st M => match al, st with
      | [some (.inr (.inr (28, c0))), some (.inl x1), some (.inl x2), some (.inl x3)], [] => f343_k28_5 z z c0 x1 x2 x3 M
      | _, _ => none) am_k0) 7 h (am_kc_ok (fun al st M hk => by
      split at hk
      · exact e343_k28_5 z _ _ _ _ _ _ _ hk
      · cases hk) am_k0_ok)
def f343_k29_5 (z : Nat) : Nat → Nat → Int32 → Int32 → Int32 → aM → Option aR
  | 0, _, _, _, _, _ => none
  | n + 1, c0, x1, x2, x3, M =>
    if x3 ≤ x2 then
      some (none, M)
    else
      if am_inB x2 1024 then
        let I1 := am_u M.1 c0 x2.toNatClampNeg x1
        f343_k29_5 z n c0 x1 (x2 + (1 : Int32)) x3 (I1, M.2)
      else
        none
set_option maxRecDepth 100000 in
set_option maxHeartbeats 4000000 in
theorem e343_k29_5 (z : Nat) : ∀ (n : Nat) (c0 : Nat) (x1 : Int32) (x2 : Int32) (x3 : Int32) (M : aM) (r : aR), f343_k29_5 z n c0 x1 x2 x3 M = some r → am_Ev 1 343 5 [some (.inr (.inr (29, c0))), some (.inl x1), some (.inl x2), some (.inl x3)] [] M r := by
  intro n
  induction n with
  | zero =>
    intro c0 x1 x2 x3 M r h
    cases h
  | succ n ih =>
    intro c0 x1 x2 x3 M r h
    exact am_Ev_seg (sem := am_s343_ z) (cut := ([(5, [true, true, true, true])] : List (Nat × List Bool))) (hs343 z) am_r343 am_k343 (by rw [am_l343]; decide) (am_kc 5 (fun al st M => match al, st with
      | [some (.inr (.inr (29, c0))), some (.inl x1), some (.inl x2), some (.inl x3)], [] => f343_k29_5 z n c0 x1 x2 x3 M
      | _, _ => none) am_k0) 11 h (am_kc_ok (fun al st M hk => by
      split at hk
      · exact ih _ _ _ _ _ _ hk
      · cases hk) am_k0_ok)
/-- java/util/Arrays.fill([II)V for rows of kind 29 -/
def f343_k29 (z : Nat) (c0 : Nat) (x1 : Int32) (M : aM) : Option aR :=
  f343_k29_5 z z c0 x1 (0 : Int32) (nI 1024) M
set_option maxRecDepth 100000 in
set_option maxHeartbeats 4000000 in
theorem e343_k29 (z : Nat) : ∀ (c0 : Nat) (x1 : Int32) (M : aM) (r : aR), f343_k29 z c0 x1 M = some r → am_Ev 1 343 0 [some (.inr (.inr (29, c0))), some (.inl x1), none, none] [] M r := by
  intro c0 x1 M r h
  exact am_Ev_seg (sem := am_s343_ z) (cut := ([(5, [true, true, true, true])] : List (Nat × List Bool))) (hs343 z) am_r343 am_k343 (by rw [am_l343]; decide) (am_kc 5 (fun al st M => match al, st with
      | [some (.inr (.inr (29, c0))), some (.inl x1), some (.inl x2), some (.inl x3)], [] => f343_k29_5 z z c0 x1 x2 x3 M
      | _, _ => none) am_k0) 7 h (am_kc_ok (fun al st M hk => by
      split at hk
      · exact e343_k29_5 z _ _ _ _ _ _ _ hk
      · cases hk) am_k0_ok)
def f343_k30_5 (z : Nat) : Nat → Nat → Int32 → Int32 → Int32 → aM → Option aR
  | 0, _, _, _, _, _ => none
  | n + 1, c0, x1, x2, x3, M =>
    if x3 ≤ x2 then
      some (none, M)
    else
      if am_inB x2 256 then
        let I1 := am_u M.1 c0 x2.toNatClampNeg x1
        f343_k30_5 z n c0 x1 (x2 + (1 : Int32)) x3 (I1, M.2)
      else
        none
set_option maxRecDepth 100000 in
set_option maxHeartbeats 4000000 in
theorem e343_k30_5 (z : Nat) : ∀ (n : Nat) (c0 : Nat) (x1 : Int32) (x2 : Int32) (x3 : Int32) (M : aM) (r : aR), f343_k30_5 z n c0 x1 x2 x3 M = some r → am_Ev 1 343 5 [some (.inr (.inr (30, c0))), some (.inl x1), some (.inl x2), some (.inl x3)] [] M r := by
  intro n
  induction n with
  | zero =>
    intro c0 x1 x2 x3 M r h
    cases h
  | succ n ih =>
    intro c0 x1 x2 x3 M r h
    exact am_Ev_seg (sem := am_s343_ z) (cut := ([(5, [true, true, true, true])] : List (Nat × List Bool))) (hs343 z) am_r343 am_k343 (by rw [am_l343]; decide) (am_kc 5 (fun al st M => match al, st with
      | [some (.inr (.inr (30, c0))), some (.inl x1), some (.inl x2), some (.inl x3)], [] => f343_k30_5 z n c0 x1 x2 x3 M
      | _, _ => none) am_k0) 11 h (am_kc_ok (fun al st M hk => by
      split at hk
      · exact ih _ _ _ _ _ _ hk
      · cases hk) am_k0_ok)
/-- java/util/Arrays.fill([II)V for rows of kind 30 -/
def f343_k30 (z : Nat) (c0 : Nat) (x1 : Int32) (M : aM) : Option aR :=
  f343_k30_5 z z c0 x1 (0 : Int32) (nI 256) M
set_option maxRecDepth 100000 in
set_option maxHeartbeats 4000000 in
theorem e343_k30 (z : Nat) : ∀ (c0 : Nat) (x1 : Int32) (M : aM) (r : aR), f343_k30 z c0 x1 M = some r → am_Ev 1 343 0 [some (.inr (.inr (30, c0))), some (.inl x1), none, none] [] M r := by
  intro c0 x1 M r h
  exact am_Ev_seg (sem := am_s343_ z) (cut := ([(5, [true, true, true, true])] : List (Nat × List Bool))) (hs343 z) am_r343 am_k343 (by rw [am_l343]; decide) (am_kc 5 (fun al st M => match al, st with
      | [some (.inr (.inr (30, c0))), some (.inl x1), some (.inl x2), some (.inl x3)], [] => f343_k30_5 z z c0 x1 x2 x3 M
      | _, _ => none) am_k0) 7 h (am_kc_ok (fun al st M hk => by
      split at hk
      · exact e343_k30_5 z _ _ _ _ _ _ _ hk
      · cases hk) am_k0_ok)
def F343 (z : Nat) (as : List aV) (M : aM) : Option aR := match as with
  | [.inr (.inr (21, c0)), .inl x1] => f343_k21 z c0 x1 M
  | [.inr (.inr (22, c0)), .inl x1] => f343_k22 z c0 x1 M
  | [.inr (.inr (23, c0)), .inl x1] => f343_k23 z c0 x1 M
  | [.inr (.inr (27, c0)), .inl x1] => f343_k27 z c0 x1 M
  | [.inr (.inr (28, c0)), .inl x1] => f343_k28 z c0 x1 M
  | [.inr (.inr (29, c0)), .inl x1] => f343_k29 z c0 x1 M
  | [.inr (.inr (30, c0)), .inl x1] => f343_k30 z c0 x1 M
  | _ => none
theorem S343 (z : Nat) : am_Snd 1 343 (F343 z) := am_meth (by decide +kernel) (fun as M r has h => by
    rw [am_l343]
    unfold F343 at h
    split at h
    · exact ⟨Nat.le_of_ble_eq_true rfl, e343_k21 z _ _ _ _ h⟩
    · exact ⟨Nat.le_of_ble_eq_true rfl, e343_k22 z _ _ _ _ h⟩
    · exact ⟨Nat.le_of_ble_eq_true rfl, e343_k23 z _ _ _ _ h⟩
    · exact ⟨Nat.le_of_ble_eq_true rfl, e343_k27 z _ _ _ _ h⟩
    · exact ⟨Nat.le_of_ble_eq_true rfl, e343_k28 z _ _ _ _ h⟩
    · exact ⟨Nat.le_of_ble_eq_true rfl, e343_k29 z _ _ _ _ h⟩
    · exact ⟨Nat.le_of_ble_eq_true rfl, e343_k30 z _ _ _ _ h⟩
    · cases h)
def cd57_0 : List am_E := [(0, .aload_n 0, 1, 0, 0, 0, 0), (1, .getfield 9, 3, 7, 0, 0, 0), (4, .iconst 0, 1, 0, 0, 0, 0), (5, .invokestatic 42, 3, 343, 29, 0, 0), (8, .aload_n 0, 1, 0, 0, 0, 0), (9, .getfield 15, 3, 7, 5, 0, 0), (12, .iconst 0, 1, 0, 0, 0, 0), (13, .invokestatic 42, 3, 343, 29, 0, 0), (16, .aload_n 0, 1, 0, 0, 0, 0), (17, .getfield 15, 3, 7, 5, 0, 0), (20, .iload_n 1, 1, 1, 0, 0, 0), (21, .iload_n 2, 1, 2, 0, 0, 0), (22, .iastore, 1, 0, 0, 0, 0), (23, .aload_n 0, 1, 0, 0, 0, 0), (24, .iconst 0, 1, 0, 0, 0, 0), (25, .putfield 48, 3, 7, 3, 0, 0), (28, .aload_n 0, 1, 0, 0, 0, 0), (29, .iconst 0, 1, 0, 0, 0, 0), (30, .putfield 51, 3, 7, 4, 0, 0), (33, .return_, 1, 0, 0, 0, 0)]
def cd57 : List am_E := cd57_0
def am_w57 : List (List (Int32 × Nat) × Nat) := []
set_option maxRecDepth 100000 in
theorem kcd57_0 : cd57_0.all (am_chk am_w57 57) = true := by decide +kernel
theorem am_k57 : cd57.all (am_chk am_w57 57) = true := by
  simp only [cd57, List.all_append, kcd57_0, Bool.and_self]
theorem am_r57 : am_rtc 57 = 4 := by decide +kernel
theorem am_l57 : am_ml 57 = 3 := by decide +kernel
def am_s57_ (z : Nat) : Nat → List aV → aM → Option aR := (am_sm 343 (F343 z) am_s0)
theorem hs57 (z : Nat) : ∀ j2 : Nat, ∃ d2 : Nat, d2 + 1 ≤ 2 ∧ am_Snd d2 j2 (am_s57_ z j2) := (am_sm_ok (S343 z) (by decide) (am_s0_ok (by decide)))
/-- ArgumentMender$Tug.begin(II)V -/
def f57 (z : Nat) (c0 : Nat) (x1 : Int32) (x2 : Int32) (M : aM) : Option aR :=
  am_bv (f343_k21 z (c0 + 1) (0 : Int32) M) fun M1 =>
    am_bv (f343_k27 z (c0 + 2) (0 : Int32) M1) fun M2 =>
      if am_inB x1 8 then
        let I3 := am_u M2.1 (c0 + 2) x1.toNatClampNeg x2
        let I4 := am_u I3 c0 3 (0 : Int32)
        let I5 := am_u I4 c0 4 (0 : Int32)
        some (none, (I5, M2.2))
      else
        none
set_option maxRecDepth 100000 in
set_option maxHeartbeats 4000000 in
theorem e57 (z : Nat) : ∀ (c0 : Nat) (x1 : Int32) (x2 : Int32) (M : aM) (r : aR), f57 z c0 x1 x2 M = some r → am_Ev 2 57 0 [some (.inr (.inr (7, c0))), some (.inl x1), some (.inl x2)] [] M r := by
  intro c0 x1 x2 M r h
  exact am_Ev_seg (sem := am_s57_ z) (cut := ([] : List (Nat × List Bool))) (hs57 z) am_r57 am_k57 (by rw [am_l57]; decide) am_k0 21 h am_k0_ok
def F57 (z : Nat) (as : List aV) (M : aM) : Option aR := match as with
  | [.inr (.inr (7, c0)), .inl x1, .inl x2] => f57 z c0 x1 x2 M
  | _ => none
theorem S57 (z : Nat) : am_Snd 2 57 (F57 z) := am_meth (by decide +kernel) (fun as M r has h => by
    rw [am_l57]
    unfold F57 at h
    split at h
    · exact ⟨Nat.le_of_ble_eq_true rfl, e57 z _ _ _ _ _ h⟩
    · cases h)
end
