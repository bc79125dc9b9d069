section
-- ===== PART A: goes FIRST, ahead of the names: the tables' words, and 'selects' of the private methods out of them =====
/-- a private method of a class that the tables say can be made, by its rows of tables_1 -/
def lw_okq (q : MethodName × Nat) : Prop := (q.1.cls ≠ "java/lang/invoke/MethodHandle" ∧ q.1.cls ≠ "java/lang/invoke/VarHandle") ∧ Cond.instantiable q.1.cls q.2 ∈ tables_1 ∧ Cond.privateMethod q.1 ∈ tables_1 ∧ Cond.instanceMethod q.1 ∈ tables_1
theorem lw_p0 : lw_okq (⟨"YarnPlier$Yarns", "join", "(I[II)V"⟩, 3) := ⟨⟨by decide +kernel, by decide +kernel⟩, List.mem_of_getElem? (i := 29) (by decide +kernel), List.mem_of_getElem? (i := 277) (by decide +kernel), List.mem_of_getElem? (i := 278) (by decide +kernel)⟩
theorem lw_p1 : lw_okq (⟨"YarnPlier", "torqueOf", "(I)I"⟩, 13) := ⟨⟨by decide +kernel, by decide +kernel⟩, List.mem_of_getElem? (i := 15) (by decide +kernel), List.mem_of_getElem? (i := 370) (by decide +kernel), List.mem_of_getElem? (i := 371) (by decide +kernel)⟩
theorem lw_p2 : lw_okq (⟨"YarnPlier$Within", "addPlace", "(LYarnPlier$Yarns;III)V"⟩, 8) := ⟨⟨by decide +kernel, by decide +kernel⟩, List.mem_of_getElem? (i := 121) (by decide +kernel), List.mem_of_getElem? (i := 378) (by decide +kernel), List.mem_of_getElem? (i := 379) (by decide +kernel)⟩
theorem lw_p3 : lw_okq (⟨"YarnPlier$Within", "addParts", "(LYarnPlier$Yarns;II)V"⟩, 8) := ⟨⟨by decide +kernel, by decide +kernel⟩, List.mem_of_getElem? (i := 121) (by decide +kernel), List.mem_of_getElem? (i := 383) (by decide +kernel), List.mem_of_getElem? (i := 384) (by decide +kernel)⟩
theorem lw_p4 : lw_okq (⟨"YarnPlier$Within", "turnBy", "(II)I"⟩, 8) := ⟨⟨by decide +kernel, by decide +kernel⟩, List.mem_of_getElem? (i := 121) (by decide +kernel), List.mem_of_getElem? (i := 396) (by decide +kernel), List.mem_of_getElem? (i := 397) (by decide +kernel)⟩
theorem lw_p5 : lw_okq (⟨"YarnPlier", "makeYards", "(II)I"⟩, 13) := ⟨⟨by decide +kernel, by decide +kernel⟩, List.mem_of_getElem? (i := 15) (by decide +kernel), List.mem_of_getElem? (i := 509) (by decide +kernel), List.mem_of_getElem? (i := 510) (by decide +kernel)⟩
theorem lw_p6 : lw_okq (⟨"YarnPlier", "weighLayers", "()V"⟩, 13) := ⟨⟨by decide +kernel, by decide +kernel⟩, List.mem_of_getElem? (i := 15) (by decide +kernel), List.mem_of_getElem? (i := 527) (by decide +kernel), List.mem_of_getElem? (i := 528) (by decide +kernel)⟩
theorem lw_p7 : lw_okq (⟨"YarnPlier$Skews", "isBest", "(II)Z"⟩, 3) := ⟨⟨by decide +kernel, by decide +kernel⟩, List.mem_of_getElem? (i := 170) (by decide +kernel), List.mem_of_getElem? (i := 567) (by decide +kernel), List.mem_of_getElem? (i := 568) (by decide +kernel)⟩
theorem lw_p8 : lw_okq (⟨"YarnPlier", "fittingFibres", "(II)I"⟩, 13) := ⟨⟨by decide +kernel, by decide +kernel⟩, List.mem_of_getElem? (i := 15) (by decide +kernel), List.mem_of_getElem? (i := 601) (by decide +kernel), List.mem_of_getElem? (i := 602) (by decide +kernel)⟩
theorem lw_p9 : lw_okq (⟨"YarnPlier", "isFitting", "(IIII)Z"⟩, 13) := ⟨⟨by decide +kernel, by decide +kernel⟩, List.mem_of_getElem? (i := 15) (by decide +kernel), List.mem_of_getElem? (i := 605) (by decide +kernel), List.mem_of_getElem? (i := 606) (by decide +kernel)⟩
theorem lw_p10 : lw_okq (⟨"YarnPlier", "fittingWeights", "(III)I"⟩, 13) := ⟨⟨by decide +kernel, by decide +kernel⟩, List.mem_of_getElem? (i := 15) (by decide +kernel), List.mem_of_getElem? (i := 613) (by decide +kernel), List.mem_of_getElem? (i := 614) (by decide +kernel)⟩
theorem lw_p11 : lw_okq (⟨"YarnPlier$Tape", "takeNumber", "()Z"⟩, 6) := ⟨⟨by decide +kernel, by decide +kernel⟩, List.mem_of_getElem? (i := 91) (by decide +kernel), List.mem_of_getElem? (i := 673) (by decide +kernel), List.mem_of_getElem? (i := 674) (by decide +kernel)⟩
theorem lw_p12 : lw_okq (⟨"YarnPlier$Tape", "takeTwist", "()Z"⟩, 6) := ⟨⟨by decide +kernel, by decide +kernel⟩, List.mem_of_getElem? (i := 91) (by decide +kernel), List.mem_of_getElem? (i := 681) (by decide +kernel), List.mem_of_getElem? (i := 682) (by decide +kernel)⟩
theorem lw_p13 : lw_okq (⟨"YarnPlier$Tape", "takeParts", "()Z"⟩, 6) := ⟨⟨by decide +kernel, by decide +kernel⟩, List.mem_of_getElem? (i := 91) (by decide +kernel), List.mem_of_getElem? (i := 685) (by decide +kernel), List.mem_of_getElem? (i := 686) (by decide +kernel)⟩
theorem lw_p14 : lw_okq (⟨"YarnPlier", "doActs", "()I"⟩, 13) := ⟨⟨by decide +kernel, by decide +kernel⟩, List.mem_of_getElem? (i := 15) (by decide +kernel), List.mem_of_getElem? (i := 689) (by decide +kernel), List.mem_of_getElem? (i := 690) (by decide +kernel)⟩
theorem lw_p15 : lw_okq (⟨"YarnPlier", "doAct", "()Z"⟩, 13) := ⟨⟨by decide +kernel, by decide +kernel⟩, List.mem_of_getElem? (i := 15) (by decide +kernel), List.mem_of_getElem? (i := 695) (by decide +kernel), List.mem_of_getElem? (i := 696) (by decide +kernel)⟩
def lw_privs_1 : List (MethodName × Nat) := [(⟨"YarnPlier$Yarns", "join", "(I[II)V"⟩, 3), (⟨"YarnPlier", "torqueOf", "(I)I"⟩, 13), (⟨"YarnPlier$Within", "addPlace", "(LYarnPlier$Yarns;III)V"⟩, 8), (⟨"YarnPlier$Within", "addParts", "(LYarnPlier$Yarns;II)V"⟩, 8), (⟨"YarnPlier$Within", "turnBy", "(II)I"⟩, 8), (⟨"YarnPlier", "makeYards", "(II)I"⟩, 13), (⟨"YarnPlier", "weighLayers", "()V"⟩, 13), (⟨"YarnPlier$Skews", "isBest", "(II)Z"⟩, 3), (⟨"YarnPlier", "fittingFibres", "(II)I"⟩, 13), (⟨"YarnPlier", "isFitting", "(IIII)Z"⟩, 13), (⟨"YarnPlier", "fittingWeights", "(III)I"⟩, 13), (⟨"YarnPlier$Tape", "takeNumber", "()Z"⟩, 6), (⟨"YarnPlier$Tape", "takeTwist", "()Z"⟩, 6), (⟨"YarnPlier$Tape", "takeParts", "()Z"⟩, 6), (⟨"YarnPlier", "doActs", "()I"⟩, 13), (⟨"YarnPlier", "doAct", "()Z"⟩, 13)]
theorem lw_r1 : ∀ q ∈ lw_privs_1, lw_okq q := List.forall_mem_cons.mpr ⟨lw_p0, List.forall_mem_cons.mpr ⟨lw_p1, List.forall_mem_cons.mpr ⟨lw_p2, List.forall_mem_cons.mpr ⟨lw_p3, List.forall_mem_cons.mpr ⟨lw_p4, List.forall_mem_cons.mpr ⟨lw_p5, List.forall_mem_cons.mpr ⟨lw_p6, List.forall_mem_cons.mpr ⟨lw_p7, List.forall_mem_cons.mpr ⟨lw_p8, List.forall_mem_cons.mpr ⟨lw_p9, List.forall_mem_cons.mpr ⟨lw_p10, List.forall_mem_cons.mpr ⟨lw_p11, List.forall_mem_cons.mpr ⟨lw_p12, List.forall_mem_cons.mpr ⟨lw_p13, List.forall_mem_cons.mpr ⟨lw_p14, List.forall_mem_cons.mpr ⟨lw_p15, fun _ h => absurd h List.not_mem_nil⟩⟩⟩⟩⟩⟩⟩⟩⟩⟩⟩⟩⟩⟩⟩⟩
theorem lw_p16 : lw_okq (⟨"YarnPlier", "countBalanced", "()I"⟩, 13) := ⟨⟨by decide +kernel, by decide +kernel⟩, List.mem_of_getElem? (i := 15) (by decide +kernel), List.mem_of_getElem? (i := 759) (by decide +kernel), List.mem_of_getElem? (i := 760) (by decide +kernel)⟩
theorem lw_p17 : lw_okq (⟨"YarnPlierModel", "isYarn", "(I)Z"⟩, 58) := ⟨⟨by decide +kernel, by decide +kernel⟩, List.mem_of_getElem? (i := 763) (by decide +kernel), List.mem_of_getElem? (i := 956) (by decide +kernel), List.mem_of_getElem? (i := 957) (by decide +kernel)⟩
theorem lw_p18 : lw_okq (⟨"YarnPlierModel", "depthOf", "(I)I"⟩, 58) := ⟨⟨by decide +kernel, by decide +kernel⟩, List.mem_of_getElem? (i := 763) (by decide +kernel), List.mem_of_getElem? (i := 960) (by decide +kernel), List.mem_of_getElem? (i := 961) (by decide +kernel)⟩
theorem lw_p19 : lw_okq (⟨"YarnPlierModel", "plied", "(II)I"⟩, 58) := ⟨⟨by decide +kernel, by decide +kernel⟩, List.mem_of_getElem? (i := 763) (by decide +kernel), List.mem_of_getElem? (i := 968) (by decide +kernel), List.mem_of_getElem? (i := 969) (by decide +kernel)⟩
theorem lw_p20 : lw_okq (⟨"YarnPlierModel", "toldOf", "(II)I"⟩, 58) := ⟨⟨by decide +kernel, by decide +kernel⟩, List.mem_of_getElem? (i := 763) (by decide +kernel), List.mem_of_getElem? (i := 982) (by decide +kernel), List.mem_of_getElem? (i := 983) (by decide +kernel)⟩
theorem lw_p21 : lw_okq (⟨"YarnPlierModel", "become", "(III)V"⟩, 58) := ⟨⟨by decide +kernel, by decide +kernel⟩, List.mem_of_getElem? (i := 763) (by decide +kernel), List.mem_of_getElem? (i := 986) (by decide +kernel), List.mem_of_getElem? (i := 987) (by decide +kernel)⟩
theorem lw_p22 : lw_okq (⟨"YarnPlierModel", "walkOver", "(II)V"⟩, 58) := ⟨⟨by decide +kernel, by decide +kernel⟩, List.mem_of_getElem? (i := 763) (by decide +kernel), List.mem_of_getElem? (i := 994) (by decide +kernel), List.mem_of_getElem? (i := 995) (by decide +kernel)⟩
theorem lw_p23 : lw_okq (⟨"YarnPlierModel", "walk", "(IIIJJ)V"⟩, 58) := ⟨⟨by decide +kernel, by decide +kernel⟩, List.mem_of_getElem? (i := 763) (by decide +kernel), List.mem_of_getElem? (i := 998) (by decide +kernel), List.mem_of_getElem? (i := 999) (by decide +kernel)⟩
theorem lw_p24 : lw_okq (⟨"YarnPlierModel", "byOf", "(I)I"⟩, 58) := ⟨⟨by decide +kernel, by decide +kernel⟩, List.mem_of_getElem? (i := 763) (by decide +kernel), List.mem_of_getElem? (i := 1002) (by decide +kernel), List.mem_of_getElem? (i := 1003) (by decide +kernel)⟩
theorem lw_p25 : lw_okq (⟨"YarnPlierModel", "tallyIn", "(I)V"⟩, 58) := ⟨⟨by decide +kernel, by decide +kernel⟩, List.mem_of_getElem? (i := 763) (by decide +kernel), List.mem_of_getElem? (i := 1022) (by decide +kernel), List.mem_of_getElem? (i := 1023) (by decide +kernel)⟩
theorem lw_p26 : lw_okq (⟨"YarnPlierModel", "torqueOf", "(I)I"⟩, 58) := ⟨⟨by decide +kernel, by decide +kernel⟩, List.mem_of_getElem? (i := 763) (by decide +kernel), List.mem_of_getElem? (i := 1026) (by decide +kernel), List.mem_of_getElem? (i := 1027) (by decide +kernel)⟩
theorem lw_p27 : lw_okq (⟨"YarnPlierModel", "torqueIn", "(II)I"⟩, 58) := ⟨⟨by decide +kernel, by decide +kernel⟩, List.mem_of_getElem? (i := 763) (by decide +kernel), List.mem_of_getElem? (i := 1030) (by decide +kernel), List.mem_of_getElem? (i := 1031) (by decide +kernel)⟩
theorem lw_p28 : lw_okq (⟨"YarnPlierModel", "heavyOf", "(II)I"⟩, 58) := ⟨⟨by decide +kernel, by decide +kernel⟩, List.mem_of_getElem? (i := 763) (by decide +kernel), List.mem_of_getElem? (i := 1057) (by decide +kernel), List.mem_of_getElem? (i := 1058) (by decide +kernel)⟩
theorem lw_p29 : lw_okq (⟨"YarnPlierModel", "isIn", "(II)Z"⟩, 58) := ⟨⟨by decide +kernel, by decide +kernel⟩, List.mem_of_getElem? (i := 763) (by decide +kernel), List.mem_of_getElem? (i := 1065) (by decide +kernel), List.mem_of_getElem? (i := 1066) (by decide +kernel)⟩
theorem lw_p30 : lw_okq (⟨"YarnPlierModel", "bitsOf", "(I)I"⟩, 58) := ⟨⟨by decide +kernel, by decide +kernel⟩, List.mem_of_getElem? (i := 763) (by decide +kernel), List.mem_of_getElem? (i := 1069) (by decide +kernel), List.mem_of_getElem? (i := 1070) (by decide +kernel)⟩
theorem lw_p31 : lw_okq (⟨"YarnPlierModel", "isThread", "(I)Z"⟩, 58) := ⟨⟨by decide +kernel, by decide +kernel⟩, List.mem_of_getElem? (i := 763) (by decide +kernel), List.mem_of_getElem? (i := 1078) (by decide +kernel), List.mem_of_getElem? (i := 1079) (by decide +kernel)⟩
def lw_privs_2 : List (MethodName × Nat) := [(⟨"YarnPlier", "countBalanced", "()I"⟩, 13), (⟨"YarnPlierModel", "isYarn", "(I)Z"⟩, 58), (⟨"YarnPlierModel", "depthOf", "(I)I"⟩, 58), (⟨"YarnPlierModel", "plied", "(II)I"⟩, 58), (⟨"YarnPlierModel", "toldOf", "(II)I"⟩, 58), (⟨"YarnPlierModel", "become", "(III)V"⟩, 58), (⟨"YarnPlierModel", "walkOver", "(II)V"⟩, 58), (⟨"YarnPlierModel", "walk", "(IIIJJ)V"⟩, 58), (⟨"YarnPlierModel", "byOf", "(I)I"⟩, 58), (⟨"YarnPlierModel", "tallyIn", "(I)V"⟩, 58), (⟨"YarnPlierModel", "torqueOf", "(I)I"⟩, 58), (⟨"YarnPlierModel", "torqueIn", "(II)I"⟩, 58), (⟨"YarnPlierModel", "heavyOf", "(II)I"⟩, 58), (⟨"YarnPlierModel", "isIn", "(II)Z"⟩, 58), (⟨"YarnPlierModel", "bitsOf", "(I)I"⟩, 58), (⟨"YarnPlierModel", "isThread", "(I)Z"⟩, 58)]
theorem lw_r2 : ∀ q ∈ lw_privs_2, lw_okq q := List.forall_mem_cons.mpr ⟨lw_p16, List.forall_mem_cons.mpr ⟨lw_p17, List.forall_mem_cons.mpr ⟨lw_p18, List.forall_mem_cons.mpr ⟨lw_p19, List.forall_mem_cons.mpr ⟨lw_p20, List.forall_mem_cons.mpr ⟨lw_p21, List.forall_mem_cons.mpr ⟨lw_p22, List.forall_mem_cons.mpr ⟨lw_p23, List.forall_mem_cons.mpr ⟨lw_p24, List.forall_mem_cons.mpr ⟨lw_p25, List.forall_mem_cons.mpr ⟨lw_p26, List.forall_mem_cons.mpr ⟨lw_p27, List.forall_mem_cons.mpr ⟨lw_p28, List.forall_mem_cons.mpr ⟨lw_p29, List.forall_mem_cons.mpr ⟨lw_p30, List.forall_mem_cons.mpr ⟨lw_p31, fun _ h => absurd h List.not_mem_nil⟩⟩⟩⟩⟩⟩⟩⟩⟩⟩⟩⟩⟩⟩⟩⟩
theorem lw_p32 : lw_okq (⟨"YarnPlierModel", "lacks", "(II)Z"⟩, 58) := ⟨⟨by decide +kernel, by decide +kernel⟩, List.mem_of_getElem? (i := 763) (by decide +kernel), List.mem_of_getElem? (i := 1087) (by decide +kernel), List.mem_of_getElem? (i := 1088) (by decide +kernel)⟩
theorem lw_p33 : lw_okq (⟨"YarnPlierModel", "areAlike", "(III)Z"⟩, 58) := ⟨⟨by decide +kernel, by decide +kernel⟩, List.mem_of_getElem? (i := 763) (by decide +kernel), List.mem_of_getElem? (i := 1095) (by decide +kernel), List.mem_of_getElem? (i := 1096) (by decide +kernel)⟩
theorem lw_p34 : lw_okq (⟨"YarnPlierModel", "isMade", "(II)Z"⟩, 58) := ⟨⟨by decide +kernel, by decide +kernel⟩, List.mem_of_getElem? (i := 763) (by decide +kernel), List.mem_of_getElem? (i := 1107) (by decide +kernel), List.mem_of_getElem? (i := 1108) (by decide +kernel)⟩
theorem lw_p35 : lw_okq (⟨"YarnPlierModel", "skewOf", "(I)I"⟩, 58) := ⟨⟨by decide +kernel, by decide +kernel⟩, List.mem_of_getElem? (i := 763) (by decide +kernel), List.mem_of_getElem? (i := 1119) (by decide +kernel), List.mem_of_getElem? (i := 1120) (by decide +kernel)⟩
theorem lw_p36 : lw_okq (⟨"YarnPlierModel", "arrange", "(IIII)V"⟩, 58) := ⟨⟨by decide +kernel, by decide +kernel⟩, List.mem_of_getElem? (i := 763) (by decide +kernel), List.mem_of_getElem? (i := 1132) (by decide +kernel), List.mem_of_getElem? (i := 1133) (by decide +kernel)⟩
theorem lw_p37 : lw_okq (⟨"YarnPlierModel", "isTold", "(IIII)Z"⟩, 58) := ⟨⟨by decide +kernel, by decide +kernel⟩, List.mem_of_getElem? (i := 763) (by decide +kernel), List.mem_of_getElem? (i := 1145) (by decide +kernel), List.mem_of_getElem? (i := 1146) (by decide +kernel)⟩
theorem lw_p38 : lw_okq (⟨"YarnPlierModel", "readAct", "()V"⟩, 58) := ⟨⟨by decide +kernel, by decide +kernel⟩, List.mem_of_getElem? (i := 763) (by decide +kernel), List.mem_of_getElem? (i := 1201) (by decide +kernel), List.mem_of_getElem? (i := 1202) (by decide +kernel)⟩
theorem lw_p39 : lw_okq (⟨"YarnPlierModel", "here", "()I"⟩, 58) := ⟨⟨by decide +kernel, by decide +kernel⟩, List.mem_of_getElem? (i := 763) (by decide +kernel), List.mem_of_getElem? (i := 1205) (by decide +kernel), List.mem_of_getElem? (i := 1206) (by decide +kernel)⟩
theorem lw_p40 : lw_okq (⟨"YarnPlierModel", "number", "(Z)I"⟩, 58) := ⟨⟨by decide +kernel, by decide +kernel⟩, List.mem_of_getElem? (i := 763) (by decide +kernel), List.mem_of_getElem? (i := 1209) (by decide +kernel), List.mem_of_getElem? (i := 1210) (by decide +kernel)⟩
theorem lw_p41 : lw_okq (⟨"YarnPlierModel", "isFigure", "()Z"⟩, 58) := ⟨⟨by decide +kernel, by decide +kernel⟩, List.mem_of_getElem? (i := 763) (by decide +kernel), List.mem_of_getElem? (i := 1213) (by decide +kernel), List.mem_of_getElem? (i := 1214) (by decide +kernel)⟩
theorem lw_p42 : lw_okq (⟨"YarnPlierModel", "want", "(I)V"⟩, 58) := ⟨⟨by decide +kernel, by decide +kernel⟩, List.mem_of_getElem? (i := 763) (by decide +kernel), List.mem_of_getElem? (i := 1217) (by decide +kernel), List.mem_of_getElem? (i := 1218) (by decide +kernel)⟩
theorem lw_p43 : lw_okq (⟨"YarnPlierModel", "isDone", "(I)Z"⟩, 58) := ⟨⟨by decide +kernel, by decide +kernel⟩, List.mem_of_getElem? (i := 763) (by decide +kernel), List.mem_of_getElem? (i := 1221) (by decide +kernel), List.mem_of_getElem? (i := 1222) (by decide +kernel)⟩
def lw_privs_3 : List (MethodName × Nat) := [(⟨"YarnPlierModel", "lacks", "(II)Z"⟩, 58), (⟨"YarnPlierModel", "areAlike", "(III)Z"⟩, 58), (⟨"YarnPlierModel", "isMade", "(II)Z"⟩, 58), (⟨"YarnPlierModel", "skewOf", "(I)I"⟩, 58), (⟨"YarnPlierModel", "arrange", "(IIII)V"⟩, 58), (⟨"YarnPlierModel", "isTold", "(IIII)Z"⟩, 58), (⟨"YarnPlierModel", "readAct", "()V"⟩, 58), (⟨"YarnPlierModel", "here", "()I"⟩, 58), (⟨"YarnPlierModel", "number", "(Z)I"⟩, 58), (⟨"YarnPlierModel", "isFigure", "()Z"⟩, 58), (⟨"YarnPlierModel", "want", "(I)V"⟩, 58), (⟨"YarnPlierModel", "isDone", "(I)Z"⟩, 58)]
theorem lw_r3 : ∀ q ∈ lw_privs_3, lw_okq q := List.forall_mem_cons.mpr ⟨lw_p32, List.forall_mem_cons.mpr ⟨lw_p33, List.forall_mem_cons.mpr ⟨lw_p34, List.forall_mem_cons.mpr ⟨lw_p35, List.forall_mem_cons.mpr ⟨lw_p36, List.forall_mem_cons.mpr ⟨lw_p37, List.forall_mem_cons.mpr ⟨lw_p38, List.forall_mem_cons.mpr ⟨lw_p39, List.forall_mem_cons.mpr ⟨lw_p40, List.forall_mem_cons.mpr ⟨lw_p41, List.forall_mem_cons.mpr ⟨lw_p42, List.forall_mem_cons.mpr ⟨lw_p43, fun _ h => absurd h List.not_mem_nil⟩⟩⟩⟩⟩⟩⟩⟩⟩⟩⟩⟩
def lw_privs : List (MethodName × Nat) := lw_privs_1 ++ (lw_privs_2 ++ (lw_privs_3))
def lw_tbl : List Cond := k2_sels lw_privs ++ tables_1
theorem lw_privs_ok : ∀ q ∈ lw_privs, lw_okq q := by
  show ∀ q ∈ lw_privs_1 ++ (lw_privs_2 ++ (lw_privs_3)), lw_okq q
  exact List.forall_mem_append.mpr ⟨lw_r1, List.forall_mem_append.mpr ⟨lw_r2, lw_r3⟩⟩
end
section
def RX0 : String := "YarnPlier$Bench"
def TX0 : u_T := fun k => match k with
  | 0 => ("YarnPlier$Bench", "yarns", "LYarnPlier$Yarns;", true)
  | 1 => ("YarnPlier$Bench", "layers", "LYarnPlier$Line;", true)
  | _ => ("YarnPlier$Bench", "jobs", "LYarnPlier$Line;", true)
def tyX0 : Nat → FieldType := fun k => match k with
  | 0 => .object "YarnPlier$Yarns"
  | 1 => .object "YarnPlier$Line"
  | _ => .object "YarnPlier$Line"
theorem nmX0 : ∀ a, a < 3 → ∀ b, b < 3 → a ≠ b → (TX0 a).2.1 ≠ (TX0 b).2.1 := by decide +kernel
theorem tyX0_ok : ∀ k, k < 3 → parseFieldDescriptor (TX0 k).2.2.1 = some (tyX0 k) := by decide +kernel
abbrev cX0_init : ByteArray := prog_2_method_1_code
def yX0_init : MethodName := ⟨RX0, "<init>", "()V"⟩
abbrev cX0_empty : ByteArray := prog_2_method_2_code
def yX0_empty : MethodName := ⟨RX0, "empty", "()V"⟩
abbrev cX0_copy : ByteArray := prog_2_method_3_code
def yX0_copy : MethodName := ⟨RX0, "copy", "(LYarnPlier$Bench;)V"⟩
def RX1 : String := "YarnPlier$Line"
def TX1 : u_T := fun k => match k with
  | 0 => ("YarnPlier$Line", "size", "I", false)
  | _ => ("YarnPlier$Line", "cells", "[I", true)
def tyX1 : Nat → FieldType := fun k => match k with
  | 0 => .int
  | _ => .array .int
theorem nmX1 : ∀ a, a < 2 → ∀ b, b < 2 → a ≠ b → (TX1 a).2.1 ≠ (TX1 b).2.1 := by decide +kernel
theorem tyX1_ok : ∀ k, k < 2 → parseFieldDescriptor (TX1 k).2.2.1 = some (tyX1 k) := by decide +kernel
abbrev cX1_init : ByteArray := prog_3_method_1_code
def yX1_init : MethodName := ⟨RX1, "<init>", "(I)V"⟩
abbrev cX1_isFull : ByteArray := prog_3_method_2_code
def yX1_isFull : MethodName := ⟨RX1, "isFull", "()Z"⟩
abbrev cX1_at : ByteArray := prog_3_method_3_code
def yX1_at : MethodName := ⟨RX1, "at", "(II)I"⟩
abbrev cX1_add : ByteArray := prog_3_method_4_code
def yX1_add : MethodName := ⟨RX1, "add", "(III)V"⟩
abbrev cX1_drop : ByteArray := prog_3_method_5_code
def yX1_drop : MethodName := ⟨RX1, "drop", "(I)V"⟩
abbrev cX1_reverse : ByteArray := prog_3_method_6_code
def yX1_reverse : MethodName := ⟨RX1, "reverse", "()V"⟩
abbrev cX1_empty : ByteArray := prog_3_method_7_code
def yX1_empty : MethodName := ⟨RX1, "empty", "()V"⟩
abbrev cX1_copy : ByteArray := prog_3_method_8_code
def yX1_copy : MethodName := ⟨RX1, "copy", "(LYarnPlier$Line;)V"⟩
def RX2 : String := "YarnPlier$Path"
def TX2 : u_T := fun k => match k with
  | 0 => ("YarnPlier$Path", "end", "I", false)
  | 1 => ("YarnPlier$Path", "length", "I", false)
  | _ => ("YarnPlier$Path", "around", "[I", true)
def tyX2 : Nat → FieldType := fun k => match k with
  | 0 => .int
  | 1 => .int
  | _ => .array .int
theorem nmX2 : ∀ a, a < 3 → ∀ b, b < 3 → a ≠ b → (TX2 a).2.1 ≠ (TX2 b).2.1 := by decide +kernel
theorem tyX2_ok : ∀ k, k < 3 → parseFieldDescriptor (TX2 k).2.2.1 = some (tyX2 k) := by decide +kernel
abbrev cX2_init : ByteArray := prog_4_method_1_code
def yX2_init : MethodName := ⟨RX2, "<init>", "()V"⟩
abbrev cX2_lead : ByteArray := prog_4_method_2_code
def yX2_lead : MethodName := ⟨RX2, "lead", "(LYarnPlier$Yarns;II)Z"⟩
abbrev cX2_turnOf : ByteArray := prog_4_method_3_code
def yX2_turnOf : MethodName := ⟨RX2, "turnOf", "(LYarnPlier$Yarns;)I"⟩
abbrev cX2_byOf : ByteArray := prog_4_method_4_code
def yX2_byOf : MethodName := ⟨RX2, "byOf", "(LYarnPlier$Yarns;)J"⟩
abbrev cX2_wholeOf : ByteArray := prog_4_method_5_code
def yX2_wholeOf : MethodName := ⟨RX2, "wholeOf", "()J"⟩
abbrev cX2_needsFor : ByteArray := prog_4_method_6_code
def yX2_needsFor : MethodName := ⟨RX2, "needsFor", "(LYarnPlier$Yarns;I)I"⟩
def RX3 : String := "YarnPlier$Rows"
def TX3 : u_T := fun k => match k with
  | 0 => ("YarnPlier$Rows", "sizes", "[I", true)
  | _ => ("YarnPlier$Rows", "places", "[I", true)
def tyX3 : Nat → FieldType := fun k => match k with
  | 0 => .array .int
  | _ => .array .int
theorem nmX3 : ∀ a, a < 2 → ∀ b, b < 2 → a ≠ b → (TX3 a).2.1 ≠ (TX3 b).2.1 := by decide +kernel
theorem tyX3_ok : ∀ k, k < 2 → parseFieldDescriptor (TX3 k).2.2.1 = some (tyX3 k) := by decide +kernel
abbrev cX3_init : ByteArray := prog_5_method_1_code
def yX3_init : MethodName := ⟨RX3, "<init>", "()V"⟩
abbrev cX3_has : ByteArray := prog_5_method_2_code
def yX3_has : MethodName := ⟨RX3, "has", "(I)Z"⟩
abbrev cX3_isMissing : ByteArray := prog_5_method_3_code
def yX3_isMissing : MethodName := ⟨RX3, "isMissing", "(I)Z"⟩
abbrev cX3_sizeOf : ByteArray := prog_5_method_4_code
def yX3_sizeOf : MethodName := ⟨RX3, "sizeOf", "(I)I"⟩
abbrev cX3_hasPlace : ByteArray := prog_5_method_5_code
def yX3_hasPlace : MethodName := ⟨RX3, "hasPlace", "(II)Z"⟩
abbrev cX3_placeAt : ByteArray := prog_5_method_6_code
def yX3_placeAt : MethodName := ⟨RX3, "placeAt", "(II)I"⟩
abbrev cX3_write : ByteArray := prog_5_method_7_code
def yX3_write : MethodName := ⟨RX3, "write", "(III)V"⟩
abbrev cX3_renew : ByteArray := prog_5_method_8_code
def yX3_renew : MethodName := ⟨RX3, "renew", "(II)V"⟩
def RX4 : String := "YarnPlier$Skews"
def TX4 : u_T := fun k => match k with
  | 0 => ("YarnPlier$Skews", "size", "I", false)
  | 1 => ("YarnPlier$Skews", "pulls", "[I", true)
  | _ => ("YarnPlier$Skews", "reaches", "[I", true)
def tyX4 : Nat → FieldType := fun k => match k with
  | 0 => .int
  | 1 => .array .int
  | _ => .array .int
theorem nmX4 : ∀ a, a < 3 → ∀ b, b < 3 → a ≠ b → (TX4 a).2.1 ≠ (TX4 b).2.1 := by decide +kernel
theorem tyX4_ok : ∀ k, k < 3 → parseFieldDescriptor (TX4 k).2.2.1 = some (tyX4 k) := by decide +kernel
abbrev cX4_init : ByteArray := prog_6_method_1_code
def yX4_init : MethodName := ⟨RX4, "<init>", "()V"⟩
abbrev cX4_behind : ByteArray := prog_6_method_2_code
def yX4_behind : MethodName := ⟨RX4, "behind", "(I)I"⟩
abbrev cX4_worstBehind : ByteArray := prog_6_method_3_code
def yX4_worstBehind : MethodName := ⟨RX4, "worstBehind", "()I"⟩
abbrev cX4_bestToTurn : ByteArray := prog_6_method_4_code
def yX4_bestToTurn : MethodName := ⟨RX4, "bestToTurn", "()I"⟩
abbrev cX4_findReaches : ByteArray := prog_6_method_5_code
def yX4_findReaches : MethodName := ⟨RX4, "findReaches", "()V"⟩
abbrev cX4_leastWorst : ByteArray := prog_6_method_6_code
def yX4_leastWorst : MethodName := ⟨RX4, "leastWorst", "()I"⟩
abbrev cX4_inBestOrder : ByteArray := prog_6_method_7_code
def yX4_inBestOrder : MethodName := ⟨RX4, "inBestOrder", "(I)I"⟩
abbrev cX4_isBest : ByteArray := prog_6_method_8_code
def yX4_isBest : MethodName := ⟨RX4, "isBest", "(II)Z"⟩
def RX5 : String := "YarnPlier$Tape"
def TX5 : u_T := fun k => match k with
  | 0 => ("YarnPlier$Tape", "size", "I", false)
  | 1 => ("YarnPlier$Tape", "kind", "I", false)
  | 2 => ("YarnPlier$Tape", "found", "I", false)
  | 3 => ("YarnPlier$Tape", "numbers", "[I", true)
  | 4 => ("YarnPlier$Tape", "at", "I", false)
  | _ => ("YarnPlier$Tape", "bytes", "[B", true)
def tyX5 : Nat → FieldType := fun k => match k with
  | 0 => .int
  | 1 => .int
  | 2 => .int
  | 3 => .array .int
  | 4 => .int
  | _ => .array .byte
theorem nmX5 : ∀ a, a < 6 → ∀ b, b < 6 → a ≠ b → (TX5 a).2.1 ≠ (TX5 b).2.1 := by decide +kernel
theorem tyX5_ok : ∀ k, k < 6 → parseFieldDescriptor (TX5 k).2.2.1 = some (tyX5 k) := by decide +kernel
abbrev cX5_init : ByteArray := prog_7_method_1_code
def yX5_init : MethodName := ⟨RX5, "<init>", "()V"⟩
abbrev cX5_add : ByteArray := prog_7_method_2_code
def yX5_add : MethodName := ⟨RX5, "add", "(I)Z"⟩
abbrev cX5_rewind : ByteArray := prog_7_method_3_code
def yX5_rewind : MethodName := ⟨RX5, "rewind", "()V"⟩
abbrev cX5_firstFault : ByteArray := prog_7_method_4_code
def yX5_firstFault : MethodName := ⟨RX5, "firstFault", "()I"⟩
abbrev cX5_takeAct : ByteArray := prog_7_method_5_code
def yX5_takeAct : MethodName := ⟨RX5, "takeAct", "()Z"⟩
abbrev cX5_lastNumber : ByteArray := prog_7_method_6_code
def yX5_lastNumber : MethodName := ⟨RX5, "lastNumber", "()I"⟩
abbrev cX5_takeSign : ByteArray := prog_7_method_7_code
def yX5_takeSign : MethodName := ⟨RX5, "takeSign", "(C)Z"⟩
abbrev cX5_takeParts : ByteArray := prog_7_method_8_code
def yX5_takeParts : MethodName := ⟨RX5, "takeParts", "()Z"⟩
abbrev cX5_takeTwist : ByteArray := prog_7_method_9_code
def yX5_takeTwist : MethodName := ⟨RX5, "takeTwist", "()Z"⟩
abbrev cX5_takeNumber : ByteArray := prog_7_method_10_code
def yX5_takeNumber : MethodName := ⟨RX5, "takeNumber", "()Z"⟩
def RX6 : String := "YarnPlier$Within"
def TX6 : u_T := fun k => match k with
  | 0 => ("YarnPlier$Within", "size", "I", false)
  | 1 => ("YarnPlier$Within", "yarn", "[I", true)
  | 2 => ("YarnPlier$Within", "turn", "[I", true)
  | 3 => ("YarnPlier$Within", "times", "[I", true)
  | 4 => ("YarnPlier$Within", "around", "[I", true)
  | 5 => ("YarnPlier$Within", "moved", "[Z", true)
  | 6 => ("YarnPlier$Within", "yards", "[I", true)
  | _ => ("YarnPlier$Within", "needed", "[I", true)
def tyX6 : Nat → FieldType := fun k => match k with
  | 0 => .int
  | 1 => .array .int
  | 2 => .array .int
  | 3 => .array .int
  | 4 => .array .int
  | 5 => .array .boolean
  | 6 => .array .int
  | _ => .array .int
theorem nmX6 : ∀ a, a < 8 → ∀ b, b < 8 → a ≠ b → (TX6 a).2.1 ≠ (TX6 b).2.1 := by decide +kernel
theorem tyX6_ok : ∀ k, k < 8 → parseFieldDescriptor (TX6 k).2.2.1 = some (tyX6 k) := by decide +kernel
abbrev cX6_init : ByteArray := prog_8_method_1_code
def yX6_init : MethodName := ⟨RX6, "<init>", "()V"⟩
abbrev cX6_walk : ByteArray := prog_8_method_2_code
def yX6_walk : MethodName := ⟨RX6, "walk", "(LYarnPlier$Yarns;II)V"⟩
abbrev cX6_addParts : ByteArray := prog_8_method_3_code
def yX6_addParts : MethodName := ⟨RX6, "addParts", "(LYarnPlier$Yarns;II)V"⟩
abbrev cX6_addPlace : ByteArray := prog_8_method_4_code
def yX6_addPlace : MethodName := ⟨RX6, "addPlace", "(LYarnPlier$Yarns;III)V"⟩
abbrev cX6_torqueBy : ByteArray := prog_8_method_5_code
def yX6_torqueBy : MethodName := ⟨RX6, "torqueBy", "(LYarnPlier$Yarns;I)I"⟩
abbrev cX6_torqueWithout : ByteArray := prog_8_method_6_code
def yX6_torqueWithout : MethodName := ⟨RX6, "torqueWithout", "(LYarnPlier$Yarns;II)I"⟩
abbrev cX6_pullsOf : ByteArray := prog_8_method_7_code
def yX6_pullsOf : MethodName := ⟨RX6, "pullsOf", "(IIII)I"⟩
abbrev cX6_turnBy : ByteArray := prog_8_method_8_code
def yX6_turnBy : MethodName := ⟨RX6, "turnBy", "(II)I"⟩
abbrev cX6_countFibres : ByteArray := prog_8_method_9_code
def yX6_countFibres : MethodName := ⟨RX6, "countFibres", "(LYarnPlier$Yarns;[I)V"⟩
abbrev cX6_draw : ByteArray := prog_8_method_10_code
def yX6_draw : MethodName := ⟨RX6, "draw", "(LYarnPlier$Yarns;I)V"⟩
abbrev cX6_heavyOf : ByteArray := prog_8_method_11_code
def yX6_heavyOf : MethodName := ⟨RX6, "heavyOf", "(LYarnPlier$Yarns;)I"⟩
abbrev cX6_isInStock : ByteArray := prog_8_method_12_code
def yX6_isInStock : MethodName := ⟨RX6, "isInStock", "(LYarnPlier$Yarns;)Z"⟩
abbrev cX6_takeFromStock : ByteArray := prog_8_method_13_code
def yX6_takeFromStock : MethodName := ⟨RX6, "takeFromStock", "(LYarnPlier$Yarns;)V"⟩
def RX7 : String := "YarnPlier$Yarns"
def TX7 : u_T := fun k => match k with
  | 0 => ("YarnPlier$Yarns", "size", "I", false)
  | 1 => ("YarnPlier$Yarns", "facts", "[I", true)
  | _ => ("YarnPlier$Yarns", "parts", "[I", true)
def tyX7 : Nat → FieldType := fun k => match k with
  | 0 => .int
  | 1 => .array .int
  | _ => .array .int
theorem nmX7 : ∀ a, a < 3 → ∀ b, b < 3 → a ≠ b → (TX7 a).2.1 ≠ (TX7 b).2.1 := by decide +kernel
theorem tyX7_ok : ∀ k, k < 3 → parseFieldDescriptor (TX7 k).2.2.1 = some (tyX7 k) := by decide +kernel
abbrev cX7_init : ByteArray := prog_9_method_1_code
def yX7_init : MethodName := ⟨RX7, "<init>", "()V"⟩
abbrev cX7_has : ByteArray := prog_9_method_2_code
def yX7_has : MethodName := ⟨RX7, "has", "(I)Z"⟩
abbrev cX7_isThread : ByteArray := prog_9_method_3_code
def yX7_isThread : MethodName := ⟨RX7, "isThread", "(I)Z"⟩
abbrev cX7_isInside : ByteArray := prog_9_method_4_code
def yX7_isInside : MethodName := ⟨RX7, "isInside", "(II)Z"⟩
abbrev cX7_canBePart : ByteArray := prog_9_method_5_code
def yX7_canBePart : MethodName := ⟨RX7, "canBePart", "(I)Z"⟩
abbrev cX7_fact : ByteArray := prog_9_method_6_code
def yX7_fact : MethodName := ⟨RX7, "fact", "(II)I"⟩
abbrev cX7_write : ByteArray := prog_9_method_7_code
def yX7_write : MethodName := ⟨RX7, "write", "(III)V"⟩
abbrev cX7_partAt : ByteArray := prog_9_method_8_code
def yX7_partAt : MethodName := ⟨RX7, "partAt", "(II)I"⟩
abbrev cX7_by : ByteArray := prog_9_method_9_code
def yX7_by : MethodName := ⟨RX7, "by", "(I)I"⟩
abbrev cX7_addThread : ByteArray := prog_9_method_10_code
def yX7_addThread : MethodName := ⟨RX7, "addThread", "(III)I"⟩
abbrev cX7_addPlied : ByteArray := prog_9_method_11_code
def yX7_addPlied : MethodName := ⟨RX7, "addPlied", "([III)I"⟩
abbrev cX7_join : ByteArray := prog_9_method_12_code
def yX7_join : MethodName := ⟨RX7, "join", "(I[II)V"⟩
abbrev cX7_tell : ByteArray := prog_9_method_13_code
def yX7_tell : MethodName := ⟨RX7, "tell", "(III)I"⟩
abbrev cX7_copy : ByteArray := prog_9_method_14_code
def yX7_copy : MethodName := ⟨RX7, "copy", "(LYarnPlier$Yarns;)V"⟩
def RX8 : String := "YarnPlier"
def TX8 : u_T := fun k => match k with
  | 0 => ("YarnPlier", "bench", "LYarnPlier$Bench;", true)
  | 1 => ("YarnPlier", "taken", "LYarnPlier$Bench;", true)
  | 2 => ("YarnPlier", "hasTaken", "Z", false)
  | 3 => ("YarnPlier", "bundle", "[I", true)
  | 4 => ("YarnPlier", "bundled", "I", false)
  | 5 => ("YarnPlier", "steps", "LYarnPlier$Line;", true)
  | 6 => ("YarnPlier", "tallies", "[I", true)
  | 7 => ("YarnPlier", "rows", "LYarnPlier$Rows;", true)
  | 8 => ("YarnPlier", "tape", "LYarnPlier$Tape;", true)
  | 9 => ("YarnPlier", "within", "LYarnPlier$Within;", true)
  | 10 => ("YarnPlier", "path", "LYarnPlier$Path;", true)
  | 11 => ("YarnPlier", "skews", "LYarnPlier$Skews;", true)
  | _ => ("YarnPlier", "rest", "[I", true)
def tyX8 : Nat → FieldType := fun k => match k with
  | 0 => .object "YarnPlier$Bench"
  | 1 => .object "YarnPlier$Bench"
  | 2 => .boolean
  | 3 => .array .int
  | 4 => .int
  | 5 => .object "YarnPlier$Line"
  | 6 => .array .int
  | 7 => .object "YarnPlier$Rows"
  | 8 => .object "YarnPlier$Tape"
  | 9 => .object "YarnPlier$Within"
  | 10 => .object "YarnPlier$Path"
  | 11 => .object "YarnPlier$Skews"
  | _ => .array .int
theorem nmX8 : ∀ a, a < 13 → ∀ b, b < 13 → a ≠ b → (TX8 a).2.1 ≠ (TX8 b).2.1 := by decide +kernel
theorem tyX8_ok : ∀ k, k < 13 → parseFieldDescriptor (TX8 k).2.2.1 = some (tyX8 k) := by decide +kernel
abbrev cX8_init : ByteArray := prog_1_method_1_code
def yX8_init : MethodName := ⟨RX8, "<init>", "()V"⟩
abbrev cX8_thread : ByteArray := prog_1_method_2_code
def yX8_thread : MethodName := ⟨RX8, "thread", "(III)I"⟩
abbrev cX8_part : ByteArray := prog_1_method_3_code
def yX8_part : MethodName := ⟨RX8, "part", "(I)I"⟩
abbrev cX8_ply : ByteArray := prog_1_method_4_code
def yX8_ply : MethodName := ⟨RX8, "ply", "(I)I"⟩
abbrev cX8_clear : ByteArray := prog_1_method_5_code
def yX8_clear : MethodName := ⟨RX8, "clear", "()I"⟩
abbrev cX8_set : ByteArray := prog_1_method_6_code
def yX8_set : MethodName := ⟨RX8, "set", "(III)I"⟩
abbrev cX8_of : ByteArray := prog_1_method_7_code
def yX8_of : MethodName := ⟨RX8, "of", "(II)I"⟩
abbrev cX8_partOf : ByteArray := prog_1_method_8_code
def yX8_partOf : MethodName := ⟨RX8, "partOf", "(II)I"⟩
abbrev cX8_leaf : ByteArray := prog_1_method_9_code
def yX8_leaf : MethodName := ⟨RX8, "leaf", "(III)I"⟩
abbrev cX8_torque : ByteArray := prog_1_method_10_code
def yX8_torque : MethodName := ⟨RX8, "torque", "(I)I"⟩
abbrev cX8_tally : ByteArray := prog_1_method_11_code
def yX8_tally : MethodName := ⟨RX8, "tally", "(I)I"⟩
abbrev cX8_kept : ByteArray := prog_1_method_12_code
def yX8_kept : MethodName := ⟨RX8, "kept", "(III)J"⟩
abbrev cX8_needs : ByteArray := prog_1_method_13_code
def yX8_needs : MethodName := ⟨RX8, "needs", "(III)I"⟩
abbrev cX8_heavy : ByteArray := prog_1_method_14_code
def yX8_heavy : MethodName := ⟨RX8, "heavy", "(II)I"⟩
abbrev cX8_balance : ByteArray := prog_1_method_15_code
def yX8_balance : MethodName := ⟨RX8, "balance", "(III)I"⟩
abbrev cX8_plan : ByteArray := prog_1_method_16_code
def yX8_plan : MethodName := ⟨RX8, "plan", "(IIII)I"⟩
abbrev cX8_can : ByteArray := prog_1_method_17_code
def yX8_can : MethodName := ⟨RX8, "can", "(I)I"⟩
abbrev cX8_alike : ByteArray := prog_1_method_18_code
def yX8_alike : MethodName := ⟨RX8, "alike", "(III)I"⟩
abbrev cX8_inside : ByteArray := prog_1_method_19_code
def yX8_inside : MethodName := ⟨RX8, "inside", "(I)I"⟩
abbrev cX8_make : ByteArray := prog_1_method_20_code
def yX8_make : MethodName := ⟨RX8, "make", "(II)I"⟩
abbrev cX8_lay : ByteArray := prog_1_method_21_code
def yX8_lay : MethodName := ⟨RX8, "lay", "(III)I"⟩
abbrev cX8_skew : ByteArray := prog_1_method_22_code
def yX8_skew : MethodName := ⟨RX8, "skew", "(I)I"⟩
abbrev cX8_worst : ByteArray := prog_1_method_23_code
def yX8_worst : MethodName := ⟨RX8, "worst", "()I"⟩
abbrev cX8_order : ByteArray := prog_1_method_24_code
def yX8_order : MethodName := ⟨RX8, "order", "(I)I"⟩
abbrev cX8_turned : ByteArray := prog_1_method_25_code
def yX8_turned : MethodName := ⟨RX8, "turned", "()I"⟩
abbrev cX8_fits : ByteArray := prog_1_method_26_code
def yX8_fits : MethodName := ⟨RX8, "fits", "(IIIII)I"⟩
abbrev cX8_job : ByteArray := prog_1_method_27_code
def yX8_job : MethodName := ⟨RX8, "job", "(II)I"⟩
abbrev cX8_do1 : ByteArray := prog_1_method_28_code
def yX8_do1 : MethodName := ⟨RX8, "do1", "()I"⟩
abbrev cX8_strike : ByteArray := prog_1_method_29_code
def yX8_strike : MethodName := ⟨RX8, "strike", "(I)I"⟩
abbrev cX8_about : ByteArray := prog_1_method_30_code
def yX8_about : MethodName := ⟨RX8, "about", "()I"⟩
abbrev cX8_jobOf : ByteArray := prog_1_method_31_code
def yX8_jobOf : MethodName := ⟨RX8, "jobOf", "(II)I"⟩
abbrev cX8_back : ByteArray := prog_1_method_32_code
def yX8_back : MethodName := ⟨RX8, "back", "()I"⟩
abbrev cX8_feed : ByteArray := prog_1_method_33_code
def yX8_feed : MethodName := ⟨RX8, "feed", "(I)I"⟩
abbrev cX8_wipe : ByteArray := prog_1_method_34_code
def yX8_wipe : MethodName := ⟨RX8, "wipe", "()I"⟩
abbrev cX8_read : ByteArray := prog_1_method_35_code
def yX8_read : MethodName := ⟨RX8, "read", "()I"⟩
abbrev cX8_row : ByteArray := prog_1_method_36_code
def yX8_row : MethodName := ⟨RX8, "row", "(II)I"⟩
abbrev cX8_put : ByteArray := prog_1_method_37_code
def yX8_put : MethodName := ⟨RX8, "put", "(III)I"⟩
abbrev cX8_get : ByteArray := prog_1_method_38_code
def yX8_get : MethodName := ⟨RX8, "get", "(II)I"⟩
abbrev cX8_film : ByteArray := prog_1_method_39_code
def yX8_film : MethodName := ⟨RX8, "film", "(IIII)I"⟩
abbrev cX8_image : ByteArray := prog_1_method_40_code
def yX8_image : MethodName := ⟨RX8, "image", "()I"⟩
abbrev cX8_undo : ByteArray := prog_1_method_41_code
def yX8_undo : MethodName := ⟨RX8, "undo", "()I"⟩
abbrev cX8_count : ByteArray := prog_1_method_42_code
def yX8_count : MethodName := ⟨RX8, "count", "(I)I"⟩
abbrev cX8_torqueOf : ByteArray := prog_1_method_43_code
def yX8_torqueOf : MethodName := ⟨RX8, "torqueOf", "(I)I"⟩
abbrev cX8_countBalanced : ByteArray := prog_1_method_44_code
def yX8_countBalanced : MethodName := ⟨RX8, "countBalanced", "()I"⟩
abbrev cX8_weighLayers : ByteArray := prog_1_method_45_code
def yX8_weighLayers : MethodName := ⟨RX8, "weighLayers", "()V"⟩
abbrev cX8_makeYards : ByteArray := prog_1_method_46_code
def yX8_makeYards : MethodName := ⟨RX8, "makeYards", "(II)I"⟩
abbrev cX8_fittingFibres : ByteArray := prog_1_method_47_code
def yX8_fittingFibres : MethodName := ⟨RX8, "fittingFibres", "(II)I"⟩
abbrev cX8_fittingWeights : ByteArray := prog_1_method_48_code
def yX8_fittingWeights : MethodName := ⟨RX8, "fittingWeights", "(III)I"⟩
abbrev cX8_isFitting : ByteArray := prog_1_method_49_code
def yX8_isFitting : MethodName := ⟨RX8, "isFitting", "(IIII)Z"⟩
abbrev cX8_doActs : ByteArray := prog_1_method_50_code
def yX8_doActs : MethodName := ⟨RX8, "doActs", "()I"⟩
abbrev cX8_doAct : ByteArray := prog_1_method_51_code
def yX8_doAct : MethodName := ⟨RX8, "doAct", "()Z"⟩
abbrev cX8_inRange : ByteArray := prog_1_method_52_code
def yX8_inRange : MethodName := ⟨RX8, "inRange", "(III)Z"⟩
abbrev cX8_canBeTold : ByteArray := prog_1_method_53_code
def yX8_canBeTold : MethodName := ⟨RX8, "canBeTold", "(II)Z"⟩
abbrev cX8_cutUp : ByteArray := prog_1_method_54_code
def yX8_cutUp : MethodName := ⟨RX8, "cutUp", "(II)I"⟩
abbrev cX8_byOfPlied : ByteArray := prog_1_method_55_code
def yX8_byOfPlied : MethodName := ⟨RX8, "byOfPlied", "(II)I"⟩
abbrev cX8_plannedHeavy : ByteArray := prog_1_method_56_code
def yX8_plannedHeavy : MethodName := ⟨RX8, "plannedHeavy", "(III)I"⟩
abbrev cX8_fibrePull : ByteArray := prog_1_method_57_code
def yX8_fibrePull : MethodName := ⟨RX8, "fibrePull", "(III)I"⟩
abbrev cX8_beyondEase : ByteArray := prog_1_method_58_code
def yX8_beyondEase : MethodName := ⟨RX8, "beyondEase", "(I)I"⟩
abbrev cX8_commonDivisor : ByteArray := prog_1_method_59_code
def yX8_commonDivisor : MethodName := ⟨RX8, "commonDivisor", "(JJ)J"⟩
abbrev cX8_areAlike : ByteArray := prog_1_method_60_code
def yX8_areAlike : MethodName := ⟨RX8, "areAlike", "(LYarnPlier$Yarns;IIII)Z"⟩
def RX9 : String := "YarnPlierModel"
def TX9 : u_T := fun k => match k with
  | 0 => ("YarnPlierModel", "many", "I", false)
  | 1 => ("YarnPlierModel", "parts", "[I", true)
  | 2 => ("YarnPlierModel", "part", "[I", true)
  | 3 => ("YarnPlierModel", "fibre", "[I", true)
  | 4 => ("YarnPlierModel", "weight", "[I", true)
  | 5 => ("YarnPlierModel", "twist", "[I", true)
  | 6 => ("YarnPlierModel", "stock", "[I", true)
  | 7 => ("YarnPlierModel", "bundled", "I", false)
  | 8 => ("YarnPlierModel", "bundle", "[I", true)
  | 9 => ("YarnPlierModel", "layers", "I", false)
  | 10 => ("YarnPlierModel", "layerOf", "[I", true)
  | 11 => ("YarnPlierModel", "layerRows", "[I", true)
  | 12 => ("YarnPlierModel", "layerWay", "[I", true)
  | 13 => ("YarnPlierModel", "jobs", "I", false)
  | 14 => ("YarnPlierModel", "jobOf", "[I", true)
  | 15 => ("YarnPlierModel", "jobYards", "[I", true)
  | 16 => ("YarnPlierModel", "steps", "I", false)
  | 17 => ("YarnPlierModel", "stepWhat", "[I", true)
  | 18 => ("YarnPlierModel", "stepOf", "[I", true)
  | 19 => ("YarnPlierModel", "stepWas", "[I", true)
  | 20 => ("YarnPlierModel", "taped", "I", false)
  | 21 => ("YarnPlierModel", "tape", "[I", true)
  | 22 => ("YarnPlierModel", "rowMany", "[I", true)
  | 23 => ("YarnPlierModel", "rows", "[I", true)
  | 24 => ("YarnPlierModel", "tallies", "[I", true)
  | 25 => ("YarnPlierModel", "hasImage", "Z", false)
  | 26 => ("YarnPlierModel", "many1", "I", false)
  | 27 => ("YarnPlierModel", "parts1", "[I", true)
  | 28 => ("YarnPlierModel", "part1", "[I", true)
  | 29 => ("YarnPlierModel", "fibre1", "[I", true)
  | 30 => ("YarnPlierModel", "weight1", "[I", true)
  | 31 => ("YarnPlierModel", "twist1", "[I", true)
  | 32 => ("YarnPlierModel", "stock1", "[I", true)
  | 33 => ("YarnPlierModel", "layers1", "I", false)
  | 34 => ("YarnPlierModel", "layerOf1", "[I", true)
  | 35 => ("YarnPlierModel", "layerRows1", "[I", true)
  | 36 => ("YarnPlierModel", "layerWay1", "[I", true)
  | 37 => ("YarnPlierModel", "jobs1", "I", false)
  | 38 => ("YarnPlierModel", "jobOf1", "[I", true)
  | 39 => ("YarnPlierModel", "jobYards1", "[I", true)
  | 40 => ("YarnPlierModel", "leaves", "I", false)
  | 41 => ("YarnPlierModel", "leaf", "[I", true)
  | 42 => ("YarnPlierModel", "leafTurn", "[I", true)
  | 43 => ("YarnPlierModel", "leafNeeds", "[I", true)
  | 44 => ("YarnPlierModel", "keptAbove", "[J", true)
  | 45 => ("YarnPlierModel", "keptBelow", "[J", true)
  | 46 => ("YarnPlierModel", "wanted", "[I", true)
  | 47 => ("YarnPlierModel", "skews", "[I", true)
  | 48 => ("YarnPlierModel", "row", "[I", true)
  | 49 => ("YarnPlierModel", "bestRow", "[I", true)
  | 50 => ("YarnPlierModel", "bestWorst", "I", false)
  | 51 => ("YarnPlierModel", "at", "I", false)
  | 52 => ("YarnPlierModel", "end", "I", false)
  | 53 => ("YarnPlierModel", "isBad", "Z", false)
  | 54 => ("YarnPlierModel", "acts", "I", false)
  | 55 => ("YarnPlierModel", "actWhat", "[I", true)
  | 56 => ("YarnPlierModel", "actMany", "[I", true)
  | _ => ("YarnPlierModel", "actNumber", "[I", true)
def tyX9 : Nat → FieldType := fun k => match k with
  | 0 => .int
  | 1 => .array .int
  | 2 => .array .int
  | 3 => .array .int
  | 4 => .array .int
  | 5 => .array .int
  | 6 => .array .int
  | 7 => .int
  | 8 => .array .int
  | 9 => .int
  | 10 => .array .int
  | 11 => .array .int
  | 12 => .array .int
  | 13 => .int
  | 14 => .array .int
  | 15 => .array .int
  | 16 => .int
  | 17 => .array .int
  | 18 => .array .int
  | 19 => .array .int
  | 20 => .int
  | 21 => .array .int
  | 22 => .array .int
  | 23 => .array .int
  | 24 => .array .int
  | 25 => .boolean
  | 26 => .int
  | 27 => .array .int
  | 28 => .array .int
  | 29 => .array .int
  | 30 => .array .int
  | 31 => .array .int
  | 32 => .array .int
  | 33 => .int
  | 34 => .array .int
  | 35 => .array .int
  | 36 => .array .int
  | 37 => .int
  | 38 => .array .int
  | 39 => .array .int
  | 40 => .int
  | 41 => .array .int
  | 42 => .array .int
  | 43 => .array .int
  | 44 => .array .long
  | 45 => .array .long
  | 46 => .array .int
  | 47 => .array .int
  | 48 => .array .int
  | 49 => .array .int
  | 50 => .int
  | 51 => .int
  | 52 => .int
  | 53 => .boolean
  | 54 => .int
  | 55 => .array .int
  | 56 => .array .int
  | _ => .array .int
theorem nmX9 : ∀ a, a < 58 → ∀ b, b < 58 → a ≠ b → (TX9 a).2.1 ≠ (TX9 b).2.1 := by decide +kernel
theorem tyX9_ok : ∀ k, k < 58 → parseFieldDescriptor (TX9 k).2.2.1 = some (tyX9 k) := by decide +kernel
abbrev cX9_init : ByteArray := prog_11_method_1_code
def yX9_init : MethodName := ⟨RX9, "<init>", "()V"⟩
abbrev cX9_in : ByteArray := prog_11_method_2_code
def yX9_in : MethodName := ⟨RX9, "in", "(III)Z"⟩
abbrev cX9_isYarn : ByteArray := prog_11_method_3_code
def yX9_isYarn : MethodName := ⟨RX9, "isYarn", "(I)Z"⟩
abbrev cX9_isThread : ByteArray := prog_11_method_4_code
def yX9_isThread : MethodName := ⟨RX9, "isThread", "(I)Z"⟩
abbrev cX9_sizeOf : ByteArray := prog_11_method_5_code
def yX9_sizeOf : MethodName := ⟨RX9, "sizeOf", "(I)I"⟩
abbrev cX9_depthOf : ByteArray := prog_11_method_6_code
def yX9_depthOf : MethodName := ⟨RX9, "depthOf", "(I)I"⟩
abbrev cX9_bitsOf : ByteArray := prog_11_method_7_code
def yX9_bitsOf : MethodName := ⟨RX9, "bitsOf", "(I)I"⟩
abbrev cX9_isIn : ByteArray := prog_11_method_8_code
def yX9_isIn : MethodName := ⟨RX9, "isIn", "(II)Z"⟩
abbrev cX9_pull : ByteArray := prog_11_method_9_code
def yX9_pull : MethodName := ⟨RX9, "pull", "(III)I"⟩
abbrev cX9_torqueIn : ByteArray := prog_11_method_10_code
def yX9_torqueIn : MethodName := ⟨RX9, "torqueIn", "(II)I"⟩
abbrev cX9_torqueOf : ByteArray := prog_11_method_11_code
def yX9_torqueOf : MethodName := ⟨RX9, "torqueOf", "(I)I"⟩
abbrev cX9_tallyIn : ByteArray := prog_11_method_12_code
def yX9_tallyIn : MethodName := ⟨RX9, "tallyIn", "(I)V"⟩
abbrev cX9_byOf : ByteArray := prog_11_method_13_code
def yX9_byOf : MethodName := ⟨RX9, "byOf", "(I)I"⟩
abbrev cX9_walk : ByteArray := prog_11_method_14_code
def yX9_walk : MethodName := ⟨RX9, "walk", "(IIIJJ)V"⟩
abbrev cX9_walkOver : ByteArray := prog_11_method_15_code
def yX9_walkOver : MethodName := ⟨RX9, "walkOver", "(II)V"⟩
abbrev cX9_heavyOf : ByteArray := prog_11_method_16_code
def yX9_heavyOf : MethodName := ⟨RX9, "heavyOf", "(II)I"⟩
abbrev cX9_common : ByteArray := prog_11_method_17_code
def yX9_common : MethodName := ⟨RX9, "common", "(JJ)J"⟩
abbrev cX9_lacks : ByteArray := prog_11_method_18_code
def yX9_lacks : MethodName := ⟨RX9, "lacks", "(II)Z"⟩
abbrev cX9_isMade : ByteArray := prog_11_method_19_code
def yX9_isMade : MethodName := ⟨RX9, "isMade", "(II)Z"⟩
abbrev cX9_thread : ByteArray := prog_11_method_20_code
def yX9_thread : MethodName := ⟨RX9, "thread", "(III)I"⟩
abbrev cX9_part : ByteArray := prog_11_method_21_code
def yX9_part : MethodName := ⟨RX9, "part", "(I)I"⟩
abbrev cX9_ply : ByteArray := prog_11_method_22_code
def yX9_ply : MethodName := ⟨RX9, "ply", "(I)I"⟩
abbrev cX9_plied : ByteArray := prog_11_method_23_code
def yX9_plied : MethodName := ⟨RX9, "plied", "(II)I"⟩
abbrev cX9_clear : ByteArray := prog_11_method_24_code
def yX9_clear : MethodName := ⟨RX9, "clear", "()I"⟩
abbrev cX9_toldOf : ByteArray := prog_11_method_25_code
def yX9_toldOf : MethodName := ⟨RX9, "toldOf", "(II)I"⟩
abbrev cX9_become : ByteArray := prog_11_method_26_code
def yX9_become : MethodName := ⟨RX9, "become", "(III)V"⟩
abbrev cX9_set : ByteArray := prog_11_method_27_code
def yX9_set : MethodName := ⟨RX9, "set", "(III)I"⟩
abbrev cX9_of : ByteArray := prog_11_method_28_code
def yX9_of : MethodName := ⟨RX9, "of", "(II)I"⟩
abbrev cX9_partOf : ByteArray := prog_11_method_29_code
def yX9_partOf : MethodName := ⟨RX9, "partOf", "(II)I"⟩
abbrev cX9_leaf : ByteArray := prog_11_method_30_code
def yX9_leaf : MethodName := ⟨RX9, "leaf", "(III)I"⟩
abbrev cX9_torque : ByteArray := prog_11_method_31_code
def yX9_torque : MethodName := ⟨RX9, "torque", "(I)I"⟩
abbrev cX9_tally : ByteArray := prog_11_method_32_code
def yX9_tally : MethodName := ⟨RX9, "tally", "(I)I"⟩
abbrev cX9_kept : ByteArray := prog_11_method_33_code
def yX9_kept : MethodName := ⟨RX9, "kept", "(III)J"⟩
abbrev cX9_needs : ByteArray := prog_11_method_34_code
def yX9_needs : MethodName := ⟨RX9, "needs", "(III)I"⟩
abbrev cX9_heavy : ByteArray := prog_11_method_35_code
def yX9_heavy : MethodName := ⟨RX9, "heavy", "(II)I"⟩
abbrev cX9_balance : ByteArray := prog_11_method_36_code
def yX9_balance : MethodName := ⟨RX9, "balance", "(III)I"⟩
abbrev cX9_plan : ByteArray := prog_11_method_37_code
def yX9_plan : MethodName := ⟨RX9, "plan", "(IIII)I"⟩
abbrev cX9_can : ByteArray := prog_11_method_38_code
def yX9_can : MethodName := ⟨RX9, "can", "(I)I"⟩
abbrev cX9_areAlike : ByteArray := prog_11_method_39_code
def yX9_areAlike : MethodName := ⟨RX9, "areAlike", "(III)Z"⟩
abbrev cX9_alike : ByteArray := prog_11_method_40_code
def yX9_alike : MethodName := ⟨RX9, "alike", "(III)I"⟩
abbrev cX9_inside : ByteArray := prog_11_method_41_code
def yX9_inside : MethodName := ⟨RX9, "inside", "(I)I"⟩
abbrev cX9_make : ByteArray := prog_11_method_42_code
def yX9_make : MethodName := ⟨RX9, "make", "(II)I"⟩
abbrev cX9_lay : ByteArray := prog_11_method_43_code
def yX9_lay : MethodName := ⟨RX9, "lay", "(III)I"⟩
abbrev cX9_skewOf : ByteArray := prog_11_method_44_code
def yX9_skewOf : MethodName := ⟨RX9, "skewOf", "(I)I"⟩
abbrev cX9_skew : ByteArray := prog_11_method_45_code
def yX9_skew : MethodName := ⟨RX9, "skew", "(I)I"⟩
abbrev cX9_worst : ByteArray := prog_11_method_46_code
def yX9_worst : MethodName := ⟨RX9, "worst", "()I"⟩
abbrev cX9_arrange : ByteArray := prog_11_method_47_code
def yX9_arrange : MethodName := ⟨RX9, "arrange", "(IIII)V"⟩
abbrev cX9_order : ByteArray := prog_11_method_48_code
def yX9_order : MethodName := ⟨RX9, "order", "(I)I"⟩
abbrev cX9_turned : ByteArray := prog_11_method_49_code
def yX9_turned : MethodName := ⟨RX9, "turned", "()I"⟩
abbrev cX9_isTold : ByteArray := prog_11_method_50_code
def yX9_isTold : MethodName := ⟨RX9, "isTold", "(IIII)Z"⟩
abbrev cX9_fits : ByteArray := prog_11_method_51_code
def yX9_fits : MethodName := ⟨RX9, "fits", "(IIIII)I"⟩
abbrev cX9_row : ByteArray := prog_11_method_52_code
def yX9_row : MethodName := ⟨RX9, "row", "(II)I"⟩
abbrev cX9_put : ByteArray := prog_11_method_53_code
def yX9_put : MethodName := ⟨RX9, "put", "(III)I"⟩
abbrev cX9_get : ByteArray := prog_11_method_54_code
def yX9_get : MethodName := ⟨RX9, "get", "(II)I"⟩
abbrev cX9_film : ByteArray := prog_11_method_55_code
def yX9_film : MethodName := ⟨RX9, "film", "(IIII)I"⟩
abbrev cX9_job : ByteArray := prog_11_method_56_code
def yX9_job : MethodName := ⟨RX9, "job", "(II)I"⟩
abbrev cX9_do1 : ByteArray := prog_11_method_57_code
def yX9_do1 : MethodName := ⟨RX9, "do1", "()I"⟩
abbrev cX9_strike : ByteArray := prog_11_method_58_code
def yX9_strike : MethodName := ⟨RX9, "strike", "(I)I"⟩
abbrev cX9_about : ByteArray := prog_11_method_59_code
def yX9_about : MethodName := ⟨RX9, "about", "()I"⟩
abbrev cX9_jobOf : ByteArray := prog_11_method_60_code
def yX9_jobOf : MethodName := ⟨RX9, "jobOf", "(II)I"⟩
abbrev cX9_back : ByteArray := prog_11_method_61_code
def yX9_back : MethodName := ⟨RX9, "back", "()I"⟩
abbrev cX9_feed : ByteArray := prog_11_method_62_code
def yX9_feed : MethodName := ⟨RX9, "feed", "(I)I"⟩
abbrev cX9_wipe : ByteArray := prog_11_method_63_code
def yX9_wipe : MethodName := ⟨RX9, "wipe", "()I"⟩
abbrev cX9_here : ByteArray := prog_11_method_64_code
def yX9_here : MethodName := ⟨RX9, "here", "()I"⟩
abbrev cX9_isFigure : ByteArray := prog_11_method_65_code
def yX9_isFigure : MethodName := ⟨RX9, "isFigure", "()Z"⟩
abbrev cX9_want : ByteArray := prog_11_method_66_code
def yX9_want : MethodName := ⟨RX9, "want", "(I)V"⟩
abbrev cX9_number : ByteArray := prog_11_method_67_code
def yX9_number : MethodName := ⟨RX9, "number", "(Z)I"⟩
abbrev cX9_readAct : ByteArray := prog_11_method_68_code
def yX9_readAct : MethodName := ⟨RX9, "readAct", "()V"⟩
abbrev cX9_isDone : ByteArray := prog_11_method_69_code
def yX9_isDone : MethodName := ⟨RX9, "isDone", "(I)Z"⟩
abbrev cX9_read : ByteArray := prog_11_method_70_code
def yX9_read : MethodName := ⟨RX9, "read", "()I"⟩
abbrev cX9_image : ByteArray := prog_11_method_71_code
def yX9_image : MethodName := ⟨RX9, "image", "()I"⟩
abbrev cX9_undo : ByteArray := prog_11_method_72_code
def yX9_undo : MethodName := ⟨RX9, "undo", "()I"⟩
abbrev cX9_count : ByteArray := prog_11_method_73_code
def yX9_count : MethodName := ⟨RX9, "count", "(I)I"⟩
def RJ9 : String := "java/lang/Math"
def TJ9 : u_T := fun k => match k with
  | _ => ("", "", "", false)
def tyJ9 : Nat → FieldType := fun k => match k with
  | _ => .int
abbrev cJ9_abs_0f7a4 : ByteArray := prog_12_method_59_code
def yJ9_abs_0f7a4 : MethodName := ⟨RJ9, "abs", "(I)I"⟩
abbrev cJ9_max_7cf53 : ByteArray := prog_12_method_65_code
def yJ9_max_7cf53 : MethodName := ⟨RJ9, "max", "(II)I"⟩
abbrev cJ9_min_7cf53 : ByteArray := prog_12_method_69_code
def yJ9_min_7cf53 : MethodName := ⟨RJ9, "min", "(II)I"⟩
def RJ10 : String := "java/lang/System"
def TJ10 : u_T := fun k => match k with
  | _ => ("", "", "", false)
def tyJ10 : Nat → FieldType := fun k => match k with
  | _ => .int
def RJ7 : String := "java/util/Arrays"
def TJ7 : u_T := fun k => match k with
  | _ => ("", "", "", false)
def tyJ7 : Nat → FieldType := fun k => match k with
  | _ => .int
abbrev cJ7_fill_53178 : ByteArray := prog_14_method_103_code
def yJ7_fill_53178 : MethodName := ⟨RJ7, "fill", "([II)V"⟩
def RL : String := "YarnPlierLaw"
abbrev cL_law : ByteArray := code
def yL_law : MethodName := ⟨RL, "law", "([I)Z"⟩
abbrev vwCl : List vw_C := [(RX0, TX0, 3), (RX1, TX1, 2), (RX2, TX2, 3), (RX3, TX3, 2), (RX4, TX4, 3), (RX5, TX5, 6), (RX6, TX6, 8), (RX7, TX7, 3), (RX8, TX8, 13), (RX9, TX9, 58)]
abbrev mX0_init : MethodName × ByteArray × Nat × Option FieldType := (yX0_init, cX0_init, 1, none)
abbrev mX0_empty : MethodName × ByteArray × Nat × Option FieldType := (yX0_empty, cX0_empty, 1, none)
abbrev mX0_copy : MethodName × ByteArray × Nat × Option FieldType := (yX0_copy, cX0_copy, 2, none)
abbrev mX1_init : MethodName × ByteArray × Nat × Option FieldType := (yX1_init, cX1_init, 2, none)
abbrev mX1_isFull : MethodName × ByteArray × Nat × Option FieldType := (yX1_isFull, cX1_isFull, 1, some .boolean)
abbrev mX1_at : MethodName × ByteArray × Nat × Option FieldType := (yX1_at, cX1_at, 3, some .int)
abbrev mX1_add : MethodName × ByteArray × Nat × Option FieldType := (yX1_add, cX1_add, 4, none)
abbrev mX1_drop : MethodName × ByteArray × Nat × Option FieldType := (yX1_drop, cX1_drop, 2, none)
abbrev mX1_reverse : MethodName × ByteArray × Nat × Option FieldType := (yX1_reverse, cX1_reverse, 5, none)
abbrev mX1_empty : MethodName × ByteArray × Nat × Option FieldType := (yX1_empty, cX1_empty, 1, none)
abbrev mX1_copy : MethodName × ByteArray × Nat × Option FieldType := (yX1_copy, cX1_copy, 2, none)
abbrev mX2_init : MethodName × ByteArray × Nat × Option FieldType := (yX2_init, cX2_init, 1, none)
abbrev mX2_lead : MethodName × ByteArray × Nat × Option FieldType := (yX2_lead, cX2_lead, 7, some .boolean)
abbrev mX2_turnOf : MethodName × ByteArray × Nat × Option FieldType := (yX2_turnOf, cX2_turnOf, 4, some .int)
abbrev mX2_byOf : MethodName × ByteArray × Nat × Option FieldType := (yX2_byOf, cX2_byOf, 5, some .long)
abbrev mX2_wholeOf : MethodName × ByteArray × Nat × Option FieldType := (yX2_wholeOf, cX2_wholeOf, 4, some .long)
abbrev mX2_needsFor : MethodName × ByteArray × Nat × Option FieldType := (yX2_needsFor, cX2_needsFor, 5, some .int)
abbrev mX3_init : MethodName × ByteArray × Nat × Option FieldType := (yX3_init, cX3_init, 1, none)
abbrev mX3_has : MethodName × ByteArray × Nat × Option FieldType := (yX3_has, cX3_has, 2, some .boolean)
abbrev mX3_isMissing : MethodName × ByteArray × Nat × Option FieldType := (yX3_isMissing, cX3_isMissing, 2, some .boolean)
abbrev mX3_sizeOf : MethodName × ByteArray × Nat × Option FieldType := (yX3_sizeOf, cX3_sizeOf, 2, some .int)
abbrev mX3_hasPlace : MethodName × ByteArray × Nat × Option FieldType := (yX3_hasPlace, cX3_hasPlace, 3, some .boolean)
abbrev mX3_placeAt : MethodName × ByteArray × Nat × Option FieldType := (yX3_placeAt, cX3_placeAt, 3, some .int)
abbrev mX3_write : MethodName × ByteArray × Nat × Option FieldType := (yX3_write, cX3_write, 4, none)
abbrev mX3_renew : MethodName × ByteArray × Nat × Option FieldType := (yX3_renew, cX3_renew, 4, none)
abbrev mX4_init : MethodName × ByteArray × Nat × Option FieldType := (yX4_init, cX4_init, 1, none)
abbrev mX4_behind : MethodName × ByteArray × Nat × Option FieldType := (yX4_behind, cX4_behind, 4, some .int)
abbrev mX4_worstBehind : MethodName × ByteArray × Nat × Option FieldType := (yX4_worstBehind, cX4_worstBehind, 4, some .int)
abbrev mX4_bestToTurn : MethodName × ByteArray × Nat × Option FieldType := (yX4_bestToTurn, cX4_bestToTurn, 5, some .int)
abbrev mX4_findReaches : MethodName × ByteArray × Nat × Option FieldType := (yX4_findReaches, cX4_findReaches, 6, none)
abbrev mX4_leastWorst : MethodName × ByteArray × Nat × Option FieldType := (yX4_leastWorst, cX4_leastWorst, 1, some .int)
abbrev mX4_inBestOrder : MethodName × ByteArray × Nat × Option FieldType := (yX4_inBestOrder, cX4_inBestOrder, 5, some .int)
abbrev mX4_isBest : MethodName × ByteArray × Nat × Option FieldType := (yX4_isBest, cX4_isBest, 3, some .boolean)
abbrev mX5_init : MethodName × ByteArray × Nat × Option FieldType := (yX5_init, cX5_init, 1, none)
abbrev mX5_add : MethodName × ByteArray × Nat × Option FieldType := (yX5_add, cX5_add, 2, some .boolean)
abbrev mX5_rewind : MethodName × ByteArray × Nat × Option FieldType := (yX5_rewind, cX5_rewind, 1, none)
abbrev mX5_firstFault : MethodName × ByteArray × Nat × Option FieldType := (yX5_firstFault, cX5_firstFault, 2, some .int)
abbrev mX5_takeAct : MethodName × ByteArray × Nat × Option FieldType := (yX5_takeAct, cX5_takeAct, 1, some .boolean)
abbrev mX5_lastNumber : MethodName × ByteArray × Nat × Option FieldType := (yX5_lastNumber, cX5_lastNumber, 1, some .int)
abbrev mX5_takeSign : MethodName × ByteArray × Nat × Option FieldType := (yX5_takeSign, cX5_takeSign, 2, some .boolean)
abbrev mX5_takeParts : MethodName × ByteArray × Nat × Option FieldType := (yX5_takeParts, cX5_takeParts, 2, some .boolean)
abbrev mX5_takeTwist : MethodName × ByteArray × Nat × Option FieldType := (yX5_takeTwist, cX5_takeTwist, 2, some .boolean)
abbrev mX5_takeNumber : MethodName × ByteArray × Nat × Option FieldType := (yX5_takeNumber, cX5_takeNumber, 3, some .boolean)
abbrev mX6_init : MethodName × ByteArray × Nat × Option FieldType := (yX6_init, cX6_init, 1, none)
abbrev mX6_walk : MethodName × ByteArray × Nat × Option FieldType := (yX6_walk, cX6_walk, 5, none)
abbrev mX6_addParts : MethodName × ByteArray × Nat × Option FieldType := (yX6_addParts, cX6_addParts, 9, none)
abbrev mX6_addPlace : MethodName × ByteArray × Nat × Option FieldType := (yX6_addPlace, cX6_addPlace, 5, none)
abbrev mX6_torqueBy : MethodName × ByteArray × Nat × Option FieldType := (yX6_torqueBy, cX6_torqueBy, 3, some .int)
abbrev mX6_torqueWithout : MethodName × ByteArray × Nat × Option FieldType := (yX6_torqueWithout, cX6_torqueWithout, 10, some .int)
abbrev mX6_pullsOf : MethodName × ByteArray × Nat × Option FieldType := (yX6_pullsOf, cX6_pullsOf, 7, some .int)
abbrev mX6_turnBy : MethodName × ByteArray × Nat × Option FieldType := (yX6_turnBy, cX6_turnBy, 3, some .int)
abbrev mX6_countFibres : MethodName × ByteArray × Nat × Option FieldType := (yX6_countFibres, cX6_countFibres, 5, none)
abbrev mX6_draw : MethodName × ByteArray × Nat × Option FieldType := (yX6_draw, cX6_draw, 5, none)
abbrev mX6_heavyOf : MethodName × ByteArray × Nat × Option FieldType := (yX6_heavyOf, cX6_heavyOf, 4, some .int)
abbrev mX6_isInStock : MethodName × ByteArray × Nat × Option FieldType := (yX6_isInStock, cX6_isInStock, 3, some .boolean)
abbrev mX6_takeFromStock : MethodName × ByteArray × Nat × Option FieldType := (yX6_takeFromStock, cX6_takeFromStock, 3, none)
abbrev mX7_init : MethodName × ByteArray × Nat × Option FieldType := (yX7_init, cX7_init, 1, none)
abbrev mX7_has : MethodName × ByteArray × Nat × Option FieldType := (yX7_has, cX7_has, 2, some .boolean)
abbrev mX7_isThread : MethodName × ByteArray × Nat × Option FieldType := (yX7_isThread, cX7_isThread, 2, some .boolean)
abbrev mX7_isInside : MethodName × ByteArray × Nat × Option FieldType := (yX7_isInside, cX7_isInside, 3, some .boolean)
abbrev mX7_canBePart : MethodName × ByteArray × Nat × Option FieldType := (yX7_canBePart, cX7_canBePart, 2, some .boolean)
abbrev mX7_fact : MethodName × ByteArray × Nat × Option FieldType := (yX7_fact, cX7_fact, 3, some .int)
abbrev mX7_write : MethodName × ByteArray × Nat × Option FieldType := (yX7_write, cX7_write, 4, none)
abbrev mX7_partAt : MethodName × ByteArray × Nat × Option FieldType := (yX7_partAt, cX7_partAt, 3, some .int)
abbrev mX7_by : MethodName × ByteArray × Nat × Option FieldType := (yX7_by, cX7_by, 2, some .int)
abbrev mX7_addThread : MethodName × ByteArray × Nat × Option FieldType := (yX7_addThread, cX7_addThread, 5, some .int)
abbrev mX7_addPlied : MethodName × ByteArray × Nat × Option FieldType := (yX7_addPlied, cX7_addPlied, 5, some .int)
abbrev mX7_join : MethodName × ByteArray × Nat × Option FieldType := (yX7_join, cX7_join, 9, none)
abbrev mX7_tell : MethodName × ByteArray × Nat × Option FieldType := (yX7_tell, cX7_tell, 5, some .int)
abbrev mX7_copy : MethodName × ByteArray × Nat × Option FieldType := (yX7_copy, cX7_copy, 2, none)
abbrev mX8_init : MethodName × ByteArray × Nat × Option FieldType := (yX8_init, cX8_init, 1, none)
abbrev mX8_thread : MethodName × ByteArray × Nat × Option FieldType := (yX8_thread, cX8_thread, 4, some .int)
abbrev mX8_part : MethodName × ByteArray × Nat × Option FieldType := (yX8_part, cX8_part, 2, some .int)
abbrev mX8_ply : MethodName × ByteArray × Nat × Option FieldType := (yX8_ply, cX8_ply, 3, some .int)
abbrev mX8_clear : MethodName × ByteArray × Nat × Option FieldType := (yX8_clear, cX8_clear, 2, some .int)
abbrev mX8_set : MethodName × ByteArray × Nat × Option FieldType := (yX8_set, cX8_set, 5, some .int)
abbrev mX8_of : MethodName × ByteArray × Nat × Option FieldType := (yX8_of, cX8_of, 3, some .int)
abbrev mX8_partOf : MethodName × ByteArray × Nat × Option FieldType := (yX8_partOf, cX8_partOf, 3, some .int)
abbrev mX8_leaf : MethodName × ByteArray × Nat × Option FieldType := (yX8_leaf, cX8_leaf, 4, some .int)
abbrev mX8_torque : MethodName × ByteArray × Nat × Option FieldType := (yX8_torque, cX8_torque, 3, some .int)
abbrev mX8_tally : MethodName × ByteArray × Nat × Option FieldType := (yX8_tally, cX8_tally, 2, some .int)
abbrev mX8_kept : MethodName × ByteArray × Nat × Option FieldType := (yX8_kept, cX8_kept, 10, some .long)
abbrev mX8_needs : MethodName × ByteArray × Nat × Option FieldType := (yX8_needs, cX8_needs, 4, some .int)
abbrev mX8_heavy : MethodName × ByteArray × Nat × Option FieldType := (yX8_heavy, cX8_heavy, 3, some .int)
abbrev mX8_balance : MethodName × ByteArray × Nat × Option FieldType := (yX8_balance, cX8_balance, 9, some .int)
abbrev mX8_plan : MethodName × ByteArray × Nat × Option FieldType := (yX8_plan, cX8_plan, 9, some .int)
abbrev mX8_can : MethodName × ByteArray × Nat × Option FieldType := (yX8_can, cX8_can, 6, some .int)
abbrev mX8_alike : MethodName × ByteArray × Nat × Option FieldType := (yX8_alike, cX8_alike, 4, some .int)
abbrev mX8_inside : MethodName × ByteArray × Nat × Option FieldType := (yX8_inside, cX8_inside, 2, some .int)
abbrev mX8_make : MethodName × ByteArray × Nat × Option FieldType := (yX8_make, cX8_make, 4, some .int)
abbrev mX8_lay : MethodName × ByteArray × Nat × Option FieldType := (yX8_lay, cX8_lay, 4, some .int)
abbrev mX8_skew : MethodName × ByteArray × Nat × Option FieldType := (yX8_skew, cX8_skew, 2, some .int)
abbrev mX8_worst : MethodName × ByteArray × Nat × Option FieldType := (yX8_worst, cX8_worst, 1, some .int)
abbrev mX8_order : MethodName × ByteArray × Nat × Option FieldType := (yX8_order, cX8_order, 2, some .int)
abbrev mX8_turned : MethodName × ByteArray × Nat × Option FieldType := (yX8_turned, cX8_turned, 1, some .int)
abbrev mX8_fits : MethodName × ByteArray × Nat × Option FieldType := (yX8_fits, cX8_fits, 10, some .int)
abbrev mX8_job : MethodName × ByteArray × Nat × Option FieldType := (yX8_job, cX8_job, 3, some .int)
abbrev mX8_do1 : MethodName × ByteArray × Nat × Option FieldType := (yX8_do1, cX8_do1, 2, some .int)
abbrev mX8_strike : MethodName × ByteArray × Nat × Option FieldType := (yX8_strike, cX8_strike, 4, some .int)
abbrev mX8_about : MethodName × ByteArray × Nat × Option FieldType := (yX8_about, cX8_about, 1, some .int)
abbrev mX8_jobOf : MethodName × ByteArray × Nat × Option FieldType := (yX8_jobOf, cX8_jobOf, 3, some .int)
abbrev mX8_back : MethodName × ByteArray × Nat × Option FieldType := (yX8_back, cX8_back, 2, some .int)
abbrev mX8_feed : MethodName × ByteArray × Nat × Option FieldType := (yX8_feed, cX8_feed, 2, some .int)
abbrev mX8_wipe : MethodName × ByteArray × Nat × Option FieldType := (yX8_wipe, cX8_wipe, 2, some .int)
abbrev mX8_read : MethodName × ByteArray × Nat × Option FieldType := (yX8_read, cX8_read, 3, some .int)
abbrev mX8_row : MethodName × ByteArray × Nat × Option FieldType := (yX8_row, cX8_row, 3, some .int)
abbrev mX8_put : MethodName × ByteArray × Nat × Option FieldType := (yX8_put, cX8_put, 4, some .int)
abbrev mX8_get : MethodName × ByteArray × Nat × Option FieldType := (yX8_get, cX8_get, 3, some .int)
abbrev mX8_film : MethodName × ByteArray × Nat × Option FieldType := (yX8_film, cX8_film, 6, some .int)
abbrev mX8_image : MethodName × ByteArray × Nat × Option FieldType := (yX8_image, cX8_image, 1, some .int)
abbrev mX8_undo : MethodName × ByteArray × Nat × Option FieldType := (yX8_undo, cX8_undo, 1, some .int)
abbrev mX8_count : MethodName × ByteArray × Nat × Option FieldType := (yX8_count, cX8_count, 2, some .int)
abbrev mX8_torqueOf : MethodName × ByteArray × Nat × Option FieldType := (yX8_torqueOf, cX8_torqueOf, 2, some .int)
abbrev mX8_countBalanced : MethodName × ByteArray × Nat × Option FieldType := (yX8_countBalanced, cX8_countBalanced, 3, some .int)
abbrev mX8_weighLayers : MethodName × ByteArray × Nat × Option FieldType := (yX8_weighLayers, cX8_weighLayers, 4, none)
abbrev mX8_makeYards : MethodName × ByteArray × Nat × Option FieldType := (yX8_makeYards, cX8_makeYards, 4, some .int)
abbrev mX8_fittingFibres : MethodName × ByteArray × Nat × Option FieldType := (yX8_fittingFibres, cX8_fittingFibres, 5, some .int)
abbrev mX8_fittingWeights : MethodName × ByteArray × Nat × Option FieldType := (yX8_fittingWeights, cX8_fittingWeights, 7, some .int)
abbrev mX8_isFitting : MethodName × ByteArray × Nat × Option FieldType := (yX8_isFitting, cX8_isFitting, 6, some .boolean)
abbrev mX8_doActs : MethodName × ByteArray × Nat × Option FieldType := (yX8_doActs, cX8_doActs, 3, some .int)
abbrev mX8_doAct : MethodName × ByteArray × Nat × Option FieldType := (yX8_doAct, cX8_doAct, 2, some .boolean)
abbrev mX8_inRange : MethodName × ByteArray × Nat × Option FieldType := (yX8_inRange, cX8_inRange, 3, some .boolean)
abbrev mX8_canBeTold : MethodName × ByteArray × Nat × Option FieldType := (yX8_canBeTold, cX8_canBeTold, 2, some .boolean)
abbrev mX8_cutUp : MethodName × ByteArray × Nat × Option FieldType := (yX8_cutUp, cX8_cutUp, 2, some .int)
abbrev mX8_byOfPlied : MethodName × ByteArray × Nat × Option FieldType := (yX8_byOfPlied, cX8_byOfPlied, 2, some .int)
abbrev mX8_plannedHeavy : MethodName × ByteArray × Nat × Option FieldType := (yX8_plannedHeavy, cX8_plannedHeavy, 3, some .int)
abbrev mX8_fibrePull : MethodName × ByteArray × Nat × Option FieldType := (yX8_fibrePull, cX8_fibrePull, 3, some .int)
abbrev mX8_beyondEase : MethodName × ByteArray × Nat × Option FieldType := (yX8_beyondEase, cX8_beyondEase, 1, some .int)
abbrev mX8_commonDivisor : MethodName × ByteArray × Nat × Option FieldType := (yX8_commonDivisor, cX8_commonDivisor, 11, some .long)
abbrev mX8_areAlike : MethodName × ByteArray × Nat × Option FieldType := (yX8_areAlike, cX8_areAlike, 7, some .boolean)
abbrev mX9_init : MethodName × ByteArray × Nat × Option FieldType := (yX9_init, cX9_init, 1, none)
abbrev mX9_in : MethodName × ByteArray × Nat × Option FieldType := (yX9_in, cX9_in, 3, some .boolean)
abbrev mX9_isYarn : MethodName × ByteArray × Nat × Option FieldType := (yX9_isYarn, cX9_isYarn, 2, some .boolean)
abbrev mX9_isThread : MethodName × ByteArray × Nat × Option FieldType := (yX9_isThread, cX9_isThread, 2, some .boolean)
abbrev mX9_sizeOf : MethodName × ByteArray × Nat × Option FieldType := (yX9_sizeOf, cX9_sizeOf, 1, some .int)
abbrev mX9_depthOf : MethodName × ByteArray × Nat × Option FieldType := (yX9_depthOf, cX9_depthOf, 5, some .int)
abbrev mX9_bitsOf : MethodName × ByteArray × Nat × Option FieldType := (yX9_bitsOf, cX9_bitsOf, 4, some .int)
abbrev mX9_isIn : MethodName × ByteArray × Nat × Option FieldType := (yX9_isIn, cX9_isIn, 3, some .boolean)
abbrev mX9_pull : MethodName × ByteArray × Nat × Option FieldType := (yX9_pull, cX9_pull, 4, some .int)
abbrev mX9_torqueIn : MethodName × ByteArray × Nat × Option FieldType := (yX9_torqueIn, cX9_torqueIn, 6, some .int)
abbrev mX9_torqueOf : MethodName × ByteArray × Nat × Option FieldType := (yX9_torqueOf, cX9_torqueOf, 2, some .int)
abbrev mX9_tallyIn : MethodName × ByteArray × Nat × Option FieldType := (yX9_tallyIn, cX9_tallyIn, 3, none)
abbrev mX9_byOf : MethodName × ByteArray × Nat × Option FieldType := (yX9_byOf, cX9_byOf, 2, some .int)
abbrev mX9_walk : MethodName × ByteArray × Nat × Option FieldType := (yX9_walk, cX9_walk, 12, none)
abbrev mX9_walkOver : MethodName × ByteArray × Nat × Option FieldType := (yX9_walkOver, cX9_walkOver, 3, none)
abbrev mX9_heavyOf : MethodName × ByteArray × Nat × Option FieldType := (yX9_heavyOf, cX9_heavyOf, 5, some .int)
abbrev mX9_common : MethodName × ByteArray × Nat × Option FieldType := (yX9_common, cX9_common, 10, some .long)
abbrev mX9_lacks : MethodName × ByteArray × Nat × Option FieldType := (yX9_lacks, cX9_lacks, 5, some .boolean)
abbrev mX9_isMade : MethodName × ByteArray × Nat × Option FieldType := (yX9_isMade, cX9_isMade, 4, some .boolean)
abbrev mX9_thread : MethodName × ByteArray × Nat × Option FieldType := (yX9_thread, cX9_thread, 4, some .int)
abbrev mX9_part : MethodName × ByteArray × Nat × Option FieldType := (yX9_part, cX9_part, 2, some .int)
abbrev mX9_ply : MethodName × ByteArray × Nat × Option FieldType := (yX9_ply, cX9_ply, 3, some .int)
abbrev mX9_plied : MethodName × ByteArray × Nat × Option FieldType := (yX9_plied, cX9_plied, 3, some .int)
abbrev mX9_clear : MethodName × ByteArray × Nat × Option FieldType := (yX9_clear, cX9_clear, 2, some .int)
abbrev mX9_toldOf : MethodName × ByteArray × Nat × Option FieldType := (yX9_toldOf, cX9_toldOf, 3, some .int)
abbrev mX9_become : MethodName × ByteArray × Nat × Option FieldType := (yX9_become, cX9_become, 4, none)
abbrev mX9_set : MethodName × ByteArray × Nat × Option FieldType := (yX9_set, cX9_set, 8, some .int)
abbrev mX9_of : MethodName × ByteArray × Nat × Option FieldType := (yX9_of, cX9_of, 3, some .int)
abbrev mX9_partOf : MethodName × ByteArray × Nat × Option FieldType := (yX9_partOf, cX9_partOf, 3, some .int)
abbrev mX9_leaf : MethodName × ByteArray × Nat × Option FieldType := (yX9_leaf, cX9_leaf, 4, some .int)
abbrev mX9_torque : MethodName × ByteArray × Nat × Option FieldType := (yX9_torque, cX9_torque, 3, some .int)
abbrev mX9_tally : MethodName × ByteArray × Nat × Option FieldType := (yX9_tally, cX9_tally, 2, some .int)
abbrev mX9_kept : MethodName × ByteArray × Nat × Option FieldType := (yX9_kept, cX9_kept, 6, some .long)
abbrev mX9_needs : MethodName × ByteArray × Nat × Option FieldType := (yX9_needs, cX9_needs, 4, some .int)
abbrev mX9_heavy : MethodName × ByteArray × Nat × Option FieldType := (yX9_heavy, cX9_heavy, 3, some .int)
abbrev mX9_balance : MethodName × ByteArray × Nat × Option FieldType := (yX9_balance, cX9_balance, 10, some .int)
abbrev mX9_plan : MethodName × ByteArray × Nat × Option FieldType := (yX9_plan, cX9_plan, 11, some .int)
abbrev mX9_can : MethodName × ByteArray × Nat × Option FieldType := (yX9_can, cX9_can, 5, some .int)
abbrev mX9_areAlike : MethodName × ByteArray × Nat × Option FieldType := (yX9_areAlike, cX9_areAlike, 5, some .boolean)
abbrev mX9_alike : MethodName × ByteArray × Nat × Option FieldType := (yX9_alike, cX9_alike, 4, some .int)
abbrev mX9_inside : MethodName × ByteArray × Nat × Option FieldType := (yX9_inside, cX9_inside, 2, some .int)
abbrev mX9_make : MethodName × ByteArray × Nat × Option FieldType := (yX9_make, cX9_make, 3, some .int)
abbrev mX9_lay : MethodName × ByteArray × Nat × Option FieldType := (yX9_lay, cX9_lay, 4, some .int)
abbrev mX9_skewOf : MethodName × ByteArray × Nat × Option FieldType := (yX9_skewOf, cX9_skewOf, 3, some .int)
abbrev mX9_skew : MethodName × ByteArray × Nat × Option FieldType := (yX9_skew, cX9_skew, 4, some .int)
abbrev mX9_worst : MethodName × ByteArray × Nat × Option FieldType := (yX9_worst, cX9_worst, 4, some .int)
abbrev mX9_arrange : MethodName × ByteArray × Nat × Option FieldType := (yX9_arrange, cX9_arrange, 7, none)
abbrev mX9_order : MethodName × ByteArray × Nat × Option FieldType := (yX9_order, cX9_order, 3, some .int)
abbrev mX9_turned : MethodName × ByteArray × Nat × Option FieldType := (yX9_turned, cX9_turned, 5, some .int)
abbrev mX9_isTold : MethodName × ByteArray × Nat × Option FieldType := (yX9_isTold, cX9_isTold, 8, some .boolean)
abbrev mX9_fits : MethodName × ByteArray × Nat × Option FieldType := (yX9_fits, cX9_fits, 12, some .int)
abbrev mX9_row : MethodName × ByteArray × Nat × Option FieldType := (yX9_row, cX9_row, 4, some .int)
abbrev mX9_put : MethodName × ByteArray × Nat × Option FieldType := (yX9_put, cX9_put, 4, some .int)
abbrev mX9_get : MethodName × ByteArray × Nat × Option FieldType := (yX9_get, cX9_get, 3, some .int)
abbrev mX9_film : MethodName × ByteArray × Nat × Option FieldType := (yX9_film, cX9_film, 7, some .int)
abbrev mX9_job : MethodName × ByteArray × Nat × Option FieldType := (yX9_job, cX9_job, 3, some .int)
abbrev mX9_do1 : MethodName × ByteArray × Nat × Option FieldType := (yX9_do1, cX9_do1, 2, some .int)
abbrev mX9_strike : MethodName × ByteArray × Nat × Option FieldType := (yX9_strike, cX9_strike, 4, some .int)
abbrev mX9_about : MethodName × ByteArray × Nat × Option FieldType := (yX9_about, cX9_about, 4, some .int)
abbrev mX9_jobOf : MethodName × ByteArray × Nat × Option FieldType := (yX9_jobOf, cX9_jobOf, 3, some .int)
abbrev mX9_back : MethodName × ByteArray × Nat × Option FieldType := (yX9_back, cX9_back, 1, some .int)
abbrev mX9_feed : MethodName × ByteArray × Nat × Option FieldType := (yX9_feed, cX9_feed, 2, some .int)
abbrev mX9_wipe : MethodName × ByteArray × Nat × Option FieldType := (yX9_wipe, cX9_wipe, 2, some .int)
abbrev mX9_here : MethodName × ByteArray × Nat × Option FieldType := (yX9_here, cX9_here, 1, some .int)
abbrev mX9_isFigure : MethodName × ByteArray × Nat × Option FieldType := (yX9_isFigure, cX9_isFigure, 1, some .boolean)
abbrev mX9_want : MethodName × ByteArray × Nat × Option FieldType := (yX9_want, cX9_want, 2, none)
abbrev mX9_number : MethodName × ByteArray × Nat × Option FieldType := (yX9_number, cX9_number, 5, some .int)
abbrev mX9_readAct : MethodName × ByteArray × Nat × Option FieldType := (yX9_readAct, cX9_readAct, 4, none)
abbrev mX9_isDone : MethodName × ByteArray × Nat × Option FieldType := (yX9_isDone, cX9_isDone, 7, some .boolean)
abbrev mX9_read : MethodName × ByteArray × Nat × Option FieldType := (yX9_read, cX9_read, 2, some .int)
abbrev mX9_image : MethodName × ByteArray × Nat × Option FieldType := (yX9_image, cX9_image, 3, some .int)
abbrev mX9_undo : MethodName × ByteArray × Nat × Option FieldType := (yX9_undo, cX9_undo, 3, some .int)
abbrev mX9_count : MethodName × ByteArray × Nat × Option FieldType := (yX9_count, cX9_count, 4, some .int)
abbrev mJ9_abs_0f7a4 : MethodName × ByteArray × Nat × Option FieldType := (yJ9_abs_0f7a4, cJ9_abs_0f7a4, 1, some .int)
abbrev mJ9_max_7cf53 : MethodName × ByteArray × Nat × Option FieldType := (yJ9_max_7cf53, cJ9_max_7cf53, 2, some .int)
abbrev mJ9_min_7cf53 : MethodName × ByteArray × Nat × Option FieldType := (yJ9_min_7cf53, cJ9_min_7cf53, 2, some .int)
abbrev mJ7_fill_53178 : MethodName × ByteArray × Nat × Option FieldType := (yJ7_fill_53178, cJ7_fill_53178, 4, none)
def zz_nw : List (String × Nat × MethodName × String) := [("YarnPlier", 11, ⟨"YarnPlier$Bench", "<init>", "()V"⟩, "YarnPlier"), ("YarnPlier$Bench", 11, ⟨"YarnPlier$Yarns", "<init>", "()V"⟩, "YarnPlier"), ("YarnPlier", 39, ⟨"YarnPlier$Rows", "<init>", "()V"⟩, "YarnPlier"), ("YarnPlier", 46, ⟨"YarnPlier$Tape", "<init>", "()V"⟩, "YarnPlier"), ("YarnPlier", 53, ⟨"YarnPlier$Within", "<init>", "()V"⟩, "YarnPlier"), ("YarnPlier", 60, ⟨"YarnPlier$Path", "<init>", "()V"⟩, "YarnPlier"), ("YarnPlier", 67, ⟨"YarnPlier$Skews", "<init>", "()V"⟩, "YarnPlier"), ("YarnPlier$Yarns", 33, ⟨"YarnPlier", "canBeTold", "(II)Z"⟩, "YarnPlier"), ("YarnPlier$Yarns", 41, ⟨"YarnPlier", "inRange", "(III)Z"⟩, "YarnPlier"), ("YarnPlier$Yarns", 30, ⟨"YarnPlier", "byOfPlied", "(II)I"⟩, "YarnPlier"), ("YarnPlier$Within", 62, ⟨"YarnPlier", "fibrePull", "(III)I"⟩, "YarnPlier"), ("YarnPlier$Path", 44, ⟨"YarnPlier", "cutUp", "(II)I"⟩, "YarnPlier"), ("YarnPlier$Within", 76, ⟨"YarnPlier", "cutUp", "(II)I"⟩, "YarnPlier")]
end
section
/-! the words that every method may use; the worlds; the judgement zz_G and its rules -/
def yw : List Cond := lw_tbl.filter goodWord
theorem yw_mem {w : Cond} (h : w ∈ lw_tbl) (hg : goodWord w = true) : w ∈ yw := List.mem_filter.mpr ⟨h, hg⟩
theorem yw_t {w : Cond} (i : Nat) (h : tables_1[i]? = some w) (hg : goodWord w = true) : w ∈ yw := yw_mem (List.mem_append_right _ (List.mem_of_getElem? h)) hg
theorem yw_s {w : Cond} (i : Nat) (h : (k2_sels lw_privs)[i]? = some w) (hg : goodWord w = true) : w ∈ yw := yw_mem (List.mem_append_left _ (List.mem_of_getElem? h)) hg
theorem yw_good : GoodIn yw yw := fun _ h => ⟨h, good_of_word (List.mem_filter.mp h).2⟩
abbrev zz_Hp : Type := (Nat → Nat → Int32) × (Nat → Nat → Int64)
abbrev zz_Kd : Type := Nat → (Nat × List (Option Nat)) ⊕ (Nat × Nat)
abbrev zz_Fx : Type := va_G × (Nat → ClassId) × (Nat → Nat)
abbrev zz_Mi : Type := MethodName × ByteArray × Nat × Option FieldType
abbrev zz_L : Type := List (Option Value)
def zz_v (X : zz_Fx) : Value → Value
  | .ref k => .ref (X.2.2 k)
  | v => v
theorem zz_v_cat (X : zz_Fx) (v : Value) : (zz_v X v).category = v.category := by cases v <;> rfl
def zz_fv (X : zz_Fx) (h : zz_Hp) (k j : Nat) (f : Option Nat) : Value := match f with
  | none => .int (h.1 k j)
  | some t => .ref (X.2.2 t)
def zz_fs (X : zz_Fx) (h : zz_Hp) (k : Nat) (fs : List (Option Nat)) : List Value := fs.mapIdx (zz_fv X h k)
def zz_ex (X : zz_Fx) (h : zz_Hp) (k : Nat) (q : (Nat × List (Option Nat)) ⊕ (Nat × Nat)) : va_E := match q with
  | .inl q => .inr (q.1, zz_fs X h k q.2)
  | .inr q => .inl (X.2.1 q.1, q.2, if q.1 = 3 then .inr (.inl (h.2 k)) else .inl (h.1 k))
def zz_e (X : zz_Fx) (K : zz_Kd) (h : zz_Hp) (k : Nat) : va_E := zz_ex X h k (K k)
def zz_w (X : zz_Fx) (K : zz_Kd) (N : Nat) (h : zz_Hp) : va_W := (List.range N).map fun k => (X.2.2 k, zz_e X K h k)
def zz_A (X : zz_Fx) (N : Nat) : Nat → Prop := fun q => ∃ k, k < N ∧ q = X.2.2 k
def zz_ty (X : zz_Fx) : List (ClassId × FieldType) := [(X.2.1 0, .int), (X.2.1 1, .byte), (X.2.1 2, .boolean), (X.2.1 3, .long)]
def zz_uI (h : zz_Hp) (o j : Nat) (v : Int32) : zz_Hp := (fun k i => if k = o ∧ i = j then v else h.1 k i, h.2)
def zz_uL (h : zz_Hp) (o j : Nat) (v : Int64) : zz_Hp := (h.1, fun k i => if k = o ∧ i = j then v else h.2 k i)
def zz_uC (h : zz_Hp) (a b sp dp n : Nat) : zz_Hp := (fun k i => if k = b then va_cpy (h.1 a) (h.1 b) sp dp n i else h.1 k i, h.2)
theorem zz_at {X : zz_Fx} {K : zz_Kd} {N : Nat} {h : zz_Hp} {k : Nat} (hk : k < N) : (zz_w X K N h)[k]? = some (X.2.2 k, zz_e X K h k) := by
  simp [zz_w, hk]
theorem zz_set {X : zz_Fx} {K : zz_Kd} {N : Nat} {h h' : zz_Hp} {o : Nat} {E : va_E} (hE : E = zz_e X K h' o) (ho : ∀ k, k ≠ o → zz_e X K h k = zz_e X K h' k) : (zz_w X K N h).set o (X.2.2 o, E) = zz_w X K N h' := by
  apply List.ext_getElem?
  intro k
  by_cases hk : k = o
  · subst hk
    by_cases hl : k < N
    · rw [zz_at hl, List.getElem?_set_self (by simpa [zz_w] using hl), hE]
    · rw [List.getElem?_eq_none (by simpa [zz_w] using hl), List.getElem?_eq_none (by simpa [zz_w] using hl)]
  · rw [List.getElem?_set_ne (fun q => hk q.symm)]
    by_cases hl : k < N
    · rw [zz_at hl, zz_at hl, ho k hk]
    · rw [List.getElem?_eq_none (by simpa [zz_w] using hl), List.getElem?_eq_none (by simpa [zz_w] using hl)]
theorem zz_fs_ne {X : zz_Fx} {h h' : zz_Hp} {k : Nat} {fs : List (Option Nat)} (e : ∀ j, h.1 k j = h'.1 k j) : zz_fs X h k fs = zz_fs X h' k fs := by
  unfold zz_fs
  congr 1
  funext j f
  cases f with
  | none => simp only [zz_fv, e]
  | some t => rfl
theorem zz_ex_ne {X : zz_Fx} {h h' : zz_Hp} {k : Nat} (q : (Nat × List (Option Nat)) ⊕ (Nat × Nat)) (e : ∀ j, h.1 k j = h'.1 k j) (e2 : ∀ j, h.2 k j = h'.2 k j) : zz_ex X h k q = zz_ex X h' k q := by
  cases q with
  | inl q => simp only [zz_ex, zz_fs_ne (X := X) e]
  | inr q => simp only [zz_ex, (funext e : h.1 k = h'.1 k), (funext e2 : h.2 k = h'.2 k)]
theorem zz_uI_ne {X : zz_Fx} {K : zz_Kd} {h : zz_Hp} {o j : Nat} {v : Int32} {k : Nat} (hk : k ≠ o) : zz_e X K h k = zz_e X K (zz_uI h o j v) k :=
  zz_ex_ne _ (fun i => by simp [zz_uI, hk]) (fun _ => rfl)
theorem zz_uL_ne {X : zz_Fx} {K : zz_Kd} {h : zz_Hp} {o j : Nat} {v : Int64} {k : Nat} (hk : k ≠ o) : zz_e X K h k = zz_e X K (zz_uL h o j v) k :=
  zz_ex_ne _ (fun _ => rfl) (fun i => by simp [zz_uL, hk])
theorem zz_uC_ne {X : zz_Fx} {K : zz_Kd} {h : zz_Hp} {a b sp dp n : Nat} {k : Nat} (hk : k ≠ b) : zz_e X K h k = zz_e X K (zz_uC h a b sp dp n) k :=
  zz_ex_ne _ (fun i => by simp [zz_uC, hk]) (fun _ => rfl)
/-- the statics, the array classes, the nest words -/
def zz_lt (j : Nat) : Int32 := ([-99, 1, 0, 0] : List Int32).getD j 0
def zz_mt (j : Nat) : Int32 := ([99, 99, 3, 99999] : List Int32).getD j 0
def zz_S (X : zz_Fx) (N : Nat) (s : State) : Prop := va_K X.1 vwCl (zz_ty X) s ∧ (∀ q ∈ zz_nw, va_Nw (.methodLinkNest q.1 q.2.1 q.2.2.1 q.2.2.2) s) ∧ (va_Z "YarnPlier" "LEAST_TOLD" "[I" (.ref (X.2.2 1000)) (zz_A X N) s s.heap ∧ va_T .int (X.2.2 1000) 4 (fun j => .int (zz_lt j)) (zz_A X N) s s.heap) ∧ (va_Z "YarnPlier" "MOST_TOLD" "[I" (.ref (X.2.2 1001)) (zz_A X N) s s.heap ∧ va_T .int (X.2.2 1001) 4 (fun j => .int (zz_mt j)) (zz_A X N) s s.heap)
theorem zz_S_warm {X : zz_Fx} {N : Nat} {s U : State} {H : Heap} {locs : List Loc} (h : zz_S X N s) (hU : U.heap = H) (hW : s.WarmedH U.vm) (hS : va_S (zz_A X N) s.heap H locs) : zz_S X N U := by
  obtain ⟨h1, h2, ⟨h3, h4⟩, h5, h6⟩ := h
  have kp : ∀ a : Nat, a < s.heap.size → ¬ zz_A X N a → U.heap[a]? = s.heap[a]? := fun a ha hn => by rw [hU]; exact hS.2.1 a ha hn
  exact ⟨va_K.moved hW.alike h1, fun q hq => va_Nw.warmM hW (h2 q hq), ⟨(va_Z.moved hW.alike h3).kept kp, (va_T.moved hW.alike h4).kept kp⟩, (va_Z.moved hW.alike h5).kept kp, (va_T.moved hW.alike h6).kept kp⟩
theorem zz_S_same {X : zz_Fx} {N : Nat} {s U : State} (h : zz_S X N s) (hh : U.heap = s.heap) (hv : U.vm = s.vm) : zz_S X N U := by
  obtain ⟨h1, h2, ⟨h3, h4⟩, h5, h6⟩ := h
  have ha : s.vm.Alike U.vm := by rw [hv]; exact Vm.Alike.refl _
  have kp : ∀ a : Nat, a < s.heap.size → ¬ zz_A X N a → U.heap[a]? = s.heap[a]? := fun a _ _ => by rw [hh]
  exact ⟨va_K.moved ha h1, fun q hq => va_Nw.same rfl hv.symm (h2 q hq), ⟨(va_Z.moved ha h3).kept kp, (va_T.moved ha h4).kept kp⟩, (va_Z.moved ha h5).kept kp, (va_T.moved ha h6).kept kp⟩
/-- room for d calls one in another -/
def zz_rm (d : Nat) : Room := { frames := d, cells := 0, slots := 0, locals := 64 * d }
def zz_ls (X : zz_Fx) (ls : Array Slot) (n : Nat) (L : zz_L) : Prop := L.length ≤ n ∧ ∃ lv, lv_has ls n lv ∧ ∀ i v, L[i]? = some (some v) → (i, zz_v X v) ∈ lv
theorem zz_ls.get {X : zz_Fx} {ls : Array Slot} {n : Nat} {L : zz_L} (h : zz_ls X ls n L) {i : Nat} {v : Value} (hl : L[i]? = some (some v)) : ls[i]? = some (.val (zz_v X v)) := by
  obtain ⟨-, lv, h1, h2⟩ := h
  exact h1.2.2 _ (h2 i v hl)
def zz_keep (i j : Nat) (o : Option Value) : Option Value := bif Nat.beq (j + 1) i then (match o with | some w => (match w with | .long _ => none | .double _ => none | _ => o) | none => none) else o
def zz_st1 (L : zz_L) (i : Nat) (v : Value) : zz_L := L.mapIdx fun j o => bif Nat.beq j i then some v else zz_keep i j o
def zz_st2 (L : zz_L) (i : Nat) (v : Value) : zz_L := L.mapIdx fun j o => bif Nat.beq j i then some v else bif Nat.beq j (i + 1) then none else zz_keep i j o
theorem zz_keep_some {i j : Nat} {o : Option Value} {w : Value} (h : zz_keep i j o = some w) : o = some w ∧ ¬ (j + 1 = i ∧ w.category = 2) := by
  unfold zz_keep at h
  by_cases hb : j + 1 = i
  · rw [Nat.beq_eq.mpr hb] at h
    cases o with
    | none => simp at h
    | some x =>
      cases x <;> simp at h <;> subst h <;> simp [Value.category]
  · have : Nat.beq (j + 1) i = false := by
      cases hc : Nat.beq (j + 1) i with
      | false => rfl
      | true => exact absurd (Nat.eq_of_beq_eq_true hc) hb
    rw [this] at h
    exact ⟨h, fun q => hb q.1⟩
theorem zz_beq_f {a b : Nat} (h : Nat.beq a b = false) : a ≠ b := fun e => by rw [e, Nat.beq_refl] at h; cases h
theorem zz_ls.st1 {X : zz_Fx} {ls' : Array Slot} {n : Nat} {L : zz_L} {i : Nat} {v : Value} {lv : List (Nat × Value)} (h0 : L.length ≤ n) (h2 : ∀ i v, L[i]? = some (some v) → (i, zz_v X v) ∈ lv) (h : lv_has ls' n ((i, zz_v X v) :: lv.filter (fun q => !(q.1 == i) && !(q.1 + 1 == i && q.2.category == 2)))) : zz_ls X ls' n (zz_st1 L i v) := by
  refine ⟨by simpa [zz_st1] using h0, _, h, fun j w hj => ?_⟩
  unfold zz_st1 at hj
  rw [List.getElem?_mapIdx] at hj
  cases ho : L[j]? with
  | none => rw [ho] at hj; cases hj
  | some o =>
    rw [ho] at hj
    have hj := Option.some.inj hj
    cases hb : Nat.beq j i with
    | true =>
      rw [hb] at hj
      have := Nat.eq_of_beq_eq_true hb
      subst this
      have e : v = w := Option.some.inj hj
      subst e
      exact List.mem_cons_self
    | false =>
      rw [hb] at hj
      obtain ⟨e1, e2⟩ := zz_keep_some hj
      subst e1
      refine List.mem_cons_of_mem _ (List.mem_filter.mpr ⟨h2 j w ho, ?_⟩)
      have hne := zz_beq_f hb
      simp only [Bool.and_eq_true, Bool.not_eq_true', beq_eq_false_iff_ne, ne_eq, Bool.and_eq_false_iff, zz_v_cat]
      refine ⟨hne, ?_⟩
      by_cases c : j + 1 = i
      · exact Or.inr fun q => e2 ⟨c, q⟩
      · exact Or.inl c
theorem zz_ls.st2 {X : zz_Fx} {ls' : Array Slot} {n : Nat} {L : zz_L} {i : Nat} {v : Value} {lv : List (Nat × Value)} (h0 : L.length ≤ n) (h2 : ∀ i v, L[i]? = some (some v) → (i, zz_v X v) ∈ lv) (h : lv_has ls' n ((i, zz_v X v) :: lv.filter (fun q => !(q.1 == i) && (!(q.1 == i + 1) && !(q.1 + 1 == i && q.2.category == 2))))) : zz_ls X ls' n (zz_st2 L i v) := by
  refine ⟨by simpa [zz_st2] using h0, _, h, fun j w hj => ?_⟩
  unfold zz_st2 at hj
  rw [List.getElem?_mapIdx] at hj
  cases ho : L[j]? with
  | none => rw [ho] at hj; cases hj
  | some o =>
    rw [ho] at hj
    have hj := Option.some.inj hj
    cases hb : Nat.beq j i with
    | true =>
      rw [hb] at hj
      have := Nat.eq_of_beq_eq_true hb
      subst this
      have e : v = w := Option.some.inj hj
      subst e
      exact List.mem_cons_self
    | false =>
      rw [hb] at hj
      cases hb2 : Nat.beq j (i + 1) with
      | true => rw [hb2] at hj; cases hj
      | false =>
        rw [hb2] at hj
        obtain ⟨e1, e2⟩ := zz_keep_some hj
        subst e1
        refine List.mem_cons_of_mem _ (List.mem_filter.mpr ⟨h2 j w ho, ?_⟩)
        have hne := zz_beq_f hb
        have hne2 := zz_beq_f hb2
        simp only [Bool.and_eq_true, Bool.not_eq_true', beq_eq_false_iff_ne, ne_eq, Bool.and_eq_false_iff, zz_v_cat]
        refine ⟨hne, hne2, ?_⟩
        by_cases c : j + 1 = i
        · exact Or.inr fun q => e2 ⟨c, q⟩
        · exact Or.inl c
/-- what holds of the machine while a method of ours runs -/
def zz_C (X : zz_Fx) (N d : Nat) (M : zz_Mi) (p : Program) (R : Room) (s : State) (m : MethodId) (args : Array Value) (meth : Method) (c : Code) : Prop :=
  p.tables.exec = Jvm.exec ∧ c.code = M.2.1 ∧ c.maxLocals = M.2.2.1 ∧ meth.sig.returnType = M.2.2.2 ∧ meth.locks = false ∧ s.vm.findClass M.1.cls = some m.cls ∧ (∀ w ∈ yw, w.before args s = true) ∧ zz_S X N s ∧ R = zz_rm d
def zz_Q (X : zz_Fx) (K : zz_Kd) (N : Nat) (Q : Option Value → zz_Hp → Prop) : Array Value → State → Outcome → State → Prop := fun _ st oc t =>
  ∃ (v : Option Value) (h : zz_Hp), Q v h ∧ oc = .returned (v.map (zz_v X)) ∧ va_P X.1 vwCl (zz_w X K N h) t.heap ∧ va_D (zz_A X N) (zz_w X K N h) ∧ va_F (zz_A X N) st t
/-- from pc on, with these locals, this stack, this heap, the method ends with Q -/
def zz_G (K : zz_Kd) (N d : Nat) (M : zz_Mi) (Q : Option Value → zz_Hp → Prop) (pc : Nat) (L : zz_L) (st : List Value) (h : zz_Hp) : Prop :=
  ∀ (X : zz_Fx) (p : Program) (l : Launch) (e : Env) (R : Room) (s : State) (m : MethodId) (args : Array Value) (below : List Frame) (meth : Method) (c : Code) (H : Heap) (locs : List Loc) (ls : Array Slot),
    zz_C X N d M p R s m args meth c → zz_ls X ls M.2.2.1 L → va_P X.1 vwCl (zz_w X K N h) H → va_D (zz_A X N) (zz_w X K N h) → va_S (zz_A X N) s.heap H locs →
    W p l e R s m args below meth c H locs 0 0 (MQ below (zz_Q X K N Q) args s 0 0 (zz_A X N)) (F0 m pc ls (st.map (zz_v X)))
def qI (Q : Int32 → zz_Hp → Prop) : Option Value → zz_Hp → Prop := fun v h => ∃ r, v = some (.int r) ∧ Q r h
def qL (Q : Int64 → zz_Hp → Prop) : Option Value → zz_Hp → Prop := fun v h => ∃ r, v = some (.long r) ∧ Q r h
def qV (Q : zz_Hp → Prop) : Option Value → zz_Hp → Prop := fun v h => v = none ∧ Q h
section ZR
variable {K : zz_Kd} {N d : Nat} {M : zz_Mi} {Q : Option Value → zz_Hp → Prop} {pc : Nat} {L : zz_L} {st : List Value} {h : zz_Hp}
theorem zg_iconst {n : Int} {v : Int32} (hd : decode M.2.1 pc = .ok (.iconst n, 1)) (hv : Int32.ofInt n = v) (k : zz_G K N d M Q (pc + 1) L (.int v :: st) h) : zz_G K N d M Q pc L (st) h := by
  intro X p l e R s m args below meth c H locs ls C hl hP hD hS
  exact lv_iconst C.1 C.2.1 hd hv (k X p l e R s m args below meth c H locs ls C hl hP hD hS)
theorem zg_bipush {n : Int} {v : Int32} (hd : decode M.2.1 pc = .ok (.bipush n, 2)) (hv : (Int8.ofInt n).toInt32 = v) (k : zz_G K N d M Q (pc + 2) L (.int v :: st) h) : zz_G K N d M Q pc L (st) h := by
  intro X p l e R s m args below meth c H locs ls C hl hP hD hS
  exact lv_bipush C.1 C.2.1 hd hv (k X p l e R s m args below meth c H locs ls C hl hP hD hS)
theorem zg_sipush {n : Int} {v : Int32} (hd : decode M.2.1 pc = .ok (.sipush n, 3)) (hv : (Int16.ofInt n).toInt32 = v) (k : zz_G K N d M Q (pc + 3) L (.int v :: st) h) : zz_G K N d M Q pc L (st) h := by
  intro X p l e R s m args below meth c H locs ls C hl hP hD hS
  exact lv_sipush C.1 C.2.1 hd hv (k X p l e R s m args below meth c H locs ls C hl hP hD hS)
theorem zg_lconst {n : Fin 2} {v : Int64} (hd : decode M.2.1 pc = .ok (.lconst n, 1)) (hv : Int64.ofNat (n : Nat) = v) (k : zz_G K N d M Q (pc + 1) L (.long v :: st) h) : zz_G K N d M Q pc L (st) h := by
  intro X p l e R s m args below meth c H locs ls C hl hP hD hS
  exact lv_lconst C.1 C.2.1 hd hv (k X p l e R s m args below meth c H locs ls C hl hP hD hS)
theorem zg_iload {i : Nat} {x : Int32} (hd : decode M.2.1 pc = .ok (.iload i, 2)) (hl0 : L[i]? = some (some (.int x))) (k : zz_G K N d M Q (pc + 2) L (.int x :: st) h) : zz_G K N d M Q pc L (st) h := by
  intro X p l e R s m args below meth c H locs ls C hl hP hD hS
  exact lv_iload C.1 C.2.1 hd (hl.get hl0) (k X p l e R s m args below meth c H locs ls C hl hP hD hS)
theorem zg_iload_n {q : Fin 4} {i : Nat} {x : Int32} (hd : decode M.2.1 pc = .ok (.iload_n q, 1)) (hi : (q : Nat) = i) (hl0 : L[i]? = some (some (.int x))) (k : zz_G K N d M Q (pc + 1) L (.int x :: st) h) : zz_G K N d M Q pc L (st) h := by
  intro X p l e R s m args below meth c H locs ls C hl hP hD hS
  exact lv_iload_n C.1 C.2.1 hd hi (hl.get hl0) (k X p l e R s m args below meth c H locs ls C hl hP hD hS)
theorem zg_lload {i : Nat} {x : Int64} (hd : decode M.2.1 pc = .ok (.lload i, 2)) (hl0 : L[i]? = some (some (.long x))) (k : zz_G K N d M Q (pc + 2) L (.long x :: st) h) : zz_G K N d M Q pc L (st) h := by
  intro X p l e R s m args below meth c H locs ls C hl hP hD hS
  exact lv_lload C.1 C.2.1 hd (hl.get hl0) (k X p l e R s m args below meth c H locs ls C hl hP hD hS)
theorem zg_lload_n {q : Fin 4} {i : Nat} {x : Int64} (hd : decode M.2.1 pc = .ok (.lload_n q, 1)) (hi : (q : Nat) = i) (hl0 : L[i]? = some (some (.long x))) (k : zz_G K N d M Q (pc + 1) L (.long x :: st) h) : zz_G K N d M Q pc L (st) h := by
  intro X p l e R s m args below meth c H locs ls C hl hP hD hS
  exact lv_lload_n C.1 C.2.1 hd hi (hl.get hl0) (k X p l e R s m args below meth c H locs ls C hl hP hD hS)
theorem zg_aload {i : Nat} {x : Nat} (hd : decode M.2.1 pc = .ok (.aload i, 2)) (hl0 : L[i]? = some (some (.ref x))) (k : zz_G K N d M Q (pc + 2) L (.ref x :: st) h) : zz_G K N d M Q pc L (st) h := by
  intro X p l e R s m args below meth c H locs ls C hl hP hD hS
  exact lv_aload C.1 C.2.1 hd (hl.get hl0) (k X p l e R s m args below meth c H locs ls C hl hP hD hS)
theorem zg_aload_n {q : Fin 4} {i : Nat} {x : Nat} (hd : decode M.2.1 pc = .ok (.aload_n q, 1)) (hi : (q : Nat) = i) (hl0 : L[i]? = some (some (.ref x))) (k : zz_G K N d M Q (pc + 1) L (.ref x :: st) h) : zz_G K N d M Q pc L (st) h := by
  intro X p l e R s m args below meth c H locs ls C hl hP hD hS
  exact lv_aload_n C.1 C.2.1 hd hi (hl.get hl0) (k X p l e R s m args below meth c H locs ls C hl hP hD hS)
theorem zg_iadd {x y : Int32}  (hd : decode M.2.1 pc = .ok (.iadd, 1)) (k : zz_G K N d M Q (pc + 1) L (.int (x + y) :: st) h) : zz_G K N d M Q pc L (.int y :: .int x :: st) h := by
  intro X p l e R s m args below meth c H locs ls C hl hP hD hS
  exact lv_iadd C.1 C.2.1 hd (k X p l e R s m args below meth c H locs ls C hl hP hD hS)
theorem zg_isub {x y : Int32}  (hd : decode M.2.1 pc = .ok (.isub, 1)) (k : zz_G K N d M Q (pc + 1) L (.int (x - y) :: st) h) : zz_G K N d M Q pc L (.int y :: .int x :: st) h := by
  intro X p l e R s m args below meth c H locs ls C hl hP hD hS
  exact lv_isub C.1 C.2.1 hd (k X p l e R s m args below meth c H locs ls C hl hP hD hS)
theorem zg_imul {x y : Int32}  (hd : decode M.2.1 pc = .ok (.imul, 1)) (k : zz_G K N d M Q (pc + 1) L (.int (x * y) :: st) h) : zz_G K N d M Q pc L (.int y :: .int x :: st) h := by
  intro X p l e R s m args below meth c H locs ls C hl hP hD hS
  exact lv_imul C.1 C.2.1 hd (k X p l e R s m args below meth c H locs ls C hl hP hD hS)
theorem zg_iand {x y : Int32}  (hd : decode M.2.1 pc = .ok (.iand, 1)) (k : zz_G K N d M Q (pc + 1) L (.int (x &&& y) :: st) h) : zz_G K N d M Q pc L (.int y :: .int x :: st) h := by
  intro X p l e R s m args below meth c H locs ls C hl hP hD hS
  exact lv_iand C.1 C.2.1 hd (k X p l e R s m args below meth c H locs ls C hl hP hD hS)
theorem zg_ior {x y : Int32}  (hd : decode M.2.1 pc = .ok (.ior, 1)) (k : zz_G K N d M Q (pc + 1) L (.int (x ||| y) :: st) h) : zz_G K N d M Q pc L (.int y :: .int x :: st) h := by
  intro X p l e R s m args below meth c H locs ls C hl hP hD hS
  exact lv_ior C.1 C.2.1 hd (k X p l e R s m args below meth c H locs ls C hl hP hD hS)
theorem zg_ishl {x y : Int32}  (hd : decode M.2.1 pc = .ok (.ishl, 1)) (k : zz_G K N d M Q (pc + 1) L (.int (x <<< (y &&& 31)) :: st) h) : zz_G K N d M Q pc L (.int y :: .int x :: st) h := by
  intro X p l e R s m args below meth c H locs ls C hl hP hD hS
  exact lv_ishl C.1 C.2.1 hd (k X p l e R s m args below meth c H locs ls C hl hP hD hS)
theorem zg_ishr {x y : Int32}  (hd : decode M.2.1 pc = .ok (.ishr, 1)) (k : zz_G K N d M Q (pc + 1) L (.int (x >>> (y &&& 31)) :: st) h) : zz_G K N d M Q pc L (.int y :: .int x :: st) h := by
  intro X p l e R s m args below meth c H locs ls C hl hP hD hS
  exact lv_ishr C.1 C.2.1 hd (k X p l e R s m args below meth c H locs ls C hl hP hD hS)
theorem zg_idiv {x y : Int32} (hd : decode M.2.1 pc = .ok (.idiv, 1)) (hne : ¬ y = 0) (k : zz_G K N d M Q (pc + 1) L (.int (x / y) :: st) h) : zz_G K N d M Q pc L (.int y :: .int x :: st) h := by
  intro X p l e R s m args below meth c H locs ls C hl hP hD hS
  exact lv_idiv C.1 C.2.1 hd hne (k X p l e R s m args below meth c H locs ls C hl hP hD hS)
theorem zg_irem {x y : Int32} (hd : decode M.2.1 pc = .ok (.irem, 1)) (hne : ¬ y = 0) (k : zz_G K N d M Q (pc + 1) L (.int (x - x / y * y) :: st) h) : zz_G K N d M Q pc L (.int y :: .int x :: st) h := by
  intro X p l e R s m args below meth c H locs ls C hl hP hD hS
  exact lv_irem C.1 C.2.1 hd hne (k X p l e R s m args below meth c H locs ls C hl hP hD hS)
theorem zg_ldiv {x y : Int64} (hd : decode M.2.1 pc = .ok (.ldiv, 1)) (hne : ¬ y = 0) (k : zz_G K N d M Q (pc + 1) L (.long (x / y) :: st) h) : zz_G K N d M Q pc L (.long y :: .long x :: st) h := by
  intro X p l e R s m args below meth c H locs ls C hl hP hD hS
  exact lv_ldiv C.1 C.2.1 hd hne (k X p l e R s m args below meth c H locs ls C hl hP hD hS)
theorem zg_lrem {x y : Int64} (hd : decode M.2.1 pc = .ok (.lrem, 1)) (hne : ¬ y = 0) (k : zz_G K N d M Q (pc + 1) L (.long (x - x / y * y) :: st) h) : zz_G K N d M Q pc L (.long y :: .long x :: st) h := by
  intro X p l e R s m args below meth c H locs ls C hl hP hD hS
  exact lv_lrem C.1 C.2.1 hd hne (k X p l e R s m args below meth c H locs ls C hl hP hD hS)
theorem zg_lmul {x y : Int64}  (hd : decode M.2.1 pc = .ok (.lmul, 1)) (k : zz_G K N d M Q (pc + 1) L (.long (x * y) :: st) h) : zz_G K N d M Q pc L (.long y :: .long x :: st) h := by
  intro X p l e R s m args below meth c H locs ls C hl hP hD hS
  exact lv_lmul C.1 C.2.1 hd (k X p l e R s m args below meth c H locs ls C hl hP hD hS)
theorem zg_ineg {x : Int32}  (hd : decode M.2.1 pc = .ok (.ineg, 1)) (k : zz_G K N d M Q (pc + 1) L (.int (-x) :: st) h) : zz_G K N d M Q pc L (.int x :: st) h := by
  intro X p l e R s m args below meth c H locs ls C hl hP hD hS
  exact lv_ineg C.1 C.2.1 hd (k X p l e R s m args below meth c H locs ls C hl hP hD hS)
theorem zg_i2l {x : Int32}  (hd : decode M.2.1 pc = .ok (.i2l, 1)) (k : zz_G K N d M Q (pc + 1) L (.long x.toInt64 :: st) h) : zz_G K N d M Q pc L (.int x :: st) h := by
  intro X p l e R s m args below meth c H locs ls C hl hP hD hS
  exact lv_i2l C.1 C.2.1 hd rfl (k X p l e R s m args below meth c H locs ls C hl hP hD hS)
theorem zg_i2b {x : Int32}  (hd : decode M.2.1 pc = .ok (.i2b, 1)) (k : zz_G K N d M Q (pc + 1) L (.int x.toInt8.toInt32 :: st) h) : zz_G K N d M Q pc L (.int x :: st) h := by
  intro X p l e R s m args below meth c H locs ls C hl hP hD hS
  exact lv_i2b C.1 C.2.1 hd rfl (k X p l e R s m args below meth c H locs ls C hl hP hD hS)
theorem zg_lcmp {x y : Int64}  (hd : decode M.2.1 pc = .ok (.lcmp, 1)) (k : zz_G K N d M Q (pc + 1) L (.int (lg_cmp x y) :: st) h) : zz_G K N d M Q pc L (.long y :: .long x :: st) h := by
  intro X p l e R s m args below meth c H locs ls C hl hP hD hS
  exact W.lcmp C.1 C.2.1 hd (k X p l e R s m args below meth c H locs ls C hl hP hD hS)
theorem zg_dup {v : Value} (hd : decode M.2.1 pc = .ok (.dup, 1)) (hv : v.category = 1) (k : zz_G K N d M Q (pc + 1) L (v :: v :: st) h) : zz_G K N d M Q pc L (v :: st) h := by
  intro X p l e R s m args below meth c H locs ls C hl hP hD hS
  exact lv_dup C.1 C.2.1 hd (by rw [zz_v_cat]; exact hv) (k X p l e R s m args below meth c H locs ls C hl hP hD hS)
theorem zg_pop {v : Value} (hd : decode M.2.1 pc = .ok (.pop, 1)) (hv : v.category = 1) (k : zz_G K N d M Q (pc + 1) L st h) : zz_G K N d M Q pc L (v :: st) h := by
  intro X p l e R s m args below meth c H locs ls C hl hP hD hS
  exact lv_pop C.1 C.2.1 hd (by rw [zz_v_cat]; exact hv) (k X p l e R s m args below meth c H locs ls C hl hP hD hS)
theorem zg_dup2 {v w : Value} (hd : decode M.2.1 pc = .ok (.dup2, 1)) (hv : v.category = 1) (hw : w.category = 1) (k : zz_G K N d M Q (pc + 1) L (v :: w :: v :: w :: st) h) : zz_G K N d M Q pc L (v :: w :: st) h := by
  intro X p l e R s m args below meth c H locs ls C hl hP hD hS
  exact lv_dup2_11 C.1 C.2.1 hd (by rw [zz_v_cat]; exact hv) (by rw [zz_v_cat]; exact hw) (k X p l e R s m args below meth c H locs ls C hl hP hD hS)
theorem zg_istore {i : Nat} {x : Int32} {L' : zz_L} (hd : decode M.2.1 pc = .ok (.istore i, 2)) (hn : i < M.2.2.1) (hL : zz_st1 L i (.int x) = L') (k : zz_G K N d M Q (pc + 2) L' st h) : zz_G K N d M Q pc L (.int x :: st) h := by
  intro X p l e R s m args below meth c H locs ls C hl hP hD hS
  subst hL
  obtain ⟨h0, lv, h1, h2⟩ := hl
  exact lv_istore C.1 C.2.1 hd h1 hn rfl fun ls' hls => k X p l e R s m args below meth c H locs ls' C (zz_ls.st1 h0 h2 hls) hP hD hS
theorem zg_istore_n {i : Nat} {x : Int32} {L' : zz_L} {q : Fin 4} (hd : decode M.2.1 pc = .ok (.istore_n q, 1)) (hi : (q : Nat) = i) (hn : i < M.2.2.1) (hL : zz_st1 L i (.int x) = L') (k : zz_G K N d M Q (pc + 1) L' st h) : zz_G K N d M Q pc L (.int x :: st) h := by
  intro X p l e R s m args below meth c H locs ls C hl hP hD hS
  subst hL
  obtain ⟨h0, lv, h1, h2⟩ := hl
  exact lv_istore_n C.1 C.2.1 hd hi h1 hn rfl fun ls' hls => k X p l e R s m args below meth c H locs ls' C (zz_ls.st1 h0 h2 hls) hP hD hS
theorem zg_astore {i : Nat} {x : Nat} {L' : zz_L} (hd : decode M.2.1 pc = .ok (.astore i, 2)) (hn : i < M.2.2.1) (hL : zz_st1 L i (.ref x) = L') (k : zz_G K N d M Q (pc + 2) L' st h) : zz_G K N d M Q pc L (.ref x :: st) h := by
  intro X p l e R s m args below meth c H locs ls C hl hP hD hS
  subst hL
  obtain ⟨h0, lv, h1, h2⟩ := hl
  exact lv_astore C.1 C.2.1 hd h1 hn rfl fun ls' hls => k X p l e R s m args below meth c H locs ls' C (zz_ls.st1 h0 h2 hls) hP hD hS
theorem zg_astore_n {i : Nat} {x : Nat} {L' : zz_L} {q : Fin 4} (hd : decode M.2.1 pc = .ok (.astore_n q, 1)) (hi : (q : Nat) = i) (hn : i < M.2.2.1) (hL : zz_st1 L i (.ref x) = L') (k : zz_G K N d M Q (pc + 1) L' st h) : zz_G K N d M Q pc L (.ref x :: st) h := by
  intro X p l e R s m args below meth c H locs ls C hl hP hD hS
  subst hL
  obtain ⟨h0, lv, h1, h2⟩ := hl
  exact lv_astore_n C.1 C.2.1 hd hi h1 hn rfl fun ls' hls => k X p l e R s m args below meth c H locs ls' C (zz_ls.st1 h0 h2 hls) hP hD hS
theorem zg_lstore {i : Nat} {x : Int64} {L' : zz_L} (hd : decode M.2.1 pc = .ok (.lstore i, 2)) (hn : i + 1 < M.2.2.1) (hL : zz_st2 L i (.long x) = L') (k : zz_G K N d M Q (pc + 2) L' st h) : zz_G K N d M Q pc L (.long x :: st) h := by
  intro X p l e R s m args below meth c H locs ls C hl hP hD hS
  subst hL
  obtain ⟨h0, lv, h1, h2⟩ := hl
  exact lv_lstore C.1 C.2.1 hd h1 hn rfl fun ls' hls => k X p l e R s m args below meth c H locs ls' C (zz_ls.st2 h0 h2 hls) hP hD hS
theorem zg_lstore_n {i : Nat} {x : Int64} {L' : zz_L} {q : Fin 4} (hd : decode M.2.1 pc = .ok (.lstore_n q, 1)) (hi : (q : Nat) = i) (hn : i + 1 < M.2.2.1) (hL : zz_st2 L i (.long x) = L') (k : zz_G K N d M Q (pc + 1) L' st h) : zz_G K N d M Q pc L (.long x :: st) h := by
  intro X p l e R s m args below meth c H locs ls C hl hP hD hS
  subst hL
  obtain ⟨h0, lv, h1, h2⟩ := hl
  exact lv_lstore_n C.1 C.2.1 hd hi h1 hn rfl fun ls' hls => k X p l e R s m args below meth c H locs ls' C (zz_ls.st2 h0 h2 hls) hP hD hS
theorem zg_iinc {i : Nat} {n : Int} {x v : Int32} {L' : zz_L} (hd : decode M.2.1 pc = .ok (.iinc i n, 3)) (hl0 : L[i]? = some (some (.int x))) (hv : x + Int32.ofInt n = v) (hn : i < M.2.2.1) (hL : zz_st1 L i (.int v) = L') (k : zz_G K N d M Q (pc + 3) L' st h) : zz_G K N d M Q pc L st h := by
  intro X p l e R s m args below meth c H locs ls C hl hP hD hS
  subst hL
  obtain ⟨h0, lv, h1, h2⟩ := hl
  obtain ⟨q, hq⟩ := List.getElem?_of_mem (h2 i _ hl0)
  exact lv_iinc C.1 C.2.1 hd h1 hq hv hn rfl fun ls' hls => k X p l e R s m args below meth c H locs ls' C (zz_ls.st1 (v := .int v) h0 h2 hls) hP hD hS
theorem zg_if_eq {x : Int32} {off : Int} {tgt : Nat} (hd : decode M.2.1 pc = .ok (.ifCond .eq off, 3)) (ht : (pc : Int) + off = (tgt : Int)) (kt : x = 0 → zz_G K N d M Q tgt L st h) (kf : ¬ (x = 0) → zz_G K N d M Q (pc + 3) L st h) : zz_G K N d M Q pc L (.int x :: st) h := by
  intro X p l e R s m args below meth c H locs ls C hl hP hD hS
  exact lv_if_eq C.1 C.2.1 hd ht (fun q => kt q X p l e R s m args below meth c H locs ls C hl hP hD hS) (fun q => kf q X p l e R s m args below meth c H locs ls C hl hP hD hS)
theorem zg_icmp_eq {x y : Int32} {off : Int} {tgt : Nat} (hd : decode M.2.1 pc = .ok (.if_icmp .eq off, 3)) (ht : (pc : Int) + off = (tgt : Int)) (kt : x = y → zz_G K N d M Q tgt L st h) (kf : ¬ (x = y) → zz_G K N d M Q (pc + 3) L st h) : zz_G K N d M Q pc L (.int y :: .int x :: st) h := by
  intro X p l e R s m args below meth c H locs ls C hl hP hD hS
  exact lv_icmp_eq C.1 C.2.1 hd ht (fun q => kt q X p l e R s m args below meth c H locs ls C hl hP hD hS) (fun q => kf q X p l e R s m args below meth c H locs ls C hl hP hD hS)
theorem zg_if_ne {x : Int32} {off : Int} {tgt : Nat} (hd : decode M.2.1 pc = .ok (.ifCond .ne off, 3)) (ht : (pc : Int) + off = (tgt : Int)) (kt : ¬ x = 0 → zz_G K N d M Q tgt L st h) (kf : x = 0 → zz_G K N d M Q (pc + 3) L st h) : zz_G K N d M Q pc L (.int x :: st) h := by
  intro X p l e R s m args below meth c H locs ls C hl hP hD hS
  exact lv_if_ne C.1 C.2.1 hd ht (fun q => kt q X p l e R s m args below meth c H locs ls C hl hP hD hS) (fun q => kf q X p l e R s m args below meth c H locs ls C hl hP hD hS)
theorem zg_icmp_ne {x y : Int32} {off : Int} {tgt : Nat} (hd : decode M.2.1 pc = .ok (.if_icmp .ne off, 3)) (ht : (pc : Int) + off = (tgt : Int)) (kt : ¬ x = y → zz_G K N d M Q tgt L st h) (kf : x = y → zz_G K N d M Q (pc + 3) L st h) : zz_G K N d M Q pc L (.int y :: .int x :: st) h := by
  intro X p l e R s m args below meth c H locs ls C hl hP hD hS
  exact lv_icmp_ne C.1 C.2.1 hd ht (fun q => kt q X p l e R s m args below meth c H locs ls C hl hP hD hS) (fun q => kf q X p l e R s m args below meth c H locs ls C hl hP hD hS)
theorem zg_if_lt {x : Int32} {off : Int} {tgt : Nat} (hd : decode M.2.1 pc = .ok (.ifCond .lt off, 3)) (ht : (pc : Int) + off = (tgt : Int)) (kt : x < 0 → zz_G K N d M Q tgt L st h) (kf : ¬ (x < 0) → zz_G K N d M Q (pc + 3) L st h) : zz_G K N d M Q pc L (.int x :: st) h := by
  intro X p l e R s m args below meth c H locs ls C hl hP hD hS
  exact lv_if_lt C.1 C.2.1 hd ht (fun q => kt q X p l e R s m args below meth c H locs ls C hl hP hD hS) (fun q => kf q X p l e R s m args below meth c H locs ls C hl hP hD hS)
theorem zg_icmp_lt {x y : Int32} {off : Int} {tgt : Nat} (hd : decode M.2.1 pc = .ok (.if_icmp .lt off, 3)) (ht : (pc : Int) + off = (tgt : Int)) (kt : x < y → zz_G K N d M Q tgt L st h) (kf : ¬ (x < y) → zz_G K N d M Q (pc + 3) L st h) : zz_G K N d M Q pc L (.int y :: .int x :: st) h := by
  intro X p l e R s m args below meth c H locs ls C hl hP hD hS
  exact lv_icmp_lt C.1 C.2.1 hd ht (fun q => kt q X p l e R s m args below meth c H locs ls C hl hP hD hS) (fun q => kf q X p l e R s m args below meth c H locs ls C hl hP hD hS)
theorem zg_if_ge {x : Int32} {off : Int} {tgt : Nat} (hd : decode M.2.1 pc = .ok (.ifCond .ge off, 3)) (ht : (pc : Int) + off = (tgt : Int)) (kt : 0 ≤ x → zz_G K N d M Q tgt L st h) (kf : ¬ (0 ≤ x) → zz_G K N d M Q (pc + 3) L st h) : zz_G K N d M Q pc L (.int x :: st) h := by
  intro X p l e R s m args below meth c H locs ls C hl hP hD hS
  exact lv_if_ge C.1 C.2.1 hd ht (fun q => kt q X p l e R s m args below meth c H locs ls C hl hP hD hS) (fun q => kf q X p l e R s m args below meth c H locs ls C hl hP hD hS)
theorem zg_icmp_ge {x y : Int32} {off : Int} {tgt : Nat} (hd : decode M.2.1 pc = .ok (.if_icmp .ge off, 3)) (ht : (pc : Int) + off = (tgt : Int)) (kt : y ≤ x → zz_G K N d M Q tgt L st h) (kf : ¬ (y ≤ x) → zz_G K N d M Q (pc + 3) L st h) : zz_G K N d M Q pc L (.int y :: .int x :: st) h := by
  intro X p l e R s m args below meth c H locs ls C hl hP hD hS
  exact lv_icmp_ge C.1 C.2.1 hd ht (fun q => kt q X p l e R s m args below meth c H locs ls C hl hP hD hS) (fun q => kf q X p l e R s m args below meth c H locs ls C hl hP hD hS)
theorem zg_if_gt {x : Int32} {off : Int} {tgt : Nat} (hd : decode M.2.1 pc = .ok (.ifCond .gt off, 3)) (ht : (pc : Int) + off = (tgt : Int)) (kt : 0 < x → zz_G K N d M Q tgt L st h) (kf : ¬ (0 < x) → zz_G K N d M Q (pc + 3) L st h) : zz_G K N d M Q pc L (.int x :: st) h := by
  intro X p l e R s m args below meth c H locs ls C hl hP hD hS
  exact lv_if_gt C.1 C.2.1 hd ht (fun q => kt q X p l e R s m args below meth c H locs ls C hl hP hD hS) (fun q => kf q X p l e R s m args below meth c H locs ls C hl hP hD hS)
theorem zg_icmp_gt {x y : Int32} {off : Int} {tgt : Nat} (hd : decode M.2.1 pc = .ok (.if_icmp .gt off, 3)) (ht : (pc : Int) + off = (tgt : Int)) (kt : y < x → zz_G K N d M Q tgt L st h) (kf : ¬ (y < x) → zz_G K N d M Q (pc + 3) L st h) : zz_G K N d M Q pc L (.int y :: .int x :: st) h := by
  intro X p l e R s m args below meth c H locs ls C hl hP hD hS
  exact lv_icmp_gt C.1 C.2.1 hd ht (fun q => kt q X p l e R s m args below meth c H locs ls C hl hP hD hS) (fun q => kf q X p l e R s m args below meth c H locs ls C hl hP hD hS)
theorem zg_if_le {x : Int32} {off : Int} {tgt : Nat} (hd : decode M.2.1 pc = .ok (.ifCond .le off, 3)) (ht : (pc : Int) + off = (tgt : Int)) (kt : x ≤ 0 → zz_G K N d M Q tgt L st h) (kf : ¬ (x ≤ 0) → zz_G K N d M Q (pc + 3) L st h) : zz_G K N d M Q pc L (.int x :: st) h := by
  intro X p l e R s m args below meth c H locs ls C hl hP hD hS
  exact lv_if_le C.1 C.2.1 hd ht (fun q => kt q X p l e R s m args below meth c H locs ls C hl hP hD hS) (fun q => kf q X p l e R s m args below meth c H locs ls C hl hP hD hS)
theorem zg_icmp_le {x y : Int32} {off : Int} {tgt : Nat} (hd : decode M.2.1 pc = .ok (.if_icmp .le off, 3)) (ht : (pc : Int) + off = (tgt : Int)) (kt : x ≤ y → zz_G K N d M Q tgt L st h) (kf : ¬ (x ≤ y) → zz_G K N d M Q (pc + 3) L st h) : zz_G K N d M Q pc L (.int y :: .int x :: st) h := by
  intro X p l e R s m args below meth c H locs ls C hl hP hD hS
  exact lv_icmp_le C.1 C.2.1 hd ht (fun q => kt q X p l e R s m args below meth c H locs ls C hl hP hD hS) (fun q => kf q X p l e R s m args below meth c H locs ls C hl hP hD hS)
theorem zg_goto {off : Int} {tgt : Nat} (hd : decode M.2.1 pc = .ok (.goto off, 3)) (ht : (pc : Int) + off = (tgt : Int)) (k : zz_G K N d M Q tgt L st h) : zz_G K N d M Q pc L st h := by
  intro X p l e R s m args below meth c H locs ls C hl hP hD hS
  exact lv_goto C.1 C.2.1 hd ht (k X p l e R s m args below meth c H locs ls C hl hP hD hS)
theorem zg_tabIn {dflt lo hi : Int} {offs : Array Int} {len : Nat} {x : Int32} {off : Int} {tgt : Nat} (hd : decode M.2.1 pc = .ok (.tableswitch dflt lo hi offs, len)) (h1 : ¬ x.toInt < lo) (h2 : ¬ hi < x.toInt) (ho : offs[(x.toInt - lo).toNat]? = some off) (ht : (pc : Int) + off = (tgt : Int)) (k : zz_G K N d M Q tgt L st h) : zz_G K N d M Q pc L (.int x :: st) h := by
  intro X p l e R s m args below meth c H locs ls C hl hP hD hS
  exact lv_tableIn C.1 C.2.1 hd h1 h2 ho ht (k X p l e R s m args below meth c H locs ls C hl hP hD hS)
theorem zg_tabOut {dflt lo hi : Int} {offs : Array Int} {len : Nat} {x : Int32} {tgt : Nat} (hd : decode M.2.1 pc = .ok (.tableswitch dflt lo hi offs, len)) (h1 : x.toInt < lo ∨ hi < x.toInt) (ht : (pc : Int) + dflt = (tgt : Int)) (k : zz_G K N d M Q tgt L st h) : zz_G K N d M Q pc L (.int x :: st) h := by
  intro X p l e R s m args below meth c H locs ls C hl hP hD hS
  exact lv_tableOut C.1 C.2.1 hd h1 ht (k X p l e R s m args below meth c H locs ls C hl hP hD hS)
theorem zg_ldc {idx : Nat} {v : Int32} (hd : decode M.2.1 pc = .ok (.ldc idx, 2)) (hw : Cond.constant M.1.cls idx v ∈ yw) (k : zz_G K N d M Q (pc + 2) L (.int v :: st) h) : zz_G K N d M Q pc L st h := by
  intro X p l e R s m args below meth c H locs ls C hl hP hD hS
  exact lv_ldc C.1 C.2.1 C.2.2.2.2.2.1 (C.2.2.2.2.2.2.1 _ hw) hd (k X p l e R s m args below meth c H locs ls C hl hP hD hS)
theorem zg_ldcw {idx : Nat} {v : Int32} (hd : decode M.2.1 pc = .ok (.ldc_w idx, 3)) (hw : Cond.constant M.1.cls idx v ∈ yw) (k : zz_G K N d M Q (pc + 3) L (.int v :: st) h) : zz_G K N d M Q pc L st h := by
  intro X p l e R s m args below meth c H locs ls C hl hP hD hS
  exact lv_ldcw C.1 C.2.1 C.2.2.2.2.2.1 (C.2.2.2.2.2.2.1 _ hw) hd (k X p l e R s m args below meth c H locs ls C hl hP hD hS)
theorem zg_ldc2 {idx : Nat} {v : Int64} (hd : decode M.2.1 pc = .ok (.ldc2_w idx, 3)) (hw : Cond.constantLong M.1.cls idx v ∈ yw) (k : zz_G K N d M Q (pc + 3) L (.long v :: st) h) : zz_G K N d M Q pc L st h := by
  intro X p l e R s m args below meth c H locs ls C hl hP hD hS
  exact lv_ldc2 C.1 C.2.1 C.2.2.2.2.2.1 (C.2.2.2.2.2.2.1 _ hw) hd (k X p l e R s m args below meth c H locs ls C hl hP hD hS)
/-- a field's link: class ci's slot j, from class own's entry idx -/
def zz_lf (own : String) (idx ci j : Nat) : Prop := ∃ (C : String) (T : u_T) (n : Nat), vwCl[ci]? = some (C, T, n) ∧ j < n ∧ (∀ k, k < n → u_lay C T k ∈ yw) ∧ Cond.fieldLink own idx (T j).1 (T j).2.1 (T j).2.2.1 ∈ yw
def zz_lp (own : String) (idx ci j : Nat) (ty : FieldType) : Prop := ∃ (C : String) (T : u_T) (n : Nat) (tys : Nat → FieldType), vwCl[ci]? = some (C, T, n) ∧ j < n ∧ (∀ k, k < n → u_lay C T k ∈ yw) ∧ Cond.fieldLink own idx (T j).1 (T j).2.1 (T j).2.2.1 ∈ yw ∧ (∀ k, k < n → parseFieldDescriptor (T k).2.2.1 = some (tys k)) ∧ (∀ a, a < n → ∀ b, b < n → a ≠ b → (T a).2.1 ≠ (T b).2.1) ∧ (T j).2.2.2 = false ∧ parseFieldDescriptor (T j).2.2.1 = some ty
theorem zz_uws {C : String} {T : u_T} {n : Nat} (h : ∀ k, k < n → u_lay C T k ∈ yw) : ∀ w ∈ u_ws C T n, w ∈ yw := by
  intro w hw
  unfold u_ws at hw
  obtain ⟨k, hk, rfl⟩ := List.mem_map.mp hw
  exact h k (List.mem_range.mp hk)
theorem zz_eO {X : zz_Fx} {K : zz_Kd} {N : Nat} {h : zz_Hp} {o ci : Nat} {fs : List (Option Nat)} (ho : o < N) (hK : K o = .inl (ci, fs)) : (zz_w X K N h)[o]? = some (X.2.2 o, .inr (ci, zz_fs X h o fs)) := by
  rw [zz_at ho]; simp only [zz_e, hK, zz_ex]
theorem zz_eI {X : zz_Fx} {K : zz_Kd} {N : Nat} {h : zz_Hp} {o ty n : Nat} (ho : o < N) (hK : K o = .inr (ty, n)) (ht : ty ≠ 3) : (zz_w X K N h)[o]? = some (X.2.2 o, .inl (X.2.1 ty, n, .inl (h.1 o))) := by
  rw [zz_at ho]; simp only [zz_e, hK, zz_ex, if_neg ht]
theorem zz_eL {X : zz_Fx} {K : zz_Kd} {N : Nat} {h : zz_Hp} {o n : Nat} (ho : o < N) (hK : K o = .inr (3, n)) : (zz_w X K N h)[o]? = some (X.2.2 o, .inl (X.2.1 3, n, .inr (.inl (h.2 o)))) := by
  rw [zz_at ho]; simp only [zz_e, hK, zz_ex, if_true]
theorem zz_fs_get {X : zz_Fx} {h : zz_Hp} {o j : Nat} {fs : List (Option Nat)} {f : Option Nat} (hj : fs[j]? = some f) : (zz_fs X h o fs)[j]? = some (zz_fv X h o j f) := by
  unfold zz_fs; rw [List.getElem?_mapIdx, hj]; rfl
theorem zz_fs_set {X : zz_Fx} {h : zz_Hp} {o j : Nat} {fs : List (Option Nat)} (hj : fs[j]? = some none) (v : Int32) : (zz_fs X h o fs).set j (.int v) = zz_fs X (zz_uI h o j v) o fs := by
  apply List.ext_getElem?
  intro i
  by_cases hi : i = j
  · subst hi
    rw [List.getElem?_set_self (by unfold zz_fs; rw [List.length_mapIdx]; exact (List.getElem?_eq_some_iff.mp hj).1), zz_fs_get hj]
    simp [zz_fv, zz_uI]
  · rw [List.getElem?_set_ne (fun q => hi q.symm)]
    unfold zz_fs
    rw [List.getElem?_mapIdx, List.getElem?_mapIdx]
    cases fs[i]? with
    | none => rfl
    | some f =>
      cases f with
      | none => simp [zz_fv, zz_uI, hi]
      | some t => rfl
theorem zg_getI {o ci idx j : Nat} {fs : List (Option Nat)} (hd : decode M.2.1 pc = .ok (.getfield idx, 3)) (hf : zz_lf M.1.cls idx ci j) (hK : K o = .inl (ci, fs)) (ho : o < N) (hj : fs[j]? = some none) (k : zz_G K N d M Q (pc + 3) L (.int (h.1 o j) :: st) h) : zz_G K N d M Q pc L (.ref o :: st) h := by
  intro X p l e R s m args below meth c H locs ls C hl hP hD hS
  obtain ⟨C0, T, n, hc, hjn, hin, hlk⟩ := hf
  exact va_get C.1 C.2.1 C.2.2.2.2.2.2.1 (zz_uws hin) C.2.2.2.2.2.1 C.2.2.2.2.2.2.2.1.1 hP o (zz_eO ho hK) hc j hjn (C.2.2.2.2.2.2.1 _ hlk) (fun _ q => q) (v := .int (h.1 o j)) (zz_fs_get hj) hd (k X p l e R s m args below meth c H locs ls C hl hP hD hS)
theorem zg_getR {o ci idx j t : Nat} {fs : List (Option Nat)} (hd : decode M.2.1 pc = .ok (.getfield idx, 3)) (hf : zz_lf M.1.cls idx ci j) (hK : K o = .inl (ci, fs)) (ho : o < N) (hj : fs[j]? = some (some t)) (k : zz_G K N d M Q (pc + 3) L (.ref t :: st) h) : zz_G K N d M Q pc L (.ref o :: st) h := by
  intro X p l e R s m args below meth c H locs ls C hl hP hD hS
  obtain ⟨C0, T, n, hc, hjn, hin, hlk⟩ := hf
  exact va_get C.1 C.2.1 C.2.2.2.2.2.2.1 (zz_uws hin) C.2.2.2.2.2.1 C.2.2.2.2.2.2.2.1.1 hP o (zz_eO ho hK) hc j hjn (C.2.2.2.2.2.2.1 _ hlk) (fun _ q => q) (v := .ref (X.2.2 t)) (zz_fs_get hj) hd (k X p l e R s m args below meth c H locs ls C hl hP hD hS)
theorem zz_putX {o ci idx j : Nat} {fs : List (Option Nat)} {v : Int32} {ty : FieldType} (hd : decode M.2.1 pc = .ok (.putfield idx, 3)) (hf : zz_lp M.1.cls idx ci j ty) (hn : narrow ty (.int v) = .int v) (hfit : fits ty (.int v) = true) (hK : K o = .inl (ci, fs)) (ho : o < N) (hj : fs[j]? = some none) (k : zz_G K N d M Q (pc + 3) L st (zz_uI h o j v)) : zz_G K N d M Q pc L (.int v :: .ref o :: st) h := by
  intro X p l e R s m args below meth c H locs ls C hl hP hD hS
  obtain ⟨C0, T, n, tys, hc, hjn, hin, hlk, hty, hnm, hfin, hd0⟩ := hf
  refine va_put C.1 C.2.1 C.2.2.2.2.2.2.1 (zz_uws hin) tys hty hnm C.2.2.2.2.2.1 C.2.2.2.2.2.2.2.1.1 hP hD hS o (zz_eO ho hK) hc j hjn (C.2.2.2.2.2.2.1 _ hlk) (fun _ q => q) hfin (v := .int v) hd0 hn hfit (by unfold zz_fs; rw [List.length_mapIdx]; exact (List.getElem?_eq_some_iff.mp hj).1) hd fun H1 locs1 a1 a2 a3 => ?_
  have eW : (zz_w X K N h).set o (X.2.2 o, .inr (ci, (zz_fs X h o fs).set j (.int v))) = zz_w X K N (zz_uI h o j v) := by
    refine zz_set ?_ (fun k hk => zz_uI_ne hk)
    rw [zz_fs_set hj]; simp only [zz_e, hK, zz_ex]
  rw [eW] at a1 a2
  exact k X p l e R s m args below meth c H1 locs1 ls C hl a1 a2 a3
theorem zg_putI {o ci idx j : Nat} {fs : List (Option Nat)} {v : Int32} (hd : decode M.2.1 pc = .ok (.putfield idx, 3)) (hf : zz_lp M.1.cls idx ci j .int) (hK : K o = .inl (ci, fs)) (ho : o < N) (hj : fs[j]? = some none) (k : zz_G K N d M Q (pc + 3) L st (zz_uI h o j v)) : zz_G K N d M Q pc L (.int v :: .ref o :: st) h :=
  zz_putX hd hf rfl rfl hK ho hj k
theorem zg_putZ {o ci idx j : Nat} {fs : List (Option Nat)} {v : Int32} (hd : decode M.2.1 pc = .ok (.putfield idx, 3)) (hv : v = 0 ∨ v = 1) (hf : zz_lp M.1.cls idx ci j .boolean) (hK : K o = .inl (ci, fs)) (ho : o < N) (hj : fs[j]? = some none) (k : zz_G K N d M Q (pc + 3) L st (zz_uI h o j v)) : zz_G K N d M Q pc L (.int v :: .ref o :: st) h := by
  rcases hv with rfl | rfl
  · exact zz_putX hd hf (by decide) (by decide) hK ho hj k
  · exact zz_putX hd hf (by decide) (by decide) hK ho hj k
/-- arrays -/
theorem zg_iald {a n : Nat} {i : Int32} (hd : decode M.2.1 pc = .ok (.iaload, 1)) (hK : K a = .inr (0, n)) (ha : a < N) (hi : vp_in i n) (k : zz_G K N d M Q (pc + 1) L (.int (h.1 a i.toNatClampNeg) :: st) h) : zz_G K N d M Q pc L (.int i :: .ref a :: st) h := by
  intro X p l e R s m args below meth c H locs ls C hl hP hD hS
  exact va_iald C.1 C.2.1 C.2.2.2.2.2.2.2.1.1 hP a 0 (zz_eI ha hK (by decide)) rfl hi hd (k X p l e R s m args below meth c H locs ls C hl hP hD hS)
theorem zg_bald {a n : Nat} {i : Int32} (hd : decode M.2.1 pc = .ok (.baload, 1)) (hK : K a = .inr (1, n)) (ha : a < N) (hi : vp_in i n) (k : zz_G K N d M Q (pc + 1) L (.int (h.1 a i.toNatClampNeg) :: st) h) : zz_G K N d M Q pc L (.int i :: .ref a :: st) h := by
  intro X p l e R s m args below meth c H locs ls C hl hP hD hS
  exact va_bald C.1 C.2.1 C.2.2.2.2.2.2.2.1.1 hP a 1 (zz_eI ha hK (by decide)) rfl hi hd (k X p l e R s m args below meth c H locs ls C hl hP hD hS)
theorem zg_zald {a n : Nat} {i : Int32} (hd : decode M.2.1 pc = .ok (.baload, 1)) (hK : K a = .inr (2, n)) (ha : a < N) (hi : vp_in i n) (k : zz_G K N d M Q (pc + 1) L (.int (h.1 a i.toNatClampNeg) :: st) h) : zz_G K N d M Q pc L (.int i :: .ref a :: st) h := by
  intro X p l e R s m args below meth c H locs ls C hl hP hD hS
  exact va_zald C.1 C.2.1 C.2.2.2.2.2.2.2.1.1 hP a 2 (zz_eI ha hK (by decide)) rfl hi hd (k X p l e R s m args below meth c H locs ls C hl hP hD hS)
theorem zg_lald {a n : Nat} {i : Int32} (hd : decode M.2.1 pc = .ok (.laload, 1)) (hK : K a = .inr (3, n)) (ha : a < N) (hi : vp_in i n) (k : zz_G K N d M Q (pc + 1) L (.long (h.2 a i.toNatClampNeg) :: st) h) : zz_G K N d M Q pc L (.int i :: .ref a :: st) h := by
  intro X p l e R s m args below meth c H locs ls C hl hP hD hS
  exact va_lald C.1 C.2.1 C.2.2.2.2.2.2.2.1.1 hP a 3 (zz_eL ha hK) rfl hi hd (k X p l e R s m args below meth c H locs ls C hl hP hD hS)
theorem zz_setI {X : zz_Fx} {K : zz_Kd} {N : Nat} {h : zz_Hp} {a ty n i : Nat} {v : Int32} (hK : K a = .inr (ty, n)) (ht : ty ≠ 3) : (zz_w X K N h).set a (X.2.2 a, .inl (X.2.1 ty, n, .inl (upd (h.1 a) i v))) = zz_w X K N (zz_uI h a i v) := by
  refine zz_set ?_ (fun k hk => zz_uI_ne hk)
  simp only [zz_e, hK, zz_ex, if_neg ht]
  congr 4
  funext j
  by_cases hj : j = i <;> simp [upd, zz_uI, hj]
theorem zg_iast {a n : Nat} {i v : Int32} (hd : decode M.2.1 pc = .ok (.iastore, 1)) (hK : K a = .inr (0, n)) (ha : a < N) (hi : vp_in i n) (k : zz_G K N d M Q (pc + 1) L st (zz_uI h a i.toNatClampNeg v)) : zz_G K N d M Q pc L (.int v :: .int i :: .ref a :: st) h := by
  intro X p l e R s m args below meth c H locs ls C hl hP hD hS
  refine va_iast C.1 C.2.1 C.2.2.2.2.2.2.2.1.1 hP hD hS a 0 (zz_eI ha hK (by decide)) rfl hi hd fun H1 locs1 a1 a2 a3 => ?_
  rw [zz_setI hK (by decide)] at a1 a2
  exact k X p l e R s m args below meth c H1 locs1 ls C hl a1 a2 a3
theorem zg_bast {a n : Nat} {i v : Int32} (hd : decode M.2.1 pc = .ok (.bastore, 1)) (hK : K a = .inr (1, n)) (ha : a < N) (hi : vp_in i n) (k : zz_G K N d M Q (pc + 1) L st (zz_uI h a i.toNatClampNeg v.toInt8.toInt32)) : zz_G K N d M Q pc L (.int v :: .int i :: .ref a :: st) h := by
  intro X p l e R s m args below meth c H locs ls C hl hP hD hS
  refine va_bast C.1 C.2.1 C.2.2.2.2.2.2.2.1.1 hP hD hS a 1 (zz_eI ha hK (by decide)) rfl hi hd fun H1 locs1 a1 a2 a3 => ?_
  rw [vp_nar_byte, zz_setI hK (by decide)] at a1 a2
  exact k X p l e R s m args below meth c H1 locs1 ls C hl a1 a2 a3
theorem zg_zast {a n : Nat} {i v : Int32} (hd : decode M.2.1 pc = .ok (.bastore, 1)) (hv : v = 0 ∨ v = 1) (hK : K a = .inr (2, n)) (ha : a < N) (hi : vp_in i n) (k : zz_G K N d M Q (pc + 1) L st (zz_uI h a i.toNatClampNeg v)) : zz_G K N d M Q pc L (.int v :: .int i :: .ref a :: st) h := by
  intro X p l e R s m args below meth c H locs ls C hl hP hD hS
  have eW : vp_nar .boolean v = v := by rcases hv with rfl | rfl <;> decide
  refine va_zast C.1 C.2.1 C.2.2.2.2.2.2.2.1.1 hP hD hS a 2 (zz_eI ha hK (by decide)) rfl hi hd fun H1 locs1 a1 a2 a3 => ?_
  rw [eW, zz_setI hK (by decide)] at a1 a2
  exact k X p l e R s m args below meth c H1 locs1 ls C hl a1 a2 a3
theorem zg_last {a n : Nat} {i : Int32} {v : Int64} (hd : decode M.2.1 pc = .ok (.lastore, 1)) (hK : K a = .inr (3, n)) (ha : a < N) (hi : vp_in i n) (k : zz_G K N d M Q (pc + 1) L st (zz_uL h a i.toNatClampNeg v)) : zz_G K N d M Q pc L (.long v :: .int i :: .ref a :: st) h := by
  intro X p l e R s m args below meth c H locs ls C hl hP hD hS
  refine va_last C.1 C.2.1 C.2.2.2.2.2.2.2.1.1 hP hD hS a 3 (zz_eL ha hK) rfl hi hd fun H1 locs1 a1 a2 a3 => ?_
  have eW : (zz_w X K N h).set a (X.2.2 a, .inl (X.2.1 3, n, .inr (.inl (vp_updL (h.2 a) i.toNatClampNeg v)))) = zz_w X K N (zz_uL h a i.toNatClampNeg v) := by
    refine zz_set ?_ (fun k hk => zz_uL_ne hk)
    simp only [zz_e, hK, zz_ex, if_true]
    congr 5
    funext j
    by_cases hj : j = i.toNatClampNeg <;> simp [vp_updL, zz_uL, hj]
  rw [eW] at a1 a2
  exact k X p l e R s m args below meth c H1 locs1 ls C hl a1 a2 a3
theorem zg_alen {a ty n : Nat} {v : Int32} (hd : decode M.2.1 pc = .ok (.arraylength, 1)) (hty : ty = 0 ∨ ty = 1) (hv : Int32.ofNat n = v) (hK : K a = .inr (ty, n)) (ha : a < N) (k : zz_G K N d M Q (pc + 1) L (.int v :: st) h) : zz_G K N d M Q pc L (.ref a :: st) h := by
  intro X p l e R s m args below meth c H locs ls C hl hP hD hS
  rcases hty with rfl | rfl
  · exact va_alen C.1 C.2.1 C.2.2.2.2.2.2.2.1.1 hP a 0 (zz_eI ha hK (by decide)) (ty := .int) rfl hv hd (k X p l e R s m args below meth c H locs ls C hl hP hD hS)
  · exact va_alen C.1 C.2.1 C.2.2.2.2.2.2.2.1.1 hP a 1 (zz_eI ha hK (by decide)) (ty := .byte) rfl hv hd (k X p l e R s m args below meth c H locs ls C hl hP hD hS)
/-- the two static tables: cells 1000 and 1001 -/
theorem zg_getLT {idx : Nat} (hd : decode M.2.1 pc = .ok (.getstatic idx, 3)) (hw : Cond.fieldLink M.1.cls idx "YarnPlier" "LEAST_TOLD" "[I" ∈ yw) (k : zz_G K N d M Q (pc + 3) L (.ref 1000 :: st) h) : zz_G K N d M Q pc L st h := by
  intro X p l e R s m args below meth c H locs ls C hl hP hD hS
  exact va_gets C.1 C.2.1 C.2.2.2.2.2.2.2.1.2.2.1.1 hS C.2.2.2.2.2.1 (C.2.2.2.2.2.2.1 _ hw) (fun _ q => q) hd (k X p l e R s m args below meth c H locs ls C hl hP hD hS)
theorem zg_getMT {idx : Nat} (hd : decode M.2.1 pc = .ok (.getstatic idx, 3)) (hw : Cond.fieldLink M.1.cls idx "YarnPlier" "MOST_TOLD" "[I" ∈ yw) (k : zz_G K N d M Q (pc + 3) L (.ref 1001 :: st) h) : zz_G K N d M Q pc L st h := by
  intro X p l e R s m args below meth c H locs ls C hl hP hD hS
  exact va_gets C.1 C.2.1 C.2.2.2.2.2.2.2.1.2.2.2.1 hS C.2.2.2.2.2.1 (C.2.2.2.2.2.2.1 _ hw) (fun _ q => q) hd (k X p l e R s m args below meth c H locs ls C hl hP hD hS)
theorem zg_aldLT {i : Int32} (hd : decode M.2.1 pc = .ok (.iaload, 1)) (hi : vp_in i 4) (k : zz_G K N d M Q (pc + 1) L (.int (zz_lt i.toNatClampNeg) :: st) h) : zz_G K N d M Q pc L (.int i :: .ref 1000 :: st) h := by
  intro X p l e R s m args below meth c H locs ls C hl hP hD hS
  exact va_ti C.1 C.2.1 C.2.2.2.2.2.2.2.1.2.2.1.2 hS hi rfl hd (k X p l e R s m args below meth c H locs ls C hl hP hD hS)
theorem zg_aldMT {i : Int32} (hd : decode M.2.1 pc = .ok (.iaload, 1)) (hi : vp_in i 4) (k : zz_G K N d M Q (pc + 1) L (.int (zz_mt i.toNatClampNeg) :: st) h) : zz_G K N d M Q pc L (.int i :: .ref 1001 :: st) h := by
  intro X p l e R s m args below meth c H locs ls C hl hP hD hS
  exact va_ti C.1 C.2.1 C.2.2.2.2.2.2.2.1.2.2.2.2 hS hi rfl hd (k X p l e R s m args below meth c H locs ls C hl hP hD hS)
/-- returns -/
theorem zz_fin {X : zz_Fx} {v : Option Value} {s : State} {args : Array Value} {H : Heap} {locs : List Loc} (hq : Q v h) (hP : va_P X.1 vwCl (zz_w X K N h) H) (hD : va_D (zz_A X N) (zz_w X K N h)) (hS : va_S (zz_A X N) s.heap H locs) : ∀ t : State, t.heap = H → s.WarmedH t.vm → zz_Q X K N Q args s (.returned (v.map (zz_v X))) t :=
  fun t ht _ => ⟨v, h, hq, rfl, by rw [ht]; exact hP, hD, hS.F ht⟩
theorem zg_iret {v : Int32} (hd : decode M.2.1 pc = .ok (.ireturn, 1)) (hr : M.2.2.2 = some .int) (hq : Q (some (.int v)) h) : zz_G K N d M Q pc L [.int v] h := by
  intro X p l e R s m args below meth c H locs ls C hl hP hD hS
  exact W.iret (v := v) C.1 C.2.1 (C.2.2.2.1.trans hr) (zz_fin hq hP hD hS) hS.2.2 hd C.2.2.2.2.1
theorem zg_zret {v : Int32} (hd : decode M.2.1 pc = .ok (.ireturn, 1)) (hv : v = 0 ∨ v = 1) (hr : M.2.2.2 = some .boolean) (hq : Q (some (.int v)) h) : zz_G K N d M Q pc L [.int v] h := by
  intro X p l e R s m args below meth c H locs ls C hl hP hD hS
  exact W.zret (v := v) C.1 C.2.1 (C.2.2.2.1.trans hr) (by rcases hv with rfl | rfl <;> decide) (zz_fin hq hP hD hS) hS.2.2 hd C.2.2.2.2.1
theorem zg_lret {v : Int64} (hd : decode M.2.1 pc = .ok (.lreturn, 1)) (hr : M.2.2.2 = some .long) (hq : Q (some (.long v)) h) : zz_G K N d M Q pc L [.long v] h := by
  intro X p l e R s m args below meth c H locs ls C hl hP hD hS
  exact W.lret (v := v) C.1 C.2.1 (C.2.2.2.1.trans hr) (zz_fin hq hP hD hS) hS.2.2 hd C.2.2.2.2.1
theorem zg_vret (hd : decode M.2.1 pc = .ok (.return_, 1)) (hr : M.2.2.2 = none) (hq : Q none h) : zz_G K N d M Q pc L [] h := by
  intro X p l e R s m args below meth c H locs ls C hl hP hD hS
  exact W.vret C.1 C.2.1 (C.2.2.2.1.trans hr) (zz_fin hq hP hD hS) hS.2.2 hd C.2.2.2.2.1
/-- a method's contract out of the judgement at its entry -/
def zz_al : List Value → zz_L
  | [] => []
  | .long v :: vs => some (.long v) :: none :: zz_al vs
  | .double v :: vs => some (.double v) :: none :: zz_al vs
  | v :: vs => some v :: zz_al vs
def zz_L0 (n : Nat) (As : List Value) : zz_L := zz_al As ++ List.replicate (n - (zz_al As).length) none
def zz_ws (M : zz_Mi) : List Cond := Cond.code M.1 M.2.1 M.2.2.1 M.2.2.2 :: yw
def zz_pre (X : zz_Fx) (K : zz_Kd) (N : Nat) (h : zz_Hp) (U : State) : Prop := va_P X.1 vwCl (zz_w X K N h) U.heap ∧ va_D (zz_A X N) (zz_w X K N h) ∧ zz_S X N U
theorem zz_al_args (X : zz_Fx) : ∀ (As : List Value) (n i : Nat) (v : Value), (zz_al As)[i]? = some (some v) → (n + i, zz_v X v) ∈ lv_args n (As.map (zz_v X)) := by
  intro As
  induction As with
  | nil => intro n i v hv; simp [zz_al] at hv
  | cons a as ih =>
    intro n i v hv
    cases a with
    | long x =>
      simp only [zz_al] at hv
      match i, hv with
      | 0, hv => cases hv; exact List.mem_cons_self
      | 1, hv => simp at hv
      | i + 2, hv =>
        have := ih (n + 2) i v (by simpa using hv)
        rw [show n + (i + 2) = n + 2 + i by omega]
        exact List.mem_cons_of_mem _ this
    | double x =>
      simp only [zz_al] at hv
      match i, hv with
      | 0, hv => cases hv; exact List.mem_cons_self
      | 1, hv => simp at hv
      | i + 2, hv =>
        have := ih (n + 2) i v (by simpa using hv)
        rw [show n + (i + 2) = n + 2 + i by omega]
        exact List.mem_cons_of_mem _ this
    | _ =>
      simp only [zz_al] at hv
      match i, hv with
      | 0, hv => cases hv; exact List.mem_cons_self
      | i + 1, hv =>
        have := ih (n + 1) i v (by simpa using hv)
        rw [show n + (i + 1) = n + 1 + i by omega]
        exact List.mem_cons_of_mem _ this
theorem zz_al_len (X : zz_Fx) : ∀ As : List Value, (lg_sl (As.map (zz_v X))).length = (zz_al As).length := by
  intro As
  induction As with
  | nil => rfl
  | cons a as ih =>
    have e : ∀ (v : Value) (vs : List Value), (lg_sl (v :: vs)).length = (if v.category = 2 then 2 else 1) + (lg_sl vs).length := by
      intro v vs
      simp only [lg_sl, List.flatMap_cons, List.length_append]
      split <;> rfl
    rw [List.map_cons, e, ih]
    cases a <;> simp [zz_al, zz_v, Value.category] <;> omega
theorem zz_met {As : List Value} {Q : Option Value → zz_Hp → Prop} (hy : plainName M.1.cls = true) (hlen : (zz_al As).length ≤ M.2.2.1) (hG : zz_G K N d M Q 0 (zz_L0 M.2.2.1 As) [] h) (l : Launch) (X : zz_Fx) : Met l M.1 (zz_ws M) (zz_rm d) (va_Pc (As.map (zz_v X)) (zz_pre X K N h)) (zz_Q X K N Q) 0 0 (zz_A X N) := by
  refine Met.ofW (cc := M.2.1) (maxL := M.2.2.1) (ret := M.2.2.2) hy rfl ?_
  intro p e s m args below meth c s₁ B hml hv
  obtain ⟨rfl, hP, hD, hSs⟩ := hv
  have hts := atoms_spec (ws := zz_ws M) B.pre
  have hl := lv_entry (As.map (zz_v X)) (n := M.2.2.1) (by rw [zz_al_len]; exact hlen)
  rw [lg_entry_eq]
  refine hG X p l e _ s m _ below meth c s.heap [] _ ⟨B.exec, B.bytes, hml, B.returns, B.notSynchronized, findClass_of_methodNamed B.named, fun w hw => hts w (List.mem_cons_of_mem _ hw), hSs, rfl⟩ ⟨?_, _, hl, ?_⟩ hP hD va_S.rf
  · simp [zz_L0]; omega
  · intro i v hv
    have h1 : (zz_al As)[i]? = some (some v) := by
      unfold zz_L0 at hv
      by_cases hi : i < (zz_al As).length
      · rwa [List.getElem?_append_left hi] at hv
      · rw [List.getElem?_append_right (by omega)] at hv
        have := List.eq_of_mem_replicate (List.mem_of_getElem? hv)
        cases this
    have := zz_al_args X As 0 i v h1
    rwa [Nat.zero_add] at this
/-- what is known of a method; of a call's link -/
def zz_ok (M : zz_Mi) (n : Nat) : Prop := Cond.code M.1 M.2.1 M.2.2.1 M.2.2.2 ∈ yw ∧ Cond.initialized M.1.cls ∈ yw ∧ (M.1.cls ≠ "java/lang/invoke/MethodHandle" ∧ M.1.cls ≠ "java/lang/invoke/VarHandle" ∧ (parseMethodDescriptor M.1.desc).map (fun d => d.parameters.length) = some n) ∧ plainName M.1.cls = true ∧ M.2.2.1 ≤ 40
def zz_lv (own : String) (idx ci n : Nat) (M : zz_Mi) : Prop := zz_ok M n ∧ Cond.methodLink own idx M.1 ∈ yw ∧ Cond.instanceMethod M.1 ∈ yw ∧ Cond.selects M.1.cls M.1 M.1 ∈ yw ∧ ∃ (T : u_T) (k : Nat), vwCl[ci]? = some (M.1.cls, T, k)
def zz_lst (own : String) (idx n : Nat) (M : zz_Mi) : Prop := zz_ok M n ∧ Cond.methodLink own idx M.1 ∈ yw ∧ Cond.static M.1 ∈ yw
def zz_lsn (own : String) (idx n : Nat) (M : zz_Mi) : Prop := zz_ok M n ∧ Cond.static M.1 ∈ yw ∧ ∃ host, (own, idx, M.1, host) ∈ zz_nw
theorem zz_blind {X : zz_Fx} {av : List Value} : FrameBlind (va_Pc av (zz_pre X K N h)) := fun a U g mk q => by
  obtain ⟨q0, q1, q2, q3⟩ := q
  exact ⟨q0, q1, q2, zz_S_same q3 rfl rfl⟩
theorem zz_wsgood {M' : zz_Mi} (hc : Cond.code M'.1 M'.2.1 M'.2.2.1 M'.2.2.2 ∈ yw) : GoodIn yw (zz_ws M') := fun w hw => by
  rcases List.mem_cons.mp hw with rfl | hw
  · exact yw_good _ hc
  · exact yw_good _ hw
theorem zz_room {d n : Nat} (h : n ≤ 40) : (zz_rm d).frames + 1 ≤ (zz_rm (d + 1)).frames ∧ 8 + (n + 11) + (zz_rm d).locals ≤ (zz_rm (d + 1)).locals := by
  simp only [zz_rm]; omega
/-- behind a call -/
theorem zz_behind {Q' : Option Value → zz_Hp → Prop} {X : zz_Fx} {p : Program} {l : Launch} {e : Env} {R : Room} {s : State} {m : MethodId} {args : Array Value} {below : List Frame} {meth : Method} {c : Code} {H : Heap} {locs : List Loc} {ls : Array Slot} {stk rest : List Value} {a : Array Value}
    (C : zz_C X N d M p R s m args meth c) (hl : zz_ls X ls M.2.2.1 L) (hS : va_S (zz_A X N) s.heap H locs)
    (hr : va_Run p l e R s m args below meth c H locs 0 0 0 0 (F0 m pc ls stk) (rest.map (zz_v X)) (zz_Q X K N Q' a) (zz_A X N))
    (k : ∀ v h', Q' v h' → zz_G K N d M Q (pc + 3) L (v.toList ++ rest) h') : W p l e R s m args below meth c H locs 0 0 (MQ below (zz_Q X K N Q) args s 0 0 (zz_A X N)) (F0 m pc ls stk) := by
  intro T hT Y
  obtain ⟨v, st₀, t, T', Lx, e0, Y', hL, e1, e2, ⟨v', h', hq, ho, hP', hD', hF⟩, hgo⟩ := hr T hT Y
  have hv : v = v'.map (zz_v X) := by injection ho
  subst hv
  have hS' : va_S (zz_A X N) s.heap T'.heap (locs ++ Lx) := by
    refine ⟨?_, fun q hq hn => ?_, fun q hq => ?_⟩
    · rw [e1]; exact Nat.le_trans hS.1 (by rw [← e0]; exact hF.1)
    · rw [e1, hF.2 q (by rw [e0]; exact Nat.lt_of_lt_of_le hq hS.1) hn, e0]; exact hS.2.1 q hq hn
    · rcases List.mem_append.mp hq with q1 | q1
      · exact hS.2.2 q q1
      · exact hL q q1
  have hk := k v' h' hq X p l e R s m args below meth c T'.heap (locs ++ Lx) ls C hl (by rw [e1]; exact hP') hD' hS'
  have es : List.map (zz_v X) (v'.toList ++ rest) = (v'.map (zz_v X)).toList ++ rest.map (zz_v X) := by cases v' <;> simp
  rw [es] at hk
  obtain ⟨t2, s2, f2⟩ := hk T' rfl Y'
  exact ⟨t2, hgo t2 s2, f2⟩
theorem zg_callV {Q' : Option Value → zz_Hp → Prop} {M' : zz_Mi} {idx ci o : Nat} {fs : List (Option Nat)} {As : List Value} (hd : decode M.2.1 pc = .ok (.invokevirtual idx, 3)) (hk : zz_lv M.1.cls idx ci As.length M') (hK : K o = .inl (ci, fs)) (ho : o < N) (hw : (st.map fun v => v.category).sum ≤ 8) (hlen : (zz_al (.ref o :: As)).length ≤ M'.2.2.1)
    (hc : zz_G K N d M' Q' 0 (zz_L0 M'.2.2.1 (.ref o :: As)) [] h) (k : ∀ v h', Q' v h' → zz_G K N (d + 1) M Q (pc + 3) L (v.toList ++ st) h') : zz_G K N (d + 1) M Q pc L (As.reverse ++ .ref o :: st) h := by
  intro X p l e R s m args below meth c H locs ls C hl hP hD hS
  obtain ⟨⟨k1, k2, k3, k4, k5⟩, k6, k7, k8, T, n, k9⟩ := hk
  have hts := C.2.2.2.2.2.2.1
  have hR : R = zz_rm (d + 1) := C.2.2.2.2.2.2.2.2
  refine zz_behind C hl hS (rest := st) (va_runV (As := As.map (zz_v X)) (n := As.length) ⟨C.1, C.2.1, C.2.2.1, C.2.2.2.2.2.1, hts⟩ (zz_met k4 hlen hc l X) ⟨callB_of As.length hts (zz_wsgood k1) rfl rfl rfl (hts _ k2) (hts _ k6) k3 (by rw [hR]; exact zz_room k5), hts _ k7, hts _ k8⟩ ⟨zz_blind, va_recv C.2.2.2.2.2.2.2.1.1 hP k9 (zz_eO ho hK), fun U hU hW => ⟨rfl, by rw [hU]; exact hP, hD, zz_S_warm C.2.2.2.2.2.2.2.1 hU hW hS⟩⟩ rfl (by simp) (hl.2.choose_spec.1.1) (by simp [zz_v]) (lv_room (by simpa [Function.comp_def, zz_v_cat] using hw)) hd ⟨Nat.zero_le _, Nat.zero_le _⟩) k
theorem zg_callS {Q' : Option Value → zz_Hp → Prop} {M' : zz_Mi} {idx : Nat} {As : List Value} (hd : decode M.2.1 pc = .ok (.invokestatic idx, 3)) (hk : zz_lst M.1.cls idx As.length M') (hw : (st.map fun v => v.category).sum ≤ 8) (hlen : (zz_al As).length ≤ M'.2.2.1)
    (hc : zz_G K N d M' Q' 0 (zz_L0 M'.2.2.1 As) [] h) (k : ∀ v h', Q' v h' → zz_G K N (d + 1) M Q (pc + 3) L (v.toList ++ st) h') : zz_G K N (d + 1) M Q pc L (As.reverse ++ st) h := by
  intro X p l e R s m args below meth c H locs ls C hl hP hD hS
  obtain ⟨⟨k1, k2, k3, k4, k5⟩, k6, k7⟩ := hk
  have hts := C.2.2.2.2.2.2.1
  have hR : R = zz_rm (d + 1) := C.2.2.2.2.2.2.2.2
  refine zz_behind C hl hS (rest := st) (va_runS (As := As.map (zz_v X)) (n := As.length) ⟨C.1, C.2.1, C.2.2.1, C.2.2.2.2.2.1, hts⟩ (zz_met k4 hlen hc l X) ⟨callB_of As.length hts (zz_wsgood k1) rfl rfl rfl (hts _ k2) (hts _ k6) k3 (by rw [hR]; exact zz_room k5), hts _ k7⟩ ⟨zz_blind, fun U hU hW => ⟨rfl, by rw [hU]; exact hP, hD, zz_S_warm C.2.2.2.2.2.2.2.1 hU hW hS⟩⟩ rfl (by simp) (hl.2.choose_spec.1.1) (by simp) (lv_room (by simpa [Function.comp_def, zz_v_cat] using hw)) hd ⟨Nat.zero_le _, Nat.zero_le _⟩) k
theorem zg_callN {Q' : Option Value → zz_Hp → Prop} {M' : zz_Mi} {idx : Nat} {As : List Value} (hd : decode M.2.1 pc = .ok (.invokestatic idx, 3)) (hk : zz_lsn M.1.cls idx As.length M') (hw : (st.map fun v => v.category).sum ≤ 8) (hlen : (zz_al As).length ≤ M'.2.2.1)
    (hc : zz_G K N d M' Q' 0 (zz_L0 M'.2.2.1 As) [] h) (k : ∀ v h', Q' v h' → zz_G K N (d + 1) M Q (pc + 3) L (v.toList ++ st) h') : zz_G K N (d + 1) M Q pc L (As.reverse ++ st) h := by
  intro X p l e R s m args below meth c H locs ls C hl hP hD hS
  obtain ⟨⟨k1, k2, k3, k4, k5⟩, k7, host, k6⟩ := hk
  have hts := C.2.2.2.2.2.2.1
  have hR : R = zz_rm (d + 1) := C.2.2.2.2.2.2.2.2
  refine zz_behind C hl hS (rest := st) (va_runSN (As := As.map (zz_v X)) (n := As.length) ⟨C.1, C.2.1, C.2.2.1, C.2.2.2.2.2.1, hts⟩ (zz_met k4 hlen hc l X) ⟨va_cnB As.length hts (zz_wsgood k1) rfl rfl rfl (C.2.2.2.2.2.2.2.1.2.1 _ k6) (hts _ k2) k3 (by rw [hR]; exact zz_room k5), hts _ k7, trivial⟩ ⟨zz_blind, fun U hU hW => ⟨rfl, by rw [hU]; exact hP, hD, zz_S_warm C.2.2.2.2.2.2.2.1 hU hW hS⟩⟩ rfl (by simp) (hl.2.choose_spec.1.1) (by simp) (lv_room (by simpa [Function.comp_def, zz_v_cat] using hw)) hd ⟨Nat.zero_le _, Nat.zero_le _⟩) k
/-- Math, arraycopy -/
theorem zg_mabs {idx : Nat} {x : Int32} (hd : decode M.2.1 pc = .ok (.invokestatic idx, 3)) (hk : Cond.methodLink M.1.cls idx Lib.Math.abs.name ∈ yw ∧ Cond.static Lib.Math.abs.name ∈ yw ∧ Cond.initialized "java/lang/Math" ∈ yw ∧ Cond.code Lib.Math.abs.name Lib.Math.abs.code 1 (some .int) ∈ yw) (hw : (st.map fun v => v.category).sum ≤ 8) (k : zz_G K N (d + 1) M Q (pc + 3) L (.int (if 0 ≤ x then x else 0 - x) :: st) h) : zz_G K N (d + 1) M Q pc L (.int x :: st) h := by
  intro X p l e R s m args below meth c H locs ls C hl hP hD hS
  have hts := C.2.2.2.2.2.2.1
  have hR : R = zz_rm (d + 1) := C.2.2.2.2.2.2.2.2
  subst hR
  exact va_mabs C.1 C.2.1 (C.2.2.1.trans hl.2.choose_spec.1.1.symm) C.2.2.2.2.2.1 (hts _ hk.1) (hts _ hk.2.1) (hts _ hk.2.2.1) (hts _ hk.2.2.2) (by simp only [zz_rm]; omega) (by have : ((st.map (zz_v X)).map fun v => v.category).sum ≤ 8 := by simpa [Function.comp_def, zz_v_cat] using hw
                                                                                                                                                                                  simp only [zz_rm]; omega) (Nat.zero_le _) (Nat.zero_le _) hd (k X p l e _ s m args below meth c H locs ls C hl hP hD hS)
theorem zg_mmax {idx : Nat} {x y : Int32} (hd : decode M.2.1 pc = .ok (.invokestatic idx, 3)) (hk : Cond.methodLink M.1.cls idx Lib.Math.max.name ∈ yw ∧ Cond.static Lib.Math.max.name ∈ yw ∧ Cond.initialized "java/lang/Math" ∈ yw ∧ Cond.code Lib.Math.max.name Lib.Math.max.code 2 (some .int) ∈ yw) (hw : (st.map fun v => v.category).sum ≤ 8) (k : zz_G K N (d + 1) M Q (pc + 3) L (.int (if x < y then y else x) :: st) h) : zz_G K N (d + 1) M Q pc L (.int y :: .int x :: st) h := by
  intro X p l e R s m args below meth c H locs ls C hl hP hD hS
  have hts := C.2.2.2.2.2.2.1
  have hR : R = zz_rm (d + 1) := C.2.2.2.2.2.2.2.2
  subst hR
  exact va_mmax C.1 C.2.1 (C.2.2.1.trans hl.2.choose_spec.1.1.symm) C.2.2.2.2.2.1 (hts _ hk.1) (hts _ hk.2.1) (hts _ hk.2.2.1) (hts _ hk.2.2.2) (by simp only [zz_rm]; omega) (by have : ((st.map (zz_v X)).map fun v => v.category).sum ≤ 8 := by simpa [Function.comp_def, zz_v_cat] using hw
                                                                                                                                                                                  simp only [zz_rm]; omega) (Nat.zero_le _) (Nat.zero_le _) hd (k X p l e _ s m args below meth c H locs ls C hl hP hD hS)
theorem zg_mmin {idx : Nat} {x y : Int32} (hd : decode M.2.1 pc = .ok (.invokestatic idx, 3)) (hk : Cond.methodLink M.1.cls idx Lib.Math.min.name ∈ yw ∧ Cond.static Lib.Math.min.name ∈ yw ∧ Cond.initialized "java/lang/Math" ∈ yw ∧ Cond.code Lib.Math.min.name Lib.Math.min.code 2 (some .int) ∈ yw) (hw : (st.map fun v => v.category).sum ≤ 8) (k : zz_G K N (d + 1) M Q (pc + 3) L (.int (if y < x then y else x) :: st) h) : zz_G K N (d + 1) M Q pc L (.int y :: .int x :: st) h := by
  intro X p l e R s m args below meth c H locs ls C hl hP hD hS
  have hts := C.2.2.2.2.2.2.1
  have hR : R = zz_rm (d + 1) := C.2.2.2.2.2.2.2.2
  subst hR
  exact va_mmin C.1 C.2.1 (C.2.2.1.trans hl.2.choose_spec.1.1.symm) C.2.2.2.2.2.1 (hts _ hk.1) (hts _ hk.2.1) (hts _ hk.2.2.1) (hts _ hk.2.2.2) (by simp only [zz_rm]; omega) (by have : ((st.map (zz_v X)).map fun v => v.category).sum ≤ 8 := by simpa [Function.comp_def, zz_v_cat] using hw
                                                                                                                                                                                  simp only [zz_rm]; omega) (Nat.zero_le _) (Nat.zero_le _) hd (k X p l e _ s m args below meth c H locs ls C hl hP hD hS)
theorem zg_copy {idx a b n0 n1 : Nat} {sp dp n : Int32} (hd : decode M.2.1 pc = .ok (.invokestatic idx, 3)) (hk : Cond.methodLink M.1.cls idx arraycopyName ∈ yw ∧ Cond.native arraycopyName ∈ yw ∧ Cond.static arraycopyName ∈ yw ∧ Cond.initialized "java/lang/System" ∈ yw) (hKa : K a = .inr (0, n0)) (hKb : K b = .inr (0, n1)) (ha : a < N) (hb : b < N) (h1 : ¬ sp < 0) (h2 : ¬ dp < 0) (h3 : ¬ n < 0) (h4 : sp.toNatClampNeg + n.toNatClampNeg ≤ n0) (h5 : dp.toNatClampNeg + n.toNatClampNeg ≤ n1) (hw : (st.map fun v => v.category).sum ≤ 8)
    (k : zz_G K N (d + 1) M Q (pc + 3) L st (zz_uC h a b sp.toNatClampNeg dp.toNatClampNeg n.toNatClampNeg)) : zz_G K N (d + 1) M Q pc L (.int n :: .int dp :: .ref b :: .int sp :: .ref a :: st) h := by
  intro X p l e R s m args below meth c H locs ls C hl hP hD hS
  have hts := C.2.2.2.2.2.2.1
  have hR : R = zz_rm (d + 1) := C.2.2.2.2.2.2.2.2
  subst hR
  have hw' : ((st.map (zz_v X)).map fun v => v.category).sum ≤ 8 := by simpa [Function.comp_def, zz_v_cat] using hw
  refine va_copyi C.1 C.2.1 (C.2.2.1.trans hl.2.choose_spec.1.1.symm) C.2.2.2.2.2.1 (hts _ hk.1) (hts _ hk.2.1) (hts _ hk.2.2.1) (hts _ hk.2.2.2) C.2.2.2.2.2.2.2.1.1 hP hD hS a b 0 0 (ty := .int) (zz_eI ha hKa (by decide)) (zz_eI hb hKb (by decide)) rfl rfl rfl h1 h2 h3 h4 h5 (fun _ _ => rfl) (by simp only [zz_rm]; omega) (by
    have e5 : nativeFrameWords "java/lang/System" "arraycopy" 5 = 7 := by decide
    rw [e5]
    show _ ≤ 64 * (d + 1)
    omega) hd fun H1 locs1 a1 a2 a3 => ?_
  have eW : (zz_w X K N h).set b (X.2.2 b, .inl (X.2.1 0, n1, .inl (va_cpy (h.1 a) (h.1 b) sp.toNatClampNeg dp.toNatClampNeg n.toNatClampNeg))) = zz_w X K N (zz_uC h a b sp.toNatClampNeg dp.toNatClampNeg n.toNatClampNeg) := by
    refine zz_set ?_ (fun k hk => zz_uC_ne hk)
    simp [zz_e, hKb, zz_ex, zz_uC]
  rw [eW] at a1 a2
  exact k X p l e _ s m args below meth c H1 locs1 ls C hl a1 a2 a3
/-- calls by the kind of answer -/
theorem zg_callVi {Q' : Int32 → zz_Hp → Prop} {M' : zz_Mi} {idx ci o : Nat} {fs : List (Option Nat)} {As stk : List Value} (hd : decode M.2.1 pc = .ok (.invokevirtual idx, 3)) (hk : zz_lv M.1.cls idx ci As.length M') (hK : K o = .inl (ci, fs)) (ho : o < N) (hstk : stk = As.reverse ++ .ref o :: st) (hw : (st.map fun v => v.category).sum ≤ 8) (hlen : (zz_al (.ref o :: As)).length ≤ M'.2.2.1) (hc : zz_G K N d M' (qI Q') 0 (zz_L0 M'.2.2.1 (.ref o :: As)) [] h) (k : ∀ r h', Q' r h' → zz_G K N (d + 1) M Q (pc + 3) L (.int r :: st) h') : zz_G K N (d + 1) M Q pc L stk h := by
  subst hstk
  exact zg_callV hd hk hK ho hw hlen hc fun v h' hq => by obtain ⟨r, rfl, hq⟩ := hq; exact k r h' hq
theorem zg_callVl {Q' : Int64 → zz_Hp → Prop} {M' : zz_Mi} {idx ci o : Nat} {fs : List (Option Nat)} {As stk : List Value} (hd : decode M.2.1 pc = .ok (.invokevirtual idx, 3)) (hk : zz_lv M.1.cls idx ci As.length M') (hK : K o = .inl (ci, fs)) (ho : o < N) (hstk : stk = As.reverse ++ .ref o :: st) (hw : (st.map fun v => v.category).sum ≤ 8) (hlen : (zz_al (.ref o :: As)).length ≤ M'.2.2.1) (hc : zz_G K N d M' (qL Q') 0 (zz_L0 M'.2.2.1 (.ref o :: As)) [] h) (k : ∀ r h', Q' r h' → zz_G K N (d + 1) M Q (pc + 3) L (.long r :: st) h') : zz_G K N (d + 1) M Q pc L stk h := by
  subst hstk
  exact zg_callV hd hk hK ho hw hlen hc fun v h' hq => by obtain ⟨r, rfl, hq⟩ := hq; exact k r h' hq
theorem zg_callVv {Q' : zz_Hp → Prop} {M' : zz_Mi} {idx ci o : Nat} {fs : List (Option Nat)} {As stk : List Value} (hd : decode M.2.1 pc = .ok (.invokevirtual idx, 3)) (hk : zz_lv M.1.cls idx ci As.length M') (hK : K o = .inl (ci, fs)) (ho : o < N) (hstk : stk = As.reverse ++ .ref o :: st) (hw : (st.map fun v => v.category).sum ≤ 8) (hlen : (zz_al (.ref o :: As)).length ≤ M'.2.2.1) (hc : zz_G K N d M' (qV Q') 0 (zz_L0 M'.2.2.1 (.ref o :: As)) [] h) (k : ∀ h', Q' h' → zz_G K N (d + 1) M Q (pc + 3) L st h') : zz_G K N (d + 1) M Q pc L stk h := by
  subst hstk
  exact zg_callV hd hk hK ho hw hlen hc fun v h' hq => by obtain ⟨rfl, hq⟩ := hq; exact k h' hq
theorem zg_callSi {Q' : Int32 → zz_Hp → Prop} {M' : zz_Mi} {idx : Nat} {As stk : List Value} (hd : decode M.2.1 pc = .ok (.invokestatic idx, 3)) (hk : zz_lst M.1.cls idx As.length M') (hstk : stk = As.reverse ++ st) (hw : (st.map fun v => v.category).sum ≤ 8) (hlen : (zz_al As).length ≤ M'.2.2.1) (hc : zz_G K N d M' (qI Q') 0 (zz_L0 M'.2.2.1 As) [] h) (k : ∀ r h', Q' r h' → zz_G K N (d + 1) M Q (pc + 3) L (.int r :: st) h') : zz_G K N (d + 1) M Q pc L stk h := by
  subst hstk
  exact zg_callS hd hk hw hlen hc fun v h' hq => by obtain ⟨r, rfl, hq⟩ := hq; exact k r h' hq
theorem zg_callSl {Q' : Int64 → zz_Hp → Prop} {M' : zz_Mi} {idx : Nat} {As stk : List Value} (hd : decode M.2.1 pc = .ok (.invokestatic idx, 3)) (hk : zz_lst M.1.cls idx As.length M') (hstk : stk = As.reverse ++ st) (hw : (st.map fun v => v.category).sum ≤ 8) (hlen : (zz_al As).length ≤ M'.2.2.1) (hc : zz_G K N d M' (qL Q') 0 (zz_L0 M'.2.2.1 As) [] h) (k : ∀ r h', Q' r h' → zz_G K N (d + 1) M Q (pc + 3) L (.long r :: st) h') : zz_G K N (d + 1) M Q pc L stk h := by
  subst hstk
  exact zg_callS hd hk hw hlen hc fun v h' hq => by obtain ⟨r, rfl, hq⟩ := hq; exact k r h' hq
theorem zg_callSv {Q' : zz_Hp → Prop} {M' : zz_Mi} {idx : Nat} {As stk : List Value} (hd : decode M.2.1 pc = .ok (.invokestatic idx, 3)) (hk : zz_lst M.1.cls idx As.length M') (hstk : stk = As.reverse ++ st) (hw : (st.map fun v => v.category).sum ≤ 8) (hlen : (zz_al As).length ≤ M'.2.2.1) (hc : zz_G K N d M' (qV Q') 0 (zz_L0 M'.2.2.1 As) [] h) (k : ∀ h', Q' h' → zz_G K N (d + 1) M Q (pc + 3) L st h') : zz_G K N (d + 1) M Q pc L stk h := by
  subst hstk
  exact zg_callS hd hk hw hlen hc fun v h' hq => by obtain ⟨rfl, hq⟩ := hq; exact k h' hq
theorem zg_callNi {Q' : Int32 → zz_Hp → Prop} {M' : zz_Mi} {idx : Nat} {As stk : List Value} (hd : decode M.2.1 pc = .ok (.invokestatic idx, 3)) (hk : zz_lsn M.1.cls idx As.length M') (hstk : stk = As.reverse ++ st) (hw : (st.map fun v => v.category).sum ≤ 8) (hlen : (zz_al As).length ≤ M'.2.2.1) (hc : zz_G K N d M' (qI Q') 0 (zz_L0 M'.2.2.1 As) [] h) (k : ∀ r h', Q' r h' → zz_G K N (d + 1) M Q (pc + 3) L (.int r :: st) h') : zz_G K N (d + 1) M Q pc L stk h := by
  subst hstk
  exact zg_callN hd hk hw hlen hc fun v h' hq => by obtain ⟨r, rfl, hq⟩ := hq; exact k r h' hq
end ZR
/-- loops: the body says what must hold, 'again' stands for the loop's head -/
def wh {σ : Type} (body : σ → (σ → Prop) → Prop) : Nat → σ → Prop
  | 0, _ => False
  | n + 1, s => body s (wh body n)
def lp {σ : Type} (body : σ → (σ → Prop) → Prop) (s : σ) : Prop := ∃ n, wh body n s
theorem lp_ind {σ : Type} {body : σ → (σ → Prop) → Prop} (I : σ → Prop) (μ : σ → Nat) (hs : ∀ s, I s → ∀ again : σ → Prop, (∀ s', I s' → μ s' < μ s → again s') → body s again) (s : σ) (h : I s) : lp body s := by
  have key : ∀ n s, I s → μ s < n → wh body n s := by
    intro n
    induction n with
    | zero => intro s _ h; omega
    | succ n ih => intro s hI hm; exact hs s hI _ (fun s' hI' hm' => ih s' hI' (by omega))
  exact ⟨μ s + 1, key _ s h (Nat.lt_succ_self _)⟩
theorem lp_sound {σ : Type} {body : σ → (σ → Prop) → Prop} {G : σ → Prop} (hb : ∀ s (again : σ → Prop), (∀ s', again s' → G s') → body s again → G s) {s : σ} (h : lp body s) : G s := by
  obtain ⟨n, h⟩ := h
  induction n generalizing s with
  | zero => exact h.elim
  | succ n ih => exact hb s _ (fun s' h' => ih h') h
/-- fewer locals known -/
def zz_le : zz_L → zz_L → Prop
  | [], _ => True
  | none :: a, _ :: b => zz_le a b
  | some v :: a, some w :: b => v = w ∧ zz_le a b
  | _, _ => False
theorem zz_le_get : ∀ {a b : zz_L}, zz_le a b → a.length ≤ b.length ∧ ∀ (i : Nat) (v : Value), a[i]? = some (some v) → b[i]? = some (some v) := by
  intro a
  induction a with
  | nil => intro b _; exact ⟨Nat.zero_le _, fun i v h => by simp at h⟩
  | cons x a ih =>
    intro b h
    cases b with
    | nil => cases x <;> exact h.elim
    | cons y b =>
      cases x with
      | none =>
        obtain ⟨h1, h2⟩ := ih (b := b) h
        refine ⟨by simp; omega, fun i v hv => ?_⟩
        cases i with
        | zero => simp at hv
        | succ i => simpa using h2 i v (by simpa using hv)
      | some v0 =>
        cases y with
        | none => exact h.elim
        | some w0 =>
          obtain ⟨rfl, h⟩ := h
          obtain ⟨h1, h2⟩ := ih (b := b) h
          refine ⟨by simp; omega, fun i v hv => ?_⟩
          cases i with
          | zero => simpa using hv
          | succ i => simpa using h2 i v (by simpa using hv)
theorem zg_weak {K : zz_Kd} {N d : Nat} {M : zz_Mi} {Q : Option Value → zz_Hp → Prop} {pc : Nat} {L L' : zz_L} {st : List Value} {h : zz_Hp} (hle : zz_le L' L) (k : zz_G K N d M Q pc L' st h) : zz_G K N d M Q pc L st h := by
  intro X p l e R s m args below meth c H locs ls C hl hP hD hS
  obtain ⟨h1, h2⟩ := zz_le_get hle
  obtain ⟨g1, lv, g2, g3⟩ := hl
  exact k X p l e R s m args below meth c H locs ls C ⟨Nat.le_trans h1 g1, lv, g2, fun i v hv => g3 i v (h2 i v hv)⟩ hP hD hS
end
section
def zz_tC : List ((Nat × List (Option Nat)) ⊕ (Nat × Nat)) := [.inl (8, [some 1, some 9, none, some 17, none, some 18, some 20, some 21, some 24, some 27, some 35, some 37, some 40]), .inl (0, [some 2, some 5, some 7]), .inl (7, [none, some 3, some 4]), .inr (0, 128), .inr (0, 64), .inl (1, [none, some 6]), .inr (0, 24), .inl (1, [none, some 8]), .inr (0, 24), .inl (0, [some 10, some 13, some 15]), .inl (7, [none, some 11, some 12]), .inr (0, 128), .inr (0, 64), .inl (1, [none, some 14]), .inr (0, 24), .inl (1, [none, some 16]), .inr (0, 24), .inr (0, 4), .inl (1, [none, some 19]), .inr (0, 30), .inr (0, 4), .inl (3, [some 22, some 23]), .inr (0, 3), .inr (0, 120), .inl (5, [none, none, none, some 25, none, some 26]), .inr (0, 5), .inr (1, 80), .inl (6, [none, some 28, some 29, some 30, some 31, some 32, some 33, some 34]), .inr (0, 85), .inr (0, 85), .inr (0, 85), .inr (0, 85), .inr (2, 85), .inr (0, 85), .inr (0, 16), .inl (2, [none, none, some 36]), .inr (0, 3), .inl (4, [none, some 38, some 39]), .inr (0, 8), .inr (0, 256), .inr (0, 40)]
def zKC : zz_Kd := fun k => zz_tC.getD k (.inr (0, 0))
abbrev zNC : Nat := 41
theorem kC_0 : zKC 0 = .inl (8, [some 1, some 9, none, some 17, none, some 18, some 20, some 21, some 24, some 27, some 35, some 37, some 40]) := rfl
theorem kC_1 : zKC 1 = .inl (0, [some 2, some 5, some 7]) := rfl
theorem kC_2 : zKC 2 = .inl (7, [none, some 3, some 4]) := rfl
theorem kC_3 : zKC 3 = .inr (0, 128) := rfl
theorem kC_4 : zKC 4 = .inr (0, 64) := rfl
theorem kC_5 : zKC 5 = .inl (1, [none, some 6]) := rfl
theorem kC_6 : zKC 6 = .inr (0, 24) := rfl
theorem kC_7 : zKC 7 = .inl (1, [none, some 8]) := rfl
theorem kC_8 : zKC 8 = .inr (0, 24) := rfl
theorem kC_9 : zKC 9 = .inl (0, [some 10, some 13, some 15]) := rfl
theorem kC_10 : zKC 10 = .inl (7, [none, some 11, some 12]) := rfl
theorem kC_11 : zKC 11 = .inr (0, 128) := rfl
theorem kC_12 : zKC 12 = .inr (0, 64) := rfl
theorem kC_13 : zKC 13 = .inl (1, [none, some 14]) := rfl
theorem kC_14 : zKC 14 = .inr (0, 24) := rfl
theorem kC_15 : zKC 15 = .inl (1, [none, some 16]) := rfl
theorem kC_16 : zKC 16 = .inr (0, 24) := rfl
theorem kC_17 : zKC 17 = .inr (0, 4) := rfl
theorem kC_18 : zKC 18 = .inl (1, [none, some 19]) := rfl
theorem kC_19 : zKC 19 = .inr (0, 30) := rfl
theorem kC_20 : zKC 20 = .inr (0, 4) := rfl
theorem kC_21 : zKC 21 = .inl (3, [some 22, some 23]) := rfl
theorem kC_22 : zKC 22 = .inr (0, 3) := rfl
theorem kC_23 : zKC 23 = .inr (0, 120) := rfl
theorem kC_24 : zKC 24 = .inl (5, [none, none, none, some 25, none, some 26]) := rfl
theorem kC_25 : zKC 25 = .inr (0, 5) := rfl
theorem kC_26 : zKC 26 = .inr (1, 80) := rfl
theorem kC_27 : zKC 27 = .inl (6, [none, some 28, some 29, some 30, some 31, some 32, some 33, some 34]) := rfl
theorem kC_28 : zKC 28 = .inr (0, 85) := rfl
theorem kC_29 : zKC 29 = .inr (0, 85) := rfl
theorem kC_30 : zKC 30 = .inr (0, 85) := rfl
theorem kC_31 : zKC 31 = .inr (0, 85) := rfl
theorem kC_32 : zKC 32 = .inr (2, 85) := rfl
theorem kC_33 : zKC 33 = .inr (0, 85) := rfl
theorem kC_34 : zKC 34 = .inr (0, 16) := rfl
theorem kC_35 : zKC 35 = .inl (2, [none, none, some 36]) := rfl
theorem kC_36 : zKC 36 = .inr (0, 3) := rfl
theorem kC_37 : zKC 37 = .inl (4, [none, some 38, some 39]) := rfl
theorem kC_38 : zKC 38 = .inr (0, 8) := rfl
theorem kC_39 : zKC 39 = .inr (0, 256) := rfl
theorem kC_40 : zKC 40 = .inr (0, 40) := rfl
def zz_tR : List ((Nat × List (Option Nat)) ⊕ (Nat × Nat)) := [.inl (9, [none, some 1, some 2, some 3, some 4, some 5, some 6, none, some 7, none, some 8, some 9, some 10, none, some 11, some 12, none, some 13, some 14, some 15, none, some 16, some 17, some 18, some 19, none, none, some 20, some 21, some 22, some 23, some 24, some 25, none, some 26, some 27, some 28, none, some 29, some 30, none, some 31, some 32, some 33, some 34, some 35, some 36, some 37, some 38, some 39, none, none, none, none, none, some 40, some 41, some 42]), .inr (0, 16), .inr (0, 64), .inr (0, 16), .inr (0, 16), .inr (0, 16), .inr (0, 16), .inr (0, 4), .inr (0, 8), .inr (0, 8), .inr (0, 8), .inr (0, 8), .inr (0, 8), .inr (0, 10), .inr (0, 10), .inr (0, 10), .inr (0, 80), .inr (0, 3), .inr (0, 120), .inr (0, 4), .inr (0, 16), .inr (0, 64), .inr (0, 16), .inr (0, 16), .inr (0, 16), .inr (0, 16), .inr (0, 8), .inr (0, 8), .inr (0, 8), .inr (0, 8), .inr (0, 8), .inr (0, 64), .inr (0, 64), .inr (0, 64), .inr (3, 64), .inr (3, 64), .inr (0, 16), .inr (0, 8), .inr (0, 8), .inr (0, 8), .inr (0, 27), .inr (0, 27), .inr (0, 135)]
def zKR : zz_Kd := fun k => zz_tR.getD k (.inr (0, 0))
abbrev zNR : Nat := 43
theorem kR_0 : zKR 0 = .inl (9, [none, some 1, some 2, some 3, some 4, some 5, some 6, none, some 7, none, some 8, some 9, some 10, none, some 11, some 12, none, some 13, some 14, some 15, none, some 16, some 17, some 18, some 19, none, none, some 20, some 21, some 22, some 23, some 24, some 25, none, some 26, some 27, some 28, none, some 29, some 30, none, some 31, some 32, some 33, some 34, some 35, some 36, some 37, some 38, some 39, none, none, none, none, none, some 40, some 41, some 42]) := rfl
theorem kR_1 : zKR 1 = .inr (0, 16) := rfl
theorem kR_2 : zKR 2 = .inr (0, 64) := rfl
theorem kR_3 : zKR 3 = .inr (0, 16) := rfl
theorem kR_4 : zKR 4 = .inr (0, 16) := rfl
theorem kR_5 : zKR 5 = .inr (0, 16) := rfl
theorem kR_6 : zKR 6 = .inr (0, 16) := rfl
theorem kR_7 : zKR 7 = .inr (0, 4) := rfl
theorem kR_8 : zKR 8 = .inr (0, 8) := rfl
theorem kR_9 : zKR 9 = .inr (0, 8) := rfl
theorem kR_10 : zKR 10 = .inr (0, 8) := rfl
theorem kR_11 : zKR 11 = .inr (0, 8) := rfl
theorem kR_12 : zKR 12 = .inr (0, 8) := rfl
theorem kR_13 : zKR 13 = .inr (0, 10) := rfl
theorem kR_14 : zKR 14 = .inr (0, 10) := rfl
theorem kR_15 : zKR 15 = .inr (0, 10) := rfl
theorem kR_16 : zKR 16 = .inr (0, 80) := rfl
theorem kR_17 : zKR 17 = .inr (0, 3) := rfl
theorem kR_18 : zKR 18 = .inr (0, 120) := rfl
theorem kR_19 : zKR 19 = .inr (0, 4) := rfl
theorem kR_20 : zKR 20 = .inr (0, 16) := rfl
theorem kR_21 : zKR 21 = .inr (0, 64) := rfl
theorem kR_22 : zKR 22 = .inr (0, 16) := rfl
theorem kR_23 : zKR 23 = .inr (0, 16) := rfl
theorem kR_24 : zKR 24 = .inr (0, 16) := rfl
theorem kR_25 : zKR 25 = .inr (0, 16) := rfl
theorem kR_26 : zKR 26 = .inr (0, 8) := rfl
theorem kR_27 : zKR 27 = .inr (0, 8) := rfl
theorem kR_28 : zKR 28 = .inr (0, 8) := rfl
theorem kR_29 : zKR 29 = .inr (0, 8) := rfl
theorem kR_30 : zKR 30 = .inr (0, 8) := rfl
theorem kR_31 : zKR 31 = .inr (0, 64) := rfl
theorem kR_32 : zKR 32 = .inr (0, 64) := rfl
theorem kR_33 : zKR 33 = .inr (0, 64) := rfl
theorem kR_34 : zKR 34 = .inr (3, 64) := rfl
theorem kR_35 : zKR 35 = .inr (3, 64) := rfl
theorem kR_36 : zKR 36 = .inr (0, 16) := rfl
theorem kR_37 : zKR 37 = .inr (0, 8) := rfl
theorem kR_38 : zKR 38 = .inr (0, 8) := rfl
theorem kR_39 : zKR 39 = .inr (0, 8) := rfl
theorem kR_40 : zKR 40 = .inr (0, 27) := rfl
theorem kR_41 : zKR 41 = .inr (0, 27) := rfl
theorem kR_42 : zKR 42 = .inr (0, 135) := rfl
end
section
def w_X7_write (l1 : Int32) (l2 : Int32) (l3 : Int32) (h : zz_Hp) (Q : zz_Hp → Prop) : Prop :=
  vp_in ((l1 * 8) + l2) 128 ∧ ∀ h1, h1 = zz_uI h 3 (Int32.toNatClampNeg ((l1 * 8) + l2)) l3 → Q h1
def w_X8_inRange (l0 : Int32) (l1 : Int32) (l2 : Int32) (h : zz_Hp) (Q : Int32 → zz_Hp → Prop) : Prop :=
  
  ((l0 < l1 → Q 0 h) ∧
  (¬ (l0 < l1) → 
    ((l2 < l0 → Q 0 h) ∧
    (¬ (l2 < l0) → Q 1 h))))
def w_X8_canBeTold (l0 : Int32) (l1 : Int32) (h : zz_Hp) (Q : Int32 → zz_Hp → Prop) : Prop :=
  w_X8_inRange l0 0 3 h (fun r2 h1 => 
  ((r2 = 0 → Q 0 h1) ∧
  (¬ (r2 = 0) → vp_in l0 4 ∧ vp_in l0 4 ∧ w_X8_inRange l1 (zz_lt (Int32.toNatClampNeg l0)) (zz_mt (Int32.toNatClampNeg l0)) h1 (fun r4 h3 => 
    ((r4 = 0 → Q 0 h3) ∧
    (¬ (r4 = 0) → Q 1 h3))))))
def w_X7_addThread (l1 : Int32) (l2 : Int32) (l3 : Int32) (h : zz_Hp) (Q : Int32 → zz_Hp → Prop) : Prop :=
  w_X8_canBeTold 2 l1 h (fun r2 h1 => 
  ((r2 = 0 → Q ((-1)) h1) ∧
  (¬ (r2 = 0) → w_X8_canBeTold 1 l2 h1 (fun r4 h3 => 
    ((r4 = 0 → Q ((-1)) h3) ∧
    (¬ (r4 = 0) → w_X8_canBeTold 0 l3 h3 (fun r6 h5 => 
      ((¬ r6 = 0 → 
        (((h5.1 2 0) < 16 → ∀ h7, h7 = zz_uI h5 2 0 ((h5.1 2 0) + 1) → w_X7_write (h5.1 2 0) 0 l3 h7 (fun h8 => w_X7_write (h5.1 2 0) 1 l2 h8 (fun h10 => w_X7_write (h5.1 2 0) 2 l1 h10 (fun h12 => w_X7_write (h5.1 2 0) 3 0 h12 (fun h14 => w_X7_write (h5.1 2 0) 4 0 h14 (fun h16 => w_X7_write (h5.1 2 0) 5 0 h16 (fun h18 => w_X7_write (h5.1 2 0) 6 1 h18 (fun h20 => w_X7_write (h5.1 2 0) 7 (1 <<< ((h5.1 2 0) &&& 31)) h20 (fun h22 => Q (h5.1 2 0) h22))))))))) ∧
        (¬ ((h5.1 2 0) < 16) → Q ((-3)) h5))) ∧
      (r6 = 0 → Q ((-1)) h5)))))))))
def w_X8_thread (l1 : Int32) (l2 : Int32) (l3 : Int32) (h : zz_Hp) (Q : Int32 → zz_Hp → Prop) : Prop :=
  w_X7_addThread l1 l2 l3 h (fun r2 h1 => Q r2 h1)
def w_X7_fact (l1 : Int32) (l2 : Int32) (h : zz_Hp) (Q : Int32 → zz_Hp → Prop) : Prop :=
  vp_in ((l1 * 8) + l2) 128 ∧ Q (h.1 3 (Int32.toNatClampNeg ((l1 * 8) + l2))) h
def w_X7_has (l1 : Int32) (h : zz_Hp) (Q : Int32 → zz_Hp → Prop) : Prop :=
  
  ((l1 < 0 → Q 0 h) ∧
  (¬ (l1 < 0) → 
    (((h.1 2 0) ≤ l1 → Q 0 h) ∧
    (¬ ((h.1 2 0) ≤ l1) → Q 1 h))))
def w_X7_canBePart (l1 : Int32) (h : zz_Hp) (Q : Int32 → zz_Hp → Prop) : Prop :=
  w_X7_has l1 h (fun r2 h1 => 
  ((r2 = 0 → Q 0 h1) ∧
  (¬ (r2 = 0) → w_X7_fact l1 5 h1 (fun r4 h3 => 
    ((3 ≤ r4 → Q 0 h3) ∧
    (¬ (3 ≤ r4) → Q 1 h3))))))
def w_X8_part (l1 : Int32) (h : zz_Hp) (Q : Int32 → zz_Hp → Prop) : Prop :=
  w_X7_has l1 h (fun r2 h1 => 
  ((¬ r2 = 0 → 
    (((h1.1 0 4) < 4 → w_X7_canBePart l1 h1 (fun r4 h3 => 
      ((¬ r4 = 0 → vp_in (h3.1 0 4) 4 ∧ ∀ h5, h5 = zz_uI h3 17 (Int32.toNatClampNeg (h3.1 0 4)) l1 → ∀ h6, h6 = zz_uI h5 0 4 ((h5.1 0 4) + 1) → Q (h6.1 0 4) h6) ∧
      (r4 = 0 → Q ((-5)) h3)))) ∧
    (¬ ((h1.1 0 4) < 4) → Q ((-3)) h1))) ∧
  (r2 = 0 → Q ((-1)) h1)))
def w_X7_join_2_17_l14 (ag14 : Int32 × Int32 × Int32 × Int32 × zz_Hp → Prop) (Q : zz_Hp → Prop) (l1 : Int32) (l3 : Int32) (l4 : Int32) (l5 : Int32) (l6 : Int32) (l7 : Int32) (h : zz_Hp) : Prop :=
  
    ((l3 ≤ l7 → w_X7_write l1 4 l3 h (fun h1 => w_X7_write l1 5 l4 h1 (fun h3 => w_X7_write l1 6 l5 h3 (fun h5 => w_X7_write l1 7 l6 h5 (fun h7 => Q h7))))) ∧
    (¬ (l3 ≤ l7) → vp_in l7 4 ∧ vp_in ((l1 * 4) + l7) 64 ∧ ∀ h9, h9 = zz_uI h 4 (Int32.toNatClampNeg ((l1 * 4) + l7)) (h.1 17 (Int32.toNatClampNeg l7)) → w_X7_fact (h.1 17 (Int32.toNatClampNeg l7)) 5 h9 (fun r11 h10 => w_X7_fact (h.1 17 (Int32.toNatClampNeg l7)) 6 h10 (fun r13 h12 => w_X7_fact (h.1 17 (Int32.toNatClampNeg l7)) 7 h12 (fun r15 h14 => ag14 (if l4 < (r11 + 1) then (r11 + 1) else l4, l5 + r13, l6 ||| r15, l7 + 1, h14))))))
def w_X7_join_2_17 (l1 : Int32) (l3 : Int32) (h : zz_Hp) (Q : zz_Hp → Prop) : Prop :=
  lp (fun s ag => w_X7_join_2_17_l14 ag Q l1 l3 s.1 s.2.1 s.2.2.1 s.2.2.2.1 s.2.2.2.2) (0, 0, 1 <<< (l1 &&& 31), 0, h)
def w_X7_addPlied_2_17_l31 (ag31 : Int32 × zz_Hp → Prop) (Q : Int32 → zz_Hp → Prop) (l2 : Int32) (l3 : Int32) (l4 : Int32) (h : zz_Hp) : Prop :=
  
    ((l2 ≤ l4 → 
      (((h.1 2 0) < 16 → ∀ h5, h5 = zz_uI h 2 0 ((h.1 2 0) + 1) → w_X7_write (h.1 2 0) 0 l3 h5 (fun h6 => w_X7_write (h.1 2 0) 1 ((-1)) h6 (fun h8 => w_X7_write (h.1 2 0) 2 ((-1)) h8 (fun h10 => w_X7_write (h.1 2 0) 3 0 h10 (fun h12 => w_X7_join_2_17 (h.1 2 0) l2 h12 (fun h14 => Q (h.1 2 0) h14)))))) ∧
      (¬ ((h.1 2 0) < 16) → Q ((-3)) h))) ∧
    (¬ (l2 ≤ l4) → vp_in l4 4 ∧ w_X7_canBePart (h.1 17 (Int32.toNatClampNeg l4)) h (fun r17 h16 => 
      ((¬ r17 = 0 → ag31 (l4 + 1, h16)) ∧
      (r17 = 0 → Q ((-5)) h16)))))
def w_X7_addPlied_2_17 (l2 : Int32) (l3 : Int32) (h : zz_Hp) (Q : Int32 → zz_Hp → Prop) : Prop :=
  w_X8_canBeTold 0 l3 h (fun r2 h1 => 
  ((¬ r2 = 0 → w_X8_inRange l2 2 4 h1 (fun r4 h3 => 
    ((r4 = 0 → Q ((-5)) h3) ∧
    (¬ (r4 = 0) → 
      ((l2 ≤ 4 → lp (fun s ag => w_X7_addPlied_2_17_l31 ag Q l2 l3 s.1 s.2) (0, h3)) ∧
      (¬ (l2 ≤ 4) → Q ((-5)) h3)))))) ∧
  (r2 = 0 → Q ((-1)) h1)))
def w_X8_ply (l1 : Int32) (h : zz_Hp) (Q : Int32 → zz_Hp → Prop) : Prop :=
  w_X7_addPlied_2_17 (h.1 0 4) l1 h (fun r2 h1 => 
  ((r2 < 0 → Q r2 h1) ∧
  (¬ (r2 < 0) → ∀ h3, h3 = zz_uI h1 0 4 0 → Q r2 h3)))
def w_X1_empty_5  (h : zz_Hp) (Q : zz_Hp → Prop) : Prop :=
  ∀ h1, h1 = zz_uI h 5 0 0 → Q h1
def w_X1_empty_7  (h : zz_Hp) (Q : zz_Hp → Prop) : Prop :=
  ∀ h1, h1 = zz_uI h 7 0 0 → Q h1
def w_X0_empty  (h : zz_Hp) (Q : zz_Hp → Prop) : Prop :=
  ∀ h1, h1 = zz_uI h 2 0 0 → w_X1_empty_5  h1 (fun h2 => w_X1_empty_7  h2 (fun h4 => Q h4))
def w_X1_empty_18  (h : zz_Hp) (Q : zz_Hp → Prop) : Prop :=
  ∀ h1, h1 = zz_uI h 18 0 0 → Q h1
def w_X8_clear  (h : zz_Hp) (Q : Int32 → zz_Hp → Prop) : Prop :=
  w_X0_empty  h (fun h1 => ∀ h3, h3 = zz_uI h1 0 4 0 → w_X1_empty_18  h3 (fun h4 => Q (h.1 2 0) h4))
def w_X1_isFull_18  (h : zz_Hp) (Q : Int32 → zz_Hp → Prop) : Prop :=
  
  (((((h.1 18 0) + 1) * 3) ≤ 30 → Q 0 h) ∧
  (¬ ((((h.1 18 0) + 1) * 3) ≤ 30) → Q 1 h))
def w_X1_add_18 (l1 : Int32) (l2 : Int32) (l3 : Int32) (h : zz_Hp) (Q : zz_Hp → Prop) : Prop :=
  w_X1_isFull_18  h (fun r2 h1 => 
  ((¬ r2 = 0 → Q h1) ∧
  (r2 = 0 → vp_in ((h1.1 18 0) * 3) 30 ∧ ∀ h3, h3 = zz_uI h1 19 (Int32.toNatClampNeg ((h1.1 18 0) * 3)) l1 → vp_in (((h3.1 18 0) * 3) + 1) 30 ∧ ∀ h4, h4 = zz_uI h3 19 (Int32.toNatClampNeg (((h3.1 18 0) * 3) + 1)) l2 → vp_in (((h4.1 18 0) * 3) + 2) 30 ∧ ∀ h5, h5 = zz_uI h4 19 (Int32.toNatClampNeg (((h4.1 18 0) * 3) + 2)) l3 → ∀ h6, h6 = zz_uI h5 18 0 ((h5.1 18 0) + 1) → Q h6)))
def w_X1_drop_18 (l1 : Int32) (h : zz_Hp) (Q : zz_Hp → Prop) : Prop :=
  
  ((l1 < 0 → Q h) ∧
  (¬ (l1 < 0) → 
    (((h.1 18 0) ≤ l1 → Q h) ∧
    (¬ ((h.1 18 0) ≤ l1) → ¬ ((l1 + 1) * 3) < 0 ∧ ¬ (l1 * 3) < 0 ∧ ¬ ((((h.1 18 0) - l1) - 1) * 3) < 0 ∧ Int32.toNatClampNeg ((l1 + 1) * 3) + Int32.toNatClampNeg ((((h.1 18 0) - l1) - 1) * 3) ≤ 30 ∧ Int32.toNatClampNeg (l1 * 3) + Int32.toNatClampNeg ((((h.1 18 0) - l1) - 1) * 3) ≤ 30 ∧ ∀ h1, h1 = zz_uC h 19 19 (Int32.toNatClampNeg ((l1 + 1) * 3)) (Int32.toNatClampNeg (l1 * 3)) (Int32.toNatClampNeg ((((h.1 18 0) - l1) - 1) * 3)) → ∀ h2, h2 = zz_uI h1 18 0 ((h1.1 18 0) - 1) → Q h2))))
def w_X7_isThread (l1 : Int32) (h : zz_Hp) (Q : Int32 → zz_Hp → Prop) : Prop :=
  w_X7_has l1 h (fun r2 h1 => 
  ((r2 = 0 → Q 0 h1) ∧
  (¬ (r2 = 0) → w_X7_fact l1 4 h1 (fun r4 h3 => 
    ((¬ r4 = 0 → Q 0 h3) ∧
    (r4 = 0 → Q 1 h3))))))
def w_X7_tell_j41 (Q : Int32 → zz_Hp → Prop) (l1 : Int32) (l2 : Int32) (l3 : Int32)  (h : zz_Hp) : Prop :=
  w_X7_fact l2 l1 h (fun r8 h7 => w_X7_write l2 l1 l3 h7 (fun h9 => Q r8 h9))
def w_X7_tell (l1 : Int32) (l2 : Int32) (l3 : Int32) (h : zz_Hp) (Q : Int32 → zz_Hp → Prop) : Prop :=
  w_X8_canBeTold l1 l3 h (fun r2 h1 => 
  ((r2 = 0 → Q ((-2147483648)) h1) ∧
  (¬ (r2 = 0) → w_X7_has l2 h1 (fun r4 h3 => 
    ((¬ r4 = 0 → w_X7_isThread l2 h3 (fun r6 h5 => 
      ((¬ r6 = 0 → w_X7_tell_j41 Q l1 l2 l3  h5) ∧
      (r6 = 0 → 
        ((l1 = 1 → Q ((-10000)) h5) ∧
        (¬ (l1 = 1) → 
          ((¬ l1 = 2 → w_X7_tell_j41 Q l1 l2 l3  h5) ∧
          (l1 = 2 → Q ((-10000)) h5)))))))) ∧
    (r4 = 0 → Q ((-2147483648)) h3))))))
def w_X8_set_j47 (Q : Int32 → zz_Hp → Prop) (l1 : Int32) (l2 : Int32) (l4 : Int32)  (h : zz_Hp) : Prop :=
  w_X1_add_18 l1 l2 l4 h (fun h5 => Q l4 h5)
def w_X8_set (l1 : Int32) (l2 : Int32) (l3 : Int32) (h : zz_Hp) (Q : Int32 → zz_Hp → Prop) : Prop :=
  w_X7_tell l1 l2 l3 h (fun r2 h1 => 
  ((r2 ≤ ((-10000)) → Q r2 h1) ∧
  (¬ (r2 ≤ ((-10000))) → 
    ((r2 = l3 → Q r2 h1) ∧
    (¬ (r2 = l3) → w_X1_isFull_18  h1 (fun r4 h3 => 
      ((r4 = 0 → w_X8_set_j47 Q l1 l2 r2  h3) ∧
      (¬ (r4 = 0) → w_X1_drop_18 0 h3 (fun h7 => w_X8_set_j47 Q l1 l2 r2  h7)))))))))
def w_X8_byOfPlied (l0 : Int32) (l1 : Int32) (h : zz_Hp) (Q : Int32 → zz_Hp → Prop) : Prop :=
  Q (1000 - ((if 0 ≤ l0 then l0 else 0 - l0) * l1)) h
def w_X7_by (l1 : Int32) (h : zz_Hp) (Q : Int32 → zz_Hp → Prop) : Prop :=
  w_X7_fact l1 0 h (fun r2 h1 => w_X7_fact l1 4 h1 (fun r4 h3 => w_X8_byOfPlied r2 r4 h3 (fun r6 h5 => Q r6 h5)))
def w_X8_of (l1 : Int32) (l2 : Int32) (h : zz_Hp) (Q : Int32 → zz_Hp → Prop) : Prop :=
  w_X7_has l1 h (fun r2 h1 => 
  ((r2 = 0 → Q ((-2147483648)) h1) ∧
  (¬ (r2 = 0) → w_X8_inRange l2 0 7 h1 (fun r4 h3 => 
    ((¬ r4 = 0 → 
      ((¬ l2 = 7 → w_X7_fact l1 l2 h3 (fun r6 h5 => Q r6 h5)) ∧
      (l2 = 7 → w_X7_by l1 h3 (fun r8 h7 => Q r8 h7)))) ∧
    (r4 = 0 → Q ((-2147483648)) h3))))))
def w_X7_partAt (l1 : Int32) (l2 : Int32) (h : zz_Hp) (Q : Int32 → zz_Hp → Prop) : Prop :=
  vp_in ((l1 * 4) + l2) 64 ∧ Q (h.1 4 (Int32.toNatClampNeg ((l1 * 4) + l2))) h
def w_X8_partOf (l1 : Int32) (l2 : Int32) (h : zz_Hp) (Q : Int32 → zz_Hp → Prop) : Prop :=
  w_X7_has l1 h (fun r2 h1 => 
  ((r2 = 0 → Q ((-1)) h1) ∧
  (¬ (r2 = 0) → 
    ((0 ≤ l2 → w_X7_fact l1 4 h1 (fun r4 h3 => 
      ((r4 ≤ l2 → Q ((-2)) h3) ∧
      (¬ (r4 ≤ l2) → w_X7_partAt l1 l2 h3 (fun r6 h5 => Q r6 h5))))) ∧
    (¬ (0 ≤ l2) → Q ((-1)) h1)))))
def w_X2_lead_l99 (ag38 : Int32 × zz_Hp → Prop) (ag99 : Int32 × Int32 × Int32 × zz_Hp → Prop) (Q : Int32 → zz_Hp → Prop)  (l4 : Int32) (l5 : Int32) (l6 : Int32) (h : zz_Hp) : Prop :=
  w_X7_fact l5 4 h (fun r15 h14 => 
    ((r15 ≤ (l6 + 1) → ag38 (l4, h14)) ∧
    (¬ (r15 ≤ (l6 + 1)) → w_X7_fact (h14.1 35 0) 6 h14 (fun r17 h16 => 
      ((l4 < r17 → ag38 (l4, h16)) ∧
      (¬ (l4 < r17) → w_X7_fact (h16.1 35 0) 6 h16 (fun r19 h18 => w_X7_partAt l5 (l6 + 1) h18 (fun r21 h20 => ∀ h22, h22 = zz_uI h20 35 0 r21 → ag99 (l4 - r19, l5, l6 + 1, h22)))))))))
def w_X2_lead_l38 (ag38 : Int32 × zz_Hp → Prop) (Q : Int32 → zz_Hp → Prop)  (l4 : Int32) (h : zz_Hp) : Prop :=
  
    ((3 ≤ (h.1 35 1) → Q 1 h) ∧
    (¬ (3 ≤ (h.1 35 1)) → w_X7_isThread (h.1 35 0) h (fun r8 h7 => 
      ((¬ r8 = 0 → Q 1 h7) ∧
      (r8 = 0 → vp_in (h7.1 35 1) 3 ∧ ∀ h9, h9 = zz_uI h7 36 (Int32.toNatClampNeg (h7.1 35 1)) (h7.1 35 0) → ∀ h10, h10 = zz_uI h9 35 1 ((h9.1 35 1) + 1) → w_X7_partAt (h7.1 35 0) 0 h10 (fun r12 h11 => ∀ h13, h13 = zz_uI h11 35 0 r12 → lp (fun s ag => w_X2_lead_l99 ag38 ag Q  s.1 s.2.1 s.2.2.1 s.2.2.2) (l4, h7.1 35 0, 0, h13)))))))
def w_X2_lead (l2 : Int32) (l3 : Int32) (h : zz_Hp) (Q : Int32 → zz_Hp → Prop) : Prop :=
  w_X7_has l2 h (fun r2 h1 => 
  ((r2 = 0 → Q 0 h1) ∧
  (¬ (r2 = 0) → 
    ((l3 < 0 → Q 0 h1) ∧
    (¬ (l3 < 0) → w_X7_fact l2 6 h1 (fun r4 h3 => 
      ((l3 < r4 → ∀ h5, h5 = zz_uI h3 35 0 l2 → ∀ h6, h6 = zz_uI h5 35 1 0 → lp (fun s ag => w_X2_lead_l38 ag Q  s.1 s.2) (l3, h6)) ∧
      (¬ (l3 < r4) → Q 0 h3))))))))
def w_X2_turnOf_l12 (ag12 : Int32 × Int32 × zz_Hp → Prop) (Q : Int32 → zz_Hp → Prop)  (l2 : Int32) (l3 : Int32) (h : zz_Hp) : Prop :=
  
    (((h.1 35 1) ≤ l3 → Q l2 h) ∧
    (¬ ((h.1 35 1) ≤ l3) → vp_in l3 3 ∧ w_X7_fact (h.1 36 (Int32.toNatClampNeg l3)) 0 h (fun r4 h3 => ag12 (l2 + r4, l3 + 1, h3))))
def w_X2_turnOf  (h : zz_Hp) (Q : Int32 → zz_Hp → Prop) : Prop :=
  w_X7_fact (h.1 35 0) 0 h (fun r2 h1 => lp (fun s ag => w_X2_turnOf_l12 ag Q  s.1 s.2.1 s.2.2) (r2, 0, h1))
def w_X8_leaf (l1 : Int32) (l2 : Int32) (l3 : Int32) (h : zz_Hp) (Q : Int32 → zz_Hp → Prop) : Prop :=
  w_X8_inRange l3 0 1 h (fun r2 h1 => 
  ((r2 = 0 → Q ((-2147483648)) h1) ∧
  (¬ (r2 = 0) → w_X2_lead l1 l2 h1 (fun r4 h3 => 
    ((¬ r4 = 0 → 
      ((¬ l3 = 0 → w_X2_turnOf  h3 (fun r6 h5 => Q r6 h5)) ∧
      (l3 = 0 → Q (h3.1 35 0) h3))) ∧
    (r4 = 0 → Q ((-2147483648)) h3))))))
def w_J7_fill_53178_20_l5 (ag5 : Int32 × zz_Hp → Prop) (Q : zz_Hp → Prop) (l1 : Int32) (l3 : Int32) (l2 : Int32) (h : zz_Hp) : Prop :=
  
    ((l3 ≤ l2 → Q h) ∧
    (¬ (l3 ≤ l2) → vp_in l2 4 ∧ ∀ h1, h1 = zz_uI h 20 (Int32.toNatClampNeg l2) l1 → ag5 (l2 + 1, h1)))
def w_J7_fill_53178_20 (l1 : Int32) (h : zz_Hp) (Q : zz_Hp → Prop) : Prop :=
  lp (fun s ag => w_J7_fill_53178_20_l5 ag Q l1 4 s.1 s.2) (0, h)
def w_X6_countFibres_l7 (ag7 : Int32 × zz_Hp → Prop) (Q : zz_Hp → Prop)  (l3 : Int32) (h : zz_Hp) : Prop :=
  
    (((h.1 27 0) ≤ l3 → Q h) ∧
    (¬ ((h.1 27 0) ≤ l3) → vp_in l3 85 ∧ w_X7_fact (h.1 28 (Int32.toNatClampNeg l3)) 2 h (fun r4 h3 => 
      ((r4 < 0 → ag7 (l3 + 1, h3)) ∧
      (¬ (r4 < 0) → 
        ((4 ≤ r4 → ag7 (l3 + 1, h3)) ∧
        (¬ (4 ≤ r4) → vp_in r4 4 ∧ vp_in l3 85 ∧ vp_in r4 4 ∧ ∀ h5, h5 = zz_uI h3 20 (Int32.toNatClampNeg r4) ((h3.1 20 (Int32.toNatClampNeg r4)) + (h3.1 30 (Int32.toNatClampNeg l3))) → ag7 (l3 + 1, h5))))))))
def w_X6_countFibres  (h : zz_Hp) (Q : zz_Hp → Prop) : Prop :=
  w_J7_fill_53178_20 0 h (fun h1 => lp (fun s ag => w_X6_countFibres_l7 ag Q  s.1 s.2) (0, h1))
def w_X6_turnBy (l1 : Int32) (l2 : Int32) (h : zz_Hp) (Q : Int32 → zz_Hp → Prop) : Prop :=
  vp_in l1 85 ∧ 
  (((h.1 32 (Int32.toNatClampNeg l1)) = 0 → vp_in l1 85 ∧ Q (h.1 29 (Int32.toNatClampNeg l1)) h) ∧
  (¬ ((h.1 32 (Int32.toNatClampNeg l1)) = 0) → vp_in l1 85 ∧ Q ((h.1 29 (Int32.toNatClampNeg l1)) + l2) h))
def w_X8_beyondEase (l0 : Int32) (h : zz_Hp) (Q : Int32 → zz_Hp → Prop) : Prop :=
  
  ((l0 ≤ 20 → 
    ((((-20)) ≤ l0 → Q 0 h) ∧
    (¬ (((-20)) ≤ l0) → Q (l0 + 20) h))) ∧
  (¬ (l0 ≤ 20) → Q (l0 - 20) h))
def w_X8_fibrePull (l0 : Int32) (l1 : Int32) (l2 : Int32) (h : zz_Hp) (Q : Int32 → zz_Hp → Prop) : Prop :=
  
  (((Int32.toInt l0) = 1 → Q ((2 * l1) * l2) h) ∧
  ((Int32.toInt l0) = 2 → Q ((l1 * l2) / 2) h) ∧
  ((Int32.toInt l0) = 3 → w_X8_beyondEase l2 h (fun r2 h1 => Q ((l1 * l2) + (l1 * r2)) h1)) ∧
  (((Int32.toInt l0) < 1 ∨ 3 < (Int32.toInt l0)) → Q (l1 * l2) h))
def w_X6_torqueWithout_j80 (ag6 : Int32 × Int32 × zz_Hp → Prop) (Q : Int32 → zz_Hp → Prop) (l2 : Int32) (l3 : Int32) (l4 : Int32) (l5 : Int32) (s0 : Int32) (h : zz_Hp) : Prop :=
  vp_in l5 85 ∧ ag6 (l4 + ((h.1 30 (Int32.toNatClampNeg l5)) * s0), l5 + 1, h)
def w_X6_torqueWithout_l6 (ag6 : Int32 × Int32 × zz_Hp → Prop) (Q : Int32 → zz_Hp → Prop) (l2 : Int32) (l3 : Int32) (l4 : Int32) (l5 : Int32) (h : zz_Hp) : Prop :=
  
    (((h.1 27 0) ≤ l5 → Q l4 h) ∧
    (¬ ((h.1 27 0) ≤ l5) → vp_in l5 85 ∧ 
      (((h.1 28 (Int32.toNatClampNeg l5)) = l2 → ag6 (l4, l5 + 1, h)) ∧
      (¬ ((h.1 28 (Int32.toNatClampNeg l5)) = l2) → w_X6_turnBy l5 l3 h (fun r2 h1 => w_X7_fact (h.1 28 (Int32.toNatClampNeg l5)) 4 h1 (fun r4 h3 => 
        ((r4 ≤ 0 → w_X7_fact (h.1 28 (Int32.toNatClampNeg l5)) 2 h3 (fun r6 h5 => w_X7_fact (h.1 28 (Int32.toNatClampNeg l5)) 1 h5 (fun r8 h7 => w_X8_fibrePull r6 r8 r2 h7 (fun r10 h9 => w_X6_torqueWithout_j80 ag6 Q l2 l3 l4 l5 r10 h9)))) ∧
        (¬ (r4 ≤ 0) → w_X6_torqueWithout_j80 ag6 Q l2 l3 l4 l5 (r2 * r4) h3))))))))
def w_X6_torqueWithout (l2 : Int32) (l3 : Int32) (h : zz_Hp) (Q : Int32 → zz_Hp → Prop) : Prop :=
  lp (fun s ag => w_X6_torqueWithout_l6 ag Q l2 l3 s.1 s.2.1 s.2.2) (0, 0, h)
def w_X6_torqueBy (l2 : Int32) (h : zz_Hp) (Q : Int32 → zz_Hp → Prop) : Prop :=
  w_X6_torqueWithout ((-1)) l2 h (fun r2 h1 => Q r2 h1)
def w_X6_addPlace_j140 (Q : zz_Hp → Prop)   (h : zz_Hp) : Prop :=
  ∀ h8, h8 = zz_uI h 27 0 ((h.1 27 0) + 1) → Q h8
def w_X6_addPlace_j74 (Q : zz_Hp → Prop) (l3 : Int32) (s0 : Int32) (s1 : Int32) (h : zz_Hp) : Prop :=
  vp_in s1 85 ∧ (s0 = 0 ∨ s0 = 1) ∧ ∀ h6, h6 = zz_uI h 32 (Int32.toNatClampNeg s1) s0 → vp_in (h6.1 27 0) 85 ∧ ∀ h7, h7 = zz_uI h6 30 (Int32.toNatClampNeg (h6.1 27 0)) 1 → 
  ((l3 < 0 → w_X6_addPlace_j140 Q   h7) ∧
  (¬ (l3 < 0) → vp_in (h7.1 27 0) 85 ∧ vp_in l3 85 ∧ vp_in (h7.1 27 0) 85 ∧ ∀ h9, h9 = zz_uI h7 29 (Int32.toNatClampNeg (h7.1 27 0)) ((h7.1 29 (Int32.toNatClampNeg (h7.1 27 0))) + (h7.1 29 (Int32.toNatClampNeg l3))) → vp_in (h9.1 27 0) 85 ∧ vp_in l3 85 ∧ vp_in (h9.1 27 0) 85 ∧ ((h9.1 32 (Int32.toNatClampNeg (h9.1 27 0))) ||| (h9.1 32 (Int32.toNatClampNeg l3)) = 0 ∨ (h9.1 32 (Int32.toNatClampNeg (h9.1 27 0))) ||| (h9.1 32 (Int32.toNatClampNeg l3)) = 1) ∧ ∀ h10, h10 = zz_uI h9 32 (Int32.toNatClampNeg (h9.1 27 0)) ((h9.1 32 (Int32.toNatClampNeg (h9.1 27 0))) ||| (h9.1 32 (Int32.toNatClampNeg l3))) → vp_in l3 85 ∧ vp_in (h10.1 27 0) 85 ∧ ∀ h11, h11 = zz_uI h10 30 (Int32.toNatClampNeg (h10.1 27 0)) (h10.1 30 (Int32.toNatClampNeg l3)) → w_X6_addPlace_j140 Q   h11))
def w_X6_addPlace_j54 (Q : zz_Hp → Prop) (l2 : Int32) (l3 : Int32) (l4 : Int32) (s0 : Int32) (s1 : Int32) (h : zz_Hp) : Prop :=
  vp_in s1 85 ∧ ∀ h5, h5 = zz_uI h 29 (Int32.toNatClampNeg s1) s0 → 
  ((¬ l2 = l4 → w_X6_addPlace_j74 Q l3 0 (h5.1 27 0) h5) ∧
  (l2 = l4 → w_X6_addPlace_j74 Q l3 1 (h5.1 27 0) h5))
def w_X6_addPlace (l2 : Int32) (l3 : Int32) (l4 : Int32) (h : zz_Hp) (Q : zz_Hp → Prop) : Prop :=
  
  (((h.1 27 0) < 85 → vp_in (h.1 27 0) 85 ∧ ∀ h1, h1 = zz_uI h 28 (Int32.toNatClampNeg (h.1 27 0)) l2 → vp_in (h1.1 27 0) 85 ∧ ∀ h2, h2 = zz_uI h1 31 (Int32.toNatClampNeg (h1.1 27 0)) l3 → 
    ((¬ l2 = l4 → w_X7_fact l2 0 h2 (fun r4 h3 => w_X6_addPlace_j54 Q l2 l3 l4 r4 (h2.1 27 0) h3)) ∧
    (l2 = l4 → w_X6_addPlace_j54 Q l2 l3 l4 0 (h2.1 27 0) h2))) ∧
  (¬ ((h.1 27 0) < 85) → Q h))
def w_X6_addParts_j74 (ag22 : Int32 × zz_Hp → Prop) (ag47 : Int32 × Int32 × Int32 × Int32 × Int32 × zz_Hp → Prop) (Q : zz_Hp → Prop) (l2 : Int32) (l3 : Int32) (l4 : Int32) (l5 : Int32) (l6 : Int32) (l7 : Int32) (l8 : Int32)  (h : zz_Hp) : Prop :=
  
  (((h.1 27 0) ≤ l8 → w_X6_addPlace l7 l2 l3 h (fun h5 => ag22 (l6 + 1, h5))) ∧
  (¬ ((h.1 27 0) ≤ l8) → vp_in l8 85 ∧ vp_in l2 85 ∧ vp_in l8 85 ∧ ∀ h7, h7 = zz_uI h 30 (Int32.toNatClampNeg l8) ((h.1 30 (Int32.toNatClampNeg l8)) + (h.1 30 (Int32.toNatClampNeg l2))) → ag22 (l6 + 1, h7)))
def w_X6_addParts_l47 (ag22 : Int32 × zz_Hp → Prop) (ag47 : Int32 × Int32 × Int32 × Int32 × Int32 × zz_Hp → Prop) (Q : zz_Hp → Prop) (l2 : Int32) (l3 : Int32) (l4 : Int32) (l5 : Int32) (l6 : Int32) (l7 : Int32) (l8 : Int32) (h : zz_Hp) : Prop :=
  
    (((h.1 27 0) ≤ l8 → w_X6_addParts_j74 ag22 ag47 Q l2 l3 l4 l5 l6 l7 l8  h) ∧
    (¬ ((h.1 27 0) ≤ l8) → vp_in l8 85 ∧ 
      (((h.1 28 (Int32.toNatClampNeg l8)) = l7 → w_X6_addParts_j74 ag22 ag47 Q l2 l3 l4 l5 l6 l7 l8  h) ∧
      (¬ ((h.1 28 (Int32.toNatClampNeg l8)) = l7) → ag47 (l4, l5, l6, l7, l8 + 1, h)))))
def w_X6_addParts_l22 (ag22 : Int32 × zz_Hp → Prop) (Q : zz_Hp → Prop) (l2 : Int32) (l3 : Int32) (l4 : Int32) (l5 : Int32) (l6 : Int32) (h : zz_Hp) : Prop :=
  
    ((l5 ≤ l6 → Q h) ∧
    (¬ (l5 ≤ l6) → vp_in l2 85 ∧ w_X7_partAt (h.1 28 (Int32.toNatClampNeg l2)) l6 h (fun r4 h3 => lp (fun s ag => w_X6_addParts_l47 ag22 ag Q l2 l3 s.1 s.2.1 s.2.2.1 s.2.2.2.1 s.2.2.2.2.1 s.2.2.2.2.2) (l4, l5, l6, r4, l4, h3))))
def w_X6_addParts (l2 : Int32) (l3 : Int32) (h : zz_Hp) (Q : zz_Hp → Prop) : Prop :=
  vp_in l2 85 ∧ w_X7_fact (h.1 28 (Int32.toNatClampNeg l2)) 4 h (fun r2 h1 => lp (fun s ag => w_X6_addParts_l22 ag Q l2 l3 (h.1 27 0) r2 s.1 s.2) (0, h1))
def w_X6_walk_l16 (ag16 : Int32 × zz_Hp → Prop) (Q : zz_Hp → Prop) (l3 : Int32) (l4 : Int32) (h : zz_Hp) : Prop :=
  
    (((h.1 27 0) ≤ l4 → Q h) ∧
    (¬ ((h.1 27 0) ≤ l4) → 
      ((85 ≤ l4 → Q h) ∧
      (¬ (85 ≤ l4) → w_X6_addParts l4 l3 h (fun h4 => ag16 (l4 + 1, h4))))))
def w_X6_walk (l2 : Int32) (l3 : Int32) (h : zz_Hp) (Q : zz_Hp → Prop) : Prop :=
  ∀ h1, h1 = zz_uI h 27 0 0 → w_X6_addPlace l2 ((-1)) l3 h1 (fun h2 => lp (fun s ag => w_X6_walk_l16 ag Q l3 s.1 s.2) (0, h2))
def w_X8_torqueOf (l1 : Int32) (h : zz_Hp) (Q : Int32 → zz_Hp → Prop) : Prop :=
  w_X6_walk l1 ((-1)) h (fun h1 => w_X6_torqueBy 0 h1 (fun r4 h3 => Q r4 h3))
def w_X8_torque (l1 : Int32) (h : zz_Hp) (Q : Int32 → zz_Hp → Prop) : Prop :=
  w_X7_has l1 h (fun r2 h1 => 
  ((¬ r2 = 0 → w_X8_torqueOf l1 h1 (fun r4 h3 => w_X6_countFibres  h3 (fun h5 => Q r4 h5))) ∧
  (r2 = 0 → Q ((-2147483648)) h1)))
def w_X8_tally (l1 : Int32) (h : zz_Hp) (Q : Int32 → zz_Hp → Prop) : Prop :=
  w_X8_inRange l1 0 3 h (fun r2 h1 => 
  ((r2 = 0 → Q ((-1)) h1) ∧
  (¬ (r2 = 0) → vp_in l1 4 ∧ Q (h1.1 20 (Int32.toNatClampNeg l1)) h1)))
def w_X2_byOf_l5 (ag5 : Int64 × Int32 × zz_Hp → Prop) (Q : Int64 → zz_Hp → Prop)  (l2 : Int64) (l4 : Int32) (h : zz_Hp) : Prop :=
  
    (((h.1 35 1) ≤ l4 → Q l2 h) ∧
    (¬ ((h.1 35 1) ≤ l4) → vp_in l4 3 ∧ w_X7_by (h.1 36 (Int32.toNatClampNeg l4)) h (fun r2 h1 => ag5 (l2 * (Int32.toInt64 r2), l4 + 1, h1))))
def w_X2_byOf  (h : zz_Hp) (Q : Int64 → zz_Hp → Prop) : Prop :=
  lp (fun s ag => w_X2_byOf_l5 ag Q  s.1 s.2.1 s.2.2) (1, 0, h)
def w_X2_wholeOf_l4 (ag4 : Int64 × Int32 × zz_Hp → Prop) (Q : Int64 → zz_Hp → Prop)  (l1 : Int64) (l3 : Int32) (h : zz_Hp) : Prop :=
  
    (((h.1 35 1) ≤ l3 → Q l1 h) ∧
    (¬ ((h.1 35 1) ≤ l3) → ag4 (l1 * 1000, l3 + 1, h)))
def w_X2_wholeOf  (h : zz_Hp) (Q : Int64 → zz_Hp → Prop) : Prop :=
  lp (fun s ag => w_X2_wholeOf_l4 ag Q  s.1 s.2.1 s.2.2) (1, 0, h)
def w_X8_commonDivisor_l9 (ag9 : Int64 × Int64 × Int32 × zz_Hp → Prop) (Q : Int64 → zz_Hp → Prop)  (l4 : Int64) (l6 : Int64) (l8 : Int32) (h : zz_Hp) : Prop :=
  
    ((128 ≤ l8 → Q l4 h) ∧
    (¬ (128 ≤ l8) → 
      (((lg_cmp l6 0) = 0 → Q l4 h) ∧
      (¬ ((lg_cmp l6 0) = 0) → ¬ l6 = 0 ∧ ag9 (l6, l4 - l4 / l6 * l6, l8 + 1, h)))))
def w_X8_commonDivisor (l0 : Int64) (l2 : Int64) (h : zz_Hp) (Q : Int64 → zz_Hp → Prop) : Prop :=
  lp (fun s ag => w_X8_commonDivisor_l9 ag Q  s.1 s.2.1 s.2.2.1 s.2.2.2) (l0, l2, 0, h)
def w_X8_kept (l1 : Int32) (l2 : Int32) (l3 : Int32) (h : zz_Hp) (Q : Int64 → zz_Hp → Prop) : Prop :=
  w_X8_inRange l3 0 1 h (fun r2 h1 => 
  ((r2 = 0 → Q ((-2147483648)) h1) ∧
  (¬ (r2 = 0) → w_X2_lead l1 l2 h1 (fun r4 h3 => 
    ((¬ r4 = 0 → w_X2_byOf  h3 (fun r6 h5 => w_X2_wholeOf  h5 (fun r8 h7 => w_X8_commonDivisor r6 r8 h7 (fun r10 h9 => 
      ((0 < (lg_cmp r10 0) → 
        ((¬ l3 = 0 → ¬ r10 = 0 ∧ Q (r8 / r10) h9) ∧
        (l3 = 0 → ¬ r10 = 0 ∧ Q (r6 / r10) h9))) ∧
      (¬ (0 < (lg_cmp r10 0)) → Q ((-2147483648)) h9)))))) ∧
    (r4 = 0 → Q ((-2147483648)) h3))))))
def w_X8_cutUp (l0 : Int32) (l1 : Int32) (h : zz_Hp) (Q : Int32 → zz_Hp → Prop) : Prop :=
  
  ((0 < l1 → ¬ l1 = 0 ∧ Q (((l0 + l1) - 1) / l1) h) ∧
  (¬ (0 < l1) → Q 0 h))
def w_X2_needsFor_l5 (ag5 : Int32 × Int32 × zz_Hp → Prop) (Q : Int32 → zz_Hp → Prop)  (l3 : Int32) (l4 : Int32) (h : zz_Hp) : Prop :=
  
    (((h.1 35 1) ≤ l4 → Q l3 h) ∧
    (¬ ((h.1 35 1) ≤ l4) → vp_in l4 3 ∧ w_X7_by (h.1 36 (Int32.toNatClampNeg l4)) h (fun r2 h1 => w_X8_cutUp (l3 * 1000) r2 h1 (fun r4 h3 => ag5 (r4, l4 + 1, h3)))))
def w_X2_needsFor (l2 : Int32) (h : zz_Hp) (Q : Int32 → zz_Hp → Prop) : Prop :=
  lp (fun s ag => w_X2_needsFor_l5 ag Q  s.1 s.2.1 s.2.2) (l2, 0, h)
def w_X8_needs (l1 : Int32) (l2 : Int32) (l3 : Int32) (h : zz_Hp) (Q : Int32 → zz_Hp → Prop) : Prop :=
  w_X8_inRange l3 0 9999 h (fun r2 h1 => 
  ((r2 = 0 → Q ((-1)) h1) ∧
  (¬ (r2 = 0) → w_X2_lead l1 l2 h1 (fun r4 h3 => 
    ((¬ r4 = 0 → w_X2_needsFor l3 h3 (fun r6 h5 => Q r6 h5)) ∧
    (r4 = 0 → Q ((-1)) h3))))))
def w_J7_fill_53178_34_l5 (ag5 : Int32 × zz_Hp → Prop) (Q : zz_Hp → Prop) (l1 : Int32) (l3 : Int32) (l2 : Int32) (h : zz_Hp) : Prop :=
  
    ((l3 ≤ l2 → Q h) ∧
    (¬ (l3 ≤ l2) → vp_in l2 16 ∧ ∀ h1, h1 = zz_uI h 34 (Int32.toNatClampNeg l2) l1 → ag5 (l2 + 1, h1)))
def w_J7_fill_53178_34 (l1 : Int32) (h : zz_Hp) (Q : zz_Hp → Prop) : Prop :=
  lp (fun s ag => w_J7_fill_53178_34_l5 ag Q l1 16 s.1 s.2) (0, h)
def w_X6_draw_j65 (ag10 : Int32 × zz_Hp → Prop) (Q : zz_Hp → Prop) (l2 : Int32) (l3 : Int32) (s0 : Int32) (s1 : Int32) (h : zz_Hp) : Prop :=
  vp_in s1 85 ∧ ∀ h7, h7 = zz_uI h 33 (Int32.toNatClampNeg s1) s0 → vp_in l3 85 ∧ w_X7_isThread (h7.1 28 (Int32.toNatClampNeg l3)) h7 (fun r9 h8 => 
  ((r9 = 0 → ag10 (l3 + 1, h8)) ∧
  (¬ (r9 = 0) → vp_in l3 85 ∧ vp_in (h8.1 28 (Int32.toNatClampNeg l3)) 16 ∧ vp_in l3 85 ∧ vp_in l3 85 ∧ vp_in (h8.1 28 (Int32.toNatClampNeg l3)) 16 ∧ ∀ h10, h10 = zz_uI h8 34 (Int32.toNatClampNeg (h8.1 28 (Int32.toNatClampNeg l3))) ((h8.1 34 (Int32.toNatClampNeg (h8.1 28 (Int32.toNatClampNeg l3)))) + ((h8.1 30 (Int32.toNatClampNeg l3)) * (h8.1 33 (Int32.toNatClampNeg l3)))) → ag10 (l3 + 1, h10))))
def w_X6_draw_l10 (ag10 : Int32 × zz_Hp → Prop) (Q : zz_Hp → Prop) (l2 : Int32) (l3 : Int32) (h : zz_Hp) : Prop :=
  
    (((h.1 27 0) ≤ l3 → Q h) ∧
    (¬ ((h.1 27 0) ≤ l3) → vp_in l3 85 ∧ 
      ((0 ≤ (h.1 31 (Int32.toNatClampNeg l3)) → vp_in (h.1 31 (Int32.toNatClampNeg l3)) 85 ∧ vp_in (h.1 31 (Int32.toNatClampNeg l3)) 85 ∧ w_X7_by (h.1 28 (Int32.toNatClampNeg (h.1 31 (Int32.toNatClampNeg l3)))) h (fun r4 h3 => w_X8_cutUp ((h.1 33 (Int32.toNatClampNeg (h.1 31 (Int32.toNatClampNeg l3)))) * 1000) r4 h3 (fun r6 h5 => w_X6_draw_j65 ag10 Q l2 l3 r6 l3 h5))) ∧
      (¬ (0 ≤ (h.1 31 (Int32.toNatClampNeg l3))) → w_X6_draw_j65 ag10 Q l2 l3 l2 l3 h))))
def w_X6_draw (l2 : Int32) (h : zz_Hp) (Q : zz_Hp → Prop) : Prop :=
  w_J7_fill_53178_34 0 h (fun h1 => lp (fun s ag => w_X6_draw_l10 ag Q l2 s.1 s.2) (0, h1))
def w_X6_heavyOf_l4 (ag4 : Int32 × Int32 × zz_Hp → Prop) (Q : Int32 → zz_Hp → Prop)  (l2 : Int32) (l3 : Int32) (h : zz_Hp) : Prop :=
  
    (((h.1 2 0) ≤ l3 → Q (l2 / 100) h) ∧
    (¬ ((h.1 2 0) ≤ l3) → vp_in l3 16 ∧ w_X7_fact l3 1 h (fun r2 h1 => ag4 (l2 + ((h.1 34 (Int32.toNatClampNeg l3)) * r2), l3 + 1, h1))))
def w_X6_heavyOf  (h : zz_Hp) (Q : Int32 → zz_Hp → Prop) : Prop :=
  lp (fun s ag => w_X6_heavyOf_l4 ag Q  s.1 s.2.1 s.2.2) (0, 0, h)
def w_X8_heavy (l1 : Int32) (l2 : Int32) (h : zz_Hp) (Q : Int32 → zz_Hp → Prop) : Prop :=
  w_X7_has l1 h (fun r2 h1 => 
  ((r2 = 0 → Q ((-1)) h1) ∧
  (¬ (r2 = 0) → w_X8_inRange l2 0 9999 h1 (fun r4 h3 => 
    ((¬ r4 = 0 → w_X6_walk l1 ((-1)) h3 (fun h5 => w_X6_draw l2 h5 (fun h7 => w_X6_heavyOf  h7 (fun r10 h9 => Q r10 h9)))) ∧
    (r4 = 0 → Q ((-1)) h3))))))
def w_X7_isInside (l1 : Int32) (l2 : Int32) (h : zz_Hp) (Q : Int32 → zz_Hp → Prop) : Prop :=
  w_X7_fact l2 7 h (fun r2 h1 => 
  ((¬ ((r2 >>> (l1 &&& 31)) &&& 1) = 1 → Q 0 h1) ∧
  (((r2 >>> (l1 &&& 31)) &&& 1) = 1 → Q 1 h1)))
def w_X8_balance_l107 (ag97 : Int32 × Int32 × Int32 × zz_Hp → Prop) (ag107 : Int32 × Int32 × Int32 × Int32 × zz_Hp → Prop) (Q : Int32 → zz_Hp → Prop) (l3 : Int32) (l4 : Int32) (l5 : Int32) (l6 : Int32) (l7 : Int32) (h : zz_Hp) : Prop :=
  
    ((1 < l7 → ag97 (l4, l5, l6 + 1, h)) ∧
    (¬ (1 < l7) → w_X6_torqueBy (l7 * l6) h (fun r14 h13 => 
      (((if 0 ≤ l5 then l5 else 0 - l5) ≤ (if 0 ≤ r14 then r14 else 0 - r14) → ag107 (l4, l5, l6, l7 + 2, h13)) ∧
      (¬ ((if 0 ≤ l5 then l5 else 0 - l5) ≤ (if 0 ≤ r14 then r14 else 0 - r14)) → ag107 (l7 * l6, r14, l6, l7 + 2, h13))))))
def w_X8_balance_l97 (ag97 : Int32 × Int32 × Int32 × zz_Hp → Prop) (Q : Int32 → zz_Hp → Prop) (l3 : Int32) (l4 : Int32) (l5 : Int32) (l6 : Int32) (h : zz_Hp) : Prop :=
  
    ((99 < l6 → 
      ((¬ l3 = 0 → Q l5 h) ∧
      (l3 = 0 → Q l4 h))) ∧
    (¬ (99 < l6) → lp (fun s ag => w_X8_balance_l107 ag97 ag Q l3 s.1 s.2.1 s.2.2.1 s.2.2.2.1 s.2.2.2.2) (l4, l5, l6, (-1), h)))
def w_X8_balance (l1 : Int32) (l2 : Int32) (l3 : Int32) (h : zz_Hp) (Q : Int32 → zz_Hp → Prop) : Prop :=
  w_X7_has l1 h (fun r2 h1 => 
  ((r2 = 0 → Q ((-2147483648)) h1) ∧
  (¬ (r2 = 0) → w_X7_has l2 h1 (fun r4 h3 => 
    ((r4 = 0 → Q ((-2147483648)) h3) ∧
    (¬ (r4 = 0) → w_X8_inRange l3 0 1 h3 (fun r6 h5 => 
      ((¬ r6 = 0 → w_X7_isInside l2 l1 h5 (fun r8 h7 => 
        ((¬ r8 = 0 → w_X6_walk l1 l2 h7 (fun h9 => w_X6_torqueBy 0 h9 (fun r12 h11 => lp (fun s ag => w_X8_balance_l97 ag Q l3 s.1 s.2.1 s.2.2.1 s.2.2.2) (0, r12, 1, h11)))) ∧
        (r8 = 0 → Q ((-10000000)) h7)))) ∧
      (r6 = 0 → Q ((-2147483648)) h5)))))))))
def w_X8_plannedHeavy (l0 : Int32) (l1 : Int32) (l2 : Int32) (h : zz_Hp) (Q : Int32 → zz_Hp → Prop) : Prop :=
  w_X8_byOfPlied l1 l2 h (fun r2 h1 => w_X8_cutUp 100000 r2 h1 (fun r4 h3 => Q (((l2 * l0) * r4) / 100) h3))
def w_X8_plan_l65 (ag65 : Int32 × Int32 × zz_Hp → Prop) (Q : Int32 → zz_Hp → Prop) (l2 : Int32) (l3 : Int32) (l4 : Int32) (l5 : Int32) (l6 : Int32) (l7 : Int32) (h : zz_Hp) : Prop :=
  
    ((4 < l7 → 
      ((¬ l4 = 0 → w_X8_plannedHeavy l5 l2 l6 h (fun r12 h11 => Q r12 h11)) ∧
      (l4 = 0 → Q l6 h))) ∧
    (¬ (4 < l7) → w_X8_plannedHeavy l5 l2 l7 h (fun r14 h13 => w_X8_plannedHeavy l5 l2 l6 h13 (fun r16 h15 => 
      (((if 0 ≤ (r16 - l3) then (r16 - l3) else 0 - (r16 - l3)) ≤ (if 0 ≤ (r14 - l3) then (r14 - l3) else 0 - (r14 - l3)) → ag65 (l6, l7 + 1, h15)) ∧
      (¬ ((if 0 ≤ (r16 - l3) then (r16 - l3) else 0 - (r16 - l3)) ≤ (if 0 ≤ (r14 - l3) then (r14 - l3) else 0 - (r14 - l3))) → ag65 (l7, l7 + 1, h15)))))))
def w_X8_plan (l1 : Int32) (l2 : Int32) (l3 : Int32) (l4 : Int32) (h : zz_Hp) (Q : Int32 → zz_Hp → Prop) : Prop :=
  w_X7_isThread l1 h (fun r2 h1 => 
  ((r2 = 0 → Q ((-1)) h1) ∧
  (¬ (r2 = 0) → w_X8_canBeTold 0 l2 h1 (fun r4 h3 => 
    ((r4 = 0 → Q ((-1)) h3) ∧
    (¬ (r4 = 0) → w_X8_inRange l3 0 9999 h3 (fun r6 h5 => 
      ((r6 = 0 → Q ((-1)) h5) ∧
      (¬ (r6 = 0) → w_X8_inRange l4 0 1 h5 (fun r8 h7 => 
        ((¬ r8 = 0 → w_X7_fact l1 1 h7 (fun r10 h9 => lp (fun s ag => w_X8_plan_l65 ag Q l2 l3 l4 r10 s.1 s.2.1 s.2.2) (2, 3, h9))) ∧
        (r8 = 0 → Q ((-1)) h7))))))))))))
def w_X6_isInStock_l2 (ag2 : Int32 × zz_Hp → Prop) (Q : Int32 → zz_Hp → Prop)  (l2 : Int32) (h : zz_Hp) : Prop :=
  
    (((h.1 2 0) ≤ l2 → Q 1 h) ∧
    (¬ ((h.1 2 0) ≤ l2) → vp_in l2 16 ∧ w_X7_fact l2 3 h (fun r2 h1 => 
      (((h.1 34 (Int32.toNatClampNeg l2)) ≤ r2 → ag2 (l2 + 1, h1)) ∧
      (¬ ((h.1 34 (Int32.toNatClampNeg l2)) ≤ r2) → Q 0 h1)))))
def w_X6_isInStock  (h : zz_Hp) (Q : Int32 → zz_Hp → Prop) : Prop :=
  lp (fun s ag => w_X6_isInStock_l2 ag Q  s.1 s.2) (0, h)
def w_X8_can_l76 (ag76 : Int32 × Int32 × Int32 × zz_Hp → Prop) (Q : Int32 → zz_Hp → Prop)  (l2 : Int32) (l3 : Int32) (l4 : Int32) (h : zz_Hp) : Prop :=
  
    ((14 ≤ l4 → Q l2 h) ∧
    (¬ (14 ≤ l4) → 
      ((l3 ≤ l2 → Q l2 h) ∧
      (¬ (l3 ≤ l2) → w_X6_draw (((l2 + l3) + 1) / 2) h (fun h9 => w_X6_isInStock  h9 (fun r12 h11 => 
        ((r12 = 0 → ag76 (l2, (((l2 + l3) + 1) / 2) - 1, l4 + 1, h11)) ∧
        (¬ (r12 = 0) → ag76 (((l2 + l3) + 1) / 2, l3, l4 + 1, h11)))))))))
def w_X8_can (l1 : Int32) (h : zz_Hp) (Q : Int32 → zz_Hp → Prop) : Prop :=
  w_X7_has l1 h (fun r2 h1 => 
  ((¬ r2 = 0 → w_X7_isThread l1 h1 (fun r4 h3 => 
    ((r4 = 0 → w_X6_walk l1 ((-1)) h3 (fun h5 => w_X7_fact l1 3 h5 (fun r8 h7 => lp (fun s ag => w_X8_can_l76 ag Q  s.1 s.2.1 s.2.2.1 s.2.2.2) (0, if (99999 - r8) < 9999 then (99999 - r8) else 9999, 0, h7)))) ∧
    (¬ (r4 = 0) → Q ((-5)) h3)))) ∧
  (r2 = 0 → Q ((-1)) h1)))
def w_X8_areAlike_l77 (rc : Int32 → Int32 → Int32 → Int32 → zz_Hp → (Int32 → zz_Hp → Prop) → Prop) (ag77 : Int32 × zz_Hp → Prop) (Q : Int32 → zz_Hp → Prop) (l1 : Int32) (l2 : Int32) (l3 : Int32) (l4 : Int32) (l5 : Int32) (l6 : Int32) (h : zz_Hp) : Prop :=
  
    ((l5 ≤ l6 → Q 1 h) ∧
    (¬ (l5 ≤ l6) → w_X7_partAt l1 l6 h (fun r18 h17 => w_X7_partAt l2 l6 h17 (fun r20 h19 => rc r18 r20 l3 (l4 + 1) h19 (fun r22 h21 => 
      ((¬ r22 = 0 → ag77 (l6 + 1, h21)) ∧
      (r22 = 0 → Q 0 h21)))))))
def w_X8_areAlike_b (rc : Int32 → Int32 → Int32 → Int32 → zz_Hp → (Int32 → zz_Hp → Prop) → Prop) (l1 : Int32) (l2 : Int32) (l3 : Int32) (l4 : Int32) (h : zz_Hp) (Q : Int32 → zz_Hp → Prop) : Prop :=
  w_X7_fact l1 4 h (fun r2 h1 => 
  ((3 < l4 → Q 0 h1) ∧
  (¬ (3 < l4) → w_X7_fact l2 4 h1 (fun r4 h3 => 
    ((¬ r2 = r4 → Q 0 h3) ∧
    (r2 = r4 → w_X7_fact l1 0 h3 (fun r6 h5 => w_X7_fact l2 0 h5 (fun r8 h7 => 
      ((¬ r6 = (l3 * r8) → Q 0 h7) ∧
      (r6 = (l3 * r8) → w_X7_fact l1 2 h7 (fun r10 h9 => w_X7_fact l2 2 h9 (fun r12 h11 => 
        ((¬ r10 = r12 → Q 0 h11) ∧
        (r10 = r12 → w_X7_fact l1 1 h11 (fun r14 h13 => w_X7_fact l2 1 h13 (fun r16 h15 => 
          ((r14 = r16 → lp (fun s ag => w_X8_areAlike_l77 rc ag Q l1 l2 l3 l4 r2 s.1 s.2) (0, h15)) ∧
          (¬ (r14 = r16) → Q 0 h15))))))))))))))))))
def w_X8_areAlike : Nat → Int32 → Int32 → Int32 → Int32 → zz_Hp → (Int32 → zz_Hp → Prop) → Prop
  | 0 => fun _ _ _ _ _ _ => False
  | n + 1 => w_X8_areAlike_b (w_X8_areAlike n)
def w_X8_alike_j57 (Q : Int32 → zz_Hp → Prop)  (s0 : Int32) (s1 : Int32) (s2 : Int32) (h : zz_Hp) : Prop :=
  w_X8_areAlike 5 s2 s1 s0 0 h (fun r8 h7 => 
  ((r8 = 0 → Q 0 h7) ∧
  (¬ (r8 = 0) → Q 1 h7)))
def w_X8_alike (l1 : Int32) (l2 : Int32) (l3 : Int32) (h : zz_Hp) (Q : Int32 → zz_Hp → Prop) : Prop :=
  w_X7_has l1 h (fun r2 h1 => 
  ((r2 = 0 → Q ((-1)) h1) ∧
  (¬ (r2 = 0) → w_X7_has l2 h1 (fun r4 h3 => 
    ((r4 = 0 → Q ((-1)) h3) ∧
    (¬ (r4 = 0) → w_X8_inRange l3 0 1 h3 (fun r6 h5 => 
      ((¬ r6 = 0 → 
        ((¬ l3 = 0 → w_X8_alike_j57 Q  ((-1)) l2 l1 h5) ∧
        (l3 = 0 → w_X8_alike_j57 Q  1 l2 l1 h5))) ∧
      (r6 = 0 → Q ((-1)) h5)))))))))
def w_X8_inside (l1 : Int32) (h : zz_Hp) (Q : Int32 → zz_Hp → Prop) : Prop :=
  w_X7_has l1 h (fun r2 h1 => 
  ((r2 = 0 → Q ((-1)) h1) ∧
  (¬ (r2 = 0) → w_X7_fact l1 7 h1 (fun r4 h3 => Q r4 h3))))
def w_X6_takeFromStock_l2 (ag2 : Int32 × zz_Hp → Prop) (Q : zz_Hp → Prop)  (l2 : Int32) (h : zz_Hp) : Prop :=
  
    (((h.1 2 0) ≤ l2 → Q h) ∧
    (¬ ((h.1 2 0) ≤ l2) → w_X7_fact l2 3 h (fun r2 h1 => vp_in l2 16 ∧ w_X7_write l2 3 (r2 - (h1.1 34 (Int32.toNatClampNeg l2))) h1 (fun h3 => ag2 (l2 + 1, h3)))))
def w_X6_takeFromStock  (h : zz_Hp) (Q : zz_Hp → Prop) : Prop :=
  lp (fun s ag => w_X6_takeFromStock_l2 ag Q  s.1 s.2) (0, h)
def w_X8_makeYards (l1 : Int32) (l2 : Int32) (h : zz_Hp) (Q : Int32 → zz_Hp → Prop) : Prop :=
  w_X7_has l1 h (fun r2 h1 => 
  ((r2 = 0 → Q ((-1)) h1) ∧
  (¬ (r2 = 0) → w_X8_inRange l2 1 9999 h1 (fun r4 h3 => 
    ((¬ r4 = 0 → w_X7_isThread l1 h3 (fun r6 h5 => 
      ((¬ r6 = 0 → Q ((-5)) h5) ∧
      (r6 = 0 → w_X7_fact l1 3 h5 (fun r8 h7 => 
        (((r8 + l2) ≤ 99999 → w_X6_walk l1 ((-1)) h7 (fun h9 => w_X6_draw l2 h9 (fun h11 => w_X6_isInStock  h11 (fun r14 h13 => 
          ((¬ r14 = 0 → w_X6_takeFromStock  h13 (fun h15 => w_X7_fact l1 3 h15 (fun r18 h17 => w_X7_write l1 3 (r18 + l2) h17 (fun h19 => w_X7_fact l1 3 h19 (fun r22 h21 => Q r22 h21))))) ∧
          (r14 = 0 → Q ((-5)) h13)))))) ∧
        (¬ ((r8 + l2) ≤ 99999) → Q ((-5)) h7))))))) ∧
    (r4 = 0 → Q ((-1)) h3))))))
def w_X8_make (l1 : Int32) (l2 : Int32) (h : zz_Hp) (Q : Int32 → zz_Hp → Prop) : Prop :=
  w_X8_makeYards l1 l2 h (fun r2 h1 => 
  ((r2 < 0 → Q r2 h1) ∧
  (¬ (r2 < 0) → w_X1_empty_18  h1 (fun h3 => Q r2 h3))))
def w_X1_isFull_5  (h : zz_Hp) (Q : Int32 → zz_Hp → Prop) : Prop :=
  
  (((((h.1 5 0) + 1) * 3) ≤ 24 → Q 0 h) ∧
  (¬ ((((h.1 5 0) + 1) * 3) ≤ 24) → Q 1 h))
def w_X1_add_5 (l1 : Int32) (l2 : Int32) (l3 : Int32) (h : zz_Hp) (Q : zz_Hp → Prop) : Prop :=
  w_X1_isFull_5  h (fun r2 h1 => 
  ((¬ r2 = 0 → Q h1) ∧
  (r2 = 0 → vp_in ((h1.1 5 0) * 3) 24 ∧ ∀ h3, h3 = zz_uI h1 6 (Int32.toNatClampNeg ((h1.1 5 0) * 3)) l1 → vp_in (((h3.1 5 0) * 3) + 1) 24 ∧ ∀ h4, h4 = zz_uI h3 6 (Int32.toNatClampNeg (((h3.1 5 0) * 3) + 1)) l2 → vp_in (((h4.1 5 0) * 3) + 2) 24 ∧ ∀ h5, h5 = zz_uI h4 6 (Int32.toNatClampNeg (((h4.1 5 0) * 3) + 2)) l3 → ∀ h6, h6 = zz_uI h5 5 0 ((h5.1 5 0) + 1) → Q h6)))
def w_X8_lay (l1 : Int32) (l2 : Int32) (l3 : Int32) (h : zz_Hp) (Q : Int32 → zz_Hp → Prop) : Prop :=
  
  ((¬ l1 = ((-1)) → w_X7_has l1 h (fun r2 h1 => 
    ((r2 = 0 → Q ((-1)) h1) ∧
    (¬ (r2 = 0) → w_X8_inRange l2 1 40 h1 (fun r4 h3 => 
      ((r4 = 0 → Q ((-1)) h3) ∧
      (¬ (r4 = 0) → w_X8_inRange l3 0 1 h3 (fun r6 h5 => 
        ((¬ r6 = 0 → w_X1_isFull_5  h5 (fun r8 h7 => 
          ((r8 = 0 → w_X1_add_5 l1 l2 l3 h7 (fun h9 => Q (h9.1 5 0) h9)) ∧
          (¬ (r8 = 0) → Q ((-3)) h7)))) ∧
        (r6 = 0 → Q ((-1)) h5)))))))))) ∧
  (l1 = ((-1)) → w_X1_empty_5  h (fun h11 => Q 0 h11)))
def w_X4_behind_l4 (ag4 : Int32 × Int32 × zz_Hp → Prop) (Q : Int32 → zz_Hp → Prop) (l1 : Int32) (l2 : Int32) (l3 : Int32) (h : zz_Hp) : Prop :=
  
    ((l1 ≤ l3 → Q l2 h) ∧
    (¬ (l1 ≤ l3) → 
      (((h.1 37 0) ≤ l3 → Q l2 h) ∧
      (¬ ((h.1 37 0) ≤ l3) → vp_in l3 8 ∧ ag4 (l2 + (h.1 38 (Int32.toNatClampNeg l3)), l3 + 1, h)))))
def w_X4_behind (l1 : Int32) (h : zz_Hp) (Q : Int32 → zz_Hp → Prop) : Prop :=
  lp (fun s ag => w_X4_behind_l4 ag Q l1 s.1 s.2.1 s.2.2) (0, 0, h)
def w_X1_at_5 (l1 : Int32) (l2 : Int32) (h : zz_Hp) (Q : Int32 → zz_Hp → Prop) : Prop :=
  vp_in ((l1 * 3) + l2) 24 ∧ Q (h.1 6 (Int32.toNatClampNeg ((l1 * 3) + l2))) h
def w_X8_weighLayers_l21 (ag21 : Int32 × zz_Hp → Prop) (Q : zz_Hp → Prop)  (l2 : Int32) (h : zz_Hp) : Prop :=
  
    (((h.1 5 0) ≤ l2 → Q h) ∧
    (¬ ((h.1 5 0) ≤ l2) → w_X1_at_5 l2 0 h (fun r3 h2 => w_X8_torqueOf r3 h2 (fun r5 h4 => w_X1_at_5 l2 1 h4 (fun r7 h6 => w_X1_at_5 l2 2 h6 (fun r9 h8 => 
      ((¬ r9 = 1 → vp_in l2 8 ∧ ∀ h10, h10 = zz_uI h8 38 (Int32.toNatClampNeg l2) (r5 * r7) → ag21 (l2 + 1, h10)) ∧
      (r9 = 1 → vp_in l2 8 ∧ ∀ h11, h11 = zz_uI h8 38 (Int32.toNatClampNeg l2) (-(r5 * r7)) → ag21 (l2 + 1, h11)))))))))
def w_X8_weighLayers  (h : zz_Hp) (Q : zz_Hp → Prop) : Prop :=
  ∀ h1, h1 = zz_uI h 37 0 (h.1 5 0) → lp (fun s ag => w_X8_weighLayers_l21 ag Q  s.1 s.2) (0, h1)
def w_X8_skew (l1 : Int32) (h : zz_Hp) (Q : Int32 → zz_Hp → Prop) : Prop :=
  w_X8_inRange l1 0 (h.1 5 0) h (fun r2 h1 => 
  ((¬ r2 = 0 → w_X8_weighLayers  h1 (fun h3 => w_X4_behind l1 h3 (fun r6 h5 => Q r6 h5))) ∧
  (r2 = 0 → Q ((-2147483648)) h1)))
def w_X4_worstBehind_l6 (ag6 : Int32 × Int32 × Int32 × zz_Hp → Prop) (Q : Int32 → zz_Hp → Prop)  (l1 : Int32) (l2 : Int32) (l3 : Int32) (h : zz_Hp) : Prop :=
  
    (((h.1 37 0) ≤ l3 → Q l2 h) ∧
    (¬ ((h.1 37 0) ≤ l3) → vp_in l3 8 ∧ ag6 (l1 + (h.1 38 (Int32.toNatClampNeg l3)), if l2 < (if 0 ≤ (l1 + (h.1 38 (Int32.toNatClampNeg l3))) then (l1 + (h.1 38 (Int32.toNatClampNeg l3))) else 0 - (l1 + (h.1 38 (Int32.toNatClampNeg l3)))) then (if 0 ≤ (l1 + (h.1 38 (Int32.toNatClampNeg l3))) then (l1 + (h.1 38 (Int32.toNatClampNeg l3))) else 0 - (l1 + (h.1 38 (Int32.toNatClampNeg l3)))) else l2, l3 + 1, h)))
def w_X4_worstBehind  (h : zz_Hp) (Q : Int32 → zz_Hp → Prop) : Prop :=
  lp (fun s ag => w_X4_worstBehind_l6 ag Q  s.1 s.2.1 s.2.2.1 s.2.2.2) (0, 0, 0, h)
def w_X8_worst  (h : zz_Hp) (Q : Int32 → zz_Hp → Prop) : Prop :=
  w_X8_weighLayers  h (fun h1 => w_X4_worstBehind  h1 (fun r4 h3 => Q r4 h3))
def w_X4_findReaches_l33 (ag11 : Int32 × zz_Hp → Prop) (ag33 : Int32 × Int32 × Int32 × Int32 × Int32 × zz_Hp → Prop) (Q : zz_Hp → Prop)  (l1 : Int32) (l2 : Int32) (l3 : Int32) (l4 : Int32) (l5 : Int32) (h : zz_Hp) : Prop :=
  
    (((h.1 37 0) ≤ l5 → vp_in l2 256 ∧ ∀ h1, h1 = zz_uI h 39 (Int32.toNatClampNeg l2) (if l4 < (if 0 ≤ l3 then l3 else 0 - l3) then (if 0 ≤ l3 then l3 else 0 - l3) else l4) → ag11 (l2 + (-1), h1)) ∧
    (¬ ((h.1 37 0) ≤ l5) → 
      ((¬ ((l2 >>> (l5 &&& 31)) &&& 1) = 1 → vp_in (l2 ||| (1 <<< (l5 &&& 31))) 256 ∧ ag33 (l1, l2, l3, if (h.1 39 (Int32.toNatClampNeg (l2 ||| (1 <<< (l5 &&& 31))))) < l4 then (h.1 39 (Int32.toNatClampNeg (l2 ||| (1 <<< (l5 &&& 31))))) else l4, l5 + 1, h)) ∧
      (((l2 >>> (l5 &&& 31)) &&& 1) = 1 → vp_in l5 8 ∧ ag33 (l1, l2, l3 + (h.1 38 (Int32.toNatClampNeg l5)), l4, l5 + 1, h)))))
def w_X4_findReaches_l11 (ag11 : Int32 × zz_Hp → Prop) (Q : zz_Hp → Prop) (l1 : Int32) (l2 : Int32) (h : zz_Hp) : Prop :=
  
    ((l2 < 0 → Q h) ∧
    (¬ (l2 < 0) → 
      ((¬ l2 = l1 → lp (fun s ag => w_X4_findReaches_l33 ag11 ag Q  s.1 s.2.1 s.2.2.1 s.2.2.2.1 s.2.2.2.2.1 s.2.2.2.2.2) (l1, l2, 0, 2147483647, 0, h)) ∧
      (l2 = l1 → lp (fun s ag => w_X4_findReaches_l33 ag11 ag Q  s.1 s.2.1 s.2.2.1 s.2.2.2.1 s.2.2.2.2.1 s.2.2.2.2.2) (l1, l2, 0, 0, 0, h)))))
def w_X4_findReaches  (h : zz_Hp) (Q : zz_Hp → Prop) : Prop :=
  lp (fun s ag => w_X4_findReaches_l11 ag Q ((1 <<< ((h.1 37 0) &&& 31)) - 1) s.1 s.2) ((1 <<< ((h.1 37 0) &&& 31)) - 1, h)
def w_X4_isBest (l1 : Int32) (l2 : Int32) (h : zz_Hp) (Q : Int32 → zz_Hp → Prop) : Prop :=
  
  ((¬ ((l1 >>> (l2 &&& 31)) &&& 1) = 0 → Q 0 h) ∧
  (((l1 >>> (l2 &&& 31)) &&& 1) = 0 → vp_in (l1 ||| (1 <<< (l2 &&& 31))) 256 ∧ vp_in 0 256 ∧ 
    (((h.1 39 (Int32.toNatClampNeg 0)) < (h.1 39 (Int32.toNatClampNeg (l1 ||| (1 <<< (l2 &&& 31))))) → Q 0 h) ∧
    (¬ ((h.1 39 (Int32.toNatClampNeg 0)) < (h.1 39 (Int32.toNatClampNeg (l1 ||| (1 <<< (l2 &&& 31)))))) → Q 1 h))))
def w_X4_inBestOrder_j50 (ag8 : Int32 × Int32 × Int32 × zz_Hp → Prop) (ag25 : Int32 × Int32 × Int32 × zz_Hp → Prop) (Q : Int32 → zz_Hp → Prop) (l1 : Int32) (l2 : Int32) (l3 : Int32) (l4 : Int32)  (h : zz_Hp) : Prop :=
  ag8 (l2 ||| (1 <<< (l3 &&& 31)), l3, l4 + 1, h)
def w_X4_inBestOrder_l25 (ag8 : Int32 × Int32 × Int32 × zz_Hp → Prop) (ag25 : Int32 × Int32 × Int32 × zz_Hp → Prop) (Q : Int32 → zz_Hp → Prop) (l1 : Int32) (l2 : Int32) (l3 : Int32) (l4 : Int32) (h : zz_Hp) : Prop :=
  
    (((h.1 37 0) ≤ (l3 + 1) → w_X4_inBestOrder_j50 ag8 ag25 Q l1 l2 l3 l4  h) ∧
    (¬ ((h.1 37 0) ≤ (l3 + 1)) → w_X4_isBest l2 l3 h (fun r2 h1 => 
      ((¬ r2 = 0 → w_X4_inBestOrder_j50 ag8 ag25 Q l1 l2 l3 l4  h1) ∧
      (r2 = 0 → ag25 (l2, l3 + 1, l4, h1))))))
def w_X4_inBestOrder_l8 (ag8 : Int32 × Int32 × Int32 × zz_Hp → Prop) (Q : Int32 → zz_Hp → Prop) (l1 : Int32) (l2 : Int32) (l3 : Int32) (l4 : Int32) (h : zz_Hp) : Prop :=
  
    ((l1 < l4 → Q l3 h) ∧
    (¬ (l1 < l4) → 
      (((h.1 37 0) ≤ l4 → Q l3 h) ∧
      (¬ ((h.1 37 0) ≤ l4) → lp (fun s ag => w_X4_inBestOrder_l25 ag8 ag Q l1 s.1 s.2.1 s.2.2.1 s.2.2.2) (l2, 0, l4, h)))))
def w_X4_inBestOrder (l1 : Int32) (h : zz_Hp) (Q : Int32 → zz_Hp → Prop) : Prop :=
  lp (fun s ag => w_X4_inBestOrder_l8 ag Q l1 s.1 s.2.1 s.2.2.1 s.2.2.2) (0, (-2), 0, h)
def w_X4_leastWorst  (h : zz_Hp) (Q : Int32 → zz_Hp → Prop) : Prop :=
  vp_in 0 256 ∧ Q (h.1 39 (Int32.toNatClampNeg 0)) h
def w_X8_order (l1 : Int32) (h : zz_Hp) (Q : Int32 → zz_Hp → Prop) : Prop :=
  w_X8_inRange l1 ((-1)) ((h.1 5 0) - 1) h (fun r2 h1 => 
  ((¬ r2 = 0 → w_X8_weighLayers  h1 (fun h3 => w_X4_findReaches  h3 (fun h5 => 
    ((0 ≤ l1 → w_X4_inBestOrder l1 h5 (fun r8 h7 => Q r8 h7)) ∧
    (¬ (0 ≤ l1) → w_X4_leastWorst  h5 (fun r10 h9 => Q r10 h9)))))) ∧
  (r2 = 0 → Q ((-1)) h1)))
def w_X4_bestToTurn_l10 (ag10 : Int32 × Int32 × Int32 × zz_Hp → Prop) (Q : Int32 → zz_Hp → Prop)  (l1 : Int32) (l2 : Int32) (l3 : Int32) (h : zz_Hp) : Prop :=
  
    (((h.1 37 0) ≤ l3 → Q l2 h) ∧
    (¬ ((h.1 37 0) ≤ l3) → vp_in l3 8 ∧ vp_in l3 8 ∧ ∀ h3, h3 = zz_uI h 38 (Int32.toNatClampNeg l3) (-(h.1 38 (Int32.toNatClampNeg l3))) → w_X4_worstBehind  h3 (fun r5 h4 => vp_in l3 8 ∧ vp_in l3 8 ∧ ∀ h6, h6 = zz_uI h4 38 (Int32.toNatClampNeg l3) (-(h4.1 38 (Int32.toNatClampNeg l3))) → 
      ((l1 ≤ r5 → ag10 (l1, l2, l3 + 1, h6)) ∧
      (¬ (l1 ≤ r5) → ag10 (r5, l3, l3 + 1, h6))))))
def w_X4_bestToTurn  (h : zz_Hp) (Q : Int32 → zz_Hp → Prop) : Prop :=
  w_X4_worstBehind  h (fun r2 h1 => lp (fun s ag => w_X4_bestToTurn_l10 ag Q  s.1 s.2.1 s.2.2.1 s.2.2.2) (r2, (-2), 0, h1))
def w_X8_turned  (h : zz_Hp) (Q : Int32 → zz_Hp → Prop) : Prop :=
  w_X8_weighLayers  h (fun h1 => w_X4_bestToTurn  h1 (fun r4 h3 => Q r4 h3))
def w_X3_has (l1 : Int32) (h : zz_Hp) (Q : Int32 → zz_Hp → Prop) : Prop :=
  
  ((l1 < 0 → Q 0 h) ∧
  (¬ (l1 < 0) → 
    ((3 ≤ l1 → Q 0 h) ∧
    (¬ (3 ≤ l1) → Q 1 h))))
def w_X3_isMissing (l1 : Int32) (h : zz_Hp) (Q : Int32 → zz_Hp → Prop) : Prop :=
  vp_in l1 3 ∧ 
  ((0 ≤ (h.1 22 (Int32.toNatClampNeg l1)) → Q 0 h) ∧
  (¬ (0 ≤ (h.1 22 (Int32.toNatClampNeg l1))) → Q 1 h))
def w_X3_placeAt (l1 : Int32) (l2 : Int32) (h : zz_Hp) (Q : Int32 → zz_Hp → Prop) : Prop :=
  vp_in ((l1 * 40) + l2) 120 ∧ Q (h.1 23 (Int32.toNatClampNeg ((l1 * 40) + l2))) h
def w_X3_sizeOf (l1 : Int32) (h : zz_Hp) (Q : Int32 → zz_Hp → Prop) : Prop :=
  vp_in l1 3 ∧ Q (h.1 22 (Int32.toNatClampNeg l1)) h
def w_X6_pullsOf_l6 (ag6 : Int32 × Int32 × zz_Hp → Prop) (Q : Int32 → zz_Hp → Prop) (l1 : Int32) (l2 : Int32) (l3 : Int32) (l4 : Int32) (l5 : Int32) (l6 : Int32) (h : zz_Hp) : Prop :=
  
    (((h.1 27 0) ≤ l6 → Q l5 h) ∧
    (¬ ((h.1 27 0) ≤ l6) → vp_in l6 85 ∧ 
      ((¬ (h.1 28 (Int32.toNatClampNeg l6)) = l1 → ag6 (l5, l6 + 1, h)) ∧
      ((h.1 28 (Int32.toNatClampNeg l6)) = l1 → vp_in l6 85 ∧ w_X6_turnBy l6 l4 h (fun r2 h1 => w_X8_fibrePull l2 l3 r2 h1 (fun r4 h3 => ag6 (l5 + ((h.1 30 (Int32.toNatClampNeg l6)) * r4), l6 + 1, h3)))))))
def w_X6_pullsOf (l1 : Int32) (l2 : Int32) (l3 : Int32) (l4 : Int32) (h : zz_Hp) (Q : Int32 → zz_Hp → Prop) : Prop :=
  lp (fun s ag => w_X6_pullsOf_l6 ag Q l1 l2 l3 l4 s.1 s.2.1 s.2.2) (0, 0, h)
def w_X8_isFitting_l3 (ag3 : Int32 × zz_Hp → Prop) (Q : Int32 → zz_Hp → Prop) (l1 : Int32) (l2 : Int32) (l3 : Int32) (l4 : Int32) (l5 : Int32) (h : zz_Hp) : Prop :=
  
    ((l4 ≤ l5 → Q 1 h) ∧
    (¬ (l4 ≤ l5) → w_X6_pullsOf l1 l2 l3 l5 h (fun r2 h1 => vp_in l5 40 ∧ 
      ((r2 = (h1.1 40 (Int32.toNatClampNeg l5)) → ag3 (l5 + 1, h1)) ∧
      (¬ (r2 = (h1.1 40 (Int32.toNatClampNeg l5))) → Q 0 h1)))))
def w_X8_isFitting (l1 : Int32) (l2 : Int32) (l3 : Int32) (l4 : Int32) (h : zz_Hp) (Q : Int32 → zz_Hp → Prop) : Prop :=
  lp (fun s ag => w_X8_isFitting_l3 ag Q l1 l2 l3 l4 s.1 s.2) (0, h)
def w_X8_fittingFibres_l5 (ag5 : Int32 × Int32 × zz_Hp → Prop) (Q : Int32 → zz_Hp → Prop) (l1 : Int32) (l2 : Int32) (l3 : Int32) (l4 : Int32) (h : zz_Hp) : Prop :=
  
    ((4 ≤ l4 → Q l3 h) ∧
    (¬ (4 ≤ l4) → w_X7_fact l1 1 h (fun r2 h1 => w_X8_isFitting l1 l4 r2 l2 h1 (fun r4 h3 => 
      ((r4 = 0 → ag5 (l3, l4 + 1, h3)) ∧
      (¬ (r4 = 0) → ag5 (l3 ||| (1 <<< (l4 &&& 31)), l4 + 1, h3)))))))
def w_X8_fittingFibres (l1 : Int32) (l2 : Int32) (h : zz_Hp) (Q : Int32 → zz_Hp → Prop) : Prop :=
  lp (fun s ag => w_X8_fittingFibres_l5 ag Q l1 l2 s.1 s.2.1 s.2.2) (0, 0, h)
def w_X8_fittingWeights_l11 (ag11 : Int32 × Int32 × Int32 × zz_Hp → Prop) (Q : Int32 → zz_Hp → Prop) (l1 : Int32) (l2 : Int32) (l3 : Int32) (l4 : Int32) (l5 : Int32) (l6 : Int32) (h : zz_Hp) : Prop :=
  
    ((l6 < 1 → 
      ((¬ l3 = 1 → Q l5 h) ∧
      (l3 = 1 → Q l4 h))) ∧
    (¬ (l6 < 1) → w_X7_fact l1 2 h (fun r2 h1 => w_X8_isFitting l1 r2 l6 l2 h1 (fun r4 h3 => 
      ((r4 = 0 → ag11 (l4, l5, l6 + (-1), h3)) ∧
      (¬ (r4 = 0) → ag11 (l4 + 1, l6, l6 + (-1), h3)))))))
def w_X8_fittingWeights (l1 : Int32) (l2 : Int32) (l3 : Int32) (h : zz_Hp) (Q : Int32 → zz_Hp → Prop) : Prop :=
  lp (fun s ag => w_X8_fittingWeights_l11 ag Q l1 l2 l3 s.1 s.2.1 s.2.2.1 s.2.2.2) (0, (-2), 99, h)
def w_X8_fits_l154 (ag154 : Int32 × zz_Hp → Prop) (Q : Int32 → zz_Hp → Prop) (l1 : Int32) (l2 : Int32) (l5 : Int32) (l7 : Int32) (l9 : Int32) (h : zz_Hp) : Prop :=
  
    ((l2 ≤ l9 → 
      ((¬ l5 = 0 → w_X8_fittingWeights l7 l2 l5 h (fun r22 h21 => Q r22 h21)) ∧
      (l5 = 0 → w_X8_fittingFibres l7 l2 h (fun r24 h23 => Q r24 h23)))) ∧
    (¬ (l2 ≤ l9) → w_X3_placeAt l1 l9 h (fun r26 h25 => w_X6_torqueWithout l7 l9 h25 (fun r28 h27 => vp_in l9 40 ∧ ∀ h29, h29 = zz_uI h27 40 (Int32.toNatClampNeg l9) (r26 - r28) → ag154 (l9 + 1, h29)))))
def w_X8_fits (l1 : Int32) (l2 : Int32) (l3 : Int32) (l4 : Int32) (l5 : Int32) (h : zz_Hp) (Q : Int32 → zz_Hp → Prop) : Prop :=
  w_X3_has l1 h (fun r2 h1 => 
  ((r2 = 0 → Q ((-1)) h1) ∧
  (¬ (r2 = 0) → w_X8_inRange l2 0 40 h1 (fun r4 h3 => 
    ((r4 = 0 → Q ((-1)) h3) ∧
    (¬ (r4 = 0) → w_X7_has l3 h3 (fun r6 h5 => 
      ((r6 = 0 → Q ((-1)) h5) ∧
      (¬ (r6 = 0) → 
        ((l4 < 0 → Q ((-1)) h5) ∧
        (¬ (l4 < 0) → w_X7_isThread (l4 / 16) h5 (fun r8 h7 => 
          ((r8 = 0 → Q ((-1)) h7) ∧
          (¬ (r8 = 0) → w_X7_has (l4 - l4 / 16 * 16) h7 (fun r10 h9 => 
            ((r10 = 0 → Q ((-1)) h9) ∧
            (¬ (r10 = 0) → w_X8_inRange l5 0 2 h9 (fun r12 h11 => 
              ((¬ r12 = 0 → w_X7_isInside (l4 - l4 / 16 * 16) l3 h11 (fun r14 h13 => 
                ((¬ r14 = 0 → w_X3_isMissing l1 h13 (fun r16 h15 => 
                  ((r16 = 0 → w_X3_sizeOf l1 h15 (fun r18 h17 => 
                    ((l2 ≤ r18 → w_X6_walk l3 (l4 - l4 / 16 * 16) h17 (fun h19 => lp (fun s ag => w_X8_fits_l154 ag Q l1 l2 l5 (l4 / 16) s.1 s.2) (0, h19))) ∧
                    (¬ (l2 ≤ r18) → Q ((-13)) h17)))) ∧
                  (¬ (r16 = 0) → Q ((-11)) h15)))) ∧
                (r14 = 0 → Q ((-5)) h13)))) ∧
              (r12 = 0 → Q ((-1)) h11))))))))))))))))))))
def w_X1_isFull_7  (h : zz_Hp) (Q : Int32 → zz_Hp → Prop) : Prop :=
  
  (((((h.1 7 0) + 1) * 3) ≤ 24 → Q 0 h) ∧
  (¬ ((((h.1 7 0) + 1) * 3) ≤ 24) → Q 1 h))
def w_X1_add_7 (l1 : Int32) (l2 : Int32) (l3 : Int32) (h : zz_Hp) (Q : zz_Hp → Prop) : Prop :=
  w_X1_isFull_7  h (fun r2 h1 => 
  ((¬ r2 = 0 → Q h1) ∧
  (r2 = 0 → vp_in ((h1.1 7 0) * 3) 24 ∧ ∀ h3, h3 = zz_uI h1 8 (Int32.toNatClampNeg ((h1.1 7 0) * 3)) l1 → vp_in (((h3.1 7 0) * 3) + 1) 24 ∧ ∀ h4, h4 = zz_uI h3 8 (Int32.toNatClampNeg (((h3.1 7 0) * 3) + 1)) l2 → vp_in (((h4.1 7 0) * 3) + 2) 24 ∧ ∀ h5, h5 = zz_uI h4 8 (Int32.toNatClampNeg (((h4.1 7 0) * 3) + 2)) l3 → ∀ h6, h6 = zz_uI h5 7 0 ((h5.1 7 0) + 1) → Q h6)))
def w_X8_job (l1 : Int32) (l2 : Int32) (h : zz_Hp) (Q : Int32 → zz_Hp → Prop) : Prop :=
  w_X7_has l1 h (fun r2 h1 => 
  ((r2 = 0 → Q ((-1)) h1) ∧
  (¬ (r2 = 0) → w_X8_inRange l2 1 9999 h1 (fun r4 h3 => 
    ((¬ r4 = 0 → w_X7_isThread l1 h3 (fun r6 h5 => 
      ((r6 = 0 → w_X1_isFull_7  h5 (fun r8 h7 => 
        ((r8 = 0 → w_X1_add_7 l1 l2 0 h7 (fun h9 => Q (h9.1 7 0) h9)) ∧
        (¬ (r8 = 0) → Q ((-3)) h7)))) ∧
      (¬ (r6 = 0) → Q ((-5)) h5)))) ∧
    (r4 = 0 → Q ((-1)) h3))))))
def w_X1_at_7 (l1 : Int32) (l2 : Int32) (h : zz_Hp) (Q : Int32 → zz_Hp → Prop) : Prop :=
  vp_in ((l1 * 3) + l2) 24 ∧ Q (h.1 8 (Int32.toNatClampNeg ((l1 * 3) + l2))) h
def w_X1_drop_7 (l1 : Int32) (h : zz_Hp) (Q : zz_Hp → Prop) : Prop :=
  
  ((l1 < 0 → Q h) ∧
  (¬ (l1 < 0) → 
    (((h.1 7 0) ≤ l1 → Q h) ∧
    (¬ ((h.1 7 0) ≤ l1) → ¬ ((l1 + 1) * 3) < 0 ∧ ¬ (l1 * 3) < 0 ∧ ¬ ((((h.1 7 0) - l1) - 1) * 3) < 0 ∧ Int32.toNatClampNeg ((l1 + 1) * 3) + Int32.toNatClampNeg ((((h.1 7 0) - l1) - 1) * 3) ≤ 24 ∧ Int32.toNatClampNeg (l1 * 3) + Int32.toNatClampNeg ((((h.1 7 0) - l1) - 1) * 3) ≤ 24 ∧ ∀ h1, h1 = zz_uC h 8 8 (Int32.toNatClampNeg ((l1 + 1) * 3)) (Int32.toNatClampNeg (l1 * 3)) (Int32.toNatClampNeg ((((h.1 7 0) - l1) - 1) * 3)) → ∀ h2, h2 = zz_uI h1 7 0 ((h1.1 7 0) - 1) → Q h2))))
def w_X8_do1  (h : zz_Hp) (Q : Int32 → zz_Hp → Prop) : Prop :=
  
  ((¬ (h.1 7 0) = 0 → w_X1_at_7 0 0 h (fun r2 h1 => w_X1_at_7 0 1 h1 (fun r4 h3 => w_X8_makeYards r2 r4 h3 (fun r6 h5 => 
    ((0 ≤ r6 → w_X1_drop_7 0 h5 (fun h7 => w_X1_empty_18  h7 (fun h9 => Q (h9.1 7 0) h9))) ∧
    (¬ (0 ≤ r6) → Q ((-5)) h5)))))) ∧
  ((h.1 7 0) = 0 → Q ((-2)) h))
def w_X8_strike_l31 (ag31 : Int32 × zz_Hp → Prop) (Q : Int32 → zz_Hp → Prop) (l1 : Int32) (l2 : Int32) (l3 : Int32) (h : zz_Hp) : Prop :=
  
    ((l3 < 0 → Q (l2 - (h.1 7 0)) h) ∧
    (¬ (l3 < 0) → w_X1_at_7 l3 0 h (fun r4 h3 => 
      ((¬ r4 = l1 → ag31 (l3 + (-1), h3)) ∧
      (r4 = l1 → w_X1_drop_7 l3 h3 (fun h5 => ag31 (l3 + (-1), h5)))))))
def w_X8_strike (l1 : Int32) (h : zz_Hp) (Q : Int32 → zz_Hp → Prop) : Prop :=
  w_X7_has l1 h (fun r2 h1 => 
  ((¬ r2 = 0 → lp (fun s ag => w_X8_strike_l31 ag Q l1 (h1.1 7 0) s.1 s.2) ((h1.1 7 0) - 1, h1)) ∧
  (r2 = 0 → Q ((-1)) h1)))
def w_X1_reverse_l16 (ag9 : Int32 × Int32 × zz_Hp → Prop) (ag16 : Int32 × Int32 × Int32 × zz_Hp → Prop) (Q : zz_Hp → Prop)  (l1 : Int32) (l2 : Int32) (l3 : Int32) (h : zz_Hp) : Prop :=
  
    ((3 ≤ l3 → ag9 (l1 + 1, l2 + (-1), h)) ∧
    (¬ (3 ≤ l3) → vp_in ((l1 * 3) + l3) 24 ∧ vp_in ((l2 * 3) + l3) 24 ∧ vp_in ((l1 * 3) + l3) 24 ∧ ∀ h1, h1 = zz_uI h 8 (Int32.toNatClampNeg ((l1 * 3) + l3)) (h.1 8 (Int32.toNatClampNeg ((l2 * 3) + l3))) → vp_in ((l2 * 3) + l3) 24 ∧ ∀ h2, h2 = zz_uI h1 8 (Int32.toNatClampNeg ((l2 * 3) + l3)) (h.1 8 (Int32.toNatClampNeg ((l1 * 3) + l3))) → ag16 (l1, l2, l3 + 1, h2)))
def w_X1_reverse_l9 (ag9 : Int32 × Int32 × zz_Hp → Prop) (Q : zz_Hp → Prop)  (l1 : Int32) (l2 : Int32) (h : zz_Hp) : Prop :=
  
    ((l2 ≤ l1 → Q h) ∧
    (¬ (l2 ≤ l1) → lp (fun s ag => w_X1_reverse_l16 ag9 ag Q  s.1 s.2.1 s.2.2.1 s.2.2.2) (l1, l2, 0, h)))
def w_X1_reverse  (h : zz_Hp) (Q : zz_Hp → Prop) : Prop :=
  lp (fun s ag => w_X1_reverse_l9 ag Q  s.1 s.2.1 s.2.2) (0, (h.1 7 0) - 1, h)
def w_X8_about  (h : zz_Hp) (Q : Int32 → zz_Hp → Prop) : Prop :=
  w_X1_reverse  h (fun h1 => Q (h1.1 7 0) h1)
def w_X8_jobOf (l1 : Int32) (l2 : Int32) (h : zz_Hp) (Q : Int32 → zz_Hp → Prop) : Prop :=
  w_X8_inRange l2 0 1 h (fun r2 h1 => 
  ((¬ r2 = 0 → w_X8_inRange l1 0 ((h1.1 7 0) - 1) h1 (fun r4 h3 => 
    ((r4 = 0 → Q ((-2)) h3) ∧
    (¬ (r4 = 0) → w_X1_at_7 l1 l2 h3 (fun r6 h5 => Q r6 h5))))) ∧
  (r2 = 0 → Q ((-1)) h1)))
def w_X1_at_18 (l1 : Int32) (l2 : Int32) (h : zz_Hp) (Q : Int32 → zz_Hp → Prop) : Prop :=
  vp_in ((l1 * 3) + l2) 30 ∧ Q (h.1 19 (Int32.toNatClampNeg ((l1 * 3) + l2))) h
def w_X8_back  (h : zz_Hp) (Q : Int32 → zz_Hp → Prop) : Prop :=
  
  ((¬ (h.1 18 0) = 0 → w_X1_at_18 ((h.1 18 0) - 1) 0 h (fun r2 h1 => w_X1_at_18 ((h.1 18 0) - 1) 1 h1 (fun r4 h3 => w_X1_at_18 ((h.1 18 0) - 1) 2 h3 (fun r6 h5 => w_X7_tell r2 r4 r6 h5 (fun r8 h7 => w_X1_drop_18 ((h.1 18 0) - 1) h7 (fun h9 => Q (h9.1 18 0) h9)))))) ∧
  ((h.1 18 0) = 0 → Q ((-5)) h))
def w_X5_add (l1 : Int32) (h : zz_Hp) (Q : Int32 → zz_Hp → Prop) : Prop :=
  
  (((h.1 24 0) < 80 → vp_in (h.1 24 0) 80 ∧ ∀ h1, h1 = zz_uI h 26 (Int32.toNatClampNeg (h.1 24 0)) (Int8.toInt32 (Int32.toInt8 (Int8.toInt32 (Int32.toInt8 l1)))) → ∀ h2, h2 = zz_uI h1 24 0 ((h1.1 24 0) + 1) → Q 1 h2) ∧
  (¬ ((h.1 24 0) < 80) → Q 0 h))
def w_X8_feed (l1 : Int32) (h : zz_Hp) (Q : Int32 → zz_Hp → Prop) : Prop :=
  w_X8_inRange l1 32 126 h (fun r2 h1 => 
  ((¬ r2 = 0 → w_X5_add l1 h1 (fun r4 h3 => 
    ((r4 = 0 → Q ((-3)) h3) ∧
    (¬ (r4 = 0) → Q (h3.1 24 0) h3)))) ∧
  (r2 = 0 → Q ((-1)) h1)))
def w_X8_wipe  (h : zz_Hp) (Q : Int32 → zz_Hp → Prop) : Prop :=
  ∀ h1, h1 = zz_uI h 24 0 0 → Q (h.1 24 0) h1
def w_X5_rewind  (h : zz_Hp) (Q : zz_Hp → Prop) : Prop :=
  ∀ h1, h1 = zz_uI h 24 4 0 → Q h1
def w_X5_takeNumber_j82 (Q : Int32 → zz_Hp → Prop) (l1 : Int32) (l2 : Int32)  (h : zz_Hp) : Prop :=
  
  ((l2 = 0 → Q 0 h) ∧
  (¬ (l2 = 0) → 
    (((h.1 24 2) < 5 → vp_in (h.1 24 2) 5 ∧ ∀ h1, h1 = zz_uI h 25 (Int32.toNatClampNeg (h.1 24 2)) l1 → ∀ h2, h2 = zz_uI h1 24 2 ((h1.1 24 2) + 1) → Q 1 h2) ∧
    (¬ ((h.1 24 2) < 5) → Q 0 h))))
def w_X5_takeNumber_l4 (ag4 : Int32 × Int32 × zz_Hp → Prop) (Q : Int32 → zz_Hp → Prop)  (l1 : Int32) (l2 : Int32) (h : zz_Hp) : Prop :=
  
    ((5 ≤ l2 → w_X5_takeNumber_j82 Q l1 l2  h) ∧
    (¬ (5 ≤ l2) → 
      (((h.1 24 0) ≤ (h.1 24 4) → w_X5_takeNumber_j82 Q l1 l2  h) ∧
      (¬ ((h.1 24 0) ≤ (h.1 24 4)) → vp_in (h.1 24 4) 80 ∧ 
        (((h.1 26 (Int32.toNatClampNeg (h.1 24 4))) < 48 → w_X5_takeNumber_j82 Q l1 l2  h) ∧
        (¬ ((h.1 26 (Int32.toNatClampNeg (h.1 24 4))) < 48) → vp_in (h.1 24 4) 80 ∧ 
          ((57 < (h.1 26 (Int32.toNatClampNeg (h.1 24 4))) → w_X5_takeNumber_j82 Q l1 l2  h) ∧
          (¬ (57 < (h.1 26 (Int32.toNatClampNeg (h.1 24 4)))) → vp_in (h.1 24 4) 80 ∧ ∀ h3, h3 = zz_uI h 24 4 ((h.1 24 4) + 1) → ag4 (((l1 * 10) + (h.1 26 (Int32.toNatClampNeg (h.1 24 4)))) - 48, l2 + 1, h3)))))))))
def w_X5_takeNumber  (h : zz_Hp) (Q : Int32 → zz_Hp → Prop) : Prop :=
  lp (fun s ag => w_X5_takeNumber_l4 ag Q  s.1 s.2.1 s.2.2) (0, 0, h)
def w_X5_takeSign (l1 : Int32) (h : zz_Hp) (Q : Int32 → zz_Hp → Prop) : Prop :=
  
  (((h.1 24 0) ≤ (h.1 24 4) → Q 0 h) ∧
  (¬ ((h.1 24 0) ≤ (h.1 24 4)) → vp_in (h.1 24 4) 80 ∧ 
    (((h.1 26 (Int32.toNatClampNeg (h.1 24 4))) = l1 → ∀ h1, h1 = zz_uI h 24 4 ((h.1 24 4) + 1) → Q 1 h1) ∧
    (¬ ((h.1 26 (Int32.toNatClampNeg (h.1 24 4))) = l1) → Q 0 h))))
def w_X5_takeParts_j32 (ag2 : Int32 × zz_Hp → Prop) (Q : Int32 → zz_Hp → Prop) (l1 : Int32)  (h : zz_Hp) : Prop :=
  
  ((l1 = 4 → Q 0 h) ∧
  (¬ (l1 = 4) → w_X5_takeSign 44 h (fun r4 h3 => 
    ((¬ r4 = 0 → ag2 (l1 + 1, h3)) ∧
    (r4 = 0 → Q 0 h3)))))
def w_X5_takeParts_l2 (ag2 : Int32 × zz_Hp → Prop) (Q : Int32 → zz_Hp → Prop)  (l1 : Int32) (h : zz_Hp) : Prop :=
  
    ((4 < l1 → Q 0 h) ∧
    (¬ (4 < l1) → w_X5_takeNumber  h (fun r2 h1 => 
      ((¬ r2 = 0 → 
        ((l1 < 2 → w_X5_takeParts_j32 ag2 Q l1  h1) ∧
        (¬ (l1 < 2) → w_X5_takeSign 58 h1 (fun r6 h5 => 
          ((r6 = 0 → w_X5_takeParts_j32 ag2 Q l1  h5) ∧
          (¬ (r6 = 0) → Q 1 h5)))))) ∧
      (r2 = 0 → Q 0 h1)))))
def w_X5_takeParts  (h : zz_Hp) (Q : Int32 → zz_Hp → Prop) : Prop :=
  lp (fun s ag => w_X5_takeParts_l2 ag Q  s.1 s.2) (1, h)
def w_X5_takeTwist  (h : zz_Hp) (Q : Int32 → zz_Hp → Prop) : Prop :=
  w_X5_takeSign 45 h (fun r2 h1 => w_X5_takeNumber  h1 (fun r4 h3 => 
  ((¬ r4 = 0 → 
    ((r2 = 0 → Q 1 h3) ∧
    (¬ (r2 = 0) → vp_in ((h3.1 24 2) - 1) 5 ∧ vp_in ((h3.1 24 2) - 1) 5 ∧ ∀ h5, h5 = zz_uI h3 25 (Int32.toNatClampNeg ((h3.1 24 2) - 1)) (-(h3.1 25 (Int32.toNatClampNeg ((h3.1 24 2) - 1)))) → Q 1 h5))) ∧
  (r4 = 0 → Q 0 h3))))
def w_X5_takeAct  (h : zz_Hp) (Q : Int32 → zz_Hp → Prop) : Prop :=
  ∀ h1, h1 = zz_uI h 24 2 0 → 
  (((h1.1 24 4) < (h1.1 24 0) → vp_in (h1.1 24 4) 80 ∧ ∀ h2, h2 = zz_uI h1 24 1 (h1.1 26 (Int32.toNatClampNeg (h1.1 24 4))) → 
    (((Int32.toInt (h2.1 24 1)) = 109 → ∀ h3, h3 = zz_uI h2 24 4 ((h2.1 24 4) + 1) → w_X5_takeNumber  h3 (fun r5 h4 => 
        ((r5 = 0 → Q 0 h4) ∧
        (¬ (r5 = 0) → w_X5_takeSign 44 h4 (fun r7 h6 => 
          ((r7 = 0 → Q 0 h6) ∧
          (¬ (r7 = 0) → w_X5_takeNumber  h6 (fun r9 h8 => 
            ((r9 = 0 → Q 0 h8) ∧
            (¬ (r9 = 0) → Q 1 h8)))))))))) ∧
    ((Int32.toInt (h2.1 24 1)) = 110 → Q 0 h2) ∧
    ((Int32.toInt (h2.1 24 1)) = 111 → Q 0 h2) ∧
    ((Int32.toInt (h2.1 24 1)) = 112 → ∀ h10, h10 = zz_uI h2 24 4 ((h2.1 24 4) + 1) → w_X5_takeParts  h10 (fun r12 h11 => 
        ((r12 = 0 → Q 0 h11) ∧
        (¬ (r12 = 0) → w_X5_takeTwist  h11 (fun r14 h13 => 
          ((r14 = 0 → Q 0 h13) ∧
          (¬ (r14 = 0) → Q 1 h13))))))) ∧
    ((Int32.toInt (h2.1 24 1)) = 113 → Q 0 h2) ∧
    ((Int32.toInt (h2.1 24 1)) = 114 → Q 0 h2) ∧
    ((Int32.toInt (h2.1 24 1)) = 115 → ∀ h15, h15 = zz_uI h2 24 4 ((h2.1 24 4) + 1) → w_X5_takeNumber  h15 (fun r17 h16 => 
        ((r17 = 0 → Q 0 h16) ∧
        (¬ (r17 = 0) → w_X5_takeSign 44 h16 (fun r19 h18 => 
          ((r19 = 0 → Q 0 h18) ∧
          (¬ (r19 = 0) → w_X5_takeNumber  h18 (fun r21 h20 => 
            ((r21 = 0 → Q 0 h20) ∧
            (¬ (r21 = 0) → Q 1 h20)))))))))) ∧
    ((Int32.toInt (h2.1 24 1)) = 116 → ∀ h22, h22 = zz_uI h2 24 4 ((h2.1 24 4) + 1) → w_X5_takeNumber  h22 (fun r24 h23 => 
        ((r24 = 0 → Q 0 h23) ∧
        (¬ (r24 = 0) → w_X5_takeSign 44 h23 (fun r26 h25 => 
          ((r26 = 0 → Q 0 h25) ∧
          (¬ (r26 = 0) → w_X5_takeNumber  h25 (fun r28 h27 => 
            ((r28 = 0 → Q 0 h27) ∧
            (¬ (r28 = 0) → w_X5_takeSign 44 h27 (fun r30 h29 => 
              ((r30 = 0 → Q 0 h29) ∧
              (¬ (r30 = 0) → w_X5_takeTwist  h29 (fun r32 h31 => 
                ((r32 = 0 → Q 0 h31) ∧
                (¬ (r32 = 0) → Q 1 h31)))))))))))))))) ∧
    (((Int32.toInt (h2.1 24 1)) < 109 ∨ 116 < (Int32.toInt (h2.1 24 1))) → Q 0 h2))) ∧
  (¬ ((h1.1 24 4) < (h1.1 24 0)) → Q 0 h1))
def w_X5_firstFault_l6 (ag6 : Int32 × zz_Hp → Prop) (Q : Int32 → zz_Hp → Prop)  (l1 : Int32) (h : zz_Hp) : Prop :=
  
    ((80 ≤ l1 → Q (h.1 24 4) h) ∧
    (¬ (80 ≤ l1) → w_X5_takeAct  h (fun r4 h3 => 
      ((¬ r4 = 0 → 
        (((h3.1 24 4) < (h3.1 24 0) → w_X5_takeSign 59 h3 (fun r6 h5 => 
          ((¬ r6 = 0 → ag6 (l1 + 1, h5)) ∧
          (r6 = 0 → Q (h5.1 24 4) h5)))) ∧
        (¬ ((h3.1 24 4) < (h3.1 24 0)) → Q ((-1)) h3))) ∧
      (r4 = 0 → Q (h3.1 24 4) h3)))))
def w_X5_firstFault  (h : zz_Hp) (Q : Int32 → zz_Hp → Prop) : Prop :=
  w_X5_rewind  h (fun h1 => lp (fun s ag => w_X5_firstFault_l6 ag Q  s.1 s.2) (0, h1))
def w_X5_lastNumber  (h : zz_Hp) (Q : Int32 → zz_Hp → Prop) : Prop :=
  
  (((h.1 24 2) ≤ 0 → Q 0 h) ∧
  (¬ ((h.1 24 2) ≤ 0) → vp_in ((h.1 24 2) - 1) 5 ∧ Q (h.1 25 (Int32.toNatClampNeg ((h.1 24 2) - 1))) h))
def w_X7_join_2_25_l14 (ag14 : Int32 × Int32 × Int32 × Int32 × zz_Hp → Prop) (Q : zz_Hp → Prop) (l1 : Int32) (l3 : Int32) (l4 : Int32) (l5 : Int32) (l6 : Int32) (l7 : Int32) (h : zz_Hp) : Prop :=
  
    ((l3 ≤ l7 → w_X7_write l1 4 l3 h (fun h1 => w_X7_write l1 5 l4 h1 (fun h3 => w_X7_write l1 6 l5 h3 (fun h5 => w_X7_write l1 7 l6 h5 (fun h7 => Q h7))))) ∧
    (¬ (l3 ≤ l7) → vp_in l7 5 ∧ vp_in ((l1 * 4) + l7) 64 ∧ ∀ h9, h9 = zz_uI h 4 (Int32.toNatClampNeg ((l1 * 4) + l7)) (h.1 25 (Int32.toNatClampNeg l7)) → w_X7_fact (h.1 25 (Int32.toNatClampNeg l7)) 5 h9 (fun r11 h10 => w_X7_fact (h.1 25 (Int32.toNatClampNeg l7)) 6 h10 (fun r13 h12 => w_X7_fact (h.1 25 (Int32.toNatClampNeg l7)) 7 h12 (fun r15 h14 => ag14 (if l4 < (r11 + 1) then (r11 + 1) else l4, l5 + r13, l6 ||| r15, l7 + 1, h14))))))
def w_X7_join_2_25 (l1 : Int32) (l3 : Int32) (h : zz_Hp) (Q : zz_Hp → Prop) : Prop :=
  lp (fun s ag => w_X7_join_2_25_l14 ag Q l1 l3 s.1 s.2.1 s.2.2.1 s.2.2.2.1 s.2.2.2.2) (0, 0, 1 <<< (l1 &&& 31), 0, h)
def w_X7_addPlied_2_25_l31 (ag31 : Int32 × zz_Hp → Prop) (Q : Int32 → zz_Hp → Prop) (l2 : Int32) (l3 : Int32) (l4 : Int32) (h : zz_Hp) : Prop :=
  
    ((l2 ≤ l4 → 
      (((h.1 2 0) < 16 → ∀ h5, h5 = zz_uI h 2 0 ((h.1 2 0) + 1) → w_X7_write (h.1 2 0) 0 l3 h5 (fun h6 => w_X7_write (h.1 2 0) 1 ((-1)) h6 (fun h8 => w_X7_write (h.1 2 0) 2 ((-1)) h8 (fun h10 => w_X7_write (h.1 2 0) 3 0 h10 (fun h12 => w_X7_join_2_25 (h.1 2 0) l2 h12 (fun h14 => Q (h.1 2 0) h14)))))) ∧
      (¬ ((h.1 2 0) < 16) → Q ((-3)) h))) ∧
    (¬ (l2 ≤ l4) → vp_in l4 5 ∧ w_X7_canBePart (h.1 25 (Int32.toNatClampNeg l4)) h (fun r17 h16 => 
      ((¬ r17 = 0 → ag31 (l4 + 1, h16)) ∧
      (r17 = 0 → Q ((-5)) h16)))))
def w_X7_addPlied_2_25 (l2 : Int32) (l3 : Int32) (h : zz_Hp) (Q : Int32 → zz_Hp → Prop) : Prop :=
  w_X8_canBeTold 0 l3 h (fun r2 h1 => 
  ((¬ r2 = 0 → w_X8_inRange l2 2 4 h1 (fun r4 h3 => 
    ((r4 = 0 → Q ((-5)) h3) ∧
    (¬ (r4 = 0) → 
      ((l2 ≤ 5 → lp (fun s ag => w_X7_addPlied_2_25_l31 ag Q l2 l3 s.1 s.2) (0, h3)) ∧
      (¬ (l2 ≤ 5) → Q ((-5)) h3)))))) ∧
  (r2 = 0 → Q ((-1)) h1)))
def w_X8_doAct  (h : zz_Hp) (Q : Int32 → zz_Hp → Prop) : Prop :=
  
  (((Int32.toInt (h.1 24 1)) = 109 → vp_in 0 5 ∧ vp_in 1 5 ∧ w_X8_makeYards (h.1 25 (Int32.toNatClampNeg 0)) (h.1 25 (Int32.toNatClampNeg 1)) h (fun r2 h1 => 
      ((r2 < 0 → Q 0 h1) ∧
      (¬ (r2 < 0) → Q 1 h1)))) ∧
  ((Int32.toInt (h.1 24 1)) = 110 → Q 0 h) ∧
  ((Int32.toInt (h.1 24 1)) = 111 → Q 0 h) ∧
  ((Int32.toInt (h.1 24 1)) = 112 → w_X5_lastNumber  h (fun r4 h3 => w_X7_addPlied_2_25 ((h.1 24 2) - 1) r4 h3 (fun r6 h5 => 
      ((r6 < 0 → Q 0 h5) ∧
      (¬ (r6 < 0) → Q 1 h5))))) ∧
  ((Int32.toInt (h.1 24 1)) = 113 → Q 0 h) ∧
  ((Int32.toInt (h.1 24 1)) = 114 → Q 0 h) ∧
  ((Int32.toInt (h.1 24 1)) = 115 → vp_in 0 5 ∧ vp_in 1 5 ∧ w_X7_tell 3 (h.1 25 (Int32.toNatClampNeg 0)) (h.1 25 (Int32.toNatClampNeg 1)) h (fun r8 h7 => 
      ((r8 < 0 → Q 0 h7) ∧
      (¬ (r8 < 0) → Q 1 h7)))) ∧
  ((Int32.toInt (h.1 24 1)) = 116 → vp_in 0 5 ∧ vp_in 1 5 ∧ vp_in 2 5 ∧ w_X7_addThread (h.1 25 (Int32.toNatClampNeg 0)) (h.1 25 (Int32.toNatClampNeg 1)) (h.1 25 (Int32.toNatClampNeg 2)) h (fun r10 h9 => 
      ((r10 < 0 → Q 0 h9) ∧
      (¬ (r10 < 0) → Q 1 h9)))) ∧
  (((Int32.toInt (h.1 24 1)) < 109 ∨ 116 < (Int32.toInt (h.1 24 1))) → Q 0 h))
def w_X8_doActs_j70 (Q : Int32 → zz_Hp → Prop) (l1 : Int32) (l2 : Int32)  (h : zz_Hp) : Prop :=
  
  ((l2 = 0 → Q l1 h) ∧
  (¬ (l2 = 0) → Q (((-200)) - l1) h))
def w_X8_doActs_j59 (Q : Int32 → zz_Hp → Prop) (l1 : Int32) (l2 : Int32)  (h : zz_Hp) : Prop :=
  
  ((l1 ≤ 0 → w_X8_doActs_j70 Q l1 l2  h) ∧
  (¬ (l1 ≤ 0) → w_X1_empty_18  h (fun h3 => w_X8_doActs_j70 Q l1 l2  h3)))
def w_X8_doActs_l11 (ag11 : Int32 × Int32 × zz_Hp → Prop) (Q : Int32 → zz_Hp → Prop)  (l1 : Int32) (l2 : Int32) (h : zz_Hp) : Prop :=
  
    ((80 ≤ l1 → w_X8_doActs_j59 Q l1 l2  h) ∧
    (¬ (80 ≤ l1) → 
      ((¬ l2 = 0 → w_X8_doActs_j59 Q l1 l2  h) ∧
      (l2 = 0 → w_X5_takeAct  h (fun r6 h5 => 
        ((r6 = 0 → w_X8_doActs_j59 Q l1 l2  h5) ∧
        (¬ (r6 = 0) → w_X8_doAct  h5 (fun r8 h7 => 
          ((r8 = 0 → ag11 (l1, 1, h7)) ∧
          (¬ (r8 = 0) → w_X5_takeSign 59 h7 (fun r10 h9 => ag11 (l1 + 1, l2, h9))))))))))))
def w_X8_doActs  (h : zz_Hp) (Q : Int32 → zz_Hp → Prop) : Prop :=
  w_X5_rewind  h (fun h1 => lp (fun s ag => w_X8_doActs_l11 ag Q  s.1 s.2.1 s.2.2) (0, 0, h1))
def w_X8_read_j24 (Q : Int32 → zz_Hp → Prop)  (s0 : Int32) (h : zz_Hp) : Prop :=
  ∀ h3, h3 = zz_uI h 24 0 0 → Q s0 h3
def w_X8_read  (h : zz_Hp) (Q : Int32 → zz_Hp → Prop) : Prop :=
  w_X5_firstFault  h (fun r2 h1 => 
  ((¬ r2 = ((-1)) → w_X8_read_j24 Q  (((-100)) - r2) h1) ∧
  (r2 = ((-1)) → w_X8_doActs  h1 (fun r5 h4 => w_X8_read_j24 Q  r5 h4))))
def w_X3_write (l1 : Int32) (l2 : Int32) (l3 : Int32) (h : zz_Hp) (Q : zz_Hp → Prop) : Prop :=
  vp_in ((l1 * 40) + l2) 120 ∧ ∀ h1, h1 = zz_uI h 23 (Int32.toNatClampNeg ((l1 * 40) + l2)) l3 → Q h1
def w_X3_renew_l9 (ag9 : Int32 × zz_Hp → Prop) (Q : zz_Hp → Prop) (l1 : Int32) (l2 : Int32) (l3 : Int32) (h : zz_Hp) : Prop :=
  
    ((l2 ≤ l3 → Q h) ∧
    (¬ (l2 ≤ l3) → w_X3_write l1 l3 0 h (fun h2 => ag9 (l3 + 1, h2))))
def w_X3_renew (l1 : Int32) (l2 : Int32) (h : zz_Hp) (Q : zz_Hp → Prop) : Prop :=
  vp_in l1 3 ∧ ∀ h1, h1 = zz_uI h 22 (Int32.toNatClampNeg l1) l2 → lp (fun s ag => w_X3_renew_l9 ag Q l1 l2 s.1 s.2) (0, h1)
def w_X8_row (l1 : Int32) (l2 : Int32) (h : zz_Hp) (Q : Int32 → zz_Hp → Prop) : Prop :=
  w_X3_has l1 h (fun r2 h1 => 
  ((r2 = 0 → Q ((-1)) h1) ∧
  (¬ (r2 = 0) → 
    ((l2 ≤ 40 → 
      ((((-1)) ≤ l2 → w_X3_renew l1 l2 h1 (fun h3 => Q 1 h3)) ∧
      (¬ (((-1)) ≤ l2) → Q ((-14)) h1))) ∧
    (¬ (l2 ≤ 40) → Q ((-1)) h1)))))
def w_X3_hasPlace (l1 : Int32) (l2 : Int32) (h : zz_Hp) (Q : Int32 → zz_Hp → Prop) : Prop :=
  
  ((l2 < 0 → Q 0 h) ∧
  (¬ (l2 < 0) → vp_in l1 3 ∧ 
    (((h.1 22 (Int32.toNatClampNeg l1)) ≤ l2 → Q 0 h) ∧
    (¬ ((h.1 22 (Int32.toNatClampNeg l1)) ≤ l2) → Q 1 h))))
def w_X8_put (l1 : Int32) (l2 : Int32) (l3 : Int32) (h : zz_Hp) (Q : Int32 → zz_Hp → Prop) : Prop :=
  w_X3_has l1 h (fun r2 h1 => 
  ((¬ r2 = 0 → w_X3_isMissing l1 h1 (fun r4 h3 => 
    ((r4 = 0 → w_X3_hasPlace l1 l2 h3 (fun r6 h5 => 
      ((¬ r6 = 0 → w_X3_write l1 l2 l3 h5 (fun h7 => Q 1 h7)) ∧
      (r6 = 0 → Q ((-13)) h5)))) ∧
    (¬ (r4 = 0) → Q ((-11)) h3)))) ∧
  (r2 = 0 → Q ((-1)) h1)))
def w_X8_get (l1 : Int32) (l2 : Int32) (h : zz_Hp) (Q : Int32 → zz_Hp → Prop) : Prop :=
  w_X3_has l1 h (fun r2 h1 => 
  ((r2 = 0 → Q ((-2147483648)) h1) ∧
  (¬ (r2 = 0) → w_X3_hasPlace l1 l2 h1 (fun r4 h3 => 
    ((r4 = 0 → Q ((-2147483648)) h3) ∧
    (¬ (r4 = 0) → w_X3_placeAt l1 l2 h3 (fun r6 h5 => Q r6 h5)))))))
def w_X8_film_l100 (ag100 : Int32 × zz_Hp → Prop) (Q : Int32 → zz_Hp → Prop) (l1 : Int32) (l2 : Int32) (l5 : Int32) (h : zz_Hp) : Prop :=
  
    ((l2 ≤ l5 → Q l2 h) ∧
    (¬ (l2 ≤ l5) → w_X6_torqueBy l5 h (fun r16 h15 => w_X3_write l1 l5 r16 h15 (fun h17 => ag100 (l5 + 1, h17)))))
def w_X8_film (l1 : Int32) (l2 : Int32) (l3 : Int32) (l4 : Int32) (h : zz_Hp) (Q : Int32 → zz_Hp → Prop) : Prop :=
  w_X3_has l1 h (fun r2 h1 => 
  ((r2 = 0 → Q ((-1)) h1) ∧
  (¬ (r2 = 0) → w_X8_inRange l2 0 40 h1 (fun r4 h3 => 
    ((r4 = 0 → Q ((-1)) h3) ∧
    (¬ (r4 = 0) → w_X7_has l3 h3 (fun r6 h5 => 
      ((r6 = 0 → Q ((-1)) h5) ∧
      (¬ (r6 = 0) → w_X7_has l4 h5 (fun r8 h7 => 
        ((¬ r8 = 0 → w_X7_isInside l4 l3 h7 (fun r10 h9 => 
          ((¬ r10 = 0 → w_X6_walk l3 l4 h9 (fun h11 => w_X3_renew l1 l2 h11 (fun h13 => lp (fun s ag => w_X8_film_l100 ag Q l1 l2 s.1 s.2) (0, h13)))) ∧
          (r10 = 0 → Q ((-5)) h9)))) ∧
        (r8 = 0 → Q ((-1)) h7))))))))))))
def w_X1_copy_13_5  (h : zz_Hp) (Q : zz_Hp → Prop) : Prop :=
  ∀ h1, h1 = zz_uI h 13 0 (h.1 5 0) → ¬ 0 < 0 ∧ ¬ 0 < 0 ∧ ¬ (if 24 < 24 then 24 else 24) < 0 ∧ Int32.toNatClampNeg 0 + Int32.toNatClampNeg (if 24 < 24 then 24 else 24) ≤ 24 ∧ Int32.toNatClampNeg 0 + Int32.toNatClampNeg (if 24 < 24 then 24 else 24) ≤ 24 ∧ ∀ h2, h2 = zz_uC h1 6 14 (Int32.toNatClampNeg 0) (Int32.toNatClampNeg 0) (Int32.toNatClampNeg (if 24 < 24 then 24 else 24)) → Q h2
def w_X1_copy_15_7  (h : zz_Hp) (Q : zz_Hp → Prop) : Prop :=
  ∀ h1, h1 = zz_uI h 15 0 (h.1 7 0) → ¬ 0 < 0 ∧ ¬ 0 < 0 ∧ ¬ (if 24 < 24 then 24 else 24) < 0 ∧ Int32.toNatClampNeg 0 + Int32.toNatClampNeg (if 24 < 24 then 24 else 24) ≤ 24 ∧ Int32.toNatClampNeg 0 + Int32.toNatClampNeg (if 24 < 24 then 24 else 24) ≤ 24 ∧ ∀ h2, h2 = zz_uC h1 8 16 (Int32.toNatClampNeg 0) (Int32.toNatClampNeg 0) (Int32.toNatClampNeg (if 24 < 24 then 24 else 24)) → Q h2
def w_X7_copy_10_2  (h : zz_Hp) (Q : zz_Hp → Prop) : Prop :=
  ∀ h1, h1 = zz_uI h 10 0 (h.1 2 0) → ¬ 0 < 0 ∧ ¬ 0 < 0 ∧ ¬ 128 < 0 ∧ Int32.toNatClampNeg 0 + Int32.toNatClampNeg 128 ≤ 128 ∧ Int32.toNatClampNeg 0 + Int32.toNatClampNeg 128 ≤ 128 ∧ ∀ h2, h2 = zz_uC h1 3 11 (Int32.toNatClampNeg 0) (Int32.toNatClampNeg 0) (Int32.toNatClampNeg 128) → ¬ 0 < 0 ∧ ¬ 0 < 0 ∧ ¬ 64 < 0 ∧ Int32.toNatClampNeg 0 + Int32.toNatClampNeg 64 ≤ 64 ∧ Int32.toNatClampNeg 0 + Int32.toNatClampNeg 64 ≤ 64 ∧ ∀ h3, h3 = zz_uC h2 4 12 (Int32.toNatClampNeg 0) (Int32.toNatClampNeg 0) (Int32.toNatClampNeg 64) → Q h3
def w_X0_copy_9_1  (h : zz_Hp) (Q : zz_Hp → Prop) : Prop :=
  w_X7_copy_10_2  h (fun h1 => w_X1_copy_13_5  h1 (fun h3 => w_X1_copy_15_7  h3 (fun h5 => Q h5)))
def w_X8_image  (h : zz_Hp) (Q : Int32 → zz_Hp → Prop) : Prop :=
  w_X0_copy_9_1  h (fun h1 => ∀ h3, h3 = zz_uI h1 0 2 1 → Q (h3.1 2 0) h3)
def w_X1_copy_5_13  (h : zz_Hp) (Q : zz_Hp → Prop) : Prop :=
  ∀ h1, h1 = zz_uI h 5 0 (h.1 13 0) → ¬ 0 < 0 ∧ ¬ 0 < 0 ∧ ¬ (if 24 < 24 then 24 else 24) < 0 ∧ Int32.toNatClampNeg 0 + Int32.toNatClampNeg (if 24 < 24 then 24 else 24) ≤ 24 ∧ Int32.toNatClampNeg 0 + Int32.toNatClampNeg (if 24 < 24 then 24 else 24) ≤ 24 ∧ ∀ h2, h2 = zz_uC h1 14 6 (Int32.toNatClampNeg 0) (Int32.toNatClampNeg 0) (Int32.toNatClampNeg (if 24 < 24 then 24 else 24)) → Q h2
def w_X1_copy_7_15  (h : zz_Hp) (Q : zz_Hp → Prop) : Prop :=
  ∀ h1, h1 = zz_uI h 7 0 (h.1 15 0) → ¬ 0 < 0 ∧ ¬ 0 < 0 ∧ ¬ (if 24 < 24 then 24 else 24) < 0 ∧ Int32.toNatClampNeg 0 + Int32.toNatClampNeg (if 24 < 24 then 24 else 24) ≤ 24 ∧ Int32.toNatClampNeg 0 + Int32.toNatClampNeg (if 24 < 24 then 24 else 24) ≤ 24 ∧ ∀ h2, h2 = zz_uC h1 16 8 (Int32.toNatClampNeg 0) (Int32.toNatClampNeg 0) (Int32.toNatClampNeg (if 24 < 24 then 24 else 24)) → Q h2
def w_X7_copy_2_10  (h : zz_Hp) (Q : zz_Hp → Prop) : Prop :=
  ∀ h1, h1 = zz_uI h 2 0 (h.1 10 0) → ¬ 0 < 0 ∧ ¬ 0 < 0 ∧ ¬ 128 < 0 ∧ Int32.toNatClampNeg 0 + Int32.toNatClampNeg 128 ≤ 128 ∧ Int32.toNatClampNeg 0 + Int32.toNatClampNeg 128 ≤ 128 ∧ ∀ h2, h2 = zz_uC h1 11 3 (Int32.toNatClampNeg 0) (Int32.toNatClampNeg 0) (Int32.toNatClampNeg 128) → ¬ 0 < 0 ∧ ¬ 0 < 0 ∧ ¬ 64 < 0 ∧ Int32.toNatClampNeg 0 + Int32.toNatClampNeg 64 ≤ 64 ∧ Int32.toNatClampNeg 0 + Int32.toNatClampNeg 64 ≤ 64 ∧ ∀ h3, h3 = zz_uC h2 12 4 (Int32.toNatClampNeg 0) (Int32.toNatClampNeg 0) (Int32.toNatClampNeg 64) → Q h3
def w_X0_copy_1_9  (h : zz_Hp) (Q : zz_Hp → Prop) : Prop :=
  w_X7_copy_2_10  h (fun h1 => w_X1_copy_5_13  h1 (fun h3 => w_X1_copy_7_15  h3 (fun h5 => Q h5)))
def w_X8_undo  (h : zz_Hp) (Q : Int32 → zz_Hp → Prop) : Prop :=
  
  ((¬ (h.1 0 2) = 0 → w_X0_copy_1_9  h (fun h1 => ∀ h3, h3 = zz_uI h1 0 4 0 → w_X1_empty_18  h3 (fun h4 => Q (h4.1 2 0) h4))) ∧
  ((h.1 0 2) = 0 → Q ((-5)) h))
def w_X8_countBalanced_l4 (ag4 : Int32 × Int32 × zz_Hp → Prop) (Q : Int32 → zz_Hp → Prop)  (l1 : Int32) (l2 : Int32) (h : zz_Hp) : Prop :=
  
    (((h.1 2 0) ≤ l2 → Q l1 h) ∧
    (¬ ((h.1 2 0) ≤ l2) → w_X8_torqueOf l2 h (fun r2 h1 => 
      ((¬ r2 = 0 → ag4 (l1, l2 + 1, h1)) ∧
      (r2 = 0 → ag4 (l1 + 1, l2 + 1, h1))))))
def w_X8_countBalanced  (h : zz_Hp) (Q : Int32 → zz_Hp → Prop) : Prop :=
  lp (fun s ag => w_X8_countBalanced_l4 ag Q  s.1 s.2.1 s.2.2) (0, 0, h)
def w_X8_count (l1 : Int32) (h : zz_Hp) (Q : Int32 → zz_Hp → Prop) : Prop :=
  
  (((Int32.toInt l1) = 0 → Q (h.1 2 0) h) ∧
  ((Int32.toInt l1) = 1 → Q (h.1 0 4) h) ∧
  ((Int32.toInt l1) = 2 → Q (h.1 5 0) h) ∧
  ((Int32.toInt l1) = 3 → Q (h.1 7 0) h) ∧
  ((Int32.toInt l1) = 4 → Q (h.1 18 0) h) ∧
  ((Int32.toInt l1) = 5 → Q (h.1 24 0) h) ∧
  ((Int32.toInt l1) = 6 → w_X8_countBalanced  h (fun r2 h1 => Q r2 h1)) ∧
  (((Int32.toInt l1) < 0 ∨ 6 < (Int32.toInt l1)) → Q ((-1)) h))
def w_X9_in (l0 : Int32) (l1 : Int32) (l2 : Int32) (h : zz_Hp) (Q : Int32 → zz_Hp → Prop) : Prop :=
  
  ((l0 < l1 → Q 0 h) ∧
  (¬ (l0 < l1) → 
    ((l2 < l0 → Q 0 h) ∧
    (¬ (l2 < l0) → Q 1 h))))
def w_X9_thread (l1 : Int32) (l2 : Int32) (l3 : Int32) (h : zz_Hp) (Q : Int32 → zz_Hp → Prop) : Prop :=
  w_X9_in l1 0 3 h (fun r2 h1 => 
  ((r2 = 0 → Q ((-1)) h1) ∧
  (¬ (r2 = 0) → w_X9_in l2 1 99 h1 (fun r4 h3 => 
    ((r4 = 0 → Q ((-1)) h3) ∧
    (¬ (r4 = 0) → w_X9_in l3 ((-99)) 99 h3 (fun r6 h5 => 
      ((¬ r6 = 0 → 
        ((¬ (h5.1 0 0) = 16 → vp_in (h5.1 0 0) 16 ∧ ∀ h7, h7 = zz_uI h5 1 (Int32.toNatClampNeg (h5.1 0 0)) 0 → vp_in (h7.1 0 0) 16 ∧ ∀ h8, h8 = zz_uI h7 3 (Int32.toNatClampNeg (h7.1 0 0)) l1 → vp_in (h8.1 0 0) 16 ∧ ∀ h9, h9 = zz_uI h8 4 (Int32.toNatClampNeg (h8.1 0 0)) l2 → vp_in (h9.1 0 0) 16 ∧ ∀ h10, h10 = zz_uI h9 5 (Int32.toNatClampNeg (h9.1 0 0)) l3 → vp_in (h10.1 0 0) 16 ∧ ∀ h11, h11 = zz_uI h10 6 (Int32.toNatClampNeg (h10.1 0 0)) 0 → ∀ h12, h12 = zz_uI h11 0 0 ((h11.1 0 0) + 1) → Q ((h12.1 0 0) - 1) h12) ∧
        ((h5.1 0 0) = 16 → Q ((-3)) h5))) ∧
      (r6 = 0 → Q ((-1)) h5)))))))))
def w_X9_depthOf_l4 (rc : Int32 → zz_Hp → (Int32 → zz_Hp → Prop) → Prop) (ag4 : Int32 × Int32 × zz_Hp → Prop) (Q : Int32 → zz_Hp → Prop) (l1 : Int32) (l2 : Int32) (l3 : Int32) (h : zz_Hp) : Prop :=
  vp_in l1 16 ∧ 
    (((h.1 1 (Int32.toNatClampNeg l1)) ≤ l3 → Q l2 h) ∧
    (¬ ((h.1 1 (Int32.toNatClampNeg l1)) ≤ l3) → vp_in ((4 * l1) + l3) 64 ∧ rc (h.1 2 (Int32.toNatClampNeg ((4 * l1) + l3))) h (fun r2 h1 => 
      (((1 + r2) ≤ l2 → ag4 (l2, l3 + 1, h1)) ∧
      (¬ ((1 + r2) ≤ l2) → ag4 (1 + r2, l3 + 1, h1))))))
def w_X9_depthOf_b (rc : Int32 → zz_Hp → (Int32 → zz_Hp → Prop) → Prop) (l1 : Int32) (h : zz_Hp) (Q : Int32 → zz_Hp → Prop) : Prop :=
  lp (fun s ag => w_X9_depthOf_l4 rc ag Q l1 s.1 s.2.1 s.2.2) (0, 0, h)
def w_X9_depthOf : Nat → Int32 → zz_Hp → (Int32 → zz_Hp → Prop) → Prop
  | 0 => fun _ _ _ => False
  | n + 1 => w_X9_depthOf_b (w_X9_depthOf n)
def w_X9_isYarn (l1 : Int32) (h : zz_Hp) (Q : Int32 → zz_Hp → Prop) : Prop :=
  w_X9_in l1 0 ((h.1 0 0) - 1) h (fun r2 h1 => (r2 = 0 ∨ r2 = 1) ∧ Q r2 h1)
def w_X9_part (l1 : Int32) (h : zz_Hp) (Q : Int32 → zz_Hp → Prop) : Prop :=
  w_X9_isYarn l1 h (fun r2 h1 => 
  ((¬ r2 = 0 → 
    ((¬ (h1.1 0 7) = 4 → w_X9_depthOf 5 l1 h1 (fun r4 h3 => 
      ((¬ r4 = 3 → vp_in (h3.1 0 7) 4 ∧ ∀ h5, h5 = zz_uI h3 7 (Int32.toNatClampNeg (h3.1 0 7)) l1 → ∀ h6, h6 = zz_uI h5 0 7 ((h5.1 0 7) + 1) → Q (h6.1 0 7) h6) ∧
      (r4 = 3 → Q ((-5)) h3)))) ∧
    ((h1.1 0 7) = 4 → Q ((-3)) h1))) ∧
  (r2 = 0 → Q ((-1)) h1)))
def w_X9_plied (l1 : Int32) (l2 : Int32) (h : zz_Hp) (Q : Int32 → zz_Hp → Prop) : Prop :=
  vp_in (h.1 0 0) 16 ∧ ∀ h1, h1 = zz_uI h 1 (Int32.toNatClampNeg (h.1 0 0)) l1 → vp_in (h1.1 0 0) 16 ∧ ∀ h2, h2 = zz_uI h1 3 (Int32.toNatClampNeg (h1.1 0 0)) ((-1)) → vp_in (h2.1 0 0) 16 ∧ ∀ h3, h3 = zz_uI h2 4 (Int32.toNatClampNeg (h2.1 0 0)) ((-1)) → vp_in (h3.1 0 0) 16 ∧ ∀ h4, h4 = zz_uI h3 5 (Int32.toNatClampNeg (h3.1 0 0)) l2 → vp_in (h4.1 0 0) 16 ∧ ∀ h5, h5 = zz_uI h4 6 (Int32.toNatClampNeg (h4.1 0 0)) 0 → ∀ h6, h6 = zz_uI h5 0 0 ((h5.1 0 0) + 1) → Q ((h6.1 0 0) - 1) h6
def w_X9_ply_l38 (ag38 : Int32 × zz_Hp → Prop) (Q : Int32 → zz_Hp → Prop) (l1 : Int32) (l2 : Int32) (h : zz_Hp) : Prop :=
  
    (((h.1 0 7) ≤ l2 → w_X9_plied (h.1 0 7) l1 h (fun r4 h3 => ∀ h5, h5 = zz_uI h3 0 7 0 → Q r4 h5)) ∧
    (¬ ((h.1 0 7) ≤ l2) → vp_in l2 4 ∧ vp_in ((4 * (h.1 0 0)) + l2) 64 ∧ ∀ h6, h6 = zz_uI h 2 (Int32.toNatClampNeg ((4 * (h.1 0 0)) + l2)) (h.1 7 (Int32.toNatClampNeg l2)) → ag38 (l2 + 1, h6)))
def w_X9_ply (l1 : Int32) (h : zz_Hp) (Q : Int32 → zz_Hp → Prop) : Prop :=
  w_X9_in l1 ((-99)) 99 h (fun r2 h1 => 
  ((¬ r2 = 0 → 
    ((2 ≤ (h1.1 0 7) → 
      ((¬ (h1.1 0 0) = 16 → lp (fun s ag => w_X9_ply_l38 ag Q l1 s.1 s.2) (0, h1)) ∧
      ((h1.1 0 0) = 16 → Q ((-3)) h1))) ∧
    (¬ (2 ≤ (h1.1 0 7)) → Q ((-5)) h1))) ∧
  (r2 = 0 → Q ((-1)) h1)))
def w_X9_clear  (h : zz_Hp) (Q : Int32 → zz_Hp → Prop) : Prop :=
  ∀ h1, h1 = zz_uI h 0 0 0 → ∀ h2, h2 = zz_uI h1 0 7 0 → ∀ h3, h3 = zz_uI h2 0 9 0 → ∀ h4, h4 = zz_uI h3 0 13 0 → ∀ h5, h5 = zz_uI h4 0 16 0 → Q (h.1 0 0) h5
def w_X9_become (l1 : Int32) (l2 : Int32) (l3 : Int32) (h : zz_Hp) (Q : zz_Hp → Prop) : Prop :=
  
  ((¬ l2 = 0 → 
    ((¬ l2 = 1 → 
      ((¬ l2 = 2 → vp_in l1 16 ∧ ∀ h1, h1 = zz_uI h 6 (Int32.toNatClampNeg l1) l3 → Q h1) ∧
      (l2 = 2 → vp_in l1 16 ∧ ∀ h2, h2 = zz_uI h 3 (Int32.toNatClampNeg l1) l3 → Q h2))) ∧
    (l2 = 1 → vp_in l1 16 ∧ ∀ h3, h3 = zz_uI h 4 (Int32.toNatClampNeg l1) l3 → Q h3))) ∧
  (l2 = 0 → vp_in l1 16 ∧ ∀ h4, h4 = zz_uI h 5 (Int32.toNatClampNeg l1) l3 → Q h4))
def w_X9_toldOf (l1 : Int32) (l2 : Int32) (h : zz_Hp) (Q : Int32 → zz_Hp → Prop) : Prop :=
  
  ((¬ l2 = 0 → 
    ((¬ l2 = 1 → 
      ((¬ l2 = 2 → vp_in l1 16 ∧ Q (h.1 6 (Int32.toNatClampNeg l1)) h) ∧
      (l2 = 2 → vp_in l1 16 ∧ Q (h.1 3 (Int32.toNatClampNeg l1)) h))) ∧
    (l2 = 1 → vp_in l1 16 ∧ Q (h.1 4 (Int32.toNatClampNeg l1)) h))) ∧
  (l2 = 0 → vp_in l1 16 ∧ Q (h.1 5 (Int32.toNatClampNeg l1)) h))
def w_X9_set_j194 (Q : Int32 → zz_Hp → Prop) (l1 : Int32) (l2 : Int32) (l3 : Int32) (l6 : Int32)  (h : zz_Hp) : Prop :=
  vp_in (h.1 0 16) 10 ∧ ∀ h9, h9 = zz_uI h 13 (Int32.toNatClampNeg (h.1 0 16)) l1 → vp_in (h9.1 0 16) 10 ∧ ∀ h10, h10 = zz_uI h9 14 (Int32.toNatClampNeg (h9.1 0 16)) l2 → vp_in (h10.1 0 16) 10 ∧ ∀ h11, h11 = zz_uI h10 15 (Int32.toNatClampNeg (h10.1 0 16)) l6 → ∀ h12, h12 = zz_uI h11 0 16 ((h11.1 0 16) + 1) → w_X9_become l2 l1 l3 h12 (fun h13 => Q l6 h13)
def w_X9_set_l127 (ag127 : Int32 × zz_Hp → Prop) (Q : Int32 → zz_Hp → Prop) (l1 : Int32) (l2 : Int32) (l3 : Int32) (l6 : Int32) (l7 : Int32) (h : zz_Hp) : Prop :=
  
    ((10 ≤ l7 → ∀ h15, h15 = zz_uI h 0 16 9 → w_X9_set_j194 Q l1 l2 l3 l6  h15) ∧
    (¬ (10 ≤ l7) → vp_in l7 10 ∧ vp_in (l7 - 1) 10 ∧ ∀ h16, h16 = zz_uI h 13 (Int32.toNatClampNeg (l7 - 1)) (h.1 13 (Int32.toNatClampNeg l7)) → vp_in l7 10 ∧ vp_in (l7 - 1) 10 ∧ ∀ h17, h17 = zz_uI h16 14 (Int32.toNatClampNeg (l7 - 1)) (h16.1 14 (Int32.toNatClampNeg l7)) → vp_in l7 10 ∧ vp_in (l7 - 1) 10 ∧ ∀ h18, h18 = zz_uI h17 15 (Int32.toNatClampNeg (l7 - 1)) (h17.1 15 (Int32.toNatClampNeg l7)) → ag127 (l7 + 1, h18)))
def w_X9_set_j101 (Q : Int32 → zz_Hp → Prop) (l1 : Int32) (l2 : Int32) (l3 : Int32)  (h : zz_Hp) : Prop :=
  w_X9_toldOf l2 l1 h (fun r8 h7 => 
  ((r8 = l3 → Q r8 h7) ∧
  (¬ (r8 = l3) → 
    ((¬ (h7.1 0 16) = 10 → w_X9_set_j194 Q l1 l2 l3 r8  h7) ∧
    ((h7.1 0 16) = 10 → lp (fun s ag => w_X9_set_l127 ag Q l1 l2 l3 r8 s.1 s.2) (1, h7))))))
def w_X9_set_j62 (Q : Int32 → zz_Hp → Prop) (l1 : Int32) (l2 : Int32) (l3 : Int32) (l4 : Int32) (s0 : Int32) (h : zz_Hp) : Prop :=
  w_X9_in l3 l4 s0 h (fun r6 h5 => 
  ((¬ r6 = 0 → vp_in l2 16 ∧ 
    (((h5.1 1 (Int32.toNatClampNeg l2)) ≤ 0 → w_X9_set_j101 Q l1 l2 l3  h5) ∧
    (¬ ((h5.1 1 (Int32.toNatClampNeg l2)) ≤ 0) → 
      ((l1 = 1 → Q ((-10000)) h5) ∧
      (¬ (l1 = 1) → 
        ((¬ l1 = 2 → w_X9_set_j101 Q l1 l2 l3  h5) ∧
        (l1 = 2 → Q ((-10000)) h5))))))) ∧
  (r6 = 0 → Q ((-2147483648)) h5)))
def w_X9_set_j39 (Q : Int32 → zz_Hp → Prop) (l1 : Int32) (l2 : Int32) (l3 : Int32) (s0 : Int32) (h : zz_Hp) : Prop :=
  
  ((2 ≤ l1 → 
    ((¬ l1 = 2 → w_X9_set_j62 Q l1 l2 l3 s0 99999 h) ∧
    (l1 = 2 → w_X9_set_j62 Q l1 l2 l3 s0 3 h))) ∧
  (¬ (2 ≤ l1) → w_X9_set_j62 Q l1 l2 l3 s0 99 h))
def w_X9_set (l1 : Int32) (l2 : Int32) (l3 : Int32) (h : zz_Hp) (Q : Int32 → zz_Hp → Prop) : Prop :=
  w_X9_in l1 0 3 h (fun r2 h1 => 
  ((r2 = 0 → Q ((-2147483648)) h1) ∧
  (¬ (r2 = 0) → w_X9_isYarn l2 h1 (fun r4 h3 => 
    ((¬ r4 = 0 → 
      ((¬ l1 = 0 → 
        ((¬ l1 = 1 → w_X9_set_j39 Q l1 l2 l3 0 h3) ∧
        (l1 = 1 → w_X9_set_j39 Q l1 l2 l3 1 h3))) ∧
      (l1 = 0 → w_X9_set_j39 Q l1 l2 l3 ((-99)) h3))) ∧
    (r4 = 0 → Q ((-2147483648)) h3))))))
def w_X9_sizeOf (l0 : Int32) (h : zz_Hp) (Q : Int32 → zz_Hp → Prop) : Prop :=
  
  ((0 ≤ l0 → Q l0 h) ∧
  (¬ (0 ≤ l0) → Q (-l0) h))
def w_X9_byOf (l1 : Int32) (h : zz_Hp) (Q : Int32 → zz_Hp → Prop) : Prop :=
  vp_in l1 16 ∧ 
  ((¬ (h.1 1 (Int32.toNatClampNeg l1)) = 0 → vp_in l1 16 ∧ w_X9_sizeOf (h.1 5 (Int32.toNatClampNeg l1)) h (fun r2 h1 => vp_in l1 16 ∧ Q (1000 - (r2 * (h1.1 1 (Int32.toNatClampNeg l1)))) h1)) ∧
  ((h.1 1 (Int32.toNatClampNeg l1)) = 0 → Q 1000 h))
def w_X9_walk_l108 (rc : Int32 → Int32 → Int32 → Int64 → Int64 → zz_Hp → (zz_Hp → Prop) → Prop) (ag108 : Int32 × zz_Hp → Prop) (Q : zz_Hp → Prop) (l1 : Int32) (l4 : Int64) (l6 : Int64) (l8 : Int32) (l9 : Int32) (l10 : Int32) (l11 : Int32) (h : zz_Hp) : Prop :=
  vp_in l1 16 ∧ 
    (((h.1 1 (Int32.toNatClampNeg l1)) ≤ l11 → Q h) ∧
    (¬ ((h.1 1 (Int32.toNatClampNeg l1)) ≤ l11) → vp_in ((4 * l1) + l11) 64 ∧ rc (h.1 2 (Int32.toNatClampNeg ((4 * l1) + l11))) l8 l10 (l4 * (Int32.toInt64 l9)) (l6 * 1000) h (fun h3 => ag108 (l11 + 1, h3))))
def w_X9_walk_b (rc : Int32 → Int32 → Int32 → Int64 → Int64 → zz_Hp → (zz_Hp → Prop) → Prop) (l1 : Int32) (l2 : Int32) (l3 : Int32) (l4 : Int64) (l6 : Int64) (h : zz_Hp) (Q : zz_Hp → Prop) : Prop :=
  vp_in l1 16 ∧ vp_in l1 16 ∧ 
  ((¬ (h.1 1 (Int32.toNatClampNeg l1)) = 0 → w_X9_byOf l1 h (fun r2 h1 => ¬ r2 = 0 ∧ lp (fun s ag => w_X9_walk_l108 rc ag Q l1 l4 l6 (l2 + (h.1 5 (Int32.toNatClampNeg l1))) r2 ((((l3 * 1000) + r2) - 1) / r2) s.1 s.2) (0, h1))) ∧
  ((h.1 1 (Int32.toNatClampNeg l1)) = 0 → vp_in (h.1 0 40) 64 ∧ ∀ h5, h5 = zz_uI h 31 (Int32.toNatClampNeg (h.1 0 40)) l1 → vp_in (h5.1 0 40) 64 ∧ ∀ h6, h6 = zz_uI h5 32 (Int32.toNatClampNeg (h5.1 0 40)) (l2 + (h.1 5 (Int32.toNatClampNeg l1))) → vp_in (h6.1 0 40) 64 ∧ ∀ h7, h7 = zz_uI h6 33 (Int32.toNatClampNeg (h6.1 0 40)) l3 → vp_in (h7.1 0 40) 64 ∧ ∀ h8, h8 = zz_uL h7 34 (Int32.toNatClampNeg (h7.1 0 40)) l4 → vp_in (h8.1 0 40) 64 ∧ ∀ h9, h9 = zz_uL h8 35 (Int32.toNatClampNeg (h8.1 0 40)) l6 → ∀ h10, h10 = zz_uI h9 0 40 ((h9.1 0 40) + 1) → Q h10))
def w_X9_walk : Nat → Int32 → Int32 → Int32 → Int64 → Int64 → zz_Hp → (zz_Hp → Prop) → Prop
  | 0 => fun _ _ _ _ _ _ _ => False
  | n + 1 => w_X9_walk_b (w_X9_walk n)
def w_X9_walkOver (l1 : Int32) (l2 : Int32) (h : zz_Hp) (Q : zz_Hp → Prop) : Prop :=
  ∀ h1, h1 = zz_uI h 0 40 0 → w_X9_walk 5 l1 0 l2 1 1 h1 (fun h2 => Q h2)
def w_X9_of (l1 : Int32) (l2 : Int32) (h : zz_Hp) (Q : Int32 → zz_Hp → Prop) : Prop :=
  w_X9_isYarn l1 h (fun r2 h1 => 
  ((r2 = 0 → Q ((-2147483648)) h1) ∧
  (¬ (r2 = 0) → w_X9_in l2 0 7 h1 (fun r4 h3 => 
    ((¬ r4 = 0 → 
      (((Int32.toInt l2) = 4 → vp_in l1 16 ∧ Q (h3.1 1 (Int32.toNatClampNeg l1)) h3) ∧
      ((Int32.toInt l2) = 5 → w_X9_depthOf 5 l1 h3 (fun r6 h5 => Q r6 h5)) ∧
      ((Int32.toInt l2) = 6 → w_X9_walkOver l1 0 h3 (fun h7 => Q (h7.1 0 40) h7)) ∧
      ((Int32.toInt l2) = 7 → w_X9_byOf l1 h3 (fun r10 h9 => Q r10 h9)) ∧
      (((Int32.toInt l2) < 4 ∨ 7 < (Int32.toInt l2)) → w_X9_toldOf l1 l2 h3 (fun r12 h11 => Q r12 h11)))) ∧
    (r4 = 0 → Q ((-2147483648)) h3))))))
def w_X9_partOf (l1 : Int32) (l2 : Int32) (h : zz_Hp) (Q : Int32 → zz_Hp → Prop) : Prop :=
  w_X9_isYarn l1 h (fun r2 h1 => 
  ((r2 = 0 → Q ((-1)) h1) ∧
  (¬ (r2 = 0) → 
    ((0 ≤ l2 → vp_in l1 16 ∧ w_X9_in l2 0 ((h1.1 1 (Int32.toNatClampNeg l1)) - 1) h1 (fun r4 h3 => 
      ((r4 = 0 → Q ((-2)) h3) ∧
      (¬ (r4 = 0) → vp_in ((4 * l1) + l2) 64 ∧ Q (h3.1 2 (Int32.toNatClampNeg ((4 * l1) + l2))) h3)))) ∧
    (¬ (0 ≤ l2) → Q ((-1)) h1)))))
def w_X9_leaf (l1 : Int32) (l2 : Int32) (l3 : Int32) (h : zz_Hp) (Q : Int32 → zz_Hp → Prop) : Prop :=
  w_X9_isYarn l1 h (fun r2 h1 => 
  ((r2 = 0 → Q ((-2147483648)) h1) ∧
  (¬ (r2 = 0) → w_X9_in l3 0 1 h1 (fun r4 h3 => 
    ((¬ r4 = 0 → w_X9_walkOver l1 0 h3 (fun h5 => w_X9_in l2 0 ((h5.1 0 40) - 1) h5 (fun r8 h7 => 
      ((¬ r8 = 0 → 
        ((¬ l3 = 0 → vp_in l2 64 ∧ Q (h7.1 32 (Int32.toNatClampNeg l2)) h7) ∧
        (l3 = 0 → vp_in l2 64 ∧ Q (h7.1 31 (Int32.toNatClampNeg l2)) h7))) ∧
      (r8 = 0 → Q ((-2147483648)) h7))))) ∧
    (r4 = 0 → Q ((-2147483648)) h3))))))
def w_X9_tallyIn_l26 (rc : Int32 → zz_Hp → (zz_Hp → Prop) → Prop) (ag26 : Int32 × zz_Hp → Prop) (Q : zz_Hp → Prop) (l1 : Int32) (l2 : Int32) (h : zz_Hp) : Prop :=
  vp_in l1 16 ∧ 
    (((h.1 1 (Int32.toNatClampNeg l1)) ≤ l2 → Q h) ∧
    (¬ ((h.1 1 (Int32.toNatClampNeg l1)) ≤ l2) → vp_in ((4 * l1) + l2) 64 ∧ rc (h.1 2 (Int32.toNatClampNeg ((4 * l1) + l2))) h (fun h1 => ag26 (l2 + 1, h1))))
def w_X9_tallyIn_b (rc : Int32 → zz_Hp → (zz_Hp → Prop) → Prop) (l1 : Int32) (h : zz_Hp) (Q : zz_Hp → Prop) : Prop :=
  vp_in l1 16 ∧ 
  ((¬ (h.1 1 (Int32.toNatClampNeg l1)) = 0 → lp (fun s ag => w_X9_tallyIn_l26 rc ag Q l1 s.1 s.2) (0, h)) ∧
  ((h.1 1 (Int32.toNatClampNeg l1)) = 0 → vp_in l1 16 ∧ vp_in (h.1 3 (Int32.toNatClampNeg l1)) 4 ∧ vp_in (h.1 3 (Int32.toNatClampNeg l1)) 4 ∧ ∀ h3, h3 = zz_uI h 19 (Int32.toNatClampNeg (h.1 3 (Int32.toNatClampNeg l1))) ((h.1 19 (Int32.toNatClampNeg (h.1 3 (Int32.toNatClampNeg l1)))) + 1) → lp (fun s ag => w_X9_tallyIn_l26 rc ag Q l1 s.1 s.2) (0, h3)))
def w_X9_tallyIn : Nat → Int32 → zz_Hp → (zz_Hp → Prop) → Prop
  | 0 => fun _ _ _ => False
  | n + 1 => w_X9_tallyIn_b (w_X9_tallyIn n)
def w_X9_pull (l0 : Int32) (l1 : Int32) (l2 : Int32) (h : zz_Hp) (Q : Int32 → zz_Hp → Prop) : Prop :=
  
  ((¬ l0 = 0 → 
    ((¬ l0 = 1 → 
      ((¬ l0 = 2 → 
        ((l2 ≤ 20 → 
          ((((-20)) ≤ l2 → Q (l1 * l2) h) ∧
          (¬ (((-20)) ≤ l2) → Q ((l1 * l2) + (l1 * (l2 + 20))) h))) ∧
        (¬ (l2 ≤ 20) → Q ((l1 * l2) + (l1 * (l2 - 20))) h))) ∧
      (l0 = 2 → Q ((l1 * l2) / 2) h))) ∧
    (l0 = 1 → Q (2 * (l1 * l2)) h))) ∧
  (l0 = 0 → Q (l1 * l2) h))
def w_X9_torqueIn_l48 (rc : Int32 → Int32 → zz_Hp → (Int32 → zz_Hp → Prop) → Prop) (ag48 : Int32 × Int32 × zz_Hp → Prop) (Q : Int32 → zz_Hp → Prop) (l1 : Int32) (l3 : Int32) (l4 : Int32) (l5 : Int32) (h : zz_Hp) : Prop :=
  vp_in l1 16 ∧ 
    (((h.1 1 (Int32.toNatClampNeg l1)) ≤ l5 → Q l4 h) ∧
    (¬ ((h.1 1 (Int32.toNatClampNeg l1)) ≤ l5) → vp_in ((4 * l1) + l5) 64 ∧ rc (h.1 2 (Int32.toNatClampNeg ((4 * l1) + l5))) l3 h (fun r2 h1 => ag48 (l4 + r2, l5 + 1, h1))))
def w_X9_torqueIn_b (rc : Int32 → Int32 → zz_Hp → (Int32 → zz_Hp → Prop) → Prop) (l1 : Int32) (l2 : Int32) (h : zz_Hp) (Q : Int32 → zz_Hp → Prop) : Prop :=
  vp_in l1 16 ∧ vp_in l1 16 ∧ 
  ((¬ (h.1 1 (Int32.toNatClampNeg l1)) = 0 → vp_in l1 16 ∧ lp (fun s ag => w_X9_torqueIn_l48 rc ag Q l1 (l2 + (h.1 5 (Int32.toNatClampNeg l1))) s.1 s.2.1 s.2.2) ((l2 + (h.1 5 (Int32.toNatClampNeg l1))) * (h.1 1 (Int32.toNatClampNeg l1)), 0, h)) ∧
  ((h.1 1 (Int32.toNatClampNeg l1)) = 0 → vp_in l1 16 ∧ vp_in l1 16 ∧ w_X9_pull (h.1 3 (Int32.toNatClampNeg l1)) (h.1 4 (Int32.toNatClampNeg l1)) (l2 + (h.1 5 (Int32.toNatClampNeg l1))) h (fun r4 h3 => Q r4 h3)))
def w_X9_torqueIn : Nat → Int32 → Int32 → zz_Hp → (Int32 → zz_Hp → Prop) → Prop
  | 0 => fun _ _ _ _ => False
  | n + 1 => w_X9_torqueIn_b (w_X9_torqueIn n)
def w_X9_torqueOf (l1 : Int32) (h : zz_Hp) (Q : Int32 → zz_Hp → Prop) : Prop :=
  w_X9_torqueIn 5 l1 0 h (fun r2 h1 => Q r2 h1)
def w_X9_torque_l13 (ag13 : Int32 × zz_Hp → Prop) (Q : Int32 → zz_Hp → Prop) (l1 : Int32) (l2 : Int32) (h : zz_Hp) : Prop :=
  
    ((4 ≤ l2 → w_X9_tallyIn 5 l1 h (fun h3 => w_X9_torqueOf l1 h3 (fun r6 h5 => Q r6 h5))) ∧
    (¬ (4 ≤ l2) → vp_in l2 4 ∧ ∀ h7, h7 = zz_uI h 19 (Int32.toNatClampNeg l2) 0 → ag13 (l2 + 1, h7)))
def w_X9_torque (l1 : Int32) (h : zz_Hp) (Q : Int32 → zz_Hp → Prop) : Prop :=
  w_X9_isYarn l1 h (fun r2 h1 => 
  ((¬ r2 = 0 → lp (fun s ag => w_X9_torque_l13 ag Q l1 s.1 s.2) (0, h1)) ∧
  (r2 = 0 → Q ((-2147483648)) h1)))
def w_X9_tally (l1 : Int32) (h : zz_Hp) (Q : Int32 → zz_Hp → Prop) : Prop :=
  w_X9_in l1 0 3 h (fun r2 h1 => 
  ((r2 = 0 → Q ((-1)) h1) ∧
  (¬ (r2 = 0) → vp_in l1 4 ∧ Q (h1.1 19 (Int32.toNatClampNeg l1)) h1)))
def w_X9_common_l6 (ag6 : Int64 × Int64 × zz_Hp → Prop) (Q : Int64 → zz_Hp → Prop)  (l4 : Int64) (l6 : Int64) (h : zz_Hp) : Prop :=
  
    (((lg_cmp l6 0) = 0 → Q l4 h) ∧
    (¬ ((lg_cmp l6 0) = 0) → ¬ l6 = 0 ∧ ag6 (l6, l4 - l4 / l6 * l6, h)))
def w_X9_common (l0 : Int64) (l2 : Int64) (h : zz_Hp) (Q : Int64 → zz_Hp → Prop) : Prop :=
  lp (fun s ag => w_X9_common_l6 ag Q  s.1 s.2.1 s.2.2) (l0, l2, h)
def w_X9_kept (l1 : Int32) (l2 : Int32) (l3 : Int32) (h : zz_Hp) (Q : Int64 → zz_Hp → Prop) : Prop :=
  w_X9_isYarn l1 h (fun r2 h1 => 
  ((r2 = 0 → Q ((-2147483648)) h1) ∧
  (¬ (r2 = 0) → w_X9_in l3 0 1 h1 (fun r4 h3 => 
    ((¬ r4 = 0 → w_X9_walkOver l1 0 h3 (fun h5 => w_X9_in l2 0 ((h5.1 0 40) - 1) h5 (fun r8 h7 => 
      ((¬ r8 = 0 → vp_in l2 64 ∧ vp_in l2 64 ∧ w_X9_common (h7.2 34 (Int32.toNatClampNeg l2)) (h7.2 35 (Int32.toNatClampNeg l2)) h7 (fun r10 h9 => 
        ((¬ l3 = 0 → vp_in l2 64 ∧ ¬ r10 = 0 ∧ Q ((h9.2 35 (Int32.toNatClampNeg l2)) / r10) h9) ∧
        (l3 = 0 → vp_in l2 64 ∧ ¬ r10 = 0 ∧ Q ((h9.2 34 (Int32.toNatClampNeg l2)) / r10) h9)))) ∧
      (r8 = 0 → Q ((-2147483648)) h7))))) ∧
    (r4 = 0 → Q ((-2147483648)) h3))))))
def w_X9_needs (l1 : Int32) (l2 : Int32) (l3 : Int32) (h : zz_Hp) (Q : Int32 → zz_Hp → Prop) : Prop :=
  w_X9_isYarn l1 h (fun r2 h1 => 
  ((r2 = 0 → Q ((-1)) h1) ∧
  (¬ (r2 = 0) → w_X9_in l3 0 9999 h1 (fun r4 h3 => 
    ((¬ r4 = 0 → w_X9_walkOver l1 l3 h3 (fun h5 => w_X9_in l2 0 ((h5.1 0 40) - 1) h5 (fun r8 h7 => 
      ((r8 = 0 → Q ((-1)) h7) ∧
      (¬ (r8 = 0) → vp_in l2 64 ∧ Q (h7.1 33 (Int32.toNatClampNeg l2)) h7))))) ∧
    (r4 = 0 → Q ((-1)) h3))))))
def w_X9_heavyOf_l11 (ag11 : Int32 × Int32 × zz_Hp → Prop) (Q : Int32 → zz_Hp → Prop)  (l3 : Int32) (l4 : Int32) (h : zz_Hp) : Prop :=
  
    (((h.1 0 40) ≤ l4 → Q (l3 / 100) h) ∧
    (¬ ((h.1 0 40) ≤ l4) → vp_in l4 64 ∧ vp_in (h.1 31 (Int32.toNatClampNeg l4)) 16 ∧ vp_in l4 64 ∧ ag11 (l3 + ((h.1 4 (Int32.toNatClampNeg (h.1 31 (Int32.toNatClampNeg l4)))) * (h.1 33 (Int32.toNatClampNeg l4))), l4 + 1, h)))
def w_X9_heavyOf (l1 : Int32) (l2 : Int32) (h : zz_Hp) (Q : Int32 → zz_Hp → Prop) : Prop :=
  w_X9_walkOver l1 l2 h (fun h1 => lp (fun s ag => w_X9_heavyOf_l11 ag Q  s.1 s.2.1 s.2.2) (0, 0, h1))
def w_X9_heavy (l1 : Int32) (l2 : Int32) (h : zz_Hp) (Q : Int32 → zz_Hp → Prop) : Prop :=
  w_X9_isYarn l1 h (fun r2 h1 => 
  ((r2 = 0 → Q ((-1)) h1) ∧
  (¬ (r2 = 0) → w_X9_in l2 0 9999 h1 (fun r4 h3 => 
    ((r4 = 0 → Q ((-1)) h3) ∧
    (¬ (r4 = 0) → w_X9_heavyOf l1 l2 h3 (fun r6 h5 => Q r6 h5)))))))
def w_X9_bitsOf_l6 (rc : Int32 → zz_Hp → (Int32 → zz_Hp → Prop) → Prop) (ag6 : Int32 × Int32 × zz_Hp → Prop) (Q : Int32 → zz_Hp → Prop) (l1 : Int32) (l2 : Int32) (l3 : Int32) (h : zz_Hp) : Prop :=
  vp_in l1 16 ∧ 
    (((h.1 1 (Int32.toNatClampNeg l1)) ≤ l3 → Q l2 h) ∧
    (¬ ((h.1 1 (Int32.toNatClampNeg l1)) ≤ l3) → vp_in ((4 * l1) + l3) 64 ∧ rc (h.1 2 (Int32.toNatClampNeg ((4 * l1) + l3))) h (fun r2 h1 => ag6 (l2 ||| r2, l3 + 1, h1))))
def w_X9_bitsOf_b (rc : Int32 → zz_Hp → (Int32 → zz_Hp → Prop) → Prop) (l1 : Int32) (h : zz_Hp) (Q : Int32 → zz_Hp → Prop) : Prop :=
  lp (fun s ag => w_X9_bitsOf_l6 rc ag Q l1 s.1 s.2.1 s.2.2) (1 <<< (l1 &&& 31), 0, h)
def w_X9_bitsOf : Nat → Int32 → zz_Hp → (Int32 → zz_Hp → Prop) → Prop
  | 0 => fun _ _ _ => False
  | n + 1 => w_X9_bitsOf_b (w_X9_bitsOf n)
def w_X9_isIn (l1 : Int32) (l2 : Int32) (h : zz_Hp) (Q : Int32 → zz_Hp → Prop) : Prop :=
  w_X9_bitsOf 5 l1 h (fun r2 h1 => 
  ((¬ ((r2 >>> (l2 &&& 31)) &&& 1) = 1 → Q 0 h1) ∧
  (((r2 >>> (l2 &&& 31)) &&& 1) = 1 → Q 1 h1)))
def w_X9_balance_j95 (ag68 : Int32 × Int32 × Int32 × zz_Hp → Prop) (Q : Int32 → zz_Hp → Prop) (l1 : Int32) (l2 : Int32) (l3 : Int32) (l4 : Int32) (l5 : Int32) (l6 : Int32) (l7 : Int32) (s0 : Int32) (h : zz_Hp) : Prop :=
  vp_in l2 16 ∧ ∀ h13, h13 = zz_uI h 5 (Int32.toNatClampNeg l2) s0 → w_X9_torqueOf l1 h13 (fun r15 h14 => w_X9_sizeOf r15 h14 (fun r17 h16 => w_X9_sizeOf l6 h16 (fun r19 h18 => 
  ((r19 ≤ r17 → ag68 (l5, l6, l7 + 1, h18)) ∧
  (¬ (r19 ≤ r17) → ag68 (s0, r15, l7 + 1, h18))))))
def w_X9_balance_l68 (ag68 : Int32 × Int32 × Int32 × zz_Hp → Prop) (Q : Int32 → zz_Hp → Prop) (l1 : Int32) (l2 : Int32) (l3 : Int32) (l4 : Int32) (l5 : Int32) (l6 : Int32) (l7 : Int32) (h : zz_Hp) : Prop :=
  
    ((200 ≤ l7 → vp_in l2 16 ∧ ∀ h12, h12 = zz_uI h 5 (Int32.toNatClampNeg l2) l4 → 
      ((¬ l3 = 0 → Q l6 h12) ∧
      (l3 = 0 → Q l5 h12))) ∧
    (¬ (200 ≤ l7) → 
      ((¬ (l7 - l7 / 2 * 2) = 0 → w_X9_balance_j95 ag68 Q l1 l2 l3 l4 l5 l6 l7 (l7 / 2) h) ∧
      ((l7 - l7 / 2 * 2) = 0 → w_X9_balance_j95 ag68 Q l1 l2 l3 l4 l5 l6 l7 (-(l7 / 2)) h))))
def w_X9_balance (l1 : Int32) (l2 : Int32) (l3 : Int32) (h : zz_Hp) (Q : Int32 → zz_Hp → Prop) : Prop :=
  w_X9_isYarn l1 h (fun r2 h1 => 
  ((r2 = 0 → Q ((-2147483648)) h1) ∧
  (¬ (r2 = 0) → w_X9_isYarn l2 h1 (fun r4 h3 => 
    ((r4 = 0 → Q ((-2147483648)) h3) ∧
    (¬ (r4 = 0) → w_X9_in l3 0 1 h3 (fun r6 h5 => 
      ((¬ r6 = 0 → w_X9_isIn l1 l2 h5 (fun r8 h7 => 
        ((¬ r8 = 0 → vp_in l2 16 ∧ vp_in l2 16 ∧ ∀ h9, h9 = zz_uI h7 5 (Int32.toNatClampNeg l2) 0 → w_X9_torqueOf l1 h9 (fun r11 h10 => lp (fun s ag => w_X9_balance_l68 ag Q l1 l2 l3 (h7.1 5 (Int32.toNatClampNeg l2)) s.1 s.2.1 s.2.2.1 s.2.2.2) (0, r11, 2, h10))) ∧
        (r8 = 0 → Q ((-10000000)) h7)))) ∧
      (r6 = 0 → Q ((-2147483648)) h5)))))))))
def w_X9_isThread (l1 : Int32) (h : zz_Hp) (Q : Int32 → zz_Hp → Prop) : Prop :=
  w_X9_isYarn l1 h (fun r2 h1 => 
  ((r2 = 0 → Q 0 h1) ∧
  (¬ (r2 = 0) → vp_in l1 16 ∧ 
    ((¬ (h1.1 1 (Int32.toNatClampNeg l1)) = 0 → Q 0 h1) ∧
    ((h1.1 1 (Int32.toNatClampNeg l1)) = 0 → Q 1 h1)))))
def w_X9_plan_j121 (ag51 : Int32 × Int32 × Int32 × zz_Hp → Prop) (Q : Int32 → zz_Hp → Prop) (l1 : Int32) (l2 : Int32) (l3 : Int32) (l4 : Int32) (l7 : Int32) (l10 : Int32)  (h : zz_Hp) : Prop :=
  ag51 (l7, l10, l7 + 1, h)
def w_X9_plan_l51 (ag51 : Int32 × Int32 × Int32 × zz_Hp → Prop) (Q : Int32 → zz_Hp → Prop) (l1 : Int32) (l2 : Int32) (l3 : Int32) (l4 : Int32) (l5 : Int32) (l6 : Int32) (l7 : Int32) (h : zz_Hp) : Prop :=
  
    ((4 < l7 → 
      ((¬ l4 = 0 → Q l6 h) ∧
      (l4 = 0 → Q l5 h))) ∧
    (¬ (4 < l7) → w_X9_sizeOf l2 h (fun r10 h9 => ¬ (1000 - (r10 * l7)) = 0 ∧ vp_in l1 16 ∧ 
      ((l5 = 0 → w_X9_plan_j121 ag51 Q l1 l2 l3 l4 l7 (((l7 * (h9.1 4 (Int32.toNatClampNeg l1))) * (((100000 + (1000 - (r10 * l7))) - 1) / (1000 - (r10 * l7)))) / 100)  h9) ∧
      (¬ (l5 = 0) → w_X9_sizeOf ((((l7 * (h9.1 4 (Int32.toNatClampNeg l1))) * (((100000 + (1000 - (r10 * l7))) - 1) / (1000 - (r10 * l7)))) / 100) - l3) h9 (fun r12 h11 => w_X9_sizeOf (l6 - l3) h11 (fun r14 h13 => 
        ((r14 ≤ r12 → ag51 (l5, l6, l7 + 1, h13)) ∧
        (¬ (r14 ≤ r12) → w_X9_plan_j121 ag51 Q l1 l2 l3 l4 l7 (((l7 * (h9.1 4 (Int32.toNatClampNeg l1))) * (((100000 + (1000 - (r10 * l7))) - 1) / (1000 - (r10 * l7)))) / 100)  h13)))))))))
def w_X9_plan (l1 : Int32) (l2 : Int32) (l3 : Int32) (l4 : Int32) (h : zz_Hp) (Q : Int32 → zz_Hp → Prop) : Prop :=
  w_X9_isThread l1 h (fun r2 h1 => 
  ((r2 = 0 → Q ((-1)) h1) ∧
  (¬ (r2 = 0) → w_X9_in l2 ((-99)) 99 h1 (fun r4 h3 => 
    ((r4 = 0 → Q ((-1)) h3) ∧
    (¬ (r4 = 0) → w_X9_in l3 0 9999 h3 (fun r6 h5 => 
      ((r6 = 0 → Q ((-1)) h5) ∧
      (¬ (r6 = 0) → w_X9_in l4 0 1 h5 (fun r8 h7 => 
        ((¬ r8 = 0 → lp (fun s ag => w_X9_plan_l51 ag Q l1 l2 l3 l4 s.1 s.2.1 s.2.2.1 s.2.2.2) (0, 0, 2, h7)) ∧
        (r8 = 0 → Q ((-1)) h7))))))))))))
def w_X9_lacks_l87 (ag87 : Int32 × Int32 × zz_Hp → Prop) (Q : Int32 → zz_Hp → Prop)  (l3 : Int32) (l4 : Int32) (h : zz_Hp) : Prop :=
  
    (((h.1 0 0) ≤ l4 → (l3 = 0 ∨ l3 = 1) ∧ Q l3 h) ∧
    (¬ ((h.1 0 0) ≤ l4) → 
      ((¬ l3 = 0 → ag87 (1, l4 + 1, h)) ∧
      (l3 = 0 → vp_in l4 16 ∧ vp_in l4 16 ∧ 
        (((h.1 36 (Int32.toNatClampNeg l4)) ≤ (h.1 6 (Int32.toNatClampNeg l4)) → ag87 (0, l4 + 1, h)) ∧
        (¬ ((h.1 36 (Int32.toNatClampNeg l4)) ≤ (h.1 6 (Int32.toNatClampNeg l4))) → ag87 (1, l4 + 1, h)))))))
def w_X9_lacks_l31 (ag31 : Int32 × zz_Hp → Prop) (Q : Int32 → zz_Hp → Prop) (l1 : Int32) (l2 : Int32) (l3 : Int32) (h : zz_Hp) : Prop :=
  
    (((h.1 0 40) ≤ l3 → vp_in l1 16 ∧ 
      ((((h.1 6 (Int32.toNatClampNeg l1)) + l2) ≤ 99999 → lp (fun s ag => w_X9_lacks_l87 ag Q  s.1 s.2.1 s.2.2) (0, 0, h)) ∧
      (¬ (((h.1 6 (Int32.toNatClampNeg l1)) + l2) ≤ 99999) → lp (fun s ag => w_X9_lacks_l87 ag Q  s.1 s.2.1 s.2.2) (1, 0, h)))) ∧
    (¬ ((h.1 0 40) ≤ l3) → vp_in l3 64 ∧ vp_in (h.1 31 (Int32.toNatClampNeg l3)) 16 ∧ vp_in l3 64 ∧ vp_in (h.1 31 (Int32.toNatClampNeg l3)) 16 ∧ ∀ h3, h3 = zz_uI h 36 (Int32.toNatClampNeg (h.1 31 (Int32.toNatClampNeg l3))) ((h.1 36 (Int32.toNatClampNeg (h.1 31 (Int32.toNatClampNeg l3)))) + (h.1 33 (Int32.toNatClampNeg l3))) → ag31 (l3 + 1, h3)))
def w_X9_lacks_l8 (ag8 : Int32 × zz_Hp → Prop) (Q : Int32 → zz_Hp → Prop) (l1 : Int32) (l2 : Int32) (l3 : Int32) (h : zz_Hp) : Prop :=
  
    (((h.1 0 0) ≤ l3 → lp (fun s ag => w_X9_lacks_l31 ag Q l1 l2 s.1 s.2) (0, h)) ∧
    (¬ ((h.1 0 0) ≤ l3) → vp_in l3 16 ∧ ∀ h4, h4 = zz_uI h 36 (Int32.toNatClampNeg l3) 0 → ag8 (l3 + 1, h4)))
def w_X9_lacks (l1 : Int32) (l2 : Int32) (h : zz_Hp) (Q : Int32 → zz_Hp → Prop) : Prop :=
  w_X9_walkOver l1 l2 h (fun h1 => lp (fun s ag => w_X9_lacks_l8 ag Q l1 l2 s.1 s.2) (0, h1))
def w_X9_can_l28 (ag28 : Int32 × Int32 × zz_Hp → Prop) (Q : Int32 → zz_Hp → Prop) (l1 : Int32) (l2 : Int32) (l3 : Int32) (h : zz_Hp) : Prop :=
  
    ((l3 ≤ l2 → Q l2 h) ∧
    (¬ (l3 ≤ l2) → w_X9_lacks l1 (((l2 + l3) + 1) / 2) h (fun r4 h3 => 
      ((r4 = 0 → ag28 (((l2 + l3) + 1) / 2, l3, h3)) ∧
      (¬ (r4 = 0) → ag28 (l2, (((l2 + l3) + 1) / 2) - 1, h3))))))
def w_X9_can (l1 : Int32) (h : zz_Hp) (Q : Int32 → zz_Hp → Prop) : Prop :=
  w_X9_isYarn l1 h (fun r2 h1 => 
  ((¬ r2 = 0 → vp_in l1 16 ∧ 
    ((¬ (h1.1 1 (Int32.toNatClampNeg l1)) = 0 → lp (fun s ag => w_X9_can_l28 ag Q l1 s.1 s.2.1 s.2.2) (0, 9999, h1)) ∧
    ((h1.1 1 (Int32.toNatClampNeg l1)) = 0 → Q ((-5)) h1))) ∧
  (r2 = 0 → Q ((-1)) h1)))
def w_X9_areAlike_l82 (rc : Int32 → Int32 → Int32 → zz_Hp → (Int32 → zz_Hp → Prop) → Prop) (ag82 : Int32 × zz_Hp → Prop) (Q : Int32 → zz_Hp → Prop) (l1 : Int32) (l2 : Int32) (l3 : Int32) (l4 : Int32) (h : zz_Hp) : Prop :=
  vp_in l1 16 ∧ 
    (((h.1 1 (Int32.toNatClampNeg l1)) ≤ l4 → Q 1 h) ∧
    (¬ ((h.1 1 (Int32.toNatClampNeg l1)) ≤ l4) → vp_in ((4 * l1) + l4) 64 ∧ vp_in ((4 * l2) + l4) 64 ∧ rc (h.1 2 (Int32.toNatClampNeg ((4 * l1) + l4))) (h.1 2 (Int32.toNatClampNeg ((4 * l2) + l4))) l3 h (fun r2 h1 => 
      ((¬ r2 = 0 → ag82 (l4 + 1, h1)) ∧
      (r2 = 0 → Q 0 h1)))))
def w_X9_areAlike_b (rc : Int32 → Int32 → Int32 → zz_Hp → (Int32 → zz_Hp → Prop) → Prop) (l1 : Int32) (l2 : Int32) (l3 : Int32) (h : zz_Hp) (Q : Int32 → zz_Hp → Prop) : Prop :=
  vp_in l1 16 ∧ vp_in l2 16 ∧ 
  ((¬ (h.1 1 (Int32.toNatClampNeg l1)) = (h.1 1 (Int32.toNatClampNeg l2)) → Q 0 h) ∧
  ((h.1 1 (Int32.toNatClampNeg l1)) = (h.1 1 (Int32.toNatClampNeg l2)) → vp_in l1 16 ∧ vp_in l2 16 ∧ 
    (((h.1 5 (Int32.toNatClampNeg l1)) = (l3 * (h.1 5 (Int32.toNatClampNeg l2))) → vp_in l1 16 ∧ 
      ((¬ (h.1 1 (Int32.toNatClampNeg l1)) = 0 → lp (fun s ag => w_X9_areAlike_l82 rc ag Q l1 l2 l3 s.1 s.2) (0, h)) ∧
      ((h.1 1 (Int32.toNatClampNeg l1)) = 0 → vp_in l1 16 ∧ vp_in l2 16 ∧ 
        ((¬ (h.1 3 (Int32.toNatClampNeg l1)) = (h.1 3 (Int32.toNatClampNeg l2)) → Q 0 h) ∧
        ((h.1 3 (Int32.toNatClampNeg l1)) = (h.1 3 (Int32.toNatClampNeg l2)) → vp_in l1 16 ∧ vp_in l2 16 ∧ 
          ((¬ (h.1 4 (Int32.toNatClampNeg l1)) = (h.1 4 (Int32.toNatClampNeg l2)) → Q 0 h) ∧
          ((h.1 4 (Int32.toNatClampNeg l1)) = (h.1 4 (Int32.toNatClampNeg l2)) → Q 1 h))))))) ∧
    (¬ ((h.1 5 (Int32.toNatClampNeg l1)) = (l3 * (h.1 5 (Int32.toNatClampNeg l2)))) → Q 0 h))))
def w_X9_areAlike : Nat → Int32 → Int32 → Int32 → zz_Hp → (Int32 → zz_Hp → Prop) → Prop
  | 0 => fun _ _ _ _ _ => False
  | n + 1 => w_X9_areAlike_b (w_X9_areAlike n)
def w_X9_alike_j39 (Q : Int32 → zz_Hp → Prop)  (s0 : Int32) (s1 : Int32) (s2 : Int32) (h : zz_Hp) : Prop :=
  w_X9_areAlike 5 s2 s1 s0 h (fun r8 h7 => 
  ((r8 = 0 → Q 0 h7) ∧
  (¬ (r8 = 0) → Q 1 h7)))
def w_X9_alike (l1 : Int32) (l2 : Int32) (l3 : Int32) (h : zz_Hp) (Q : Int32 → zz_Hp → Prop) : Prop :=
  w_X9_isYarn l1 h (fun r2 h1 => 
  ((r2 = 0 → Q ((-1)) h1) ∧
  (¬ (r2 = 0) → w_X9_isYarn l2 h1 (fun r4 h3 => 
    ((r4 = 0 → Q ((-1)) h3) ∧
    (¬ (r4 = 0) → w_X9_in l3 0 1 h3 (fun r6 h5 => 
      ((¬ r6 = 0 → 
        ((¬ l3 = 0 → w_X9_alike_j39 Q  ((-1)) l2 l1 h5) ∧
        (l3 = 0 → w_X9_alike_j39 Q  1 l2 l1 h5))) ∧
      (r6 = 0 → Q ((-1)) h5)))))))))
def w_X9_inside (l1 : Int32) (h : zz_Hp) (Q : Int32 → zz_Hp → Prop) : Prop :=
  w_X9_isYarn l1 h (fun r2 h1 => 
  ((r2 = 0 → Q ((-1)) h1) ∧
  (¬ (r2 = 0) → w_X9_bitsOf 5 l1 h1 (fun r4 h3 => Q r4 h3))))
def w_X9_isMade_l13 (ag13 : Int32 × zz_Hp → Prop) (Q : Int32 → zz_Hp → Prop) (l1 : Int32) (l2 : Int32) (l3 : Int32) (h : zz_Hp) : Prop :=
  
    (((h.1 0 0) ≤ l3 → vp_in l1 16 ∧ vp_in l1 16 ∧ ∀ h3, h3 = zz_uI h 6 (Int32.toNatClampNeg l1) ((h.1 6 (Int32.toNatClampNeg l1)) + l2) → Q 1 h3) ∧
    (¬ ((h.1 0 0) ≤ l3) → vp_in l3 16 ∧ vp_in l3 16 ∧ vp_in l3 16 ∧ ∀ h4, h4 = zz_uI h 6 (Int32.toNatClampNeg l3) ((h.1 6 (Int32.toNatClampNeg l3)) - (h.1 36 (Int32.toNatClampNeg l3))) → ag13 (l3 + 1, h4)))
def w_X9_isMade (l1 : Int32) (l2 : Int32) (h : zz_Hp) (Q : Int32 → zz_Hp → Prop) : Prop :=
  w_X9_lacks l1 l2 h (fun r2 h1 => 
  ((r2 = 0 → lp (fun s ag => w_X9_isMade_l13 ag Q l1 l2 s.1 s.2) (0, h1)) ∧
  (¬ (r2 = 0) → Q 0 h1)))
def w_X9_make (l1 : Int32) (l2 : Int32) (h : zz_Hp) (Q : Int32 → zz_Hp → Prop) : Prop :=
  w_X9_isYarn l1 h (fun r2 h1 => 
  ((r2 = 0 → Q ((-1)) h1) ∧
  (¬ (r2 = 0) → w_X9_in l2 1 9999 h1 (fun r4 h3 => 
    ((¬ r4 = 0 → vp_in l1 16 ∧ 
      (((h3.1 1 (Int32.toNatClampNeg l1)) = 0 → Q ((-5)) h3) ∧
      (¬ ((h3.1 1 (Int32.toNatClampNeg l1)) = 0) → w_X9_isMade l1 l2 h3 (fun r6 h5 => 
        ((¬ r6 = 0 → ∀ h7, h7 = zz_uI h5 0 16 0 → vp_in l1 16 ∧ Q (h7.1 6 (Int32.toNatClampNeg l1)) h7) ∧
        (r6 = 0 → Q ((-5)) h5)))))) ∧
    (r4 = 0 → Q ((-1)) h3))))))
def w_X9_lay (l1 : Int32) (l2 : Int32) (l3 : Int32) (h : zz_Hp) (Q : Int32 → zz_Hp → Prop) : Prop :=
  
  ((¬ l1 = ((-1)) → w_X9_isYarn l1 h (fun r2 h1 => 
    ((r2 = 0 → Q ((-1)) h1) ∧
    (¬ (r2 = 0) → w_X9_in l2 1 40 h1 (fun r4 h3 => 
      ((r4 = 0 → Q ((-1)) h3) ∧
      (¬ (r4 = 0) → w_X9_in l3 0 1 h3 (fun r6 h5 => 
        ((¬ r6 = 0 → 
          ((¬ (h5.1 0 9) = 8 → vp_in (h5.1 0 9) 8 ∧ ∀ h7, h7 = zz_uI h5 8 (Int32.toNatClampNeg (h5.1 0 9)) l1 → vp_in (h7.1 0 9) 8 ∧ ∀ h8, h8 = zz_uI h7 9 (Int32.toNatClampNeg (h7.1 0 9)) l2 → vp_in (h8.1 0 9) 8 ∧ ∀ h9, h9 = zz_uI h8 10 (Int32.toNatClampNeg (h8.1 0 9)) l3 → ∀ h10, h10 = zz_uI h9 0 9 ((h9.1 0 9) + 1) → Q (h10.1 0 9) h10) ∧
          ((h5.1 0 9) = 8 → Q ((-3)) h5))) ∧
        (r6 = 0 → Q ((-1)) h5)))))))))) ∧
  (l1 = ((-1)) → ∀ h11, h11 = zz_uI h 0 9 0 → Q 0 h11))
def w_X9_skewOf (l1 : Int32) (h : zz_Hp) (Q : Int32 → zz_Hp → Prop) : Prop :=
  vp_in l1 8 ∧ w_X9_torqueOf (h.1 8 (Int32.toNatClampNeg l1)) h (fun r2 h1 => vp_in l1 8 ∧ vp_in l1 8 ∧ 
  ((¬ (h1.1 10 (Int32.toNatClampNeg l1)) = 1 → Q (r2 * (h1.1 9 (Int32.toNatClampNeg l1))) h1) ∧
  ((h1.1 10 (Int32.toNatClampNeg l1)) = 1 → Q (-(r2 * (h1.1 9 (Int32.toNatClampNeg l1)))) h1)))
def w_X9_skew_l19 (ag19 : Int32 × Int32 × zz_Hp → Prop) (Q : Int32 → zz_Hp → Prop) (l1 : Int32) (l2 : Int32) (l3 : Int32) (h : zz_Hp) : Prop :=
  
    ((l1 ≤ l3 → Q l2 h) ∧
    (¬ (l1 ≤ l3) → w_X9_skewOf l3 h (fun r4 h3 => ag19 (l2 + r4, l3 + 1, h3))))
def w_X9_skew (l1 : Int32) (h : zz_Hp) (Q : Int32 → zz_Hp → Prop) : Prop :=
  w_X9_in l1 0 (h.1 0 9) h (fun r2 h1 => 
  ((¬ r2 = 0 → lp (fun s ag => w_X9_skew_l19 ag Q l1 s.1 s.2.1 s.2.2) (0, 0, h1)) ∧
  (r2 = 0 → Q ((-2147483648)) h1)))
def w_X9_worst_l6 (ag6 : Int32 × Int32 × Int32 × zz_Hp → Prop) (Q : Int32 → zz_Hp → Prop)  (l1 : Int32) (l2 : Int32) (l3 : Int32) (h : zz_Hp) : Prop :=
  
    (((h.1 0 9) ≤ l3 → Q l1 h) ∧
    (¬ ((h.1 0 9) ≤ l3) → w_X9_skewOf l3 h (fun r2 h1 => w_X9_sizeOf (l2 + r2) h1 (fun r4 h3 => 
      ((r4 ≤ l1 → ag6 (l1, l2 + r2, l3 + 1, h3)) ∧
      (¬ (r4 ≤ l1) → w_X9_sizeOf (l2 + r2) h3 (fun r6 h5 => ag6 (r6, l2 + r2, l3 + 1, h5))))))))
def w_X9_worst  (h : zz_Hp) (Q : Int32 → zz_Hp → Prop) : Prop :=
  lp (fun s ag => w_X9_worst_l6 ag Q  s.1 s.2.1 s.2.2.1 s.2.2.2) (0, 0, 0, h)
def w_X9_arrange_j129 (rc : Int32 → Int32 → Int32 → Int32 → zz_Hp → (zz_Hp → Prop) → Prop) (ag60 : Int32 × zz_Hp → Prop) (Q : zz_Hp → Prop) (l1 : Int32) (l2 : Int32) (l3 : Int32) (l4 : Int32) (l5 : Int32) (s0 : Int32) (s1 : Int32) (s2 : Int32) (s3 : Int32) (h : zz_Hp) : Prop :=
  rc s3 s2 s1 s0 h (fun h4 => ag60 (l5 + 1, h4))
def w_X9_arrange_l60 (rc : Int32 → Int32 → Int32 → Int32 → zz_Hp → (zz_Hp → Prop) → Prop) (ag60 : Int32 × zz_Hp → Prop) (Q : zz_Hp → Prop) (l1 : Int32) (l2 : Int32) (l3 : Int32) (l4 : Int32) (l5 : Int32) (h : zz_Hp) : Prop :=
  
    (((h.1 0 9) ≤ l5 → Q h) ∧
    (¬ ((h.1 0 9) ≤ l5) → 
      ((¬ ((l2 >>> (l5 &&& 31)) &&& 1) = 0 → ag60 (l5 + 1, h)) ∧
      (((l2 >>> (l5 &&& 31)) &&& 1) = 0 → vp_in l1 8 ∧ ∀ h1, h1 = zz_uI h 38 (Int32.toNatClampNeg l1) l5 → vp_in l5 8 ∧ w_X9_sizeOf (l3 + (h1.1 37 (Int32.toNatClampNeg l5))) h1 (fun r3 h2 => 
        ((r3 ≤ l4 → w_X9_arrange_j129 rc ag60 Q l1 l2 l3 l4 l5 l4 (l3 + (h1.1 37 (Int32.toNatClampNeg l5))) (l2 ||| (1 <<< (l5 &&& 31))) (l1 + 1) h2) ∧
        (¬ (r3 ≤ l4) → w_X9_sizeOf (l3 + (h1.1 37 (Int32.toNatClampNeg l5))) h2 (fun r7 h6 => w_X9_arrange_j129 rc ag60 Q l1 l2 l3 l4 l5 r7 (l3 + (h1.1 37 (Int32.toNatClampNeg l5))) (l2 ||| (1 <<< (l5 &&& 31))) (l1 + 1) h6))))))))
def w_X9_arrange_l27 (rc : Int32 → Int32 → Int32 → Int32 → zz_Hp → (zz_Hp → Prop) → Prop) (ag27 : Int32 × zz_Hp → Prop) (Q : zz_Hp → Prop)  (l5 : Int32) (h : zz_Hp) : Prop :=
  
    (((h.1 0 9) ≤ l5 → Q h) ∧
    (¬ ((h.1 0 9) ≤ l5) → vp_in l5 8 ∧ vp_in l5 8 ∧ ∀ h9, h9 = zz_uI h 39 (Int32.toNatClampNeg l5) (h.1 38 (Int32.toNatClampNeg l5)) → ag27 (l5 + 1, h9)))
def w_X9_arrange_b (rc : Int32 → Int32 → Int32 → Int32 → zz_Hp → (zz_Hp → Prop) → Prop) (l1 : Int32) (l2 : Int32) (l3 : Int32) (l4 : Int32) (h : zz_Hp) (Q : zz_Hp → Prop) : Prop :=
  
  ((l4 < (h.1 0 50) → 
    ((¬ l1 = (h.1 0 9) → lp (fun s ag => w_X9_arrange_l60 rc ag Q l1 l2 l3 l4 s.1 s.2) (0, h)) ∧
    (l1 = (h.1 0 9) → ∀ h8, h8 = zz_uI h 0 50 l4 → lp (fun s ag => w_X9_arrange_l27 rc ag Q  s.1 s.2) (0, h8)))) ∧
  (¬ (l4 < (h.1 0 50)) → Q h))
def w_X9_arrange : Nat → Int32 → Int32 → Int32 → Int32 → zz_Hp → (zz_Hp → Prop) → Prop
  | 0 => fun _ _ _ _ _ _ => False
  | n + 1 => w_X9_arrange_b (w_X9_arrange n)
def w_X9_order_l18 (ag18 : Int32 × zz_Hp → Prop) (Q : Int32 → zz_Hp → Prop) (l1 : Int32) (l2 : Int32) (h : zz_Hp) : Prop :=
  
    (((h.1 0 9) ≤ l2 → ∀ h3, h3 = zz_uI h 0 50 2147483647 → w_X9_arrange 10 0 0 0 0 h3 (fun h4 => 
      ((¬ l1 = ((-1)) → vp_in l1 8 ∧ Q (h4.1 39 (Int32.toNatClampNeg l1)) h4) ∧
      (l1 = ((-1)) → Q (h4.1 0 50) h4)))) ∧
    (¬ ((h.1 0 9) ≤ l2) → w_X9_skewOf l2 h (fun r7 h6 => vp_in l2 8 ∧ ∀ h8, h8 = zz_uI h6 37 (Int32.toNatClampNeg l2) r7 → ag18 (l2 + 1, h8))))
def w_X9_order (l1 : Int32) (h : zz_Hp) (Q : Int32 → zz_Hp → Prop) : Prop :=
  w_X9_in l1 ((-1)) ((h.1 0 9) - 1) h (fun r2 h1 => 
  ((¬ r2 = 0 → lp (fun s ag => w_X9_order_l18 ag Q l1 s.1 s.2) (0, h1)) ∧
  (r2 = 0 → Q ((-1)) h1)))
def w_X9_turned_l10 (ag10 : Int32 × Int32 × Int32 × zz_Hp → Prop) (Q : Int32 → zz_Hp → Prop)  (l1 : Int32) (l2 : Int32) (l3 : Int32) (h : zz_Hp) : Prop :=
  
    (((h.1 0 9) ≤ l3 → Q l1 h) ∧
    (¬ ((h.1 0 9) ≤ l3) → vp_in l3 8 ∧ vp_in l3 8 ∧ ∀ h3, h3 = zz_uI h 10 (Int32.toNatClampNeg l3) (1 - (h.1 10 (Int32.toNatClampNeg l3))) → w_X9_worst  h3 (fun r5 h4 => vp_in l3 8 ∧ vp_in l3 8 ∧ ∀ h6, h6 = zz_uI h4 10 (Int32.toNatClampNeg l3) (1 - (h4.1 10 (Int32.toNatClampNeg l3))) → 
      ((l2 ≤ r5 → ag10 (l1, l2, l3 + 1, h6)) ∧
      (¬ (l2 ≤ r5) → ag10 (l3, r5, l3 + 1, h6))))))
def w_X9_turned  (h : zz_Hp) (Q : Int32 → zz_Hp → Prop) : Prop :=
  w_X9_worst  h (fun r2 h1 => lp (fun s ag => w_X9_turned_l10 ag Q  s.1 s.2.1 s.2.2.1 s.2.2.2) ((-2), r2, 0, h1))
def w_X9_isTold_j68 (Q : Int32 → zz_Hp → Prop) (l4 : Int32) (l5 : Int32) (l6 : Int32)  (h : zz_Hp) : Prop :=
  vp_in l4 16 ∧ ∀ h1, h1 = zz_uI h 5 (Int32.toNatClampNeg l4) l5 → (l6 = 0 ∨ l6 = 1) ∧ Q l6 h1
def w_X9_isTold_l15 (ag15 : Int32 × Int32 × zz_Hp → Prop) (Q : Int32 → zz_Hp → Prop) (l1 : Int32) (l2 : Int32) (l3 : Int32) (l4 : Int32) (l5 : Int32) (l6 : Int32) (l7 : Int32) (h : zz_Hp) : Prop :=
  
    ((l2 ≤ l7 → w_X9_isTold_j68 Q l4 l5 l6  h) ∧
    (¬ (l2 ≤ l7) → 
      ((l6 = 0 → w_X9_isTold_j68 Q l4 l5 l6  h) ∧
      (¬ (l6 = 0) → vp_in l4 16 ∧ ∀ h2, h2 = zz_uI h 5 (Int32.toNatClampNeg l4) l7 → w_X9_torqueOf l3 h2 (fun r4 h3 => vp_in ((40 * l1) + l7) 120 ∧ 
        ((¬ r4 = (h3.1 18 (Int32.toNatClampNeg ((40 * l1) + l7))) → ag15 (0, l7 + 1, h3)) ∧
        (r4 = (h3.1 18 (Int32.toNatClampNeg ((40 * l1) + l7))) → ag15 (1, l7 + 1, h3))))))))
def w_X9_isTold (l1 : Int32) (l2 : Int32) (l3 : Int32) (l4 : Int32) (h : zz_Hp) (Q : Int32 → zz_Hp → Prop) : Prop :=
  vp_in l4 16 ∧ lp (fun s ag => w_X9_isTold_l15 ag Q l1 l2 l3 l4 (h.1 5 (Int32.toNatClampNeg l4)) s.1 s.2.1 s.2.2) (1, 0, h)
def w_X9_fits_l218 (ag218 : Int32 × Int32 × Int32 × zz_Hp → Prop) (Q : Int32 → zz_Hp → Prop) (l1 : Int32) (l2 : Int32) (l3 : Int32) (l5 : Int32) (l6 : Int32) (l7 : Int32) (l8 : Int32) (l9 : Int32) (l10 : Int32) (l11 : Int32) (h : zz_Hp) : Prop :=
  
    ((l11 < 1 → vp_in l6 16 ∧ ∀ h15, h15 = zz_uI h 4 (Int32.toNatClampNeg l6) l8 → 
      ((¬ l5 = 1 → Q l10 h15) ∧
      (l5 = 1 → Q l9 h15))) ∧
    (¬ (l11 < 1) → vp_in l6 16 ∧ ∀ h16, h16 = zz_uI h 4 (Int32.toNatClampNeg l6) l11 → w_X9_isTold l1 l2 l3 l7 h16 (fun r18 h17 => 
      ((r18 = 0 → ag218 (l9, l10, l11 + (-1), h17)) ∧
      (¬ (r18 = 0) → ag218 (l9 + 1, l11, l11 + (-1), h17))))))
def w_X9_fits_l140 (ag140 : Int32 × Int32 × zz_Hp → Prop) (Q : Int32 → zz_Hp → Prop) (l1 : Int32) (l2 : Int32) (l3 : Int32) (l6 : Int32) (l7 : Int32) (l8 : Int32) (l9 : Int32) (l10 : Int32) (h : zz_Hp) : Prop :=
  
    ((4 ≤ l10 → vp_in l6 16 ∧ ∀ h19, h19 = zz_uI h 3 (Int32.toNatClampNeg l6) l8 → Q l9 h19) ∧
    (¬ (4 ≤ l10) → vp_in l6 16 ∧ ∀ h20, h20 = zz_uI h 3 (Int32.toNatClampNeg l6) l10 → w_X9_isTold l1 l2 l3 l7 h20 (fun r22 h21 => 
      ((r22 = 0 → ag140 (l9 ||| 0, l10 + 1, h21)) ∧
      (¬ (r22 = 0) → ag140 (l9 ||| (1 <<< (l10 &&& 31)), l10 + 1, h21))))))
def w_X9_fits (l1 : Int32) (l2 : Int32) (l3 : Int32) (l4 : Int32) (l5 : Int32) (h : zz_Hp) (Q : Int32 → zz_Hp → Prop) : Prop :=
  w_X9_in l1 0 2 h (fun r2 h1 => 
  ((r2 = 0 → Q ((-1)) h1) ∧
  (¬ (r2 = 0) → w_X9_in l2 0 40 h1 (fun r4 h3 => 
    ((r4 = 0 → Q ((-1)) h3) ∧
    (¬ (r4 = 0) → w_X9_isYarn l3 h3 (fun r6 h5 => 
      ((r6 = 0 → Q ((-1)) h5) ∧
      (¬ (r6 = 0) → 
        ((l4 < 0 → Q ((-1)) h5) ∧
        (¬ (l4 < 0) → w_X9_isThread (l4 / 16) h5 (fun r8 h7 => 
          ((r8 = 0 → Q ((-1)) h7) ∧
          (¬ (r8 = 0) → w_X9_isYarn (l4 - l4 / 16 * 16) h7 (fun r10 h9 => 
            ((r10 = 0 → Q ((-1)) h9) ∧
            (¬ (r10 = 0) → w_X9_in l5 0 2 h9 (fun r12 h11 => 
              ((¬ r12 = 0 → w_X9_isIn l3 (l4 - l4 / 16 * 16) h11 (fun r14 h13 => 
                ((¬ r14 = 0 → vp_in l1 3 ∧ 
                  ((0 ≤ (h13.1 17 (Int32.toNatClampNeg l1)) → vp_in l1 3 ∧ 
                    ((l2 ≤ (h13.1 17 (Int32.toNatClampNeg l1)) → 
                      ((¬ l5 = 0 → vp_in (l4 / 16) 16 ∧ lp (fun s ag => w_X9_fits_l218 ag Q l1 l2 l3 l5 (l4 / 16) (l4 - l4 / 16 * 16) (h13.1 4 (Int32.toNatClampNeg (l4 / 16))) s.1 s.2.1 s.2.2.1 s.2.2.2) (0, (-2), 99, h13)) ∧
                      (l5 = 0 → vp_in (l4 / 16) 16 ∧ lp (fun s ag => w_X9_fits_l140 ag Q l1 l2 l3 (l4 / 16) (l4 - l4 / 16 * 16) (h13.1 3 (Int32.toNatClampNeg (l4 / 16))) s.1 s.2.1 s.2.2) (0, 0, h13)))) ∧
                    (¬ (l2 ≤ (h13.1 17 (Int32.toNatClampNeg l1))) → Q ((-13)) h13))) ∧
                  (¬ (0 ≤ (h13.1 17 (Int32.toNatClampNeg l1))) → Q ((-11)) h13))) ∧
                (r14 = 0 → Q ((-5)) h13)))) ∧
              (r12 = 0 → Q ((-1)) h11))))))))))))))))))))
def w_X9_job (l1 : Int32) (l2 : Int32) (h : zz_Hp) (Q : Int32 → zz_Hp → Prop) : Prop :=
  w_X9_isYarn l1 h (fun r2 h1 => 
  ((r2 = 0 → Q ((-1)) h1) ∧
  (¬ (r2 = 0) → w_X9_in l2 1 9999 h1 (fun r4 h3 => 
    ((¬ r4 = 0 → vp_in l1 16 ∧ 
      ((¬ (h3.1 1 (Int32.toNatClampNeg l1)) = 0 → 
        ((¬ (h3.1 0 13) = 8 → vp_in (h3.1 0 13) 8 ∧ ∀ h5, h5 = zz_uI h3 11 (Int32.toNatClampNeg (h3.1 0 13)) l1 → vp_in (h5.1 0 13) 8 ∧ ∀ h6, h6 = zz_uI h5 12 (Int32.toNatClampNeg (h5.1 0 13)) l2 → ∀ h7, h7 = zz_uI h6 0 13 ((h6.1 0 13) + 1) → Q (h7.1 0 13) h7) ∧
        ((h3.1 0 13) = 8 → Q ((-3)) h3))) ∧
      ((h3.1 1 (Int32.toNatClampNeg l1)) = 0 → Q ((-5)) h3))) ∧
    (r4 = 0 → Q ((-1)) h3))))))
def w_X9_do1_l49 (ag49 : Int32 × zz_Hp → Prop) (Q : Int32 → zz_Hp → Prop)  (l1 : Int32) (h : zz_Hp) : Prop :=
  
    (((h.1 0 13) ≤ l1 → Q (h.1 0 13) h) ∧
    (¬ ((h.1 0 13) ≤ l1) → vp_in (l1 + 1) 8 ∧ vp_in l1 8 ∧ ∀ h5, h5 = zz_uI h 11 (Int32.toNatClampNeg l1) (h.1 11 (Int32.toNatClampNeg (l1 + 1))) → vp_in (l1 + 1) 8 ∧ vp_in l1 8 ∧ ∀ h6, h6 = zz_uI h5 12 (Int32.toNatClampNeg l1) (h5.1 12 (Int32.toNatClampNeg (l1 + 1))) → ag49 (l1 + 1, h6)))
def w_X9_do1  (h : zz_Hp) (Q : Int32 → zz_Hp → Prop) : Prop :=
  
  ((¬ (h.1 0 13) = 0 → vp_in 0 8 ∧ vp_in 0 8 ∧ w_X9_isMade (h.1 11 (Int32.toNatClampNeg 0)) (h.1 12 (Int32.toNatClampNeg 0)) h (fun r2 h1 => 
    ((¬ r2 = 0 → ∀ h3, h3 = zz_uI h1 0 16 0 → ∀ h4, h4 = zz_uI h3 0 13 ((h3.1 0 13) - 1) → lp (fun s ag => w_X9_do1_l49 ag Q  s.1 s.2) (0, h4)) ∧
    (r2 = 0 → Q ((-5)) h1)))) ∧
  ((h.1 0 13) = 0 → Q ((-2)) h))
def w_X9_strike_l14 (ag14 : Int32 × Int32 × zz_Hp → Prop) (Q : Int32 → zz_Hp → Prop) (l1 : Int32) (l2 : Int32) (l3 : Int32) (h : zz_Hp) : Prop :=
  
    (((h.1 0 13) ≤ l3 → ∀ h3, h3 = zz_uI h 0 13 l2 → Q ((h.1 0 13) - l2) h3) ∧
    (¬ ((h.1 0 13) ≤ l3) → vp_in l3 8 ∧ 
      (((h.1 11 (Int32.toNatClampNeg l3)) = l1 → ag14 (l2, l3 + 1, h)) ∧
      (¬ ((h.1 11 (Int32.toNatClampNeg l3)) = l1) → vp_in l3 8 ∧ vp_in l2 8 ∧ ∀ h4, h4 = zz_uI h 11 (Int32.toNatClampNeg l2) (h.1 11 (Int32.toNatClampNeg l3)) → vp_in l3 8 ∧ vp_in l2 8 ∧ ∀ h5, h5 = zz_uI h4 12 (Int32.toNatClampNeg l2) (h4.1 12 (Int32.toNatClampNeg l3)) → ag14 (l2 + 1, l3 + 1, h5)))))
def w_X9_strike (l1 : Int32) (h : zz_Hp) (Q : Int32 → zz_Hp → Prop) : Prop :=
  w_X9_isYarn l1 h (fun r2 h1 => 
  ((¬ r2 = 0 → lp (fun s ag => w_X9_strike_l14 ag Q l1 s.1 s.2.1 s.2.2) (0, 0, h1)) ∧
  (r2 = 0 → Q ((-1)) h1)))
def w_X9_about_l2 (ag2 : Int32 × zz_Hp → Prop) (Q : Int32 → zz_Hp → Prop)  (l1 : Int32) (h : zz_Hp) : Prop :=
  
    ((((h.1 0 13) / 2) ≤ l1 → Q (h.1 0 13) h) ∧
    (¬ (((h.1 0 13) / 2) ≤ l1) → vp_in l1 8 ∧ vp_in l1 8 ∧ vp_in (((h.1 0 13) - 1) - l1) 8 ∧ vp_in l1 8 ∧ ∀ h1, h1 = zz_uI h 11 (Int32.toNatClampNeg l1) (h.1 11 (Int32.toNatClampNeg (((h.1 0 13) - 1) - l1))) → vp_in (((h1.1 0 13) - 1) - l1) 8 ∧ vp_in l1 8 ∧ ∀ h2, h2 = zz_uI h1 12 (Int32.toNatClampNeg l1) (h1.1 12 (Int32.toNatClampNeg (((h1.1 0 13) - 1) - l1))) → vp_in (((h2.1 0 13) - 1) - l1) 8 ∧ ∀ h3, h3 = zz_uI h2 11 (Int32.toNatClampNeg (((h2.1 0 13) - 1) - l1)) (h.1 11 (Int32.toNatClampNeg l1)) → vp_in (((h3.1 0 13) - 1) - l1) 8 ∧ ∀ h4, h4 = zz_uI h3 12 (Int32.toNatClampNeg (((h3.1 0 13) - 1) - l1)) (h.1 12 (Int32.toNatClampNeg l1)) → ag2 (l1 + 1, h4)))
def w_X9_about  (h : zz_Hp) (Q : Int32 → zz_Hp → Prop) : Prop :=
  lp (fun s ag => w_X9_about_l2 ag Q  s.1 s.2) (0, h)
def w_X9_jobOf (l1 : Int32) (l2 : Int32) (h : zz_Hp) (Q : Int32 → zz_Hp → Prop) : Prop :=
  w_X9_in l2 0 1 h (fun r2 h1 => 
  ((¬ r2 = 0 → w_X9_in l1 0 ((h1.1 0 13) - 1) h1 (fun r4 h3 => 
    ((¬ r4 = 0 → 
      ((¬ l2 = 0 → vp_in l1 8 ∧ Q (h3.1 12 (Int32.toNatClampNeg l1)) h3) ∧
      (l2 = 0 → vp_in l1 8 ∧ Q (h3.1 11 (Int32.toNatClampNeg l1)) h3))) ∧
    (r4 = 0 → Q ((-2)) h3)))) ∧
  (r2 = 0 → Q ((-1)) h1)))
def w_X9_back  (h : zz_Hp) (Q : Int32 → zz_Hp → Prop) : Prop :=
  
  ((¬ (h.1 0 16) = 0 → ∀ h1, h1 = zz_uI h 0 16 ((h.1 0 16) - 1) → vp_in (h1.1 0 16) 10 ∧ vp_in (h1.1 0 16) 10 ∧ vp_in (h1.1 0 16) 10 ∧ w_X9_become (h1.1 14 (Int32.toNatClampNeg (h1.1 0 16))) (h1.1 13 (Int32.toNatClampNeg (h1.1 0 16))) (h1.1 15 (Int32.toNatClampNeg (h1.1 0 16))) h1 (fun h2 => Q (h2.1 0 16) h2)) ∧
  ((h.1 0 16) = 0 → Q ((-5)) h))
def w_X9_feed (l1 : Int32) (h : zz_Hp) (Q : Int32 → zz_Hp → Prop) : Prop :=
  w_X9_in l1 32 126 h (fun r2 h1 => 
  ((¬ r2 = 0 → 
    ((¬ (h1.1 0 20) = 80 → vp_in (h1.1 0 20) 80 ∧ ∀ h3, h3 = zz_uI h1 16 (Int32.toNatClampNeg (h1.1 0 20)) l1 → ∀ h4, h4 = zz_uI h3 0 20 ((h3.1 0 20) + 1) → Q (h4.1 0 20) h4) ∧
    ((h1.1 0 20) = 80 → Q ((-3)) h1))) ∧
  (r2 = 0 → Q ((-1)) h1)))
def w_X9_wipe  (h : zz_Hp) (Q : Int32 → zz_Hp → Prop) : Prop :=
  ∀ h1, h1 = zz_uI h 0 20 0 → Q (h.1 0 20) h1
def w_X9_isDone_l272 (ag272 : Int32 × zz_Hp → Prop) (Q : Int32 → zz_Hp → Prop) (l1 : Int32) (l2 : Int32) (l5 : Int32) (l6 : Int32) (h : zz_Hp) : Prop :=
  vp_in l1 27 ∧ 
    (((h.1 41 (Int32.toNatClampNeg l1)) ≤ l6 → vp_in l1 27 ∧ vp_in (l2 + 4) 135 ∧ w_X9_plied (h.1 41 (Int32.toNatClampNeg l1)) (h.1 42 (Int32.toNatClampNeg (l2 + 4))) h (fun r4 h3 => (l5 = 0 ∨ l5 = 1) ∧ Q l5 h3)) ∧
    (¬ ((h.1 41 (Int32.toNatClampNeg l1)) ≤ l6) → vp_in (l2 + l6) 135 ∧ vp_in ((4 * (h.1 0 0)) + l6) 64 ∧ ∀ h5, h5 = zz_uI h 2 (Int32.toNatClampNeg ((4 * (h.1 0 0)) + l6)) (h.1 42 (Int32.toNatClampNeg (l2 + l6))) → ag272 (l6 + 1, h5)))
def w_X9_isDone_l202 (ag202 : Int32 × Int32 × zz_Hp → Prop) (Q : Int32 → zz_Hp → Prop) (l1 : Int32) (l2 : Int32) (l5 : Int32) (l6 : Int32) (h : zz_Hp) : Prop :=
  vp_in l1 27 ∧ 
    (((h.1 41 (Int32.toNatClampNeg l1)) ≤ l6 → 
      ((l5 = 0 → (l5 = 0 ∨ l5 = 1) ∧ Q l5 h) ∧
      (¬ (l5 = 0) → lp (fun s ag => w_X9_isDone_l272 ag Q l1 l2 l5 s.1 s.2) (0, h)))) ∧
    (¬ ((h.1 41 (Int32.toNatClampNeg l1)) ≤ l6) → 
      ((l5 = 0 → ag202 (0, l6 + 1, h)) ∧
      (¬ (l5 = 0) → vp_in (l2 + l6) 135 ∧ w_X9_isYarn (h.1 42 (Int32.toNatClampNeg (l2 + l6))) h (fun r7 h6 => 
        ((r7 = 0 → ag202 (0, l6 + 1, h6)) ∧
        (¬ (r7 = 0) → vp_in (l2 + l6) 135 ∧ w_X9_depthOf 5 (h6.1 42 (Int32.toNatClampNeg (l2 + l6))) h6 (fun r9 h8 => 
          ((3 ≤ r9 → ag202 (0, l6 + 1, h8)) ∧
          (¬ (3 ≤ r9) → ag202 (1, l6 + 1, h8)))))))))))
def w_X9_isDone_j91 (Q : Int32 → zz_Hp → Prop) (l3 : Int32) (l4 : Int32) (s0 : Int32) (h : zz_Hp) : Prop :=
  
  ((s0 = 0 → (s0 = 0 ∨ s0 = 1) ∧ Q s0 h) ∧
  (¬ (s0 = 0) → vp_in l3 16 ∧ ∀ h18, h18 = zz_uI h 6 (Int32.toNatClampNeg l3) l4 → (s0 = 0 ∨ s0 = 1) ∧ Q s0 h18))
def w_X9_isDone_j90 (Q : Int32 → zz_Hp → Prop) (l3 : Int32) (l4 : Int32)  (h : zz_Hp) : Prop :=
  w_X9_isDone_j91 Q l3 l4 0 h
def w_X9_isDone (l1 : Int32) (h : zz_Hp) (Q : Int32 → zz_Hp → Prop) : Prop :=
  vp_in (5 * l1) 135 ∧ vp_in ((5 * l1) + 1) 135 ∧ vp_in l1 27 ∧ 
  ((¬ (h.1 40 (Int32.toNatClampNeg l1)) = 116 → vp_in l1 27 ∧ 
    ((¬ (h.1 40 (Int32.toNatClampNeg l1)) = 115 → vp_in l1 27 ∧ 
      ((¬ (h.1 40 (Int32.toNatClampNeg l1)) = 109 → vp_in ((5 * l1) + 4) 135 ∧ w_X9_in (h.1 42 (Int32.toNatClampNeg ((5 * l1) + 4))) ((-99)) 99 h (fun r2 h1 => 
        ((r2 = 0 → lp (fun s ag => w_X9_isDone_l202 ag Q l1 (5 * l1) s.1 s.2.1 s.2.2) (0, 0, h1)) ∧
        (¬ (r2 = 0) → 
          ((16 ≤ (h1.1 0 0) → lp (fun s ag => w_X9_isDone_l202 ag Q l1 (5 * l1) s.1 s.2.1 s.2.2) (0, 0, h1)) ∧
          (¬ (16 ≤ (h1.1 0 0)) → lp (fun s ag => w_X9_isDone_l202 ag Q l1 (5 * l1) s.1 s.2.1 s.2.2) (1, 0, h1))))))) ∧
      ((h.1 40 (Int32.toNatClampNeg l1)) = 109 → w_X9_isYarn (h.1 42 (Int32.toNatClampNeg (5 * l1))) h (fun r11 h10 => 
        ((r11 = 0 → Q 0 h10) ∧
        (¬ (r11 = 0) → w_X9_in (h.1 42 (Int32.toNatClampNeg ((5 * l1) + 1))) 1 9999 h10 (fun r13 h12 => 
          ((r13 = 0 → Q 0 h12) ∧
          (¬ (r13 = 0) → vp_in (h.1 42 (Int32.toNatClampNeg (5 * l1))) 16 ∧ 
            (((h12.1 1 (Int32.toNatClampNeg (h.1 42 (Int32.toNatClampNeg (5 * l1))))) ≤ 0 → Q 0 h12) ∧
            (¬ ((h12.1 1 (Int32.toNatClampNeg (h.1 42 (Int32.toNatClampNeg (5 * l1))))) ≤ 0) → w_X9_isMade (h.1 42 (Int32.toNatClampNeg (5 * l1))) (h.1 42 (Int32.toNatClampNeg ((5 * l1) + 1))) h12 (fun r15 h14 => 
              ((r15 = 0 → Q 0 h14) ∧
              (¬ (r15 = 0) → Q 1 h14)))))))))))))) ∧
    ((h.1 40 (Int32.toNatClampNeg l1)) = 115 → w_X9_isYarn (h.1 42 (Int32.toNatClampNeg (5 * l1))) h (fun r17 h16 => 
      ((r17 = 0 → w_X9_isDone_j90 Q (h.1 42 (Int32.toNatClampNeg (5 * l1))) (h.1 42 (Int32.toNatClampNeg ((5 * l1) + 1)))  h16) ∧
      (¬ (r17 = 0) → w_X9_in (h.1 42 (Int32.toNatClampNeg ((5 * l1) + 1))) 0 99999 h16 (fun r20 h19 => 
        ((r20 = 0 → w_X9_isDone_j90 Q (h.1 42 (Int32.toNatClampNeg (5 * l1))) (h.1 42 (Int32.toNatClampNeg ((5 * l1) + 1)))  h19) ∧
        (¬ (r20 = 0) → w_X9_isDone_j91 Q (h.1 42 (Int32.toNatClampNeg (5 * l1))) (h.1 42 (Int32.toNatClampNeg ((5 * l1) + 1))) 1 h19))))))))) ∧
  ((h.1 40 (Int32.toNatClampNeg l1)) = 116 → vp_in ((5 * l1) + 2) 135 ∧ w_X9_thread (h.1 42 (Int32.toNatClampNeg (5 * l1))) (h.1 42 (Int32.toNatClampNeg ((5 * l1) + 1))) (h.1 42 (Int32.toNatClampNeg ((5 * l1) + 2))) h (fun r22 h21 => 
    ((r22 < 0 → Q 0 h21) ∧
    (¬ (r22 < 0) → Q 1 h21)))))
def w_X9_here  (h : zz_Hp) (Q : Int32 → zz_Hp → Prop) : Prop :=
  
  (((h.1 0 52) ≤ (h.1 0 51) → Q ((-1)) h) ∧
  (¬ ((h.1 0 52) ≤ (h.1 0 51)) → vp_in (h.1 0 51) 80 ∧ Q (h.1 16 (Int32.toNatClampNeg (h.1 0 51))) h))
def w_X9_isFigure  (h : zz_Hp) (Q : Int32 → zz_Hp → Prop) : Prop :=
  w_X9_here  h (fun r2 h1 => 
  ((r2 < 48 → Q 0 h1) ∧
  (¬ (r2 < 48) → w_X9_here  h1 (fun r4 h3 => 
    ((57 < r4 → Q 0 h3) ∧
    (¬ (57 < r4) → Q 1 h3))))))
def w_X9_number_j104 (Q : Int32 → zz_Hp → Prop) (l2 : Int32) (l3 : Int32) (s0 : Int32) (h : zz_Hp) : Prop :=
  (s0 = 0 ∨ s0 = 1) ∧ ∀ h2, h2 = zz_uI h 0 53 s0 → 
  ((l2 = 0 → Q l3 h2) ∧
  (¬ (l2 = 0) → Q (-l3) h2))
def w_X9_number_j93 (Q : Int32 → zz_Hp → Prop) (l2 : Int32) (l3 : Int32) (l4 : Int32)  (h : zz_Hp) : Prop :=
  
  ((¬ l4 = 0 → w_X9_number_j104 Q l2 l3 0 h) ∧
  (l4 = 0 → w_X9_number_j104 Q l2 l3 1 h))
def w_X9_number_l51 (ag51 : Int32 × Int32 × zz_Hp → Prop) (Q : Int32 → zz_Hp → Prop) (l2 : Int32) (l3 : Int32) (l4 : Int32) (h : zz_Hp) : Prop :=
  
    ((5 ≤ l4 → w_X9_number_j93 Q l2 l3 l4  h) ∧
    (¬ (5 ≤ l4) → w_X9_isFigure  h (fun r4 h3 => 
      ((r4 = 0 → w_X9_number_j93 Q l2 l3 l4  h3) ∧
      (¬ (r4 = 0) → w_X9_here  h3 (fun r6 h5 => ∀ h7, h7 = zz_uI h5 0 51 ((h5.1 0 51) + 1) → ag51 (((10 * l3) + r6) - 48, l4 + 1, h7)))))))
def w_X9_number_j42 (Q : Int32 → zz_Hp → Prop) (l2 : Int32) (s0 : Int32) (s1 : Int32) (h : zz_Hp) : Prop :=
  ∀ h1, h1 = zz_uI h 0 51 (s1 + s0) → lp (fun s ag => w_X9_number_l51 ag Q l2 s.1 s.2.1 s.2.2) (0, 0, h1)
def w_X9_number_j27 (Q : Int32 → zz_Hp → Prop)  (s0 : Int32) (h : zz_Hp) : Prop :=
  
  ((s0 = 0 → w_X9_number_j42 Q s0 0 (h.1 0 51) h) ∧
  (¬ (s0 = 0) → w_X9_number_j42 Q s0 1 (h.1 0 51) h))
def w_X9_number_j26 (Q : Int32 → zz_Hp → Prop)   (h : zz_Hp) : Prop :=
  w_X9_number_j27 Q  0 h
def w_X9_number (l1 : Int32) (h : zz_Hp) (Q : Int32 → zz_Hp → Prop) : Prop :=
  
  (((h.1 0 53) = 0 → 
    ((l1 = 0 → w_X9_number_j26 Q   h) ∧
    (¬ (l1 = 0) → w_X9_here  h (fun r9 h8 => 
      ((¬ r9 = 45 → w_X9_number_j26 Q   h8) ∧
      (r9 = 45 → w_X9_number_j27 Q  1 h8)))))) ∧
  (¬ ((h.1 0 53) = 0) → Q 0 h))
def w_X9_want_j21 (Q : zz_Hp → Prop)  (s0 : Int32) (h : zz_Hp) : Prop :=
  (s0 = 0 ∨ s0 = 1) ∧ ∀ h3, h3 = zz_uI h 0 53 s0 → 
  (((h3.1 0 53) = 0 → ∀ h4, h4 = zz_uI h3 0 51 ((h3.1 0 51) + 1) → Q h4) ∧
  (¬ ((h3.1 0 53) = 0) → ∀ h5, h5 = zz_uI h3 0 51 ((h3.1 0 51) + 0) → Q h5))
def w_X9_want (l1 : Int32) (h : zz_Hp) (Q : zz_Hp → Prop) : Prop :=
  
  ((¬ (h.1 0 53) = 0 → Q h) ∧
  ((h.1 0 53) = 0 → w_X9_here  h (fun r2 h1 => 
    ((r2 = l1 → w_X9_want_j21 Q  0 h1) ∧
    (¬ (r2 = l1) → w_X9_want_j21 Q  1 h1)))))
def w_X9_readAct_j221 (Q : zz_Hp → Prop) (l3 : Int32)  (h : zz_Hp) : Prop :=
  vp_in (h.1 0 54) 27 ∧ ∀ h13, h13 = zz_uI h 41 (Int32.toNatClampNeg (h.1 0 54)) l3 → ∀ h14, h14 = zz_uI h13 0 54 ((h13.1 0 54) + 1) → Q h14
def w_X9_readAct_j155 (Q : zz_Hp → Prop) (l2 : Int32) (l3 : Int32)  (h : zz_Hp) : Prop :=
  w_X9_want 58 h (fun h25 => w_X9_number 1 h25 (fun r28 h27 => vp_in (l2 + 4) 135 ∧ ∀ h29, h29 = zz_uI h27 42 (Int32.toNatClampNeg (l2 + 4)) r28 → w_X9_readAct_j221 Q l3  h29))
def w_X9_readAct_l105 (ag105 : Int32 × zz_Hp → Prop) (Q : zz_Hp → Prop) (l2 : Int32) (l3 : Int32) (h : zz_Hp) : Prop :=
  
    ((¬ (h.1 0 53) = 0 → w_X9_readAct_j155 Q l2 l3  h) ∧
    ((h.1 0 53) = 0 → 
      ((4 ≤ l3 → w_X9_readAct_j155 Q l2 l3  h) ∧
      (¬ (4 ≤ l3) → w_X9_here  h (fun r31 h30 => 
        ((¬ r31 = 44 → w_X9_readAct_j155 Q l2 l3  h30) ∧
        (r31 = 44 → ∀ h32, h32 = zz_uI h30 0 51 ((h30.1 0 51) + 1) → w_X9_number 0 h32 (fun r34 h33 => vp_in (l2 + l3) 135 ∧ ∀ h35, h35 = zz_uI h33 42 (Int32.toNatClampNeg (l2 + l3)) r34 → ag105 (l3 + 1, h35)))))))))
def w_X9_readAct_j35 (Q : zz_Hp → Prop) (l1 : Int32)  (h : zz_Hp) : Prop :=
  ∀ h3, h3 = zz_uI h 0 51 ((h.1 0 51) + 1) → vp_in (h3.1 0 54) 27 ∧ ∀ h4, h4 = zz_uI h3 40 (Int32.toNatClampNeg (h3.1 0 54)) l1 → w_X9_number 0 h4 (fun r6 h5 => vp_in (5 * (h3.1 0 54)) 135 ∧ ∀ h7, h7 = zz_uI h5 42 (Int32.toNatClampNeg (5 * (h3.1 0 54))) r6 → 
  ((¬ l1 = 112 → w_X9_want 44 h7 (fun h8 => w_X9_number 0 h8 (fun r11 h10 => vp_in ((5 * (h3.1 0 54)) + 1) 135 ∧ ∀ h12, h12 = zz_uI h10 42 (Int32.toNatClampNeg ((5 * (h3.1 0 54)) + 1)) r11 → 
    ((¬ l1 = 116 → w_X9_readAct_j221 Q (0 + 1)  h12) ∧
    (l1 = 116 → w_X9_want 44 h12 (fun h15 => w_X9_number 1 h15 (fun r18 h17 => vp_in ((5 * (h3.1 0 54)) + 2) 135 ∧ ∀ h19, h19 = zz_uI h17 42 (Int32.toNatClampNeg ((5 * (h3.1 0 54)) + 2)) r18 → w_X9_readAct_j221 Q (0 + 1)  h19))))))) ∧
  (l1 = 112 → w_X9_want 44 h7 (fun h20 => w_X9_number 0 h20 (fun r23 h22 => vp_in ((5 * (h3.1 0 54)) + 1) 135 ∧ ∀ h24, h24 = zz_uI h22 42 (Int32.toNatClampNeg ((5 * (h3.1 0 54)) + 1)) r23 → lp (fun s ag => w_X9_readAct_l105 ag Q (5 * (h3.1 0 54)) s.1 s.2) (2, h24))))))
def w_X9_readAct  (h : zz_Hp) (Q : zz_Hp → Prop) : Prop :=
  w_X9_here  h (fun r2 h1 => 
  ((r2 = 116 → w_X9_readAct_j35 Q r2  h1) ∧
  (¬ (r2 = 116) → 
    ((r2 = 112 → w_X9_readAct_j35 Q r2  h1) ∧
    (¬ (r2 = 112) → 
      ((r2 = 115 → w_X9_readAct_j35 Q r2  h1) ∧
      (¬ (r2 = 115) → 
        ((r2 = 109 → w_X9_readAct_j35 Q r2  h1) ∧
        (¬ (r2 = 109) → ∀ h36, h36 = zz_uI h1 0 53 1 → Q h36)))))))))
def w_X9_read_l87 (ag87 : Int32 × zz_Hp → Prop) (Q : Int32 → zz_Hp → Prop)  (l1 : Int32) (h : zz_Hp) : Prop :=
  
    (((h.1 0 54) ≤ l1 → Q (h.1 0 54) h) ∧
    (¬ ((h.1 0 54) ≤ l1) → w_X9_isDone l1 h (fun r9 h8 => 
      ((¬ r9 = 0 → ∀ h10, h10 = zz_uI h8 0 16 0 → ag87 (l1 + 1, h10)) ∧
      (r9 = 0 → Q (((-200)) - l1) h8)))))
def w_X9_read_j70 (Q : Int32 → zz_Hp → Prop)   (h : zz_Hp) : Prop :=
  
  (((h.1 0 53) = 0 → lp (fun s ag => w_X9_read_l87 ag Q  s.1 s.2) (0, h)) ∧
  (¬ ((h.1 0 53) = 0) → Q (((-100)) - (h.1 0 51)) h))
def w_X9_read_l32 (ag32 : zz_Hp → Prop) (Q : Int32 → zz_Hp → Prop)   (h : zz_Hp) : Prop :=
  
    ((¬ (h.1 0 53) = 0 → w_X9_read_j70 Q   h) ∧
    ((h.1 0 53) = 0 → 
      (((h.1 0 52) ≤ (h.1 0 51) → w_X9_read_j70 Q   h) ∧
      (¬ ((h.1 0 52) ≤ (h.1 0 51)) → w_X9_want 59 h (fun h11 => 
        ((¬ (h11.1 0 53) = 0 → ag32 (h11)) ∧
        ((h11.1 0 53) = 0 → w_X9_readAct  h11 (fun h13 => ag32 (h13)))))))))
def w_X9_read  (h : zz_Hp) (Q : Int32 → zz_Hp → Prop) : Prop :=
  ∀ h1, h1 = zz_uI h 0 51 0 → ∀ h2, h2 = zz_uI h1 0 52 (h1.1 0 20) → ∀ h3, h3 = zz_uI h2 0 20 0 → ∀ h4, h4 = zz_uI h3 0 53 0 → ∀ h5, h5 = zz_uI h4 0 54 0 → w_X9_readAct  h5 (fun h6 => lp (fun s ag => w_X9_read_l32 ag Q  s) (h6))
def w_X9_row_l34 (ag34 : Int32 × zz_Hp → Prop) (Q : Int32 → zz_Hp → Prop) (l1 : Int32) (l2 : Int32) (l3 : Int32) (h : zz_Hp) : Prop :=
  
    ((l2 ≤ l3 → Q 1 h) ∧
    (¬ (l2 ≤ l3) → vp_in ((40 * l1) + l3) 120 ∧ ∀ h4, h4 = zz_uI h 18 (Int32.toNatClampNeg ((40 * l1) + l3)) 0 → ag34 (l3 + 1, h4)))
def w_X9_row (l1 : Int32) (l2 : Int32) (h : zz_Hp) (Q : Int32 → zz_Hp → Prop) : Prop :=
  w_X9_in l1 0 2 h (fun r2 h1 => 
  ((r2 = 0 → Q ((-1)) h1) ∧
  (¬ (r2 = 0) → 
    ((l2 ≤ 40 → 
      ((((-1)) ≤ l2 → vp_in l1 3 ∧ ∀ h3, h3 = zz_uI h1 17 (Int32.toNatClampNeg l1) l2 → lp (fun s ag => w_X9_row_l34 ag Q l1 l2 s.1 s.2) (0, h3)) ∧
      (¬ (((-1)) ≤ l2) → Q ((-14)) h1))) ∧
    (¬ (l2 ≤ 40) → Q ((-1)) h1)))))
def w_X9_put (l1 : Int32) (l2 : Int32) (l3 : Int32) (h : zz_Hp) (Q : Int32 → zz_Hp → Prop) : Prop :=
  w_X9_in l1 0 2 h (fun r2 h1 => 
  ((¬ r2 = 0 → vp_in l1 3 ∧ 
    ((0 ≤ (h1.1 17 (Int32.toNatClampNeg l1)) → vp_in l1 3 ∧ w_X9_in l2 0 ((h1.1 17 (Int32.toNatClampNeg l1)) - 1) h1 (fun r4 h3 => 
      ((¬ r4 = 0 → vp_in ((40 * l1) + l2) 120 ∧ ∀ h5, h5 = zz_uI h3 18 (Int32.toNatClampNeg ((40 * l1) + l2)) l3 → Q 1 h5) ∧
      (r4 = 0 → Q ((-13)) h3)))) ∧
    (¬ (0 ≤ (h1.1 17 (Int32.toNatClampNeg l1))) → Q ((-11)) h1))) ∧
  (r2 = 0 → Q ((-1)) h1)))
def w_X9_get (l1 : Int32) (l2 : Int32) (h : zz_Hp) (Q : Int32 → zz_Hp → Prop) : Prop :=
  w_X9_in l1 0 2 h (fun r2 h1 => 
  ((r2 = 0 → Q ((-2147483648)) h1) ∧
  (¬ (r2 = 0) → vp_in l1 3 ∧ w_X9_in l2 0 ((h1.1 17 (Int32.toNatClampNeg l1)) - 1) h1 (fun r4 h3 => 
    ((r4 = 0 → Q ((-2147483648)) h3) ∧
    (¬ (r4 = 0) → vp_in ((40 * l1) + l2) 120 ∧ Q (h3.1 18 (Int32.toNatClampNeg ((40 * l1) + l2))) h3))))))
def w_X9_film_l70 (ag70 : Int32 × zz_Hp → Prop) (Q : Int32 → zz_Hp → Prop) (l1 : Int32) (l2 : Int32) (l3 : Int32) (l4 : Int32) (l5 : Int32) (l6 : Int32) (h : zz_Hp) : Prop :=
  
    ((l2 ≤ l6 → vp_in l4 16 ∧ ∀ h12, h12 = zz_uI h 5 (Int32.toNatClampNeg l4) l5 → Q l2 h12) ∧
    (¬ (l2 ≤ l6) → vp_in l4 16 ∧ ∀ h13, h13 = zz_uI h 5 (Int32.toNatClampNeg l4) l6 → w_X9_torqueOf l3 h13 (fun r15 h14 => vp_in ((40 * l1) + l6) 120 ∧ ∀ h16, h16 = zz_uI h14 18 (Int32.toNatClampNeg ((40 * l1) + l6)) r15 → ag70 (l6 + 1, h16))))
def w_X9_film (l1 : Int32) (l2 : Int32) (l3 : Int32) (l4 : Int32) (h : zz_Hp) (Q : Int32 → zz_Hp → Prop) : Prop :=
  w_X9_in l1 0 2 h (fun r2 h1 => 
  ((r2 = 0 → Q ((-1)) h1) ∧
  (¬ (r2 = 0) → w_X9_in l2 0 40 h1 (fun r4 h3 => 
    ((r4 = 0 → Q ((-1)) h3) ∧
    (¬ (r4 = 0) → w_X9_isYarn l3 h3 (fun r6 h5 => 
      ((r6 = 0 → Q ((-1)) h5) ∧
      (¬ (r6 = 0) → w_X9_isYarn l4 h5 (fun r8 h7 => 
        ((¬ r8 = 0 → w_X9_isIn l3 l4 h7 (fun r10 h9 => 
          ((¬ r10 = 0 → vp_in l1 3 ∧ ∀ h11, h11 = zz_uI h9 17 (Int32.toNatClampNeg l1) l2 → vp_in l4 16 ∧ lp (fun s ag => w_X9_film_l70 ag Q l1 l2 l3 l4 (h11.1 5 (Int32.toNatClampNeg l4)) s.1 s.2) (0, h11)) ∧
          (r10 = 0 → Q ((-5)) h9)))) ∧
        (r8 = 0 → Q ((-1)) h7))))))))))))
def w_X9_image_l140 (ag140 : Int32 × zz_Hp → Prop) (Q : Int32 → zz_Hp → Prop)  (l1 : Int32) (h : zz_Hp) : Prop :=
  
    ((8 ≤ l1 → Q (h.1 0 0) h) ∧
    (¬ (8 ≤ l1) → vp_in l1 8 ∧ vp_in l1 8 ∧ ∀ h5, h5 = zz_uI h 26 (Int32.toNatClampNeg l1) (h.1 8 (Int32.toNatClampNeg l1)) → vp_in l1 8 ∧ vp_in l1 8 ∧ ∀ h6, h6 = zz_uI h5 27 (Int32.toNatClampNeg l1) (h5.1 9 (Int32.toNatClampNeg l1)) → vp_in l1 8 ∧ vp_in l1 8 ∧ ∀ h7, h7 = zz_uI h6 28 (Int32.toNatClampNeg l1) (h6.1 10 (Int32.toNatClampNeg l1)) → vp_in l1 8 ∧ vp_in l1 8 ∧ ∀ h8, h8 = zz_uI h7 29 (Int32.toNatClampNeg l1) (h7.1 11 (Int32.toNatClampNeg l1)) → vp_in l1 8 ∧ vp_in l1 8 ∧ ∀ h9, h9 = zz_uI h8 30 (Int32.toNatClampNeg l1) (h8.1 12 (Int32.toNatClampNeg l1)) → ag140 (l1 + 1, h9)))
def w_X9_image_l85 (ag15 : Int32 × zz_Hp → Prop) (ag85 : Int32 × Int32 × zz_Hp → Prop) (Q : Int32 → zz_Hp → Prop)  (l1 : Int32) (l2 : Int32) (h : zz_Hp) : Prop :=
  
    ((4 ≤ l2 → ag15 (l1 + 1, h)) ∧
    (¬ (4 ≤ l2) → vp_in ((4 * l1) + l2) 64 ∧ vp_in ((4 * l1) + l2) 64 ∧ ∀ h15, h15 = zz_uI h 21 (Int32.toNatClampNeg ((4 * l1) + l2)) (h.1 2 (Int32.toNatClampNeg ((4 * l1) + l2))) → ag85 (l1, l2 + 1, h15)))
def w_X9_image_l15 (ag15 : Int32 × zz_Hp → Prop) (Q : Int32 → zz_Hp → Prop)  (l1 : Int32) (h : zz_Hp) : Prop :=
  
    (((h.1 0 0) ≤ l1 → ∀ h3, h3 = zz_uI h 0 33 (h.1 0 9) → ∀ h4, h4 = zz_uI h3 0 37 (h3.1 0 13) → lp (fun s ag => w_X9_image_l140 ag Q  s.1 s.2) (0, h4)) ∧
    (¬ ((h.1 0 0) ≤ l1) → vp_in l1 16 ∧ vp_in l1 16 ∧ ∀ h10, h10 = zz_uI h 20 (Int32.toNatClampNeg l1) (h.1 1 (Int32.toNatClampNeg l1)) → vp_in l1 16 ∧ vp_in l1 16 ∧ ∀ h11, h11 = zz_uI h10 22 (Int32.toNatClampNeg l1) (h10.1 3 (Int32.toNatClampNeg l1)) → vp_in l1 16 ∧ vp_in l1 16 ∧ ∀ h12, h12 = zz_uI h11 23 (Int32.toNatClampNeg l1) (h11.1 4 (Int32.toNatClampNeg l1)) → vp_in l1 16 ∧ vp_in l1 16 ∧ ∀ h13, h13 = zz_uI h12 24 (Int32.toNatClampNeg l1) (h12.1 5 (Int32.toNatClampNeg l1)) → vp_in l1 16 ∧ vp_in l1 16 ∧ ∀ h14, h14 = zz_uI h13 25 (Int32.toNatClampNeg l1) (h13.1 6 (Int32.toNatClampNeg l1)) → lp (fun s ag => w_X9_image_l85 ag15 ag Q  s.1 s.2.1 s.2.2) (l1, 0, h14)))
def w_X9_image  (h : zz_Hp) (Q : Int32 → zz_Hp → Prop) : Prop :=
  ∀ h1, h1 = zz_uI h 0 25 1 → ∀ h2, h2 = zz_uI h1 0 26 (h1.1 0 0) → lp (fun s ag => w_X9_image_l15 ag Q  s.1 s.2) (0, h2)
def w_X9_undo_l145 (ag145 : Int32 × zz_Hp → Prop) (Q : Int32 → zz_Hp → Prop)  (l1 : Int32) (h : zz_Hp) : Prop :=
  
    ((8 ≤ l1 → ∀ h4, h4 = zz_uI h 0 7 0 → ∀ h5, h5 = zz_uI h4 0 16 0 → Q (h5.1 0 0) h5) ∧
    (¬ (8 ≤ l1) → vp_in l1 8 ∧ vp_in l1 8 ∧ ∀ h6, h6 = zz_uI h 8 (Int32.toNatClampNeg l1) (h.1 26 (Int32.toNatClampNeg l1)) → vp_in l1 8 ∧ vp_in l1 8 ∧ ∀ h7, h7 = zz_uI h6 9 (Int32.toNatClampNeg l1) (h6.1 27 (Int32.toNatClampNeg l1)) → vp_in l1 8 ∧ vp_in l1 8 ∧ ∀ h8, h8 = zz_uI h7 10 (Int32.toNatClampNeg l1) (h7.1 28 (Int32.toNatClampNeg l1)) → vp_in l1 8 ∧ vp_in l1 8 ∧ ∀ h9, h9 = zz_uI h8 11 (Int32.toNatClampNeg l1) (h8.1 29 (Int32.toNatClampNeg l1)) → vp_in l1 8 ∧ vp_in l1 8 ∧ ∀ h10, h10 = zz_uI h9 12 (Int32.toNatClampNeg l1) (h9.1 30 (Int32.toNatClampNeg l1)) → ag145 (l1 + 1, h10)))
def w_X9_undo_l90 (ag20 : Int32 × zz_Hp → Prop) (ag90 : Int32 × Int32 × zz_Hp → Prop) (Q : Int32 → zz_Hp → Prop)  (l1 : Int32) (l2 : Int32) (h : zz_Hp) : Prop :=
  
    ((4 ≤ l2 → ag20 (l1 + 1, h)) ∧
    (¬ (4 ≤ l2) → vp_in ((4 * l1) + l2) 64 ∧ vp_in ((4 * l1) + l2) 64 ∧ ∀ h16, h16 = zz_uI h 2 (Int32.toNatClampNeg ((4 * l1) + l2)) (h.1 21 (Int32.toNatClampNeg ((4 * l1) + l2))) → ag90 (l1, l2 + 1, h16)))
def w_X9_undo_l20 (ag20 : Int32 × zz_Hp → Prop) (Q : Int32 → zz_Hp → Prop)  (l1 : Int32) (h : zz_Hp) : Prop :=
  
    (((h.1 0 0) ≤ l1 → ∀ h2, h2 = zz_uI h 0 9 (h.1 0 33) → ∀ h3, h3 = zz_uI h2 0 13 (h2.1 0 37) → lp (fun s ag => w_X9_undo_l145 ag Q  s.1 s.2) (0, h3)) ∧
    (¬ ((h.1 0 0) ≤ l1) → vp_in l1 16 ∧ vp_in l1 16 ∧ ∀ h11, h11 = zz_uI h 1 (Int32.toNatClampNeg l1) (h.1 20 (Int32.toNatClampNeg l1)) → vp_in l1 16 ∧ vp_in l1 16 ∧ ∀ h12, h12 = zz_uI h11 3 (Int32.toNatClampNeg l1) (h11.1 22 (Int32.toNatClampNeg l1)) → vp_in l1 16 ∧ vp_in l1 16 ∧ ∀ h13, h13 = zz_uI h12 4 (Int32.toNatClampNeg l1) (h12.1 23 (Int32.toNatClampNeg l1)) → vp_in l1 16 ∧ vp_in l1 16 ∧ ∀ h14, h14 = zz_uI h13 5 (Int32.toNatClampNeg l1) (h13.1 24 (Int32.toNatClampNeg l1)) → vp_in l1 16 ∧ vp_in l1 16 ∧ ∀ h15, h15 = zz_uI h14 6 (Int32.toNatClampNeg l1) (h14.1 25 (Int32.toNatClampNeg l1)) → lp (fun s ag => w_X9_undo_l90 ag20 ag Q  s.1 s.2.1 s.2.2) (l1, 0, h15)))
def w_X9_undo  (h : zz_Hp) (Q : Int32 → zz_Hp → Prop) : Prop :=
  
  ((¬ (h.1 0 25) = 0 → ∀ h1, h1 = zz_uI h 0 0 (h.1 0 26) → lp (fun s ag => w_X9_undo_l20 ag Q  s.1 s.2) (0, h1)) ∧
  ((h.1 0 25) = 0 → Q ((-5)) h))
def w_X9_count_l78 (ag78 : Int32 × Int32 × zz_Hp → Prop) (Q : Int32 → zz_Hp → Prop)  (l2 : Int32) (l3 : Int32) (h : zz_Hp) : Prop :=
  
    (((h.1 0 0) ≤ l3 → Q l2 h) ∧
    (¬ ((h.1 0 0) ≤ l3) → w_X9_torqueOf l3 h (fun r2 h1 => 
      ((¬ r2 = 0 → ag78 (l2 + 0, l3 + 1, h1)) ∧
      (r2 = 0 → ag78 (l2 + 1, l3 + 1, h1))))))
def w_X9_count (l1 : Int32) (h : zz_Hp) (Q : Int32 → zz_Hp → Prop) : Prop :=
  
  (((Int32.toInt l1) = 0 → Q (h.1 0 0) h) ∧
  ((Int32.toInt l1) = 1 → Q (h.1 0 7) h) ∧
  ((Int32.toInt l1) = 2 → Q (h.1 0 9) h) ∧
  ((Int32.toInt l1) = 3 → Q (h.1 0 13) h) ∧
  ((Int32.toInt l1) = 4 → Q (h.1 0 16) h) ∧
  ((Int32.toInt l1) = 5 → Q (h.1 0 20) h) ∧
  ((Int32.toInt l1) = 6 → lp (fun s ag => w_X9_count_l78 ag Q  s.1 s.2.1 s.2.2) (0, 0, h)) ∧
  (((Int32.toInt l1) < 0 ∨ 6 < (Int32.toInt l1)) → Q ((-1)) h))
end
