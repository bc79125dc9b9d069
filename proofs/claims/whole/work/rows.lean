section
-- ===== PART A: goes FIRST, ahead of the names: the tables' words, and 'selects' of the private methods out of them =====
/-- a private method of a class that the tables say can be made, by its rows of tables_1 -/
def lw_okq (q : MethodName × Nat) : Prop := (q.1.cls ≠ "java/lang/invoke/MethodHandle" ∧ q.1.cls ≠ "java/lang/invoke/VarHandle") ∧ Cond.instantiable q.1.cls q.2 ∈ tables_1 ∧ Cond.privateMethod q.1 ∈ tables_1 ∧ Cond.instanceMethod q.1 ∈ tables_1
theorem lw_p0 : lw_okq (⟨"YarnPlier$Yarns", "join", "(I[II)V"⟩, 3) := ⟨⟨by decide +kernel, by decide +kernel⟩, List.mem_of_getElem? (i := 29) (by decide +kernel), List.mem_of_getElem? (i := 277) (by decide +kernel), List.mem_of_getElem? (i := 278) (by decide +kernel)⟩
theorem lw_p1 : lw_okq (⟨"YarnPlier", "torqueOf", "(I)I"⟩, 13) := ⟨⟨by decide +kernel, by decide +kernel⟩, List.mem_of_getElem? (i := 15) (by decide +kernel), List.mem_of_getElem? (i := 370) (by decide +kernel), List.mem_of_getElem? (i := 371) (by decide +kernel)⟩
theorem lw_p2 : lw_okq (⟨"YarnPlier$Within", "addPlace", "(LYarnPlier$Yarns;III)V"⟩, 8) := ⟨⟨by decide +kernel, by decide +kernel⟩, List.mem_of_getElem? (i := 121) (by decide +kernel), List.mem_of_getElem? (i := 378) (by decide +kernel), List.mem_of_getElem? (i := 379) (by decide +kernel)⟩
theorem lw_p3 : lw_okq (⟨"YarnPlier$Within", "addParts", "(LYarnPlier$Yarns;II)V"⟩, 8) := ⟨⟨by decide +kernel, by decide +kernel⟩, List.mem_of_getElem? (i := 121) (by decide +kernel), List.mem_of_getElem? (i := 383) (by decide +kernel), List.mem_of_getElem? (i := 384) (by decide +kernel)⟩
theorem lw_p4 : lw_okq (⟨"YarnPlier$Within", "turnBy", "(II)I"⟩, 8) := ⟨⟨by decide +kernel, by decide +kernel⟩, List.mem_of_getElem? (i := 121) (by decide +kernel), List.mem_of_getElem? (i := 396) (by decide +kernel), List.mem_of_getElem? (i := 397) (by decide +kernel)⟩
theorem lw_p5 : lw_okq (⟨"YarnPlier", "makeYards", "(II)I"⟩, 13) := ⟨⟨by decide +kernel, by decide +kernel⟩, List.mem_of_getElem? (i := 15) (by decide +kernel), List.mem_of_getElem? (i := 509) (by decide +kernel), List.mem_of_getElem? (i := 510) (by decide +kernel)⟩
theorem lw_p6 : lw_okq (⟨"YarnPlier", "weighLayers", "()V"⟩, 13) := ⟨⟨by decide +kernel, by decide +kernel⟩, List.mem_of_getElem? (i := 15) (by decide +kernel), List.mem_of_getElem? (i := 527) (by decide +kernel), List.mem_of_getElem? (i := 528) (by decide +kernel)⟩
theorem lw_p7 : lw_okq (⟨"YarnPlier$Skews", "isBest", "(II)Z"⟩, 3) := ⟨⟨by decide +kernel, by decide +kernel⟩, List.mem_of_getElem? (i := 170) (by decide +kernel), List.mem_of_getElem? (i := 567) (by decide +kernel), List.mem_of_getElem? (i := 568) (by decide +kernel)⟩
theorem lw_p8 : lw_okq (⟨"YarnPlier", "fittingFibres", "(II)I"⟩, 13) := ⟨⟨by decide +kernel, by decide +kernel⟩, List.mem_of_getElem? (i := 15) (by decide +kernel), List.mem_of_getElem? (i := 601) (by decide +kernel), List.mem_of_getElem? (i := 602) (by decide +kernel)⟩
theorem lw_p9 : lw_okq (⟨"YarnPlier", "isFitting", "(IIII)Z"⟩, 13) := ⟨⟨by decide +kernel, by decide +kernel⟩, List.mem_of_getElem? (i := 15) (by decide +kernel), List.mem_of_getElem? (i := 605) (by decide +kernel), List.mem_of_getElem? (i := 606) (by decide +kernel)⟩
theorem lw_p10 : lw_okq (⟨"YarnPlier", "fittingWeights", "(III)I"⟩, 13) := ⟨⟨by decide +kernel, by decide +kernel⟩, List.mem_of_getElem? (i := 15) (by decide +kernel), List.mem_of_getElem? (i := 613) (by decide +kernel), List.mem_of_getElem? (i := 614) (by decide +kernel)⟩
theorem lw_p11 : lw_okq (⟨"YarnPlier$Tape", "takeNumber", "()Z"⟩, 6) := ⟨⟨by decide +kernel, by decide +kernel⟩, List.mem_of_getElem? (i := 91) (by decide +kernel), List.mem_of_getElem? (i := 673) (by decide +kernel), List.mem_of_getElem? (i := 674) (by decide +kernel)⟩
theorem lw_p12 : lw_okq (⟨"YarnPlier$Tape", "takeTwist", "()Z"⟩, 6) := ⟨⟨by decide +kernel, by decide +kernel⟩, List.mem_of_getElem? (i := 91) (by decide +kernel), List.mem_of_getElem? (i := 681) (by decide +kernel), List.mem_of_getElem? (i := 682) (by decide +kernel)⟩
theorem lw_p13 : lw_okq (⟨"YarnPlier$Tape", "takeParts", "()Z"⟩, 6) := ⟨⟨by decide +kernel, by decide +kernel⟩, List.mem_of_getElem? (i := 91) (by decide +kernel), List.mem_of_getElem? (i := 685) (by decide +kernel), List.mem_of_getElem? (i := 686) (by decide +kernel)⟩
theorem lw_p14 : lw_okq (⟨"YarnPlier", "doActs", "()I"⟩, 13) := ⟨⟨by decide +kernel, by decide +kernel⟩, List.mem_of_getElem? (i := 15) (by decide +kernel), List.mem_of_getElem? (i := 689) (by decide +kernel), List.mem_of_getElem? (i := 690) (by decide +kernel)⟩
theorem lw_p15 : lw_okq (⟨"YarnPlier", "doAct", "()Z"⟩, 13) := ⟨⟨by decide +kernel, by decide +kernel⟩, List.mem_of_getElem? (i := 15) (by decide +kernel), List.mem_of_getElem? (i := 695) (by decide +kernel), List.mem_of_getElem? (i := 696) (by decide +kernel)⟩
def lw_privs_1 : List (MethodName × Nat) := [(⟨"YarnPlier$Yarns", "join", "(I[II)V"⟩, 3), (⟨"YarnPlier", "torqueOf", "(I)I"⟩, 13), (⟨"YarnPlier$Within", "addPlace", "(LYarnPlier$Yarns;III)V"⟩, 8), (⟨"YarnPlier$Within", "addParts", "(LYarnPlier$Yarns;II)V"⟩, 8), (⟨"YarnPlier$Within", "turnBy", "(II)I"⟩, 8), (⟨"YarnPlier", "makeYards", "(II)I"⟩, 13), (⟨"YarnPlier", "weighLayers", "()V"⟩, 13), (⟨"YarnPlier$Skews", "isBest", "(II)Z"⟩, 3), (⟨"YarnPlier", "fittingFibres", "(II)I"⟩, 13), (⟨"YarnPlier", "isFitting", "(IIII)Z"⟩, 13), (⟨"YarnPlier", "fittingWeights", "(III)I"⟩, 13), (⟨"YarnPlier$Tape", "takeNumber", "()Z"⟩, 6), (⟨"YarnPlier$Tape", "takeTwist", "()Z"⟩, 6), (⟨"YarnPlier$Tape", "takeParts", "()Z"⟩, 6), (⟨"YarnPlier", "doActs", "()I"⟩, 13), (⟨"YarnPlier", "doAct", "()Z"⟩, 13)]
theorem lw_r1 : ∀ q ∈ lw_privs_1, lw_okq q := List.forall_mem_cons.mpr ⟨lw_p0, List.forall_mem_cons.mpr ⟨lw_p1, List.forall_mem_cons.mpr ⟨lw_p2, List.forall_mem_cons.mpr ⟨lw_p3, List.forall_mem_cons.mpr ⟨lw_p4, List.forall_mem_cons.mpr ⟨lw_p5, List.forall_mem_cons.mpr ⟨lw_p6, List.forall_mem_cons.mpr ⟨lw_p7, List.forall_mem_cons.mpr ⟨lw_p8, List.forall_mem_cons.mpr ⟨lw_p9, List.forall_mem_cons.mpr ⟨lw_p10, List.forall_mem_cons.mpr ⟨lw_p11, List.forall_mem_cons.mpr ⟨lw_p12, List.forall_mem_cons.mpr ⟨lw_p13, List.forall_mem_cons.mpr ⟨lw_p14, List.forall_mem_cons.mpr ⟨lw_p15, fun _ h => absurd h List.not_mem_nil⟩⟩⟩⟩⟩⟩⟩⟩⟩⟩⟩⟩⟩⟩⟩⟩
theorem lw_p16 : lw_okq (⟨"YarnPlier", "countBalanced", "()I"⟩, 13) := ⟨⟨by decide +kernel, by decide +kernel⟩, List.mem_of_getElem? (i := 15) (by decide +kernel), List.mem_of_getElem? (i := 759) (by decide +kernel), List.mem_of_getElem? (i := 760) (by decide +kernel)⟩
theorem lw_p17 : lw_okq (⟨"YarnPlierModel", "isYarn", "(I)Z"⟩, 58) := ⟨⟨by decide +kernel, by decide +kernel⟩, List.mem_of_getElem? (i := 763) (by decide +kernel), List.mem_of_getElem? (i := 956) (by decide +kernel), List.mem_of_getElem? (i := 957) (by decide +kernel)⟩
theorem lw_p18 : lw_okq (⟨"YarnPlierModel", "depthOf", "(I)I"⟩, 58) := ⟨⟨by decide +kernel, by decide +kernel⟩, List.mem_of_getElem? (i := 763) (by decide +kernel), List.mem_of_getElem? (i := 960) (by decide +kernel), List.mem_of_getElem? (i := 961) (by decide +kernel)⟩
theorem lw_p19 : lw_okq (⟨"YarnPlierModel", "plied", "(II)I"⟩, 58) := ⟨⟨by decide +kernel, by decide +kernel⟩, List.mem_of_getElem? (i := 763) (by decide +kernel), List.mem_of_getElem? (i := 968) (by decide +kernel), List.mem_of_getElem? (i := 969) (by decide +kernel)⟩
theorem lw_p20 : lw_okq (⟨"YarnPlierModel", "toldOf", "(II)I"⟩, 58) := ⟨⟨by decide +kernel, by decide +kernel⟩, List.mem_of_getElem? (i := 763) (by decide +kernel), List.mem_of_getElem? (i := 982) (by decide +kernel), List.mem_of_getElem? (i := 983) (by decide +kernel)⟩
theorem lw_p21 : lw_okq (⟨"YarnPlierModel", "become", "(III)V"⟩, 58) := ⟨⟨by decide +kernel, by decide +kernel⟩, List.mem_of_getElem? (i := 763) (by decide +kernel), List.mem_of_getElem? (i := 986) (by decide +kernel), List.mem_of_getElem? (i := 987) (by decide +kernel)⟩
theorem lw_p22 : lw_okq (⟨"YarnPlierModel", "walkOver", "(II)V"⟩, 58) := ⟨⟨by decide +kernel, by decide +kernel⟩, List.mem_of_getElem? (i := 763) (by decide +kernel), List.mem_of_getElem? (i := 994) (by decide +kernel), List.mem_of_getElem? (i := 995) (by decide +kernel)⟩
theorem lw_p23 : lw_okq (⟨"YarnPlierModel", "walk", "(IIIJJ)V"⟩, 58) := ⟨⟨by decide +kernel, by decide +kernel⟩, List.mem_of_getElem? (i := 763) (by decide +kernel), List.mem_of_getElem? (i := 998) (by decide +kernel), List.mem_of_getElem? (i := 999) (by decide +kernel)⟩
theorem lw_p24 : lw_okq (⟨"YarnPlierModel", "byOf", "(I)I"⟩, 58) := ⟨⟨by decide +kernel, by decide +kernel⟩, List.mem_of_getElem? (i := 763) (by decide +kernel), List.mem_of_getElem? (i := 1002) (by decide +kernel), List.mem_of_getElem? (i := 1003) (by decide +kernel)⟩
theorem lw_p25 : lw_okq (⟨"YarnPlierModel", "tallyIn", "(I)V"⟩, 58) := ⟨⟨by decide +kernel, by decide +kernel⟩, List.mem_of_getElem? (i := 763) (by decide +kernel), List.mem_of_getElem? (i := 1022) (by decide +kernel), List.mem_of_getElem? (i := 1023) (by decide +kernel)⟩
theorem lw_p26 : lw_okq (⟨"YarnPlierModel", "torqueOf", "(I)I"⟩, 58) := ⟨⟨by decide +kernel, by decide +kernel⟩, List.mem_of_getElem? (i := 763) (by decide +kernel), List.mem_of_getElem? (i := 1026) (by decide +kernel), List.mem_of_getElem? (i := 1027) (by decide +kernel)⟩
theorem lw_p27 : lw_okq (⟨"YarnPlierModel", "torqueIn", "(II)I"⟩, 58) := ⟨⟨by decide +kernel, by decide +kernel⟩, List.mem_of_getElem? (i := 763) (by decide +kernel), List.mem_of_getElem? (i := 1030) (by decide +kernel), List.mem_of_getElem? (i := 1031) (by decide +kernel)⟩
theorem lw_p28 : lw_okq (⟨"YarnPlierModel", "heavyOf", "(II)I"⟩, 58) := ⟨⟨by decide +kernel, by decide +kernel⟩, List.mem_of_getElem? (i := 763) (by decide +kernel), List.mem_of_getElem? (i := 1057) (by decide +kernel), List.mem_of_getElem? (i := 1058) (by decide +kernel)⟩
theorem lw_p29 : lw_okq (⟨"YarnPlierModel", "isIn", "(II)Z"⟩, 58) := ⟨⟨by decide +kernel, by decide +kernel⟩, List.mem_of_getElem? (i := 763) (by decide +kernel), List.mem_of_getElem? (i := 1065) (by decide +kernel), List.mem_of_getElem? (i := 1066) (by decide +kernel)⟩
theorem lw_p30 : lw_okq (⟨"YarnPlierModel", "bitsOf", "(I)I"⟩, 58) := ⟨⟨by decide +kernel, by decide +kernel⟩, List.mem_of_getElem? (i := 763) (by decide +kernel), List.mem_of_getElem? (i := 1069) (by decide +kernel), List.mem_of_getElem? (i := 1070) (by decide +kernel)⟩
theorem lw_p31 : lw_okq (⟨"YarnPlierModel", "isThread", "(I)Z"⟩, 58) := ⟨⟨by decide +kernel, by decide +kernel⟩, List.mem_of_getElem? (i := 763) (by decide +kernel), List.mem_of_getElem? (i := 1078) (by decide +kernel), List.mem_of_getElem? (i := 1079) (by decide +kernel)⟩
def lw_privs_2 : List (MethodName × Nat) := [(⟨"YarnPlier", "countBalanced", "()I"⟩, 13), (⟨"YarnPlierModel", "isYarn", "(I)Z"⟩, 58), (⟨"YarnPlierModel", "depthOf", "(I)I"⟩, 58), (⟨"YarnPlierModel", "plied", "(II)I"⟩, 58), (⟨"YarnPlierModel", "toldOf", "(II)I"⟩, 58), (⟨"YarnPlierModel", "become", "(III)V"⟩, 58), (⟨"YarnPlierModel", "walkOver", "(II)V"⟩, 58), (⟨"YarnPlierModel", "walk", "(IIIJJ)V"⟩, 58), (⟨"YarnPlierModel", "byOf", "(I)I"⟩, 58), (⟨"YarnPlierModel", "tallyIn", "(I)V"⟩, 58), (⟨"YarnPlierModel", "torqueOf", "(I)I"⟩, 58), (⟨"YarnPlierModel", "torqueIn", "(II)I"⟩, 58), (⟨"YarnPlierModel", "heavyOf", "(II)I"⟩, 58), (⟨"YarnPlierModel", "isIn", "(II)Z"⟩, 58), (⟨"YarnPlierModel", "bitsOf", "(I)I"⟩, 58), (⟨"YarnPlierModel", "isThread", "(I)Z"⟩, 58)]
theorem lw_r2 : ∀ q ∈ lw_privs_2, lw_okq q := List.forall_mem_cons.mpr ⟨lw_p16, List.forall_mem_cons.mpr ⟨lw_p17, List.forall_mem_cons.mpr ⟨lw_p18, List.forall_mem_cons.mpr ⟨lw_p19, List.forall_mem_cons.mpr ⟨lw_p20, List.forall_mem_cons.mpr ⟨lw_p21, List.forall_mem_cons.mpr ⟨lw_p22, List.forall_mem_cons.mpr ⟨lw_p23, List.forall_mem_cons.mpr ⟨lw_p24, List.forall_mem_cons.mpr ⟨lw_p25, List.forall_mem_cons.mpr ⟨lw_p26, List.forall_mem_cons.mpr ⟨lw_p27, List.forall_mem_cons.mpr ⟨lw_p28, List.forall_mem_cons.mpr ⟨lw_p29, List.forall_mem_cons.mpr ⟨lw_p30, List.forall_mem_cons.mpr ⟨lw_p31, fun _ h => absurd h List.not_mem_nil⟩⟩⟩⟩⟩⟩⟩⟩⟩⟩⟩⟩⟩⟩⟩⟩
theorem lw_p32 : lw_okq (⟨"YarnPlierModel", "lacks", "(II)Z"⟩, 58) := ⟨⟨by decide +kernel, by decide +kernel⟩, List.mem_of_getElem? (i := 763) (by decide +kernel), List.mem_of_getElem? (i := 1087) (by decide +kernel), List.mem_of_getElem? (i := 1088) (by decide +kernel)⟩
theorem lw_p33 : lw_okq (⟨"YarnPlierModel", "areAlike", "(III)Z"⟩, 58) := ⟨⟨by decide +kernel, by decide +kernel⟩, List.mem_of_getElem? (i := 763) (by decide +kernel), List.mem_of_getElem? (i := 1095) (by decide +kernel), List.mem_of_getElem? (i := 1096) (by decide +kernel)⟩
theorem lw_p34 : lw_okq (⟨"YarnPlierModel", "isMade", "(II)Z"⟩, 58) := ⟨⟨by decide +kernel, by decide +kernel⟩, List.mem_of_getElem? (i := 763) (by decide +kernel), List.mem_of_getElem? (i := 1107) (by decide +kernel), List.mem_of_getElem? (i := 1108) (by decide +kernel)⟩
theorem lw_p35 : lw_okq (⟨"YarnPlierModel", "skewOf", "(I)I"⟩, 58) := ⟨⟨by decide +kernel, by decide +kernel⟩, List.mem_of_getElem? (i := 763) (by decide +kernel), List.mem_of_getElem? (i := 1119) (by decide +kernel), List.mem_of_getElem? (i := 1120) (by decide +kernel)⟩
theorem lw_p36 : lw_okq (⟨"YarnPlierModel", "arrange", "(IIII)V"⟩, 58) := ⟨⟨by decide +kernel, by decide +kernel⟩, List.mem_of_getElem? (i := 763) (by decide +kernel), List.mem_of_getElem? (i := 1132) (by decide +kernel), List.mem_of_getElem? (i := 1133) (by decide +kernel)⟩
theorem lw_p37 : lw_okq (⟨"YarnPlierModel", "isTold", "(IIII)Z"⟩, 58) := ⟨⟨by decide +kernel, by decide +kernel⟩, List.mem_of_getElem? (i := 763) (by decide +kernel), List.mem_of_getElem? (i := 1145) (by decide +kernel), List.mem_of_getElem? (i := 1146) (by decide +kernel)⟩
theorem lw_p38 : lw_okq (⟨"YarnPlierModel", "readAct", "()V"⟩, 58) := ⟨⟨by decide +kernel, by decide +kernel⟩, List.mem_of_getElem? (i := 763) (by decide +kernel), List.mem_of_getElem? (i := 1201) (by decide +kernel), List.mem_of_getElem? (i := 1202) (by decide +kernel)⟩
theorem lw_p39 : lw_okq (⟨"YarnPlierModel", "here", "()I"⟩, 58) := ⟨⟨by decide +kernel, by decide +kernel⟩, List.mem_of_getElem? (i := 763) (by decide +kernel), List.mem_of_getElem? (i := 1205) (by decide +kernel), List.mem_of_getElem? (i := 1206) (by decide +kernel)⟩
theorem lw_p40 : lw_okq (⟨"YarnPlierModel", "number", "(Z)I"⟩, 58) := ⟨⟨by decide +kernel, by decide +kernel⟩, List.mem_of_getElem? (i := 763) (by decide +kernel), List.mem_of_getElem? (i := 1209) (by decide +kernel), List.mem_of_getElem? (i := 1210) (by decide +kernel)⟩
theorem lw_p41 : lw_okq (⟨"YarnPlierModel", "isFigure", "()Z"⟩, 58) := ⟨⟨by decide +kernel, by decide +kernel⟩, List.mem_of_getElem? (i := 763) (by decide +kernel), List.mem_of_getElem? (i := 1213) (by decide +kernel), List.mem_of_getElem? (i := 1214) (by decide +kernel)⟩
theorem lw_p42 : lw_okq (⟨"YarnPlierModel", "want", "(I)V"⟩, 58) := ⟨⟨by decide +kernel, by decide +kernel⟩, List.mem_of_getElem? (i := 763) (by decide +kernel), List.mem_of_getElem? (i := 1217) (by decide +kernel), List.mem_of_getElem? (i := 1218) (by decide +kernel)⟩
theorem lw_p43 : lw_okq (⟨"YarnPlierModel", "isDone", "(I)Z"⟩, 58) := ⟨⟨by decide +kernel, by decide +kernel⟩, List.mem_of_getElem? (i := 763) (by decide +kernel), List.mem_of_getElem? (i := 1221) (by decide +kernel), List.mem_of_getElem? (i := 1222) (by decide +kernel)⟩
def lw_privs_3 : List (MethodName × Nat) := [(⟨"YarnPlierModel", "lacks", "(II)Z"⟩, 58), (⟨"YarnPlierModel", "areAlike", "(III)Z"⟩, 58), (⟨"YarnPlierModel", "isMade", "(II)Z"⟩, 58), (⟨"YarnPlierModel", "skewOf", "(I)I"⟩, 58), (⟨"YarnPlierModel", "arrange", "(IIII)V"⟩, 58), (⟨"YarnPlierModel", "isTold", "(IIII)Z"⟩, 58), (⟨"YarnPlierModel", "readAct", "()V"⟩, 58), (⟨"YarnPlierModel", "here", "()I"⟩, 58), (⟨"YarnPlierModel", "number", "(Z)I"⟩, 58), (⟨"YarnPlierModel", "isFigure", "()Z"⟩, 58), (⟨"YarnPlierModel", "want", "(I)V"⟩, 58), (⟨"YarnPlierModel", "isDone", "(I)Z"⟩, 58)]
theorem lw_r3 : ∀ q ∈ lw_privs_3, lw_okq q := List.forall_mem_cons.mpr ⟨lw_p32, List.forall_mem_cons.mpr ⟨lw_p33, List.forall_mem_cons.mpr ⟨lw_p34, List.forall_mem_cons.mpr ⟨lw_p35, List.forall_mem_cons.mpr ⟨lw_p36, List.forall_mem_cons.mpr ⟨lw_p37, List.forall_mem_cons.mpr ⟨lw_p38, List.forall_mem_cons.mpr ⟨lw_p39, List.forall_mem_cons.mpr ⟨lw_p40, List.forall_mem_cons.mpr ⟨lw_p41, List.forall_mem_cons.mpr ⟨lw_p42, List.forall_mem_cons.mpr ⟨lw_p43, fun _ h => absurd h List.not_mem_nil⟩⟩⟩⟩⟩⟩⟩⟩⟩⟩⟩⟩
def lw_privs : List (MethodName × Nat) := lw_privs_1 ++ (lw_privs_2 ++ (lw_privs_3))
def lw_tbl : List Cond := k2_sels lw_privs ++ tables_1
theorem lw_privs_ok : ∀ q ∈ lw_privs, lw_okq q := by
  show ∀ q ∈ lw_privs_1 ++ (lw_privs_2 ++ (lw_privs_3)), lw_okq q
  exact List.forall_mem_append.mpr ⟨lw_r1, List.forall_mem_append.mpr ⟨lw_r2, lw_r3⟩⟩
end
section
def RX0 : String := "YarnPlier$Bench"
def TX0 : u_T := fun k => match k with
  | 0 => ("YarnPlier$Bench", "yarns", "LYarnPlier$Yarns;", true)
  | 1 => ("YarnPlier$Bench", "layers", "LYarnPlier$Line;", true)
  | _ => ("YarnPlier$Bench", "jobs", "LYarnPlier$Line;", true)
def tyX0 : Nat → FieldType := fun k => match k with
  | 0 => .object "YarnPlier$Yarns"
  | 1 => .object "YarnPlier$Line"
  | _ => .object "YarnPlier$Line"
theorem nmX0 : ∀ a, a < 3 → ∀ b, b < 3 → a ≠ b → (TX0 a).2.1 ≠ (TX0 b).2.1 := by decide +kernel
theorem tyX0_ok : ∀ k, k < 3 → parseFieldDescriptor (TX0 k).2.2.1 = some (tyX0 k) := by decide +kernel
abbrev cX0_init : ByteArray := prog_2_method_1_code
def yX0_init : MethodName := ⟨RX0, "<init>", "()V"⟩
abbrev cX0_empty : ByteArray := prog_2_method_2_code
def yX0_empty : MethodName := ⟨RX0, "empty", "()V"⟩
abbrev cX0_copy : ByteArray := prog_2_method_3_code
def yX0_copy : MethodName := ⟨RX0, "copy", "(LYarnPlier$Bench;)V"⟩
def RX1 : String := "YarnPlier$Line"
def TX1 : u_T := fun k => match k with
  | 0 => ("YarnPlier$Line", "size", "I", false)
  | _ => ("YarnPlier$Line", "cells", "[I", true)
def tyX1 : Nat → FieldType := fun k => match k with
  | 0 => .int
  | _ => .array .int
theorem nmX1 : ∀ a, a < 2 → ∀ b, b < 2 → a ≠ b → (TX1 a).2.1 ≠ (TX1 b).2.1 := by decide +kernel
theorem tyX1_ok : ∀ k, k < 2 → parseFieldDescriptor (TX1 k).2.2.1 = some (tyX1 k) := by decide +kernel
abbrev cX1_init : ByteArray := prog_3_method_1_code
def yX1_init : MethodName := ⟨RX1, "<init>", "(I)V"⟩
abbrev cX1_isFull : ByteArray := prog_3_method_2_code
def yX1_isFull : MethodName := ⟨RX1, "isFull", "()Z"⟩
abbrev cX1_at : ByteArray := prog_3_method_3_code
def yX1_at : MethodName := ⟨RX1, "at", "(II)I"⟩
abbrev cX1_add : ByteArray := prog_3_method_4_code
def yX1_add : MethodName := ⟨RX1, "add", "(III)V"⟩
abbrev cX1_drop : ByteArray := prog_3_method_5_code
def yX1_drop : MethodName := ⟨RX1, "drop", "(I)V"⟩
abbrev cX1_reverse : ByteArray := prog_3_method_6_code
def yX1_reverse : MethodName := ⟨RX1, "reverse", "()V"⟩
abbrev cX1_empty : ByteArray := prog_3_method_7_code
def yX1_empty : MethodName := ⟨RX1, "empty", "()V"⟩
abbrev cX1_copy : ByteArray := prog_3_method_8_code
def yX1_copy : MethodName := ⟨RX1, "copy", "(LYarnPlier$Line;)V"⟩
def RX2 : String := "YarnPlier$Path"
def TX2 : u_T := fun k => match k with
  | 0 => ("YarnPlier$Path", "end", "I", false)
  | 1 => ("YarnPlier$Path", "length", "I", false)
  | _ => ("YarnPlier$Path", "around", "[I", true)
def tyX2 : Nat → FieldType := fun k => match k with
  | 0 => .int
  | 1 => .int
  | _ => .array .int
theorem nmX2 : ∀ a, a < 3 → ∀ b, b < 3 → a ≠ b → (TX2 a).2.1 ≠ (TX2 b).2.1 := by decide +kernel
theorem tyX2_ok : ∀ k, k < 3 → parseFieldDescriptor (TX2 k).2.2.1 = some (tyX2 k) := by decide +kernel
abbrev cX2_init : ByteArray := prog_4_method_1_code
def yX2_init : MethodName := ⟨RX2, "<init>", "()V"⟩
abbrev cX2_lead : ByteArray := prog_4_method_2_code
def yX2_lead : MethodName := ⟨RX2, "lead", "(LYarnPlier$Yarns;II)Z"⟩
abbrev cX2_turnOf : ByteArray := prog_4_method_3_code
def yX2_turnOf : MethodName := ⟨RX2, "turnOf", "(LYarnPlier$Yarns;)I"⟩
abbrev cX2_byOf : ByteArray := prog_4_method_4_code
def yX2_byOf : MethodName := ⟨RX2, "byOf", "(LYarnPlier$Yarns;)J"⟩
abbrev cX2_wholeOf : ByteArray := prog_4_method_5_code
def yX2_wholeOf : MethodName := ⟨RX2, "wholeOf", "()J"⟩
abbrev cX2_needsFor : ByteArray := prog_4_method_6_code
def yX2_needsFor : MethodName := ⟨RX2, "needsFor", "(LYarnPlier$Yarns;I)I"⟩
def RX3 : String := "YarnPlier$Rows"
def TX3 : u_T := fun k => match k with
  | 0 => ("YarnPlier$Rows", "sizes", "[I", true)
  | _ => ("YarnPlier$Rows", "places", "[I", true)
def tyX3 : Nat → FieldType := fun k => match k with
  | 0 => .array .int
  | _ => .array .int
theorem nmX3 : ∀ a, a < 2 → ∀ b, b < 2 → a ≠ b → (TX3 a).2.1 ≠ (TX3 b).2.1 := by decide +kernel
theorem tyX3_ok : ∀ k, k < 2 → parseFieldDescriptor (TX3 k).2.2.1 = some (tyX3 k) := by decide +kernel
abbrev cX3_init : ByteArray := prog_5_method_1_code
def yX3_init : MethodName := ⟨RX3, "<init>", "()V"⟩
abbrev cX3_has : ByteArray := prog_5_method_2_code
def yX3_has : MethodName := ⟨RX3, "has", "(I)Z"⟩
abbrev cX3_isMissing : ByteArray := prog_5_method_3_code
def yX3_isMissing : MethodName := ⟨RX3, "isMissing", "(I)Z"⟩
abbrev cX3_sizeOf : ByteArray := prog_5_method_4_code
def yX3_sizeOf : MethodName := ⟨RX3, "sizeOf", "(I)I"⟩
abbrev cX3_hasPlace : ByteArray := prog_5_method_5_code
def yX3_hasPlace : MethodName := ⟨RX3, "hasPlace", "(II)Z"⟩
abbrev cX3_placeAt : ByteArray := prog_5_method_6_code
def yX3_placeAt : MethodName := ⟨RX3, "placeAt", "(II)I"⟩
abbrev cX3_write : ByteArray := prog_5_method_7_code
def yX3_write : MethodName := ⟨RX3, "write", "(III)V"⟩
abbrev cX3_renew : ByteArray := prog_5_method_8_code
def yX3_renew : MethodName := ⟨RX3, "renew", "(II)V"⟩
def RX4 : String := "YarnPlier$Skews"
def TX4 : u_T := fun k => match k with
  | 0 => ("YarnPlier$Skews", "size", "I", false)
  | 1 => ("YarnPlier$Skews", "pulls", "[I", true)
  | _ => ("YarnPlier$Skews", "reaches", "[I", true)
def tyX4 : Nat → FieldType := fun k => match k with
  | 0 => .int
  | 1 => .array .int
  | _ => .array .int
theorem nmX4 : ∀ a, a < 3 → ∀ b, b < 3 → a ≠ b → (TX4 a).2.1 ≠ (TX4 b).2.1 := by decide +kernel
theorem tyX4_ok : ∀ k, k < 3 → parseFieldDescriptor (TX4 k).2.2.1 = some (tyX4 k) := by decide +kernel
abbrev cX4_init : ByteArray := prog_6_method_1_code
def yX4_init : MethodName := ⟨RX4, "<init>", "()V"⟩
abbrev cX4_behind : ByteArray := prog_6_method_2_code
def yX4_behind : MethodName := ⟨RX4, "behind", "(I)I"⟩
abbrev cX4_worstBehind : ByteArray := prog_6_method_3_code
def yX4_worstBehind : MethodName := ⟨RX4, "worstBehind", "()I"⟩
abbrev cX4_bestToTurn : ByteArray := prog_6_method_4_code
def yX4_bestToTurn : MethodName := ⟨RX4, "bestToTurn", "()I"⟩
abbrev cX4_findReaches : ByteArray := prog_6_method_5_code
def yX4_findReaches : MethodName := ⟨RX4, "findReaches", "()V"⟩
abbrev cX4_leastWorst : ByteArray := prog_6_method_6_code
def yX4_leastWorst : MethodName := ⟨RX4, "leastWorst", "()I"⟩
abbrev cX4_inBestOrder : ByteArray := prog_6_method_7_code
def yX4_inBestOrder : MethodName := ⟨RX4, "inBestOrder", "(I)I"⟩
abbrev cX4_isBest : ByteArray := prog_6_method_8_code
def yX4_isBest : MethodName := ⟨RX4, "isBest", "(II)Z"⟩
def RX5 : String := "YarnPlier$Tape"
def TX5 : u_T := fun k => match k with
  | 0 => ("YarnPlier$Tape", "size", "I", false)
  | 1 => ("YarnPlier$Tape", "kind", "I", false)
  | 2 => ("YarnPlier$Tape", "found", "I", false)
  | 3 => ("YarnPlier$Tape", "numbers", "[I", true)
  | 4 => ("YarnPlier$Tape", "at", "I", false)
  | _ => ("YarnPlier$Tape", "bytes", "[B", true)
def tyX5 : Nat → FieldType := fun k => match k with
  | 0 => .int
  | 1 => .int
  | 2 => .int
  | 3 => .array .int
  | 4 => .int
  | _ => .array .byte
theorem nmX5 : ∀ a, a < 6 → ∀ b, b < 6 → a ≠ b → (TX5 a).2.1 ≠ (TX5 b).2.1 := by decide +kernel
theorem tyX5_ok : ∀ k, k < 6 → parseFieldDescriptor (TX5 k).2.2.1 = some (tyX5 k) := by decide +kernel
abbrev cX5_init : ByteArray := prog_7_method_1_code
def yX5_init : MethodName := ⟨RX5, "<init>", "()V"⟩
abbrev cX5_add : ByteArray := prog_7_method_2_code
def yX5_add : MethodName := ⟨RX5, "add", "(I)Z"⟩
abbrev cX5_rewind : ByteArray := prog_7_method_3_code
def yX5_rewind : MethodName := ⟨RX5, "rewind", "()V"⟩
abbrev cX5_firstFault : ByteArray := prog_7_method_4_code
def yX5_firstFault : MethodName := ⟨RX5, "firstFault", "()I"⟩
abbrev cX5_takeAct : ByteArray := prog_7_method_5_code
def yX5_takeAct : MethodName := ⟨RX5, "takeAct", "()Z"⟩
abbrev cX5_lastNumber : ByteArray := prog_7_method_6_code
def yX5_lastNumber : MethodName := ⟨RX5, "lastNumber", "()I"⟩
abbrev cX5_takeSign : ByteArray := prog_7_method_7_code
def yX5_takeSign : MethodName := ⟨RX5, "takeSign", "(C)Z"⟩
abbrev cX5_takeParts : ByteArray := prog_7_method_8_code
def yX5_takeParts : MethodName := ⟨RX5, "takeParts", "()Z"⟩
abbrev cX5_takeTwist : ByteArray := prog_7_method_9_code
def yX5_takeTwist : MethodName := ⟨RX5, "takeTwist", "()Z"⟩
abbrev cX5_takeNumber : ByteArray := prog_7_method_10_code
def yX5_takeNumber : MethodName := ⟨RX5, "takeNumber", "()Z"⟩
def RX6 : String := "YarnPlier$Within"
def TX6 : u_T := fun k => match k with
  | 0 => ("YarnPlier$Within", "size", "I", false)
  | 1 => ("YarnPlier$Within", "yarn", "[I", true)
  | 2 => ("YarnPlier$Within", "turn", "[I", true)
  | 3 => ("YarnPlier$Within", "times", "[I", true)
  | 4 => ("YarnPlier$Within", "around", "[I", true)
  | 5 => ("YarnPlier$Within", "moved", "[Z", true)
  | 6 => ("YarnPlier$Within", "yards", "[I", true)
  | _ => ("YarnPlier$Within", "needed", "[I", true)
def tyX6 : Nat → FieldType := fun k => match k with
  | 0 => .int
  | 1 => .array .int
  | 2 => .array .int
  | 3 => .array .int
  | 4 => .array .int
  | 5 => .array .boolean
  | 6 => .array .int
  | _ => .array .int
theorem nmX6 : ∀ a, a < 8 → ∀ b, b < 8 → a ≠ b → (TX6 a).2.1 ≠ (TX6 b).2.1 := by decide +kernel
theorem tyX6_ok : ∀ k, k < 8 → parseFieldDescriptor (TX6 k).2.2.1 = some (tyX6 k) := by decide +kernel
abbrev cX6_init : ByteArray := prog_8_method_1_code
def yX6_init : MethodName := ⟨RX6, "<init>", "()V"⟩
abbrev cX6_walk : ByteArray := prog_8_method_2_code
def yX6_walk : MethodName := ⟨RX6, "walk", "(LYarnPlier$Yarns;II)V"⟩
abbrev cX6_addParts : ByteArray := prog_8_method_3_code
def yX6_addParts : MethodName := ⟨RX6, "addParts", "(LYarnPlier$Yarns;II)V"⟩
abbrev cX6_addPlace : ByteArray := prog_8_method_4_code
def yX6_addPlace : MethodName := ⟨RX6, "addPlace", "(LYarnPlier$Yarns;III)V"⟩
abbrev cX6_torqueBy : ByteArray := prog_8_method_5_code
def yX6_torqueBy : MethodName := ⟨RX6, "torqueBy", "(LYarnPlier$Yarns;I)I"⟩
abbrev cX6_torqueWithout : ByteArray := prog_8_method_6_code
def yX6_torqueWithout : MethodName := ⟨RX6, "torqueWithout", "(LYarnPlier$Yarns;II)I"⟩
abbrev cX6_pullsOf : ByteArray := prog_8_method_7_code
def yX6_pullsOf : MethodName := ⟨RX6, "pullsOf", "(IIII)I"⟩
abbrev cX6_turnBy : ByteArray := prog_8_method_8_code
def yX6_turnBy : MethodName := ⟨RX6, "turnBy", "(II)I"⟩
abbrev cX6_countFibres : ByteArray := prog_8_method_9_code
def yX6_countFibres : MethodName := ⟨RX6, "countFibres", "(LYarnPlier$Yarns;[I)V"⟩
abbrev cX6_draw : ByteArray := prog_8_method_10_code
def yX6_draw : MethodName := ⟨RX6, "draw", "(LYarnPlier$Yarns;I)V"⟩
abbrev cX6_heavyOf : ByteArray := prog_8_method_11_code
def yX6_heavyOf : MethodName := ⟨RX6, "heavyOf", "(LYarnPlier$Yarns;)I"⟩
abbrev cX6_isInStock : ByteArray := prog_8_method_12_code
def yX6_isInStock : MethodName := ⟨RX6, "isInStock", "(LYarnPlier$Yarns;)Z"⟩
abbrev cX6_takeFromStock : ByteArray := prog_8_method_13_code
def yX6_takeFromStock : MethodName := ⟨RX6, "takeFromStock", "(LYarnPlier$Yarns;)V"⟩
def RX7 : String := "YarnPlier$Yarns"
def TX7 : u_T := fun k => match k with
  | 0 => ("YarnPlier$Yarns", "size", "I", false)
  | 1 => ("YarnPlier$Yarns", "facts", "[I", true)
  | _ => ("YarnPlier$Yarns", "parts", "[I", true)
def tyX7 : Nat → FieldType := fun k => match k with
  | 0 => .int
  | 1 => .array .int
  | _ => .array .int
theorem nmX7 : ∀ a, a < 3 → ∀ b, b < 3 → a ≠ b → (TX7 a).2.1 ≠ (TX7 b).2.1 := by decide +kernel
theorem tyX7_ok : ∀ k, k < 3 → parseFieldDescriptor (TX7 k).2.2.1 = some (tyX7 k) := by decide +kernel
abbrev cX7_init : ByteArray := prog_9_method_1_code
def yX7_init : MethodName := ⟨RX7, "<init>", "()V"⟩
abbrev cX7_has : ByteArray := prog_9_method_2_code
def yX7_has : MethodName := ⟨RX7, "has", "(I)Z"⟩
abbrev cX7_isThread : ByteArray := prog_9_method_3_code
def yX7_isThread : MethodName := ⟨RX7, "isThread", "(I)Z"⟩
abbrev cX7_isInside : ByteArray := prog_9_method_4_code
def yX7_isInside : MethodName := ⟨RX7, "isInside", "(II)Z"⟩
abbrev cX7_canBePart : ByteArray := prog_9_method_5_code
def yX7_canBePart : MethodName := ⟨RX7, "canBePart", "(I)Z"⟩
abbrev cX7_fact : ByteArray := prog_9_method_6_code
def yX7_fact : MethodName := ⟨RX7, "fact", "(II)I"⟩
abbrev cX7_write : ByteArray := prog_9_method_7_code
def yX7_write : MethodName := ⟨RX7, "write", "(III)V"⟩
abbrev cX7_partAt : ByteArray := prog_9_method_8_code
def yX7_partAt : MethodName := ⟨RX7, "partAt", "(II)I"⟩
abbrev cX7_by : ByteArray := prog_9_method_9_code
def yX7_by : MethodName := ⟨RX7, "by", "(I)I"⟩
abbrev cX7_addThread : ByteArray := prog_9_method_10_code
def yX7_addThread : MethodName := ⟨RX7, "addThread", "(III)I"⟩
abbrev cX7_addPlied : ByteArray := prog_9_method_11_code
def yX7_addPlied : MethodName := ⟨RX7, "addPlied", "([III)I"⟩
abbrev cX7_join : ByteArray := prog_9_method_12_code
def yX7_join : MethodName := ⟨RX7, "join", "(I[II)V"⟩
abbrev cX7_tell : ByteArray := prog_9_method_13_code
def yX7_tell : MethodName := ⟨RX7, "tell", "(III)I"⟩
abbrev cX7_copy : ByteArray := prog_9_method_14_code
def yX7_copy : MethodName := ⟨RX7, "copy", "(LYarnPlier$Yarns;)V"⟩
def RX8 : String := "YarnPlier"
def TX8 : u_T := fun k => match k with
  | 0 => ("YarnPlier", "bench", "LYarnPlier$Bench;", true)
  | 1 => ("YarnPlier", "taken", "LYarnPlier$Bench;", true)
  | 2 => ("YarnPlier", "hasTaken", "Z", false)
  | 3 => ("YarnPlier", "bundle", "[I", true)
  | 4 => ("YarnPlier", "bundled", "I", false)
  | 5 => ("YarnPlier", "steps", "LYarnPlier$Line;", true)
  | 6 => ("YarnPlier", "tallies", "[I", true)
  | 7 => ("YarnPlier", "rows", "LYarnPlier$Rows;", true)
  | 8 => ("YarnPlier", "tape", "LYarnPlier$Tape;", true)
  | 9 => ("YarnPlier", "within", "LYarnPlier$Within;", true)
  | 10 => ("YarnPlier", "path", "LYarnPlier$Path;", true)
  | 11 => ("YarnPlier", "skews", "LYarnPlier$Skews;", true)
  | _ => ("YarnPlier", "rest", "[I", true)
def tyX8 : Nat → FieldType := fun k => match k with
  | 0 => .object "YarnPlier$Bench"
  | 1 => .object "YarnPlier$Bench"
  | 2 => .boolean
  | 3 => .array .int
  | 4 => .int
  | 5 => .object "YarnPlier$Line"
  | 6 => .array .int
  | 7 => .object "YarnPlier$Rows"
  | 8 => .object "YarnPlier$Tape"
  | 9 => .object "YarnPlier$Within"
  | 10 => .object "YarnPlier$Path"
  | 11 => .object "YarnPlier$Skews"
  | _ => .array .int
theorem nmX8 : ∀ a, a < 13 → ∀ b, b < 13 → a ≠ b → (TX8 a).2.1 ≠ (TX8 b).2.1 := by decide +kernel
theorem tyX8_ok : ∀ k, k < 13 → parseFieldDescriptor (TX8 k).2.2.1 = some (tyX8 k) := by decide +kernel
abbrev cX8_init : ByteArray := prog_1_method_1_code
def yX8_init : MethodName := ⟨RX8, "<init>", "()V"⟩
abbrev cX8_thread : ByteArray := prog_1_method_2_code
def yX8_thread : MethodName := ⟨RX8, "thread", "(III)I"⟩
abbrev cX8_part : ByteArray := prog_1_method_3_code
def yX8_part : MethodName := ⟨RX8, "part", "(I)I"⟩
abbrev cX8_ply : ByteArray := prog_1_method_4_code
def yX8_ply : MethodName := ⟨RX8, "ply", "(I)I"⟩
abbrev cX8_clear : ByteArray := prog_1_method_5_code
def yX8_clear : MethodName := ⟨RX8, "clear", "()I"⟩
abbrev cX8_set : ByteArray := prog_1_method_6_code
def yX8_set : MethodName := ⟨RX8, "set", "(III)I"⟩
abbrev cX8_of : ByteArray := prog_1_method_7_code
def yX8_of : MethodName := ⟨RX8, "of", "(II)I"⟩
abbrev cX8_partOf : ByteArray := prog_1_method_8_code
def yX8_partOf : MethodName := ⟨RX8, "partOf", "(II)I"⟩
abbrev cX8_leaf : ByteArray := prog_1_method_9_code
def yX8_leaf : MethodName := ⟨RX8, "leaf", "(III)I"⟩
abbrev cX8_torque : ByteArray := prog_1_method_10_code
def yX8_torque : MethodName := ⟨RX8, "torque", "(I)I"⟩
abbrev cX8_tally : ByteArray := prog_1_method_11_code
def yX8_tally : MethodName := ⟨RX8, "tally", "(I)I"⟩
abbrev cX8_kept : ByteArray := prog_1_method_12_code
def yX8_kept : MethodName := ⟨RX8, "kept", "(III)J"⟩
abbrev cX8_needs : ByteArray := prog_1_method_13_code
def yX8_needs : MethodName := ⟨RX8, "needs", "(III)I"⟩
abbrev cX8_heavy : ByteArray := prog_1_method_14_code
def yX8_heavy : MethodName := ⟨RX8, "heavy", "(II)I"⟩
abbrev cX8_balance : ByteArray := prog_1_method_15_code
def yX8_balance : MethodName := ⟨RX8, "balance", "(III)I"⟩
abbrev cX8_plan : ByteArray := prog_1_method_16_code
def yX8_plan : MethodName := ⟨RX8, "plan", "(IIII)I"⟩
abbrev cX8_can : ByteArray := prog_1_method_17_code
def yX8_can : MethodName := ⟨RX8, "can", "(I)I"⟩
abbrev cX8_alike : ByteArray := prog_1_method_18_code
def yX8_alike : MethodName := ⟨RX8, "alike", "(III)I"⟩
abbrev cX8_inside : ByteArray := prog_1_method_19_code
def yX8_inside : MethodName := ⟨RX8, "inside", "(I)I"⟩
abbrev cX8_make : ByteArray := prog_1_method_20_code
def yX8_make : MethodName := ⟨RX8, "make", "(II)I"⟩
abbrev cX8_lay : ByteArray := prog_1_method_21_code
def yX8_lay : MethodName := ⟨RX8, "lay", "(III)I"⟩
abbrev cX8_skew : ByteArray := prog_1_method_22_code
def yX8_skew : MethodName := ⟨RX8, "skew", "(I)I"⟩
abbrev cX8_worst : ByteArray := prog_1_method_23_code
def yX8_worst : MethodName := ⟨RX8, "worst", "()I"⟩
abbrev cX8_order : ByteArray := prog_1_method_24_code
def yX8_order : MethodName := ⟨RX8, "order", "(I)I"⟩
abbrev cX8_turned : ByteArray := prog_1_method_25_code
def yX8_turned : MethodName := ⟨RX8, "turned", "()I"⟩
abbrev cX8_fits : ByteArray := prog_1_method_26_code
def yX8_fits : MethodName := ⟨RX8, "fits", "(IIIII)I"⟩
abbrev cX8_job : ByteArray := prog_1_method_27_code
def yX8_job : MethodName := ⟨RX8, "job", "(II)I"⟩
abbrev cX8_do1 : ByteArray := prog_1_method_28_code
def yX8_do1 : MethodName := ⟨RX8, "do1", "()I"⟩
abbrev cX8_strike : ByteArray := prog_1_method_29_code
def yX8_strike : MethodName := ⟨RX8, "strike", "(I)I"⟩
abbrev cX8_about : ByteArray := prog_1_method_30_code
def yX8_about : MethodName := ⟨RX8, "about", "()I"⟩
abbrev cX8_jobOf : ByteArray := prog_1_method_31_code
def yX8_jobOf : MethodName := ⟨RX8, "jobOf", "(II)I"⟩
abbrev cX8_back : ByteArray := prog_1_method_32_code
def yX8_back : MethodName := ⟨RX8, "back", "()I"⟩
abbrev cX8_feed : ByteArray := prog_1_method_33_code
def yX8_feed : MethodName := ⟨RX8, "feed", "(I)I"⟩
abbrev cX8_wipe : ByteArray := prog_1_method_34_code
def yX8_wipe : MethodName := ⟨RX8, "wipe", "()I"⟩
abbrev cX8_read : ByteArray := prog_1_method_35_code
def yX8_read : MethodName := ⟨RX8, "read", "()I"⟩
abbrev cX8_row : ByteArray := prog_1_method_36_code
def yX8_row : MethodName := ⟨RX8, "row", "(II)I"⟩
abbrev cX8_put : ByteArray := prog_1_method_37_code
def yX8_put : MethodName := ⟨RX8, "put", "(III)I"⟩
abbrev cX8_get : ByteArray := prog_1_method_38_code
def yX8_get : MethodName := ⟨RX8, "get", "(II)I"⟩
abbrev cX8_film : ByteArray := prog_1_method_39_code
def yX8_film : MethodName := ⟨RX8, "film", "(IIII)I"⟩
abbrev cX8_image : ByteArray := prog_1_method_40_code
def yX8_image : MethodName := ⟨RX8, "image", "()I"⟩
abbrev cX8_undo : ByteArray := prog_1_method_41_code
def yX8_undo : MethodName := ⟨RX8, "undo", "()I"⟩
abbrev cX8_count : ByteArray := prog_1_method_42_code
def yX8_count : MethodName := ⟨RX8, "count", "(I)I"⟩
abbrev cX8_torqueOf : ByteArray := prog_1_method_43_code
def yX8_torqueOf : MethodName := ⟨RX8, "torqueOf", "(I)I"⟩
abbrev cX8_countBalanced : ByteArray := prog_1_method_44_code
def yX8_countBalanced : MethodName := ⟨RX8, "countBalanced", "()I"⟩
abbrev cX8_weighLayers : ByteArray := prog_1_method_45_code
def yX8_weighLayers : MethodName := ⟨RX8, "weighLayers", "()V"⟩
abbrev cX8_makeYards : ByteArray := prog_1_method_46_code
def yX8_makeYards : MethodName := ⟨RX8, "makeYards", "(II)I"⟩
abbrev cX8_fittingFibres : ByteArray := prog_1_method_47_code
def yX8_fittingFibres : MethodName := ⟨RX8, "fittingFibres", "(II)I"⟩
abbrev cX8_fittingWeights : ByteArray := prog_1_method_48_code
def yX8_fittingWeights : MethodName := ⟨RX8, "fittingWeights", "(III)I"⟩
abbrev cX8_isFitting : ByteArray := prog_1_method_49_code
def yX8_isFitting : MethodName := ⟨RX8, "isFitting", "(IIII)Z"⟩
abbrev cX8_doActs : ByteArray := prog_1_method_50_code
def yX8_doActs : MethodName := ⟨RX8, "doActs", "()I"⟩
abbrev cX8_doAct : ByteArray := prog_1_method_51_code
def yX8_doAct : MethodName := ⟨RX8, "doAct", "()Z"⟩
abbrev cX8_inRange : ByteArray := prog_1_method_52_code
def yX8_inRange : MethodName := ⟨RX8, "inRange", "(III)Z"⟩
abbrev cX8_canBeTold : ByteArray := prog_1_method_53_code
def yX8_canBeTold : MethodName := ⟨RX8, "canBeTold", "(II)Z"⟩
abbrev cX8_cutUp : ByteArray := prog_1_method_54_code
def yX8_cutUp : MethodName := ⟨RX8, "cutUp", "(II)I"⟩
abbrev cX8_byOfPlied : ByteArray := prog_1_method_55_code
def yX8_byOfPlied : MethodName := ⟨RX8, "byOfPlied", "(II)I"⟩
abbrev cX8_plannedHeavy : ByteArray := prog_1_method_56_code
def yX8_plannedHeavy : MethodName := ⟨RX8, "plannedHeavy", "(III)I"⟩
abbrev cX8_fibrePull : ByteArray := prog_1_method_57_code
def yX8_fibrePull : MethodName := ⟨RX8, "fibrePull", "(III)I"⟩
abbrev cX8_beyondEase : ByteArray := prog_1_method_58_code
def yX8_beyondEase : MethodName := ⟨RX8, "beyondEase", "(I)I"⟩
abbrev cX8_commonDivisor : ByteArray := prog_1_method_59_code
def yX8_commonDivisor : MethodName := ⟨RX8, "commonDivisor", "(JJ)J"⟩
abbrev cX8_areAlike : ByteArray := prog_1_method_60_code
def yX8_areAlike : MethodName := ⟨RX8, "areAlike", "(LYarnPlier$Yarns;IIII)Z"⟩
def RX9 : String := "YarnPlierModel"
def TX9 : u_T := fun k => match k with
  | 0 => ("YarnPlierModel", "many", "I", false)
  | 1 => ("YarnPlierModel", "parts", "[I", true)
  | 2 => ("YarnPlierModel", "part", "[I", true)
  | 3 => ("YarnPlierModel", "fibre", "[I", true)
  | 4 => ("YarnPlierModel", "weight", "[I", true)
  | 5 => ("YarnPlierModel", "twist", "[I", true)
  | 6 => ("YarnPlierModel", "stock", "[I", true)
  | 7 => ("YarnPlierModel", "bundled", "I", false)
  | 8 => ("YarnPlierModel", "bundle", "[I", true)
  | 9 => ("YarnPlierModel", "layers", "I", false)
  | 10 => ("YarnPlierModel", "layerOf", "[I", true)
  | 11 => ("YarnPlierModel", "layerRows", "[I", true)
  | 12 => ("YarnPlierModel", "layerWay", "[I", true)
  | 13 => ("YarnPlierModel", "jobs", "I", false)
  | 14 => ("YarnPlierModel", "jobOf", "[I", true)
  | 15 => ("YarnPlierModel", "jobYards", "[I", true)
  | 16 => ("YarnPlierModel", "steps", "I", false)
  | 17 => ("YarnPlierModel", "stepWhat", "[I", true)
  | 18 => ("YarnPlierModel", "stepOf", "[I", true)
  | 19 => ("YarnPlierModel", "stepWas", "[I", true)
  | 20 => ("YarnPlierModel", "taped", "I", false)
  | 21 => ("YarnPlierModel", "tape", "[I", true)
  | 22 => ("YarnPlierModel", "rowMany", "[I", true)
  | 23 => ("YarnPlierModel", "rows", "[I", true)
  | 24 => ("YarnPlierModel", "tallies", "[I", true)
  | 25 => ("YarnPlierModel", "hasImage", "Z", false)
  | 26 => ("YarnPlierModel", "many1", "I", false)
  | 27 => ("YarnPlierModel", "parts1", "[I", true)
  | 28 => ("YarnPlierModel", "part1", "[I", true)
  | 29 => ("YarnPlierModel", "fibre1", "[I", true)
  | 30 => ("YarnPlierModel", "weight1", "[I", true)
  | 31 => ("YarnPlierModel", "twist1", "[I", true)
  | 32 => ("YarnPlierModel", "stock1", "[I", true)
  | 33 => ("YarnPlierModel", "layers1", "I", false)
  | 34 => ("YarnPlierModel", "layerOf1", "[I", true)
  | 35 => ("YarnPlierModel", "layerRows1", "[I", true)
  | 36 => ("YarnPlierModel", "layerWay1", "[I", true)
  | 37 => ("YarnPlierModel", "jobs1", "I", false)
  | 38 => ("YarnPlierModel", "jobOf1", "[I", true)
  | 39 => ("YarnPlierModel", "jobYards1", "[I", true)
  | 40 => ("YarnPlierModel", "leaves", "I", false)
  | 41 => ("YarnPlierModel", "leaf", "[I", true)
  | 42 => ("YarnPlierModel", "leafTurn", "[I", true)
  | 43 => ("YarnPlierModel", "leafNeeds", "[I", true)
  | 44 => ("YarnPlierModel", "keptAbove", "[J", true)
  | 45 => ("YarnPlierModel", "keptBelow", "[J", true)
  | 46 => ("YarnPlierModel", "wanted", "[I", true)
  | 47 => ("YarnPlierModel", "skews", "[I", true)
  | 48 => ("YarnPlierModel", "row", "[I", true)
  | 49 => ("YarnPlierModel", "bestRow", "[I", true)
  | 50 => ("YarnPlierModel", "bestWorst", "I", false)
  | 51 => ("YarnPlierModel", "at", "I", false)
  | 52 => ("YarnPlierModel", "end", "I", false)
  | 53 => ("YarnPlierModel", "isBad", "Z", false)
  | 54 => ("YarnPlierModel", "acts", "I", false)
  | 55 => ("YarnPlierModel", "actWhat", "[I", true)
  | 56 => ("YarnPlierModel", "actMany", "[I", true)
  | _ => ("YarnPlierModel", "actNumber", "[I", true)
def tyX9 : Nat → FieldType := fun k => match k with
  | 0 => .int
  | 1 => .array .int
  | 2 => .array .int
  | 3 => .array .int
  | 4 => .array .int
  | 5 => .array .int
  | 6 => .array .int
  | 7 => .int
  | 8 => .array .int
  | 9 => .int
  | 10 => .array .int
  | 11 => .array .int
  | 12 => .array .int
  | 13 => .int
  | 14 => .array .int
  | 15 => .array .int
  | 16 => .int
  | 17 => .array .int
  | 18 => .array .int
  | 19 => .array .int
  | 20 => .int
  | 21 => .array .int
  | 22 => .array .int
  | 23 => .array .int
  | 24 => .array .int
  | 25 => .boolean
  | 26 => .int
  | 27 => .array .int
  | 28 => .array .int
  | 29 => .array .int
  | 30 => .array .int
  | 31 => .array .int
  | 32 => .array .int
  | 33 => .int
  | 34 => .array .int
  | 35 => .array .int
  | 36 => .array .int
  | 37 => .int
  | 38 => .array .int
  | 39 => .array .int
  | 40 => .int
  | 41 => .array .int
  | 42 => .array .int
  | 43 => .array .int
  | 44 => .array .long
  | 45 => .array .long
  | 46 => .array .int
  | 47 => .array .int
  | 48 => .array .int
  | 49 => .array .int
  | 50 => .int
  | 51 => .int
  | 52 => .int
  | 53 => .boolean
  | 54 => .int
  | 55 => .array .int
  | 56 => .array .int
  | _ => .array .int
theorem nmX9 : ∀ a, a < 58 → ∀ b, b < 58 → a ≠ b → (TX9 a).2.1 ≠ (TX9 b).2.1 := by decide +kernel
theorem tyX9_ok : ∀ k, k < 58 → parseFieldDescriptor (TX9 k).2.2.1 = some (tyX9 k) := by decide +kernel
abbrev cX9_init : ByteArray := prog_11_method_1_code
def yX9_init : MethodName := ⟨RX9, "<init>", "()V"⟩
abbrev cX9_in : ByteArray := prog_11_method_2_code
def yX9_in : MethodName := ⟨RX9, "in", "(III)Z"⟩
abbrev cX9_isYarn : ByteArray := prog_11_method_3_code
def yX9_isYarn : MethodName := ⟨RX9, "isYarn", "(I)Z"⟩
abbrev cX9_isThread : ByteArray := prog_11_method_4_code
def yX9_isThread : MethodName := ⟨RX9, "isThread", "(I)Z"⟩
abbrev cX9_sizeOf : ByteArray := prog_11_method_5_code
def yX9_sizeOf : MethodName := ⟨RX9, "sizeOf", "(I)I"⟩
abbrev cX9_depthOf : ByteArray := prog_11_method_6_code
def yX9_depthOf : MethodName := ⟨RX9, "depthOf", "(I)I"⟩
abbrev cX9_bitsOf : ByteArray := prog_11_method_7_code
def yX9_bitsOf : MethodName := ⟨RX9, "bitsOf", "(I)I"⟩
abbrev cX9_isIn : ByteArray := prog_11_method_8_code
def yX9_isIn : MethodName := ⟨RX9, "isIn", "(II)Z"⟩
abbrev cX9_pull : ByteArray := prog_11_method_9_code
def yX9_pull : MethodName := ⟨RX9, "pull", "(III)I"⟩
abbrev cX9_torqueIn : ByteArray := prog_11_method_10_code
def yX9_torqueIn : MethodName := ⟨RX9, "torqueIn", "(II)I"⟩
abbrev cX9_torqueOf : ByteArray := prog_11_method_11_code
def yX9_torqueOf : MethodName := ⟨RX9, "torqueOf", "(I)I"⟩
abbrev cX9_tallyIn : ByteArray := prog_11_method_12_code
def yX9_tallyIn : MethodName := ⟨RX9, "tallyIn", "(I)V"⟩
abbrev cX9_byOf : ByteArray := prog_11_method_13_code
def yX9_byOf : MethodName := ⟨RX9, "byOf", "(I)I"⟩
abbrev cX9_walk : ByteArray := prog_11_method_14_code
def yX9_walk : MethodName := ⟨RX9, "walk", "(IIIJJ)V"⟩
abbrev cX9_walkOver : ByteArray := prog_11_method_15_code
def yX9_walkOver : MethodName := ⟨RX9, "walkOver", "(II)V"⟩
abbrev cX9_heavyOf : ByteArray := prog_11_method_16_code
def yX9_heavyOf : MethodName := ⟨RX9, "heavyOf", "(II)I"⟩
abbrev cX9_common : ByteArray := prog_11_method_17_code
def yX9_common : MethodName := ⟨RX9, "common", "(JJ)J"⟩
abbrev cX9_lacks : ByteArray := prog_11_method_18_code
def yX9_lacks : MethodName := ⟨RX9, "lacks", "(II)Z"⟩
abbrev cX9_isMade : ByteArray := prog_11_method_19_code
def yX9_isMade : MethodName := ⟨RX9, "isMade", "(II)Z"⟩
abbrev cX9_thread : ByteArray := prog_11_method_20_code
def yX9_thread : MethodName := ⟨RX9, "thread", "(III)I"⟩
abbrev cX9_part : ByteArray := prog_11_method_21_code
def yX9_part : MethodName := ⟨RX9, "part", "(I)I"⟩
abbrev cX9_ply : ByteArray := prog_11_method_22_code
def yX9_ply : MethodName := ⟨RX9, "ply", "(I)I"⟩
abbrev cX9_plied : ByteArray := prog_11_method_23_code
def yX9_plied : MethodName := ⟨RX9, "plied", "(II)I"⟩
abbrev cX9_clear : ByteArray := prog_11_method_24_code
def yX9_clear : MethodName := ⟨RX9, "clear", "()I"⟩
abbrev cX9_toldOf : ByteArray := prog_11_method_25_code
def yX9_toldOf : MethodName := ⟨RX9, "toldOf", "(II)I"⟩
abbrev cX9_become : ByteArray := prog_11_method_26_code
def yX9_become : MethodName := ⟨RX9, "become", "(III)V"⟩
abbrev cX9_set : ByteArray := prog_11_method_27_code
def yX9_set : MethodName := ⟨RX9, "set", "(III)I"⟩
abbrev cX9_of : ByteArray := prog_11_method_28_code
def yX9_of : MethodName := ⟨RX9, "of", "(II)I"⟩
abbrev cX9_partOf : ByteArray := prog_11_method_29_code
def yX9_partOf : MethodName := ⟨RX9, "partOf", "(II)I"⟩
abbrev cX9_leaf : ByteArray := prog_11_method_30_code
def yX9_leaf : MethodName := ⟨RX9, "leaf", "(III)I"⟩
abbrev cX9_torque : ByteArray := prog_11_method_31_code
def yX9_torque : MethodName := ⟨RX9, "torque", "(I)I"⟩
abbrev cX9_tally : ByteArray := prog_11_method_32_code
def yX9_tally : MethodName := ⟨RX9, "tally", "(I)I"⟩
abbrev cX9_kept : ByteArray := prog_11_method_33_code
def yX9_kept : MethodName := ⟨RX9, "kept", "(III)J"⟩
abbrev cX9_needs : ByteArray := prog_11_method_34_code
def yX9_needs : MethodName := ⟨RX9, "needs", "(III)I"⟩
abbrev cX9_heavy : ByteArray := prog_11_method_35_code
def yX9_heavy : MethodName := ⟨RX9, "heavy", "(II)I"⟩
abbrev cX9_balance : ByteArray := prog_11_method_36_code
def yX9_balance : MethodName := ⟨RX9, "balance", "(III)I"⟩
abbrev cX9_plan : ByteArray := prog_11_method_37_code
def yX9_plan : MethodName := ⟨RX9, "plan", "(IIII)I"⟩
abbrev cX9_can : ByteArray := prog_11_method_38_code
def yX9_can : MethodName := ⟨RX9, "can", "(I)I"⟩
abbrev cX9_areAlike : ByteArray := prog_11_method_39_code
def yX9_areAlike : MethodName := ⟨RX9, "areAlike", "(III)Z"⟩
abbrev cX9_alike : ByteArray := prog_11_method_40_code
def yX9_alike : MethodName := ⟨RX9, "alike", "(III)I"⟩
abbrev cX9_inside : ByteArray := prog_11_method_41_code
def yX9_inside : MethodName := ⟨RX9, "inside", "(I)I"⟩
abbrev cX9_make : ByteArray := prog_11_method_42_code
def yX9_make : MethodName := ⟨RX9, "make", "(II)I"⟩
abbrev cX9_lay : ByteArray := prog_11_method_43_code
def yX9_lay : MethodName := ⟨RX9, "lay", "(III)I"⟩
abbrev cX9_skewOf : ByteArray := prog_11_method_44_code
def yX9_skewOf : MethodName := ⟨RX9, "skewOf", "(I)I"⟩
abbrev cX9_skew : ByteArray := prog_11_method_45_code
def yX9_skew : MethodName := ⟨RX9, "skew", "(I)I"⟩
abbrev cX9_worst : ByteArray := prog_11_method_46_code
def yX9_worst : MethodName := ⟨RX9, "worst", "()I"⟩
abbrev cX9_arrange : ByteArray := prog_11_method_47_code
def yX9_arrange : MethodName := ⟨RX9, "arrange", "(IIII)V"⟩
abbrev cX9_order : ByteArray := prog_11_method_48_code
def yX9_order : MethodName := ⟨RX9, "order", "(I)I"⟩
abbrev cX9_turned : ByteArray := prog_11_method_49_code
def yX9_turned : MethodName := ⟨RX9, "turned", "()I"⟩
abbrev cX9_isTold : ByteArray := prog_11_method_50_code
def yX9_isTold : MethodName := ⟨RX9, "isTold", "(IIII)Z"⟩
abbrev cX9_fits : ByteArray := prog_11_method_51_code
def yX9_fits : MethodName := ⟨RX9, "fits", "(IIIII)I"⟩
abbrev cX9_row : ByteArray := prog_11_method_52_code
def yX9_row : MethodName := ⟨RX9, "row", "(II)I"⟩
abbrev cX9_put : ByteArray := prog_11_method_53_code
def yX9_put : MethodName := ⟨RX9, "put", "(III)I"⟩
abbrev cX9_get : ByteArray := prog_11_method_54_code
def yX9_get : MethodName := ⟨RX9, "get", "(II)I"⟩
abbrev cX9_film : ByteArray := prog_11_method_55_code
def yX9_film : MethodName := ⟨RX9, "film", "(IIII)I"⟩
abbrev cX9_job : ByteArray := prog_11_method_56_code
def yX9_job : MethodName := ⟨RX9, "job", "(II)I"⟩
abbrev cX9_do1 : ByteArray := prog_11_method_57_code
def yX9_do1 : MethodName := ⟨RX9, "do1", "()I"⟩
abbrev cX9_strike : ByteArray := prog_11_method_58_code
def yX9_strike : MethodName := ⟨RX9, "strike", "(I)I"⟩
abbrev cX9_about : ByteArray := prog_11_method_59_code
def yX9_about : MethodName := ⟨RX9, "about", "()I"⟩
abbrev cX9_jobOf : ByteArray := prog_11_method_60_code
def yX9_jobOf : MethodName := ⟨RX9, "jobOf", "(II)I"⟩
abbrev cX9_back : ByteArray := prog_11_method_61_code
def yX9_back : MethodName := ⟨RX9, "back", "()I"⟩
abbrev cX9_feed : ByteArray := prog_11_method_62_code
def yX9_feed : MethodName := ⟨RX9, "feed", "(I)I"⟩
abbrev cX9_wipe : ByteArray := prog_11_method_63_code
def yX9_wipe : MethodName := ⟨RX9, "wipe", "()I"⟩
abbrev cX9_here : ByteArray := prog_11_method_64_code
def yX9_here : MethodName := ⟨RX9, "here", "()I"⟩
abbrev cX9_isFigure : ByteArray := prog_11_method_65_code
def yX9_isFigure : MethodName := ⟨RX9, "isFigure", "()Z"⟩
abbrev cX9_want : ByteArray := prog_11_method_66_code
def yX9_want : MethodName := ⟨RX9, "want", "(I)V"⟩
abbrev cX9_number : ByteArray := prog_11_method_67_code
def yX9_number : MethodName := ⟨RX9, "number", "(Z)I"⟩
abbrev cX9_readAct : ByteArray := prog_11_method_68_code
def yX9_readAct : MethodName := ⟨RX9, "readAct", "()V"⟩
abbrev cX9_isDone : ByteArray := prog_11_method_69_code
def yX9_isDone : MethodName := ⟨RX9, "isDone", "(I)Z"⟩
abbrev cX9_read : ByteArray := prog_11_method_70_code
def yX9_read : MethodName := ⟨RX9, "read", "()I"⟩
abbrev cX9_image : ByteArray := prog_11_method_71_code
def yX9_image : MethodName := ⟨RX9, "image", "()I"⟩
abbrev cX9_undo : ByteArray := prog_11_method_72_code
def yX9_undo : MethodName := ⟨RX9, "undo", "()I"⟩
abbrev cX9_count : ByteArray := prog_11_method_73_code
def yX9_count : MethodName := ⟨RX9, "count", "(I)I"⟩
def RJ9 : String := "java/lang/Math"
def TJ9 : u_T := fun k => match k with
  | _ => ("", "", "", false)
def tyJ9 : Nat → FieldType := fun k => match k with
  | _ => .int
abbrev cJ9_abs_0f7a4 : ByteArray := prog_12_method_59_code
def yJ9_abs_0f7a4 : MethodName := ⟨RJ9, "abs", "(I)I"⟩
abbrev cJ9_max_7cf53 : ByteArray := prog_12_method_65_code
def yJ9_max_7cf53 : MethodName := ⟨RJ9, "max", "(II)I"⟩
abbrev cJ9_min_7cf53 : ByteArray := prog_12_method_69_code
def yJ9_min_7cf53 : MethodName := ⟨RJ9, "min", "(II)I"⟩
def RJ10 : String := "java/lang/System"
def TJ10 : u_T := fun k => match k with
  | _ => ("", "", "", false)
def tyJ10 : Nat → FieldType := fun k => match k with
  | _ => .int
def RJ7 : String := "java/util/Arrays"
def TJ7 : u_T := fun k => match k with
  | _ => ("", "", "", false)
def tyJ7 : Nat → FieldType := fun k => match k with
  | _ => .int
abbrev cJ7_fill_53178 : ByteArray := prog_14_method_103_code
def yJ7_fill_53178 : MethodName := ⟨RJ7, "fill", "([II)V"⟩
def RL : String := "YarnPlierLaw"
abbrev cL_law : ByteArray := code
def yL_law : MethodName := ⟨RL, "law", "([I)Z"⟩
abbrev vwCl : List vw_C := [(RX0, TX0, 3), (RX1, TX1, 2), (RX2, TX2, 3), (RX3, TX3, 2), (RX4, TX4, 3), (RX5, TX5, 6), (RX6, TX6, 8), (RX7, TX7, 3), (RX8, TX8, 13), (RX9, TX9, 58)]
abbrev mX0_init : MethodName × ByteArray × Nat × Option FieldType := (yX0_init, cX0_init, 1, none)
abbrev mX0_empty : MethodName × ByteArray × Nat × Option FieldType := (yX0_empty, cX0_empty, 1, none)
abbrev mX0_copy : MethodName × ByteArray × Nat × Option FieldType := (yX0_copy, cX0_copy, 2, none)
abbrev mX1_init : MethodName × ByteArray × Nat × Option FieldType := (yX1_init, cX1_init, 2, none)
abbrev mX1_isFull : MethodName × ByteArray × Nat × Option FieldType := (yX1_isFull, cX1_isFull, 1, some .boolean)
abbrev mX1_at : MethodName × ByteArray × Nat × Option FieldType := (yX1_at, cX1_at, 3, some .int)
abbrev mX1_add : MethodName × ByteArray × Nat × Option FieldType := (yX1_add, cX1_add, 4, none)
abbrev mX1_drop : MethodName × ByteArray × Nat × Option FieldType := (yX1_drop, cX1_drop, 2, none)
abbrev mX1_reverse : MethodName × ByteArray × Nat × Option FieldType := (yX1_reverse, cX1_reverse, 5, none)
abbrev mX1_empty : MethodName × ByteArray × Nat × Option FieldType := (yX1_empty, cX1_empty, 1, none)
abbrev mX1_copy : MethodName × ByteArray × Nat × Option FieldType := (yX1_copy, cX1_copy, 2, none)
abbrev mX2_init : MethodName × ByteArray × Nat × Option FieldType := (yX2_init, cX2_init, 1, none)
abbrev mX2_lead : MethodName × ByteArray × Nat × Option FieldType := (yX2_lead, cX2_lead, 7, some .boolean)
abbrev mX2_turnOf : MethodName × ByteArray × Nat × Option FieldType := (yX2_turnOf, cX2_turnOf, 4, some .int)
abbrev mX2_byOf : MethodName × ByteArray × Nat × Option FieldType := (yX2_byOf, cX2_byOf, 5, some .long)
abbrev mX2_wholeOf : MethodName × ByteArray × Nat × Option FieldType := (yX2_wholeOf, cX2_wholeOf, 4, some .long)
abbrev mX2_needsFor : MethodName × ByteArray × Nat × Option FieldType := (yX2_needsFor, cX2_needsFor, 5, some .int)
abbrev mX3_init : MethodName × ByteArray × Nat × Option FieldType := (yX3_init, cX3_init, 1, none)
abbrev mX3_has : MethodName × ByteArray × Nat × Option FieldType := (yX3_has, cX3_has, 2, some .boolean)
abbrev mX3_isMissing : MethodName × ByteArray × Nat × Option FieldType := (yX3_isMissing, cX3_isMissing, 2, some .boolean)
abbrev mX3_sizeOf : MethodName × ByteArray × Nat × Option FieldType := (yX3_sizeOf, cX3_sizeOf, 2, some .int)
abbrev mX3_hasPlace : MethodName × ByteArray × Nat × Option FieldType := (yX3_hasPlace, cX3_hasPlace, 3, some .boolean)
abbrev mX3_placeAt : MethodName × ByteArray × Nat × Option FieldType := (yX3_placeAt, cX3_placeAt, 3, some .int)
abbrev mX3_write : MethodName × ByteArray × Nat × Option FieldType := (yX3_write, cX3_write, 4, none)
abbrev mX3_renew : MethodName × ByteArray × Nat × Option FieldType := (yX3_renew, cX3_renew, 4, none)
abbrev mX4_init : MethodName × ByteArray × Nat × Option FieldType := (yX4_init, cX4_init, 1, none)
abbrev mX4_behind : MethodName × ByteArray × Nat × Option FieldType := (yX4_behind, cX4_behind, 4, some .int)
abbrev mX4_worstBehind : MethodName × ByteArray × Nat × Option FieldType := (yX4_worstBehind, cX4_worstBehind, 4, some .int)
abbrev mX4_bestToTurn : MethodName × ByteArray × Nat × Option FieldType := (yX4_bestToTurn, cX4_bestToTurn, 5, some .int)
abbrev mX4_findReaches : MethodName × ByteArray × Nat × Option FieldType := (yX4_findReaches, cX4_findReaches, 6, none)
abbrev mX4_leastWorst : MethodName × ByteArray × Nat × Option FieldType := (yX4_leastWorst, cX4_leastWorst, 1, some .int)
abbrev mX4_inBestOrder : MethodName × ByteArray × Nat × Option FieldType := (yX4_inBestOrder, cX4_inBestOrder, 5, some .int)
abbrev mX4_isBest : MethodName × ByteArray × Nat × Option FieldType := (yX4_isBest, cX4_isBest, 3, some .boolean)
abbrev mX5_init : MethodName × ByteArray × Nat × Option FieldType := (yX5_init, cX5_init, 1, none)
abbrev mX5_add : MethodName × ByteArray × Nat × Option FieldType := (yX5_add, cX5_add, 2, some .boolean)
abbrev mX5_rewind : MethodName × ByteArray × Nat × Option FieldType := (yX5_rewind, cX5_rewind, 1, none)
abbrev mX5_firstFault : MethodName × ByteArray × Nat × Option FieldType := (yX5_firstFault, cX5_firstFault, 2, some .int)
abbrev mX5_takeAct : MethodName × ByteArray × Nat × Option FieldType := (yX5_takeAct, cX5_takeAct, 1, some .boolean)
abbrev mX5_lastNumber : MethodName × ByteArray × Nat × Option FieldType := (yX5_lastNumber, cX5_lastNumber, 1, some .int)
abbrev mX5_takeSign : MethodName × ByteArray × Nat × Option FieldType := (yX5_takeSign, cX5_takeSign, 2, some .boolean)
abbrev mX5_takeParts : MethodName × ByteArray × Nat × Option FieldType := (yX5_takeParts, cX5_takeParts, 2, some .boolean)
abbrev mX5_takeTwist : MethodName × ByteArray × Nat × Option FieldType := (yX5_takeTwist, cX5_takeTwist, 2, some .boolean)
abbrev mX5_takeNumber : MethodName × ByteArray × Nat × Option FieldType := (yX5_takeNumber, cX5_takeNumber, 3, some .boolean)
abbrev mX6_init : MethodName × ByteArray × Nat × Option FieldType := (yX6_init, cX6_init, 1, none)
abbrev mX6_walk : MethodName × ByteArray × Nat × Option FieldType := (yX6_walk, cX6_walk, 5, none)
abbrev mX6_addParts : MethodName × ByteArray × Nat × Option FieldType := (yX6_addParts, cX6_addParts, 9, none)
abbrev mX6_addPlace : MethodName × ByteArray × Nat × Option FieldType := (yX6_addPlace, cX6_addPlace, 5, none)
abbrev mX6_torqueBy : MethodName × ByteArray × Nat × Option FieldType := (yX6_torqueBy, cX6_torqueBy, 3, some .int)
abbrev mX6_torqueWithout : MethodName × ByteArray × Nat × Option FieldType := (yX6_torqueWithout, cX6_torqueWithout, 10, some .int)
abbrev mX6_pullsOf : MethodName × ByteArray × Nat × Option FieldType := (yX6_pullsOf, cX6_pullsOf, 7, some .int)
abbrev mX6_turnBy : MethodName × ByteArray × Nat × Option FieldType := (yX6_turnBy, cX6_turnBy, 3, some .int)
abbrev mX6_countFibres : MethodName × ByteArray × Nat × Option FieldType := (yX6_countFibres, cX6_countFibres, 5, none)
abbrev mX6_draw : MethodName × ByteArray × Nat × Option FieldType := (yX6_draw, cX6_draw, 5, none)
abbrev mX6_heavyOf : MethodName × ByteArray × Nat × Option FieldType := (yX6_heavyOf, cX6_heavyOf, 4, some .int)
abbrev mX6_isInStock : MethodName × ByteArray × Nat × Option FieldType := (yX6_isInStock, cX6_isInStock, 3, some .boolean)
abbrev mX6_takeFromStock : MethodName × ByteArray × Nat × Option FieldType := (yX6_takeFromStock, cX6_takeFromStock, 3, none)
abbrev mX7_init : MethodName × ByteArray × Nat × Option FieldType := (yX7_init, cX7_init, 1, none)
abbrev mX7_has : MethodName × ByteArray × Nat × Option FieldType := (yX7_has, cX7_has, 2, some .boolean)
abbrev mX7_isThread : MethodName × ByteArray × Nat × Option FieldType := (yX7_isThread, cX7_isThread, 2, some .boolean)
abbrev mX7_isInside : MethodName × ByteArray × Nat × Option FieldType := (yX7_isInside, cX7_isInside, 3, some .boolean)
abbrev mX7_canBePart : MethodName × ByteArray × Nat × Option FieldType := (yX7_canBePart, cX7_canBePart, 2, some .boolean)
abbrev mX7_fact : MethodName × ByteArray × Nat × Option FieldType := (yX7_fact, cX7_fact, 3, some .int)
abbrev mX7_write : MethodName × ByteArray × Nat × Option FieldType := (yX7_write, cX7_write, 4, none)
abbrev mX7_partAt : MethodName × ByteArray × Nat × Option FieldType := (yX7_partAt, cX7_partAt, 3, some .int)
abbrev mX7_by : MethodName × ByteArray × Nat × Option FieldType := (yX7_by, cX7_by, 2, some .int)
abbrev mX7_addThread : MethodName × ByteArray × Nat × Option FieldType := (yX7_addThread, cX7_addThread, 5, some .int)
abbrev mX7_addPlied : MethodName × ByteArray × Nat × Option FieldType := (yX7_addPlied, cX7_addPlied, 5, some .int)
abbrev mX7_join : MethodName × ByteArray × Nat × Option FieldType := (yX7_join, cX7_join, 9, none)
abbrev mX7_tell : MethodName × ByteArray × Nat × Option FieldType := (yX7_tell, cX7_tell, 5, some .int)
abbrev mX7_copy : MethodName × ByteArray × Nat × Option FieldType := (yX7_copy, cX7_copy, 2, none)
abbrev mX8_init : MethodName × ByteArray × Nat × Option FieldType := (yX8_init, cX8_init, 1, none)
abbrev mX8_thread : MethodName × ByteArray × Nat × Option FieldType := (yX8_thread, cX8_thread, 4, some .int)
abbrev mX8_part : MethodName × ByteArray × Nat × Option FieldType := (yX8_part, cX8_part, 2, some .int)
abbrev mX8_ply : MethodName × ByteArray × Nat × Option FieldType := (yX8_ply, cX8_ply, 3, some .int)
abbrev mX8_clear : MethodName × ByteArray × Nat × Option FieldType := (yX8_clear, cX8_clear, 2, some .int)
abbrev mX8_set : MethodName × ByteArray × Nat × Option FieldType := (yX8_set, cX8_set, 5, some .int)
abbrev mX8_of : MethodName × ByteArray × Nat × Option FieldType := (yX8_of, cX8_of, 3, some .int)
abbrev mX8_partOf : MethodName × ByteArray × Nat × Option FieldType := (yX8_partOf, cX8_partOf, 3, some .int)
abbrev mX8_leaf : MethodName × ByteArray × Nat × Option FieldType := (yX8_leaf, cX8_leaf, 4, some .int)
abbrev mX8_torque : MethodName × ByteArray × Nat × Option FieldType := (yX8_torque, cX8_torque, 3, some .int)
abbrev mX8_tally : MethodName × ByteArray × Nat × Option FieldType := (yX8_tally, cX8_tally, 2, some .int)
abbrev mX8_kept : MethodName × ByteArray × Nat × Option FieldType := (yX8_kept, cX8_kept, 10, some .long)
abbrev mX8_needs : MethodName × ByteArray × Nat × Option FieldType := (yX8_needs, cX8_needs, 4, some .int)
abbrev mX8_heavy : MethodName × ByteArray × Nat × Option FieldType := (yX8_heavy, cX8_heavy, 3, some .int)
abbrev mX8_balance : MethodName × ByteArray × Nat × Option FieldType := (yX8_balance, cX8_balance, 9, some .int)
abbrev mX8_plan : MethodName × ByteArray × Nat × Option FieldType := (yX8_plan, cX8_plan, 9, some .int)
abbrev mX8_can : MethodName × ByteArray × Nat × Option FieldType := (yX8_can, cX8_can, 6, some .int)
abbrev mX8_alike : MethodName × ByteArray × Nat × Option FieldType := (yX8_alike, cX8_alike, 4, some .int)
abbrev mX8_inside : MethodName × ByteArray × Nat × Option FieldType := (yX8_inside, cX8_inside, 2, some .int)
abbrev mX8_make : MethodName × ByteArray × Nat × Option FieldType := (yX8_make, cX8_make, 4, some .int)
abbrev mX8_lay : MethodName × ByteArray × Nat × Option FieldType := (yX8_lay, cX8_lay, 4, some .int)
abbrev mX8_skew : MethodName × ByteArray × Nat × Option FieldType := (yX8_skew, cX8_skew, 2, some .int)
abbrev mX8_worst : MethodName × ByteArray × Nat × Option FieldType := (yX8_worst, cX8_worst, 1, some .int)
abbrev mX8_order : MethodName × ByteArray × Nat × Option FieldType := (yX8_order, cX8_order, 2, some .int)
abbrev mX8_turned : MethodName × ByteArray × Nat × Option FieldType := (yX8_turned, cX8_turned, 1, some .int)
abbrev mX8_fits : MethodName × ByteArray × Nat × Option FieldType := (yX8_fits, cX8_fits, 10, some .int)
abbrev mX8_job : MethodName × ByteArray × Nat × Option FieldType := (yX8_job, cX8_job, 3, some .int)
abbrev mX8_do1 : MethodName × ByteArray × Nat × Option FieldType := (yX8_do1, cX8_do1, 2, some .int)
abbrev mX8_strike : MethodName × ByteArray × Nat × Option FieldType := (yX8_strike, cX8_strike, 4, some .int)
abbrev mX8_about : MethodName × ByteArray × Nat × Option FieldType := (yX8_about, cX8_about, 1, some .int)
abbrev mX8_jobOf : MethodName × ByteArray × Nat × Option FieldType := (yX8_jobOf, cX8_jobOf, 3, some .int)
abbrev mX8_back : MethodName × ByteArray × Nat × Option FieldType := (yX8_back, cX8_back, 2, some .int)
abbrev mX8_feed : MethodName × ByteArray × Nat × Option FieldType := (yX8_feed, cX8_feed, 2, some .int)
abbrev mX8_wipe : MethodName × ByteArray × Nat × Option FieldType := (yX8_wipe, cX8_wipe, 2, some .int)
abbrev mX8_read : MethodName × ByteArray × Nat × Option FieldType := (yX8_read, cX8_read, 3, some .int)
abbrev mX8_row : MethodName × ByteArray × Nat × Option FieldType := (yX8_row, cX8_row, 3, some .int)
abbrev mX8_put : MethodName × ByteArray × Nat × Option FieldType := (yX8_put, cX8_put, 4, some .int)
abbrev mX8_get : MethodName × ByteArray × Nat × Option FieldType := (yX8_get, cX8_get, 3, some .int)
abbrev mX8_film : MethodName × ByteArray × Nat × Option FieldType := (yX8_film, cX8_film, 6, some .int)
abbrev mX8_image : MethodName × ByteArray × Nat × Option FieldType := (yX8_image, cX8_image, 1, some .int)
abbrev mX8_undo : MethodName × ByteArray × Nat × Option FieldType := (yX8_undo, cX8_undo, 1, some .int)
abbrev mX8_count : MethodName × ByteArray × Nat × Option FieldType := (yX8_count, cX8_count, 2, some .int)
abbrev mX8_torqueOf : MethodName × ByteArray × Nat × Option FieldType := (yX8_torqueOf, cX8_torqueOf, 2, some .int)
abbrev mX8_countBalanced : MethodName × ByteArray × Nat × Option FieldType := (yX8_countBalanced, cX8_countBalanced, 3, some .int)
abbrev mX8_weighLayers : MethodName × ByteArray × Nat × Option FieldType := (yX8_weighLayers, cX8_weighLayers, 4, none)
abbrev mX8_makeYards : MethodName × ByteArray × Nat × Option FieldType := (yX8_makeYards, cX8_makeYards, 4, some .int)
abbrev mX8_fittingFibres : MethodName × ByteArray × Nat × Option FieldType := (yX8_fittingFibres, cX8_fittingFibres, 5, some .int)
abbrev mX8_fittingWeights : MethodName × ByteArray × Nat × Option FieldType := (yX8_fittingWeights, cX8_fittingWeights, 7, some .int)
abbrev mX8_isFitting : MethodName × ByteArray × Nat × Option FieldType := (yX8_isFitting, cX8_isFitting, 6, some .boolean)
abbrev mX8_doActs : MethodName × ByteArray × Nat × Option FieldType := (yX8_doActs, cX8_doActs, 3, some .int)
abbrev mX8_doAct : MethodName × ByteArray × Nat × Option FieldType := (yX8_doAct, cX8_doAct, 2, some .boolean)
abbrev mX8_inRange : MethodName × ByteArray × Nat × Option FieldType := (yX8_inRange, cX8_inRange, 3, some .boolean)
abbrev mX8_canBeTold : MethodName × ByteArray × Nat × Option FieldType := (yX8_canBeTold, cX8_canBeTold, 2, some .boolean)
abbrev mX8_cutUp : MethodName × ByteArray × Nat × Option FieldType := (yX8_cutUp, cX8_cutUp, 2, some .int)
abbrev mX8_byOfPlied : MethodName × ByteArray × Nat × Option FieldType := (yX8_byOfPlied, cX8_byOfPlied, 2, some .int)
abbrev mX8_plannedHeavy : MethodName × ByteArray × Nat × Option FieldType := (yX8_plannedHeavy, cX8_plannedHeavy, 3, some .int)
abbrev mX8_fibrePull : MethodName × ByteArray × Nat × Option FieldType := (yX8_fibrePull, cX8_fibrePull, 3, some .int)
abbrev mX8_beyondEase : MethodName × ByteArray × Nat × Option FieldType := (yX8_beyondEase, cX8_beyondEase, 1, some .int)
abbrev mX8_commonDivisor : MethodName × ByteArray × Nat × Option FieldType := (yX8_commonDivisor, cX8_commonDivisor, 11, some .long)
abbrev mX8_areAlike : MethodName × ByteArray × Nat × Option FieldType := (yX8_areAlike, cX8_areAlike, 7, some .boolean)
abbrev mX9_init : MethodName × ByteArray × Nat × Option FieldType := (yX9_init, cX9_init, 1, none)
abbrev mX9_in : MethodName × ByteArray × Nat × Option FieldType := (yX9_in, cX9_in, 3, some .boolean)
abbrev mX9_isYarn : MethodName × ByteArray × Nat × Option FieldType := (yX9_isYarn, cX9_isYarn, 2, some .boolean)
abbrev mX9_isThread : MethodName × ByteArray × Nat × Option FieldType := (yX9_isThread, cX9_isThread, 2, some .boolean)
abbrev mX9_sizeOf : MethodName × ByteArray × Nat × Option FieldType := (yX9_sizeOf, cX9_sizeOf, 1, some .int)
abbrev mX9_depthOf : MethodName × ByteArray × Nat × Option FieldType := (yX9_depthOf, cX9_depthOf, 5, some .int)
abbrev mX9_bitsOf : MethodName × ByteArray × Nat × Option FieldType := (yX9_bitsOf, cX9_bitsOf, 4, some .int)
abbrev mX9_isIn : MethodName × ByteArray × Nat × Option FieldType := (yX9_isIn, cX9_isIn, 3, some .boolean)
abbrev mX9_pull : MethodName × ByteArray × Nat × Option FieldType := (yX9_pull, cX9_pull, 4, some .int)
abbrev mX9_torqueIn : MethodName × ByteArray × Nat × Option FieldType := (yX9_torqueIn, cX9_torqueIn, 6, some .int)
abbrev mX9_torqueOf : MethodName × ByteArray × Nat × Option FieldType := (yX9_torqueOf, cX9_torqueOf, 2, some .int)
abbrev mX9_tallyIn : MethodName × ByteArray × Nat × Option FieldType := (yX9_tallyIn, cX9_tallyIn, 3, none)
abbrev mX9_byOf : MethodName × ByteArray × Nat × Option FieldType := (yX9_byOf, cX9_byOf, 2, some .int)
abbrev mX9_walk : MethodName × ByteArray × Nat × Option FieldType := (yX9_walk, cX9_walk, 12, none)
abbrev mX9_walkOver : MethodName × ByteArray × Nat × Option FieldType := (yX9_walkOver, cX9_walkOver, 3, none)
abbrev mX9_heavyOf : MethodName × ByteArray × Nat × Option FieldType := (yX9_heavyOf, cX9_heavyOf, 5, some .int)
abbrev mX9_common : MethodName × ByteArray × Nat × Option FieldType := (yX9_common, cX9_common, 10, some .long)
abbrev mX9_lacks : MethodName × ByteArray × Nat × Option FieldType := (yX9_lacks, cX9_lacks, 5, some .boolean)
abbrev mX9_isMade : MethodName × ByteArray × Nat × Option FieldType := (yX9_isMade, cX9_isMade, 4, some .boolean)
abbrev mX9_thread : MethodName × ByteArray × Nat × Option FieldType := (yX9_thread, cX9_thread, 4, some .int)
abbrev mX9_part : MethodName × ByteArray × Nat × Option FieldType := (yX9_part, cX9_part, 2, some .int)
abbrev mX9_ply : MethodName × ByteArray × Nat × Option FieldType := (yX9_ply, cX9_ply, 3, some .int)
abbrev mX9_plied : MethodName × ByteArray × Nat × Option FieldType := (yX9_plied, cX9_plied, 3, some .int)
abbrev mX9_clear : MethodName × ByteArray × Nat × Option FieldType := (yX9_clear, cX9_clear, 2, some .int)
abbrev mX9_toldOf : MethodName × ByteArray × Nat × Option FieldType := (yX9_toldOf, cX9_toldOf, 3, some .int)
abbrev mX9_become : MethodName × ByteArray × Nat × Option FieldType := (yX9_become, cX9_become, 4, none)
abbrev mX9_set : MethodName × ByteArray × Nat × Option FieldType := (yX9_set, cX9_set, 8, some .int)
abbrev mX9_of : MethodName × ByteArray × Nat × Option FieldType := (yX9_of, cX9_of, 3, some .int)
abbrev mX9_partOf : MethodName × ByteArray × Nat × Option FieldType := (yX9_partOf, cX9_partOf, 3, some .int)
abbrev mX9_leaf : MethodName × ByteArray × Nat × Option FieldType := (yX9_leaf, cX9_leaf, 4, some .int)
abbrev mX9_torque : MethodName × ByteArray × Nat × Option FieldType := (yX9_torque, cX9_torque, 3, some .int)
abbrev mX9_tally : MethodName × ByteArray × Nat × Option FieldType := (yX9_tally, cX9_tally, 2, some .int)
abbrev mX9_kept : MethodName × ByteArray × Nat × Option FieldType := (yX9_kept, cX9_kept, 6, some .long)
abbrev mX9_needs : MethodName × ByteArray × Nat × Option FieldType := (yX9_needs, cX9_needs, 4, some .int)
abbrev mX9_heavy : MethodName × ByteArray × Nat × Option FieldType := (yX9_heavy, cX9_heavy, 3, some .int)
abbrev mX9_balance : MethodName × ByteArray × Nat × Option FieldType := (yX9_balance, cX9_balance, 10, some .int)
abbrev mX9_plan : MethodName × ByteArray × Nat × Option FieldType := (yX9_plan, cX9_plan, 11, some .int)
abbrev mX9_can : MethodName × ByteArray × Nat × Option FieldType := (yX9_can, cX9_can, 5, some .int)
abbrev mX9_areAlike : MethodName × ByteArray × Nat × Option FieldType := (yX9_areAlike, cX9_areAlike, 5, some .boolean)
abbrev mX9_alike : MethodName × ByteArray × Nat × Option FieldType := (yX9_alike, cX9_alike, 4, some .int)
abbrev mX9_inside : MethodName × ByteArray × Nat × Option FieldType := (yX9_inside, cX9_inside, 2, some .int)
abbrev mX9_make : MethodName × ByteArray × Nat × Option FieldType := (yX9_make, cX9_make, 3, some .int)
abbrev mX9_lay : MethodName × ByteArray × Nat × Option FieldType := (yX9_lay, cX9_lay, 4, some .int)
abbrev mX9_skewOf : MethodName × ByteArray × Nat × Option FieldType := (yX9_skewOf, cX9_skewOf, 3, some .int)
abbrev mX9_skew : MethodName × ByteArray × Nat × Option FieldType := (yX9_skew, cX9_skew, 4, some .int)
abbrev mX9_worst : MethodName × ByteArray × Nat × Option FieldType := (yX9_worst, cX9_worst, 4, some .int)
abbrev mX9_arrange : MethodName × ByteArray × Nat × Option FieldType := (yX9_arrange, cX9_arrange, 7, none)
abbrev mX9_order : MethodName × ByteArray × Nat × Option FieldType := (yX9_order, cX9_order, 3, some .int)
abbrev mX9_turned : MethodName × ByteArray × Nat × Option FieldType := (yX9_turned, cX9_turned, 5, some .int)
abbrev mX9_isTold : MethodName × ByteArray × Nat × Option FieldType := (yX9_isTold, cX9_isTold, 8, some .boolean)
abbrev mX9_fits : MethodName × ByteArray × Nat × Option FieldType := (yX9_fits, cX9_fits, 12, some .int)
abbrev mX9_row : MethodName × ByteArray × Nat × Option FieldType := (yX9_row, cX9_row, 4, some .int)
abbrev mX9_put : MethodName × ByteArray × Nat × Option FieldType := (yX9_put, cX9_put, 4, some .int)
abbrev mX9_get : MethodName × ByteArray × Nat × Option FieldType := (yX9_get, cX9_get, 3, some .int)
abbrev mX9_film : MethodName × ByteArray × Nat × Option FieldType := (yX9_film, cX9_film, 7, some .int)
abbrev mX9_job : MethodName × ByteArray × Nat × Option FieldType := (yX9_job, cX9_job, 3, some .int)
abbrev mX9_do1 : MethodName × ByteArray × Nat × Option FieldType := (yX9_do1, cX9_do1, 2, some .int)
abbrev mX9_strike : MethodName × ByteArray × Nat × Option FieldType := (yX9_strike, cX9_strike, 4, some .int)
abbrev mX9_about : MethodName × ByteArray × Nat × Option FieldType := (yX9_about, cX9_about, 4, some .int)
abbrev mX9_jobOf : MethodName × ByteArray × Nat × Option FieldType := (yX9_jobOf, cX9_jobOf, 3, some .int)
abbrev mX9_back : MethodName × ByteArray × Nat × Option FieldType := (yX9_back, cX9_back, 1, some .int)
abbrev mX9_feed : MethodName × ByteArray × Nat × Option FieldType := (yX9_feed, cX9_feed, 2, some .int)
abbrev mX9_wipe : MethodName × ByteArray × Nat × Option FieldType := (yX9_wipe, cX9_wipe, 2, some .int)
abbrev mX9_here : MethodName × ByteArray × Nat × Option FieldType := (yX9_here, cX9_here, 1, some .int)
abbrev mX9_isFigure : MethodName × ByteArray × Nat × Option FieldType := (yX9_isFigure, cX9_isFigure, 1, some .boolean)
abbrev mX9_want : MethodName × ByteArray × Nat × Option FieldType := (yX9_want, cX9_want, 2, none)
abbrev mX9_number : MethodName × ByteArray × Nat × Option FieldType := (yX9_number, cX9_number, 5, some .int)
abbrev mX9_readAct : MethodName × ByteArray × Nat × Option FieldType := (yX9_readAct, cX9_readAct, 4, none)
abbrev mX9_isDone : MethodName × ByteArray × Nat × Option FieldType := (yX9_isDone, cX9_isDone, 7, some .boolean)
abbrev mX9_read : MethodName × ByteArray × Nat × Option FieldType := (yX9_read, cX9_read, 2, some .int)
abbrev mX9_image : MethodName × ByteArray × Nat × Option FieldType := (yX9_image, cX9_image, 3, some .int)
abbrev mX9_undo : MethodName × ByteArray × Nat × Option FieldType := (yX9_undo, cX9_undo, 3, some .int)
abbrev mX9_count : MethodName × ByteArray × Nat × Option FieldType := (yX9_count, cX9_count, 4, some .int)
abbrev mJ9_abs_0f7a4 : MethodName × ByteArray × Nat × Option FieldType := (yJ9_abs_0f7a4, cJ9_abs_0f7a4, 1, some .int)
abbrev mJ9_max_7cf53 : MethodName × ByteArray × Nat × Option FieldType := (yJ9_max_7cf53, cJ9_max_7cf53, 2, some .int)
abbrev mJ9_min_7cf53 : MethodName × ByteArray × Nat × Option FieldType := (yJ9_min_7cf53, cJ9_min_7cf53, 2, some .int)
abbrev mJ7_fill_53178 : MethodName × ByteArray × Nat × Option FieldType := (yJ7_fill_53178, cJ7_fill_53178, 4, none)
def zz_nw : List (String × Nat × MethodName × String) := [("YarnPlier", 11, ⟨"YarnPlier$Bench", "<init>", "()V"⟩, "YarnPlier"), ("YarnPlier$Bench", 11, ⟨"YarnPlier$Yarns", "<init>", "()V"⟩, "YarnPlier"), ("YarnPlier", 39, ⟨"YarnPlier$Rows", "<init>", "()V"⟩, "YarnPlier"), ("YarnPlier", 46, ⟨"YarnPlier$Tape", "<init>", "()V"⟩, "YarnPlier"), ("YarnPlier", 53, ⟨"YarnPlier$Within", "<init>", "()V"⟩, "YarnPlier"), ("YarnPlier", 60, ⟨"YarnPlier$Path", "<init>", "()V"⟩, "YarnPlier"), ("YarnPlier", 67, ⟨"YarnPlier$Skews", "<init>", "()V"⟩, "YarnPlier"), ("YarnPlier$Yarns", 33, ⟨"YarnPlier", "canBeTold", "(II)Z"⟩, "YarnPlier"), ("YarnPlier$Yarns", 41, ⟨"YarnPlier", "inRange", "(III)Z"⟩, "YarnPlier"), ("YarnPlier$Yarns", 30, ⟨"YarnPlier", "byOfPlied", "(II)I"⟩, "YarnPlier"), ("YarnPlier$Within", 62, ⟨"YarnPlier", "fibrePull", "(III)I"⟩, "YarnPlier"), ("YarnPlier$Path", 44, ⟨"YarnPlier", "cutUp", "(II)I"⟩, "YarnPlier"), ("YarnPlier$Within", 76, ⟨"YarnPlier", "cutUp", "(II)I"⟩, "YarnPlier")]
end
section
/-! the words that every method may use; the worlds; the judgement zz_G and its rules -/
def yw : List Cond := lw_tbl.filter goodWord
theorem yw_mem {w : Cond} (h : w ∈ lw_tbl) (hg : goodWord w = true) : w ∈ yw := List.mem_filter.mpr ⟨h, hg⟩
theorem yw_t {w : Cond} (i : Nat) (h : tables_1[i]? = some w) (hg : goodWord w = true) : w ∈ yw := yw_mem (List.mem_append_right _ (List.mem_of_getElem? h)) hg
theorem yw_s {w : Cond} (i : Nat) (h : (k2_sels lw_privs)[i]? = some w) (hg : goodWord w = true) : w ∈ yw := yw_mem (List.mem_append_left _ (List.mem_of_getElem? h)) hg
theorem yw_good : GoodIn yw yw := fun _ h => ⟨h, good_of_word (List.mem_filter.mp h).2⟩
abbrev zz_Hp : Type := (Nat → Nat → Int32) × (Nat → Nat → Int64)
abbrev zz_Kd : Type := Nat → (Nat × List (Option Nat)) ⊕ (Nat × Nat)
abbrev zz_Fx : Type := va_G × (Nat → ClassId) × (Nat → Nat)
abbrev zz_Mi : Type := MethodName × ByteArray × Nat × Option FieldType
abbrev zz_L : Type := List (Option Value)
def zz_v (X : zz_Fx) : Value → Value
  | .ref k => .ref (X.2.2 k)
  | v => v
theorem zz_v_cat (X : zz_Fx) (v : Value) : (zz_v X v).category = v.category := by cases v <;> rfl
def zz_fv (X : zz_Fx) (h : zz_Hp) (k j : Nat) (f : Option Nat) : Value := match f with
  | none => .int (h.1 k j)
  | some t => .ref (X.2.2 t)
def zz_fs (X : zz_Fx) (h : zz_Hp) (k : Nat) (fs : List (Option Nat)) : List Value := fs.mapIdx (zz_fv X h k)
def zz_ex (X : zz_Fx) (h : zz_Hp) (k : Nat) (q : (Nat × List (Option Nat)) ⊕ (Nat × Nat)) : va_E := match q with
  | .inl q => .inr (q.1, zz_fs X h k q.2)
  | .inr q => .inl (X.2.1 q.1, q.2, if q.1 = 3 then .inr (.inl (h.2 k)) else .inl (h.1 k))
def zz_e (X : zz_Fx) (K : zz_Kd) (h : zz_Hp) (k : Nat) : va_E := zz_ex X h k (K k)
def zz_w (X : zz_Fx) (K : zz_Kd) (N : Nat) (h : zz_Hp) : va_W := (List.range N).map fun k => (X.2.2 k, zz_e X K h k)
def zz_A (X : zz_Fx) (N : Nat) : Nat → Prop := fun q => ∃ k, k < N ∧ q = X.2.2 k
def zz_ty (X : zz_Fx) : List (ClassId × FieldType) := [(X.2.1 0, .int), (X.2.1 1, .byte), (X.2.1 2, .boolean), (X.2.1 3, .long)]
def zz_uI (h : zz_Hp) (o j : Nat) (v : Int32) : zz_Hp := (fun k i => if k = o ∧ i = j then v else h.1 k i, h.2)
def zz_uL (h : zz_Hp) (o j : Nat) (v : Int64) : zz_Hp := (h.1, fun k i => if k = o ∧ i = j then v else h.2 k i)
def zz_uC (h : zz_Hp) (a b sp dp n : Nat) : zz_Hp := (fun k i => if k = b then va_cpy (h.1 a) (h.1 b) sp dp n i else h.1 k i, h.2)
theorem zz_at {X : zz_Fx} {K : zz_Kd} {N : Nat} {h : zz_Hp} {k : Nat} (hk : k < N) : (zz_w X K N h)[k]? = some (X.2.2 k, zz_e X K h k) := by
  simp [zz_w, hk]
theorem zz_set {X : zz_Fx} {K : zz_Kd} {N : Nat} {h h' : zz_Hp} {o : Nat} {E : va_E} (hE : E = zz_e X K h' o) (ho : ∀ k, k ≠ o → zz_e X K h k = zz_e X K h' k) : (zz_w X K N h).set o (X.2.2 o, E) = zz_w X K N h' := by
  apply List.ext_getElem?
  intro k
  by_cases hk : k = o
  · subst hk
    by_cases hl : k < N
    · rw [zz_at hl, List.getElem?_set_self (by simpa [zz_w] using hl), hE]
    · rw [List.getElem?_eq_none (by simpa [zz_w] using hl), List.getElem?_eq_none (by simpa [zz_w] using hl)]
  · rw [List.getElem?_set_ne (fun q => hk q.symm)]
    by_cases hl : k < N
    · rw [zz_at hl, zz_at hl, ho k hk]
    · rw [List.getElem?_eq_none (by simpa [zz_w] using hl), List.getElem?_eq_none (by simpa [zz_w] using hl)]
theorem zz_fs_ne {X : zz_Fx} {h h' : zz_Hp} {k : Nat} {fs : List (Option Nat)} (e : ∀ j, h.1 k j = h'.1 k j) : zz_fs X h k fs = zz_fs X h' k fs := by
  unfold zz_fs
  congr 1
  funext j f
  cases f with
  | none => simp only [zz_fv, e]
  | some t => rfl
theorem zz_ex_ne {X : zz_Fx} {h h' : zz_Hp} {k : Nat} (q : (Nat × List (Option Nat)) ⊕ (Nat × Nat)) (e : ∀ j, h.1 k j = h'.1 k j) (e2 : ∀ j, h.2 k j = h'.2 k j) : zz_ex X h k q = zz_ex X h' k q := by
  cases q with
  | inl q => simp only [zz_ex, zz_fs_ne (X := X) e]
  | inr q => simp only [zz_ex, (funext e : h.1 k = h'.1 k), (funext e2 : h.2 k = h'.2 k)]
theorem zz_uI_ne {X : zz_Fx} {K : zz_Kd} {h : zz_Hp} {o j : Nat} {v : Int32} {k : Nat} (hk : k ≠ o) : zz_e X K h k = zz_e X K (zz_uI h o j v) k :=
  zz_ex_ne _ (fun i => by simp [zz_uI, hk]) (fun _ => rfl)
theorem zz_uL_ne {X : zz_Fx} {K : zz_Kd} {h : zz_Hp} {o j : Nat} {v : Int64} {k : Nat} (hk : k ≠ o) : zz_e X K h k = zz_e X K (zz_uL h o j v) k :=
  zz_ex_ne _ (fun _ => rfl) (fun i => by simp [zz_uL, hk])
theorem zz_uC_ne {X : zz_Fx} {K : zz_Kd} {h : zz_Hp} {a b sp dp n : Nat} {k : Nat} (hk : k ≠ b) : zz_e X K h k = zz_e X K (zz_uC h a b sp dp n) k :=
  zz_ex_ne _ (fun i => by simp [zz_uC, hk]) (fun _ => rfl)
/-- the statics, the array classes, the nest words -/
def zz_lt (j : Nat) : Int32 := ([-99, 1, 0, 0] : List Int32).getD j 0
def zz_mt (j : Nat) : Int32 := ([99, 99, 3, 99999] : List Int32).getD j 0
def zz_S (X : zz_Fx) (N : Nat) (s : State) : Prop := va_K X.1 vwCl (zz_ty X) s ∧ (∀ q ∈ zz_nw, va_Nw (.methodLinkNest q.1 q.2.1 q.2.2.1 q.2.2.2) s) ∧ (va_Z "YarnPlier" "LEAST_TOLD" "[I" (.ref (X.2.2 1000)) (zz_A X N) s s.heap ∧ va_T .int (X.2.2 1000) 4 (fun j => .int (zz_lt j)) (zz_A X N) s s.heap) ∧ (va_Z "YarnPlier" "MOST_TOLD" "[I" (.ref (X.2.2 1001)) (zz_A X N) s s.heap ∧ va_T .int (X.2.2 1001) 4 (fun j => .int (zz_mt j)) (zz_A X N) s s.heap)
theorem zz_S_warm {X : zz_Fx} {N : Nat} {s U : State} {H : Heap} {locs : List Loc} (h : zz_S X N s) (hU : U.heap = H) (hW : s.WarmedH U.vm) (hS : va_S (zz_A X N) s.heap H locs) : zz_S X N U := by
  obtain ⟨h1, h2, ⟨h3, h4⟩, h5, h6⟩ := h
  have kp : ∀ a : Nat, a < s.heap.size → ¬ zz_A X N a → U.heap[a]? = s.heap[a]? := fun a ha hn => by rw [hU]; exact hS.2.1 a ha hn
  exact ⟨va_K.moved hW.alike h1, fun q hq => va_Nw.warmM hW (h2 q hq), ⟨(va_Z.moved hW.alike h3).kept kp, (va_T.moved hW.alike h4).kept kp⟩, (va_Z.moved hW.alike h5).kept kp, (va_T.moved hW.alike h6).kept kp⟩
theorem zz_S_same {X : zz_Fx} {N : Nat} {s U : State} (h : zz_S X N s) (hh : U.heap = s.heap) (hv : U.vm = s.vm) : zz_S X N U := by
  obtain ⟨h1, h2, ⟨h3, h4⟩, h5, h6⟩ := h
  have ha : s.vm.Alike U.vm := by rw [hv]; exact Vm.Alike.refl _
  have kp : ∀ a : Nat, a < s.heap.size → ¬ zz_A X N a → U.heap[a]? = s.heap[a]? := fun a _ _ => by rw [hh]
  exact ⟨va_K.moved ha h1, fun q hq => va_Nw.same rfl hv.symm (h2 q hq), ⟨(va_Z.moved ha h3).kept kp, (va_T.moved ha h4).kept kp⟩, (va_Z.moved ha h5).kept kp, (va_T.moved ha h6).kept kp⟩
/-- room for d calls one in another -/
def zz_rm (d : Nat) : Room := { frames := d, cells := 0, slots := 0, locals := 64 * d }
def zz_ls (X : zz_Fx) (ls : Array Slot) (n : Nat) (L : zz_L) : Prop := L.length ≤ n ∧ ∃ lv, lv_has ls n lv ∧ ∀ i v, L[i]? = some (some v) → (i, zz_v X v) ∈ lv
theorem zz_ls.get {X : zz_Fx} {ls : Array Slot} {n : Nat} {L : zz_L} (h : zz_ls X ls n L) {i : Nat} {v : Value} (hl : L[i]? = some (some v)) : ls[i]? = some (.val (zz_v X v)) := by
  obtain ⟨-, lv, h1, h2⟩ := h
  exact h1.2.2 _ (h2 i v hl)
def zz_keep (i j : Nat) (o : Option Value) : Option Value := bif Nat.beq (j + 1) i then (match o with | some w => (match w with | .long _ => none | .double _ => none | _ => o) | none => none) else o
def zz_st1 (L : zz_L) (i : Nat) (v : Value) : zz_L := L.mapIdx fun j o => bif Nat.beq j i then some v else zz_keep i j o
def zz_st2 (L : zz_L) (i : Nat) (v : Value) : zz_L := L.mapIdx fun j o => bif Nat.beq j i then some v else bif Nat.beq j (i + 1) then none else zz_keep i j o
theorem zz_keep_some {i j : Nat} {o : Option Value} {w : Value} (h : zz_keep i j o = some w) : o = some w ∧ ¬ (j + 1 = i ∧ w.category = 2) := by
  unfold zz_keep at h
  by_cases hb : j + 1 = i
  · rw [Nat.beq_eq.mpr hb] at h
    cases o with
    | none => simp at h
    | some x =>
      cases x <;> simp at h <;> subst h <;> simp [Value.category]
  · have : Nat.beq (j + 1) i = false := by
      cases hc : Nat.beq (j + 1) i with
      | false => rfl
      | true => exact absurd (Nat.eq_of_beq_eq_true hc) hb
    rw [this] at h
    exact ⟨h, fun q => hb q.1⟩
theorem zz_beq_f {a b : Nat} (h : Nat.beq a b = false) : a ≠ b := fun e => by rw [e, Nat.beq_refl] at h; cases h
theorem zz_ls.st1 {X : zz_Fx} {ls' : Array Slot} {n : Nat} {L : zz_L} {i : Nat} {v : Value} {lv : List (Nat × Value)} (h0 : L.length ≤ n) (h2 : ∀ i v, L[i]? = some (some v) → (i, zz_v X v) ∈ lv) (h : lv_has ls' n ((i, zz_v X v) :: lv.filter (fun q => !(q.1 == i) && !(q.1 + 1 == i && q.2.category == 2)))) : zz_ls X ls' n (zz_st1 L i v) := by
  refine ⟨by simpa [zz_st1] using h0, _, h, fun j w hj => ?_⟩
  unfold zz_st1 at hj
  rw [List.getElem?_mapIdx] at hj
  cases ho : L[j]? with
  | none => rw [ho] at hj; cases hj
  | some o =>
    rw [ho] at hj
    have hj := Option.some.inj hj
    cases hb : Nat.beq j i with
    | true =>
      rw [hb] at hj
      have := Nat.eq_of_beq_eq_true hb
      subst this
      have e : v = w := Option.some.inj hj
      subst e
      exact List.mem_cons_self
    | false =>
      rw [hb] at hj
      obtain ⟨e1, e2⟩ := zz_keep_some hj
      subst e1
      refine List.mem_cons_of_mem _ (List.mem_filter.mpr ⟨h2 j w ho, ?_⟩)
      have hne := zz_beq_f hb
      simp only [Bool.and_eq_true, Bool.not_eq_true', beq_eq_false_iff_ne, ne_eq, Bool.and_eq_false_iff, zz_v_cat]
      refine ⟨hne, ?_⟩
      by_cases c : j + 1 = i
      · exact Or.inr fun q => e2 ⟨c, q⟩
      · exact Or.inl c
theorem zz_ls.st2 {X : zz_Fx} {ls' : Array Slot} {n : Nat} {L : zz_L} {i : Nat} {v : Value} {lv : List (Nat × Value)} (h0 : L.length ≤ n) (h2 : ∀ i v, L[i]? = some (some v) → (i, zz_v X v) ∈ lv) (h : lv_has ls' n ((i, zz_v X v) :: lv.filter (fun q => !(q.1 == i) && (!(q.1 == i + 1) && !(q.1 + 1 == i && q.2.category == 2))))) : zz_ls X ls' n (zz_st2 L i v) := by
  refine ⟨by simpa [zz_st2] using h0, _, h, fun j w hj => ?_⟩
  unfold zz_st2 at hj
  rw [List.getElem?_mapIdx] at hj
  cases ho : L[j]? with
  | none => rw [ho] at hj; cases hj
  | some o =>
    rw [ho] at hj
    have hj := Option.some.inj hj
    cases hb : Nat.beq j i with
    | true =>
      rw [hb] at hj
      have := Nat.eq_of_beq_eq_true hb
      subst this
      have e : v = w := Option.some.inj hj
      subst e
      exact List.mem_cons_self
    | false =>
      rw [hb] at hj
      cases hb2 : Nat.beq j (i + 1) with
      | true => rw [hb2] at hj; cases hj
      | false =>
        rw [hb2] at hj
        obtain ⟨e1, e2⟩ := zz_keep_some hj
        subst e1
        refine List.mem_cons_of_mem _ (List.mem_filter.mpr ⟨h2 j w ho, ?_⟩)
        have hne := zz_beq_f hb
        have hne2 := zz_beq_f hb2
        simp only [Bool.and_eq_true, Bool.not_eq_true', beq_eq_false_iff_ne, ne_eq, Bool.and_eq_false_iff, zz_v_cat]
        refine ⟨hne, hne2, ?_⟩
        by_cases c : j + 1 = i
        · exact Or.inr fun q => e2 ⟨c, q⟩
        · exact Or.inl c
/-- what holds of the machine while a method of ours runs -/
def zz_C (X : zz_Fx) (N d : Nat) (M : zz_Mi) (p : Program) (R : Room) (s : State) (m : MethodId) (args : Array Value) (meth : Method) (c : Code) : Prop :=
  p.tables.exec = Jvm.exec ∧ c.code = M.2.1 ∧ c.maxLocals = M.2.2.1 ∧ meth.sig.returnType = M.2.2.2 ∧ meth.locks = false ∧ s.vm.findClass M.1.cls = some m.cls ∧ (∀ w ∈ yw, w.before args s = true) ∧ zz_S X N s ∧ R = zz_rm d
def zz_Q (X : zz_Fx) (K : zz_Kd) (N : Nat) (Q : Option Value → zz_Hp → Prop) : Array Value → State → Outcome → State → Prop := fun _ st oc t =>
  ∃ (v : Option Value) (h : zz_Hp), Q v h ∧ oc = .returned (v.map (zz_v X)) ∧ va_P X.1 vwCl (zz_w X K N h) t.heap ∧ va_D (zz_A X N) (zz_w X K N h) ∧ va_F (zz_A X N) st t
/-- from pc on, with these locals, this stack, this heap, the method ends with Q -/
def zz_G (K : zz_Kd) (N d : Nat) (M : zz_Mi) (Q : Option Value → zz_Hp → Prop) (pc : Nat) (L : zz_L) (st : List Value) (h : zz_Hp) : Prop :=
  ∀ (X : zz_Fx) (p : Program) (l : Launch) (e : Env) (R : Room) (s : State) (m : MethodId) (args : Array Value) (below : List Frame) (meth : Method) (c : Code) (H : Heap) (locs : List Loc) (ls : Array Slot),
    zz_C X N d M p R s m args meth c → zz_ls X ls M.2.2.1 L → va_P X.1 vwCl (zz_w X K N h) H → va_D (zz_A X N) (zz_w X K N h) → va_S (zz_A X N) s.heap H locs →
    W p l e R s m args below meth c H locs 0 0 (MQ below (zz_Q X K N Q) args s 0 0 (zz_A X N)) (F0 m pc ls (st.map (zz_v X)))
def qI (Q : Int32 → zz_Hp → Prop) : Option Value → zz_Hp → Prop := fun v h => ∃ r, v = some (.int r) ∧ Q r h
def qL (Q : Int64 → zz_Hp → Prop) : Option Value → zz_Hp → Prop := fun v h => ∃ r, v = some (.long r) ∧ Q r h
def qV (Q : zz_Hp → Prop) : Option Value → zz_Hp → Prop := fun v h => v = none ∧ Q h
section ZR
variable {K : zz_Kd} {N d : Nat} {M : zz_Mi} {Q : Option Value → zz_Hp → Prop} {pc : Nat} {L : zz_L} {st : List Value} {h : zz_Hp}
theorem zg_iconst {n : Int} {v : Int32} (hv : Int32.ofInt n = v) (hd : decode M.2.1 pc = .ok (.iconst n, 1)) (k : zz_G K N d M Q (pc + 1) L (.int v :: st) h) : zz_G K N d M Q pc L (st) h := by
  intro X p l e R s m args below meth c H locs ls C hl hP hD hS
  exact lv_iconst C.1 C.2.1 hd hv (k X p l e R s m args below meth c H locs ls C hl hP hD hS)
theorem zg_bipush {n : Int} {v : Int32} (hv : (Int8.ofInt n).toInt32 = v) (hd : decode M.2.1 pc = .ok (.bipush n, 2)) (k : zz_G K N d M Q (pc + 2) L (.int v :: st) h) : zz_G K N d M Q pc L (st) h := by
  intro X p l e R s m args below meth c H locs ls C hl hP hD hS
  exact lv_bipush C.1 C.2.1 hd hv (k X p l e R s m args below meth c H locs ls C hl hP hD hS)
theorem zg_sipush {n : Int} {v : Int32} (hv : (Int16.ofInt n).toInt32 = v) (hd : decode M.2.1 pc = .ok (.sipush n, 3)) (k : zz_G K N d M Q (pc + 3) L (.int v :: st) h) : zz_G K N d M Q pc L (st) h := by
  intro X p l e R s m args below meth c H locs ls C hl hP hD hS
  exact lv_sipush C.1 C.2.1 hd hv (k X p l e R s m args below meth c H locs ls C hl hP hD hS)
theorem zg_lconst {n : Fin 2} {v : Int64} (hv : Int64.ofNat (n : Nat) = v) (hd : decode M.2.1 pc = .ok (.lconst n, 1)) (k : zz_G K N d M Q (pc + 1) L (.long v :: st) h) : zz_G K N d M Q pc L (st) h := by
  intro X p l e R s m args below meth c H locs ls C hl hP hD hS
  exact lv_lconst C.1 C.2.1 hd hv (k X p l e R s m args below meth c H locs ls C hl hP hD hS)
theorem zg_iload {i : Nat} {x : Int32} (hl0 : L[i]? = some (some (.int x))) (hd : decode M.2.1 pc = .ok (.iload i, 2)) (k : zz_G K N d M Q (pc + 2) L (.int x :: st) h) : zz_G K N d M Q pc L (st) h := by
  intro X p l e R s m args below meth c H locs ls C hl hP hD hS
  exact lv_iload C.1 C.2.1 hd (hl.get hl0) (k X p l e R s m args below meth c H locs ls C hl hP hD hS)
theorem zg_iload_n {q : Fin 4} {i : Nat} {x : Int32} (hi : (q : Nat) = i) (hl0 : L[i]? = some (some (.int x))) (hd : decode M.2.1 pc = .ok (.iload_n q, 1)) (k : zz_G K N d M Q (pc + 1) L (.int x :: st) h) : zz_G K N d M Q pc L (st) h := by
  intro X p l e R s m args below meth c H locs ls C hl hP hD hS
  exact lv_iload_n C.1 C.2.1 hd hi (hl.get hl0) (k X p l e R s m args below meth c H locs ls C hl hP hD hS)
theorem zg_lload {i : Nat} {x : Int64} (hl0 : L[i]? = some (some (.long x))) (hd : decode M.2.1 pc = .ok (.lload i, 2)) (k : zz_G K N d M Q (pc + 2) L (.long x :: st) h) : zz_G K N d M Q pc L (st) h := by
  intro X p l e R s m args below meth c H locs ls C hl hP hD hS
  exact lv_lload C.1 C.2.1 hd (hl.get hl0) (k X p l e R s m args below meth c H locs ls C hl hP hD hS)
theorem zg_lload_n {q : Fin 4} {i : Nat} {x : Int64} (hi : (q : Nat) = i) (hl0 : L[i]? = some (some (.long x))) (hd : decode M.2.1 pc = .ok (.lload_n q, 1)) (k : zz_G K N d M Q (pc + 1) L (.long x :: st) h) : zz_G K N d M Q pc L (st) h := by
  intro X p l e R s m args below meth c H locs ls C hl hP hD hS
  exact lv_lload_n C.1 C.2.1 hd hi (hl.get hl0) (k X p l e R s m args below meth c H locs ls C hl hP hD hS)
theorem zg_aload {i : Nat} {x : Nat} (hl0 : L[i]? = some (some (.ref x))) (hd : decode M.2.1 pc = .ok (.aload i, 2)) (k : zz_G K N d M Q (pc + 2) L (.ref x :: st) h) : zz_G K N d M Q pc L (st) h := by
  intro X p l e R s m args below meth c H locs ls C hl hP hD hS
  exact lv_aload C.1 C.2.1 hd (hl.get hl0) (k X p l e R s m args below meth c H locs ls C hl hP hD hS)
theorem zg_aload_n {q : Fin 4} {i : Nat} {x : Nat} (hi : (q : Nat) = i) (hl0 : L[i]? = some (some (.ref x))) (hd : decode M.2.1 pc = .ok (.aload_n q, 1)) (k : zz_G K N d M Q (pc + 1) L (.ref x :: st) h) : zz_G K N d M Q pc L (st) h := by
  intro X p l e R s m args below meth c H locs ls C hl hP hD hS
  exact lv_aload_n C.1 C.2.1 hd hi (hl.get hl0) (k X p l e R s m args below meth c H locs ls C hl hP hD hS)
theorem zg_iadd {x y : Int32} (hd : decode M.2.1 pc = .ok (.iadd, 1)) (k : zz_G K N d M Q (pc + 1) L (.int (x + y) :: st) h) : zz_G K N d M Q pc L (.int y :: .int x :: st) h := by
  intro X p l e R s m args below meth c H locs ls C hl hP hD hS
  exact lv_iadd C.1 C.2.1 hd (k X p l e R s m args below meth c H locs ls C hl hP hD hS)
theorem zg_isub {x y : Int32} (hd : decode M.2.1 pc = .ok (.isub, 1)) (k : zz_G K N d M Q (pc + 1) L (.int (x - y) :: st) h) : zz_G K N d M Q pc L (.int y :: .int x :: st) h := by
  intro X p l e R s m args below meth c H locs ls C hl hP hD hS
  exact lv_isub C.1 C.2.1 hd (k X p l e R s m args below meth c H locs ls C hl hP hD hS)
theorem zg_imul {x y : Int32} (hd : decode M.2.1 pc = .ok (.imul, 1)) (k : zz_G K N d M Q (pc + 1) L (.int (x * y) :: st) h) : zz_G K N d M Q pc L (.int y :: .int x :: st) h := by
  intro X p l e R s m args below meth c H locs ls C hl hP hD hS
  exact lv_imul C.1 C.2.1 hd (k X p l e R s m args below meth c H locs ls C hl hP hD hS)
theorem zg_iand {x y : Int32} (hd : decode M.2.1 pc = .ok (.iand, 1)) (k : zz_G K N d M Q (pc + 1) L (.int (x &&& y) :: st) h) : zz_G K N d M Q pc L (.int y :: .int x :: st) h := by
  intro X p l e R s m args below meth c H locs ls C hl hP hD hS
  exact lv_iand C.1 C.2.1 hd (k X p l e R s m args below meth c H locs ls C hl hP hD hS)
theorem zg_ior {x y : Int32} (hd : decode M.2.1 pc = .ok (.ior, 1)) (k : zz_G K N d M Q (pc + 1) L (.int (x ||| y) :: st) h) : zz_G K N d M Q pc L (.int y :: .int x :: st) h := by
  intro X p l e R s m args below meth c H locs ls C hl hP hD hS
  exact lv_ior C.1 C.2.1 hd (k X p l e R s m args below meth c H locs ls C hl hP hD hS)
theorem zg_ishl {x y : Int32} (hd : decode M.2.1 pc = .ok (.ishl, 1)) (k : zz_G K N d M Q (pc + 1) L (.int (x <<< (y &&& 31)) :: st) h) : zz_G K N d M Q pc L (.int y :: .int x :: st) h := by
  intro X p l e R s m args below meth c H locs ls C hl hP hD hS
  exact lv_ishl C.1 C.2.1 hd (k X p l e R s m args below meth c H locs ls C hl hP hD hS)
theorem zg_ishr {x y : Int32} (hd : decode M.2.1 pc = .ok (.ishr, 1)) (k : zz_G K N d M Q (pc + 1) L (.int (x >>> (y &&& 31)) :: st) h) : zz_G K N d M Q pc L (.int y :: .int x :: st) h := by
  intro X p l e R s m args below meth c H locs ls C hl hP hD hS
  exact lv_ishr C.1 C.2.1 hd (k X p l e R s m args below meth c H locs ls C hl hP hD hS)
theorem zg_idiv {x y : Int32} (hne : ¬ y = 0) (hd : decode M.2.1 pc = .ok (.idiv, 1)) (k : zz_G K N d M Q (pc + 1) L (.int (x / y) :: st) h) : zz_G K N d M Q pc L (.int y :: .int x :: st) h := by
  intro X p l e R s m args below meth c H locs ls C hl hP hD hS
  exact lv_idiv C.1 C.2.1 hd hne (k X p l e R s m args below meth c H locs ls C hl hP hD hS)
theorem zg_irem {x y : Int32} (hne : ¬ y = 0) (hd : decode M.2.1 pc = .ok (.irem, 1)) (k : zz_G K N d M Q (pc + 1) L (.int (x - x / y * y) :: st) h) : zz_G K N d M Q pc L (.int y :: .int x :: st) h := by
  intro X p l e R s m args below meth c H locs ls C hl hP hD hS
  exact lv_irem C.1 C.2.1 hd hne (k X p l e R s m args below meth c H locs ls C hl hP hD hS)
theorem zg_ldiv {x y : Int64} (hne : ¬ y = 0) (hd : decode M.2.1 pc = .ok (.ldiv, 1)) (k : zz_G K N d M Q (pc + 1) L (.long (x / y) :: st) h) : zz_G K N d M Q pc L (.long y :: .long x :: st) h := by
  intro X p l e R s m args below meth c H locs ls C hl hP hD hS
  exact lv_ldiv C.1 C.2.1 hd hne (k X p l e R s m args below meth c H locs ls C hl hP hD hS)
theorem zg_lrem {x y : Int64} (hne : ¬ y = 0) (hd : decode M.2.1 pc = .ok (.lrem, 1)) (k : zz_G K N d M Q (pc + 1) L (.long (x - x / y * y) :: st) h) : zz_G K N d M Q pc L (.long y :: .long x :: st) h := by
  intro X p l e R s m args below meth c H locs ls C hl hP hD hS
  exact lv_lrem C.1 C.2.1 hd hne (k X p l e R s m args below meth c H locs ls C hl hP hD hS)
theorem zg_lmul {x y : Int64} (hd : decode M.2.1 pc = .ok (.lmul, 1)) (k : zz_G K N d M Q (pc + 1) L (.long (x * y) :: st) h) : zz_G K N d M Q pc L (.long y :: .long x :: st) h := by
  intro X p l e R s m args below meth c H locs ls C hl hP hD hS
  exact lv_lmul C.1 C.2.1 hd (k X p l e R s m args below meth c H locs ls C hl hP hD hS)
theorem zg_ineg {x : Int32} (hd : decode M.2.1 pc = .ok (.ineg, 1)) (k : zz_G K N d M Q (pc + 1) L (.int (-x) :: st) h) : zz_G K N d M Q pc L (.int x :: st) h := by
  intro X p l e R s m args below meth c H locs ls C hl hP hD hS
  exact lv_ineg C.1 C.2.1 hd (k X p l e R s m args below meth c H locs ls C hl hP hD hS)
theorem zg_i2l {x : Int32} (hd : decode M.2.1 pc = .ok (.i2l, 1)) (k : zz_G K N d M Q (pc + 1) L (.long x.toInt64 :: st) h) : zz_G K N d M Q pc L (.int x :: st) h := by
  intro X p l e R s m args below meth c H locs ls C hl hP hD hS
  exact lv_i2l C.1 C.2.1 hd rfl (k X p l e R s m args below meth c H locs ls C hl hP hD hS)
theorem zg_i2b {x : Int32} (hd : decode M.2.1 pc = .ok (.i2b, 1)) (k : zz_G K N d M Q (pc + 1) L (.int x.toInt8.toInt32 :: st) h) : zz_G K N d M Q pc L (.int x :: st) h := by
  intro X p l e R s m args below meth c H locs ls C hl hP hD hS
  exact lv_i2b C.1 C.2.1 hd rfl (k X p l e R s m args below meth c H locs ls C hl hP hD hS)
theorem zg_lcmp {x y : Int64} (hd : decode M.2.1 pc = .ok (.lcmp, 1)) (k : zz_G K N d M Q (pc + 1) L (.int (lg_cmp x y) :: st) h) : zz_G K N d M Q pc L (.long y :: .long x :: st) h := by
  intro X p l e R s m args below meth c H locs ls C hl hP hD hS
  exact W.lcmp C.1 C.2.1 hd (k X p l e R s m args below meth c H locs ls C hl hP hD hS)
theorem zg_dup {v : Value} (hv : v.category = 1) (hd : decode M.2.1 pc = .ok (.dup, 1)) (k : zz_G K N d M Q (pc + 1) L (v :: v :: st) h) : zz_G K N d M Q pc L (v :: st) h := by
  intro X p l e R s m args below meth c H locs ls C hl hP hD hS
  exact lv_dup C.1 C.2.1 hd (by rw [zz_v_cat]; exact hv) (k X p l e R s m args below meth c H locs ls C hl hP hD hS)
theorem zg_pop {v : Value} (hv : v.category = 1) (hd : decode M.2.1 pc = .ok (.pop, 1)) (k : zz_G K N d M Q (pc + 1) L st h) : zz_G K N d M Q pc L (v :: st) h := by
  intro X p l e R s m args below meth c H locs ls C hl hP hD hS
  exact lv_pop C.1 C.2.1 hd (by rw [zz_v_cat]; exact hv) (k X p l e R s m args below meth c H locs ls C hl hP hD hS)
theorem zg_dup2 {v w : Value} (hv : v.category = 1) (hw : w.category = 1) (hd : decode M.2.1 pc = .ok (.dup2, 1)) (k : zz_G K N d M Q (pc + 1) L (v :: w :: v :: w :: st) h) : zz_G K N d M Q pc L (v :: w :: st) h := by
  intro X p l e R s m args below meth c H locs ls C hl hP hD hS
  exact lv_dup2_11 C.1 C.2.1 hd (by rw [zz_v_cat]; exact hv) (by rw [zz_v_cat]; exact hw) (k X p l e R s m args below meth c H locs ls C hl hP hD hS)
theorem zg_istore {i : Nat} {x : Int32} {L' : zz_L} (hn : i < M.2.2.1) (hL : zz_st1 L i (.int x) = L') (hd : decode M.2.1 pc = .ok (.istore i, 2)) (k : zz_G K N d M Q (pc + 2) L' st h) : zz_G K N d M Q pc L (.int x :: st) h := by
  intro X p l e R s m args below meth c H locs ls C hl hP hD hS
  subst hL
  obtain ⟨h0, lv, h1, h2⟩ := hl
  exact lv_istore C.1 C.2.1 hd h1 hn rfl fun ls' hls => k X p l e R s m args below meth c H locs ls' C (zz_ls.st1 h0 h2 hls) hP hD hS
theorem zg_istore_n {i : Nat} {x : Int32} {L' : zz_L} {q : Fin 4} (hi : (q : Nat) = i) (hn : i < M.2.2.1) (hL : zz_st1 L i (.int x) = L') (hd : decode M.2.1 pc = .ok (.istore_n q, 1)) (k : zz_G K N d M Q (pc + 1) L' st h) : zz_G K N d M Q pc L (.int x :: st) h := by
  intro X p l e R s m args below meth c H locs ls C hl hP hD hS
  subst hL
  obtain ⟨h0, lv, h1, h2⟩ := hl
  exact lv_istore_n C.1 C.2.1 hd hi h1 hn rfl fun ls' hls => k X p l e R s m args below meth c H locs ls' C (zz_ls.st1 h0 h2 hls) hP hD hS
theorem zg_astore {i : Nat} {x : Nat} {L' : zz_L} (hn : i < M.2.2.1) (hL : zz_st1 L i (.ref x) = L') (hd : decode M.2.1 pc = .ok (.astore i, 2)) (k : zz_G K N d M Q (pc + 2) L' st h) : zz_G K N d M Q pc L (.ref x :: st) h := by
  intro X p l e R s m args below meth c H locs ls C hl hP hD hS
  subst hL
  obtain ⟨h0, lv, h1, h2⟩ := hl
  exact lv_astore C.1 C.2.1 hd h1 hn rfl fun ls' hls => k X p l e R s m args below meth c H locs ls' C (zz_ls.st1 h0 h2 hls) hP hD hS
theorem zg_astore_n {i : Nat} {x : Nat} {L' : zz_L} {q : Fin 4} (hi : (q : Nat) = i) (hn : i < M.2.2.1) (hL : zz_st1 L i (.ref x) = L') (hd : decode M.2.1 pc = .ok (.astore_n q, 1)) (k : zz_G K N d M Q (pc + 1) L' st h) : zz_G K N d M Q pc L (.ref x :: st) h := by
  intro X p l e R s m args below meth c H locs ls C hl hP hD hS
  subst hL
  obtain ⟨h0, lv, h1, h2⟩ := hl
  exact lv_astore_n C.1 C.2.1 hd hi h1 hn rfl fun ls' hls => k X p l e R s m args below meth c H locs ls' C (zz_ls.st1 h0 h2 hls) hP hD hS
theorem zg_lstore {i : Nat} {x : Int64} {L' : zz_L} (hn : i + 1 < M.2.2.1) (hL : zz_st2 L i (.long x) = L') (hd : decode M.2.1 pc = .ok (.lstore i, 2)) (k : zz_G K N d M Q (pc + 2) L' st h) : zz_G K N d M Q pc L (.long x :: st) h := by
  intro X p l e R s m args below meth c H locs ls C hl hP hD hS
  subst hL
  obtain ⟨h0, lv, h1, h2⟩ := hl
  exact lv_lstore C.1 C.2.1 hd h1 hn rfl fun ls' hls => k X p l e R s m args below meth c H locs ls' C (zz_ls.st2 h0 h2 hls) hP hD hS
theorem zg_lstore_n {i : Nat} {x : Int64} {L' : zz_L} {q : Fin 4} (hi : (q : Nat) = i) (hn : i + 1 < M.2.2.1) (hL : zz_st2 L i (.long x) = L') (hd : decode M.2.1 pc = .ok (.lstore_n q, 1)) (k : zz_G K N d M Q (pc + 1) L' st h) : zz_G K N d M Q pc L (.long x :: st) h := by
  intro X p l e R s m args below meth c H locs ls C hl hP hD hS
  subst hL
  obtain ⟨h0, lv, h1, h2⟩ := hl
  exact lv_lstore_n C.1 C.2.1 hd hi h1 hn rfl fun ls' hls => k X p l e R s m args below meth c H locs ls' C (zz_ls.st2 h0 h2 hls) hP hD hS
theorem zg_iinc {i : Nat} {n : Int} {x v : Int32} {L' : zz_L} (hl0 : L[i]? = some (some (.int x))) (hv : x + Int32.ofInt n = v) (hn : i < M.2.2.1) (hL : zz_st1 L i (.int v) = L') (hd : decode M.2.1 pc = .ok (.iinc i n, 3)) (k : zz_G K N d M Q (pc + 3) L' st h) : zz_G K N d M Q pc L st h := by
  intro X p l e R s m args below meth c H locs ls C hl hP hD hS
  subst hL
  obtain ⟨h0, lv, h1, h2⟩ := hl
  obtain ⟨q, hq⟩ := List.getElem?_of_mem (h2 i _ hl0)
  exact lv_iinc C.1 C.2.1 hd h1 hq hv hn rfl fun ls' hls => k X p l e R s m args below meth c H locs ls' C (zz_ls.st1 (v := .int v) h0 h2 hls) hP hD hS
theorem zg_if_eq {x : Int32} {off : Int} {tgt : Nat} (hd : decode M.2.1 pc = .ok (.ifCond .eq off, 3)) (ht : (pc : Int) + off = (tgt : Int)) (kt : x = 0 → zz_G K N d M Q tgt L st h) (kf : ¬ (x = 0) → zz_G K N d M Q (pc + 3) L st h) : zz_G K N d M Q pc L (.int x :: st) h := by
  intro X p l e R s m args below meth c H locs ls C hl hP hD hS
  exact lv_if_eq C.1 C.2.1 hd ht (fun q => kt q X p l e R s m args below meth c H locs ls C hl hP hD hS) (fun q => kf q X p l e R s m args below meth c H locs ls C hl hP hD hS)
theorem zg_icmp_eq {x y : Int32} {off : Int} {tgt : Nat} (hd : decode M.2.1 pc = .ok (.if_icmp .eq off, 3)) (ht : (pc : Int) + off = (tgt : Int)) (kt : x = y → zz_G K N d M Q tgt L st h) (kf : ¬ (x = y) → zz_G K N d M Q (pc + 3) L st h) : zz_G K N d M Q pc L (.int y :: .int x :: st) h := by
  intro X p l e R s m args below meth c H locs ls C hl hP hD hS
  exact lv_icmp_eq C.1 C.2.1 hd ht (fun q => kt q X p l e R s m args below meth c H locs ls C hl hP hD hS) (fun q => kf q X p l e R s m args below meth c H locs ls C hl hP hD hS)
theorem zg_if_ne {x : Int32} {off : Int} {tgt : Nat} (hd : decode M.2.1 pc = .ok (.ifCond .ne off, 3)) (ht : (pc : Int) + off = (tgt : Int)) (kt : ¬ x = 0 → zz_G K N d M Q tgt L st h) (kf : x = 0 → zz_G K N d M Q (pc + 3) L st h) : zz_G K N d M Q pc L (.int x :: st) h := by
  intro X p l e R s m args below meth c H locs ls C hl hP hD hS
  exact lv_if_ne C.1 C.2.1 hd ht (fun q => kt q X p l e R s m args below meth c H locs ls C hl hP hD hS) (fun q => kf q X p l e R s m args below meth c H locs ls C hl hP hD hS)
theorem zg_icmp_ne {x y : Int32} {off : Int} {tgt : Nat} (hd : decode M.2.1 pc = .ok (.if_icmp .ne off, 3)) (ht : (pc : Int) + off = (tgt : Int)) (kt : ¬ x = y → zz_G K N d M Q tgt L st h) (kf : x = y → zz_G K N d M Q (pc + 3) L st h) : zz_G K N d M Q pc L (.int y :: .int x :: st) h := by
  intro X p l e R s m args below meth c H locs ls C hl hP hD hS
  exact lv_icmp_ne C.1 C.2.1 hd ht (fun q => kt q X p l e R s m args below meth c H locs ls C hl hP hD hS) (fun q => kf q X p l e R s m args below meth c H locs ls C hl hP hD hS)
theorem zg_if_lt {x : Int32} {off : Int} {tgt : Nat} (hd : decode M.2.1 pc = .ok (.ifCond .lt off, 3)) (ht : (pc : Int) + off = (tgt : Int)) (kt : x < 0 → zz_G K N d M Q tgt L st h) (kf : ¬ (x < 0) → zz_G K N d M Q (pc + 3) L st h) : zz_G K N d M Q pc L (.int x :: st) h := by
  intro X p l e R s m args below meth c H locs ls C hl hP hD hS
  exact lv_if_lt C.1 C.2.1 hd ht (fun q => kt q X p l e R s m args below meth c H locs ls C hl hP hD hS) (fun q => kf q X p l e R s m args below meth c H locs ls C hl hP hD hS)
theorem zg_icmp_lt {x y : Int32} {off : Int} {tgt : Nat} (hd : decode M.2.1 pc = .ok (.if_icmp .lt off, 3)) (ht : (pc : Int) + off = (tgt : Int)) (kt : x < y → zz_G K N d M Q tgt L st h) (kf : ¬ (x < y) → zz_G K N d M Q (pc + 3) L st h) : zz_G K N d M Q pc L (.int y :: .int x :: st) h := by
  intro X p l e R s m args below meth c H locs ls C hl hP hD hS
  exact lv_icmp_lt C.1 C.2.1 hd ht (fun q => kt q X p l e R s m args below meth c H locs ls C hl hP hD hS) (fun q => kf q X p l e R s m args below meth c H locs ls C hl hP hD hS)
theorem zg_if_ge {x : Int32} {off : Int} {tgt : Nat} (hd : decode M.2.1 pc = .ok (.ifCond .ge off, 3)) (ht : (pc : Int) + off = (tgt : Int)) (kt : 0 ≤ x → zz_G K N d M Q tgt L st h) (kf : ¬ (0 ≤ x) → zz_G K N d M Q (pc + 3) L st h) : zz_G K N d M Q pc L (.int x :: st) h := by
  intro X p l e R s m args below meth c H locs ls C hl hP hD hS
  exact lv_if_ge C.1 C.2.1 hd ht (fun q => kt q X p l e R s m args below meth c H locs ls C hl hP hD hS) (fun q => kf q X p l e R s m args below meth c H locs ls C hl hP hD hS)
theorem zg_icmp_ge {x y : Int32} {off : Int} {tgt : Nat} (hd : decode M.2.1 pc = .ok (.if_icmp .ge off, 3)) (ht : (pc : Int) + off = (tgt : Int)) (kt : y ≤ x → zz_G K N d M Q tgt L st h) (kf : ¬ (y ≤ x) → zz_G K N d M Q (pc + 3) L st h) : zz_G K N d M Q pc L (.int y :: .int x :: st) h := by
  intro X p l e R s m args below meth c H locs ls C hl hP hD hS
  exact lv_icmp_ge C.1 C.2.1 hd ht (fun q => kt q X p l e R s m args below meth c H locs ls C hl hP hD hS) (fun q => kf q X p l e R s m args below meth c H locs ls C hl hP hD hS)
theorem zg_if_gt {x : Int32} {off : Int} {tgt : Nat} (hd : decode M.2.1 pc = .ok (.ifCond .gt off, 3)) (ht : (pc : Int) + off = (tgt : Int)) (kt : 0 < x → zz_G K N d M Q tgt L st h) (kf : ¬ (0 < x) → zz_G K N d M Q (pc + 3) L st h) : zz_G K N d M Q pc L (.int x :: st) h := by
  intro X p l e R s m args below meth c H locs ls C hl hP hD hS
  exact lv_if_gt C.1 C.2.1 hd ht (fun q => kt q X p l e R s m args below meth c H locs ls C hl hP hD hS) (fun q => kf q X p l e R s m args below meth c H locs ls C hl hP hD hS)
theorem zg_icmp_gt {x y : Int32} {off : Int} {tgt : Nat} (hd : decode M.2.1 pc = .ok (.if_icmp .gt off, 3)) (ht : (pc : Int) + off = (tgt : Int)) (kt : y < x → zz_G K N d M Q tgt L st h) (kf : ¬ (y < x) → zz_G K N d M Q (pc + 3) L st h) : zz_G K N d M Q pc L (.int y :: .int x :: st) h := by
  intro X p l e R s m args below meth c H locs ls C hl hP hD hS
  exact lv_icmp_gt C.1 C.2.1 hd ht (fun q => kt q X p l e R s m args below meth c H locs ls C hl hP hD hS) (fun q => kf q X p l e R s m args below meth c H locs ls C hl hP hD hS)
theorem zg_if_le {x : Int32} {off : Int} {tgt : Nat} (hd : decode M.2.1 pc = .ok (.ifCond .le off, 3)) (ht : (pc : Int) + off = (tgt : Int)) (kt : x ≤ 0 → zz_G K N d M Q tgt L st h) (kf : ¬ (x ≤ 0) → zz_G K N d M Q (pc + 3) L st h) : zz_G K N d M Q pc L (.int x :: st) h := by
  intro X p l e R s m args below meth c H locs ls C hl hP hD hS
  exact lv_if_le C.1 C.2.1 hd ht (fun q => kt q X p l e R s m args below meth c H locs ls C hl hP hD hS) (fun q => kf q X p l e R s m args below meth c H locs ls C hl hP hD hS)
theorem zg_icmp_le {x y : Int32} {off : Int} {tgt : Nat} (hd : decode M.2.1 pc = .ok (.if_icmp .le off, 3)) (ht : (pc : Int) + off = (tgt : Int)) (kt : x ≤ y → zz_G K N d M Q tgt L st h) (kf : ¬ (x ≤ y) → zz_G K N d M Q (pc + 3) L st h) : zz_G K N d M Q pc L (.int y :: .int x :: st) h := by
  intro X p l e R s m args below meth c H locs ls C hl hP hD hS
  exact lv_icmp_le C.1 C.2.1 hd ht (fun q => kt q X p l e R s m args below meth c H locs ls C hl hP hD hS) (fun q => kf q X p l e R s m args below meth c H locs ls C hl hP hD hS)
theorem zg_goto {off : Int} {tgt : Nat} (hd : decode M.2.1 pc = .ok (.goto off, 3)) (ht : (pc : Int) + off = (tgt : Int)) (k : zz_G K N d M Q tgt L st h) : zz_G K N d M Q pc L st h := by
  intro X p l e R s m args below meth c H locs ls C hl hP hD hS
  exact lv_goto C.1 C.2.1 hd ht (k X p l e R s m args below meth c H locs ls C hl hP hD hS)
theorem zg_tabIn {dflt lo hi : Int} {offs : Array Int} {len : Nat} {x : Int32} {off : Int} {tgt : Nat} (hd : decode M.2.1 pc = .ok (.tableswitch dflt lo hi offs, len)) (h1 : ¬ x.toInt < lo) (h2 : ¬ hi < x.toInt) (ho : offs[(x.toInt - lo).toNat]? = some off) (ht : (pc : Int) + off = (tgt : Int)) (k : zz_G K N d M Q tgt L st h) : zz_G K N d M Q pc L (.int x :: st) h := by
  intro X p l e R s m args below meth c H locs ls C hl hP hD hS
  exact lv_tableIn C.1 C.2.1 hd h1 h2 ho ht (k X p l e R s m args below meth c H locs ls C hl hP hD hS)
theorem zg_tabOut {dflt lo hi : Int} {offs : Array Int} {len : Nat} {x : Int32} {tgt : Nat} (hd : decode M.2.1 pc = .ok (.tableswitch dflt lo hi offs, len)) (h1 : x.toInt < lo ∨ hi < x.toInt) (ht : (pc : Int) + dflt = (tgt : Int)) (k : zz_G K N d M Q tgt L st h) : zz_G K N d M Q pc L (.int x :: st) h := by
  intro X p l e R s m args below meth c H locs ls C hl hP hD hS
  exact lv_tableOut C.1 C.2.1 hd h1 ht (k X p l e R s m args below meth c H locs ls C hl hP hD hS)
theorem zg_ldc {idx : Nat} {v : Int32} (hw : Cond.constant M.1.cls idx v ∈ yw) (hd : decode M.2.1 pc = .ok (.ldc idx, 2)) (k : zz_G K N d M Q (pc + 2) L (.int v :: st) h) : zz_G K N d M Q pc L st h := by
  intro X p l e R s m args below meth c H locs ls C hl hP hD hS
  exact lv_ldc C.1 C.2.1 C.2.2.2.2.2.1 (C.2.2.2.2.2.2.1 _ hw) hd (k X p l e R s m args below meth c H locs ls C hl hP hD hS)
theorem zg_ldcw {idx : Nat} {v : Int32} (hw : Cond.constant M.1.cls idx v ∈ yw) (hd : decode M.2.1 pc = .ok (.ldc_w idx, 3)) (k : zz_G K N d M Q (pc + 3) L (.int v :: st) h) : zz_G K N d M Q pc L st h := by
  intro X p l e R s m args below meth c H locs ls C hl hP hD hS
  exact lv_ldcw C.1 C.2.1 C.2.2.2.2.2.1 (C.2.2.2.2.2.2.1 _ hw) hd (k X p l e R s m args below meth c H locs ls C hl hP hD hS)
theorem zg_ldc2 {idx : Nat} {v : Int64} (hw : Cond.constantLong M.1.cls idx v ∈ yw) (hd : decode M.2.1 pc = .ok (.ldc2_w idx, 3)) (k : zz_G K N d M Q (pc + 3) L (.long v :: st) h) : zz_G K N d M Q pc L st h := by
  intro X p l e R s m args below meth c H locs ls C hl hP hD hS
  exact lv_ldc2 C.1 C.2.1 C.2.2.2.2.2.1 (C.2.2.2.2.2.2.1 _ hw) hd (k X p l e R s m args below meth c H locs ls C hl hP hD hS)
/-- a field's link: class ci's slot j, from class own's entry idx -/
def zz_lf (own : String) (idx ci j : Nat) : Prop := ∃ (C : String) (T : u_T) (n : Nat), vwCl[ci]? = some (C, T, n) ∧ j < n ∧ (∀ k, k < n → u_lay C T k ∈ yw) ∧ Cond.fieldLink own idx (T j).1 (T j).2.1 (T j).2.2.1 ∈ yw
def zz_lp (own : String) (idx ci j : Nat) (ty : FieldType) : Prop := ∃ (C : String) (T : u_T) (n : Nat) (tys : Nat → FieldType), vwCl[ci]? = some (C, T, n) ∧ j < n ∧ (∀ k, k < n → u_lay C T k ∈ yw) ∧ Cond.fieldLink own idx (T j).1 (T j).2.1 (T j).2.2.1 ∈ yw ∧ (∀ k, k < n → parseFieldDescriptor (T k).2.2.1 = some (tys k)) ∧ (∀ a, a < n → ∀ b, b < n → a ≠ b → (T a).2.1 ≠ (T b).2.1) ∧ (T j).2.2.2 = false ∧ parseFieldDescriptor (T j).2.2.1 = some ty
theorem zz_uws {C : String} {T : u_T} {n : Nat} (h : ∀ k, k < n → u_lay C T k ∈ yw) : ∀ w ∈ u_ws C T n, w ∈ yw := by
  intro w hw
  unfold u_ws at hw
  obtain ⟨k, hk, rfl⟩ := List.mem_map.mp hw
  exact h k (List.mem_range.mp hk)
theorem zz_eO {X : zz_Fx} {K : zz_Kd} {N : Nat} {h : zz_Hp} {o ci : Nat} {fs : List (Option Nat)} (ho : o < N) (hK : K o = .inl (ci, fs)) : (zz_w X K N h)[o]? = some (X.2.2 o, .inr (ci, zz_fs X h o fs)) := by
  rw [zz_at ho]; simp only [zz_e, hK, zz_ex]
theorem zz_eI {X : zz_Fx} {K : zz_Kd} {N : Nat} {h : zz_Hp} {o ty n : Nat} (ho : o < N) (hK : K o = .inr (ty, n)) (ht : ty ≠ 3) : (zz_w X K N h)[o]? = some (X.2.2 o, .inl (X.2.1 ty, n, .inl (h.1 o))) := by
  rw [zz_at ho]; simp only [zz_e, hK, zz_ex, if_neg ht]
theorem zz_eL {X : zz_Fx} {K : zz_Kd} {N : Nat} {h : zz_Hp} {o n : Nat} (ho : o < N) (hK : K o = .inr (3, n)) : (zz_w X K N h)[o]? = some (X.2.2 o, .inl (X.2.1 3, n, .inr (.inl (h.2 o)))) := by
  rw [zz_at ho]; simp only [zz_e, hK, zz_ex, if_true]
theorem zz_fs_get {X : zz_Fx} {h : zz_Hp} {o j : Nat} {fs : List (Option Nat)} {f : Option Nat} (hj : fs[j]? = some f) : (zz_fs X h o fs)[j]? = some (zz_fv X h o j f) := by
  unfold zz_fs; rw [List.getElem?_mapIdx, hj]; rfl
theorem zz_fs_set {X : zz_Fx} {h : zz_Hp} {o j : Nat} {fs : List (Option Nat)} (hj : fs[j]? = some none) (v : Int32) : (zz_fs X h o fs).set j (.int v) = zz_fs X (zz_uI h o j v) o fs := by
  apply List.ext_getElem?
  intro i
  by_cases hi : i = j
  · subst hi
    rw [List.getElem?_set_self (by unfold zz_fs; rw [List.length_mapIdx]; exact (List.getElem?_eq_some_iff.mp hj).1), zz_fs_get hj]
    simp [zz_fv, zz_uI]
  · rw [List.getElem?_set_ne (fun q => hi q.symm)]
    unfold zz_fs
    rw [List.getElem?_mapIdx, List.getElem?_mapIdx]
    cases fs[i]? with
    | none => rfl
    | some f =>
      cases f with
      | none => simp [zz_fv, zz_uI, hi]
      | some t => rfl
theorem zg_getI {o ci idx j : Nat} {fs : List (Option Nat)} (hf : zz_lf M.1.cls idx ci j) (hK : K o = .inl (ci, fs)) (ho : o < N) (hj : fs[j]? = some none) (hd : decode M.2.1 pc = .ok (.getfield idx, 3)) (k : zz_G K N d M Q (pc + 3) L (.int (h.1 o j) :: st) h) : zz_G K N d M Q pc L (.ref o :: st) h := by
  intro X p l e R s m args below meth c H locs ls C hl hP hD hS
  obtain ⟨C0, T, n, hc, hjn, hin, hlk⟩ := hf
  exact va_get C.1 C.2.1 C.2.2.2.2.2.2.1 (zz_uws hin) C.2.2.2.2.2.1 C.2.2.2.2.2.2.2.1.1 hP o (zz_eO ho hK) hc j hjn (C.2.2.2.2.2.2.1 _ hlk) (fun _ q => q) (v := .int (h.1 o j)) (zz_fs_get hj) hd (k X p l e R s m args below meth c H locs ls C hl hP hD hS)
theorem zg_getR {o ci idx j t : Nat} {fs : List (Option Nat)} (hf : zz_lf M.1.cls idx ci j) (hK : K o = .inl (ci, fs)) (ho : o < N) (hj : fs[j]? = some (some t)) (hd : decode M.2.1 pc = .ok (.getfield idx, 3)) (k : zz_G K N d M Q (pc + 3) L (.ref t :: st) h) : zz_G K N d M Q pc L (.ref o :: st) h := by
  intro X p l e R s m args below meth c H locs ls C hl hP hD hS
  obtain ⟨C0, T, n, hc, hjn, hin, hlk⟩ := hf
  exact va_get C.1 C.2.1 C.2.2.2.2.2.2.1 (zz_uws hin) C.2.2.2.2.2.1 C.2.2.2.2.2.2.2.1.1 hP o (zz_eO ho hK) hc j hjn (C.2.2.2.2.2.2.1 _ hlk) (fun _ q => q) (v := .ref (X.2.2 t)) (zz_fs_get hj) hd (k X p l e R s m args below meth c H locs ls C hl hP hD hS)
theorem zz_putX {o ci idx j : Nat} {fs : List (Option Nat)} {v : Int32} {ty : FieldType} (hf : zz_lp M.1.cls idx ci j ty) (hn : narrow ty (.int v) = .int v) (hfit : fits ty (.int v) = true) (hK : K o = .inl (ci, fs)) (ho : o < N) (hj : fs[j]? = some none) (hd : decode M.2.1 pc = .ok (.putfield idx, 3)) (k : zz_G K N d M Q (pc + 3) L st (zz_uI h o j v)) : zz_G K N d M Q pc L (.int v :: .ref o :: st) h := by
  intro X p l e R s m args below meth c H locs ls C hl hP hD hS
  obtain ⟨C0, T, n, tys, hc, hjn, hin, hlk, hty, hnm, hfin, hd0⟩ := hf
  refine va_put C.1 C.2.1 C.2.2.2.2.2.2.1 (zz_uws hin) tys hty hnm C.2.2.2.2.2.1 C.2.2.2.2.2.2.2.1.1 hP hD hS o (zz_eO ho hK) hc j hjn (C.2.2.2.2.2.2.1 _ hlk) (fun _ q => q) hfin (v := .int v) hd0 hn hfit (by unfold zz_fs; rw [List.length_mapIdx]; exact (List.getElem?_eq_some_iff.mp hj).1) hd fun H1 locs1 a1 a2 a3 => ?_
  have eW : (zz_w X K N h).set o (X.2.2 o, .inr (ci, (zz_fs X h o fs).set j (.int v))) = zz_w X K N (zz_uI h o j v) := by
    refine zz_set ?_ (fun k hk => zz_uI_ne hk)
    rw [zz_fs_set hj]; simp only [zz_e, hK, zz_ex]
  rw [eW] at a1 a2
  exact k X p l e R s m args below meth c H1 locs1 ls C hl a1 a2 a3
theorem zg_putI {o ci idx j : Nat} {fs : List (Option Nat)} {v : Int32} (hf : zz_lp M.1.cls idx ci j .int) (hK : K o = .inl (ci, fs)) (ho : o < N) (hj : fs[j]? = some none) (hd : decode M.2.1 pc = .ok (.putfield idx, 3)) (k : zz_G K N d M Q (pc + 3) L st (zz_uI h o j v)) : zz_G K N d M Q pc L (.int v :: .ref o :: st) h :=
  zz_putX hf rfl rfl hK ho hj hd k
theorem zg_putZ {o ci idx j : Nat} {fs : List (Option Nat)} {v : Int32} (hv : v = 0 ∨ v = 1) (hf : zz_lp M.1.cls idx ci j .boolean) (hK : K o = .inl (ci, fs)) (ho : o < N) (hj : fs[j]? = some none) (hd : decode M.2.1 pc = .ok (.putfield idx, 3)) (k : zz_G K N d M Q (pc + 3) L st (zz_uI h o j v)) : zz_G K N d M Q pc L (.int v :: .ref o :: st) h := by
  rcases hv with rfl | rfl
  · exact zz_putX hf (by decide) (by decide) hK ho hj hd k
  · exact zz_putX hf (by decide) (by decide) hK ho hj hd k
/-- arrays -/
theorem zg_iald {a n : Nat} {i : Int32} (hK : K a = .inr (0, n)) (ha : a < N) (hi : vp_in i n) (hd : decode M.2.1 pc = .ok (.iaload, 1)) (k : zz_G K N d M Q (pc + 1) L (.int (h.1 a i.toNatClampNeg) :: st) h) : zz_G K N d M Q pc L (.int i :: .ref a :: st) h := by
  intro X p l e R s m args below meth c H locs ls C hl hP hD hS
  exact va_iald C.1 C.2.1 C.2.2.2.2.2.2.2.1.1 hP a 0 (zz_eI ha hK (by decide)) rfl hi hd (k X p l e R s m args below meth c H locs ls C hl hP hD hS)
theorem zg_bald {a n : Nat} {i : Int32} (hK : K a = .inr (1, n)) (ha : a < N) (hi : vp_in i n) (hd : decode M.2.1 pc = .ok (.baload, 1)) (k : zz_G K N d M Q (pc + 1) L (.int (h.1 a i.toNatClampNeg) :: st) h) : zz_G K N d M Q pc L (.int i :: .ref a :: st) h := by
  intro X p l e R s m args below meth c H locs ls C hl hP hD hS
  exact va_bald C.1 C.2.1 C.2.2.2.2.2.2.2.1.1 hP a 1 (zz_eI ha hK (by decide)) rfl hi hd (k X p l e R s m args below meth c H locs ls C hl hP hD hS)
theorem zg_zald {a n : Nat} {i : Int32} (hK : K a = .inr (2, n)) (ha : a < N) (hi : vp_in i n) (hd : decode M.2.1 pc = .ok (.baload, 1)) (k : zz_G K N d M Q (pc + 1) L (.int (h.1 a i.toNatClampNeg) :: st) h) : zz_G K N d M Q pc L (.int i :: .ref a :: st) h := by
  intro X p l e R s m args below meth c H locs ls C hl hP hD hS
  exact va_zald C.1 C.2.1 C.2.2.2.2.2.2.2.1.1 hP a 2 (zz_eI ha hK (by decide)) rfl hi hd (k X p l e R s m args below meth c H locs ls C hl hP hD hS)
theorem zg_lald {a n : Nat} {i : Int32} (hK : K a = .inr (3, n)) (ha : a < N) (hi : vp_in i n) (hd : decode M.2.1 pc = .ok (.laload, 1)) (k : zz_G K N d M Q (pc + 1) L (.long (h.2 a i.toNatClampNeg) :: st) h) : zz_G K N d M Q pc L (.int i :: .ref a :: st) h := by
  intro X p l e R s m args below meth c H locs ls C hl hP hD hS
  exact va_lald C.1 C.2.1 C.2.2.2.2.2.2.2.1.1 hP a 3 (zz_eL ha hK) rfl hi hd (k X p l e R s m args below meth c H locs ls C hl hP hD hS)
theorem zz_setI {X : zz_Fx} {K : zz_Kd} {N : Nat} {h : zz_Hp} {a ty n i : Nat} {v : Int32} (hK : K a = .inr (ty, n)) (ht : ty ≠ 3) : (zz_w X K N h).set a (X.2.2 a, .inl (X.2.1 ty, n, .inl (upd (h.1 a) i v))) = zz_w X K N (zz_uI h a i v) := by
  refine zz_set ?_ (fun k hk => zz_uI_ne hk)
  simp only [zz_e, hK, zz_ex, if_neg ht]
  congr 4
  funext j
  by_cases hj : j = i <;> simp [upd, zz_uI, hj]
theorem zg_iast {a n : Nat} {i v : Int32} (hK : K a = .inr (0, n)) (ha : a < N) (hi : vp_in i n) (hd : decode M.2.1 pc = .ok (.iastore, 1)) (k : zz_G K N d M Q (pc + 1) L st (zz_uI h a i.toNatClampNeg v)) : zz_G K N d M Q pc L (.int v :: .int i :: .ref a :: st) h := by
  intro X p l e R s m args below meth c H locs ls C hl hP hD hS
  refine va_iast C.1 C.2.1 C.2.2.2.2.2.2.2.1.1 hP hD hS a 0 (zz_eI ha hK (by decide)) rfl hi hd fun H1 locs1 a1 a2 a3 => ?_
  rw [zz_setI hK (by decide)] at a1 a2
  exact k X p l e R s m args below meth c H1 locs1 ls C hl a1 a2 a3
theorem zg_bast {a n : Nat} {i v : Int32} (hK : K a = .inr (1, n)) (ha : a < N) (hi : vp_in i n) (hd : decode M.2.1 pc = .ok (.bastore, 1)) (k : zz_G K N d M Q (pc + 1) L st (zz_uI h a i.toNatClampNeg v.toInt8.toInt32)) : zz_G K N d M Q pc L (.int v :: .int i :: .ref a :: st) h := by
  intro X p l e R s m args below meth c H locs ls C hl hP hD hS
  refine va_bast C.1 C.2.1 C.2.2.2.2.2.2.2.1.1 hP hD hS a 1 (zz_eI ha hK (by decide)) rfl hi hd fun H1 locs1 a1 a2 a3 => ?_
  rw [vp_nar_byte, zz_setI hK (by decide)] at a1 a2
  exact k X p l e R s m args below meth c H1 locs1 ls C hl a1 a2 a3
theorem zg_zast {a n : Nat} {i v : Int32} (hv : v = 0 ∨ v = 1) (hK : K a = .inr (2, n)) (ha : a < N) (hi : vp_in i n) (hd : decode M.2.1 pc = .ok (.bastore, 1)) (k : zz_G K N d M Q (pc + 1) L st (zz_uI h a i.toNatClampNeg v)) : zz_G K N d M Q pc L (.int v :: .int i :: .ref a :: st) h := by
  intro X p l e R s m args below meth c H locs ls C hl hP hD hS
  have eW : vp_nar .boolean v = v := by rcases hv with rfl | rfl <;> decide
  refine va_zast C.1 C.2.1 C.2.2.2.2.2.2.2.1.1 hP hD hS a 2 (zz_eI ha hK (by decide)) rfl hi hd fun H1 locs1 a1 a2 a3 => ?_
  rw [eW, zz_setI hK (by decide)] at a1 a2
  exact k X p l e R s m args below meth c H1 locs1 ls C hl a1 a2 a3
theorem zg_last {a n : Nat} {i : Int32} {v : Int64} (hK : K a = .inr (3, n)) (ha : a < N) (hi : vp_in i n) (hd : decode M.2.1 pc = .ok (.lastore, 1)) (k : zz_G K N d M Q (pc + 1) L st (zz_uL h a i.toNatClampNeg v)) : zz_G K N d M Q pc L (.long v :: .int i :: .ref a :: st) h := by
  intro X p l e R s m args below meth c H locs ls C hl hP hD hS
  refine va_last C.1 C.2.1 C.2.2.2.2.2.2.2.1.1 hP hD hS a 3 (zz_eL ha hK) rfl hi hd fun H1 locs1 a1 a2 a3 => ?_
  have eW : (zz_w X K N h).set a (X.2.2 a, .inl (X.2.1 3, n, .inr (.inl (vp_updL (h.2 a) i.toNatClampNeg v)))) = zz_w X K N (zz_uL h a i.toNatClampNeg v) := by
    refine zz_set ?_ (fun k hk => zz_uL_ne hk)
    simp only [zz_e, hK, zz_ex, if_true]
    congr 5
    funext j
    by_cases hj : j = i.toNatClampNeg <;> simp [vp_updL, zz_uL, hj]
  rw [eW] at a1 a2
  exact k X p l e R s m args below meth c H1 locs1 ls C hl a1 a2 a3
theorem zg_alen {a ty n : Nat} {v : Int32} (hty : ty = 0 ∨ ty = 1) (hv : Int32.ofNat n = v) (hK : K a = .inr (ty, n)) (ha : a < N) (hd : decode M.2.1 pc = .ok (.arraylength, 1)) (k : zz_G K N d M Q (pc + 1) L (.int v :: st) h) : zz_G K N d M Q pc L (.ref a :: st) h := by
  intro X p l e R s m args below meth c H locs ls C hl hP hD hS
  rcases hty with rfl | rfl
  · exact va_alen C.1 C.2.1 C.2.2.2.2.2.2.2.1.1 hP a 0 (zz_eI ha hK (by decide)) (ty := .int) rfl hv hd (k X p l e R s m args below meth c H locs ls C hl hP hD hS)
  · exact va_alen C.1 C.2.1 C.2.2.2.2.2.2.2.1.1 hP a 1 (zz_eI ha hK (by decide)) (ty := .byte) rfl hv hd (k X p l e R s m args below meth c H locs ls C hl hP hD hS)
/-- the two static tables: cells 1000 and 1001 -/
theorem zg_getLT {idx : Nat} (hw : Cond.fieldLink M.1.cls idx "YarnPlier" "LEAST_TOLD" "[I" ∈ yw) (hd : decode M.2.1 pc = .ok (.getstatic idx, 3)) (k : zz_G K N d M Q (pc + 3) L (.ref 1000 :: st) h) : zz_G K N d M Q pc L st h := by
  intro X p l e R s m args below meth c H locs ls C hl hP hD hS
  exact va_gets C.1 C.2.1 C.2.2.2.2.2.2.2.1.2.2.1.1 hS C.2.2.2.2.2.1 (C.2.2.2.2.2.2.1 _ hw) (fun _ q => q) hd (k X p l e R s m args below meth c H locs ls C hl hP hD hS)
theorem zg_getMT {idx : Nat} (hw : Cond.fieldLink M.1.cls idx "YarnPlier" "MOST_TOLD" "[I" ∈ yw) (hd : decode M.2.1 pc = .ok (.getstatic idx, 3)) (k : zz_G K N d M Q (pc + 3) L (.ref 1001 :: st) h) : zz_G K N d M Q pc L st h := by
  intro X p l e R s m args below meth c H locs ls C hl hP hD hS
  exact va_gets C.1 C.2.1 C.2.2.2.2.2.2.2.1.2.2.2.1 hS C.2.2.2.2.2.1 (C.2.2.2.2.2.2.1 _ hw) (fun _ q => q) hd (k X p l e R s m args below meth c H locs ls C hl hP hD hS)
theorem zg_aldLT {i : Int32} (hi : vp_in i 4) (hd : decode M.2.1 pc = .ok (.iaload, 1)) (k : zz_G K N d M Q (pc + 1) L (.int (zz_lt i.toNatClampNeg) :: st) h) : zz_G K N d M Q pc L (.int i :: .ref 1000 :: st) h := by
  intro X p l e R s m args below meth c H locs ls C hl hP hD hS
  exact va_ti C.1 C.2.1 C.2.2.2.2.2.2.2.1.2.2.1.2 hS hi rfl hd (k X p l e R s m args below meth c H locs ls C hl hP hD hS)
theorem zg_aldMT {i : Int32} (hi : vp_in i 4) (hd : decode M.2.1 pc = .ok (.iaload, 1)) (k : zz_G K N d M Q (pc + 1) L (.int (zz_mt i.toNatClampNeg) :: st) h) : zz_G K N d M Q pc L (.int i :: .ref 1001 :: st) h := by
  intro X p l e R s m args below meth c H locs ls C hl hP hD hS
  exact va_ti C.1 C.2.1 C.2.2.2.2.2.2.2.1.2.2.2.2 hS hi rfl hd (k X p l e R s m args below meth c H locs ls C hl hP hD hS)
/-- returns -/
theorem zz_fin {X : zz_Fx} {v : Option Value} {s : State} {args : Array Value} {H : Heap} {locs : List Loc} (hq : Q v h) (hP : va_P X.1 vwCl (zz_w X K N h) H) (hD : va_D (zz_A X N) (zz_w X K N h)) (hS : va_S (zz_A X N) s.heap H locs) : ∀ t : State, t.heap = H → s.WarmedH t.vm → zz_Q X K N Q args s (.returned (v.map (zz_v X))) t :=
  fun t ht _ => ⟨v, h, hq, rfl, by rw [ht]; exact hP, hD, hS.F ht⟩
theorem zg_iret {v : Int32} (hr : M.2.2.2 = some .int) (hq : Q (some (.int v)) h) (hd : decode M.2.1 pc = .ok (.ireturn, 1)) : zz_G K N d M Q pc L [.int v] h := by
  intro X p l e R s m args below meth c H locs ls C hl hP hD hS
  exact W.iret (v := v) C.1 C.2.1 (C.2.2.2.1.trans hr) (zz_fin hq hP hD hS) hS.2.2 hd C.2.2.2.2.1
theorem zg_zret {v : Int32} (hv : v = 0 ∨ v = 1) (hr : M.2.2.2 = some .boolean) (hq : Q (some (.int v)) h) (hd : decode M.2.1 pc = .ok (.ireturn, 1)) : zz_G K N d M Q pc L [.int v] h := by
  intro X p l e R s m args below meth c H locs ls C hl hP hD hS
  exact W.zret (v := v) C.1 C.2.1 (C.2.2.2.1.trans hr) (by rcases hv with rfl | rfl <;> decide) (zz_fin hq hP hD hS) hS.2.2 hd C.2.2.2.2.1
theorem zg_lret {v : Int64} (hr : M.2.2.2 = some .long) (hq : Q (some (.long v)) h) (hd : decode M.2.1 pc = .ok (.lreturn, 1)) : zz_G K N d M Q pc L [.long v] h := by
  intro X p l e R s m args below meth c H locs ls C hl hP hD hS
  exact W.lret (v := v) C.1 C.2.1 (C.2.2.2.1.trans hr) (zz_fin hq hP hD hS) hS.2.2 hd C.2.2.2.2.1
theorem zg_vret (hr : M.2.2.2 = none) (hq : Q none h) (hd : decode M.2.1 pc = .ok (.return_, 1)) : zz_G K N d M Q pc L [] h := by
  intro X p l e R s m args below meth c H locs ls C hl hP hD hS
  exact W.vret C.1 C.2.1 (C.2.2.2.1.trans hr) (zz_fin hq hP hD hS) hS.2.2 hd C.2.2.2.2.1
/-- a method's contract out of the judgement at its entry -/
def zz_al : List Value → zz_L
  | [] => []
  | .long v :: vs => some (.long v) :: none :: zz_al vs
  | .double v :: vs => some (.double v) :: none :: zz_al vs
  | v :: vs => some v :: zz_al vs
def zz_L0 (n : Nat) (As : List Value) : zz_L := zz_al As ++ List.replicate (n - (zz_al As).length) none
def zz_ws (M : zz_Mi) : List Cond := Cond.code M.1 M.2.1 M.2.2.1 M.2.2.2 :: yw
def zz_pre (X : zz_Fx) (K : zz_Kd) (N : Nat) (h : zz_Hp) (U : State) : Prop := va_P X.1 vwCl (zz_w X K N h) U.heap ∧ va_D (zz_A X N) (zz_w X K N h) ∧ zz_S X N U
theorem zz_al_args (X : zz_Fx) : ∀ (As : List Value) (n i : Nat) (v : Value), (zz_al As)[i]? = some (some v) → (n + i, zz_v X v) ∈ lv_args n (As.map (zz_v X)) := by
  intro As
  induction As with
  | nil => intro n i v hv; simp [zz_al] at hv
  | cons a as ih =>
    intro n i v hv
    cases a with
    | long x =>
      simp only [zz_al] at hv
      match i, hv with
      | 0, hv => cases hv; exact List.mem_cons_self
      | 1, hv => simp at hv
      | i + 2, hv =>
        have := ih (n + 2) i v (by simpa using hv)
        rw [show n + (i + 2) = n + 2 + i by omega]
        exact List.mem_cons_of_mem _ this
    | double x =>
      simp only [zz_al] at hv
      match i, hv with
      | 0, hv => cases hv; exact List.mem_cons_self
      | 1, hv => simp at hv
      | i + 2, hv =>
        have := ih (n + 2) i v (by simpa using hv)
        rw [show n + (i + 2) = n + 2 + i by omega]
        exact List.mem_cons_of_mem _ this
    | _ =>
      simp only [zz_al] at hv
      match i, hv with
      | 0, hv => cases hv; exact List.mem_cons_self
      | i + 1, hv =>
        have := ih (n + 1) i v (by simpa using hv)
        rw [show n + (i + 1) = n + 1 + i by omega]
        exact List.mem_cons_of_mem _ this
theorem zz_al_len (X : zz_Fx) : ∀ As : List Value, (lg_sl (As.map (zz_v X))).length = (zz_al As).length := by
  intro As
  induction As with
  | nil => rfl
  | cons a as ih =>
    have e : ∀ (v : Value) (vs : List Value), (lg_sl (v :: vs)).length = (if v.category = 2 then 2 else 1) + (lg_sl vs).length := by
      intro v vs
      simp only [lg_sl, List.flatMap_cons, List.length_append]
      split <;> rfl
    rw [List.map_cons, e, ih]
    cases a <;> simp [zz_al, zz_v, Value.category] <;> omega
theorem zz_met {As : List Value} {Q : Option Value → zz_Hp → Prop} (hy : plainName M.1.cls = true) (hlen : (zz_al As).length ≤ M.2.2.1) (hG : zz_G K N d M Q 0 (zz_L0 M.2.2.1 As) [] h) (l : Launch) (X : zz_Fx) : Met l M.1 (zz_ws M) (zz_rm d) (va_Pc (As.map (zz_v X)) (zz_pre X K N h)) (zz_Q X K N Q) 0 0 (zz_A X N) := by
  refine Met.ofW (cc := M.2.1) (maxL := M.2.2.1) (ret := M.2.2.2) hy rfl ?_
  intro p e s m args below meth c s₁ B hml hv
  obtain ⟨rfl, hP, hD, hSs⟩ := hv
  have hts := atoms_spec (ws := zz_ws M) B.pre
  have hl := lv_entry (As.map (zz_v X)) (n := M.2.2.1) (by rw [zz_al_len]; exact hlen)
  rw [lg_entry_eq]
  refine hG X p l e _ s m _ below meth c s.heap [] _ ⟨B.exec, B.bytes, hml, B.returns, B.notSynchronized, findClass_of_methodNamed B.named, fun w hw => hts w (List.mem_cons_of_mem _ hw), hSs, rfl⟩ ⟨?_, _, hl, ?_⟩ hP hD va_S.rf
  · simp [zz_L0]; omega
  · intro i v hv
    have h1 : (zz_al As)[i]? = some (some v) := by
      unfold zz_L0 at hv
      by_cases hi : i < (zz_al As).length
      · rwa [List.getElem?_append_left hi] at hv
      · rw [List.getElem?_append_right (by omega)] at hv
        have := List.eq_of_mem_replicate (List.mem_of_getElem? hv)
        cases this
    have := zz_al_args X As 0 i v h1
    rwa [Nat.zero_add] at this
/-- what is known of a method; of a call's link -/
def zz_ok (M : zz_Mi) (n : Nat) : Prop := Cond.code M.1 M.2.1 M.2.2.1 M.2.2.2 ∈ yw ∧ Cond.initialized M.1.cls ∈ yw ∧ (M.1.cls ≠ "java/lang/invoke/MethodHandle" ∧ M.1.cls ≠ "java/lang/invoke/VarHandle" ∧ (parseMethodDescriptor M.1.desc).map (fun d => d.parameters.length) = some n) ∧ plainName M.1.cls = true ∧ M.2.2.1 ≤ 40
def zz_lv (own : String) (idx ci n : Nat) (M : zz_Mi) : Prop := zz_ok M n ∧ Cond.methodLink own idx M.1 ∈ yw ∧ Cond.instanceMethod M.1 ∈ yw ∧ Cond.selects M.1.cls M.1 M.1 ∈ yw ∧ ∃ (T : u_T) (k : Nat), vwCl[ci]? = some (M.1.cls, T, k)
def zz_lst (own : String) (idx n : Nat) (M : zz_Mi) : Prop := zz_ok M n ∧ Cond.methodLink own idx M.1 ∈ yw ∧ Cond.static M.1 ∈ yw
def zz_lsn (own : String) (idx n : Nat) (M : zz_Mi) : Prop := zz_ok M n ∧ Cond.static M.1 ∈ yw ∧ ∃ host, (own, idx, M.1, host) ∈ zz_nw
theorem zz_blind {X : zz_Fx} {av : List Value} : FrameBlind (va_Pc av (zz_pre X K N h)) := fun a U g mk q => by
  obtain ⟨q0, q1, q2, q3⟩ := q
  exact ⟨q0, q1, q2, zz_S_same q3 rfl rfl⟩
theorem zz_wsgood {M' : zz_Mi} (hc : Cond.code M'.1 M'.2.1 M'.2.2.1 M'.2.2.2 ∈ yw) : GoodIn yw (zz_ws M') := fun w hw => by
  rcases List.mem_cons.mp hw with rfl | hw
  · exact yw_good _ hc
  · exact yw_good _ hw
theorem zz_room {d n : Nat} (h : n ≤ 40) : (zz_rm d).frames + 1 ≤ (zz_rm (d + 1)).frames ∧ 8 + (n + 11) + (zz_rm d).locals ≤ (zz_rm (d + 1)).locals := by
  simp only [zz_rm]; omega
/-- behind a call -/
theorem zz_behind {Q' : Option Value → zz_Hp → Prop} {X : zz_Fx} {p : Program} {l : Launch} {e : Env} {R : Room} {s : State} {m : MethodId} {args : Array Value} {below : List Frame} {meth : Method} {c : Code} {H : Heap} {locs : List Loc} {ls : Array Slot} {stk rest : List Value} {a : Array Value}
    (C : zz_C X N d M p R s m args meth c) (hl : zz_ls X ls M.2.2.1 L) (hS : va_S (zz_A X N) s.heap H locs)
    (hr : va_Run p l e R s m args below meth c H locs 0 0 0 0 (F0 m pc ls stk) (rest.map (zz_v X)) (zz_Q X K N Q' a) (zz_A X N))
    (k : ∀ v h', Q' v h' → zz_G K N d M Q (pc + 3) L (v.toList ++ rest) h') : W p l e R s m args below meth c H locs 0 0 (MQ below (zz_Q X K N Q) args s 0 0 (zz_A X N)) (F0 m pc ls stk) := by
  intro T hT Y
  obtain ⟨v, st₀, t, T', Lx, e0, Y', hL, e1, e2, ⟨v', h', hq, ho, hP', hD', hF⟩, hgo⟩ := hr T hT Y
  have hv : v = v'.map (zz_v X) := by injection ho
  subst hv
  have hS' : va_S (zz_A X N) s.heap T'.heap (locs ++ Lx) := by
    refine ⟨?_, fun q hq hn => ?_, fun q hq => ?_⟩
    · rw [e1]; exact Nat.le_trans hS.1 (by rw [← e0]; exact hF.1)
    · rw [e1, hF.2 q (by rw [e0]; exact Nat.lt_of_lt_of_le hq hS.1) hn, e0]; exact hS.2.1 q hq hn
    · rcases List.mem_append.mp hq with q1 | q1
      · exact hS.2.2 q q1
      · exact hL q q1
  have hk := k v' h' hq X p l e R s m args below meth c T'.heap (locs ++ Lx) ls C hl (by rw [e1]; exact hP') hD' hS'
  have es : List.map (zz_v X) (v'.toList ++ rest) = (v'.map (zz_v X)).toList ++ rest.map (zz_v X) := by cases v' <;> simp
  rw [es] at hk
  obtain ⟨t2, s2, f2⟩ := hk T' rfl Y'
  exact ⟨t2, hgo t2 s2, f2⟩
theorem zg_callV {Q' : Option Value → zz_Hp → Prop} {M' : zz_Mi} {idx ci o : Nat} {fs : List (Option Nat)} {As : List Value} (hk : zz_lv M.1.cls idx ci As.length M') (hK : K o = .inl (ci, fs)) (ho : o < N) (hw : (st.map fun v => v.category).sum ≤ 8) (hlen : (zz_al (.ref o :: As)).length ≤ M'.2.2.1) (hd : decode M.2.1 pc = .ok (.invokevirtual idx, 3))
    (hc : zz_G K N d M' Q' 0 (zz_L0 M'.2.2.1 (.ref o :: As)) [] h) (k : ∀ v h', Q' v h' → zz_G K N (d + 1) M Q (pc + 3) L (v.toList ++ st) h') : zz_G K N (d + 1) M Q pc L (As.reverse ++ .ref o :: st) h := by
  intro X p l e R s m args below meth c H locs ls C hl hP hD hS
  obtain ⟨⟨k1, k2, k3, k4, k5⟩, k6, k7, k8, T, n, k9⟩ := hk
  have hts := C.2.2.2.2.2.2.1
  have hR : R = zz_rm (d + 1) := C.2.2.2.2.2.2.2.2
  refine zz_behind C hl hS (rest := st) (va_runV (As := As.map (zz_v X)) (n := As.length) ⟨C.1, C.2.1, C.2.2.1, C.2.2.2.2.2.1, hts⟩ (zz_met k4 hlen hc l X) ⟨callB_of As.length hts (zz_wsgood k1) rfl rfl rfl (hts _ k2) (hts _ k6) k3 (by rw [hR]; exact zz_room k5), hts _ k7, hts _ k8⟩ ⟨zz_blind, va_recv C.2.2.2.2.2.2.2.1.1 hP k9 (zz_eO ho hK), fun U hU hW => ⟨rfl, by rw [hU]; exact hP, hD, zz_S_warm C.2.2.2.2.2.2.2.1 hU hW hS⟩⟩ rfl (by simp) (hl.2.choose_spec.1.1) (by simp [zz_v]) (lv_room (by simpa [Function.comp_def, zz_v_cat] using hw)) hd ⟨Nat.zero_le _, Nat.zero_le _⟩) k
theorem zg_callS {Q' : Option Value → zz_Hp → Prop} {M' : zz_Mi} {idx : Nat} {As : List Value} (hk : zz_lst M.1.cls idx As.length M') (hw : (st.map fun v => v.category).sum ≤ 8) (hlen : (zz_al As).length ≤ M'.2.2.1) (hd : decode M.2.1 pc = .ok (.invokestatic idx, 3))
    (hc : zz_G K N d M' Q' 0 (zz_L0 M'.2.2.1 As) [] h) (k : ∀ v h', Q' v h' → zz_G K N (d + 1) M Q (pc + 3) L (v.toList ++ st) h') : zz_G K N (d + 1) M Q pc L (As.reverse ++ st) h := by
  intro X p l e R s m args below meth c H locs ls C hl hP hD hS
  obtain ⟨⟨k1, k2, k3, k4, k5⟩, k6, k7⟩ := hk
  have hts := C.2.2.2.2.2.2.1
  have hR : R = zz_rm (d + 1) := C.2.2.2.2.2.2.2.2
  refine zz_behind C hl hS (rest := st) (va_runS (As := As.map (zz_v X)) (n := As.length) ⟨C.1, C.2.1, C.2.2.1, C.2.2.2.2.2.1, hts⟩ (zz_met k4 hlen hc l X) ⟨callB_of As.length hts (zz_wsgood k1) rfl rfl rfl (hts _ k2) (hts _ k6) k3 (by rw [hR]; exact zz_room k5), hts _ k7⟩ ⟨zz_blind, fun U hU hW => ⟨rfl, by rw [hU]; exact hP, hD, zz_S_warm C.2.2.2.2.2.2.2.1 hU hW hS⟩⟩ rfl (by simp) (hl.2.choose_spec.1.1) (by simp) (lv_room (by simpa [Function.comp_def, zz_v_cat] using hw)) hd ⟨Nat.zero_le _, Nat.zero_le _⟩) k
theorem zg_callN {Q' : Option Value → zz_Hp → Prop} {M' : zz_Mi} {idx : Nat} {As : List Value} (hk : zz_lsn M.1.cls idx As.length M') (hw : (st.map fun v => v.category).sum ≤ 8) (hlen : (zz_al As).length ≤ M'.2.2.1) (hd : decode M.2.1 pc = .ok (.invokestatic idx, 3))
    (hc : zz_G K N d M' Q' 0 (zz_L0 M'.2.2.1 As) [] h) (k : ∀ v h', Q' v h' → zz_G K N (d + 1) M Q (pc + 3) L (v.toList ++ st) h') : zz_G K N (d + 1) M Q pc L (As.reverse ++ st) h := by
  intro X p l e R s m args below meth c H locs ls C hl hP hD hS
  obtain ⟨⟨k1, k2, k3, k4, k5⟩, k7, host, k6⟩ := hk
  have hts := C.2.2.2.2.2.2.1
  have hR : R = zz_rm (d + 1) := C.2.2.2.2.2.2.2.2
  refine zz_behind C hl hS (rest := st) (va_runSN (As := As.map (zz_v X)) (n := As.length) ⟨C.1, C.2.1, C.2.2.1, C.2.2.2.2.2.1, hts⟩ (zz_met k4 hlen hc l X) ⟨va_cnB As.length hts (zz_wsgood k1) rfl rfl rfl (C.2.2.2.2.2.2.2.1.2.1 _ k6) (hts _ k2) k3 (by rw [hR]; exact zz_room k5), hts _ k7, trivial⟩ ⟨zz_blind, fun U hU hW => ⟨rfl, by rw [hU]; exact hP, hD, zz_S_warm C.2.2.2.2.2.2.2.1 hU hW hS⟩⟩ rfl (by simp) (hl.2.choose_spec.1.1) (by simp) (lv_room (by simpa [Function.comp_def, zz_v_cat] using hw)) hd ⟨Nat.zero_le _, Nat.zero_le _⟩) k
/-- Math, arraycopy -/
theorem zg_mabs {idx : Nat} {x : Int32} (hk : Cond.methodLink M.1.cls idx Lib.Math.abs.name ∈ yw ∧ Cond.static Lib.Math.abs.name ∈ yw ∧ Cond.initialized "java/lang/Math" ∈ yw ∧ Cond.code Lib.Math.abs.name Lib.Math.abs.code 1 (some .int) ∈ yw) (hw : (st.map fun v => v.category).sum ≤ 8) (hd : decode M.2.1 pc = .ok (.invokestatic idx, 3)) (k : zz_G K N (d + 1) M Q (pc + 3) L (.int (if 0 ≤ x then x else 0 - x) :: st) h) : zz_G K N (d + 1) M Q pc L (.int x :: st) h := by
  intro X p l e R s m args below meth c H locs ls C hl hP hD hS
  have hts := C.2.2.2.2.2.2.1
  have hR : R = zz_rm (d + 1) := C.2.2.2.2.2.2.2.2
  subst hR
  exact va_mabs C.1 C.2.1 (C.2.2.1.trans hl.2.choose_spec.1.1.symm) C.2.2.2.2.2.1 (hts _ hk.1) (hts _ hk.2.1) (hts _ hk.2.2.1) (hts _ hk.2.2.2) (by simp only [zz_rm]; omega) (by have : ((st.map (zz_v X)).map fun v => v.category).sum ≤ 8 := by simpa [Function.comp_def, zz_v_cat] using hw
                                                                                                                                                                                  simp only [zz_rm]; omega) (Nat.zero_le _) (Nat.zero_le _) hd (k X p l e _ s m args below meth c H locs ls C hl hP hD hS)
theorem zg_mmax {idx : Nat} {x y : Int32} (hk : Cond.methodLink M.1.cls idx Lib.Math.max.name ∈ yw ∧ Cond.static Lib.Math.max.name ∈ yw ∧ Cond.initialized "java/lang/Math" ∈ yw ∧ Cond.code Lib.Math.max.name Lib.Math.max.code 2 (some .int) ∈ yw) (hw : (st.map fun v => v.category).sum ≤ 8) (hd : decode M.2.1 pc = .ok (.invokestatic idx, 3)) (k : zz_G K N (d + 1) M Q (pc + 3) L (.int (if x < y then y else x) :: st) h) : zz_G K N (d + 1) M Q pc L (.int y :: .int x :: st) h := by
  intro X p l e R s m args below meth c H locs ls C hl hP hD hS
  have hts := C.2.2.2.2.2.2.1
  have hR : R = zz_rm (d + 1) := C.2.2.2.2.2.2.2.2
  subst hR
  exact va_mmax C.1 C.2.1 (C.2.2.1.trans hl.2.choose_spec.1.1.symm) C.2.2.2.2.2.1 (hts _ hk.1) (hts _ hk.2.1) (hts _ hk.2.2.1) (hts _ hk.2.2.2) (by simp only [zz_rm]; omega) (by have : ((st.map (zz_v X)).map fun v => v.category).sum ≤ 8 := by simpa [Function.comp_def, zz_v_cat] using hw
                                                                                                                                                                                  simp only [zz_rm]; omega) (Nat.zero_le _) (Nat.zero_le _) hd (k X p l e _ s m args below meth c H locs ls C hl hP hD hS)
theorem zg_mmin {idx : Nat} {x y : Int32} (hk : Cond.methodLink M.1.cls idx Lib.Math.min.name ∈ yw ∧ Cond.static Lib.Math.min.name ∈ yw ∧ Cond.initialized "java/lang/Math" ∈ yw ∧ Cond.code Lib.Math.min.name Lib.Math.min.code 2 (some .int) ∈ yw) (hw : (st.map fun v => v.category).sum ≤ 8) (hd : decode M.2.1 pc = .ok (.invokestatic idx, 3)) (k : zz_G K N (d + 1) M Q (pc + 3) L (.int (if y < x then y else x) :: st) h) : zz_G K N (d + 1) M Q pc L (.int y :: .int x :: st) h := by
  intro X p l e R s m args below meth c H locs ls C hl hP hD hS
  have hts := C.2.2.2.2.2.2.1
  have hR : R = zz_rm (d + 1) := C.2.2.2.2.2.2.2.2
  subst hR
  exact va_mmin C.1 C.2.1 (C.2.2.1.trans hl.2.choose_spec.1.1.symm) C.2.2.2.2.2.1 (hts _ hk.1) (hts _ hk.2.1) (hts _ hk.2.2.1) (hts _ hk.2.2.2) (by simp only [zz_rm]; omega) (by have : ((st.map (zz_v X)).map fun v => v.category).sum ≤ 8 := by simpa [Function.comp_def, zz_v_cat] using hw
                                                                                                                                                                                  simp only [zz_rm]; omega) (Nat.zero_le _) (Nat.zero_le _) hd (k X p l e _ s m args below meth c H locs ls C hl hP hD hS)
theorem zg_copy {idx a b n0 n1 : Nat} {sp dp n : Int32} (hk : Cond.methodLink M.1.cls idx arraycopyName ∈ yw ∧ Cond.native arraycopyName ∈ yw ∧ Cond.static arraycopyName ∈ yw ∧ Cond.initialized "java/lang/System" ∈ yw) (hKa : K a = .inr (0, n0)) (hKb : K b = .inr (0, n1)) (ha : a < N) (hb : b < N) (h1 : ¬ sp < 0) (h2 : ¬ dp < 0) (h3 : ¬ n < 0) (h4 : sp.toNatClampNeg + n.toNatClampNeg ≤ n0) (h5 : dp.toNatClampNeg + n.toNatClampNeg ≤ n1) (hw : (st.map fun v => v.category).sum ≤ 8) (hd : decode M.2.1 pc = .ok (.invokestatic idx, 3))
    (k : zz_G K N (d + 1) M Q (pc + 3) L st (zz_uC h a b sp.toNatClampNeg dp.toNatClampNeg n.toNatClampNeg)) : zz_G K N (d + 1) M Q pc L (.int n :: .int dp :: .ref b :: .int sp :: .ref a :: st) h := by
  intro X p l e R s m args below meth c H locs ls C hl hP hD hS
  have hts := C.2.2.2.2.2.2.1
  have hR : R = zz_rm (d + 1) := C.2.2.2.2.2.2.2.2
  subst hR
  have hw' : ((st.map (zz_v X)).map fun v => v.category).sum ≤ 8 := by simpa [Function.comp_def, zz_v_cat] using hw
  refine va_copyi C.1 C.2.1 (C.2.2.1.trans hl.2.choose_spec.1.1.symm) C.2.2.2.2.2.1 (hts _ hk.1) (hts _ hk.2.1) (hts _ hk.2.2.1) (hts _ hk.2.2.2) C.2.2.2.2.2.2.2.1.1 hP hD hS a b 0 0 (ty := .int) (zz_eI ha hKa (by decide)) (zz_eI hb hKb (by decide)) rfl rfl rfl h1 h2 h3 h4 h5 (fun _ _ => rfl) (by simp only [zz_rm]; omega) (by
    have e5 : nativeFrameWords "java/lang/System" "arraycopy" 5 = 7 := by decide
    rw [e5]
    show _ ≤ 64 * (d + 1)
    omega) hd fun H1 locs1 a1 a2 a3 => ?_
  have eW : (zz_w X K N h).set b (X.2.2 b, .inl (X.2.1 0, n1, .inl (va_cpy (h.1 a) (h.1 b) sp.toNatClampNeg dp.toNatClampNeg n.toNatClampNeg))) = zz_w X K N (zz_uC h a b sp.toNatClampNeg dp.toNatClampNeg n.toNatClampNeg) := by
    refine zz_set ?_ (fun k hk => zz_uC_ne hk)
    simp [zz_e, hKb, zz_ex, zz_uC]
  rw [eW] at a1 a2
  exact k X p l e _ s m args below meth c H1 locs1 ls C hl a1 a2 a3
/-- calls by the kind of answer -/
theorem zg_callVi {Q' : Int32 → zz_Hp → Prop} {M' : zz_Mi} {idx ci o : Nat} {fs : List (Option Nat)} {As stk : List Value} (hk : zz_lv M.1.cls idx ci As.length M') (hK : K o = .inl (ci, fs)) (ho : o < N) (hstk : stk = As.reverse ++ .ref o :: st) (hw : (st.map fun v => v.category).sum ≤ 8) (hlen : (zz_al (.ref o :: As)).length ≤ M'.2.2.1) (hd : decode M.2.1 pc = .ok (.invokevirtual idx, 3)) (hc : zz_G K N d M' (qI Q') 0 (zz_L0 M'.2.2.1 (.ref o :: As)) [] h) (k : ∀ r h', Q' r h' → zz_G K N (d + 1) M Q (pc + 3) L (.int r :: st) h') : zz_G K N (d + 1) M Q pc L stk h := by
  subst hstk
  exact zg_callV hk hK ho hw hlen hd hc fun v h' hq => by obtain ⟨r, rfl, hq⟩ := hq; exact k r h' hq
theorem zg_callVl {Q' : Int64 → zz_Hp → Prop} {M' : zz_Mi} {idx ci o : Nat} {fs : List (Option Nat)} {As stk : List Value} (hk : zz_lv M.1.cls idx ci As.length M') (hK : K o = .inl (ci, fs)) (ho : o < N) (hstk : stk = As.reverse ++ .ref o :: st) (hw : (st.map fun v => v.category).sum ≤ 8) (hlen : (zz_al (.ref o :: As)).length ≤ M'.2.2.1) (hd : decode M.2.1 pc = .ok (.invokevirtual idx, 3)) (hc : zz_G K N d M' (qL Q') 0 (zz_L0 M'.2.2.1 (.ref o :: As)) [] h) (k : ∀ r h', Q' r h' → zz_G K N (d + 1) M Q (pc + 3) L (.long r :: st) h') : zz_G K N (d + 1) M Q pc L stk h := by
  subst hstk
  exact zg_callV hk hK ho hw hlen hd hc fun v h' hq => by obtain ⟨r, rfl, hq⟩ := hq; exact k r h' hq
theorem zg_callVv {Q' : zz_Hp → Prop} {M' : zz_Mi} {idx ci o : Nat} {fs : List (Option Nat)} {As stk : List Value} (hk : zz_lv M.1.cls idx ci As.length M') (hK : K o = .inl (ci, fs)) (ho : o < N) (hstk : stk = As.reverse ++ .ref o :: st) (hw : (st.map fun v => v.category).sum ≤ 8) (hlen : (zz_al (.ref o :: As)).length ≤ M'.2.2.1) (hd : decode M.2.1 pc = .ok (.invokevirtual idx, 3)) (hc : zz_G K N d M' (qV Q') 0 (zz_L0 M'.2.2.1 (.ref o :: As)) [] h) (k : ∀ h', Q' h' → zz_G K N (d + 1) M Q (pc + 3) L st h') : zz_G K N (d + 1) M Q pc L stk h := by
  subst hstk
  exact zg_callV hk hK ho hw hlen hd hc fun v h' hq => by obtain ⟨rfl, hq⟩ := hq; exact k h' hq
theorem zg_callSi {Q' : Int32 → zz_Hp → Prop} {M' : zz_Mi} {idx : Nat} {As stk : List Value} (hk : zz_lst M.1.cls idx As.length M') (hstk : stk = As.reverse ++ st) (hw : (st.map fun v => v.category).sum ≤ 8) (hlen : (zz_al As).length ≤ M'.2.2.1) (hd : decode M.2.1 pc = .ok (.invokestatic idx, 3)) (hc : zz_G K N d M' (qI Q') 0 (zz_L0 M'.2.2.1 As) [] h) (k : ∀ r h', Q' r h' → zz_G K N (d + 1) M Q (pc + 3) L (.int r :: st) h') : zz_G K N (d + 1) M Q pc L stk h := by
  subst hstk
  exact zg_callS hk hw hlen hd hc fun v h' hq => by obtain ⟨r, rfl, hq⟩ := hq; exact k r h' hq
theorem zg_callSl {Q' : Int64 → zz_Hp → Prop} {M' : zz_Mi} {idx : Nat} {As stk : List Value} (hk : zz_lst M.1.cls idx As.length M') (hstk : stk = As.reverse ++ st) (hw : (st.map fun v => v.category).sum ≤ 8) (hlen : (zz_al As).length ≤ M'.2.2.1) (hd : decode M.2.1 pc = .ok (.invokestatic idx, 3)) (hc : zz_G K N d M' (qL Q') 0 (zz_L0 M'.2.2.1 As) [] h) (k : ∀ r h', Q' r h' → zz_G K N (d + 1) M Q (pc + 3) L (.long r :: st) h') : zz_G K N (d + 1) M Q pc L stk h := by
  subst hstk
  exact zg_callS hk hw hlen hd hc fun v h' hq => by obtain ⟨r, rfl, hq⟩ := hq; exact k r h' hq
theorem zg_callSv {Q' : zz_Hp → Prop} {M' : zz_Mi} {idx : Nat} {As stk : List Value} (hk : zz_lst M.1.cls idx As.length M') (hstk : stk = As.reverse ++ st) (hw : (st.map fun v => v.category).sum ≤ 8) (hlen : (zz_al As).length ≤ M'.2.2.1) (hd : decode M.2.1 pc = .ok (.invokestatic idx, 3)) (hc : zz_G K N d M' (qV Q') 0 (zz_L0 M'.2.2.1 As) [] h) (k : ∀ h', Q' h' → zz_G K N (d + 1) M Q (pc + 3) L st h') : zz_G K N (d + 1) M Q pc L stk h := by
  subst hstk
  exact zg_callS hk hw hlen hd hc fun v h' hq => by obtain ⟨rfl, hq⟩ := hq; exact k h' hq
theorem zg_callNi {Q' : Int32 → zz_Hp → Prop} {M' : zz_Mi} {idx : Nat} {As stk : List Value} (hk : zz_lsn M.1.cls idx As.length M') (hstk : stk = As.reverse ++ st) (hw : (st.map fun v => v.category).sum ≤ 8) (hlen : (zz_al As).length ≤ M'.2.2.1) (hd : decode M.2.1 pc = .ok (.invokestatic idx, 3)) (hc : zz_G K N d M' (qI Q') 0 (zz_L0 M'.2.2.1 As) [] h) (k : ∀ r h', Q' r h' → zz_G K N (d + 1) M Q (pc + 3) L (.int r :: st) h') : zz_G K N (d + 1) M Q pc L stk h := by
  subst hstk
  exact zg_callN hk hw hlen hd hc fun v h' hq => by obtain ⟨r, rfl, hq⟩ := hq; exact k r h' hq
end ZR
/-- loops: the body says what must hold, 'again' stands for the loop's head -/
def wh {σ : Type} (body : σ → (σ → Prop) → Prop) : Nat → σ → Prop
  | 0, _ => False
  | n + 1, s => body s (wh body n)
def lp {σ : Type} (body : σ → (σ → Prop) → Prop) (s : σ) : Prop := ∃ n, wh body n s
theorem lp_ind {σ : Type} {body : σ → (σ → Prop) → Prop} (I : σ → Prop) (μ : σ → Nat) (hs : ∀ s, I s → ∀ again : σ → Prop, (∀ s', I s' → μ s' < μ s → again s') → body s again) (s : σ) (h : I s) : lp body s := by
  have key : ∀ n s, I s → μ s < n → wh body n s := by
    intro n
    induction n with
    | zero => intro s _ h; omega
    | succ n ih => intro s hI hm; exact hs s hI _ (fun s' hI' hm' => ih s' hI' (by omega))
  exact ⟨μ s + 1, key _ s h (Nat.lt_succ_self _)⟩
theorem lp_sound {σ : Type} {body : σ → (σ → Prop) → Prop} {G : σ → Prop} (hb : ∀ s (again : σ → Prop), (∀ s', again s' → G s') → body s again → G s) {s : σ} (h : lp body s) : G s := by
  obtain ⟨n, h⟩ := h
  induction n generalizing s with
  | zero => exact h.elim
  | succ n ih => exact hb s _ (fun s' h' => ih h') h
end
