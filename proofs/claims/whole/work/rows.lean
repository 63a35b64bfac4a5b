section
-- ===== PART A: goes FIRST, ahead of the names: the tables' words, and 'selects' of the private methods out of them =====
/-- a private method of a class that the tables say can be made, by its rows of tables_1 -/
def lw_okq (q : MethodName × Nat) : Prop := (q.1.cls ≠ "java/lang/invoke/MethodHandle" ∧ q.1.cls ≠ "java/lang/invoke/VarHandle") ∧ Cond.instantiable q.1.cls q.2 ∈ tables_1 ∧ Cond.privateMethod q.1 ∈ tables_1 ∧ Cond.instanceMethod q.1 ∈ tables_1
theorem lw_p0 : lw_okq (⟨"NumberRiver", "seriesAt", "(I)LNumberRiver$Series;"⟩, 4) := ⟨⟨by decide +kernel, by decide +kernel⟩, List.mem_of_getElem? (i := 14) (by decide +kernel), List.mem_of_getElem? (i := 203) (by decide +kernel), List.mem_of_getElem? (i := 204) (by decide +kernel)⟩
theorem lw_p1 : lw_okq (⟨"NumberRiver$Series", "placeLate", "(IJ)I"⟩, 9) := ⟨⟨by decide +kernel, by decide +kernel⟩, List.mem_of_getElem? (i := 150) (by decide +kernel), List.mem_of_getElem? (i := 264) (by decide +kernel), List.mem_of_getElem? (i := 265) (by decide +kernel)⟩
theorem lw_p2 : lw_okq (⟨"NumberRiver$Series", "openBlock", "()LNumberRiver$Block;"⟩, 9) := ⟨⟨by decide +kernel, by decide +kernel⟩, List.mem_of_getElem? (i := 150) (by decide +kernel), List.mem_of_getElem? (i := 296) (by decide +kernel), List.mem_of_getElem? (i := 297) (by decide +kernel)⟩
theorem lw_p3 : lw_okq (⟨"NumberRiver$Block", "write", "(JI)V"⟩, 14) := ⟨⟨by decide +kernel, by decide +kernel⟩, List.mem_of_getElem? (i := 299) (by decide +kernel), List.mem_of_getElem? (i := 375) (by decide +kernel), List.mem_of_getElem? (i := 376) (by decide +kernel)⟩
theorem lw_p4 : lw_okq (⟨"NumberRiver$Block", "writeStepChange", "(I)V"⟩, 14) := ⟨⟨by decide +kernel, by decide +kernel⟩, List.mem_of_getElem? (i := 299) (by decide +kernel), List.mem_of_getElem? (i := 379) (by decide +kernel), List.mem_of_getElem? (i := 380) (by decide +kernel)⟩
theorem lw_p5 : lw_okq (⟨"NumberRiver$Block", "writeValueChange", "(J)V"⟩, 14) := ⟨⟨by decide +kernel, by decide +kernel⟩, List.mem_of_getElem? (i := 299) (by decide +kernel), List.mem_of_getElem? (i := 390) (by decide +kernel), List.mem_of_getElem? (i := 391) (by decide +kernel)⟩
theorem lw_p6 : lw_okq (⟨"NumberRiver$Reader", "read", "(I)J"⟩, 8) := ⟨⟨by decide +kernel, by decide +kernel⟩, List.mem_of_getElem? (i := 30) (by decide +kernel), List.mem_of_getElem? (i := 451) (by decide +kernel), List.mem_of_getElem? (i := 452) (by decide +kernel)⟩
theorem lw_p7 : lw_okq (⟨"NumberRiver$Reader", "readStepChange", "()I"⟩, 8) := ⟨⟨by decide +kernel, by decide +kernel⟩, List.mem_of_getElem? (i := 30) (by decide +kernel), List.mem_of_getElem? (i := 455) (by decide +kernel), List.mem_of_getElem? (i := 456) (by decide +kernel)⟩
theorem lw_p8 : lw_okq (⟨"NumberRiver$Reader", "readValueChange", "()J"⟩, 8) := ⟨⟨by decide +kernel, by decide +kernel⟩, List.mem_of_getElem? (i := 30) (by decide +kernel), List.mem_of_getElem? (i := 461) (by decide +kernel), List.mem_of_getElem? (i := 462) (by decide +kernel)⟩
theorem lw_p9 : lw_okq (⟨"NumberRiver$Gatherer", "takeMain", "(LNumberRiver$Series;IJ)V"⟩, 7) := ⟨⟨by decide +kernel, by decide +kernel⟩, List.mem_of_getElem? (i := 24) (by decide +kernel), List.mem_of_getElem? (i := 465) (by decide +kernel), List.mem_of_getElem? (i := 466) (by decide +kernel)⟩
theorem lw_p10 : lw_okq (⟨"NumberRiver$Gatherer", "takeLateBelow", "(LNumberRiver$Series;I)V"⟩, 7) := ⟨⟨by decide +kernel, by decide +kernel⟩, List.mem_of_getElem? (i := 24) (by decide +kernel), List.mem_of_getElem? (i := 469) (by decide +kernel), List.mem_of_getElem? (i := 470) (by decide +kernel)⟩
theorem lw_p11 : lw_okq (⟨"NumberRiver$Gatherer", "add", "(IJ)V"⟩, 7) := ⟨⟨by decide +kernel, by decide +kernel⟩, List.mem_of_getElem? (i := 24) (by decide +kernel), List.mem_of_getElem? (i := 478) (by decide +kernel), List.mem_of_getElem? (i := 479) (by decide +kernel)⟩
theorem lw_p12 : lw_okq (⟨"NumberRiver$Series", "openSpan", "(II)LNumberRiver$Span;"⟩, 9) := ⟨⟨by decide +kernel, by decide +kernel⟩, List.mem_of_getElem? (i := 150) (by decide +kernel), List.mem_of_getElem? (i := 518) (by decide +kernel), List.mem_of_getElem? (i := 519) (by decide +kernel)⟩
theorem lw_p13 : lw_okq (⟨"NumberRiver", "blockOf", "(II)LNumberRiver$Block;"⟩, 4) := ⟨⟨by decide +kernel, by decide +kernel⟩, List.mem_of_getElem? (i := 14) (by decide +kernel), List.mem_of_getElem? (i := 595) (by decide +kernel), List.mem_of_getElem? (i := 596) (by decide +kernel)⟩
theorem lw_p14 : lw_okq (⟨"NumberRiver$Question", "lookAtSpans", "(LNumberRiver$Series;)V"⟩, 9) := ⟨⟨by decide +kernel, by decide +kernel⟩, List.mem_of_getElem? (i := 93) (by decide +kernel), List.mem_of_getElem? (i := 687) (by decide +kernel), List.mem_of_getElem? (i := 688) (by decide +kernel)⟩
theorem lw_p15 : lw_okq (⟨"NumberRiver$Question", "found", "(IJJJ)V"⟩, 9) := ⟨⟨by decide +kernel, by decide +kernel⟩, List.mem_of_getElem? (i := 93) (by decide +kernel), List.mem_of_getElem? (i := 696) (by decide +kernel), List.mem_of_getElem? (i := 697) (by decide +kernel)⟩
def lw_privs_1 : List (MethodName × Nat) := [(⟨"NumberRiver", "seriesAt", "(I)LNumberRiver$Series;"⟩, 4), (⟨"NumberRiver$Series", "placeLate", "(IJ)I"⟩, 9), (⟨"NumberRiver$Series", "openBlock", "()LNumberRiver$Block;"⟩, 9), (⟨"NumberRiver$Block", "write", "(JI)V"⟩, 14), (⟨"NumberRiver$Block", "writeStepChange", "(I)V"⟩, 14), (⟨"NumberRiver$Block", "writeValueChange", "(J)V"⟩, 14), (⟨"NumberRiver$Reader", "read", "(I)J"⟩, 8), (⟨"NumberRiver$Reader", "readStepChange", "()I"⟩, 8), (⟨"NumberRiver$Reader", "readValueChange", "()J"⟩, 8), (⟨"NumberRiver$Gatherer", "takeMain", "(LNumberRiver$Series;IJ)V"⟩, 7), (⟨"NumberRiver$Gatherer", "takeLateBelow", "(LNumberRiver$Series;I)V"⟩, 7), (⟨"NumberRiver$Gatherer", "add", "(IJ)V"⟩, 7), (⟨"NumberRiver$Series", "openSpan", "(II)LNumberRiver$Span;"⟩, 9), (⟨"NumberRiver", "blockOf", "(II)LNumberRiver$Block;"⟩, 4), (⟨"NumberRiver$Question", "lookAtSpans", "(LNumberRiver$Series;)V"⟩, 9), (⟨"NumberRiver$Question", "found", "(IJJJ)V"⟩, 9)]
theorem lw_r1 : ∀ q ∈ lw_privs_1, lw_okq q := List.forall_mem_cons.mpr ⟨lw_p0, List.forall_mem_cons.mpr ⟨lw_p1, List.forall_mem_cons.mpr ⟨lw_p2, List.forall_mem_cons.mpr ⟨lw_p3, List.forall_mem_cons.mpr ⟨lw_p4, List.forall_mem_cons.mpr ⟨lw_p5, List.forall_mem_cons.mpr ⟨lw_p6, List.forall_mem_cons.mpr ⟨lw_p7, List.forall_mem_cons.mpr ⟨lw_p8, List.forall_mem_cons.mpr ⟨lw_p9, List.forall_mem_cons.mpr ⟨lw_p10, List.forall_mem_cons.mpr ⟨lw_p11, List.forall_mem_cons.mpr ⟨lw_p12, List.forall_mem_cons.mpr ⟨lw_p13, List.forall_mem_cons.mpr ⟨lw_p14, List.forall_mem_cons.mpr ⟨lw_p15, fun _ h => absurd h List.not_mem_nil⟩⟩⟩⟩⟩⟩⟩⟩⟩⟩⟩⟩⟩⟩⟩⟩
theorem lw_p16 : lw_okq (⟨"NumberRiverModel", "isSeries", "(I)Z"⟩, 30) := ⟨⟨by decide +kernel, by decide +kernel⟩, List.mem_of_getElem? (i := 782) (by decide +kernel), List.mem_of_getElem? (i := 888) (by decide +kernel), List.mem_of_getElem? (i := 889) (by decide +kernel)⟩
theorem lw_p17 : lw_okq (⟨"NumberRiverModel", "has", "(III)Z"⟩, 30) := ⟨⟨by decide +kernel, by decide +kernel⟩, List.mem_of_getElem? (i := 782) (by decide +kernel), List.mem_of_getElem? (i := 896) (by decide +kernel), List.mem_of_getElem? (i := 897) (by decide +kernel)⟩
theorem lw_p18 : lw_okq (⟨"NumberRiverModel", "placed", "(IJJ)I"⟩, 30) := ⟨⟨by decide +kernel, by decide +kernel⟩, List.mem_of_getElem? (i := 782) (by decide +kernel), List.mem_of_getElem? (i := 904) (by decide +kernel), List.mem_of_getElem? (i := 905) (by decide +kernel)⟩
theorem lw_p19 : lw_okq (⟨"NumberRiverModel", "isValue", "(IJ)Z"⟩, 30) := ⟨⟨by decide +kernel, by decide +kernel⟩, List.mem_of_getElem? (i := 782) (by decide +kernel), List.mem_of_getElem? (i := 909) (by decide +kernel), List.mem_of_getElem? (i := 910) (by decide +kernel)⟩
theorem lw_p20 : lw_okq (⟨"NumberRiverModel", "lastEnd", "(I)I"⟩, 30) := ⟨⟨by decide +kernel, by decide +kernel⟩, List.mem_of_getElem? (i := 782) (by decide +kernel), List.mem_of_getElem? (i := 915) (by decide +kernel), List.mem_of_getElem? (i := 916) (by decide +kernel)⟩
theorem lw_p21 : lw_okq (⟨"NumberRiverModel", "spot", "(II)I"⟩, 30) := ⟨⟨by decide +kernel, by decide +kernel⟩, List.mem_of_getElem? (i := 782) (by decide +kernel), List.mem_of_getElem? (i := 919) (by decide +kernel), List.mem_of_getElem? (i := 920) (by decide +kernel)⟩
theorem lw_p22 : lw_okq (⟨"NumberRiverModel", "isTorn", "(II)Z"⟩, 30) := ⟨⟨by decide +kernel, by decide +kernel⟩, List.mem_of_getElem? (i := 782) (by decide +kernel), List.mem_of_getElem? (i := 923) (by decide +kernel), List.mem_of_getElem? (i := 924) (by decide +kernel)⟩
theorem lw_p23 : lw_okq (⟨"NumberRiverModel", "mask", "(III)I"⟩, 30) := ⟨⟨by decide +kernel, by decide +kernel⟩, List.mem_of_getElem? (i := 782) (by decide +kernel), List.mem_of_getElem? (i := 927) (by decide +kernel), List.mem_of_getElem? (i := 928) (by decide +kernel)⟩
theorem lw_p24 : lw_okq (⟨"NumberRiverModel", "addMain", "(IIJZ)V"⟩, 30) := ⟨⟨by decide +kernel, by decide +kernel⟩, List.mem_of_getElem? (i := 782) (by decide +kernel), List.mem_of_getElem? (i := 931) (by decide +kernel), List.mem_of_getElem? (i := 932) (by decide +kernel)⟩
theorem lw_p25 : lw_okq (⟨"NumberRiverModel", "lateAt", "(II)I"⟩, 30) := ⟨⟨by decide +kernel, by decide +kernel⟩, List.mem_of_getElem? (i := 782) (by decide +kernel), List.mem_of_getElem? (i := 935) (by decide +kernel), List.mem_of_getElem? (i := 936) (by decide +kernel)⟩
theorem lw_p26 : lw_okq (⟨"NumberRiverModel", "isLate", "(II)Z"⟩, 30) := ⟨⟨by decide +kernel, by decide +kernel⟩, List.mem_of_getElem? (i := 782) (by decide +kernel), List.mem_of_getElem? (i := 939) (by decide +kernel), List.mem_of_getElem? (i := 940) (by decide +kernel)⟩
theorem lw_p27 : lw_okq (⟨"NumberRiverModel", "tornBlocks", "(I)I"⟩, 30) := ⟨⟨by decide +kernel, by decide +kernel⟩, List.mem_of_getElem? (i := 782) (by decide +kernel), List.mem_of_getElem? (i := 952) (by decide +kernel), List.mem_of_getElem? (i := 953) (by decide +kernel)⟩
theorem lw_p28 : lw_okq (⟨"NumberRiverModel", "reblock", "(I)V"⟩, 30) := ⟨⟨by decide +kernel, by decide +kernel⟩, List.mem_of_getElem? (i := 782) (by decide +kernel), List.mem_of_getElem? (i := 956) (by decide +kernel), List.mem_of_getElem? (i := 957) (by decide +kernel)⟩
theorem lw_p29 : lw_okq (⟨"NumberRiverModel", "lastTime", "(II)I"⟩, 30) := ⟨⟨by decide +kernel, by decide +kernel⟩, List.mem_of_getElem? (i := 782) (by decide +kernel), List.mem_of_getElem? (i := 969) (by decide +kernel), List.mem_of_getElem? (i := 970) (by decide +kernel)⟩
theorem lw_p30 : lw_okq (⟨"NumberRiverModel", "start", "(II)I"⟩, 30) := ⟨⟨by decide +kernel, by decide +kernel⟩, List.mem_of_getElem? (i := 782) (by decide +kernel), List.mem_of_getElem? (i := 973) (by decide +kernel), List.mem_of_getElem? (i := 974) (by decide +kernel)⟩
theorem lw_p31 : lw_okq (⟨"NumberRiverModel", "isBlock", "(II)Z"⟩, 30) := ⟨⟨by decide +kernel, by decide +kernel⟩, List.mem_of_getElem? (i := 782) (by decide +kernel), List.mem_of_getElem? (i := 981) (by decide +kernel), List.mem_of_getElem? (i := 982) (by decide +kernel)⟩
def lw_privs_2 : List (MethodName × Nat) := [(⟨"NumberRiverModel", "isSeries", "(I)Z"⟩, 30), (⟨"NumberRiverModel", "has", "(III)Z"⟩, 30), (⟨"NumberRiverModel", "placed", "(IJJ)I"⟩, 30), (⟨"NumberRiverModel", "isValue", "(IJ)Z"⟩, 30), (⟨"NumberRiverModel", "lastEnd", "(I)I"⟩, 30), (⟨"NumberRiverModel", "spot", "(II)I"⟩, 30), (⟨"NumberRiverModel", "isTorn", "(II)Z"⟩, 30), (⟨"NumberRiverModel", "mask", "(III)I"⟩, 30), (⟨"NumberRiverModel", "addMain", "(IIJZ)V"⟩, 30), (⟨"NumberRiverModel", "lateAt", "(II)I"⟩, 30), (⟨"NumberRiverModel", "isLate", "(II)Z"⟩, 30), (⟨"NumberRiverModel", "tornBlocks", "(I)I"⟩, 30), (⟨"NumberRiverModel", "reblock", "(I)V"⟩, 30), (⟨"NumberRiverModel", "lastTime", "(II)I"⟩, 30), (⟨"NumberRiverModel", "start", "(II)I"⟩, 30), (⟨"NumberRiverModel", "isBlock", "(II)Z"⟩, 30)]
theorem lw_r2 : ∀ q ∈ lw_privs_2, lw_okq q := List.forall_mem_cons.mpr ⟨lw_p16, List.forall_mem_cons.mpr ⟨lw_p17, List.forall_mem_cons.mpr ⟨lw_p18, List.forall_mem_cons.mpr ⟨lw_p19, List.forall_mem_cons.mpr ⟨lw_p20, List.forall_mem_cons.mpr ⟨lw_p21, List.forall_mem_cons.mpr ⟨lw_p22, List.forall_mem_cons.mpr ⟨lw_p23, List.forall_mem_cons.mpr ⟨lw_p24, List.forall_mem_cons.mpr ⟨lw_p25, List.forall_mem_cons.mpr ⟨lw_p26, List.forall_mem_cons.mpr ⟨lw_p27, List.forall_mem_cons.mpr ⟨lw_p28, List.forall_mem_cons.mpr ⟨lw_p29, List.forall_mem_cons.mpr ⟨lw_p30, List.forall_mem_cons.mpr ⟨lw_p31, fun _ h => absurd h List.not_mem_nil⟩⟩⟩⟩⟩⟩⟩⟩⟩⟩⟩⟩⟩⟩⟩⟩
theorem lw_p32 : lw_okq (⟨"NumberRiverModel", "write", "(II)V"⟩, 30) := ⟨⟨by decide +kernel, by decide +kernel⟩, List.mem_of_getElem? (i := 782) (by decide +kernel), List.mem_of_getElem? (i := 985) (by decide +kernel), List.mem_of_getElem? (i := 986) (by decide +kernel)⟩
theorem lw_p33 : lw_okq (⟨"NumberRiverModel", "bits", "(JI)V"⟩, 30) := ⟨⟨by decide +kernel, by decide +kernel⟩, List.mem_of_getElem? (i := 782) (by decide +kernel), List.mem_of_getElem? (i := 989) (by decide +kernel), List.mem_of_getElem? (i := 990) (by decide +kernel)⟩
theorem lw_p34 : lw_okq (⟨"NumberRiverModel", "bit", "(I)V"⟩, 30) := ⟨⟨by decide +kernel, by decide +kernel⟩, List.mem_of_getElem? (i := 782) (by decide +kernel), List.mem_of_getElem? (i := 993) (by decide +kernel), List.mem_of_getElem? (i := 994) (by decide +kernel)⟩
theorem lw_p35 : lw_okq (⟨"NumberRiverModel", "step", "(J)V"⟩, 30) := ⟨⟨by decide +kernel, by decide +kernel⟩, List.mem_of_getElem? (i := 782) (by decide +kernel), List.mem_of_getElem? (i := 997) (by decide +kernel), List.mem_of_getElem? (i := 998) (by decide +kernel)⟩
theorem lw_p36 : lw_okq (⟨"NumberRiverModel", "ones", "(I)V"⟩, 30) := ⟨⟨by decide +kernel, by decide +kernel⟩, List.mem_of_getElem? (i := 782) (by decide +kernel), List.mem_of_getElem? (i := 1007) (by decide +kernel), List.mem_of_getElem? (i := 1008) (by decide +kernel)⟩
theorem lw_p37 : lw_okq (⟨"NumberRiverModel", "bytes", "()I"⟩, 30) := ⟨⟨by decide +kernel, by decide +kernel⟩, List.mem_of_getElem? (i := 782) (by decide +kernel), List.mem_of_getElem? (i := 1014) (by decide +kernel), List.mem_of_getElem? (i := 1015) (by decide +kernel)⟩
theorem lw_p38 : lw_okq (⟨"NumberRiverModel", "firstTime", "(II)I"⟩, 30) := ⟨⟨by decide +kernel, by decide +kernel⟩, List.mem_of_getElem? (i := 782) (by decide +kernel), List.mem_of_getElem? (i := 1018) (by decide +kernel), List.mem_of_getElem? (i := 1019) (by decide +kernel)⟩
theorem lw_p39 : lw_okq (⟨"NumberRiverModel", "isByte", "(III)Z"⟩, 30) := ⟨⟨by decide +kernel, by decide +kernel⟩, List.mem_of_getElem? (i := 782) (by decide +kernel), List.mem_of_getElem? (i := 1031) (by decide +kernel), List.mem_of_getElem? (i := 1032) (by decide +kernel)⟩
theorem lw_p40 : lw_okq (⟨"NumberRiverModel", "isWindow", "(II)Z"⟩, 30) := ⟨⟨by decide +kernel, by decide +kernel⟩, List.mem_of_getElem? (i := 782) (by decide +kernel), List.mem_of_getElem? (i := 1059) (by decide +kernel), List.mem_of_getElem? (i := 1060) (by decide +kernel)⟩
theorem lw_p41 : lw_okq (⟨"NumberRiverModel", "clear", "()V"⟩, 30) := ⟨⟨by decide +kernel, by decide +kernel⟩, List.mem_of_getElem? (i := 782) (by decide +kernel), List.mem_of_getElem? (i := 1063) (by decide +kernel), List.mem_of_getElem? (i := 1064) (by decide +kernel)⟩
theorem lw_p42 : lw_okq (⟨"NumberRiverModel", "look", "(IIII)V"⟩, 30) := ⟨⟨by decide +kernel, by decide +kernel⟩, List.mem_of_getElem? (i := 782) (by decide +kernel), List.mem_of_getElem? (i := 1067) (by decide +kernel), List.mem_of_getElem? (i := 1068) (by decide +kernel)⟩
theorem lw_p43 : lw_okq (⟨"NumberRiverModel", "touches", "(IIII)Z"⟩, 30) := ⟨⟨by decide +kernel, by decide +kernel⟩, List.mem_of_getElem? (i := 782) (by decide +kernel), List.mem_of_getElem? (i := 1071) (by decide +kernel), List.mem_of_getElem? (i := 1072) (by decide +kernel)⟩
theorem lw_p44 : lw_okq (⟨"NumberRiverModel", "counted", "(III)I"⟩, 30) := ⟨⟨by decide +kernel, by decide +kernel⟩, List.mem_of_getElem? (i := 782) (by decide +kernel), List.mem_of_getElem? (i := 1075) (by decide +kernel), List.mem_of_getElem? (i := 1076) (by decide +kernel)⟩
theorem lw_p45 : lw_okq (⟨"NumberRiverModel", "take", "(I)V"⟩, 30) := ⟨⟨by decide +kernel, by decide +kernel⟩, List.mem_of_getElem? (i := 782) (by decide +kernel), List.mem_of_getElem? (i := 1079) (by decide +kernel), List.mem_of_getElem? (i := 1080) (by decide +kernel)⟩
theorem lw_p46 : lw_okq (⟨"NumberRiverModel", "add", "(IJ)V"⟩, 30) := ⟨⟨by decide +kernel, by decide +kernel⟩, List.mem_of_getElem? (i := 782) (by decide +kernel), List.mem_of_getElem? (i := 1083) (by decide +kernel), List.mem_of_getElem? (i := 1084) (by decide +kernel)⟩
theorem lw_p47 : lw_okq (⟨"NumberRiverModel", "isIn", "(III)Z"⟩, 30) := ⟨⟨by decide +kernel, by decide +kernel⟩, List.mem_of_getElem? (i := 782) (by decide +kernel), List.mem_of_getElem? (i := 1087) (by decide +kernel), List.mem_of_getElem? (i := 1088) (by decide +kernel)⟩
def lw_privs_3 : List (MethodName × Nat) := [(⟨"NumberRiverModel", "write", "(II)V"⟩, 30), (⟨"NumberRiverModel", "bits", "(JI)V"⟩, 30), (⟨"NumberRiverModel", "bit", "(I)V"⟩, 30), (⟨"NumberRiverModel", "step", "(J)V"⟩, 30), (⟨"NumberRiverModel", "ones", "(I)V"⟩, 30), (⟨"NumberRiverModel", "bytes", "()I"⟩, 30), (⟨"NumberRiverModel", "firstTime", "(II)I"⟩, 30), (⟨"NumberRiverModel", "isByte", "(III)Z"⟩, 30), (⟨"NumberRiverModel", "isWindow", "(II)Z"⟩, 30), (⟨"NumberRiverModel", "clear", "()V"⟩, 30), (⟨"NumberRiverModel", "look", "(IIII)V"⟩, 30), (⟨"NumberRiverModel", "touches", "(IIII)Z"⟩, 30), (⟨"NumberRiverModel", "counted", "(III)I"⟩, 30), (⟨"NumberRiverModel", "take", "(I)V"⟩, 30), (⟨"NumberRiverModel", "add", "(IJ)V"⟩, 30), (⟨"NumberRiverModel", "isIn", "(III)Z"⟩, 30)]
theorem lw_r3 : ∀ q ∈ lw_privs_3, lw_okq q := List.forall_mem_cons.mpr ⟨lw_p32, List.forall_mem_cons.mpr ⟨lw_p33, List.forall_mem_cons.mpr ⟨lw_p34, List.forall_mem_cons.mpr ⟨lw_p35, List.forall_mem_cons.mpr ⟨lw_p36, List.forall_mem_cons.mpr ⟨lw_p37, List.forall_mem_cons.mpr ⟨lw_p38, List.forall_mem_cons.mpr ⟨lw_p39, List.forall_mem_cons.mpr ⟨lw_p40, List.forall_mem_cons.mpr ⟨lw_p41, List.forall_mem_cons.mpr ⟨lw_p42, List.forall_mem_cons.mpr ⟨lw_p43, List.forall_mem_cons.mpr ⟨lw_p44, List.forall_mem_cons.mpr ⟨lw_p45, List.forall_mem_cons.mpr ⟨lw_p46, List.forall_mem_cons.mpr ⟨lw_p47, fun _ h => absurd h List.not_mem_nil⟩⟩⟩⟩⟩⟩⟩⟩⟩⟩⟩⟩⟩⟩⟩⟩
theorem lw_p48 : lw_okq (⟨"NumberRiverModel", "summed", "(III)J"⟩, 30) := ⟨⟨by decide +kernel, by decide +kernel⟩, List.mem_of_getElem? (i := 782) (by decide +kernel), List.mem_of_getElem? (i := 1095) (by decide +kernel), List.mem_of_getElem? (i := 1096) (by decide +kernel)⟩
theorem lw_p49 : lw_okq (⟨"NumberRiverModel", "better", "(JJZ)J"⟩, 30) := ⟨⟨by decide +kernel, by decide +kernel⟩, List.mem_of_getElem? (i := 782) (by decide +kernel), List.mem_of_getElem? (i := 1103) (by decide +kernel), List.mem_of_getElem? (i := 1104) (by decide +kernel)⟩
def lw_privs_4 : List (MethodName × Nat) := [(⟨"NumberRiverModel", "summed", "(III)J"⟩, 30), (⟨"NumberRiverModel", "better", "(JJZ)J"⟩, 30)]
theorem lw_r4 : ∀ q ∈ lw_privs_4, lw_okq q := List.forall_mem_cons.mpr ⟨lw_p48, List.forall_mem_cons.mpr ⟨lw_p49, fun _ h => absurd h List.not_mem_nil⟩⟩
def lw_privs : List (MethodName × Nat) := lw_privs_1 ++ (lw_privs_2 ++ (lw_privs_3 ++ (lw_privs_4)))
def lw_tbl : List Cond := k2_sels lw_privs ++ tables_1
theorem lw_privs_ok : ∀ q ∈ lw_privs, lw_okq q := by
  show ∀ q ∈ lw_privs_1 ++ (lw_privs_2 ++ (lw_privs_3 ++ (lw_privs_4))), lw_okq q
  exact List.forall_mem_append.mpr ⟨lw_r1, List.forall_mem_append.mpr ⟨lw_r2, List.forall_mem_append.mpr ⟨lw_r3, lw_r4⟩⟩⟩
end
section
def RX0 : String := "NumberRiver$Block"
def TX0 : u_T := fun k => match k with
  | 0 => ("NumberRiver$Block", "bytes", "[I", true)
  | 1 => ("NumberRiver$Block", "flips", "[I", false)
  | 2 => ("NumberRiver$Block", "flippedBytes", "I", false)
  | 3 => ("NumberRiver$Block", "bits", "I", false)
  | 4 => ("NumberRiver$Block", "size", "I", false)
  | 5 => ("NumberRiver$Block", "first", "I", false)
  | 6 => ("NumberRiver$Block", "last", "I", false)
  | 7 => ("NumberRiver$Block", "low", "J", false)
  | 8 => ("NumberRiver$Block", "high", "J", false)
  | 9 => ("NumberRiver$Block", "total", "J", false)
  | 10 => ("NumberRiver$Block", "lastStep", "I", false)
  | 11 => ("NumberRiver$Block", "lastValue", "J", false)
  | 12 => ("NumberRiver$Block", "frameStart", "I", false)
  | _ => ("NumberRiver$Block", "frameBits", "I", false)
def tyX0 : Nat → FieldType := fun k => match k with
  | 0 => .array .int
  | 1 => .array .int
  | 2 => .int
  | 3 => .int
  | 4 => .int
  | 5 => .int
  | 6 => .int
  | 7 => .long
  | 8 => .long
  | 9 => .long
  | 10 => .int
  | 11 => .long
  | 12 => .int
  | _ => .int
theorem nmX0 : ∀ a, a < 14 → ∀ b, b < 14 → a ≠ b → (TX0 a).2.1 ≠ (TX0 b).2.1 := by decide +kernel
theorem tyX0_ok : ∀ k, k < 14 → parseFieldDescriptor (TX0 k).2.2.1 = some (tyX0 k) := by decide +kernel
abbrev cX0_init : ByteArray := prog_2_method_1_code
def yX0_init : MethodName := ⟨RX0, "<init>", "()V"⟩
abbrev cX0_clear : ByteArray := prog_2_method_2_code
def yX0_clear : MethodName := ⟨RX0, "clear", "()V"⟩
abbrev cX0_byteCount : ByteArray := prog_2_method_3_code
def yX0_byteCount : MethodName := ⟨RX0, "byteCount", "()I"⟩
abbrev cX0_hasByte : ByteArray := prog_2_method_4_code
def yX0_hasByte : MethodName := ⟨RX0, "hasByte", "(I)Z"⟩
abbrev cX0_hasPoint : ByteArray := prog_2_method_5_code
def yX0_hasPoint : MethodName := ⟨RX0, "hasPoint", "(I)Z"⟩
abbrev cX0_isTorn : ByteArray := prog_2_method_6_code
def yX0_isTorn : MethodName := ⟨RX0, "isTorn", "()Z"⟩
abbrev cX0_takesMore : ByteArray := prog_2_method_7_code
def yX0_takesMore : MethodName := ⟨RX0, "takesMore", "()Z"⟩
abbrev cX0_touches : ByteArray := prog_2_method_8_code
def yX0_touches : MethodName := ⟨RX0, "touches", "(II)Z"⟩
abbrev cX0_isWithin : ByteArray := prog_2_method_9_code
def yX0_isWithin : MethodName := ⟨RX0, "isWithin", "(II)Z"⟩
abbrev cX0_byteNow : ByteArray := prog_2_method_10_code
def yX0_byteNow : MethodName := ⟨RX0, "byteNow", "(I)I"⟩
abbrev cX0_byteMade : ByteArray := prog_2_method_11_code
def yX0_byteMade : MethodName := ⟨RX0, "byteMade", "(I)I"⟩
abbrev cX0_flipOf : ByteArray := prog_2_method_12_code
def yX0_flipOf : MethodName := ⟨RX0, "flipOf", "(I)I"⟩
abbrev cX0_check : ByteArray := prog_2_method_13_code
def yX0_check : MethodName := ⟨RX0, "check", "()I"⟩
abbrev cX0_flip : ByteArray := prog_2_method_14_code
def yX0_flip : MethodName := ⟨RX0, "flip", "(II)V"⟩
abbrev cX0_append : ByteArray := prog_2_method_15_code
def yX0_append : MethodName := ⟨RX0, "append", "(IJ)V"⟩
abbrev cX0_writeStepChange : ByteArray := prog_2_method_16_code
def yX0_writeStepChange : MethodName := ⟨RX0, "writeStepChange", "(I)V"⟩
abbrev cX0_formOf : ByteArray := prog_2_method_17_code
def yX0_formOf : MethodName := ⟨RX0, "formOf", "(I)I"⟩
abbrev cX0_writeValueChange : ByteArray := prog_2_method_18_code
def yX0_writeValueChange : MethodName := ⟨RX0, "writeValueChange", "(J)V"⟩
abbrev cX0_write : ByteArray := prog_2_method_19_code
def yX0_write : MethodName := ⟨RX0, "write", "(JI)V"⟩
def RX1 : String := "NumberRiver$Gatherer"
def TX1 : u_T := fun k => match k with
  | 0 => ("NumberRiver$Gatherer", "times", "[I", true)
  | 1 => ("NumberRiver$Gatherer", "values", "[J", true)
  | 2 => ("NumberRiver$Gatherer", "size", "I", false)
  | 3 => ("NumberRiver$Gatherer", "from", "I", false)
  | 4 => ("NumberRiver$Gatherer", "to", "I", false)
  | 5 => ("NumberRiver$Gatherer", "nextLate", "I", false)
  | _ => ("NumberRiver$Gatherer", "reader", "LNumberRiver$Reader;", true)
def tyX1 : Nat → FieldType := fun k => match k with
  | 0 => .array .int
  | 1 => .array .long
  | 2 => .int
  | 3 => .int
  | 4 => .int
  | 5 => .int
  | _ => .object "NumberRiver$Reader"
theorem nmX1 : ∀ a, a < 7 → ∀ b, b < 7 → a ≠ b → (TX1 a).2.1 ≠ (TX1 b).2.1 := by decide +kernel
theorem tyX1_ok : ∀ k, k < 7 → parseFieldDescriptor (TX1 k).2.2.1 = some (tyX1 k) := by decide +kernel
abbrev cX1_init : ByteArray := prog_3_method_1_code
def yX1_init : MethodName := ⟨RX1, "<init>", "()V"⟩
abbrev cX1_begin : ByteArray := prog_3_method_2_code
def yX1_begin : MethodName := ⟨RX1, "begin", "(LNumberRiver$Series;II)V"⟩
abbrev cX1_unpack : ByteArray := prog_3_method_3_code
def yX1_unpack : MethodName := ⟨RX1, "unpack", "(LNumberRiver$Series;LNumberRiver$Block;)V"⟩
abbrev cX1_finish : ByteArray := prog_3_method_4_code
def yX1_finish : MethodName := ⟨RX1, "finish", "(LNumberRiver$Series;)V"⟩
abbrev cX1_gatherAll : ByteArray := prog_3_method_5_code
def yX1_gatherAll : MethodName := ⟨RX1, "gatherAll", "(LNumberRiver$Series;)V"⟩
abbrev cX1_takeMain : ByteArray := prog_3_method_6_code
def yX1_takeMain : MethodName := ⟨RX1, "takeMain", "(LNumberRiver$Series;IJ)V"⟩
abbrev cX1_takeLateBelow : ByteArray := prog_3_method_7_code
def yX1_takeLateBelow : MethodName := ⟨RX1, "takeLateBelow", "(LNumberRiver$Series;I)V"⟩
abbrev cX1_add : ByteArray := prog_3_method_8_code
def yX1_add : MethodName := ⟨RX1, "add", "(IJ)V"⟩
abbrev cX1_timeOf : ByteArray := prog_3_method_9_code
def yX1_timeOf : MethodName := ⟨RX1, "timeOf", "(I)I"⟩
abbrev cX1_valueAt : ByteArray := prog_3_method_10_code
def yX1_valueAt : MethodName := ⟨RX1, "valueAt", "(I)J"⟩
abbrev cX1_readTo : ByteArray := prog_3_method_11_code
def yX1_readTo : MethodName := ⟨RX1, "readTo", "(LNumberRiver$Block;I)LNumberRiver$Reader;"⟩
abbrev cX1_sizeBelow : ByteArray := prog_3_method_12_code
def yX1_sizeBelow : MethodName := ⟨RX1, "sizeBelow", "(I)I"⟩
abbrev cX1_stretches : ByteArray := prog_3_method_13_code
def yX1_stretches : MethodName := ⟨RX1, "stretches", "(II)I"⟩
abbrev cX1_risen : ByteArray := prog_3_method_14_code
def yX1_risen : MethodName := ⟨RX1, "risen", "()J"⟩
abbrev cX1_timeAt : ByteArray := prog_3_method_15_code
def yX1_timeAt : MethodName := ⟨RX1, "timeAt", "(JII)J"⟩
def RX2 : String := "NumberRiver$Question"
def TX2 : u_T := fun k => match k with
  | 0 => ("NumberRiver$Question", "a", "I", false)
  | 1 => ("NumberRiver$Question", "b", "I", false)
  | 2 => ("NumberRiver$Question", "size", "I", false)
  | 3 => ("NumberRiver$Question", "total", "J", false)
  | 4 => ("NumberRiver$Question", "low", "J", false)
  | 5 => ("NumberRiver$Question", "high", "J", false)
  | 6 => ("NumberRiver$Question", "scanned", "I", false)
  | 7 => ("NumberRiver$Question", "cutSpans", "I", false)
  | _ => ("NumberRiver$Question", "tornBlocks", "I", false)
def tyX2 : Nat → FieldType := fun k => match k with
  | 0 => .int
  | 1 => .int
  | 2 => .int
  | 3 => .long
  | 4 => .long
  | 5 => .long
  | 6 => .int
  | 7 => .int
  | _ => .int
theorem nmX2 : ∀ a, a < 9 → ∀ b, b < 9 → a ≠ b → (TX2 a).2.1 ≠ (TX2 b).2.1 := by decide +kernel
theorem tyX2_ok : ∀ k, k < 9 → parseFieldDescriptor (TX2 k).2.2.1 = some (tyX2 k) := by decide +kernel
abbrev cX2_init : ByteArray := prog_4_method_1_code
def yX2_init : MethodName := ⟨RX2, "<init>", "()V"⟩
abbrev cX2_begin : ByteArray := prog_4_method_2_code
def yX2_begin : MethodName := ⟨RX2, "begin", "(II)V"⟩
abbrev cX2_lookByHeads : ByteArray := prog_4_method_3_code
def yX2_lookByHeads : MethodName := ⟨RX2, "lookByHeads", "(LNumberRiver$Series;LNumberRiver$Gatherer;)V"⟩
abbrev cX2_lookByPoints : ByteArray := prog_4_method_4_code
def yX2_lookByPoints : MethodName := ⟨RX2, "lookByPoints", "(LNumberRiver$Series;ILNumberRiver$Gatherer;)V"⟩
abbrev cX2_lookAtSpans : ByteArray := prog_4_method_5_code
def yX2_lookAtSpans : MethodName := ⟨RX2, "lookAtSpans", "(LNumberRiver$Series;)V"⟩
abbrev cX2_found : ByteArray := prog_4_method_6_code
def yX2_found : MethodName := ⟨RX2, "found", "(IJJJ)V"⟩
def RX3 : String := "NumberRiver$Reader"
def TX3 : u_T := fun k => match k with
  | 0 => ("NumberRiver$Reader", "bytes", "[I", false)
  | 1 => ("NumberRiver$Reader", "place", "I", false)
  | 2 => ("NumberRiver$Reader", "time", "I", false)
  | 3 => ("NumberRiver$Reader", "step", "I", false)
  | 4 => ("NumberRiver$Reader", "value", "J", false)
  | 5 => ("NumberRiver$Reader", "frameStart", "I", false)
  | 6 => ("NumberRiver$Reader", "frameBits", "I", false)
  | _ => ("NumberRiver$Reader", "pointBits", "I", false)
def tyX3 : Nat → FieldType := fun k => match k with
  | 0 => .array .int
  | 1 => .int
  | 2 => .int
  | 3 => .int
  | 4 => .long
  | 5 => .int
  | 6 => .int
  | _ => .int
theorem nmX3 : ∀ a, a < 8 → ∀ b, b < 8 → a ≠ b → (TX3 a).2.1 ≠ (TX3 b).2.1 := by decide +kernel
theorem tyX3_ok : ∀ k, k < 8 → parseFieldDescriptor (TX3 k).2.2.1 = some (tyX3 k) := by decide +kernel
abbrev cX3_init : ByteArray := prog_5_method_1_code
def yX3_init : MethodName := ⟨RX3, "<init>", "()V"⟩
abbrev cX3_open : ByteArray := prog_5_method_2_code
def yX3_open : MethodName := ⟨RX3, "open", "(LNumberRiver$Block;)V"⟩
abbrev cX3_next : ByteArray := prog_5_method_3_code
def yX3_next : MethodName := ⟨RX3, "next", "()V"⟩
abbrev cX3_readStepChange : ByteArray := prog_5_method_4_code
def yX3_readStepChange : MethodName := ⟨RX3, "readStepChange", "()I"⟩
abbrev cX3_readValueChange : ByteArray := prog_5_method_5_code
def yX3_readValueChange : MethodName := ⟨RX3, "readValueChange", "()J"⟩
abbrev cX3_read : ByteArray := prog_5_method_6_code
def yX3_read : MethodName := ⟨RX3, "read", "(I)J"⟩
def RX4 : String := "NumberRiver$Series"
def TX4 : u_T := fun k => match k with
  | 0 => ("NumberRiver$Series", "kind", "I", true)
  | 1 => ("NumberRiver$Series", "labels", "[I", true)
  | 2 => ("NumberRiver$Series", "spans", "[LNumberRiver$Span;", true)
  | 3 => ("NumberRiver$Series", "spanCount", "I", false)
  | 4 => ("NumberRiver$Series", "blocks", "[LNumberRiver$Block;", true)
  | 5 => ("NumberRiver$Series", "blockCount", "I", false)
  | 6 => ("NumberRiver$Series", "lateTimes", "[I", true)
  | 7 => ("NumberRiver$Series", "lateValues", "[J", true)
  | _ => ("NumberRiver$Series", "lateCount", "I", false)
def tyX4 : Nat → FieldType := fun k => match k with
  | 0 => .int
  | 1 => .array .int
  | 2 => .array (.object "NumberRiver$Span")
  | 3 => .int
  | 4 => .array (.object "NumberRiver$Block")
  | 5 => .int
  | 6 => .array .int
  | 7 => .array .long
  | _ => .int
theorem nmX4 : ∀ a, a < 9 → ∀ b, b < 9 → a ≠ b → (TX4 a).2.1 ≠ (TX4 b).2.1 := by decide +kernel
theorem tyX4_ok : ∀ k, k < 9 → parseFieldDescriptor (TX4 k).2.2.1 = some (tyX4 k) := by decide +kernel
abbrev cX4_init : ByteArray := prog_6_method_1_code
def yX4_init : MethodName := ⟨RX4, "<init>", "(I)V"⟩
abbrev cX4_labelOf : ByteArray := prog_6_method_2_code
def yX4_labelOf : MethodName := ⟨RX4, "labelOf", "(I)I"⟩
abbrev cX4_setLabel : ByteArray := prog_6_method_3_code
def yX4_setLabel : MethodName := ⟨RX4, "setLabel", "(II)V"⟩
abbrev cX4_bears : ByteArray := prog_6_method_4_code
def yX4_bears : MethodName := ⟨RX4, "bears", "(II)Z"⟩
abbrev cX4_spanAt : ByteArray := prog_6_method_5_code
def yX4_spanAt : MethodName := ⟨RX4, "spanAt", "(I)LNumberRiver$Span;"⟩
abbrev cX4_spansEnd : ByteArray := prog_6_method_6_code
def yX4_spansEnd : MethodName := ⟨RX4, "spansEnd", "()I"⟩
abbrev cX4_blockAt : ByteArray := prog_6_method_7_code
def yX4_blockAt : MethodName := ⟨RX4, "blockAt", "(I)LNumberRiver$Block;"⟩
abbrev cX4_mainPoints : ByteArray := prog_6_method_8_code
def yX4_mainPoints : MethodName := ⟨RX4, "mainPoints", "()I"⟩
abbrev cX4_blockBits : ByteArray := prog_6_method_9_code
def yX4_blockBits : MethodName := ⟨RX4, "blockBits", "()I"⟩
abbrev cX4_tornBlocks : ByteArray := prog_6_method_10_code
def yX4_tornBlocks : MethodName := ⟨RX4, "tornBlocks", "()I"⟩
abbrev cX4_place : ByteArray := prog_6_method_11_code
def yX4_place : MethodName := ⟨RX4, "place", "(IJ)I"⟩
abbrev cX4_appendMain : ByteArray := prog_6_method_12_code
def yX4_appendMain : MethodName := ⟨RX4, "appendMain", "(IJ)V"⟩
abbrev cX4_openBlock : ByteArray := prog_6_method_13_code
def yX4_openBlock : MethodName := ⟨RX4, "openBlock", "()LNumberRiver$Block;"⟩
abbrev cX4_rebuild : ByteArray := prog_6_method_14_code
def yX4_rebuild : MethodName := ⟨RX4, "rebuild", "(LNumberRiver$Gatherer;I)V"⟩
abbrev cX4_hasLate : ByteArray := prog_6_method_15_code
def yX4_hasLate : MethodName := ⟨RX4, "hasLate", "(I)Z"⟩
abbrev cX4_lateTime : ByteArray := prog_6_method_16_code
def yX4_lateTime : MethodName := ⟨RX4, "lateTime", "(I)I"⟩
abbrev cX4_lateValue : ByteArray := prog_6_method_17_code
def yX4_lateValue : MethodName := ⟨RX4, "lateValue", "(I)J"⟩
abbrev cX4_lateBelow : ByteArray := prog_6_method_18_code
def yX4_lateBelow : MethodName := ⟨RX4, "lateBelow", "(I)I"⟩
abbrev cX4_hasLateFromTo : ByteArray := prog_6_method_19_code
def yX4_hasLateFromTo : MethodName := ⟨RX4, "hasLateFromTo", "(II)Z"⟩
abbrev cX4_placeLate : ByteArray := prog_6_method_20_code
def yX4_placeLate : MethodName := ⟨RX4, "placeLate", "(IJ)I"⟩
abbrev cX4_dropLate : ByteArray := prog_6_method_21_code
def yX4_dropLate : MethodName := ⟨RX4, "dropLate", "(I)V"⟩
abbrev cX4_dropSpans : ByteArray := prog_6_method_22_code
def yX4_dropSpans : MethodName := ⟨RX4, "dropSpans", "(I)I"⟩
abbrev cX4_dropBlocks : ByteArray := prog_6_method_23_code
def yX4_dropBlocks : MethodName := ⟨RX4, "dropBlocks", "(I)I"⟩
abbrev cX4_addSpans : ByteArray := prog_6_method_24_code
def yX4_addSpans : MethodName := ⟨RX4, "addSpans", "(LNumberRiver$Gatherer;II)V"⟩
abbrev cX4_openSpan : ByteArray := prog_6_method_25_code
def yX4_openSpan : MethodName := ⟨RX4, "openSpan", "(II)LNumberRiver$Span;"⟩
def RX5 : String := "NumberRiver$Span"
def TX5 : u_T := fun k => match k with
  | 0 => ("NumberRiver$Span", "begin", "I", false)
  | 1 => ("NumberRiver$Span", "end", "I", false)
  | 2 => ("NumberRiver$Span", "size", "I", false)
  | 3 => ("NumberRiver$Span", "total", "J", false)
  | 4 => ("NumberRiver$Span", "low", "J", false)
  | 5 => ("NumberRiver$Span", "high", "J", false)
  | 6 => ("NumberRiver$Span", "firstValue", "J", false)
  | _ => ("NumberRiver$Span", "lastValue", "J", false)
def tyX5 : Nat → FieldType := fun k => match k with
  | 0 => .int
  | 1 => .int
  | 2 => .int
  | 3 => .long
  | 4 => .long
  | 5 => .long
  | 6 => .long
  | _ => .long
theorem nmX5 : ∀ a, a < 8 → ∀ b, b < 8 → a ≠ b → (TX5 a).2.1 ≠ (TX5 b).2.1 := by decide +kernel
theorem tyX5_ok : ∀ k, k < 8 → parseFieldDescriptor (TX5 k).2.2.1 = some (tyX5 k) := by decide +kernel
abbrev cX5_init : ByteArray := prog_7_method_1_code
def yX5_init : MethodName := ⟨RX5, "<init>", "()V"⟩
abbrev cX5_open : ByteArray := prog_7_method_2_code
def yX5_open : MethodName := ⟨RX5, "open", "(II)V"⟩
abbrev cX5_take : ByteArray := prog_7_method_3_code
def yX5_take : MethodName := ⟨RX5, "take", "(J)V"⟩
abbrev cX5_isIn : ByteArray := prog_7_method_4_code
def yX5_isIn : MethodName := ⟨RX5, "isIn", "(II)Z"⟩
abbrev cX5_isCut : ByteArray := prog_7_method_5_code
def yX5_isCut : MethodName := ⟨RX5, "isCut", "(II)Z"⟩
def RX6 : String := "NumberRiver"
def TX6 : u_T := fun k => match k with
  | 0 => ("NumberRiver", "rows", "[LNumberRiver$Series;", true)
  | 1 => ("NumberRiver", "rowCount", "I", false)
  | 2 => ("NumberRiver", "gatherer", "LNumberRiver$Gatherer;", true)
  | _ => ("NumberRiver", "question", "LNumberRiver$Question;", true)
def tyX6 : Nat → FieldType := fun k => match k with
  | 0 => .array (.object "NumberRiver$Series")
  | 1 => .int
  | 2 => .object "NumberRiver$Gatherer"
  | _ => .object "NumberRiver$Question"
theorem nmX6 : ∀ a, a < 4 → ∀ b, b < 4 → a ≠ b → (TX6 a).2.1 ≠ (TX6 b).2.1 := by decide +kernel
theorem tyX6_ok : ∀ k, k < 4 → parseFieldDescriptor (TX6 k).2.2.1 = some (tyX6 k) := by decide +kernel
abbrev cX6_init : ByteArray := prog_1_method_1_code
def yX6_init : MethodName := ⟨RX6, "<init>", "()V"⟩
abbrev cX6_series : ByteArray := prog_1_method_2_code
def yX6_series : MethodName := ⟨RX6, "series", "(I)I"⟩
abbrev cX6_label : ByteArray := prog_1_method_3_code
def yX6_label : MethodName := ⟨RX6, "label", "(III)I"⟩
abbrev cX6_match : ByteArray := prog_1_method_4_code
def yX6_match : MethodName := ⟨RX6, "match", "(IIIII)I"⟩
abbrev cX6_put : ByteArray := prog_1_method_5_code
def yX6_put : MethodName := ⟨RX6, "put", "(IIJ)I"⟩
abbrev cX6_fill : ByteArray := prog_1_method_6_code
def yX6_fill : MethodName := ⟨RX6, "fill", "(IIIJJI)I"⟩
abbrev cX6_merge : ByteArray := prog_1_method_7_code
def yX6_merge : MethodName := ⟨RX6, "merge", "(I)I"⟩
abbrev cX6_thin : ByteArray := prog_1_method_8_code
def yX6_thin : MethodName := ⟨RX6, "thin", "(III)I"⟩
abbrev cX6_drop : ByteArray := prog_1_method_9_code
def yX6_drop : MethodName := ⟨RX6, "drop", "(II)I"⟩
abbrev cX6_block : ByteArray := prog_1_method_10_code
def yX6_block : MethodName := ⟨RX6, "block", "(III)I"⟩
abbrev cX6_head : ByteArray := prog_1_method_11_code
def yX6_head : MethodName := ⟨RX6, "head", "(III)J"⟩
abbrev cX6_at : ByteArray := prog_1_method_12_code
def yX6_at : MethodName := ⟨RX6, "at", "(III)I"⟩
abbrev cX6_tear : ByteArray := prog_1_method_13_code
def yX6_tear : MethodName := ⟨RX6, "tear", "(IIII)I"⟩
abbrev cX6_cost : ByteArray := prog_1_method_14_code
def yX6_cost : MethodName := ⟨RX6, "cost", "(III)I"⟩
abbrev cX6_point : ByteArray := prog_1_method_15_code
def yX6_point : MethodName := ⟨RX6, "point", "(IIII)J"⟩
abbrev cX6_late : ByteArray := prog_1_method_16_code
def yX6_late : MethodName := ⟨RX6, "late", "(III)J"⟩
abbrev cX6_span : ByteArray := prog_1_method_17_code
def yX6_span : MethodName := ⟨RX6, "span", "(III)J"⟩
abbrev cX6_count : ByteArray := prog_1_method_18_code
def yX6_count : MethodName := ⟨RX6, "count", "(III)I"⟩
abbrev cX6_sum : ByteArray := prog_1_method_19_code
def yX6_sum : MethodName := ⟨RX6, "sum", "(III)J"⟩
abbrev cX6_least : ByteArray := prog_1_method_20_code
def yX6_least : MethodName := ⟨RX6, "least", "(IIIZ)J"⟩
abbrev cX6_rise : ByteArray := prog_1_method_21_code
def yX6_rise : MethodName := ⟨RX6, "rise", "(III)J"⟩
abbrev cX6_level : ByteArray := prog_1_method_22_code
def yX6_level : MethodName := ⟨RX6, "level", "(IIIJ)J"⟩
abbrev cX6_value : ByteArray := prog_1_method_23_code
def yX6_value : MethodName := ⟨RX6, "value", "(IIIZ)J"⟩
abbrev cX6_group : ByteArray := prog_1_method_24_code
def yX6_group : MethodName := ⟨RX6, "group", "(IIIII)J"⟩
abbrev cX6_scan : ByteArray := prog_1_method_25_code
def yX6_scan : MethodName := ⟨RX6, "scan", "(I)I"⟩
abbrev cX6_about : ByteArray := prog_1_method_26_code
def yX6_about : MethodName := ⟨RX6, "about", "(II)I"⟩
abbrev cX6_seriesAt : ByteArray := prog_1_method_27_code
def yX6_seriesAt : MethodName := ⟨RX6, "seriesAt", "(I)LNumberRiver$Series;"⟩
abbrev cX6_blockOf : ByteArray := prog_1_method_28_code
def yX6_blockOf : MethodName := ⟨RX6, "blockOf", "(II)LNumberRiver$Block;"⟩
abbrev cX6_isKey : ByteArray := prog_1_method_29_code
def yX6_isKey : MethodName := ⟨RX6, "isKey", "(I)Z"⟩
abbrev cX6_isLabel : ByteArray := prog_1_method_30_code
def yX6_isLabel : MethodName := ⟨RX6, "isLabel", "(I)Z"⟩
abbrev cX6_isTime : ByteArray := prog_1_method_31_code
def yX6_isTime : MethodName := ⟨RX6, "isTime", "(I)Z"⟩
abbrev cX6_isValue : ByteArray := prog_1_method_32_code
def yX6_isValue : MethodName := ⟨RX6, "isValue", "(J)Z"⟩
abbrev cX6_isValueOf : ByteArray := prog_1_method_33_code
def yX6_isValueOf : MethodName := ⟨RX6, "isValueOf", "(IJ)Z"⟩
abbrev cX6_isWindow : ByteArray := prog_1_method_34_code
def yX6_isWindow : MethodName := ⟨RX6, "isWindow", "(II)Z"⟩
def RX7 : String := "NumberRiverModel"
def TX7 : u_T := fun k => match k with
  | 0 => ("NumberRiverModel", "many", "I", false)
  | 1 => ("NumberRiverModel", "kind", "[I", true)
  | 2 => ("NumberRiverModel", "label", "[I", true)
  | 3 => ("NumberRiverModel", "points", "[I", true)
  | 4 => ("NumberRiverModel", "blocks", "[I", true)
  | 5 => ("NumberRiverModel", "lates", "[I", true)
  | 6 => ("NumberRiverModel", "spans", "[I", true)
  | 7 => ("NumberRiverModel", "time", "[I", true)
  | 8 => ("NumberRiverModel", "size", "[I", true)
  | 9 => ("NumberRiverModel", "lateTime", "[I", true)
  | 10 => ("NumberRiverModel", "value", "[J", true)
  | 11 => ("NumberRiverModel", "lateValue", "[J", true)
  | 12 => ("NumberRiverModel", "torn", "[I", true)
  | 13 => ("NumberRiverModel", "begin", "[I", true)
  | 14 => ("NumberRiverModel", "end", "[I", true)
  | 15 => ("NumberRiverModel", "spanned", "[I", true)
  | 16 => ("NumberRiverModel", "spanSum", "[J", true)
  | 17 => ("NumberRiverModel", "spanLeast", "[J", true)
  | 18 => ("NumberRiverModel", "spanMost", "[J", true)
  | 19 => ("NumberRiverModel", "spanFirst", "[J", true)
  | 20 => ("NumberRiverModel", "spanLast", "[J", true)
  | 21 => ("NumberRiverModel", "bytes", "[I", true)
  | 22 => ("NumberRiverModel", "cost", "[I", true)
  | 23 => ("NumberRiverModel", "bits", "I", false)
  | 24 => ("NumberRiverModel", "scanned", "I", false)
  | 25 => ("NumberRiverModel", "cut", "I", false)
  | 26 => ("NumberRiverModel", "tears", "I", false)
  | 27 => ("NumberRiverModel", "allTime", "[I", true)
  | 28 => ("NumberRiverModel", "allValue", "[J", true)
  | _ => ("NumberRiverModel", "all", "I", false)
def tyX7 : Nat → FieldType := fun k => match k with
  | 0 => .int
  | 1 => .array .int
  | 2 => .array .int
  | 3 => .array .int
  | 4 => .array .int
  | 5 => .array .int
  | 6 => .array .int
  | 7 => .array .int
  | 8 => .array .int
  | 9 => .array .int
  | 10 => .array .long
  | 11 => .array .long
  | 12 => .array .int
  | 13 => .array .int
  | 14 => .array .int
  | 15 => .array .int
  | 16 => .array .long
  | 17 => .array .long
  | 18 => .array .long
  | 19 => .array .long
  | 20 => .array .long
  | 21 => .array .int
  | 22 => .array .int
  | 23 => .int
  | 24 => .int
  | 25 => .int
  | 26 => .int
  | 27 => .array .int
  | 28 => .array .long
  | _ => .int
theorem nmX7 : ∀ a, a < 30 → ∀ b, b < 30 → a ≠ b → (TX7 a).2.1 ≠ (TX7 b).2.1 := by decide +kernel
theorem tyX7_ok : ∀ k, k < 30 → parseFieldDescriptor (TX7 k).2.2.1 = some (tyX7 k) := by decide +kernel
abbrev cX7_init : ByteArray := prog_9_method_1_code
def yX7_init : MethodName := ⟨RX7, "<init>", "()V"⟩
abbrev cX7_isSeries : ByteArray := prog_9_method_2_code
def yX7_isSeries : MethodName := ⟨RX7, "isSeries", "(I)Z"⟩
abbrev cX7_series : ByteArray := prog_9_method_3_code
def yX7_series : MethodName := ⟨RX7, "series", "(I)I"⟩
abbrev cX7_label : ByteArray := prog_9_method_4_code
def yX7_label : MethodName := ⟨RX7, "label", "(III)I"⟩
abbrev cX7_has : ByteArray := prog_9_method_5_code
def yX7_has : MethodName := ⟨RX7, "has", "(III)Z"⟩
abbrev cX7_match : ByteArray := prog_9_method_6_code
def yX7_match : MethodName := ⟨RX7, "match", "(IIIII)I"⟩
abbrev cX7_spot : ByteArray := prog_9_method_7_code
def yX7_spot : MethodName := ⟨RX7, "spot", "(II)I"⟩
abbrev cX7_start : ByteArray := prog_9_method_8_code
def yX7_start : MethodName := ⟨RX7, "start", "(II)I"⟩
abbrev cX7_firstTime : ByteArray := prog_9_method_9_code
def yX7_firstTime : MethodName := ⟨RX7, "firstTime", "(II)I"⟩
abbrev cX7_lastTime : ByteArray := prog_9_method_10_code
def yX7_lastTime : MethodName := ⟨RX7, "lastTime", "(II)I"⟩
abbrev cX7_mask : ByteArray := prog_9_method_11_code
def yX7_mask : MethodName := ⟨RX7, "mask", "(III)I"⟩
abbrev cX7_isTorn : ByteArray := prog_9_method_12_code
def yX7_isTorn : MethodName := ⟨RX7, "isTorn", "(II)Z"⟩
abbrev cX7_tornBlocks : ByteArray := prog_9_method_13_code
def yX7_tornBlocks : MethodName := ⟨RX7, "tornBlocks", "(I)I"⟩
abbrev cX7_lastEnd : ByteArray := prog_9_method_14_code
def yX7_lastEnd : MethodName := ⟨RX7, "lastEnd", "(I)I"⟩
abbrev cX7_addMain : ByteArray := prog_9_method_15_code
def yX7_addMain : MethodName := ⟨RX7, "addMain", "(IIJZ)V"⟩
abbrev cX7_reblock : ByteArray := prog_9_method_16_code
def yX7_reblock : MethodName := ⟨RX7, "reblock", "(I)V"⟩
abbrev cX7_bit : ByteArray := prog_9_method_17_code
def yX7_bit : MethodName := ⟨RX7, "bit", "(I)V"⟩
abbrev cX7_bits : ByteArray := prog_9_method_18_code
def yX7_bits : MethodName := ⟨RX7, "bits", "(JI)V"⟩
abbrev cX7_ones : ByteArray := prog_9_method_19_code
def yX7_ones : MethodName := ⟨RX7, "ones", "(I)V"⟩
abbrev cX7_step : ByteArray := prog_9_method_20_code
def yX7_step : MethodName := ⟨RX7, "step", "(J)V"⟩
abbrev cX7_write : ByteArray := prog_9_method_21_code
def yX7_write : MethodName := ⟨RX7, "write", "(II)V"⟩
abbrev cX7_isValue : ByteArray := prog_9_method_22_code
def yX7_isValue : MethodName := ⟨RX7, "isValue", "(IJ)Z"⟩
abbrev cX7_lateAt : ByteArray := prog_9_method_23_code
def yX7_lateAt : MethodName := ⟨RX7, "lateAt", "(II)I"⟩
abbrev cX7_isLate : ByteArray := prog_9_method_24_code
def yX7_isLate : MethodName := ⟨RX7, "isLate", "(II)Z"⟩
abbrev cX7_placed : ByteArray := prog_9_method_25_code
def yX7_placed : MethodName := ⟨RX7, "placed", "(IJJ)I"⟩
abbrev cX7_put : ByteArray := prog_9_method_26_code
def yX7_put : MethodName := ⟨RX7, "put", "(IIJ)I"⟩
abbrev cX7_fill : ByteArray := prog_9_method_27_code
def yX7_fill : MethodName := ⟨RX7, "fill", "(IIIJJI)I"⟩
abbrev cX7_merge : ByteArray := prog_9_method_28_code
def yX7_merge : MethodName := ⟨RX7, "merge", "(I)I"⟩
abbrev cX7_thin : ByteArray := prog_9_method_29_code
def yX7_thin : MethodName := ⟨RX7, "thin", "(III)I"⟩
abbrev cX7_drop : ByteArray := prog_9_method_30_code
def yX7_drop : MethodName := ⟨RX7, "drop", "(II)I"⟩
abbrev cX7_isBlock : ByteArray := prog_9_method_31_code
def yX7_isBlock : MethodName := ⟨RX7, "isBlock", "(II)Z"⟩
abbrev cX7_bytes : ByteArray := prog_9_method_32_code
def yX7_bytes : MethodName := ⟨RX7, "bytes", "()I"⟩
abbrev cX7_block : ByteArray := prog_9_method_33_code
def yX7_block : MethodName := ⟨RX7, "block", "(III)I"⟩
abbrev cX7_head : ByteArray := prog_9_method_34_code
def yX7_head : MethodName := ⟨RX7, "head", "(III)J"⟩
abbrev cX7_isByte : ByteArray := prog_9_method_35_code
def yX7_isByte : MethodName := ⟨RX7, "isByte", "(III)Z"⟩
abbrev cX7_at : ByteArray := prog_9_method_36_code
def yX7_at : MethodName := ⟨RX7, "at", "(III)I"⟩
abbrev cX7_tear : ByteArray := prog_9_method_37_code
def yX7_tear : MethodName := ⟨RX7, "tear", "(IIII)I"⟩
abbrev cX7_cost : ByteArray := prog_9_method_38_code
def yX7_cost : MethodName := ⟨RX7, "cost", "(III)I"⟩
abbrev cX7_point : ByteArray := prog_9_method_39_code
def yX7_point : MethodName := ⟨RX7, "point", "(IIII)J"⟩
abbrev cX7_late : ByteArray := prog_9_method_40_code
def yX7_late : MethodName := ⟨RX7, "late", "(III)J"⟩
abbrev cX7_span : ByteArray := prog_9_method_41_code
def yX7_span : MethodName := ⟨RX7, "span", "(III)J"⟩
abbrev cX7_add : ByteArray := prog_9_method_42_code
def yX7_add : MethodName := ⟨RX7, "add", "(IJ)V"⟩
abbrev cX7_take : ByteArray := prog_9_method_43_code
def yX7_take : MethodName := ⟨RX7, "take", "(I)V"⟩
abbrev cX7_isWindow : ByteArray := prog_9_method_44_code
def yX7_isWindow : MethodName := ⟨RX7, "isWindow", "(II)Z"⟩
abbrev cX7_touches : ByteArray := prog_9_method_45_code
def yX7_touches : MethodName := ⟨RX7, "touches", "(IIII)Z"⟩
abbrev cX7_look : ByteArray := prog_9_method_46_code
def yX7_look : MethodName := ⟨RX7, "look", "(IIII)V"⟩
abbrev cX7_clear : ByteArray := prog_9_method_47_code
def yX7_clear : MethodName := ⟨RX7, "clear", "()V"⟩
abbrev cX7_isIn : ByteArray := prog_9_method_48_code
def yX7_isIn : MethodName := ⟨RX7, "isIn", "(III)Z"⟩
abbrev cX7_counted : ByteArray := prog_9_method_49_code
def yX7_counted : MethodName := ⟨RX7, "counted", "(III)I"⟩
abbrev cX7_summed : ByteArray := prog_9_method_50_code
def yX7_summed : MethodName := ⟨RX7, "summed", "(III)J"⟩
abbrev cX7_count : ByteArray := prog_9_method_51_code
def yX7_count : MethodName := ⟨RX7, "count", "(III)I"⟩
abbrev cX7_sum : ByteArray := prog_9_method_52_code
def yX7_sum : MethodName := ⟨RX7, "sum", "(III)J"⟩
abbrev cX7_least : ByteArray := prog_9_method_53_code
def yX7_least : MethodName := ⟨RX7, "least", "(IIIZ)J"⟩
abbrev cX7_better : ByteArray := prog_9_method_54_code
def yX7_better : MethodName := ⟨RX7, "better", "(JJZ)J"⟩
abbrev cX7_rise : ByteArray := prog_9_method_55_code
def yX7_rise : MethodName := ⟨RX7, "rise", "(III)J"⟩
abbrev cX7_level : ByteArray := prog_9_method_56_code
def yX7_level : MethodName := ⟨RX7, "level", "(IIIJ)J"⟩
abbrev cX7_value : ByteArray := prog_9_method_57_code
def yX7_value : MethodName := ⟨RX7, "value", "(IIIZ)J"⟩
abbrev cX7_group : ByteArray := prog_9_method_58_code
def yX7_group : MethodName := ⟨RX7, "group", "(IIIII)J"⟩
abbrev cX7_scan : ByteArray := prog_9_method_59_code
def yX7_scan : MethodName := ⟨RX7, "scan", "(I)I"⟩
abbrev cX7_about : ByteArray := prog_9_method_60_code
def yX7_about : MethodName := ⟨RX7, "about", "(II)I"⟩
def RJ6 : String := "java/lang/Integer"
def TJ6 : u_T := fun k => match k with
  | _ => ("", "", "", false)
def tyJ6 : Nat → FieldType := fun k => match k with
  | _ => .int
theorem nmJ6 : ∀ a, a < 0 → ∀ b, b < 0 → a ≠ b → (TJ6 a).2.1 ≠ (TJ6 b).2.1 := by decide +kernel
theorem tyJ6_ok : ∀ k, k < 0 → parseFieldDescriptor (TJ6 k).2.2.1 = some (tyJ6 k) := by decide +kernel
abbrev cJ6_numberOfLeadingZeros_0f7a4 : ByteArray := prog_10_method_47_code
def yJ6_numberOfLeadingZeros_0f7a4 : MethodName := ⟨RJ6, "numberOfLeadingZeros", "(I)I"⟩
abbrev cJ6_numberOfTrailingZeros_0f7a4 : ByteArray := prog_10_method_48_code
def yJ6_numberOfTrailingZeros_0f7a4 : MethodName := ⟨RJ6, "numberOfTrailingZeros", "(I)I"⟩
def RJ13 : String := "java/lang/Long"
def TJ13 : u_T := fun k => match k with
  | _ => ("", "", "", false)
def tyJ13 : Nat → FieldType := fun k => match k with
  | _ => .int
theorem nmJ13 : ∀ a, a < 0 → ∀ b, b < 0 → a ≠ b → (TJ13 a).2.1 ≠ (TJ13 b).2.1 := by decide +kernel
theorem tyJ13_ok : ∀ k, k < 0 → parseFieldDescriptor (TJ13 k).2.2.1 = some (tyJ13 k) := by decide +kernel
abbrev cJ13_numberOfLeadingZeros_95d88 : ByteArray := prog_11_method_48_code
def yJ13_numberOfLeadingZeros_95d88 : MethodName := ⟨RJ13, "numberOfLeadingZeros", "(J)I"⟩
abbrev cJ13_numberOfTrailingZeros_95d88 : ByteArray := prog_11_method_49_code
def yJ13_numberOfTrailingZeros_95d88 : MethodName := ⟨RJ13, "numberOfTrailingZeros", "(J)I"⟩
def RJ9 : String := "java/lang/Math"
def TJ9 : u_T := fun k => match k with
  | _ => ("", "", "", false)
def tyJ9 : Nat → FieldType := fun k => match k with
  | _ => .int
theorem nmJ9 : ∀ a, a < 0 → ∀ b, b < 0 → a ≠ b → (TJ9 a).2.1 ≠ (TJ9 b).2.1 := by decide +kernel
theorem tyJ9_ok : ∀ k, k < 0 → parseFieldDescriptor (TJ9 k).2.2.1 = some (tyJ9 k) := by decide +kernel
abbrev cJ9_max_7cf53 : ByteArray := prog_12_method_65_code
def yJ9_max_7cf53 : MethodName := ⟨RJ9, "max", "(II)I"⟩
abbrev cJ9_max_f86c9 : ByteArray := prog_12_method_66_code
def yJ9_max_f86c9 : MethodName := ⟨RJ9, "max", "(JJ)J"⟩
abbrev cJ9_min_7cf53 : ByteArray := prog_12_method_69_code
def yJ9_min_7cf53 : MethodName := ⟨RJ9, "min", "(II)I"⟩
abbrev cJ9_min_f86c9 : ByteArray := prog_12_method_70_code
def yJ9_min_f86c9 : MethodName := ⟨RJ9, "min", "(JJ)J"⟩
def RJ7 : String := "java/util/Arrays"
def TJ7 : u_T := fun k => match k with
  | _ => ("", "", "", false)
def tyJ7 : Nat → FieldType := fun k => match k with
  | _ => .int
theorem nmJ7 : ∀ a, a < 0 → ∀ b, b < 0 → a ≠ b → (TJ7 a).2.1 ≠ (TJ7 b).2.1 := by decide +kernel
theorem tyJ7_ok : ∀ k, k < 0 → parseFieldDescriptor (TJ7 k).2.2.1 = some (tyJ7 k) := by decide +kernel
abbrev cJ7_fill_53178 : ByteArray := prog_13_method_103_code
def yJ7_fill_53178 : MethodName := ⟨RJ7, "fill", "([II)V"⟩
def RL : String := "NumberRiverLaw"
abbrev cL_law : ByteArray := code
def yL_law : MethodName := ⟨RL, "law", "([I)Z"⟩
abbrev vwCl : List vw_C := [(RX0, TX0, 14), (RX1, TX1, 7), (RX2, TX2, 9), (RX3, TX3, 8), (RX4, TX4, 9), (RX5, TX5, 8), (RX6, TX6, 4), (RX7, TX7, 30)]
end
section
def e_il (i : Instr) : Nat := match i with
  | .bipush _ => 2
  | .iload _ => 2
  | .lload _ => 2
  | .aload _ => 2
  | .istore _ => 2
  | .lstore _ => 2
  | .astore _ => 2
  | .ldc _ => 2
  | .newarray _ => 2
  | .sipush _ => 3
  | .ldc_w _ => 3
  | .ldc2_w _ => 3
  | .iinc _ _ => 3
  | .ifCond _ _ => 3
  | .if_icmp _ _ => 3
  | .ifnull _ => 3
  | .ifnonnull _ => 3
  | .goto _ => 3
  | .getfield _ => 3
  | .putfield _ => 3
  | .getstatic _ => 3
  | .invokevirtual _ => 3
  | .invokespecial _ => 3
  | .invokestatic _ => 3
  | .new _ => 3
  | .anewarray _ => 3
  | .tableswitch _ _ _ _ => 0
  | .lookupswitch _ _ => 0
  | _ => 1
def dec (cc : ByteArray) (pc : Nat) : Option Instr := match decode cc pc with
  | .ok (i, len) => if len = e_il i ∨ e_il i = 0 then some i else none
  | _ => none
end
section
/-! the abstract heap: kinds (0 nothing, c+1 an object of class c, 9 int[], 10 long[], 11 Block[], 12 Series[], 13 Span[], 20 a table), lengths, fields by number (32 c + k), contents of arrays -/
abbrev HM : Type := (Nat → Nat) × (Nat → Nat) × (Nat → Nat → Int32) × (Nat → Nat → Int64) × (Nat → Nat → Option Nat) × (Nat → Nat → Int32) × (Nat → Nat → Int64) × (Nat → Nat → Option Nat)
def mK (M : HM) : Nat → Nat := M.1
def mN (M : HM) : Nat → Nat := M.2.1
def mI (M : HM) : Nat → Nat → Int32 := M.2.2.1
def mL (M : HM) : Nat → Nat → Int64 := M.2.2.2.1
def mR (M : HM) : Nat → Nat → Option Nat := M.2.2.2.2.1
def aI (M : HM) : Nat → Nat → Int32 := M.2.2.2.2.2.1
def aL (M : HM) : Nat → Nat → Int64 := M.2.2.2.2.2.2.1
def aR (M : HM) : Nat → Nat → Option Nat := M.2.2.2.2.2.2.2
def up2 {α : Type} (f : Nat → Nat → α) (i j : Nat) (v : α) : Nat → Nat → α := fun x y => if x = i ∧ y = j then v else f x y
def sI (M : HM) (f a : Nat) (v : Int32) : HM := (mK M, mN M, up2 (mI M) f a v, mL M, mR M, aI M, aL M, aR M)
def sL (M : HM) (f a : Nat) (v : Int64) : HM := (mK M, mN M, mI M, up2 (mL M) f a v, mR M, aI M, aL M, aR M)
def sR (M : HM) (f a : Nat) (v : Option Nat) : HM := (mK M, mN M, mI M, mL M, up2 (mR M) f a v, aI M, aL M, aR M)
def tI (M : HM) (a i : Nat) (v : Int32) : HM := (mK M, mN M, mI M, mL M, mR M, up2 (aI M) a i v, aL M, aR M)
def tL (M : HM) (a i : Nat) (v : Int64) : HM := (mK M, mN M, mI M, mL M, mR M, aI M, up2 (aL M) a i v, aR M)
def tR (M : HM) (a i : Nat) (v : Option Nat) : HM := (mK M, mN M, mI M, mL M, mR M, aI M, aL M, up2 (aR M) a i v)
def nO (M : HM) (c q : Nat) : HM := ((fun a => if a = q then c + 1 else mK M a), mN M, (fun f a => if a = q then 0 else mI M f a), (fun f a => if a = q then 0 else mL M f a), (fun f a => if a = q then none else mR M f a), aI M, aL M, aR M)
def nA (M : HM) (t q z : Nat) : HM := ((fun a => if a = q then t else mK M a), (fun a => if a = q then z else mN M a), mI M, mL M, mR M, (fun a i => if a = q then 0 else aI M a i), (fun a i => if a = q then 0 else aL M a i), (fun a i => if a = q then none else aR M a i))
theorem hmK : (∀ M f a v, mK (sI M f a v) = mK M) ∧ (∀ M f a v, mK (sL M f a v) = mK M) ∧ (∀ M f a v, mK (sR M f a v) = mK M) ∧ (∀ M f a v, mK (tI M f a v) = mK M) ∧ (∀ M f a v, mK (tL M f a v) = mK M) ∧ (∀ M f a v, mK (tR M f a v) = mK M) ∧ (∀ M c q a, mK (nO M c q) a = if a = q then c + 1 else mK M a) ∧ (∀ M t q z a, mK (nA M t q z) a = if a = q then t else mK M a) := ⟨fun _ _ _ _ => rfl, fun _ _ _ _ => rfl, fun _ _ _ _ => rfl, fun _ _ _ _ => rfl, fun _ _ _ _ => rfl, fun _ _ _ _ => rfl, fun _ _ _ _ => rfl, fun _ _ _ _ _ => rfl⟩
theorem hmN : (∀ M f a v, mN (sI M f a v) = mN M) ∧ (∀ M f a v, mN (sL M f a v) = mN M) ∧ (∀ M f a v, mN (sR M f a v) = mN M) ∧ (∀ M f a v, mN (tI M f a v) = mN M) ∧ (∀ M f a v, mN (tL M f a v) = mN M) ∧ (∀ M f a v, mN (tR M f a v) = mN M) ∧ (∀ M c q, mN (nO M c q) = mN M) ∧ (∀ M t q z a, mN (nA M t q z) a = if a = q then z else mN M a) := ⟨fun _ _ _ _ => rfl, fun _ _ _ _ => rfl, fun _ _ _ _ => rfl, fun _ _ _ _ => rfl, fun _ _ _ _ => rfl, fun _ _ _ _ => rfl, fun _ _ _ => rfl, fun _ _ _ _ _ => rfl⟩
theorem hmI : (∀ M f a v g b, mI (sI M f a v) g b = if g = f ∧ b = a then v else mI M g b) ∧ (∀ M f a v, mI (sL M f a v) = mI M) ∧ (∀ M f a v, mI (sR M f a v) = mI M) ∧ (∀ M f a v, mI (tI M f a v) = mI M) ∧ (∀ M f a v, mI (tL M f a v) = mI M) ∧ (∀ M f a v, mI (tR M f a v) = mI M) ∧ (∀ M c q f a, mI (nO M c q) f a = if a = q then 0 else mI M f a) ∧ (∀ M t q z, mI (nA M t q z) = mI M) := ⟨fun _ _ _ _ _ _ => rfl, fun _ _ _ _ => rfl, fun _ _ _ _ => rfl, fun _ _ _ _ => rfl, fun _ _ _ _ => rfl, fun _ _ _ _ => rfl, fun _ _ _ _ _ => rfl, fun _ _ _ _ => rfl⟩
theorem hmL : (∀ M f a v g b, mL (sL M f a v) g b = if g = f ∧ b = a then v else mL M g b) ∧ (∀ M f a v, mL (sI M f a v) = mL M) ∧ (∀ M f a v, mL (sR M f a v) = mL M) ∧ (∀ M f a v, mL (tI M f a v) = mL M) ∧ (∀ M f a v, mL (tL M f a v) = mL M) ∧ (∀ M f a v, mL (tR M f a v) = mL M) ∧ (∀ M c q f a, mL (nO M c q) f a = if a = q then 0 else mL M f a) ∧ (∀ M t q z, mL (nA M t q z) = mL M) := ⟨fun _ _ _ _ _ _ => rfl, fun _ _ _ _ => rfl, fun _ _ _ _ => rfl, fun _ _ _ _ => rfl, fun _ _ _ _ => rfl, fun _ _ _ _ => rfl, fun _ _ _ _ _ => rfl, fun _ _ _ _ => rfl⟩
theorem hmR : (∀ M f a v g b, mR (sR M f a v) g b = if g = f ∧ b = a then v else mR M g b) ∧ (∀ M f a v, mR (sI M f a v) = mR M) ∧ (∀ M f a v, mR (sL M f a v) = mR M) ∧ (∀ M f a v, mR (tI M f a v) = mR M) ∧ (∀ M f a v, mR (tL M f a v) = mR M) ∧ (∀ M f a v, mR (tR M f a v) = mR M) ∧ (∀ M c q f a, mR (nO M c q) f a = if a = q then none else mR M f a) ∧ (∀ M t q z, mR (nA M t q z) = mR M) := ⟨fun _ _ _ _ _ _ => rfl, fun _ _ _ _ => rfl, fun _ _ _ _ => rfl, fun _ _ _ _ => rfl, fun _ _ _ _ => rfl, fun _ _ _ _ => rfl, fun _ _ _ _ _ => rfl, fun _ _ _ _ => rfl⟩
theorem haI : (∀ M f a v g b, aI (tI M f a v) g b = if g = f ∧ b = a then v else aI M g b) ∧ (∀ M f a v, aI (sI M f a v) = aI M) ∧ (∀ M f a v, aI (sL M f a v) = aI M) ∧ (∀ M f a v, aI (sR M f a v) = aI M) ∧ (∀ M f a v, aI (tL M f a v) = aI M) ∧ (∀ M f a v, aI (tR M f a v) = aI M) ∧ (∀ M c q, aI (nO M c q) = aI M) ∧ (∀ M t q z a i, aI (nA M t q z) a i = if a = q then 0 else aI M a i) := ⟨fun _ _ _ _ _ _ => rfl, fun _ _ _ _ => rfl, fun _ _ _ _ => rfl, fun _ _ _ _ => rfl, fun _ _ _ _ => rfl, fun _ _ _ _ => rfl, fun _ _ _ => rfl, fun _ _ _ _ _ _ => rfl⟩
theorem haL : (∀ M f a v g b, aL (tL M f a v) g b = if g = f ∧ b = a then v else aL M g b) ∧ (∀ M f a v, aL (sI M f a v) = aL M) ∧ (∀ M f a v, aL (sL M f a v) = aL M) ∧ (∀ M f a v, aL (sR M f a v) = aL M) ∧ (∀ M f a v, aL (tI M f a v) = aL M) ∧ (∀ M f a v, aL (tR M f a v) = aL M) ∧ (∀ M c q, aL (nO M c q) = aL M) ∧ (∀ M t q z a i, aL (nA M t q z) a i = if a = q then 0 else aL M a i) := ⟨fun _ _ _ _ _ _ => rfl, fun _ _ _ _ => rfl, fun _ _ _ _ => rfl, fun _ _ _ _ => rfl, fun _ _ _ _ => rfl, fun _ _ _ _ => rfl, fun _ _ _ => rfl, fun _ _ _ _ _ _ => rfl⟩
theorem haR : (∀ M f a v g b, aR (tR M f a v) g b = if g = f ∧ b = a then v else aR M g b) ∧ (∀ M f a v, aR (sI M f a v) = aR M) ∧ (∀ M f a v, aR (sL M f a v) = aR M) ∧ (∀ M f a v, aR (sR M f a v) = aR M) ∧ (∀ M f a v, aR (tI M f a v) = aR M) ∧ (∀ M f a v, aR (tL M f a v) = aR M) ∧ (∀ M c q, aR (nO M c q) = aR M) ∧ (∀ M t q z a i, aR (nA M t q z) a i = if a = q then none else aR M a i) := ⟨fun _ _ _ _ _ _ => rfl, fun _ _ _ _ => rfl, fun _ _ _ _ => rfl, fun _ _ _ _ => rfl, fun _ _ _ _ => rfl, fun _ _ _ _ => rfl, fun _ _ _ => rfl, fun _ _ _ _ _ _ => rfl⟩
/-! one step of the code, over the abstract heap -/
abbrev LV : Type := List (Nat × Value)
abbrev GT : Type := Nat → LV → List Value → HM → Nat → Nat → Prop
abbrev QT : Type := Option Value → HM → Nat → Nat → Prop
abbrev SP : Type := List Value → HM → Nat → Nat → QT → Prop
abbrev CS : Type := Nat → Option (Nat × Nat × SP)
def isI (v : Value) : Prop := ∃ x, v = .int x
def isL (v : Value) : Prop := ∃ x, v = .long x
def isR (v : Value) : Prop := v = .null ∨ ∃ a, v = .ref a
def e_i1 (st : List Value) (f : Int32 → List Value → Prop) : Prop := match st with
  | .int x :: r => f x r
  | _ => False
def e_i2 (st : List Value) (f : Int32 → Int32 → List Value → Prop) : Prop := match st with
  | .int y :: .int x :: r => f x y r
  | _ => False
def e_l1 (st : List Value) (f : Int64 → List Value → Prop) : Prop := match st with
  | .long x :: r => f x r
  | _ => False
def e_l2 (st : List Value) (f : Int64 → Int64 → List Value → Prop) : Prop := match st with
  | .long y :: .long x :: r => f x y r
  | _ => False
def e_li (st : List Value) (f : Int64 → Int32 → List Value → Prop) : Prop := match st with
  | .int y :: .long x :: r => f x y r
  | _ => False
def e_r1 (st : List Value) (f : Nat → List Value → Prop) : Prop := match st with
  | .ref a :: r => f a r
  | _ => False
def e_n1 (st : List Value) (f : List Value → Prop) (g : List Value → Prop) : Prop := match st with
  | .null :: r => f r
  | .ref _ :: r => g r
  | _ => False
def e_ir (st : List Value) (f : Nat → Int32 → List Value → Prop) : Prop := match st with
  | .int i :: .ref a :: r => f a i r
  | _ => False
def e_iir (st : List Value) (f : Nat → Int32 → Int32 → List Value → Prop) : Prop := match st with
  | .int x :: .int i :: .ref a :: r => f a i x r
  | _ => False
def e_lir (st : List Value) (f : Nat → Int32 → Int64 → List Value → Prop) : Prop := match st with
  | .long x :: .int i :: .ref a :: r => f a i x r
  | _ => False
def e_rir (st : List Value) (f : Nat → Int32 → Option Nat → List Value → Prop) : Prop := match st with
  | .ref b :: .int i :: .ref a :: r => f a i (some b) r
  | .null :: .int i :: .ref a :: r => f a i none r
  | _ => False
def e_ld (L : LV) (j : Nat) (ok : Value → Prop) (f : Value → Prop) : Prop := match L.lookup j with
  | some v => ok v ∧ f v
  | none => False
def e_k1 (i : Nat) (L : LV) : LV := L.filter (fun q => !(q.1 == i) && !(q.1 + 1 == i && q.2.category == 2))
def e_k2 (i : Nat) (L : LV) : LV := L.filter (fun q => !(q.1 == i) && (!(q.1 == i + 1) && !(q.1 + 1 == i && q.2.category == 2)))
def e_cn (c : Jvm.ClassFile.Cond) (x y : Int32) : Prop := match c with
  | .eq => x = y
  | .ne => ¬ x = y
  | .lt => x < y
  | .ge => ¬ x < y
  | .gt => y < x
  | .le => ¬ y < x
def e_jt (pc : Nat) (off : Int) : Nat := ((pc : Int) + off).toNat
def e_jo (pc : Nat) (off : Int) : Prop := 0 ≤ (pc : Int) + off
def e_ts (g : Int → Prop) (d : Int) (x : Int32) : Int → List Int → Prop
  | _, [] => g d
  | lo, o :: os => (x.toInt = lo → g o) ∧ (¬ x.toInt = lo → e_ts g d x (lo + 1) os)
def e_ls (g : Int → Prop) (d : Int) (x : Int32) : List (Int × Int) → Prop
  | [] => g d
  | o :: os => (x.toInt = o.1 → g o.2) ∧ (¬ x.toInt = o.1 → e_ls g d x os)
def e_rm (r : List Value) : Prop := (r.map fun v => v.category).sum ≤ 8
def e_rc (M : HM) (c : Nat) (as : List Value) : Prop := match as with
  | .ref b :: _ => c = 9 ∨ mK M b = c + 1
  | _ => c = 9
def e_iv (cs : CS) (idx : Nat) (st : List Value) (M : HM) (k n : Nat) (f : List Value → QT) : Prop := match cs idx with
  | some (na, c, sp) => na ≤ st.length ∧ e_rm (st.drop na) ∧ e_rc M c (st.take na).reverse ∧ sp (st.take na).reverse M k n (fun v M' k' n' => f (v.toList ++ st.drop na) v M' k' n')
  | none => False
def e_fv (M : HM) (f tg a : Nat) : Value := match tg with
  | 0 => .int (mI M f a)
  | 1 => .long (mL M f a)
  | _ => va_rf (mR M f a)
def e_pt (M : HM) (f tg : Nat) (st : List Value) (g : List Value → HM → Prop) : Prop := match tg, st with
  | 0, .int x :: .ref a :: r => mK M a = f / 32 + 1 ∧ g r (sI M f a x)
  | 1, .long x :: .ref a :: r => mK M a = f / 32 + 1 ∧ g r (sL M f a x)
  | 2, .ref b :: .ref a :: r => mK M a = f / 32 + 1 ∧ g r (sR M f a (some b))
  | 2, .null :: .ref a :: r => mK M a = f / 32 + 1 ∧ g r (sR M f a none)
  | _, _ => False
/-- the tables of the classes: fields (number, type, final), static tables, classes, constants -/
abbrev TB : Type := (Nat → Nat → Option (Nat × Nat × Bool)) × (Nat → Nat → Option Nat) × (Nat → Nat → Option Nat) × (Nat → Nat → Option Int32) × (Nat → Nat → Option Int64)
def e_nf (c : Nat) : Nat := match c with
  | 0 => 14
  | 1 => 7
  | 2 => 9
  | 3 => 8
  | 4 => 9
  | 5 => 8
  | 6 => 4
  | _ => 30
def e_ak (c : Nat) : Nat := match c with
  | 0 => 11
  | 4 => 12
  | 5 => 13
  | _ => 0
def e_kc (t : Nat) : Nat := match t with
  | 11 => 0
  | 12 => 4
  | _ => 5
def e_sa (j : Nat) (i : Nat) : Int32 := match j, i with
  | 0, 0 => 0
  | 0, 1 => 7
  | 0, 2 => 9
  | 0, 3 => 12
  | 0, _ => 32
  | _, 0 => 0
  | _, 1 => 63
  | _, 2 => 255
  | _, 3 => 2047
  | _, _ => 0
def e_d2 (st : List Value) (f : List Value → Prop) : Prop := match st with
  | .long x :: r => f (.long x :: .long x :: r)
  | .int y :: .int x :: r => f (.int y :: .int x :: .int y :: .int x :: r)
  | .int y :: .ref x :: r => f (.int y :: .ref x :: .int y :: .ref x :: r)
  | _ => False
def e_d1 (st : List Value) (f : List Value → Prop) : Prop := match st with
  | .int x :: r => f (.int x :: .int x :: r)
  | .ref x :: r => f (.ref x :: .ref x :: r)
  | .null :: r => f (.null :: .null :: r)
  | _ => False
theorem dec_spec {cc : ByteArray} {pc : Nat} {i : Instr} (h : dec cc pc = some i) : ∃ len, decode cc pc = .ok (i, len) ∧ (len = e_il i ∨ e_il i = 0) := by
  unfold dec at h
  split at h
  · rename_i j len hd
    split at h
    · rename_i hl
      cases h
      exact ⟨len, hd, hl⟩
    · cases h
  · cases h
def ex_i (tb : TB) (own : Nat) (ini : Bool) (rt : Nat) (cs : CS) (Q : QT) (G : GT) (i : Instr) (pc : Nat) (L : LV) (st : List Value) (M : HM) (k n : Nat) : Prop := match i with
  | .iconst c => G (pc + 1) L (.int (Int32.ofInt c) :: st) M k n
  | .bipush c => G (pc + 2) L (.int (Int8.ofInt c).toInt32 :: st) M k n
  | .sipush c => G (pc + 3) L (.int (Int16.ofInt c).toInt32 :: st) M k n
  | .lconst c => G (pc + 1) L (.long (Int64.ofNat c.val) :: st) M k n
  | .aconst_null => G (pc + 1) L (.null :: st) M k n
  | .ldc x => match tb.2.2.2.1 own x with
    | some v => G (pc + 2) L (.int v :: st) M k n
    | none => False
  | .ldc_w x => match tb.2.2.2.1 own x with
    | some v => G (pc + 3) L (.int v :: st) M k n
    | none => False
  | .ldc2_w x => match tb.2.2.2.2 own x with
    | some v => G (pc + 3) L (.long v :: st) M k n
    | none => False
  | .iload_n j => e_ld L j.val isI fun v => G (pc + 1) L (v :: st) M k n
  | .lload_n j => e_ld L j.val isL fun v => G (pc + 1) L (v :: st) M k n
  | .aload_n j => e_ld L j.val isR fun v => G (pc + 1) L (v :: st) M k n
  | .iload j => e_ld L j isI fun v => G (pc + 2) L (v :: st) M k n
  | .lload j => e_ld L j isL fun v => G (pc + 2) L (v :: st) M k n
  | .aload j => e_ld L j isR fun v => G (pc + 2) L (v :: st) M k n
  | .istore_n j => e_i1 st fun x r => G (pc + 1) ((j.val, .int x) :: e_k1 j.val L) r M k n
  | .istore j => e_i1 st fun x r => G (pc + 2) ((j, .int x) :: e_k1 j L) r M k n
  | .lstore_n j => e_l1 st fun x r => G (pc + 1) ((j.val, .long x) :: e_k2 j.val L) r M k n
  | .lstore j => e_l1 st fun x r => G (pc + 2) ((j, .long x) :: e_k2 j L) r M k n
  | .astore_n j => match st with
    | v :: r => isR v ∧ G (pc + 1) ((j.val, v) :: e_k1 j.val L) r M k n
    | _ => False
  | .astore j => match st with
    | v :: r => isR v ∧ G (pc + 2) ((j, v) :: e_k1 j L) r M k n
    | _ => False
  | .iinc j c => match L.lookup j with
    | some (.int x) => G (pc + 3) ((j, .int (x + Int32.ofInt c)) :: e_k1 j L) st M k n
    | _ => False
  | .iadd => e_i2 st fun x y r => G (pc + 1) L (.int (x + y) :: r) M k n
  | .isub => e_i2 st fun x y r => G (pc + 1) L (.int (x - y) :: r) M k n
  | .imul => e_i2 st fun x y r => G (pc + 1) L (.int (x * y) :: r) M k n
  | .idiv => e_i2 st fun x y r => ¬ y = 0 ∧ G (pc + 1) L (.int (x / y) :: r) M k n
  | .irem => e_i2 st fun x y r => ¬ y = 0 ∧ G (pc + 1) L (.int (x - x / y * y) :: r) M k n
  | .iand => e_i2 st fun x y r => G (pc + 1) L (.int (x &&& y) :: r) M k n
  | .ior => e_i2 st fun x y r => G (pc + 1) L (.int (x ||| y) :: r) M k n
  | .ixor => e_i2 st fun x y r => G (pc + 1) L (.int (x ^^^ y) :: r) M k n
  | .ishl => e_i2 st fun x y r => G (pc + 1) L (.int (x <<< (y &&& 31)) :: r) M k n
  | .ishr => e_i2 st fun x y r => G (pc + 1) L (.int (x >>> (y &&& 31)) :: r) M k n
  | .iushr => e_i2 st fun x y r => G (pc + 1) L (.int (x.toUInt32 >>> (y.toUInt32 &&& Int32.toUInt32 31)).toInt32 :: r) M k n
  | .ineg => e_i1 st fun x r => G (pc + 1) L (.int (-x) :: r) M k n
  | .i2l => e_i1 st fun x r => G (pc + 1) L (.long x.toInt64 :: r) M k n
  | .l2i => e_l1 st fun x r => G (pc + 1) L (.int x.toInt32 :: r) M k n
  | .ladd => e_l2 st fun x y r => G (pc + 1) L (.long (x + y) :: r) M k n
  | .lsub => e_l2 st fun x y r => G (pc + 1) L (.long (x - y) :: r) M k n
  | .lmul => e_l2 st fun x y r => G (pc + 1) L (.long (x * y) :: r) M k n
  | .land => e_l2 st fun x y r => G (pc + 1) L (.long (x &&& y) :: r) M k n
  | .lor => e_l2 st fun x y r => G (pc + 1) L (.long (x ||| y) :: r) M k n
  | .lxor => e_l2 st fun x y r => G (pc + 1) L (.long (x ^^^ y) :: r) M k n
  | .lcmp => e_l2 st fun x y r => G (pc + 1) L (.int (lg_cmp x y) :: r) M k n
  | .lshl => e_li st fun x y r => G (pc + 1) L (.long (x <<< (y.toInt64 &&& 63)) :: r) M k n
  | .lshr => e_li st fun x y r => G (pc + 1) L (.long (x >>> (y.toInt64 &&& 63)) :: r) M k n
  | .lushr => e_li st fun x y r => G (pc + 1) L (.long (x.toUInt64 >>> (y.toInt64.toUInt64 &&& Int64.toUInt64 63)).toInt64 :: r) M k n
  | .dup => e_d1 st fun s2 => G (pc + 1) L s2 M k n
  | .dup2 => e_d2 st fun s2 => G (pc + 1) L s2 M k n
  | .ifCond c o => e_jo pc o ∧ e_i1 st fun x r => (e_cn c x 0 → G (e_jt pc o) L r M k n) ∧ (¬ e_cn c x 0 → G (pc + 3) L r M k n)
  | .if_icmp c o => e_jo pc o ∧ e_i2 st fun x y r => (e_cn c x y → G (e_jt pc o) L r M k n) ∧ (¬ e_cn c x y → G (pc + 3) L r M k n)
  | .ifnull o => e_jo pc o ∧ e_n1 st (fun r => G (e_jt pc o) L r M k n) (fun r => G (pc + 3) L r M k n)
  | .ifnonnull o => e_jo pc o ∧ e_n1 st (fun r => G (pc + 3) L r M k n) (fun r => G (e_jt pc o) L r M k n)
  | .goto o => e_jo pc o ∧ G (e_jt pc o) L st M k n
  | .tableswitch d lo hi os => (hi = lo + os.toList.length - 1) ∧ e_i1 st fun x r => e_ts (fun o => e_jo pc o ∧ G (e_jt pc o) L r M k n) d x lo os.toList
  | .lookupswitch d ps => ((ps.toList.zip (ps.toList.drop 1)).all (fun (a, next) => a.1 < next.1) = true) ∧ e_i1 st fun x r => e_ls (fun o => e_jo pc o ∧ G (e_jt pc o) L r M k n) d x ps.toList
  | .arraylength => e_r1 st fun a r => (mK M a = 9 ∨ mK M a = 10 ∨ mK M a = 11 ∨ mK M a = 12 ∨ mK M a = 13) ∧ G (pc + 1) L (.int (Int32.ofNat (mN M a)) :: r) M k n
  | .iaload => e_ir st fun a j r => (mK M a = 9 ∨ mK M a = 20) ∧ vp_in j (mN M a) ∧ G (pc + 1) L (.int (aI M a j.toNatClampNeg) :: r) M k n
  | .laload => e_ir st fun a j r => mK M a = 10 ∧ vp_in j (mN M a) ∧ G (pc + 1) L (.long (aL M a j.toNatClampNeg) :: r) M k n
  | .aaload => e_ir st fun a j r => (mK M a = 11 ∨ mK M a = 12 ∨ mK M a = 13) ∧ vp_in j (mN M a) ∧ G (pc + 1) L (va_rf (aR M a j.toNatClampNeg) :: r) M k n
  | .iastore => e_iir st fun a j x r => mK M a = 9 ∧ vp_in j (mN M a) ∧ G (pc + 1) L r (tI M a j.toNatClampNeg x) k n
  | .lastore => e_lir st fun a j x r => mK M a = 10 ∧ vp_in j (mN M a) ∧ G (pc + 1) L r (tL M a j.toNatClampNeg x) k n
  | .aastore => e_rir st fun a j o r => (mK M a = 11 ∨ mK M a = 12 ∨ mK M a = 13) ∧ vp_in j (mN M a) ∧ (∀ b, o = some b → mK M b = e_kc (mK M a) + 1) ∧ G (pc + 1) L r (tR M a j.toNatClampNeg o) k n
  | .getfield x => match tb.1 own x with
    | some (f, tg, _) => e_r1 st fun a r => mK M a = f / 32 + 1 ∧ G (pc + 3) L (e_fv M f tg a :: r) M k n
    | none => False
  | .putfield x => match tb.1 own x with
    | some (f, tg, fin) => (fin = false ∨ ini = true) ∧ e_pt M f tg st fun r M' => G (pc + 3) L r M' k n
    | none => False
  | .getstatic x => match tb.2.1 own x with
    | some j => ∀ t, mK M t = 20 → mN M t = 5 → aI M t = e_sa j → G (pc + 3) L (.ref t :: st) M k n
    | none => False
  | .new x => match tb.2.2.1 own x with
    | some c => 1 ≤ k ∧ e_nf c ≤ n ∧ ∀ q, mK M q = 0 → G (pc + 3) L (.ref q :: st) (nO M c q) (k - 1) (n - e_nf c)
    | none => False
  | .newarray .int => e_i1 st fun z r => ¬ z < 0 ∧ z.toNatClampNeg ≤ 1000000 ∧ 1 ≤ k ∧ z.toNatClampNeg ≤ n ∧ ∀ q, mK M q = 0 → G (pc + 2) L (.ref q :: r) (nA M 9 q z.toNatClampNeg) (k - 1) (n - z.toNatClampNeg)
  | .newarray .long => e_i1 st fun z r => ¬ z < 0 ∧ z.toNatClampNeg ≤ 1000000 ∧ 1 ≤ k ∧ z.toNatClampNeg ≤ n ∧ ∀ q, mK M q = 0 → G (pc + 2) L (.ref q :: r) (nA M 10 q z.toNatClampNeg) (k - 1) (n - z.toNatClampNeg)
  | .anewarray x => match tb.2.2.1 own x with
    | some c => (c = 0 ∨ c = 4 ∨ c = 5) ∧ e_i1 st fun z r => ¬ z < 0 ∧ z.toNatClampNeg ≤ 1000000 ∧ 1 ≤ k ∧ z.toNatClampNeg ≤ n ∧ ∀ q, mK M q = 0 → G (pc + 3) L (.ref q :: r) (nA M (e_ak c) q z.toNatClampNeg) (k - 1) (n - z.toNatClampNeg)
    | none => False
  | .invokevirtual x => e_iv cs x st M k n fun s2 _ M' k' n' => G (pc + 3) L s2 M' k' n'
  | .invokespecial x => e_iv cs x st M k n fun s2 _ M' k' n' => G (pc + 3) L s2 M' k' n'
  | .invokestatic x => e_iv cs x st M k n fun s2 _ M' k' n' => G (pc + 3) L s2 M' k' n'
  | .ireturn => match st with
    | [.int v] => (rt = 1 ∨ (rt = 4 ∧ (v = 0 ∨ v = 1))) ∧ Q (some (.int v)) M k n
    | _ => False
  | .lreturn => match st with
    | [.long v] => rt = 2 ∧ Q (some (.long v)) M k n
    | _ => False
  | .areturn => match st with
    | [v] => rt = 3 ∧ isR v ∧ Q (some v) M k n
    | _ => False
  | .return_ => match st with
    | [] => rt = 0 ∧ Q none M k n
    | _ => False
  | _ => False
def ex_1 (tb : TB) (own : Nat) (ini : Bool) (rt : Nat) (cc : ByteArray) (cs : CS) (Q : QT) (G : GT) (pc : Nat) (L : LV) (st : List Value) (M : HM) (k n : Nat) : Prop := match dec cc pc with
  | some i => ex_i tb own ini rt cs Q G i pc L st M k n
  | none => False
def e_pk (ks : List Nat) (L : LV) : LV := ks.filterMap fun j => (L.lookup j).map fun v => (j, v)
/-- what a body may use: G is closed under the step; fewer locals are enough -/
def e_cl (tb : TB) (own : Nat) (ini : Bool) (rt : Nat) (cc : ByteArray) (cs : CS) (Q : QT) (G : GT) : Prop :=
  (∀ (G' : GT), (∀ pc L st M k n, G' pc L st M k n → G pc L st M k n) → ∀ pc L st M k n, ex_1 tb own ini rt cc cs Q G' pc L st M k n → G pc L st M k n) ∧
  ∀ ks pc L st M k n, G pc (e_pk ks L) st M k n → G pc L st M k n
def e_wp (tb : TB) (own : Nat) (ini : Bool) (rt : Nat) (cc : ByteArray) (cs : CS) (Q : QT) (G : GT) (cuts : List (Nat × List Nat)) : Nat → GT
  | 0, pc, L, st, M, k, n => G pc L st M k n
  | f + 1, pc, L, st, M, k, n => match cuts.lookup pc with
    | some ks => G pc (e_pk ks L) st M k n
    | none => ex_1 tb own ini rt cc cs Q (e_wp tb own ini rt cc cs Q G cuts f) pc L st M k n
theorem e_wp_to {tb : TB} {own : Nat} {ini : Bool} {rt : Nat} {cc : ByteArray} {cs : CS} {Q : QT} {G : GT} {cuts : List (Nat × List Nat)} (h : e_cl tb own ini rt cc cs Q G) : ∀ (f : Nat) pc L st M k n, e_wp tb own ini rt cc cs Q G cuts f pc L st M k n → G pc L st M k n := by
  intro f
  induction f with
  | zero => intro pc L st M k n hw; exact hw
  | succ f ih =>
    intro pc L st M k n hw
    unfold e_wp at hw
    split at hw
    · exact h.2 _ _ _ _ _ _ _ hw
    · exact h.1 _ ih _ _ _ _ _ _ hw
/-- from a point of the code: step, and go on to the cuts -/
theorem e_go {tb : TB} {own : Nat} {ini : Bool} {rt : Nat} {cc : ByteArray} {cs : CS} {Q : QT} {G : GT} (h : e_cl tb own ini rt cc cs Q G) (cuts : List (Nat × List Nat)) (f : Nat) {pc : Nat} {L : LV} {st : List Value} {M : HM} {k n : Nat} (hw : ex_1 tb own ini rt cc cs Q (e_wp tb own ini rt cc cs Q G cuts f) pc L st M k n) : G pc L st M k n :=
  h.1 _ (e_wp_to h f) _ _ _ _ _ _ hw
end
