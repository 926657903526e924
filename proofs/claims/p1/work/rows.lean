section
-- ===== PART A: goes FIRST, ahead of the names: the tables' words, and 'selects' of the private methods out of them =====
/-- a private method of a class that the tables say can be made, by its rows of tables_1 -/
def lw_okq (q : MethodName × Nat) : Prop := (q.1.cls ≠ "java/lang/invoke/MethodHandle" ∧ q.1.cls ≠ "java/lang/invoke/VarHandle") ∧ Cond.instantiable q.1.cls q.2 ∈ tables_1 ∧ Cond.privateMethod q.1 ∈ tables_1 ∧ Cond.instanceMethod q.1 ∈ tables_1
theorem lw_p0 : lw_okq (⟨"MillRow", "refuse", "(I)I"⟩, 18) := ⟨⟨by decide +kernel, by decide +kernel⟩, List.mem_of_getElem? (i := 20) (by decide +kernel), List.mem_of_getElem? (i := 432) (by decide +kernel), List.mem_of_getElem? (i := 433) (by decide +kernel)⟩
theorem lw_p1 : lw_okq (⟨"MillRow$Reader", "split", "(I)V"⟩, 11) := ⟨⟨by decide +kernel, by decide +kernel⟩, List.mem_of_getElem? (i := 28) (by decide +kernel), List.mem_of_getElem? (i := 443) (by decide +kernel), List.mem_of_getElem? (i := 444) (by decide +kernel)⟩
theorem lw_p2 : lw_okq (⟨"MillRow$Reader", "step", "()V"⟩, 11) := ⟨⟨by decide +kernel, by decide +kernel⟩, List.mem_of_getElem? (i := 28) (by decide +kernel), List.mem_of_getElem? (i := 450) (by decide +kernel), List.mem_of_getElem? (i := 451) (by decide +kernel)⟩
theorem lw_p3 : lw_okq (⟨"MillRow$Reader", "takesWheel", "(LMillRow$Wheel;)Z"⟩, 11) := ⟨⟨by decide +kernel, by decide +kernel⟩, List.mem_of_getElem? (i := 28) (by decide +kernel), List.mem_of_getElem? (i := 466) (by decide +kernel), List.mem_of_getElem? (i := 467) (by decide +kernel)⟩
theorem lw_p4 : lw_okq (⟨"MillRow$Reader", "takesWord", "(Ljava/lang/String;)Z"⟩, 11) := ⟨⟨by decide +kernel, by decide +kernel⟩, List.mem_of_getElem? (i := 28) (by decide +kernel), List.mem_of_getElem? (i := 471) (by decide +kernel), List.mem_of_getElem? (i := 472) (by decide +kernel)⟩
theorem lw_p5 : lw_okq (⟨"MillRow$Reader", "isWord", "(Ljava/lang/String;)Z"⟩, 11) := ⟨⟨by decide +kernel, by decide +kernel⟩, List.mem_of_getElem? (i := 28) (by decide +kernel), List.mem_of_getElem? (i := 475) (by decide +kernel), List.mem_of_getElem? (i := 476) (by decide +kernel)⟩
theorem lw_p6 : lw_okq (⟨"MillRow$Reader", "takesNumber", "(II)Z"⟩, 11) := ⟨⟨by decide +kernel, by decide +kernel⟩, List.mem_of_getElem? (i := 28) (by decide +kernel), List.mem_of_getElem? (i := 529) (by decide +kernel), List.mem_of_getElem? (i := 530) (by decide +kernel)⟩
theorem lw_p7 : lw_okq (⟨"MillRow$Reader", "takesSign", "(I)Z"⟩, 11) := ⟨⟨by decide +kernel, by decide +kernel⟩, List.mem_of_getElem? (i := 28) (by decide +kernel), List.mem_of_getElem? (i := 539) (by decide +kernel), List.mem_of_getElem? (i := 540) (by decide +kernel)⟩
theorem lw_p8 : lw_okq (⟨"MillRow$Reader", "isSign", "(I)Z"⟩, 11) := ⟨⟨by decide +kernel, by decide +kernel⟩, List.mem_of_getElem? (i := 28) (by decide +kernel), List.mem_of_getElem? (i := 543) (by decide +kernel), List.mem_of_getElem? (i := 544) (by decide +kernel)⟩
theorem lw_p9 : lw_okq (⟨"MillRow$Reader", "takesStatement", "(LMillRow$Mill;)Z"⟩, 11) := ⟨⟨by decide +kernel, by decide +kernel⟩, List.mem_of_getElem? (i := 28) (by decide +kernel), List.mem_of_getElem? (i := 565) (by decide +kernel), List.mem_of_getElem? (i := 566) (by decide +kernel)⟩
theorem lw_p10 : lw_okq (⟨"MillRow$Reader", "takesAny", "(LMillRow$Rules;I)Z"⟩, 11) := ⟨⟨by decide +kernel, by decide +kernel⟩, List.mem_of_getElem? (i := 28) (by decide +kernel), List.mem_of_getElem? (i := 575) (by decide +kernel), List.mem_of_getElem? (i := 576) (by decide +kernel)⟩
theorem lw_p11 : lw_okq (⟨"MillRow$Reader", "takesAll", "(LMillRow$Rules;I)Z"⟩, 11) := ⟨⟨by decide +kernel, by decide +kernel⟩, List.mem_of_getElem? (i := 28) (by decide +kernel), List.mem_of_getElem? (i := 579) (by decide +kernel), List.mem_of_getElem? (i := 580) (by decide +kernel)⟩
theorem lw_p12 : lw_okq (⟨"MillRow$Reader", "takesOne", "(LMillRow$Rules;I)Z"⟩, 11) := ⟨⟨by decide +kernel, by decide +kernel⟩, List.mem_of_getElem? (i := 28) (by decide +kernel), List.mem_of_getElem? (i := 583) (by decide +kernel), List.mem_of_getElem? (i := 584) (by decide +kernel)⟩
theorem lw_p13 : lw_okq (⟨"MillRow", "toldMill", "(I)LMillRow$Mill;"⟩, 18) := ⟨⟨by decide +kernel, by decide +kernel⟩, List.mem_of_getElem? (i := 20) (by decide +kernel), List.mem_of_getElem? (i := 622) (by decide +kernel), List.mem_of_getElem? (i := 623) (by decide +kernel)⟩
theorem lw_p14 : lw_okq (⟨"MillRow", "overWheel", "(I)LMillRow$Wheel;"⟩, 18) := ⟨⟨by decide +kernel, by decide +kernel⟩, List.mem_of_getElem? (i := 20) (by decide +kernel), List.mem_of_getElem? (i := 652) (by decide +kernel), List.mem_of_getElem? (i := 653) (by decide +kernel)⟩
theorem lw_p15 : lw_okq (⟨"MillRow$Wheel", "underWork", "(III)J"⟩, 10) := ⟨⟨by decide +kernel, by decide +kernel⟩, List.mem_of_getElem? (i := 78) (by decide +kernel), List.mem_of_getElem? (i := 702) (by decide +kernel), List.mem_of_getElem? (i := 703) (by decide +kernel)⟩
def lw_privs_1 : List (MethodName × Nat) := [(⟨"MillRow", "refuse", "(I)I"⟩, 18), (⟨"MillRow$Reader", "split", "(I)V"⟩, 11), (⟨"MillRow$Reader", "step", "()V"⟩, 11), (⟨"MillRow$Reader", "takesWheel", "(LMillRow$Wheel;)Z"⟩, 11), (⟨"MillRow$Reader", "takesWord", "(Ljava/lang/String;)Z"⟩, 11), (⟨"MillRow$Reader", "isWord", "(Ljava/lang/String;)Z"⟩, 11), (⟨"MillRow$Reader", "takesNumber", "(II)Z"⟩, 11), (⟨"MillRow$Reader", "takesSign", "(I)Z"⟩, 11), (⟨"MillRow$Reader", "isSign", "(I)Z"⟩, 11), (⟨"MillRow$Reader", "takesStatement", "(LMillRow$Mill;)Z"⟩, 11), (⟨"MillRow$Reader", "takesAny", "(LMillRow$Rules;I)Z"⟩, 11), (⟨"MillRow$Reader", "takesAll", "(LMillRow$Rules;I)Z"⟩, 11), (⟨"MillRow$Reader", "takesOne", "(LMillRow$Rules;I)Z"⟩, 11), (⟨"MillRow", "toldMill", "(I)LMillRow$Mill;"⟩, 18), (⟨"MillRow", "overWheel", "(I)LMillRow$Wheel;"⟩, 18), (⟨"MillRow$Wheel", "underWork", "(III)J"⟩, 10)]
theorem lw_r1 : ∀ q ∈ lw_privs_1, lw_okq q := List.forall_mem_cons.mpr ⟨lw_p0, List.forall_mem_cons.mpr ⟨lw_p1, List.forall_mem_cons.mpr ⟨lw_p2, List.forall_mem_cons.mpr ⟨lw_p3, List.forall_mem_cons.mpr ⟨lw_p4, List.forall_mem_cons.mpr ⟨lw_p5, List.forall_mem_cons.mpr ⟨lw_p6, List.forall_mem_cons.mpr ⟨lw_p7, List.forall_mem_cons.mpr ⟨lw_p8, List.forall_mem_cons.mpr ⟨lw_p9, List.forall_mem_cons.mpr ⟨lw_p10, List.forall_mem_cons.mpr ⟨lw_p11, List.forall_mem_cons.mpr ⟨lw_p12, List.forall_mem_cons.mpr ⟨lw_p13, List.forall_mem_cons.mpr ⟨lw_p14, List.forall_mem_cons.mpr ⟨lw_p15, fun _ h => absurd h List.not_mem_nil⟩⟩⟩⟩⟩⟩⟩⟩⟩⟩⟩⟩⟩⟩⟩⟩
theorem lw_p16 : lw_okq (⟨"MillRow", "moreByOneFlow", "(LMillRow$Wheel;IIIJ)I"⟩, 18) := ⟨⟨by decide +kernel, by decide +kernel⟩, List.mem_of_getElem? (i := 20) (by decide +kernel), List.mem_of_getElem? (i := 761) (by decide +kernel), List.mem_of_getElem? (i := 762) (by decide +kernel)⟩
theorem lw_p17 : lw_okq (⟨"MillRow", "refusal", "(I)Z"⟩, 18) := ⟨⟨by decide +kernel, by decide +kernel⟩, List.mem_of_getElem? (i := 20) (by decide +kernel), List.mem_of_getElem? (i := 782) (by decide +kernel), List.mem_of_getElem? (i := 783) (by decide +kernel)⟩
theorem lw_p18 : lw_okq (⟨"MillRow", "toldMills", "()I"⟩, 18) := ⟨⟨by decide +kernel, by decide +kernel⟩, List.mem_of_getElem? (i := 20) (by decide +kernel), List.mem_of_getElem? (i := 794) (by decide +kernel), List.mem_of_getElem? (i := 795) (by decide +kernel)⟩
theorem lw_p19 : lw_okq (⟨"MillRow$Brook", "lookBelow", "([LMillRow$Mill;)I"⟩, 14) := ⟨⟨by decide +kernel, by decide +kernel⟩, List.mem_of_getElem? (i := 258) (by decide +kernel), List.mem_of_getElem? (i := 802) (by decide +kernel), List.mem_of_getElem? (i := 803) (by decide +kernel)⟩
theorem lw_p20 : lw_okq (⟨"MillRow$Brook", "today", "()I"⟩, 14) := ⟨⟨by decide +kernel, by decide +kernel⟩, List.mem_of_getElem? (i := 258) (by decide +kernel), List.mem_of_getElem? (i := 807) (by decide +kernel), List.mem_of_getElem? (i := 808) (by decide +kernel)⟩
theorem lw_p21 : lw_okq (⟨"MillRow$Brook", "passMill", "(LMillRow$Mill;ILMillRow$Plan;)I"⟩, 14) := ⟨⟨by decide +kernel, by decide +kernel⟩, List.mem_of_getElem? (i := 258) (by decide +kernel), List.mem_of_getElem? (i := 813) (by decide +kernel), List.mem_of_getElem? (i := 814) (by decide +kernel)⟩
theorem lw_p22 : lw_okq (⟨"MillRow$Rules", "allows", "(II)Z"⟩, 6) := ⟨⟨by decide +kernel, by decide +kernel⟩, List.mem_of_getElem? (i := 200) (by decide +kernel), List.mem_of_getElem? (i := 828) (by decide +kernel), List.mem_of_getElem? (i := 829) (by decide +kernel)⟩
theorem lw_p23 : lw_okq (⟨"MillRow$Rules", "compares", "(I)Z"⟩, 6) := ⟨⟨by decide +kernel, by decide +kernel⟩, List.mem_of_getElem? (i := 200) (by decide +kernel), List.mem_of_getElem? (i := 834) (by decide +kernel), List.mem_of_getElem? (i := 835) (by decide +kernel)⟩
theorem lw_p24 : lw_okq (⟨"MillRow", "isShift", "(II)Z"⟩, 18) := ⟨⟨by decide +kernel, by decide +kernel⟩, List.mem_of_getElem? (i := 20) (by decide +kernel), List.mem_of_getElem? (i := 873) (by decide +kernel), List.mem_of_getElem? (i := 874) (by decide +kernel)⟩
theorem lw_p25 : lw_okq (⟨"MillRow", "shifters", "()I"⟩, 18) := ⟨⟨by decide +kernel, by decide +kernel⟩, List.mem_of_getElem? (i := 20) (by decide +kernel), List.mem_of_getElem? (i := 877) (by decide +kernel), List.mem_of_getElem? (i := 878) (by decide +kernel)⟩
theorem lw_p26 : lw_okq (⟨"MillRow", "dayIsLeft", "()Z"⟩, 18) := ⟨⟨by decide +kernel, by decide +kernel⟩, List.mem_of_getElem? (i := 20) (by decide +kernel), List.mem_of_getElem? (i := 881) (by decide +kernel), List.mem_of_getElem? (i := 882) (by decide +kernel)⟩
theorem lw_p27 : lw_okq (⟨"MillRow", "isWay", "(I)Z"⟩, 18) := ⟨⟨by decide +kernel, by decide +kernel⟩, List.mem_of_getElem? (i := 20) (by decide +kernel), List.mem_of_getElem? (i := 885) (by decide +kernel), List.mem_of_getElem? (i := 886) (by decide +kernel)⟩
theorem lw_p28 : lw_okq (⟨"MillRow", "tryWay", "(III)V"⟩, 18) := ⟨⟨by decide +kernel, by decide +kernel⟩, List.mem_of_getElem? (i := 20) (by decide +kernel), List.mem_of_getElem? (i := 892) (by decide +kernel), List.mem_of_getElem? (i := 893) (by decide +kernel)⟩
theorem lw_p29 : lw_okq (⟨"MillRow", "groundBy", "(II)J"⟩, 18) := ⟨⟨by decide +kernel, by decide +kernel⟩, List.mem_of_getElem? (i := 20) (by decide +kernel), List.mem_of_getElem? (i := 910) (by decide +kernel), List.mem_of_getElem? (i := 911) (by decide +kernel)⟩
theorem lw_p30 : lw_okq (⟨"MillRow", "isRest", "(I)Z"⟩, 18) := ⟨⟨by decide +kernel, by decide +kernel⟩, List.mem_of_getElem? (i := 20) (by decide +kernel), List.mem_of_getElem? (i := 918) (by decide +kernel), List.mem_of_getElem? (i := 919) (by decide +kernel)⟩
theorem lw_p31 : lw_okq (⟨"MillRow", "noted", "(LMillRow$Pairs;II)I"⟩, 18) := ⟨⟨by decide +kernel, by decide +kernel⟩, List.mem_of_getElem? (i := 20) (by decide +kernel), List.mem_of_getElem? (i := 934) (by decide +kernel), List.mem_of_getElem? (i := 935) (by decide +kernel)⟩
def lw_privs_2 : List (MethodName × Nat) := [(⟨"MillRow", "moreByOneFlow", "(LMillRow$Wheel;IIIJ)I"⟩, 18), (⟨"MillRow", "refusal", "(I)Z"⟩, 18), (⟨"MillRow", "toldMills", "()I"⟩, 18), (⟨"MillRow$Brook", "lookBelow", "([LMillRow$Mill;)I"⟩, 14), (⟨"MillRow$Brook", "today", "()I"⟩, 14), (⟨"MillRow$Brook", "passMill", "(LMillRow$Mill;ILMillRow$Plan;)I"⟩, 14), (⟨"MillRow$Rules", "allows", "(II)Z"⟩, 6), (⟨"MillRow$Rules", "compares", "(I)Z"⟩, 6), (⟨"MillRow", "isShift", "(II)Z"⟩, 18), (⟨"MillRow", "shifters", "()I"⟩, 18), (⟨"MillRow", "dayIsLeft", "()Z"⟩, 18), (⟨"MillRow", "isWay", "(I)Z"⟩, 18), (⟨"MillRow", "tryWay", "(III)V"⟩, 18), (⟨"MillRow", "groundBy", "(II)J"⟩, 18), (⟨"MillRow", "isRest", "(I)Z"⟩, 18), (⟨"MillRow", "noted", "(LMillRow$Pairs;II)I"⟩, 18)]
theorem lw_r2 : ∀ q ∈ lw_privs_2, lw_okq q := List.forall_mem_cons.mpr ⟨lw_p16, List.forall_mem_cons.mpr ⟨lw_p17, List.forall_mem_cons.mpr ⟨lw_p18, List.forall_mem_cons.mpr ⟨lw_p19, List.forall_mem_cons.mpr ⟨lw_p20, List.forall_mem_cons.mpr ⟨lw_p21, List.forall_mem_cons.mpr ⟨lw_p22, List.forall_mem_cons.mpr ⟨lw_p23, List.forall_mem_cons.mpr ⟨lw_p24, List.forall_mem_cons.mpr ⟨lw_p25, List.forall_mem_cons.mpr ⟨lw_p26, List.forall_mem_cons.mpr ⟨lw_p27, List.forall_mem_cons.mpr ⟨lw_p28, List.forall_mem_cons.mpr ⟨lw_p29, List.forall_mem_cons.mpr ⟨lw_p30, List.forall_mem_cons.mpr ⟨lw_p31, fun _ h => absurd h List.not_mem_nil⟩⟩⟩⟩⟩⟩⟩⟩⟩⟩⟩⟩⟩⟩⟩⟩
theorem lw_p32 : lw_okq (⟨"MillRow", "weighs", "(I)J"⟩, 18) := ⟨⟨by decide +kernel, by decide +kernel⟩, List.mem_of_getElem? (i := 20) (by decide +kernel), List.mem_of_getElem? (i := 946) (by decide +kernel), List.mem_of_getElem? (i := 947) (by decide +kernel)⟩
theorem lw_p33 : lw_okq (⟨"MillRow", "setYield", "(I)J"⟩, 18) := ⟨⟨by decide +kernel, by decide +kernel⟩, List.mem_of_getElem? (i := 20) (by decide +kernel), List.mem_of_getElem? (i := 1010) (by decide +kernel), List.mem_of_getElem? (i := 1011) (by decide +kernel)⟩
theorem lw_p34 : lw_okq (⟨"MillRow", "setPrice", "(I)I"⟩, 18) := ⟨⟨by decide +kernel, by decide +kernel⟩, List.mem_of_getElem? (i := 20) (by decide +kernel), List.mem_of_getElem? (i := 1014) (by decide +kernel), List.mem_of_getElem? (i := 1015) (by decide +kernel)⟩
theorem lw_p35 : lw_okq (⟨"MillRowModel", "next", "()V"⟩, 74) := ⟨⟨by decide +kernel, by decide +kernel⟩, List.mem_of_getElem? (i := 1050) (by decide +kernel), List.mem_of_getElem? (i := 1292) (by decide +kernel), List.mem_of_getElem? (i := 1293) (by decide +kernel)⟩
theorem lw_p36 : lw_okq (⟨"MillRowModel", "here", "()I"⟩, 74) := ⟨⟨by decide +kernel, by decide +kernel⟩, List.mem_of_getElem? (i := 1050) (by decide +kernel), List.mem_of_getElem? (i := 1296) (by decide +kernel), List.mem_of_getElem? (i := 1297) (by decide +kernel)⟩
theorem lw_p37 : lw_okq (⟨"MillRowModel", "readWheel", "()V"⟩, 74) := ⟨⟨by decide +kernel, by decide +kernel⟩, List.mem_of_getElem? (i := 1050) (by decide +kernel), List.mem_of_getElem? (i := 1307) (by decide +kernel), List.mem_of_getElem? (i := 1308) (by decide +kernel)⟩
theorem lw_p38 : lw_okq (⟨"MillRowModel", "needs", "(J)V"⟩, 74) := ⟨⟨by decide +kernel, by decide +kernel⟩, List.mem_of_getElem? (i := 1050) (by decide +kernel), List.mem_of_getElem? (i := 1312) (by decide +kernel), List.mem_of_getElem? (i := 1313) (by decide +kernel)⟩
theorem lw_p39 : lw_okq (⟨"MillRowModel", "takes", "(J)Z"⟩, 74) := ⟨⟨by decide +kernel, by decide +kernel⟩, List.mem_of_getElem? (i := 1050) (by decide +kernel), List.mem_of_getElem? (i := 1316) (by decide +kernel), List.mem_of_getElem? (i := 1317) (by decide +kernel)⟩
theorem lw_p40 : lw_okq (⟨"MillRowModel", "is", "(J)Z"⟩, 74) := ⟨⟨by decide +kernel, by decide +kernel⟩, List.mem_of_getElem? (i := 1050) (by decide +kernel), List.mem_of_getElem? (i := 1320) (by decide +kernel), List.mem_of_getElem? (i := 1321) (by decide +kernel)⟩
theorem lw_p41 : lw_okq (⟨"MillRowModel", "errs", "()V"⟩, 74) := ⟨⟨by decide +kernel, by decide +kernel⟩, List.mem_of_getElem? (i := 1050) (by decide +kernel), List.mem_of_getElem? (i := 1324) (by decide +kernel), List.mem_of_getElem? (i := 1325) (by decide +kernel)⟩
theorem lw_p42 : lw_okq (⟨"MillRowModel", "numeral", "(II)I"⟩, 74) := ⟨⟨by decide +kernel, by decide +kernel⟩, List.mem_of_getElem? (i := 1050) (by decide +kernel), List.mem_of_getElem? (i := 1330) (by decide +kernel), List.mem_of_getElem? (i := 1331) (by decide +kernel)⟩
theorem lw_p43 : lw_okq (⟨"MillRowModel", "ends", "()V"⟩, 74) := ⟨⟨by decide +kernel, by decide +kernel⟩, List.mem_of_getElem? (i := 1050) (by decide +kernel), List.mem_of_getElem? (i := 1339) (by decide +kernel), List.mem_of_getElem? (i := 1340) (by decide +kernel)⟩
theorem lw_p44 : lw_okq (⟨"MillRowModel", "readStatement", "()V"⟩, 74) := ⟨⟨by decide +kernel, by decide +kernel⟩, List.mem_of_getElem? (i := 1050) (by decide +kernel), List.mem_of_getElem? (i := 1343) (by decide +kernel), List.mem_of_getElem? (i := 1344) (by decide +kernel)⟩
theorem lw_p45 : lw_okq (⟨"MillRowModel", "readGate", "()V"⟩, 74) := ⟨⟨by decide +kernel, by decide +kernel⟩, List.mem_of_getElem? (i := 1050) (by decide +kernel), List.mem_of_getElem? (i := 1352) (by decide +kernel), List.mem_of_getElem? (i := 1353) (by decide +kernel)⟩
theorem lw_p46 : lw_okq (⟨"MillRowModel", "readCondition", "()V"⟩, 74) := ⟨⟨by decide +kernel, by decide +kernel⟩, List.mem_of_getElem? (i := 1050) (by decide +kernel), List.mem_of_getElem? (i := 1357) (by decide +kernel), List.mem_of_getElem? (i := 1358) (by decide +kernel)⟩
theorem lw_p47 : lw_okq (⟨"MillRowModel", "readTest", "()V"⟩, 74) := ⟨⟨by decide +kernel, by decide +kernel⟩, List.mem_of_getElem? (i := 1050) (by decide +kernel), List.mem_of_getElem? (i := 1362) (by decide +kernel), List.mem_of_getElem? (i := 1363) (by decide +kernel)⟩
def lw_privs_3 : List (MethodName × Nat) := [(⟨"MillRow", "weighs", "(I)J"⟩, 18), (⟨"MillRow", "setYield", "(I)J"⟩, 18), (⟨"MillRow", "setPrice", "(I)I"⟩, 18), (⟨"MillRowModel", "next", "()V"⟩, 74), (⟨"MillRowModel", "here", "()I"⟩, 74), (⟨"MillRowModel", "readWheel", "()V"⟩, 74), (⟨"MillRowModel", "needs", "(J)V"⟩, 74), (⟨"MillRowModel", "takes", "(J)Z"⟩, 74), (⟨"MillRowModel", "is", "(J)Z"⟩, 74), (⟨"MillRowModel", "errs", "()V"⟩, 74), (⟨"MillRowModel", "numeral", "(II)I"⟩, 74), (⟨"MillRowModel", "ends", "()V"⟩, 74), (⟨"MillRowModel", "readStatement", "()V"⟩, 74), (⟨"MillRowModel", "readGate", "()V"⟩, 74), (⟨"MillRowModel", "readCondition", "()V"⟩, 74), (⟨"MillRowModel", "readTest", "()V"⟩, 74)]
theorem lw_r3 : ∀ q ∈ lw_privs_3, lw_okq q := List.forall_mem_cons.mpr ⟨lw_p32, List.forall_mem_cons.mpr ⟨lw_p33, List.forall_mem_cons.mpr ⟨lw_p34, List.forall_mem_cons.mpr ⟨lw_p35, List.forall_mem_cons.mpr ⟨lw_p36, List.forall_mem_cons.mpr ⟨lw_p37, List.forall_mem_cons.mpr ⟨lw_p38, List.forall_mem_cons.mpr ⟨lw_p39, List.forall_mem_cons.mpr ⟨lw_p40, List.forall_mem_cons.mpr ⟨lw_p41, List.forall_mem_cons.mpr ⟨lw_p42, List.forall_mem_cons.mpr ⟨lw_p43, List.forall_mem_cons.mpr ⟨lw_p44, List.forall_mem_cons.mpr ⟨lw_p45, List.forall_mem_cons.mpr ⟨lw_p46, List.forall_mem_cons.mpr ⟨lw_p47, fun _ h => absurd h List.not_mem_nil⟩⟩⟩⟩⟩⟩⟩⟩⟩⟩⟩⟩⟩⟩⟩⟩
theorem lw_p48 : lw_okq (⟨"MillRowModel", "wordHere", "()I"⟩, 74) := ⟨⟨by decide +kernel, by decide +kernel⟩, List.mem_of_getElem? (i := 1050) (by decide +kernel), List.mem_of_getElem? (i := 1366) (by decide +kernel), List.mem_of_getElem? (i := 1367) (by decide +kernel)⟩
theorem lw_p49 : lw_okq (⟨"MillRowModel", "step", "(IIII)V"⟩, 74) := ⟨⟨by decide +kernel, by decide +kernel⟩, List.mem_of_getElem? (i := 1050) (by decide +kernel), List.mem_of_getElem? (i := 1375) (by decide +kernel), List.mem_of_getElem? (i := 1376) (by decide +kernel)⟩
theorem lw_p50 : lw_okq (⟨"MillRowModel", "closes", "()Z"⟩, 74) := ⟨⟨by decide +kernel, by decide +kernel⟩, List.mem_of_getElem? (i := 1050) (by decide +kernel), List.mem_of_getElem? (i := 1379) (by decide +kernel), List.mem_of_getElem? (i := 1380) (by decide +kernel)⟩
theorem lw_p51 : lw_okq (⟨"MillRowModel", "refuses", "(I)I"⟩, 74) := ⟨⟨by decide +kernel, by decide +kernel⟩, List.mem_of_getElem? (i := 1050) (by decide +kernel), List.mem_of_getElem? (i := 1385) (by decide +kernel), List.mem_of_getElem? (i := 1386) (by decide +kernel)⟩
theorem lw_p52 : lw_okq (⟨"MillRowModel", "copies", "(II)V"⟩, 74) := ⟨⟨by decide +kernel, by decide +kernel⟩, List.mem_of_getElem? (i := 1050) (by decide +kernel), List.mem_of_getElem? (i := 1389) (by decide +kernel), List.mem_of_getElem? (i := 1390) (by decide +kernel)⟩
theorem lw_p53 : lw_okq (⟨"MillRowModel", "isOverMill", "(I)Z"⟩, 74) := ⟨⟨by decide +kernel, by decide +kernel⟩, List.mem_of_getElem? (i := 1050) (by decide +kernel), List.mem_of_getElem? (i := 1413) (by decide +kernel), List.mem_of_getElem? (i := 1414) (by decide +kernel)⟩
theorem lw_p54 : lw_okq (⟨"MillRowModel", "isMill", "(I)Z"⟩, 74) := ⟨⟨by decide +kernel, by decide +kernel⟩, List.mem_of_getElem? (i := 1050) (by decide +kernel), List.mem_of_getElem? (i := 1417) (by decide +kernel), List.mem_of_getElem? (i := 1418) (by decide +kernel)⟩
theorem lw_p55 : lw_okq (⟨"MillRowModel", "placesOf", "(I)I"⟩, 74) := ⟨⟨by decide +kernel, by decide +kernel⟩, List.mem_of_getElem? (i := 1050) (by decide +kernel), List.mem_of_getElem? (i := 1427) (by decide +kernel), List.mem_of_getElem? (i := 1428) (by decide +kernel)⟩
theorem lw_p56 : lw_okq (⟨"MillRowModel", "placeOf", "(II)I"⟩, 74) := ⟨⟨by decide +kernel, by decide +kernel⟩, List.mem_of_getElem? (i := 1050) (by decide +kernel), List.mem_of_getElem? (i := 1431) (by decide +kernel), List.mem_of_getElem? (i := 1432) (by decide +kernel)⟩
theorem lw_p57 : lw_okq (⟨"MillRowModel", "hasOf", "(IIII)I"⟩, 74) := ⟨⟨by decide +kernel, by decide +kernel⟩, List.mem_of_getElem? (i := 1050) (by decide +kernel), List.mem_of_getElem? (i := 1435) (by decide +kernel), List.mem_of_getElem? (i := 1436) (by decide +kernel)⟩
theorem lw_p58 : lw_okq (⟨"MillRowModel", "getsOf", "(III)I"⟩, 74) := ⟨⟨by decide +kernel, by decide +kernel⟩, List.mem_of_getElem? (i := 1050) (by decide +kernel), List.mem_of_getElem? (i := 1439) (by decide +kernel), List.mem_of_getElem? (i := 1440) (by decide +kernel)⟩
theorem lw_p59 : lw_okq (⟨"MillRowModel", "offeredOf", "(III)I"⟩, 74) := ⟨⟨by decide +kernel, by decide +kernel⟩, List.mem_of_getElem? (i := 1050) (by decide +kernel), List.mem_of_getElem? (i := 1443) (by decide +kernel), List.mem_of_getElem? (i := 1444) (by decide +kernel)⟩
theorem lw_p60 : lw_okq (⟨"MillRowModel", "splashOf", "(II)I"⟩, 74) := ⟨⟨by decide +kernel, by decide +kernel⟩, List.mem_of_getElem? (i := 1050) (by decide +kernel), List.mem_of_getElem? (i := 1447) (by decide +kernel), List.mem_of_getElem? (i := 1448) (by decide +kernel)⟩
theorem lw_p61 : lw_okq (⟨"MillRowModel", "holdsOf", "(III)I"⟩, 74) := ⟨⟨by decide +kernel, by decide +kernel⟩, List.mem_of_getElem? (i := 1050) (by decide +kernel), List.mem_of_getElem? (i := 1451) (by decide +kernel), List.mem_of_getElem? (i := 1452) (by decide +kernel)⟩
theorem lw_p62 : lw_okq (⟨"MillRowModel", "capOf", "(I)I"⟩, 74) := ⟨⟨by decide +kernel, by decide +kernel⟩, List.mem_of_getElem? (i := 1050) (by decide +kernel), List.mem_of_getElem? (i := 1455) (by decide +kernel), List.mem_of_getElem? (i := 1456) (by decide +kernel)⟩
theorem lw_p63 : lw_okq (⟨"MillRowModel", "thrownOf", "(II)I"⟩, 74) := ⟨⟨by decide +kernel, by decide +kernel⟩, List.mem_of_getElem? (i := 1050) (by decide +kernel), List.mem_of_getElem? (i := 1459) (by decide +kernel), List.mem_of_getElem? (i := 1460) (by decide +kernel)⟩
def lw_privs_4 : List (MethodName × Nat) := [(⟨"MillRowModel", "wordHere", "()I"⟩, 74), (⟨"MillRowModel", "step", "(IIII)V"⟩, 74), (⟨"MillRowModel", "closes", "()Z"⟩, 74), (⟨"MillRowModel", "refuses", "(I)I"⟩, 74), (⟨"MillRowModel", "copies", "(II)V"⟩, 74), (⟨"MillRowModel", "isOverMill", "(I)Z"⟩, 74), (⟨"MillRowModel", "isMill", "(I)Z"⟩, 74), (⟨"MillRowModel", "placesOf", "(I)I"⟩, 74), (⟨"MillRowModel", "placeOf", "(II)I"⟩, 74), (⟨"MillRowModel", "hasOf", "(IIII)I"⟩, 74), (⟨"MillRowModel", "getsOf", "(III)I"⟩, 74), (⟨"MillRowModel", "offeredOf", "(III)I"⟩, 74), (⟨"MillRowModel", "splashOf", "(II)I"⟩, 74), (⟨"MillRowModel", "holdsOf", "(III)I"⟩, 74), (⟨"MillRowModel", "capOf", "(I)I"⟩, 74), (⟨"MillRowModel", "thrownOf", "(II)I"⟩, 74)]
theorem lw_r4 : ∀ q ∈ lw_privs_4, lw_okq q := List.forall_mem_cons.mpr ⟨lw_p48, List.forall_mem_cons.mpr ⟨lw_p49, List.forall_mem_cons.mpr ⟨lw_p50, List.forall_mem_cons.mpr ⟨lw_p51, List.forall_mem_cons.mpr ⟨lw_p52, List.forall_mem_cons.mpr ⟨lw_p53, List.forall_mem_cons.mpr ⟨lw_p54, List.forall_mem_cons.mpr ⟨lw_p55, List.forall_mem_cons.mpr ⟨lw_p56, List.forall_mem_cons.mpr ⟨lw_p57, List.forall_mem_cons.mpr ⟨lw_p58, List.forall_mem_cons.mpr ⟨lw_p59, List.forall_mem_cons.mpr ⟨lw_p60, List.forall_mem_cons.mpr ⟨lw_p61, List.forall_mem_cons.mpr ⟨lw_p62, List.forall_mem_cons.mpr ⟨lw_p63, fun _ h => absurd h List.not_mem_nil⟩⟩⟩⟩⟩⟩⟩⟩⟩⟩⟩⟩⟩⟩⟩⟩
theorem lw_p64 : lw_okq (⟨"MillRowModel", "sumOf", "(IIIZ)J"⟩, 74) := ⟨⟨by decide +kernel, by decide +kernel⟩, List.mem_of_getElem? (i := 1050) (by decide +kernel), List.mem_of_getElem? (i := 1463) (by decide +kernel), List.mem_of_getElem? (i := 1464) (by decide +kernel)⟩
theorem lw_p65 : lw_okq (⟨"MillRowModel", "bucketWork", "(III)J"⟩, 74) := ⟨⟨by decide +kernel, by decide +kernel⟩, List.mem_of_getElem? (i := 1050) (by decide +kernel), List.mem_of_getElem? (i := 1468) (by decide +kernel), List.mem_of_getElem? (i := 1469) (by decide +kernel)⟩
theorem lw_p66 : lw_okq (⟨"MillRowModel", "isWork", "(IIII)Z"⟩, 74) := ⟨⟨by decide +kernel, by decide +kernel⟩, List.mem_of_getElem? (i := 1050) (by decide +kernel), List.mem_of_getElem? (i := 1481) (by decide +kernel), List.mem_of_getElem? (i := 1482) (by decide +kernel)⟩
theorem lw_p67 : lw_okq (⟨"MillRowModel", "workOf", "(IIII)J"⟩, 74) := ⟨⟨by decide +kernel, by decide +kernel⟩, List.mem_of_getElem? (i := 1050) (by decide +kernel), List.mem_of_getElem? (i := 1486) (by decide +kernel), List.mem_of_getElem? (i := 1487) (by decide +kernel)⟩
theorem lw_p68 : lw_okq (⟨"MillRowModel", "yieldOf", "(IIIII)J"⟩, 74) := ⟨⟨by decide +kernel, by decide +kernel⟩, List.mem_of_getElem? (i := 1050) (by decide +kernel), List.mem_of_getElem? (i := 1500) (by decide +kernel), List.mem_of_getElem? (i := 1501) (by decide +kernel)⟩
theorem lw_p69 : lw_okq (⟨"MillRowModel", "bestPace", "(IIII)I"⟩, 74) := ⟨⟨by decide +kernel, by decide +kernel⟩, List.mem_of_getElem? (i := 1050) (by decide +kernel), List.mem_of_getElem? (i := 1509) (by decide +kernel), List.mem_of_getElem? (i := 1510) (by decide +kernel)⟩
theorem lw_p70 : lw_okq (⟨"MillRowModel", "tried", "(III)J"⟩, 74) := ⟨⟨by decide +kernel, by decide +kernel⟩, List.mem_of_getElem? (i := 1050) (by decide +kernel), List.mem_of_getElem? (i := 1525) (by decide +kernel), List.mem_of_getElem? (i := 1526) (by decide +kernel)⟩
theorem lw_p71 : lw_okq (⟨"MillRowModel", "isNot", "()Z"⟩, 74) := ⟨⟨by decide +kernel, by decide +kernel⟩, List.mem_of_getElem? (i := 1050) (by decide +kernel), List.mem_of_getElem? (i := 1538) (by decide +kernel), List.mem_of_getElem? (i := 1539) (by decide +kernel)⟩
theorem lw_p72 : lw_okq (⟨"MillRowModel", "tolds", "()I"⟩, 74) := ⟨⟨by decide +kernel, by decide +kernel⟩, List.mem_of_getElem? (i := 1050) (by decide +kernel), List.mem_of_getElem? (i := 1562) (by decide +kernel), List.mem_of_getElem? (i := 1563) (by decide +kernel)⟩
theorem lw_p73 : lw_okq (⟨"MillRowModel", "byRules", "()V"⟩, 74) := ⟨⟨by decide +kernel, by decide +kernel⟩, List.mem_of_getElem? (i := 1050) (by decide +kernel), List.mem_of_getElem? (i := 1566) (by decide +kernel), List.mem_of_getElem? (i := 1567) (by decide +kernel)⟩
theorem lw_p74 : lw_okq (⟨"MillRowModel", "hour", "(I)V"⟩, 74) := ⟨⟨by decide +kernel, by decide +kernel⟩, List.mem_of_getElem? (i := 1050) (by decide +kernel), List.mem_of_getElem? (i := 1570) (by decide +kernel), List.mem_of_getElem? (i := 1571) (by decide +kernel)⟩
theorem lw_p75 : lw_okq (⟨"MillRowModel", "mills", "(IIII)I"⟩, 74) := ⟨⟨by decide +kernel, by decide +kernel⟩, List.mem_of_getElem? (i := 1050) (by decide +kernel), List.mem_of_getElem? (i := 1574) (by decide +kernel), List.mem_of_getElem? (i := 1575) (by decide +kernel)⟩
theorem lw_p76 : lw_okq (⟨"MillRowModel", "behind", "(I)I"⟩, 74) := ⟨⟨by decide +kernel, by decide +kernel⟩, List.mem_of_getElem? (i := 1050) (by decide +kernel), List.mem_of_getElem? (i := 1578) (by decide +kernel), List.mem_of_getElem? (i := 1579) (by decide +kernel)⟩
theorem lw_p77 : lw_okq (⟨"MillRowModel", "levelOf", "(II)I"⟩, 74) := ⟨⟨by decide +kernel, by decide +kernel⟩, List.mem_of_getElem? (i := 1050) (by decide +kernel), List.mem_of_getElem? (i := 1582) (by decide +kernel), List.mem_of_getElem? (i := 1583) (by decide +kernel)⟩
theorem lw_p78 : lw_okq (⟨"MillRowModel", "gateOf", "(II)I"⟩, 74) := ⟨⟨by decide +kernel, by decide +kernel⟩, List.mem_of_getElem? (i := 1050) (by decide +kernel), List.mem_of_getElem? (i := 1586) (by decide +kernel), List.mem_of_getElem? (i := 1587) (by decide +kernel)⟩
theorem lw_p79 : lw_okq (⟨"MillRowModel", "openOf", "(I)I"⟩, 74) := ⟨⟨by decide +kernel, by decide +kernel⟩, List.mem_of_getElem? (i := 1050) (by decide +kernel), List.mem_of_getElem? (i := 1590) (by decide +kernel), List.mem_of_getElem? (i := 1591) (by decide +kernel)⟩
def lw_privs_5 : List (MethodName × Nat) := [(⟨"MillRowModel", "sumOf", "(IIIZ)J"⟩, 74), (⟨"MillRowModel", "bucketWork", "(III)J"⟩, 74), (⟨"MillRowModel", "isWork", "(IIII)Z"⟩, 74), (⟨"MillRowModel", "workOf", "(IIII)J"⟩, 74), (⟨"MillRowModel", "yieldOf", "(IIIII)J"⟩, 74), (⟨"MillRowModel", "bestPace", "(IIII)I"⟩, 74), (⟨"MillRowModel", "tried", "(III)J"⟩, 74), (⟨"MillRowModel", "isNot", "()Z"⟩, 74), (⟨"MillRowModel", "tolds", "()I"⟩, 74), (⟨"MillRowModel", "byRules", "()V"⟩, 74), (⟨"MillRowModel", "hour", "(I)V"⟩, 74), (⟨"MillRowModel", "mills", "(IIII)I"⟩, 74), (⟨"MillRowModel", "behind", "(I)I"⟩, 74), (⟨"MillRowModel", "levelOf", "(II)I"⟩, 74), (⟨"MillRowModel", "gateOf", "(II)I"⟩, 74), (⟨"MillRowModel", "openOf", "(I)I"⟩, 74)]
theorem lw_r5 : ∀ q ∈ lw_privs_5, lw_okq q := List.forall_mem_cons.mpr ⟨lw_p64, List.forall_mem_cons.mpr ⟨lw_p65, List.forall_mem_cons.mpr ⟨lw_p66, List.forall_mem_cons.mpr ⟨lw_p67, List.forall_mem_cons.mpr ⟨lw_p68, List.forall_mem_cons.mpr ⟨lw_p69, List.forall_mem_cons.mpr ⟨lw_p70, List.forall_mem_cons.mpr ⟨lw_p71, List.forall_mem_cons.mpr ⟨lw_p72, List.forall_mem_cons.mpr ⟨lw_p73, List.forall_mem_cons.mpr ⟨lw_p74, List.forall_mem_cons.mpr ⟨lw_p75, List.forall_mem_cons.mpr ⟨lw_p76, List.forall_mem_cons.mpr ⟨lw_p77, List.forall_mem_cons.mpr ⟨lw_p78, List.forall_mem_cons.mpr ⟨lw_p79, fun _ h => absurd h List.not_mem_nil⟩⟩⟩⟩⟩⟩⟩⟩⟩⟩⟩⟩⟩⟩⟩⟩
theorem lw_p80 : lw_okq (⟨"MillRowModel", "holdsAll", "(I)Z"⟩, 74) := ⟨⟨by decide +kernel, by decide +kernel⟩, List.mem_of_getElem? (i := 1050) (by decide +kernel), List.mem_of_getElem? (i := 1594) (by decide +kernel), List.mem_of_getElem? (i := 1595) (by decide +kernel)⟩
theorem lw_p81 : lw_okq (⟨"MillRowModel", "shiftOf", "(I)I"⟩, 74) := ⟨⟨by decide +kernel, by decide +kernel⟩, List.mem_of_getElem? (i := 1050) (by decide +kernel), List.mem_of_getElem? (i := 1598) (by decide +kernel), List.mem_of_getElem? (i := 1599) (by decide +kernel)⟩
theorem lw_p82 : lw_okq (⟨"MillRowModel", "lastOf", "(I)I"⟩, 74) := ⟨⟨by decide +kernel, by decide +kernel⟩, List.mem_of_getElem? (i := 1050) (by decide +kernel), List.mem_of_getElem? (i := 1614) (by decide +kernel), List.mem_of_getElem? (i := 1615) (by decide +kernel)⟩
theorem lw_p83 : lw_okq (⟨"MillRowModel", "isShift", "(II)Z"⟩, 74) := ⟨⟨by decide +kernel, by decide +kernel⟩, List.mem_of_getElem? (i := 1050) (by decide +kernel), List.mem_of_getElem? (i := 1622) (by decide +kernel), List.mem_of_getElem? (i := 1623) (by decide +kernel)⟩
theorem lw_p84 : lw_okq (⟨"MillRowModel", "hasDay", "()Z"⟩, 74) := ⟨⟨by decide +kernel, by decide +kernel⟩, List.mem_of_getElem? (i := 1050) (by decide +kernel), List.mem_of_getElem? (i := 1626) (by decide +kernel), List.mem_of_getElem? (i := 1627) (by decide +kernel)⟩
theorem lw_p85 : lw_okq (⟨"MillRowModel", "isWay", "(I)Z"⟩, 74) := ⟨⟨by decide +kernel, by decide +kernel⟩, List.mem_of_getElem? (i := 1050) (by decide +kernel), List.mem_of_getElem? (i := 1632) (by decide +kernel), List.mem_of_getElem? (i := 1633) (by decide +kernel)⟩
theorem lw_p86 : lw_okq (⟨"MillRowModel", "shiftMany", "()I"⟩, 74) := ⟨⟨by decide +kernel, by decide +kernel⟩, List.mem_of_getElem? (i := 1050) (by decide +kernel), List.mem_of_getElem? (i := 1637) (by decide +kernel), List.mem_of_getElem? (i := 1638) (by decide +kernel)⟩
theorem lw_p87 : lw_okq (⟨"MillRowModel", "tryShift", "(III)V"⟩, 74) := ⟨⟨by decide +kernel, by decide +kernel⟩, List.mem_of_getElem? (i := 1050) (by decide +kernel), List.mem_of_getElem? (i := 1641) (by decide +kernel), List.mem_of_getElem? (i := 1642) (by decide +kernel)⟩
theorem lw_p88 : lw_okq (⟨"MillRowModel", "copyState", "(II)V"⟩, 74) := ⟨⟨by decide +kernel, by decide +kernel⟩, List.mem_of_getElem? (i := 1050) (by decide +kernel), List.mem_of_getElem? (i := 1645) (by decide +kernel), List.mem_of_getElem? (i := 1646) (by decide +kernel)⟩
theorem lw_p89 : lw_okq (⟨"MillRowModel", "shiftMills", "()I"⟩, 74) := ⟨⟨by decide +kernel, by decide +kernel⟩, List.mem_of_getElem? (i := 1050) (by decide +kernel), List.mem_of_getElem? (i := 1649) (by decide +kernel), List.mem_of_getElem? (i := 1650) (by decide +kernel)⟩
theorem lw_p90 : lw_okq (⟨"MillRowModel", "tryAll", "(II)V"⟩, 74) := ⟨⟨by decide +kernel, by decide +kernel⟩, List.mem_of_getElem? (i := 1050) (by decide +kernel), List.mem_of_getElem? (i := 1657) (by decide +kernel), List.mem_of_getElem? (i := 1658) (by decide +kernel)⟩
theorem lw_p91 : lw_okq (⟨"MillRowModel", "isRest", "(I)Z"⟩, 74) := ⟨⟨by decide +kernel, by decide +kernel⟩, List.mem_of_getElem? (i := 1050) (by decide +kernel), List.mem_of_getElem? (i := 1661) (by decide +kernel), List.mem_of_getElem? (i := 1662) (by decide +kernel)⟩
theorem lw_p92 : lw_okq (⟨"MillRowModel", "weighed", "(I)J"⟩, 74) := ⟨⟨by decide +kernel, by decide +kernel⟩, List.mem_of_getElem? (i := 1050) (by decide +kernel), List.mem_of_getElem? (i := 1681) (by decide +kernel), List.mem_of_getElem? (i := 1682) (by decide +kernel)⟩
theorem lw_p93 : lw_okq (⟨"MillRowModel", "served", "()I"⟩, 74) := ⟨⟨by decide +kernel, by decide +kernel⟩, List.mem_of_getElem? (i := 1050) (by decide +kernel), List.mem_of_getElem? (i := 1759) (by decide +kernel), List.mem_of_getElem? (i := 1760) (by decide +kernel)⟩
def lw_privs_6 : List (MethodName × Nat) := [(⟨"MillRowModel", "holdsAll", "(I)Z"⟩, 74), (⟨"MillRowModel", "shiftOf", "(I)I"⟩, 74), (⟨"MillRowModel", "lastOf", "(I)I"⟩, 74), (⟨"MillRowModel", "isShift", "(II)Z"⟩, 74), (⟨"MillRowModel", "hasDay", "()Z"⟩, 74), (⟨"MillRowModel", "isWay", "(I)Z"⟩, 74), (⟨"MillRowModel", "shiftMany", "()I"⟩, 74), (⟨"MillRowModel", "tryShift", "(III)V"⟩, 74), (⟨"MillRowModel", "copyState", "(II)V"⟩, 74), (⟨"MillRowModel", "shiftMills", "()I"⟩, 74), (⟨"MillRowModel", "tryAll", "(II)V"⟩, 74), (⟨"MillRowModel", "isRest", "(I)Z"⟩, 74), (⟨"MillRowModel", "weighed", "(I)J"⟩, 74), (⟨"MillRowModel", "served", "()I"⟩, 74)]
theorem lw_r6 : ∀ q ∈ lw_privs_6, lw_okq q := List.forall_mem_cons.mpr ⟨lw_p80, List.forall_mem_cons.mpr ⟨lw_p81, List.forall_mem_cons.mpr ⟨lw_p82, List.forall_mem_cons.mpr ⟨lw_p83, List.forall_mem_cons.mpr ⟨lw_p84, List.forall_mem_cons.mpr ⟨lw_p85, List.forall_mem_cons.mpr ⟨lw_p86, List.forall_mem_cons.mpr ⟨lw_p87, List.forall_mem_cons.mpr ⟨lw_p88, List.forall_mem_cons.mpr ⟨lw_p89, List.forall_mem_cons.mpr ⟨lw_p90, List.forall_mem_cons.mpr ⟨lw_p91, List.forall_mem_cons.mpr ⟨lw_p92, List.forall_mem_cons.mpr ⟨lw_p93, fun _ h => absurd h List.not_mem_nil⟩⟩⟩⟩⟩⟩⟩⟩⟩⟩⟩⟩⟩⟩
def lw_privs : List (MethodName × Nat) := lw_privs_1 ++ (lw_privs_2 ++ (lw_privs_3 ++ (lw_privs_4 ++ (lw_privs_5 ++ (lw_privs_6)))))
def lw_tbl : List Cond := k2_sels lw_privs ++ tables_1
theorem lw_privs_ok : ∀ q ∈ lw_privs, lw_okq q := by
  show ∀ q ∈ lw_privs_1 ++ (lw_privs_2 ++ (lw_privs_3 ++ (lw_privs_4 ++ (lw_privs_5 ++ (lw_privs_6))))), lw_okq q
  exact List.forall_mem_append.mpr ⟨lw_r1, List.forall_mem_append.mpr ⟨lw_r2, List.forall_mem_append.mpr ⟨lw_r3, List.forall_mem_append.mpr ⟨lw_r4, List.forall_mem_append.mpr ⟨lw_r5, lw_r6⟩⟩⟩⟩⟩
end
section
/-! the program as data -/
def am_cn : Nat → String := fun i => (["MillRow$Brook", "MillRow$Bucket", "MillRow$Circle", "MillRow$Mill", "MillRow$Pairs", "MillRow$Plan", "MillRow$Reader", "MillRow$Rules", "MillRow$Wheel", "MillRow", "MillRowModel", "MillRowLaw", "java/lang/Math", "java/util/Arrays"] : List String).getD i ""
def am_T0 : u_T := fun k => match k with
  | 0 => ("MillRow$Brook", "hoursGone", "I", false)
  | 1 => ("MillRow$Brook", "came", "J", false)
  | 2 => ("MillRow$Brook", "gone", "J", false)
  | 3 => ("MillRow$Brook", "z", "J", false)
  | 4 => ("MillRow$Brook", "dayFlow", "[I", true)
  | 5 => ("MillRow$Brook", "dayIce", "[I", true)
  | 6 => ("MillRow$Brook", "pond", "[I", true)
  | 7 => ("MillRow$Brook", "way", "[I", true)
  | 8 => ("MillRow$Brook", "ground", "[J", true)
  | 9 => ("MillRow$Brook", "groundHours", "[I", true)
  | 10 => ("MillRow$Brook", "wadedHours", "[I", true)
  | 11 => ("MillRow$Brook", "coming", "[I", true)
  | 12 => ("MillRow$Brook", "opened", "[I", true)
  | _ => ("MillRow$Brook", "below", "[I", true)
def am_T1 : u_T := fun k => match k with
  | 0 => ("MillRow$Bucket", "size", "I", false)
  | 1 => ("MillRow$Bucket", "many", "I", false)
  | 2 => ("MillRow$Bucket", "slant", "I", false)
  | 3 => ("MillRow$Bucket", "cap", "I", false)
  | 4 => ("MillRow$Bucket", "places", "I", false)
  | 5 => ("MillRow$Bucket", "degree", "[I", true)
  | 6 => ("MillRow$Bucket", "drop", "[I", true)
  | 7 => ("MillRow$Bucket", "offered", "I", false)
  | 8 => ("MillRow$Bucket", "splash", "I", false)
  | 9 => ("MillRow$Bucket", "gets", "I", false)
  | 10 => ("MillRow$Bucket", "thrown", "I", false)
  | 11 => ("MillRow$Bucket", "whole", "I", false)
  | 12 => ("MillRow$Bucket", "has", "[I", true)
  | 13 => ("MillRow$Bucket", "filledFlow", "I", false)
  | _ => ("MillRow$Bucket", "filledPace", "I", false)
def am_T2 : u_T := fun k => match k with
  | 0 => ("MillRow$Mill", "isTold", "Z", false)
  | 1 => ("MillRow$Mill", "wheel", "LMillRow$Wheel;", true)
  | 2 => ("MillRow$Mill", "room", "I", false)
  | 3 => ("MillRow$Mill", "nail", "I", false)
  | _ => ("MillRow$Mill", "rules", "LMillRow$Rules;", true)
def am_T3 : u_T := fun k => match k with
  | 0 => ("MillRow$Pairs", "first", "[I", true)
  | 1 => ("MillRow$Pairs", "second", "[I", true)
  | _ => ("MillRow$Pairs", "many", "I", false)
def am_T4 : u_T := fun k => match k with
  | 0 => ("MillRow$Plan", "begin", "[I", true)
  | 1 => ("MillRow$Plan", "hours", "I", false)
  | _ => ("MillRow$Plan", "open", "I", false)
def am_T5 : u_T := fun k => match k with
  | 0 => ("MillRow$Reader", "tape", "[I", true)
  | 1 => ("MillRow$Reader", "onTape", "I", false)
  | 2 => ("MillRow$Reader", "fault", "I", false)
  | 3 => ("MillRow$Reader", "kinds", "[I", true)
  | 4 => ("MillRow$Reader", "starts", "[I", true)
  | 5 => ("MillRow$Reader", "ends", "[I", true)
  | 6 => ("MillRow$Reader", "token", "I", false)
  | 7 => ("MillRow$Reader", "kind", "I", false)
  | 8 => ("MillRow$Reader", "start", "I", false)
  | 9 => ("MillRow$Reader", "end", "I", false)
  | _ => ("MillRow$Reader", "value", "I", false)
def am_T6 : u_T := fun k => match k with
  | 0 => ("MillRow$Rules", "codes", "[I", true)
  | 1 => ("MillRow$Rules", "codeCount", "I", false)
  | 2 => ("MillRow$Rules", "opens", "[I", true)
  | 3 => ("MillRow$Rules", "ends", "[I", true)
  | 4 => ("MillRow$Rules", "many", "I", false)
  | _ => ("MillRow$Rules", "asked", "[I", true)
def am_T7 : u_T := fun k => match k with
  | 0 => ("MillRow$Wheel", "over", "Z", false)
  | 1 => ("MillRow$Wheel", "size", "I", false)
  | 2 => ("MillRow$Wheel", "wide", "I", false)
  | 3 => ("MillRow$Wheel", "many", "I", false)
  | 4 => ("MillRow$Wheel", "deep", "I", false)
  | 5 => ("MillRow$Wheel", "slant", "I", false)
  | 6 => ("MillRow$Wheel", "degree", "I", false)
  | 7 => ("MillRow$Wheel", "pace", "I", false)
  | 8 => ("MillRow$Wheel", "rub", "I", false)
  | _ => ("MillRow$Wheel", "bucket", "LMillRow$Bucket;", true)
def am_T8 : u_T := fun k => match k with
  | 0 => ("MillRow", "reader", "LMillRow$Reader;", true)
  | 1 => ("MillRow", "mills", "[LMillRow$Mill;", true)
  | 2 => ("MillRow", "spare", "LMillRow$Mill;", false)
  | 3 => ("MillRow", "scratch", "LMillRow$Wheel;", true)
  | 4 => ("MillRow", "now", "LMillRow$Brook;", true)
  | 5 => ("MillRow", "trial", "LMillRow$Brook;", true)
  | 6 => ("MillRow", "images", "[LMillRow$Brook;", true)
  | 7 => ("MillRow", "imageCount", "I", false)
  | 8 => ("MillRow", "rulesOnly", "LMillRow$Plan;", true)
  | 9 => ("MillRow", "plan", "LMillRow$Plan;", true)
  | 10 => ("MillRow", "wayGround", "[J", true)
  | 11 => ("MillRow", "weights", "[I", true)
  | 12 => ("MillRow", "sights", "LMillRow$Pairs;", true)
  | 13 => ("MillRow", "steps", "LMillRow$Pairs;", true)
  | 14 => ("MillRow", "falls", "LMillRow$Pairs;", true)
  | 15 => ("MillRow", "fallYields", "[J", true)
  | 16 => ("MillRow", "orders", "LMillRow$Pairs;", true)
  | _ => ("MillRow", "refused", "[I", true)
def am_T9 : u_T := fun k => match k with
  | 0 => ("MillRowModel", "refused", "[I", true)
  | 1 => ("MillRowModel", "isTold", "[Z", true)
  | 2 => ("MillRowModel", "isOver", "[Z", true)
  | 3 => ("MillRowModel", "size", "[I", true)
  | 4 => ("MillRowModel", "wide", "[I", true)
  | 5 => ("MillRowModel", "many", "[I", true)
  | 6 => ("MillRowModel", "deep", "[I", true)
  | 7 => ("MillRowModel", "slant", "[I", true)
  | 8 => ("MillRowModel", "degree", "[I", true)
  | 9 => ("MillRowModel", "room", "[I", true)
  | 10 => ("MillRowModel", "nail", "[I", true)
  | 11 => ("MillRowModel", "pace", "[I", true)
  | 12 => ("MillRowModel", "rub", "[I", true)
  | 13 => ("MillRowModel", "gates", "[I", true)
  | 14 => ("MillRowModel", "statements", "[I", true)
  | 15 => ("MillRowModel", "guilt", "[I", true)
  | 16 => ("MillRowModel", "opens", "[I", true)
  | 17 => ("MillRowModel", "condFrom", "[I", true)
  | 18 => ("MillRowModel", "condTo", "[I", true)
  | 19 => ("MillRowModel", "stepKind", "[I", true)
  | 20 => ("MillRowModel", "stepWord", "[I", true)
  | 21 => ("MillRowModel", "stepSign", "[I", true)
  | 22 => ("MillRowModel", "stepNumber", "[I", true)
  | 23 => ("MillRowModel", "tape", "[B", true)
  | 24 => ("MillRowModel", "taped", "I", false)
  | 25 => ("MillRowModel", "faultAt", "I", false)
  | 26 => ("MillRowModel", "limit", "I", false)
  | 27 => ("MillRowModel", "point", "I", false)
  | 28 => ("MillRowModel", "from", "I", false)
  | 29 => ("MillRowModel", "token", "I", false)
  | 30 => ("MillRowModel", "value", "I", false)
  | 31 => ("MillRowModel", "written", "I", false)
  | 32 => ("MillRowModel", "text", "J", false)
  | 33 => ("MillRowModel", "isWrong", "Z", false)
  | 34 => ("MillRowModel", "opened", "[I", true)
  | 35 => ("MillRowModel", "joined", "[I", true)
  | 36 => ("MillRowModel", "deepness", "I", false)
  | 37 => ("MillRowModel", "flows", "[I", true)
  | 38 => ("MillRowModel", "pond", "[I", true)
  | 39 => ("MillRowModel", "way", "[I", true)
  | 40 => ("MillRowModel", "groundHours", "[I", true)
  | 41 => ("MillRowModel", "wadedHours", "[I", true)
  | 42 => ("MillRowModel", "gone0", "[I", true)
  | 43 => ("MillRowModel", "ices", "[Z", true)
  | 44 => ("MillRowModel", "ground", "[J", true)
  | 45 => ("MillRowModel", "came", "[J", true)
  | 46 => ("MillRowModel", "gone", "[J", true)
  | 47 => ("MillRowModel", "zs", "[J", true)
  | 48 => ("MillRowModel", "images", "I", false)
  | 49 => ("MillRowModel", "z", "J", false)
  | 50 => ("MillRowModel", "asks", "[I", true)
  | 51 => ("MillRowModel", "pile", "[Z", true)
  | 52 => ("MillRowModel", "shifted", "I", false)
  | 53 => ("MillRowModel", "shiftHours", "I", false)
  | 54 => ("MillRowModel", "shiftOpen", "I", false)
  | 55 => ("MillRowModel", "shiftWay", "I", false)
  | 56 => ("MillRowModel", "fixed", "I", false)
  | 57 => ("MillRowModel", "comes", "[I", true)
  | 58 => ("MillRowModel", "tells", "[I", true)
  | 59 => ("MillRowModel", "grinds", "[J", true)
  | 60 => ("MillRowModel", "earns", "[J", true)
  | 61 => ("MillRowModel", "seenMany", "I", false)
  | 62 => ("MillRowModel", "seenMill", "[I", true)
  | 63 => ("MillRowModel", "seenLevel", "[I", true)
  | 64 => ("MillRowModel", "loads", "I", false)
  | 65 => ("MillRowModel", "load", "[I", true)
  | 66 => ("MillRowModel", "falls", "I", false)
  | 67 => ("MillRowModel", "feet", "[I", true)
  | 68 => ("MillRowModel", "price", "[I", true)
  | 69 => ("MillRowModel", "brings", "[J", true)
  | 70 => ("MillRowModel", "orders", "I", false)
  | 71 => ("MillRowModel", "dueBy", "[I", true)
  | 72 => ("MillRowModel", "due", "[I", true)
  | _ => ("MillRowModel", "left", "[J", true)
abbrev am_cl : List vw_C := [("MillRow$Brook", am_T0, 14), ("MillRow$Bucket", am_T1, 15), ("MillRow$Mill", am_T2, 5), ("MillRow$Pairs", am_T3, 3), ("MillRow$Plan", am_T4, 3), ("MillRow$Reader", am_T5, 11), ("MillRow$Rules", am_T6, 6), ("MillRow$Wheel", am_T7, 10), ("MillRow", am_T8, 18), ("MillRowModel", am_T9, 74)]
def am_nf (c : Nat) : Nat := ([14, 15, 5, 3, 3, 11, 6, 10, 18, 74] : List Nat).getD c 0
/-- the kind of object of a class of ours -/
def am_kd (c : Nat) : Nat := ([0, 1, 99, 2, 3, 4, 5, 6, 7, 8, 9, 99, 99, 99] : List Nat).getD c 99
/-- what kind a field is: 0 int, 1 long, 2 reference, 3 boolean -/
def am_ft (c j : Nat) : Nat := (([[0, 1, 1, 1, 2, 2, 2, 2, 2, 2, 2, 2, 2, 2], [0, 0, 0, 0, 0, 2, 2, 0, 0, 0, 0, 0, 2, 0, 0], [3, 2, 0, 0, 2], [2, 2, 0], [2, 0, 0], [2, 0, 0, 2, 2, 2, 0, 0, 0, 0, 0], [2, 0, 2, 2, 0, 2], [3, 0, 0, 0, 0, 0, 0, 0, 0, 2], [2, 2, 2, 2, 2, 2, 2, 0, 2, 2, 2, 2, 2, 2, 2, 2, 2, 2], [2, 2, 2, 2, 2, 2, 2, 2, 2, 2, 2, 2, 2, 2, 2, 2, 2, 2, 2, 2, 2, 2, 2, 2, 0, 0, 0, 0, 0, 0, 0, 0, 1, 3, 2, 2, 0, 2, 2, 2, 2, 2, 2, 2, 2, 2, 2, 2, 0, 1, 2, 2, 0, 0, 0, 0, 0, 2, 2, 2, 2, 0, 2, 2, 0, 2, 0, 2, 2, 2, 0, 2, 2, 2]] : List (List Nat)).getD c []).getD j 9
def am_fd (c j : Nat) : FieldType := (([[.int, .long, .long, .long, (.array .int), (.array .int), (.array .int), (.array .int), (.array .long), (.array .int), (.array .int), (.array .int), (.array .int), (.array .int)], [.int, .int, .int, .int, .int, (.array .int), (.array .int), .int, .int, .int, .int, .int, (.array .int), .int, .int], [.boolean, (.object "MillRow$Wheel"), .int, .int, (.object "MillRow$Rules")], [(.array .int), (.array .int), .int], [(.array .int), .int, .int], [(.array .int), .int, .int, (.array .int), (.array .int), (.array .int), .int, .int, .int, .int, .int], [(.array .int), .int, (.array .int), (.array .int), .int, (.array .int)], [.boolean, .int, .int, .int, .int, .int, .int, .int, .int, (.object "MillRow$Bucket")], [(.object "MillRow$Reader"), (.array (.object "MillRow$Mill")), (.object "MillRow$Mill"), (.object "MillRow$Wheel"), (.object "MillRow$Brook"), (.object "MillRow$Brook"), (.array (.object "MillRow$Brook")), .int, (.object "MillRow$Plan"), (.object "MillRow$Plan"), (.array .long), (.array .int), (.object "MillRow$Pairs"), (.object "MillRow$Pairs"), (.object "MillRow$Pairs"), (.array .long), (.object "MillRow$Pairs"), (.array .int)], [(.array .int), (.array .boolean), (.array .boolean), (.array .int), (.array .int), (.array .int), (.array .int), (.array .int), (.array .int), (.array .int), (.array .int), (.array .int), (.array .int), (.array .int), (.array .int), (.array .int), (.array .int), (.array .int), (.array .int), (.array .int), (.array .int), (.array .int), (.array .int), (.array .byte), .int, .int, .int, .int, .int, .int, .int, .int, .long, .boolean, (.array .int), (.array .int), .int, (.array .int), (.array .int), (.array .int), (.array .int), (.array .int), (.array .int), (.array .boolean), (.array .long), (.array .long), (.array .long), (.array .long), .int, .long, (.array .int), (.array .boolean), .int, .int, .int, .int, .int, (.array .int), (.array .int), (.array .long), (.array .long), .int, (.array .int), (.array .int), .int, (.array .int), .int, (.array .int), (.array .int), (.array .long), .int, (.array .int), (.array .int), (.array .long)]] : List (List FieldType)).getD c []).getD j .int
def am_yL : List MethodName := [⟨"MillRow$Brook", "<init>", "()V"⟩, ⟨"MillRow$Brook", "become", "(LMillRow$Brook;)V"⟩, ⟨"MillRow$Brook", "emptyMill", "(I)V"⟩, ⟨"MillRow$Brook", "drawTimes", "()I"⟩, ⟨"MillRow$Brook", "today", "()I"⟩, ⟨"MillRow$Brook", "passHour", "([LMillRow$Mill;LMillRow$Plan;)V"⟩, ⟨"MillRow$Brook", "lookBelow", "([LMillRow$Mill;)I"⟩, ⟨"MillRow$Brook", "passMill", "(LMillRow$Mill;ILMillRow$Plan;)I"⟩, ⟨"MillRow$Bucket", "<init>", "()V"⟩, ⟨"MillRow$Bucket", "settle", "(LMillRow$Wheel;)V"⟩, ⟨"MillRow$Bucket", "spin", "(I)V"⟩, ⟨"MillRow$Bucket", "heldAt", "(I)I"⟩, ⟨"MillRow$Bucket", "lastDegree", "(I)I"⟩, ⟨"MillRow$Bucket", "fill", "(II)V"⟩, ⟨"MillRow$Bucket", "hasAt", "(I)I"⟩, ⟨"MillRow$Bucket", "push", "()J"⟩, ⟨"MillRow$Bucket", "dropWork", "()J"⟩, ⟨"MillRow$Circle", "sin", "(I)I"⟩, ⟨"MillRow$Circle", "cos", "(I)I"⟩, ⟨"MillRow$Mill", "<init>", "()V"⟩, ⟨"MillRow$Mill", "forget", "()V"⟩, ⟨"MillRow$Mill", "settle", "()V"⟩, ⟨"MillRow$Mill", "levelOf", "(I)I"⟩, ⟨"MillRow$Pairs", "<init>", "(I)V"⟩, ⟨"MillRow$Pairs", "put", "(II)Z"⟩, ⟨"MillRow$Pairs", "firstAt", "(I)I"⟩, ⟨"MillRow$Pairs", "secondAt", "(I)I"⟩, ⟨"MillRow$Plan", "<init>", "()V"⟩, ⟨"MillRow$Plan", "clear", "(II)V"⟩, ⟨"MillRow$Plan", "opens", "(II)I"⟩, ⟨"MillRow$Reader", "<init>", "()V"⟩, ⟨"MillRow$Reader", "append", "(I)V"⟩, ⟨"MillRow$Reader", "read", "(LMillRow$Mill;I)I"⟩, ⟨"MillRow$Reader", "split", "(I)V"⟩, ⟨"MillRow$Reader", "kindOf", "(I)I"⟩, ⟨"MillRow$Reader", "step", "()V"⟩, ⟨"MillRow$Reader", "isWord", "(Ljava/lang/String;)Z"⟩, ⟨"MillRow$Reader", "isSign", "(I)Z"⟩, ⟨"MillRow$Reader", "takesWord", "(Ljava/lang/String;)Z"⟩, ⟨"MillRow$Reader", "takesSign", "(I)Z"⟩, ⟨"MillRow$Reader", "takesNumber", "(II)Z"⟩, ⟨"MillRow$Reader", "takesWheel", "(LMillRow$Wheel;)Z"⟩, ⟨"MillRow$Reader", "takesStatement", "(LMillRow$Mill;)Z"⟩, ⟨"MillRow$Reader", "takesAny", "(LMillRow$Rules;I)Z"⟩, ⟨"MillRow$Reader", "takesAll", "(LMillRow$Rules;I)Z"⟩, ⟨"MillRow$Reader", "takesOne", "(LMillRow$Rules;I)Z"⟩, ⟨"MillRow$Rules", "<init>", "()V"⟩, ⟨"MillRow$Rules", "clear", "()V"⟩, ⟨"MillRow$Rules", "put", "(I)Z"⟩, ⟨"MillRow$Rules", "putCompare", "(III)Z"⟩, ⟨"MillRow$Rules", "closeGate", "(I)Z"⟩, ⟨"MillRow$Rules", "tells", "(IIIII)I"⟩, ⟨"MillRow$Rules", "allows", "(II)Z"⟩, ⟨"MillRow$Rules", "compares", "(I)Z"⟩, ⟨"MillRow$Wheel", "<init>", "()V"⟩, ⟨"MillRow$Wheel", "forget", "()V"⟩, ⟨"MillRow$Wheel", "becomesOver", "(LMillRow$Wheel;II)V"⟩, ⟨"MillRow$Wheel", "becomesLarger", "(LMillRow$Wheel;I)V"⟩, ⟨"MillRow$Wheel", "takesHead", "(I)Z"⟩, ⟨"MillRow$Wheel", "hourWork", "(III)J"⟩, ⟨"MillRow$Wheel", "underWork", "(III)J"⟩, ⟨"MillRow$Wheel", "root", "(I)I"⟩, ⟨"MillRow$Wheel", "hourYield", "(IIII)J"⟩, ⟨"MillRow$Wheel", "millYield", "(I)J"⟩, ⟨"MillRow$Wheel", "bestPace", "(III)I"⟩, ⟨"MillRow", "<init>", "()V"⟩, ⟨"MillRow", "feed", "(IIIII)I"⟩, ⟨"MillRow", "mill", "(II)I"⟩, ⟨"MillRow", "fault", "()I"⟩, ⟨"MillRow", "told", "(II)I"⟩, ⟨"MillRow", "sine", "(II)I"⟩, ⟨"MillRow", "bucket", "(IIII)J"⟩, ⟨"MillRow", "holds", "(III)I"⟩, ⟨"MillRow", "work", "(IIII)J"⟩, ⟨"MillRow", "gives", "(IIIII)J"⟩, ⟨"MillRow", "best", "(IIIII)J"⟩, ⟨"MillRow", "parts", "(III)I"⟩, ⟨"MillRow", "grid", "(IIIII)I"⟩, ⟨"MillRow", "moreByOneFlow", "(LMillRow$Wheel;IIIJ)I"⟩, ⟨"MillRow", "model", "(IIII)J"⟩, ⟨"MillRow", "day", "(IIZ)Z"⟩, ⟨"MillRow", "flow", "(I)I"⟩, ⟨"MillRow", "hours", "(I)I"⟩, ⟨"MillRow", "flood", "(I)I"⟩, ⟨"MillRow", "seed", "(I)Z"⟩, ⟨"MillRow", "ground", "(II)J"⟩, ⟨"MillRow", "water", "(I)J"⟩, ⟨"MillRow", "shift", "(IIII)J"⟩, ⟨"MillRow", "rests", "(III)I"⟩, ⟨"MillRow", "all", "(III)I"⟩, ⟨"MillRow", "isShift", "(II)Z"⟩, ⟨"MillRow", "shifters", "()I"⟩, ⟨"MillRow", "isWay", "(I)Z"⟩, ⟨"MillRow", "placeValue", "(I)I"⟩, ⟨"MillRow", "beginningIn", "(II)I"⟩, ⟨"MillRow", "tryWay", "(III)V"⟩, ⟨"MillRow", "groundBy", "(II)J"⟩, ⟨"MillRow", "isRest", "(I)Z"⟩, ⟨"MillRow", "guilt", "(II)Z"⟩, ⟨"MillRow", "seen", "(II)I"⟩, ⟨"MillRow", "raised", "(I)I"⟩, ⟨"MillRow", "weighs", "(I)J"⟩, ⟨"MillRow", "millionths", "(JJ)I"⟩, ⟨"MillRow", "ruin", "(III)I"⟩, ⟨"MillRow", "load", "(I)I"⟩, ⟨"MillRow", "rim", "()I"⟩, ⟨"MillRow", "teeth", "(III)I"⟩, ⟨"MillRow", "losses", "(IIII)I"⟩, ⟨"MillRow", "night", "(IIIII)J"⟩, ⟨"MillRow", "versus", "(IIII)I"⟩, ⟨"MillRow", "balance", "(IIII)I"⟩, ⟨"MillRow", "fall", "(II)I"⟩, ⟨"MillRow", "buy", "(IIII)J"⟩, ⟨"MillRow", "setYield", "(I)J"⟩, ⟨"MillRow", "setPrice", "(I)I"⟩, ⟨"MillRow", "sleep", "(II)I"⟩, ⟨"MillRow", "comes", "(I)I"⟩, ⟨"MillRow", "order", "(II)I"⟩, ⟨"MillRow", "served", "(II)I"⟩, ⟨"MillRow", "dry", "(III)I"⟩, ⟨"MillRow", "image", "()I"⟩, ⟨"MillRow", "restore", "(I)Z"⟩, ⟨"MillRow", "count", "(I)I"⟩, ⟨"MillRow", "within", "(III)Z"⟩, ⟨"MillRow", "isFlow", "(I)Z"⟩, ⟨"MillRow", "isPace", "(I)Z"⟩, ⟨"MillRow", "isBelow", "(I)Z"⟩, ⟨"MillRow", "isDay", "(I)Z"⟩, ⟨"MillRow", "dayIsLeft", "()Z"⟩, ⟨"MillRow", "toldMill", "(I)LMillRow$Mill;"⟩, ⟨"MillRow", "overWheel", "(I)LMillRow$Wheel;"⟩, ⟨"MillRow", "toldMills", "()I"⟩, ⟨"MillRow", "noted", "(LMillRow$Pairs;II)I"⟩, ⟨"MillRow", "refuse", "(I)I"⟩, ⟨"MillRow", "refusal", "(I)Z"⟩, ⟨"MillRow", "sum", "([I)J"⟩, ⟨"MillRowModel", "<init>", "()V"⟩, ⟨"MillRowModel", "within", "(JJJ)Z"⟩, ⟨"MillRowModel", "refuses", "(I)I"⟩, ⟨"MillRowModel", "isNot", "()Z"⟩, ⟨"MillRowModel", "isMill", "(I)Z"⟩, ⟨"MillRowModel", "copies", "(II)V"⟩, ⟨"MillRowModel", "feed", "(IIIII)I"⟩, ⟨"MillRowModel", "here", "()I"⟩, ⟨"MillRowModel", "next", "()V"⟩, ⟨"MillRowModel", "errs", "()V"⟩, ⟨"MillRowModel", "is", "(J)Z"⟩, ⟨"MillRowModel", "takes", "(J)Z"⟩, ⟨"MillRowModel", "needs", "(J)V"⟩, ⟨"MillRowModel", "numeral", "(II)I"⟩, ⟨"MillRowModel", "wordHere", "()I"⟩, ⟨"MillRowModel", "step", "(IIII)V"⟩, ⟨"MillRowModel", "readTest", "()V"⟩, ⟨"MillRowModel", "closes", "()Z"⟩, ⟨"MillRowModel", "readCondition", "()V"⟩, ⟨"MillRowModel", "readWheel", "()V"⟩, ⟨"MillRowModel", "readGate", "()V"⟩, ⟨"MillRowModel", "readStatement", "()V"⟩, ⟨"MillRowModel", "ends", "()V"⟩, ⟨"MillRowModel", "mill", "(II)I"⟩, ⟨"MillRowModel", "fault", "()I"⟩, ⟨"MillRowModel", "sin", "(I)I"⟩, ⟨"MillRowModel", "cos", "(I)I"⟩, ⟨"MillRowModel", "sine", "(II)I"⟩, ⟨"MillRowModel", "capOf", "(I)I"⟩, ⟨"MillRowModel", "offeredOf", "(III)I"⟩, ⟨"MillRowModel", "splashOf", "(II)I"⟩, ⟨"MillRowModel", "getsOf", "(III)I"⟩, ⟨"MillRowModel", "thrownOf", "(II)I"⟩, ⟨"MillRowModel", "holdsOf", "(III)I"⟩, ⟨"MillRowModel", "placeOf", "(II)I"⟩, ⟨"MillRowModel", "placesOf", "(I)I"⟩, ⟨"MillRowModel", "hasOf", "(IIII)I"⟩, ⟨"MillRowModel", "sumOf", "(IIIZ)J"⟩, ⟨"MillRowModel", "bucketWork", "(III)J"⟩, ⟨"MillRowModel", "root", "(I)I"⟩, ⟨"MillRowModel", "workOf", "(IIII)J"⟩, ⟨"MillRowModel", "yieldOf", "(IIIII)J"⟩, ⟨"MillRowModel", "isFlow", "(I)Z"⟩, ⟨"MillRowModel", "isOverMill", "(I)Z"⟩, ⟨"MillRowModel", "bucket", "(IIII)J"⟩, ⟨"MillRowModel", "holds", "(III)I"⟩, ⟨"MillRowModel", "isWork", "(IIII)Z"⟩, ⟨"MillRowModel", "work", "(IIII)J"⟩, ⟨"MillRowModel", "gives", "(IIIII)J"⟩, ⟨"MillRowModel", "bestPace", "(IIII)I"⟩, ⟨"MillRowModel", "best", "(IIIII)J"⟩, ⟨"MillRowModel", "lastOf", "(I)I"⟩, ⟨"MillRowModel", "parts", "(III)I"⟩, ⟨"MillRowModel", "tried", "(III)J"⟩, ⟨"MillRowModel", "grid", "(IIIII)I"⟩, ⟨"MillRowModel", "model", "(IIII)J"⟩, ⟨"MillRowModel", "copyState", "(II)V"⟩, ⟨"MillRowModel", "day", "(IIZ)Z"⟩, ⟨"MillRowModel", "flow", "(I)I"⟩, ⟨"MillRowModel", "flood", "(I)I"⟩, ⟨"MillRowModel", "seed", "(I)Z"⟩, ⟨"MillRowModel", "behind", "(I)I"⟩, ⟨"MillRowModel", "levelOf", "(II)I"⟩, ⟨"MillRowModel", "holdsAll", "(I)Z"⟩, ⟨"MillRowModel", "openOf", "(I)I"⟩, ⟨"MillRowModel", "byRules", "()V"⟩, ⟨"MillRowModel", "shiftOf", "(I)I"⟩, ⟨"MillRowModel", "gateOf", "(II)I"⟩, ⟨"MillRowModel", "mills", "(IIII)I"⟩, ⟨"MillRowModel", "hour", "(I)V"⟩, ⟨"MillRowModel", "tolds", "()I"⟩, ⟨"MillRowModel", "hours", "(I)I"⟩, ⟨"MillRowModel", "ground", "(II)J"⟩, ⟨"MillRowModel", "water", "(I)J"⟩, ⟨"MillRowModel", "told", "(II)I"⟩, ⟨"MillRowModel", "hasDay", "()Z"⟩, ⟨"MillRowModel", "shiftMills", "()I"⟩, ⟨"MillRowModel", "shiftMany", "()I"⟩, ⟨"MillRowModel", "tryShift", "(III)V"⟩, ⟨"MillRowModel", "isWay", "(I)Z"⟩, ⟨"MillRowModel", "isShift", "(II)Z"⟩, ⟨"MillRowModel", "shift", "(IIII)J"⟩, ⟨"MillRowModel", "tryAll", "(II)V"⟩, ⟨"MillRowModel", "isRest", "(I)Z"⟩, ⟨"MillRowModel", "rests", "(III)I"⟩, ⟨"MillRowModel", "all", "(III)I"⟩, ⟨"MillRowModel", "guilt", "(II)Z"⟩, ⟨"MillRowModel", "seen", "(II)I"⟩, ⟨"MillRowModel", "weighed", "(I)J"⟩, ⟨"MillRowModel", "millionths", "(JJ)I"⟩, ⟨"MillRowModel", "raised", "(I)I"⟩, ⟨"MillRowModel", "ruin", "(III)I"⟩, ⟨"MillRowModel", "load", "(I)I"⟩, ⟨"MillRowModel", "rim", "()I"⟩, ⟨"MillRowModel", "divisor", "(II)I"⟩, ⟨"MillRowModel", "teeth", "(III)I"⟩, ⟨"MillRowModel", "losses", "(IIII)I"⟩, ⟨"MillRowModel", "night", "(IIIII)J"⟩, ⟨"MillRowModel", "versus", "(IIII)I"⟩, ⟨"MillRowModel", "balance", "(IIII)I"⟩, ⟨"MillRowModel", "fall", "(II)I"⟩, ⟨"MillRowModel", "buy", "(IIII)J"⟩, ⟨"MillRowModel", "sleep", "(II)I"⟩, ⟨"MillRowModel", "comes", "(I)I"⟩, ⟨"MillRowModel", "order", "(II)I"⟩, ⟨"MillRowModel", "served", "()I"⟩, ⟨"MillRowModel", "served", "(II)I"⟩, ⟨"MillRowModel", "dry", "(III)I"⟩, ⟨"MillRowModel", "image", "()I"⟩, ⟨"MillRowModel", "restore", "(I)Z"⟩, ⟨"MillRowModel", "count", "(I)I"⟩, ⟨"java/lang/Math", "floorMod", "(II)I"⟩, ⟨"java/lang/Math", "max", "(II)I"⟩, ⟨"java/lang/Math", "max", "(JJ)J"⟩, ⟨"java/lang/Math", "min", "(II)I"⟩, ⟨"java/lang/Math", "min", "(JJ)J"⟩, ⟨"java/util/Arrays", "fill", "([II)V"⟩, ⟨"MillRowLaw", "law", "([I)Z"⟩]
def am_y (k : Nat) : MethodName := am_yL.getD k ⟨"", "", ""⟩
def am_codeL : List ByteArray := [prog_2_method_1_code, prog_2_method_2_code, prog_2_method_3_code, prog_2_method_4_code, prog_2_method_5_code, prog_2_method_6_code, prog_2_method_7_code, prog_2_method_8_code, prog_3_method_1_code, prog_3_method_2_code, prog_3_method_3_code, prog_3_method_4_code, prog_3_method_5_code, prog_3_method_6_code, prog_3_method_7_code, prog_3_method_8_code, prog_3_method_9_code, prog_4_method_2_code, prog_4_method_3_code, prog_5_method_1_code, prog_5_method_2_code, prog_5_method_3_code, prog_5_method_4_code, prog_6_method_1_code, prog_6_method_2_code, prog_6_method_3_code, prog_6_method_4_code, prog_7_method_1_code, prog_7_method_2_code, prog_7_method_3_code, prog_8_method_1_code, prog_8_method_2_code, prog_8_method_3_code, prog_8_method_4_code, prog_8_method_5_code, prog_8_method_6_code, prog_8_method_7_code, prog_8_method_8_code, prog_8_method_9_code, prog_8_method_10_code, prog_8_method_11_code, prog_8_method_12_code, prog_8_method_13_code, prog_8_method_14_code, prog_8_method_15_code, prog_8_method_16_code, prog_9_method_1_code, prog_9_method_2_code, prog_9_method_3_code, prog_9_method_4_code, prog_9_method_5_code, prog_9_method_6_code, prog_9_method_7_code, prog_9_method_8_code, prog_10_method_1_code, prog_10_method_2_code, prog_10_method_3_code, prog_10_method_4_code, prog_10_method_5_code, prog_10_method_6_code, prog_10_method_7_code, prog_10_method_8_code, prog_10_method_9_code, prog_10_method_10_code, prog_10_method_11_code, prog_1_method_1_code, prog_1_method_2_code, prog_1_method_3_code, prog_1_method_4_code, prog_1_method_5_code, prog_1_method_6_code, prog_1_method_7_code, prog_1_method_8_code, prog_1_method_9_code, prog_1_method_10_code, prog_1_method_11_code, prog_1_method_12_code, prog_1_method_13_code, prog_1_method_14_code, prog_1_method_15_code, prog_1_method_16_code, prog_1_method_17_code, prog_1_method_18_code, prog_1_method_19_code, prog_1_method_20_code, prog_1_method_21_code, prog_1_method_22_code, prog_1_method_23_code, prog_1_method_24_code, prog_1_method_25_code, prog_1_method_26_code, prog_1_method_27_code, prog_1_method_28_code, prog_1_method_29_code, prog_1_method_30_code, prog_1_method_31_code, prog_1_method_32_code, prog_1_method_33_code, prog_1_method_34_code, prog_1_method_35_code, prog_1_method_36_code, prog_1_method_37_code, prog_1_method_38_code, prog_1_method_39_code, prog_1_method_40_code, prog_1_method_41_code, prog_1_method_42_code, prog_1_method_43_code, prog_1_method_44_code, prog_1_method_45_code, prog_1_method_46_code, prog_1_method_47_code, prog_1_method_48_code, prog_1_method_49_code, prog_1_method_50_code, prog_1_method_51_code, prog_1_method_52_code, prog_1_method_53_code, prog_1_method_54_code, prog_1_method_55_code, prog_1_method_56_code, prog_1_method_57_code, prog_1_method_58_code, prog_1_method_59_code, prog_1_method_60_code, prog_1_method_61_code, prog_1_method_62_code, prog_1_method_63_code, prog_1_method_64_code, prog_1_method_65_code, prog_1_method_66_code, prog_1_method_67_code, prog_1_method_68_code, prog_1_method_69_code, prog_1_method_70_code, prog_1_method_71_code, prog_12_method_1_code, prog_12_method_3_code, prog_12_method_4_code, prog_12_method_5_code, prog_12_method_6_code, prog_12_method_7_code, prog_12_method_8_code, prog_12_method_9_code, prog_12_method_10_code, prog_12_method_11_code, prog_12_method_12_code, prog_12_method_13_code, prog_12_method_14_code, prog_12_method_15_code, prog_12_method_16_code, prog_12_method_17_code, prog_12_method_18_code, prog_12_method_19_code, prog_12_method_20_code, prog_12_method_21_code, prog_12_method_22_code, prog_12_method_23_code, prog_12_method_24_code, prog_12_method_25_code, prog_12_method_26_code, prog_12_method_27_code, prog_12_method_28_code, prog_12_method_29_code, prog_12_method_30_code, prog_12_method_31_code, prog_12_method_32_code, prog_12_method_33_code, prog_12_method_34_code, prog_12_method_35_code, prog_12_method_36_code, prog_12_method_37_code, prog_12_method_38_code, prog_12_method_39_code, prog_12_method_40_code, prog_12_method_41_code, prog_12_method_42_code, prog_12_method_43_code, prog_12_method_44_code, prog_12_method_45_code, prog_12_method_46_code, prog_12_method_47_code, prog_12_method_48_code, prog_12_method_49_code, prog_12_method_50_code, prog_12_method_51_code, prog_12_method_52_code, prog_12_method_53_code, prog_12_method_54_code, prog_12_method_55_code, prog_12_method_56_code, prog_12_method_57_code, prog_12_method_58_code, prog_12_method_59_code, prog_12_method_60_code, prog_12_method_61_code, prog_12_method_62_code, prog_12_method_64_code, prog_12_method_65_code, prog_12_method_66_code, prog_12_method_67_code, prog_12_method_68_code, prog_12_method_69_code, prog_12_method_70_code, prog_12_method_71_code, prog_12_method_72_code, prog_12_method_73_code, prog_12_method_74_code, prog_12_method_75_code, prog_12_method_76_code, prog_12_method_77_code, prog_12_method_78_code, prog_12_method_79_code, prog_12_method_80_code, prog_12_method_81_code, prog_12_method_82_code, prog_12_method_83_code, prog_12_method_84_code, prog_12_method_85_code, prog_12_method_86_code, prog_12_method_87_code, prog_12_method_88_code, prog_12_method_89_code, prog_12_method_90_code, prog_12_method_91_code, prog_12_method_92_code, prog_12_method_93_code, prog_12_method_94_code, prog_12_method_95_code, prog_12_method_96_code, prog_12_method_97_code, prog_12_method_98_code, prog_12_method_99_code, prog_12_method_100_code, prog_12_method_101_code, prog_12_method_102_code, prog_12_method_103_code, prog_12_method_104_code, prog_12_method_105_code, prog_12_method_106_code, prog_12_method_107_code, prog_12_method_108_code, prog_12_method_109_code, prog_12_method_110_code, prog_12_method_111_code, prog_12_method_112_code, prog_12_method_113_code, prog_13_method_50_code, prog_13_method_65_code, prog_13_method_66_code, prog_13_method_69_code, prog_13_method_70_code, prog_18_method_103_code, code]
def am_code (k : Nat) : ByteArray := am_codeL.getD k code
def am_maxL (k : Nat) : Nat := ([1, 2, 2, 3, 1, 7, 6, 13, 1, 5, 2, 3, 3, 5, 2, 4, 4, 2, 1, 1, 1, 1, 2, 2, 3, 2, 2, 1, 3, 3, 1, 3, 5, 7, 2, 1, 4, 2, 2, 2, 5, 2, 4, 5, 5, 6, 1, 1, 2, 4, 2, 8, 7, 6, 1, 1, 4, 3, 2, 4, 7, 4, 9, 2, 10, 2, 6, 5, 1, 5, 3, 7, 5, 6, 7, 8, 5, 21, 10, 6, 4, 2, 3, 2, 2, 3, 2, 5, 6, 8, 3, 1, 2, 1, 2, 7, 4, 7, 3, 3, 5, 8, 9, 11, 2, 7, 6, 9, 11, 12, 11, 4, 12, 5, 4, 8, 3, 4, 10, 9, 1, 2, 2, 3, 1, 1, 1, 1, 1, 3, 3, 3, 4, 2, 2, 7, 1, 6, 2, 1, 2, 3, 8, 1, 2, 1, 3, 4, 3, 4, 1, 5, 4, 2, 3, 2, 2, 2, 1, 5, 1, 1, 1, 3, 2, 4, 4, 4, 4, 6, 3, 3, 8, 12, 4, 2, 7, 8, 1, 2, 5, 4, 5, 5, 6, 7, 7, 3, 4, 4, 17, 7, 4, 4, 2, 4, 2, 3, 3, 5, 3, 1, 4, 4, 14, 8, 3, 3, 3, 7, 3, 1, 4, 1, 6, 2, 3, 5, 4, 6, 6, 7, 3, 3, 5, 9, 5, 7, 2, 7, 5, 5, 9, 10, 12, 9, 3, 14, 8, 3, 3, 3, 10, 8, 1, 2, 2, 3, 2, 4, 2, 4, 4, 4] : List Nat).getD k 0
def am_ret (k : Nat) : Option FieldType := ([none, none, none, (some .int), (some .int), none, (some .int), (some .int), none, none, none, (some .int), (some .int), none, (some .int), (some .long), (some .long), (some .int), (some .int), none, none, none, (some .int), none, (some .boolean), (some .int), (some .int), none, none, (some .int), none, none, (some .int), none, (some .int), none, (some .boolean), (some .boolean), (some .boolean), (some .boolean), (some .boolean), (some .boolean), (some .boolean), (some .boolean), (some .boolean), (some .boolean), none, none, (some .boolean), (some .boolean), (some .boolean), (some .int), (some .boolean), (some .boolean), none, none, none, none, (some .boolean), (some .long), (some .long), (some .int), (some .long), (some .long), (some .int), none, (some .int), (some .int), (some .int), (some .int), (some .int), (some .long), (some .int), (some .long), (some .long), (some .long), (some .int), (some .int), (some .int), (some .long), (some .boolean), (some .int), (some .int), (some .int), (some .boolean), (some .long), (some .long), (some .long), (some .int), (some .int), (some .boolean), (some .int), (some .boolean), (some .int), (some .int), none, (some .long), (some .boolean), (some .boolean), (some .int), (some .int), (some .long), (some .int), (some .int), (some .int), (some .int), (some .int), (some .int), (some .long), (some .int), (some .int), (some .int), (some .long), (some .long), (some .int), (some .int), (some .int), (some .int), (some .int), (some .int), (some .int), (some .boolean), (some .int), (some .boolean), (some .boolean), (some .boolean), (some .boolean), (some .boolean), (some .boolean), (some (.object "MillRow$Mill")), (some (.object "MillRow$Wheel")), (some .int), (some .int), (some .int), (some .boolean), (some .long), none, (some .boolean), (some .int), (some .boolean), (some .boolean), none, (some .int), (some .int), none, none, (some .boolean), (some .boolean), none, (some .int), (some .int), none, none, (some .boolean), none, none, none, none, none, (some .int), (some .int), (some .int), (some .int), (some .int), (some .int), (some .int), (some .int), (some .int), (some .int), (some .int), (some .int), (some .int), (some .int), (some .long), (some .long), (some .int), (some .long), (some .long), (some .boolean), (some .boolean), (some .long), (some .int), (some .boolean), (some .long), (some .long), (some .int), (some .long), (some .int), (some .int), (some .long), (some .int), (some .long), none, (some .boolean), (some .int), (some .int), (some .boolean), (some .int), (some .int), (some .boolean), (some .int), none, (some .int), (some .int), (some .int), none, (some .int), (some .int), (some .long), (some .long), (some .int), (some .boolean), (some .int), (some .int), none, (some .boolean), (some .boolean), (some .long), none, (some .boolean), (some .int), (some .int), (some .boolean), (some .int), (some .long), (some .int), (some .int), (some .int), (some .int), (some .int), (some .int), (some .int), (some .int), (some .long), (some .int), (some .int), (some .int), (some .long), (some .int), (some .int), (some .int), (some .int), (some .int), (some .int), (some .int), (some .boolean), (some .int), (some .int), (some .int), (some .long), (some .int), (some .long), none, (some .boolean)] : List (Option FieldType)).getD k none
def am_rc (k : Nat) : Nat := ([0, 0, 0, 1, 1, 0, 1, 1, 0, 0, 0, 1, 1, 0, 1, 3, 3, 1, 1, 0, 0, 0, 1, 0, 2, 1, 1, 0, 0, 1, 0, 0, 1, 0, 1, 0, 2, 2, 2, 2, 2, 2, 2, 2, 2, 2, 0, 0, 2, 2, 2, 1, 2, 2, 0, 0, 0, 0, 2, 3, 3, 1, 3, 3, 1, 0, 1, 1, 1, 1, 1, 3, 1, 3, 3, 3, 1, 1, 1, 3, 2, 1, 1, 1, 2, 3, 3, 3, 1, 1, 2, 1, 2, 1, 1, 0, 3, 2, 2, 1, 1, 3, 1, 1, 1, 1, 1, 1, 3, 1, 1, 1, 3, 3, 1, 1, 1, 1, 1, 1, 1, 2, 1, 2, 2, 2, 2, 2, 2, 4, 4, 1, 1, 1, 2, 3, 0, 2, 1, 2, 2, 0, 1, 1, 0, 0, 2, 2, 0, 1, 1, 0, 0, 2, 0, 0, 0, 0, 0, 1, 1, 1, 1, 1, 1, 1, 1, 1, 1, 1, 1, 1, 1, 3, 3, 1, 3, 3, 2, 2, 3, 1, 2, 3, 3, 1, 3, 1, 1, 3, 1, 3, 0, 2, 1, 1, 2, 1, 1, 2, 1, 0, 1, 1, 1, 0, 1, 1, 3, 3, 1, 2, 1, 1, 0, 2, 2, 3, 0, 2, 1, 1, 2, 1, 3, 1, 1, 1, 1, 1, 1, 1, 1, 3, 1, 1, 1, 3, 1, 1, 1, 1, 1, 1, 1, 2, 1, 1, 1, 3, 1, 3, 0, 2] : List Nat).getD k 0
def am_own (k : Nat) : Nat := ([0, 0, 0, 0, 0, 0, 0, 0, 1, 1, 1, 1, 1, 1, 1, 1, 1, 2, 2, 3, 3, 3, 3, 4, 4, 4, 4, 5, 5, 5, 6, 6, 6, 6, 6, 6, 6, 6, 6, 6, 6, 6, 6, 6, 6, 6, 7, 7, 7, 7, 7, 7, 7, 7, 8, 8, 8, 8, 8, 8, 8, 8, 8, 8, 8, 9, 9, 9, 9, 9, 9, 9, 9, 9, 9, 9, 9, 9, 9, 9, 9, 9, 9, 9, 9, 9, 9, 9, 9, 9, 9, 9, 9, 9, 9, 9, 9, 9, 9, 9, 9, 9, 9, 9, 9, 9, 9, 9, 9, 9, 9, 9, 9, 9, 9, 9, 9, 9, 9, 9, 9, 9, 9, 9, 9, 9, 9, 9, 9, 9, 9, 9, 9, 9, 9, 9, 10, 10, 10, 10, 10, 10, 10, 10, 10, 10, 10, 10, 10, 10, 10, 10, 10, 10, 10, 10, 10, 10, 10, 10, 10, 10, 10, 10, 10, 10, 10, 10, 10, 10, 10, 10, 10, 10, 10, 10, 10, 10, 10, 10, 10, 10, 10, 10, 10, 10, 10, 10, 10, 10, 10, 10, 10, 10, 10, 10, 10, 10, 10, 10, 10, 10, 10, 10, 10, 10, 10, 10, 10, 10, 10, 10, 10, 10, 10, 10, 10, 10, 10, 10, 10, 10, 10, 10, 10, 10, 10, 10, 10, 10, 10, 10, 10, 10, 10, 10, 10, 10, 10, 10, 10, 10, 10, 10, 10, 10, 10, 12, 12, 12, 12, 12, 13, 11] : List Nat).getD k 0
def am_mk (k : Nat) : Nat := ([10, 0, 0, 0, 0, 0, 0, 0, 3, 0, 0, 0, 0, 0, 0, 0, 0, 0, 0, 10, 0, 0, 0, 2, 0, 0, 0, 1, 0, 0, 4, 0, 0, 0, 0, 0, 0, 0, 0, 0, 0, 0, 0, 0, 0, 0, 4, 0, 0, 0, 0, 0, 0, 0, 4, 0, 0, 0, 0, 0, 0, 0, 0, 0, 0, 164, 0, 0, 0, 0, 0, 0, 0, 0, 0, 0, 0, 0, 0, 0, 0, 0, 0, 0, 0, 0, 0, 0, 0, 0, 0, 0, 0, 0, 0, 0, 0, 0, 0, 0, 0, 0, 0, 0, 0, 0, 0, 0, 0, 0, 0, 0, 0, 0, 0, 0, 0, 0, 0, 0, 0, 0, 0, 0, 0, 0, 0, 0, 0, 0, 0, 0, 0, 0, 0, 0, 52, 0, 0, 0, 0, 0, 0, 0, 0, 0, 0, 0, 0, 0, 0, 0, 0, 0, 0, 0, 0, 0, 0, 0, 0, 0, 0, 0, 0, 0, 0, 0, 0, 0, 0, 0, 0, 0, 0, 0, 0, 0, 0, 0, 0, 0, 0, 0, 0, 0, 0, 0, 0, 0, 0, 0, 0, 0, 0, 0, 0, 0, 0, 0, 0, 0, 0, 0, 0, 0, 0, 0, 0, 0, 0, 0, 0, 0, 0, 0, 0, 0, 0, 0, 0, 0, 0, 0, 0, 0, 0, 0, 0, 0, 0, 0, 0, 0, 0, 0, 0, 0, 0, 0, 0, 0, 0, 0, 0, 0, 0, 0, 0, 0, 0, 0, 0, 218] : List Nat).getD k 0
def am_isI (k : Nat) : Bool := ([true, false, false, false, false, false, false, false, true, false, false, false, false, false, false, false, false, false, false, true, false, false, false, true, false, false, false, true, false, false, true, false, false, false, false, false, false, false, false, false, false, false, false, false, false, false, true, false, false, false, false, false, false, false, true, false, false, false, false, false, false, false, false, false, false, true, false, false, false, false, false, false, false, false, false, false, false, false, false, false, false, false, false, false, false, false, false, false, false, false, false, false, false, false, false, false, false, false, false, false, false, false, false, false, false, false, false, false, false, false, false, false, false, false, false, false, false, false, false, false, false, false, false, false, false, false, false, false, false, false, false, false, false, false, false, false, true, false, false, false, false, false, false, false, false, false, false, false, false, false, false, false, false, false, false, false, false, false, false, false, false, false, false, false, false, false, false, false, false, false, false, false, false, false, false, false, false, false, false, false, false, false, false, false, false, false, false, false, false, false, false, false, false, false, false, false, false, false, false, false, false, false, false, false, false, false, false, false, false, false, false, false, false, false, false, false, false, false, false, false, false, false, false, false, false, false, false, false, false, false, false, false, false, false, false, false, false, false, false, false, false, false, false, false, false, false, false, false, false, false, false, false, false, false] : List Bool).getD k false
def am_shT : List Nat := [8, 5, 11, 11, 11, 11, 14, 2, 7, 1, 11, 11, 11, 6, 11, 11, 11, 11, 7, 1, 11, 11, 11, 0, 11, 11, 11, 11, 12, 11, 11, 11, 11, 11, 0, 11, 11, 11, 11, 12, 11, 11, 11, 11, 11, 15, 4, 11, 4, 11, 12, 11, 3, 11, 11, 3, 11, 11, 3, 11, 11, 12, 3, 11, 11, 11, 2, 7, 1, 11, 11, 11, 6, 11, 11, 11, 11, 2, 7, 1, 11, 11, 11, 6, 11, 11, 11, 11, 2, 7, 1, 11, 11, 11, 6, 11, 11, 11, 11, 2, 7, 1, 11, 11, 11, 6, 11, 11, 11, 11, 2, 7, 1, 11, 11, 11, 6, 11, 11, 11, 11, 2, 7, 1, 11, 11, 11, 6, 11, 11, 11, 11, 0, 11, 11, 11, 11, 12, 11, 11, 11, 11, 11, 0, 11, 11, 11, 11, 12, 11, 11, 11, 11, 11, 0, 11, 11, 11, 11, 12, 11, 11, 11, 11, 11, 9, 11, 13, 13, 11, 11, 11, 11, 11, 11, 11, 11, 11, 11, 11, 11, 11, 11, 11, 11, 11, 11, 11, 11, 10, 11, 11, 11, 11, 11, 11, 11, 11, 13, 12, 12, 12, 12, 11, 13, 11, 11, 12, 12, 11, 11, 11, 11, 11, 12, 11, 11, 12]
def am_lnT : List Nat := [18, 11, 700, 701, 701, 701, 6, 5, 10, 15, 40, 40, 40, 6, 700, 30, 30, 5, 10, 15, 40, 40, 40, 14, 40, 40, 6, 6, 6, 6, 6, 6, 6, 6, 14, 40, 40, 6, 6, 6, 6, 6, 6, 6, 6, 3, 3, 6, 3, 6, 192, 6, 3, 30, 30, 3, 24, 24, 3, 9, 9, 9, 3, 8, 8, 3, 5, 10, 15, 40, 40, 40, 6, 700, 30, 30, 5, 5, 10, 15, 40, 40, 40, 6, 700, 30, 30, 5, 5, 10, 15, 40, 40, 40, 6, 700, 30, 30, 5, 5, 10, 15, 40, 40, 40, 6, 700, 30, 30, 5, 5, 10, 15, 40, 40, 40, 6, 700, 30, 30, 5, 5, 10, 15, 40, 40, 40, 6, 700, 30, 30, 5, 14, 40, 40, 6, 6, 6, 6, 6, 6, 6, 6, 14, 40, 40, 6, 6, 6, 6, 6, 6, 6, 6, 14, 40, 40, 6, 6, 6, 6, 6, 6, 6, 6, 74, 3, 8, 8, 8, 8, 8, 8, 8, 8, 8, 8, 8, 8, 8, 8, 6, 240, 240, 240, 2800, 2800, 2800, 2800, 700, 12, 12, 200, 30, 30, 30, 30, 5, 200, 30, 5, 5, 5, 5, 200, 6, 6, 6, 192, 30, 30, 24, 9, 9, 9, 8, 8, 8]
def am_csT : List Nat := [0, 18, 29, 729, 1430, 2131, 2832, 2838, 2843, 2853, 2868, 2908, 2948, 2988, 2994, 3694, 3724, 3754, 3759, 3769, 3784, 3824, 3864, 3904, 3918, 3958, 3998, 4004, 4010, 4016, 4022, 4028, 4034, 4040, 4046, 4060, 4100, 4140, 4146, 4152, 4158, 4164, 4170, 4176, 4182, 4188, 4191, 4194, 4200, 4203, 4209, 4401, 4407, 4410, 4440, 4470, 4473, 4497, 4521, 4524, 4533, 4542, 4551, 4554, 4562, 4570, 4573, 4578, 4588, 4603, 4643, 4683, 4723, 4729, 5429, 5459, 5489, 5494, 5499, 5509, 5524, 5564, 5604, 5644, 5650, 6350, 6380, 6410, 6415, 6420, 6430, 6445, 6485, 6525, 6565, 6571, 7271, 7301, 7331, 7336, 7341, 7351, 7366, 7406, 7446, 7486, 7492, 8192, 8222, 8252, 8257, 8262, 8272, 8287, 8327, 8367, 8407, 8413, 9113, 9143, 9173, 9178, 9183, 9193, 9208, 9248, 9288, 9328, 9334, 10034, 10064, 10094, 10099, 10113, 10153, 10193, 10199, 10205, 10211, 10217, 10223, 10229, 10235, 10241, 10255, 10295, 10335, 10341, 10347, 10353, 10359, 10365, 10371, 10377, 10383, 10397, 10437, 10477, 10483, 10489, 10495, 10501, 10507, 10513, 10519, 10525, 10599, 10602, 10610, 10618, 10626, 10634, 10642, 10650, 10658, 10666, 10674, 10682, 10690, 10698, 10706, 10714, 10720, 10960, 11200, 11440, 14240, 17040, 19840, 22640, 23340, 23352, 23364, 23564, 23594, 23624, 23654, 23684, 23689, 23889, 23919, 23924, 23929, 23934, 23939, 24139, 24145, 24151, 24157, 24349, 24379, 24409, 24433, 24442, 24451, 24460, 24468, 24476, 24484]
def am_sh (i : Int) : Nat := am_shT.getD i.toNat 99
def am_ln (i : Int) : Int := ((am_lnT.getD i.toNat 0 : Nat) : Int)
def am_cs (i : Int) : Nat := am_csT.getD i.toNat 0
def am_lk {α : Type} (k : Nat) : List (Nat × α) → Option α
  | [] => none
  | (a, b) :: t => if a = k then some b else am_lk k t
/-- a field link: key, kind of object, slot, type, final, place among the words -/
def am_FL : List (Nat × (Nat × Nat × Nat × Bool × Nat)) := [(600009, 5, 0, 2, true, 33), (900090, 5, 1, 0, false, 34), (600028, 5, 1, 0, false, 35), (600015, 5, 2, 0, false, 36), (900115, 5, 2, 0, false, 37), (600019, 5, 3, 2, true, 38), (600022, 5, 4, 2, true, 39), (600025, 5, 5, 2, true, 40), (600071, 5, 6, 0, false, 41), (600054, 5, 7, 0, false, 42), (600064, 5, 8, 0, false, 43), (600077, 5, 9, 0, false, 44), (600101, 5, 10, 0, false, 45), (100036, 1, 0, 0, false, 89), (100009, 1, 1, 0, false, 90), (100047, 1, 2, 0, false, 91), (100054, 1, 3, 0, false, 92), (900170, 1, 3, 0, false, 93), (100057, 1, 4, 0, false, 94), (900224, 1, 4, 0, false, 95), (100015, 1, 5, 2, true, 96), (100019, 1, 6, 2, true, 97), (100084, 1, 7, 0, false, 98), (900212, 1, 7, 0, false, 99), (100087, 1, 8, 0, false, 100), (900215, 1, 8, 0, false, 101), (100090, 1, 9, 0, false, 102), (900218, 1, 9, 0, false, 103), (100071, 1, 10, 0, false, 104), (900221, 1, 10, 0, false, 105), (100074, 1, 11, 0, false, 106), (100022, 1, 12, 2, true, 107), (100025, 1, 13, 0, false, 108), (100028, 1, 14, 0, false, 109), (800031, 7, 0, 3, false, 141), (900125, 7, 0, 3, false, 142), (600110, 7, 0, 3, false, 143), (100031, 7, 1, 0, false, 144), (800035, 7, 1, 0, false, 145), (900129, 7, 1, 0, false, 146), (600121, 7, 1, 0, false, 147), (100048, 7, 2, 0, false, 148), (800038, 7, 2, 0, false, 149), (900132, 7, 2, 0, false, 150), (600126, 7, 2, 0, false, 151), (100037, 7, 3, 0, false, 152), (800041, 7, 3, 0, false, 153), (900135, 7, 3, 0, false, 154), (600130, 7, 3, 0, false, 155), (100051, 7, 4, 0, false, 156), (800044, 7, 4, 0, false, 157), (900138, 7, 4, 0, false, 158), (600135, 7, 4, 0, false, 159), (800018, 7, 5, 0, false, 160), (100044, 7, 5, 0, false, 161), (900141, 7, 5, 0, false, 162), (600139, 7, 5, 0, false, 163), (800022, 7, 6, 0, false, 164), (100060, 7, 6, 0, false, 165), (900144, 7, 6, 0, false, 166), (600143, 7, 6, 0, false, 167), (800025, 7, 7, 0, false, 168), (900153, 7, 7, 0, false, 169), (134, 7, 7, 0, false, 170), (600160, 7, 7, 0, false, 171), (800028, 7, 8, 0, false, 172), (900156, 7, 8, 0, false, 173), (600164, 7, 8, 0, false, 174), (800012, 7, 9, 2, true, 175), (300042, 7, 9, 2, true, 176), (900166, 7, 9, 2, true, 177), (700009, 6, 0, 2, true, 205), (700024, 6, 1, 0, false, 206), (700015, 6, 2, 2, true, 207), (700018, 6, 3, 2, true, 208), (700028, 6, 4, 0, false, 209), (900163, 6, 4, 0, false, 210), (700021, 6, 5, 2, true, 211), (300025, 2, 0, 3, false, 225), (94, 2, 0, 3, false, 226), (900425, 2, 0, 3, false, 227), (300012, 2, 1, 2, true, 228), (600046, 2, 1, 2, true, 229), (900122, 2, 1, 2, true, 230), (130, 2, 1, 2, true, 231), (300032, 2, 2, 0, false, 232), (900147, 2, 2, 0, false, 233), (108, 2, 2, 0, false, 234), (600151, 2, 2, 0, false, 235), (300036, 2, 3, 0, false, 236), (900150, 2, 3, 0, false, 237), (126, 2, 3, 0, false, 238), (600156, 2, 3, 0, false, 239), (300021, 2, 4, 2, true, 240), (900159, 2, 4, 2, true, 241), (116, 2, 4, 2, true, 242), (600170, 2, 4, 2, true, 243), (47, 0, 0, 0, false, 263), (900305, 0, 0, 0, false, 264), (51, 0, 1, 1, false, 265), (900329, 0, 1, 1, false, 266), (54, 0, 2, 1, false, 267), (900336, 0, 2, 1, false, 268), (9, 0, 3, 1, false, 269), (900316, 0, 3, 1, false, 270), (15, 0, 4, 2, true, 271), (900295, 0, 4, 2, true, 272), (19, 0, 5, 2, true, 273), (900298, 0, 5, 2, true, 274), (22, 0, 6, 2, true, 275), (900175, 0, 6, 2, true, 276), (25, 0, 7, 2, true, 277), (900181, 0, 7, 2, true, 278), (28, 0, 8, 2, true, 279), (900320, 0, 8, 2, true, 280), (32, 0, 9, 2, true, 281), (900323, 0, 9, 2, true, 282), (35, 0, 10, 2, true, 283), (900326, 0, 10, 2, true, 284), (38, 0, 11, 2, true, 285), (900422, 0, 11, 2, true, 286), (41, 0, 12, 2, true, 287), (900419, 0, 12, 2, true, 288), (44, 0, 13, 2, true, 289), (500009, 4, 0, 2, true, 330), (900370, 4, 0, 2, true, 331), (500021, 4, 1, 0, false, 332), (500025, 4, 2, 0, false, 333), (400013, 3, 0, 2, true, 350), (400019, 3, 1, 2, true, 351), (400022, 3, 2, 0, false, 352), (900393, 3, 2, 0, false, 353), (900012, 8, 0, 2, true, 361), (900018, 8, 1, 2, true, 362), (900023, 8, 2, 2, false, 363), (900030, 8, 3, 2, true, 364), (900037, 8, 4, 2, true, 365), (900041, 8, 5, 2, true, 366), (900044, 8, 6, 2, true, 367), (900112, 8, 7, 0, false, 368), (900051, 8, 8, 2, true, 369), (900055, 8, 9, 2, true, 370), (900058, 8, 10, 2, true, 371), (900062, 8, 11, 2, true, 372), (900071, 8, 12, 2, true, 373), (900075, 8, 13, 2, true, 374), (900078, 8, 14, 2, true, 375), (900081, 8, 15, 2, true, 376), (900084, 8, 16, 2, true, 377), (900087, 8, 17, 2, true, 378), (1000007, 9, 0, 2, true, 1055), (1000013, 9, 1, 2, true, 1056), (1000017, 9, 2, 2, true, 1057), (1000020, 9, 3, 2, true, 1058), (1000023, 9, 4, 2, true, 1059), (1000026, 9, 5, 2, true, 1060), (1000029, 9, 6, 2, true, 1061), (1000032, 9, 7, 2, true, 1062), (1000035, 9, 8, 2, true, 1063), (1000038, 9, 9, 2, true, 1064), (1000041, 9, 10, 2, true, 1065), (1000044, 9, 11, 2, true, 1066), (1000047, 9, 12, 2, true, 1067), (1000050, 9, 13, 2, true, 1068), (1000053, 9, 14, 2, true, 1069), (1000056, 9, 15, 2, true, 1070), (1000059, 9, 16, 2, true, 1071), (1000062, 9, 17, 2, true, 1072), (1000065, 9, 18, 2, true, 1073), (1000068, 9, 19, 2, true, 1074), (1000071, 9, 20, 2, true, 1075), (1000074, 9, 21, 2, true, 1076), (1000077, 9, 22, 2, true, 1077), (1000080, 9, 23, 2, true, 1078), (1000177, 9, 24, 0, false, 1079), (1000084, 9, 25, 0, false, 1080), (1000183, 9, 26, 0, false, 1081), (1000180, 9, 27, 0, false, 1082), (1000190, 9, 28, 0, false, 1083), (1000201, 9, 29, 0, false, 1084), (1000198, 9, 30, 0, false, 1085), (1000246, 9, 31, 0, false, 1086), (1000195, 9, 32, 1, false, 1087), (1000219, 9, 33, 3, false, 1088), (1000088, 9, 34, 2, true, 1089), (1000091, 9, 35, 2, true, 1090), (1000260, 9, 36, 0, false, 1091), (1000094, 9, 37, 2, true, 1092), (1000097, 9, 38, 2, true, 1093), (1000100, 9, 39, 2, true, 1094), (1000103, 9, 40, 2, true, 1095), (1000106, 9, 41, 2, true, 1096), (1000109, 9, 42, 2, true, 1097), (1000112, 9, 43, 2, true, 1098), (1000115, 9, 44, 2, true, 1099), (1000119, 9, 45, 2, true, 1100), (1000122, 9, 46, 2, true, 1101), (1000125, 9, 47, 2, true, 1102), (1000333, 9, 48, 0, false, 1103), (1000128, 9, 49, 1, false, 1104), (1000132, 9, 50, 2, true, 1105), (1000135, 9, 51, 2, true, 1106), (1000454, 9, 52, 0, false, 1107), (1000472, 9, 53, 0, false, 1108), (1000463, 9, 54, 0, false, 1109), (1000466, 9, 55, 0, false, 1110), (1000457, 9, 56, 0, false, 1111), (1000138, 9, 57, 2, true, 1112), (1000141, 9, 58, 2, true, 1113), (1000144, 9, 59, 2, true, 1114), (1000147, 9, 60, 2, true, 1115), (1000537, 9, 61, 0, false, 1116), (1000150, 9, 62, 2, true, 1117), (1000153, 9, 63, 2, true, 1118), (1000558, 9, 64, 0, false, 1119), (1000156, 9, 65, 2, true, 1120), (1000574, 9, 66, 0, false, 1121), (1000159, 9, 67, 2, true, 1122), (1000162, 9, 68, 2, true, 1123), (1000165, 9, 69, 2, true, 1124), (1000579, 9, 70, 0, false, 1125), (1000168, 9, 71, 2, true, 1126), (1000171, 9, 72, 2, true, 1127), (1000174, 9, 73, 2, true, 1128)]
/-- a method link: key, callee, how many arguments (without the receiver), way (0 virtual, 1 static, 2 constructor, 3 constructor of a nest mate, 4 arraycopy, 5 static of a nest mate, 6 length, 7 charAt, 8 Object), place -/
def am_CL : List (Nat × (Nat × Nat × Nat × Nat)) := [(1100009, 65, 0, 2, 21), (900003, 0, 0, 8, 24), (900011, 30, 0, 3, 29), (600003, 0, 0, 8, 32), (900022, 19, 0, 3, 73), (300003, 0, 0, 8, 76), (300011, 54, 0, 3, 79), (800003, 0, 0, 8, 82), (800011, 8, 0, 3, 85), (100003, 0, 0, 8, 88), (300020, 46, 0, 3, 201), (700003, 0, 0, 8, 204), (900029, 54, 0, 3, 256), (900036, 0, 0, 3, 259), (3, 0, 0, 8, 262), (900050, 27, 0, 2, 323), (500003, 0, 0, 8, 326), (500015, 252, 2, 1, 327), (900068, 23, 1, 2, 343), (400001, 0, 0, 8, 346), (400007, 248, 2, 1, 347), (1100013, 66, 5, 0, 416), (900094, 31, 1, 0, 420), (1100018, 67, 2, 0, 424), (900097, 123, 3, 1, 428), (900101, 133, 1, 0, 431), (900105, 32, 2, 0, 435), (600031, 250, 2, 1, 439), (600037, 33, 1, 0, 442), (600067, 34, 1, 1, 446), (600074, 35, 0, 0, 449), (600041, 20, 0, 0, 453), (300029, 55, 0, 0, 457), (300039, 47, 0, 0, 461), (600050, 41, 1, 0, 465), (600105, 38, 1, 0, 470), (600090, 36, 1, 0, 474), (600080, 0, 0, 6, 478), (600086, 0, 1, 7, 488), (600117, 40, 2, 0, 528), (600098, 248, 2, 1, 532), (600146, 39, 1, 0, 538), (600094, 37, 1, 0, 542), (600057, 21, 0, 0, 546), (300046, 9, 1, 0, 550), (100038, 248, 2, 1, 554), (100062, 250, 2, 1, 555), (100065, 18, 1, 1, 556), (200014, 17, 1, 1, 559), (200009, 123, 3, 5, 562), (600060, 42, 1, 0, 564), (600174, 43, 2, 0, 574), (600183, 44, 2, 0, 578), (600191, 45, 2, 0, 582), (600188, 48, 1, 0, 587), (600208, 49, 3, 0, 596), (700031, 48, 1, 0, 600), (600178, 50, 1, 0, 603), (900109, 2, 1, 0, 607), (63, 123, 3, 5, 611), (1100023, 68, 0, 0, 613), (1100028, 69, 2, 0, 617), (900118, 129, 1, 0, 621), (900178, 22, 1, 0, 625), (900184, 12, 1, 0, 629), (100077, 10, 1, 0, 633), (100081, 11, 1, 0, 637), (1100032, 70, 2, 0, 641), (900187, 17, 1, 1, 645), (900192, 18, 1, 1, 646), (1100036, 71, 4, 0, 647), (900195, 130, 1, 0, 651), (900199, 124, 1, 1, 655), (900203, 125, 1, 1, 659), (900208, 13, 2, 0, 663), (900227, 15, 0, 0, 667), (100093, 17, 1, 1, 671), (900231, 16, 0, 0, 673), (900234, 14, 1, 0, 678), (1100041, 72, 3, 0, 682), (900237, 10, 1, 0, 686), (900240, 11, 1, 0, 687), (1100046, 73, 4, 0, 688), (900243, 58, 1, 0, 692), (800055, 123, 3, 5, 696), (900246, 59, 3, 0, 697), (800059, 60, 3, 0, 701), (800075, 61, 1, 1, 705), (800079, 248, 2, 1, 708), (800063, 13, 2, 0, 710), (800067, 16, 0, 0, 711), (1100050, 74, 5, 0, 714), (900250, 126, 1, 1, 718), (900253, 62, 4, 0, 721), (800089, 59, 3, 0, 726), (800092, 249, 2, 1, 727), (1100055, 75, 5, 0, 730), (900257, 64, 3, 0, 734), (800095, 62, 4, 0, 739), (1100059, 76, 3, 0, 740), (900262, 63, 1, 0, 744), (1100063, 77, 5, 0, 750), (900271, 56, 3, 0, 755), (800047, 9, 1, 0, 759), (900275, 78, 5, 0, 760), (1100067, 79, 4, 0, 764), (900279, 57, 2, 0, 768), (800051, 56, 3, 0, 772), (900283, 250, 2, 1, 773), (1100071, 80, 3, 0, 774), (900289, 127, 1, 1, 778), (900292, 134, 1, 0, 781), (1100076, 81, 1, 0, 785), (1100081, 82, 1, 0, 789), (900301, 131, 0, 0, 793), (900308, 5, 2, 0, 797), (86, 6, 1, 0, 801), (104, 22, 1, 0, 805), (90, 4, 0, 0, 806), (77, 250, 2, 1, 810), (83, 248, 2, 1, 811), (100, 7, 3, 0, 812), (111, 29, 2, 0, 816), (500028, 247, 2, 1, 820), (120, 51, 5, 0, 823), (700035, 52, 2, 0, 827), (700039, 248, 2, 1, 831), (700047, 53, 1, 0, 833), (139, 62, 4, 0, 838), (1100085, 83, 1, 0, 839), (900312, 3, 0, 0, 843), (1100089, 84, 1, 0, 852), (1100094, 85, 2, 0, 857), (1100099, 86, 1, 0, 861), (900332, 135, 1, 1, 865), (1100104, 87, 4, 0, 868), (900339, 90, 2, 0, 872), (900346, 91, 0, 0, 876), (900360, 128, 0, 0, 880), (900343, 92, 1, 0, 884), (900364, 93, 1, 1, 888), (900349, 95, 3, 0, 891), (900367, 28, 2, 0, 895), (900373, 94, 2, 1, 899), (900376, 1, 1, 0, 902), (57, 0, 5, 4, 906), (900353, 96, 2, 0, 909), (1100108, 88, 3, 0, 913), (900357, 97, 1, 0, 917), (1100112, 89, 3, 0, 921), (1100116, 98, 2, 0, 925), (1100121, 99, 2, 0, 929), (900380, 132, 3, 0, 933), (900428, 24, 2, 0, 937), (1100125, 100, 1, 0, 941), (900384, 101, 1, 0, 945), (900394, 25, 1, 0, 950), (900397, 26, 1, 0, 954), (900387, 102, 2, 1, 959), (1100129, 103, 3, 0, 962), (1100133, 104, 1, 0, 966), (1100137, 105, 0, 0, 970), (900402, 248, 2, 1, 974), (1100141, 106, 3, 0, 975), (1100145, 107, 4, 0, 979), (1100150, 108, 5, 0, 983), (1100154, 109, 4, 0, 987), (900407, 251, 2, 1, 992), (1100158, 110, 4, 0, 995), (1100162, 111, 2, 0, 1001), (1100166, 112, 4, 0, 1005), (900413, 113, 1, 0, 1009), (900416, 114, 1, 0, 1013), (1100170, 115, 2, 0, 1017), (1100174, 116, 1, 0, 1021), (1100178, 117, 2, 0, 1025), (1100182, 118, 2, 0, 1029), (1100186, 119, 3, 0, 1033), (1100190, 120, 0, 0, 1037), (1100194, 121, 1, 0, 1041), (1100198, 122, 1, 0, 1045), (1100012, 136, 0, 2, 1051), (1000001, 0, 0, 8, 1054), (1100017, 142, 5, 0, 1279), (1100022, 159, 2, 0, 1283), (1000208, 137, 3, 1, 1288), (1000227, 144, 0, 0, 1291), (1000186, 143, 0, 0, 1295), (1000316, 155, 0, 0, 1306), (1000278, 148, 1, 0, 1311), (1000230, 147, 1, 0, 1315), (1000223, 146, 1, 0, 1319), (1000233, 145, 0, 0, 1323), (1000252, 149, 2, 0, 1329), (1000319, 158, 0, 0, 1338), (1000322, 157, 0, 0, 1342), (1000311, 156, 0, 0, 1351), (1000298, 154, 0, 0, 1356), (1000269, 152, 0, 0, 1361), (1000249, 150, 0, 0, 1365), (1000256, 151, 4, 0, 1374), (1000272, 153, 0, 0, 1378), (1000325, 138, 1, 0, 1384), (1000329, 141, 2, 0, 1388), (1100027, 160, 0, 0, 1392), (1100035, 163, 2, 0, 1396), (1000337, 161, 1, 1, 1401), (1000342, 162, 1, 1, 1405), (1100040, 180, 4, 0, 1408), (1000400, 179, 1, 0, 1412), (1000396, 140, 1, 0, 1416), (1000403, 178, 1, 1, 1420), (1000367, 171, 1, 0, 1426), (1000358, 170, 2, 0, 1430), (1000410, 172, 4, 0, 1434), (1000361, 167, 3, 0, 1438), (1000345, 165, 3, 0, 1442), (1000349, 166, 2, 0, 1446), (1000364, 169, 3, 0, 1450), (1000352, 164, 1, 0, 1454), (1000355, 168, 2, 0, 1458), (1000370, 173, 4, 0, 1462), (1000376, 174, 3, 0, 1467), (1100045, 181, 3, 0, 1472), (1100049, 183, 4, 0, 1476), (1000418, 182, 4, 0, 1480), (1000389, 176, 4, 0, 1485), (1000384, 175, 1, 1, 1491), (1100054, 184, 5, 0, 1495), (1000422, 177, 5, 0, 1499), (1100058, 186, 5, 0, 1504), (1000426, 185, 4, 0, 1508), (1100062, 188, 3, 0, 1512), (1100066, 190, 5, 0, 1519), (1000437, 189, 3, 0, 1524), (1100070, 191, 4, 0, 1528), (1100075, 193, 3, 0, 1532), (1000442, 139, 0, 0, 1537), (1100080, 194, 1, 0, 1541), (1100088, 195, 1, 0, 1545), (1100093, 196, 1, 0, 1551), (1100084, 207, 1, 0, 1556), (1000489, 206, 0, 0, 1561), (1000492, 201, 0, 0, 1565), (1000495, 205, 1, 0, 1569), (1000484, 204, 4, 0, 1573), (1000475, 197, 1, 0, 1577), (1000478, 198, 2, 0, 1581), (1000481, 203, 2, 0, 1585), (1000460, 200, 1, 0, 1589), (1000451, 199, 1, 0, 1593), (1000469, 202, 1, 0, 1597), (1100098, 208, 2, 0, 1601), (1100103, 209, 1, 0, 1605), (1100031, 210, 2, 0, 1609), (1000499, 187, 1, 0, 1613), (1100107, 217, 4, 0, 1617), (1000520, 216, 2, 0, 1621), (1000513, 211, 0, 0, 1625), (1000524, 215, 1, 0, 1631), (1000510, 213, 0, 0, 1636), (1000527, 214, 3, 0, 1640), (1000502, 192, 2, 0, 1644), (1000505, 212, 0, 0, 1648), (1100111, 220, 3, 0, 1652), (1000531, 218, 2, 0, 1656), (1000534, 219, 1, 0, 1660), (1100115, 221, 3, 0, 1664), (1100120, 222, 2, 0, 1668), (1100124, 223, 2, 0, 1672), (1100128, 226, 1, 0, 1676), (1000544, 224, 1, 0, 1680), (1000548, 225, 2, 1, 1686), (1100132, 227, 3, 0, 1689), (1100136, 228, 1, 0, 1695), (1100140, 229, 0, 0, 1700), (1100144, 231, 3, 0, 1704), (1000563, 230, 2, 1, 1709), (1100149, 232, 4, 0, 1712), (1100153, 233, 5, 0, 1717), (1100157, 234, 4, 0, 1722), (1100161, 235, 4, 0, 1728), (1100165, 236, 2, 0, 1733), (1100169, 237, 4, 0, 1737), (1100173, 238, 2, 0, 1741), (1100177, 239, 1, 0, 1745), (1100181, 240, 2, 0, 1749), (1100185, 242, 2, 0, 1754), (1000582, 241, 0, 0, 1758), (1100189, 243, 3, 0, 1762), (1100193, 244, 0, 0, 1766), (1100197, 245, 1, 0, 1770), (1100201, 246, 1, 0, 1774)]
def am_KL : List (Nat × (Nat × Int × Nat)) := [(67, 1, 6364136223846793005, 847), (69, 1, 1442695040888963407, 848), (71, 1, 100, 849), (73, 1, 5, 850), (75, 1, 15, 851), (129, 0, 99999, 837), (100096, 1, 2000, 672), (100098, 1, 2, 677), (200013, 0, 40500, 563), (700045, 1, (-2), 832), (800071, 1, 6, 712), (800073, 1, 1000, 713), (800085, 1, 2880, 709), (800087, 1, 10, 725), (800099, 1, (-1), 738), (900206, 1, (-1), 662), (900261, 0, 99999, 658), (900266, 1, 100, 748), (900268, 1, 60, 749), (900270, 0, 999999, 754), (900315, 0, 999999999, 856), (900391, 1, 100000000000000, 949), (900400, 1, 10, 958), (900405, 1, 2000000000, 991), (900410, 0, (-2000000000), 999), (900411, 1, 2000, 1000), (1000193, 1, (-1), 1299), (1000204, 1, 97, 1300), (1000206, 1, 122, 1301), (1000212, 1, 27, 1302), (1000214, 1, 48, 1303), (1000216, 1, 57, 1304), (1000218, 0, 1000000, 1305), (1000236, 1, 168984, 1369), (1000238, 1, 6491892, 1370), (1000240, 1, 127274, 1371), (1000242, 1, 2968, 1372), (1000244, 1, 1170473, 1373), (1000263, 1, 1111, 1382), (1000265, 1, 423, 1383), (1000267, 1, 10631, 1360), (1000276, 1, 12384399, 1310), (1000282, 1, 311436, 1327), (1000284, 1, 11438892, 1328), (1000286, 1, 459383, 1333), (1000288, 1, 1077983065, 1334), (1000290, 1, 82528, 1335), (1000292, 1, 10334702, 1336), (1000294, 1, 47, 1337), (1000296, 1, 249, 1355), (1000301, 1, 326245, 1346), (1000303, 1, 276546, 1347), (1000305, 1, 315743, 1348), (1000307, 1, 13691, 1349), (1000309, 1, 139055, 1350), (1000314, 1, 5, 1287), (1000336, 0, 40500, 1404), (1000340, 1, 180, 1400), (1000374, 1, 2, 1471), (1000380, 1, 6, 1489), (1000382, 1, 1000, 1490), (1000387, 1, 2880, 1494), (1000393, 1, 10, 1503), (1000395, 0, 99999, 1423), (1000406, 1, 300, 1424), (1000408, 1, 100, 1425), (1000414, 1, 2000, 1466), (1000416, 1, 240, 1484), (1000429, 1, 99999, 1516), (1000431, 1, 99, 1517), (1000433, 1, 60, 1518), (1000435, 1, 999999, 1523), (1000440, 1, 39, 1536), (1000445, 1, 6364136223846793005, 1549), (1000447, 1, 1442695040888963407, 1550), (1000449, 1, 999999999, 1555), (1000487, 1, 96, 1560), (1000508, 1, 63, 1635), (1000516, 1, 12, 1629), (1000518, 1, 999, 1630), (1000540, 1, 100000000000000, 1684), (1000542, 1, 8, 1685), (1000552, 1, 20, 1693), (1000554, 1, 40, 1694), (1000556, 1, 9999, 1699), (1000561, 1, 400, 1708), (1000566, 1, 3, 1716), (1000568, 1, 23, 1721), (1000570, 1, 2000000000, 1726), (1000572, 0, 2000000000, 1727), (1000573, 0, (-2000000000), 1732), (1000577, 1, 24, 1753)]
def am_SL : List (Nat × (Nat × Nat)) := [(600104, 0, 469), (600108, 1, 526), (600115, 2, 527), (600124, 3, 533), (600128, 4, 534), (600133, 5, 535), (600137, 6, 536), (600141, 7, 537), (600149, 8, 568), (600154, 9, 569), (600158, 10, 570), (600162, 11, 571), (600166, 12, 572), (600168, 13, 573), (600196, 14, 586), (600198, 15, 591), (600200, 16, 592), (600202, 17, 593), (600204, 18, 594), (600206, 19, 595), (600194, 20, 601), (600186, 21, 602)]
def am_st : List String := ["wheel", "over", "under", "wide", "buckets", "deep", "slant", "at", "pond", "nail", "pace", "rub", "gate", "if", "not", "hour", "level", "flow", "day", "below", "and", "or"]
def am_sb : List (List Int) := [[119, 104, 101, 101, 108], [111, 118, 101, 114], [117, 110, 100, 101, 114], [119, 105, 100, 101], [98, 117, 99, 107, 101, 116, 115], [100, 101, 101, 112], [115, 108, 97, 110, 116], [97, 116], [112, 111, 110, 100], [110, 97, 105, 108], [112, 97, 99, 101], [114, 117, 98], [103, 97, 116, 101], [105, 102], [110, 111, 116], [104, 111, 117, 114], [108, 101, 118, 101, 108], [102, 108, 111, 119], [100, 97, 121], [98, 101, 108, 111, 119], [97, 110, 100], [111, 114]]
def am_NL : List (Nat × (Nat × Nat)) := [(300009, 7, 77), (300018, 6, 199), (800009, 1, 83), (900009, 5, 27), (900016, 2, 70), (900027, 7, 255), (900034, 0, 257), (900048, 4, 321), (900066, 3, 341), (1100007, 8, 19), (1100010, 9, 1049)]
def am_COP : List Nat := [23, 31, 75, 81, 87, 203, 261, 325, 329, 345, 349, 419, 423, 427, 430, 434, 438, 441, 445, 448, 452, 456, 460, 464, 468, 473, 477, 531, 541, 545, 549, 553, 558, 561, 567, 577, 581, 585, 590, 599, 606, 610, 616, 620, 624, 628, 632, 636, 640, 644, 650, 654, 657, 661, 666, 670, 676, 681, 685, 691, 695, 700, 704, 707, 717, 720, 724, 729, 733, 737, 743, 747, 753, 758, 763, 767, 771, 777, 780, 784, 788, 792, 796, 800, 804, 809, 815, 819, 822, 826, 830, 836, 842, 846, 855, 860, 864, 867, 871, 875, 879, 883, 887, 890, 894, 898, 901, 905, 912, 916, 920, 924, 928, 932, 936, 940, 944, 948, 953, 957, 961, 965, 969, 973, 978, 982, 986, 990, 994, 998, 1004, 1008, 1012, 1016, 1020, 1024, 1028, 1032, 1036, 1040, 1044, 1048, 1053, 1282, 1286, 1290, 1294, 1298, 1309, 1314, 1318, 1322, 1326, 1332, 1341, 1345, 1354, 1359, 1364, 1368, 1377, 1381, 1387, 1391, 1395, 1399, 1403, 1407, 1411, 1415, 1419, 1422, 1429, 1433, 1437, 1441, 1445, 1449, 1453, 1457, 1461, 1465, 1470, 1475, 1479, 1483, 1488, 1493, 1498, 1502, 1507, 1511, 1515, 1522, 1527, 1531, 1535, 1540, 1544, 1548, 1554, 1559, 1564, 1568, 1572, 1576, 1580, 1584, 1588, 1592, 1596, 1600, 1604, 1608, 1612, 1616, 1620, 1624, 1628, 1634, 1639, 1643, 1647, 1651, 1655, 1659, 1663, 1667, 1671, 1675, 1679, 1683, 1688, 1692, 1698, 1703, 1707, 1711, 1715, 1720, 1725, 1731, 1736, 1740, 1744, 1748, 1752, 1757, 1761, 1765, 1769, 1773, 1777]
def am_IM : List Nat := [65, 30, 19, 54, 8, 46, 0, 27, 23, 66, 31, 67, 133, 32, 33, 35, 20, 55, 47, 41, 38, 36, 40, 39, 37, 21, 9, 42, 43, 44, 45, 48, 49, 50, 2, 68, 69, 129, 22, 12, 10, 11, 70, 71, 130, 13, 15, 16, 14, 72, 73, 58, 59, 60, 74, 62, 75, 64, 76, 63, 77, 56, 78, 79, 57, 80, 134, 81, 82, 131, 5, 6, 4, 7, 29, 51, 52, 53, 83, 3, 84, 85, 86, 87, 90, 91, 128, 92, 95, 28, 1, 96, 88, 97, 89, 98, 99, 132, 24, 100, 101, 25, 26, 103, 104, 105, 106, 107, 108, 109, 110, 111, 112, 113, 114, 115, 116, 117, 118, 119, 120, 121, 122, 136, 142, 159, 144, 143, 155, 148, 147, 146, 145, 149, 158, 157, 156, 154, 152, 150, 151, 153, 138, 141, 160, 163, 180, 179, 140, 171, 170, 172, 167, 165, 166, 169, 164, 168, 173, 174, 181, 183, 182, 176, 184, 177, 186, 185, 188, 190, 189, 191, 193, 139, 194, 195, 196, 207, 206, 201, 205, 204, 197, 198, 203, 200, 199, 202, 208, 209, 210, 187, 217, 216, 211, 215, 213, 214, 192, 212, 220, 218, 219, 221, 222, 223, 226, 224, 227, 228, 229, 231, 232, 233, 234, 235, 236, 237, 238, 239, 240, 242, 241, 243, 244, 245, 246]
def am_SM : List Nat := [252, 248, 123, 250, 34, 18, 17, 124, 125, 61, 126, 249, 127, 247, 135, 93, 94, 102, 251, 137, 161, 162, 178, 175, 225, 230]
def am_SE : List Nat := [66, 31, 67, 32, 20, 55, 47, 21, 9, 48, 49, 50, 2, 68, 69, 22, 12, 10, 11, 70, 71, 13, 15, 16, 14, 72, 73, 58, 59, 74, 62, 75, 64, 76, 63, 77, 56, 79, 57, 80, 81, 82, 5, 29, 51, 83, 3, 84, 85, 86, 87, 28, 1, 88, 89, 98, 99, 24, 100, 25, 26, 103, 104, 105, 106, 107, 108, 109, 110, 111, 112, 115, 116, 117, 118, 119, 120, 121, 122, 142, 159, 160, 163, 180, 181, 183, 184, 186, 188, 190, 191, 193, 194, 195, 196, 207, 208, 209, 210, 217, 220, 221, 222, 223, 226, 227, 228, 229, 231, 232, 233, 234, 235, 236, 237, 238, 239, 240, 242, 243, 244, 245, 246]
def am_CO : List Nat := [65, 30, 19, 54, 8, 46, 0, 27, 252, 23, 248, 66, 31, 67, 123, 133, 32, 250, 33, 34, 35, 20, 55, 47, 41, 38, 36, 40, 39, 37, 21, 9, 18, 17, 42, 43, 44, 45, 48, 49, 50, 2, 68, 69, 129, 22, 12, 10, 11, 70, 71, 130, 124, 125, 13, 15, 16, 14, 72, 73, 58, 59, 60, 61, 74, 126, 62, 249, 75, 64, 76, 63, 77, 56, 78, 79, 57, 80, 127, 134, 81, 82, 131, 5, 6, 4, 7, 29, 247, 51, 52, 53, 83, 3, 84, 85, 86, 135, 87, 90, 91, 128, 92, 93, 95, 28, 94, 1, 96, 88, 97, 89, 98, 99, 132, 24, 100, 101, 25, 26, 102, 103, 104, 105, 106, 107, 108, 109, 251, 110, 111, 112, 113, 114, 115, 116, 117, 118, 119, 120, 121, 122, 136, 142, 159, 137, 144, 143, 155, 148, 147, 146, 145, 149, 158, 157, 156, 154, 152, 150, 151, 153, 138, 141, 160, 163, 161, 162, 180, 179, 140, 178, 171, 170, 172, 167, 165, 166, 169, 164, 168, 173, 174, 181, 183, 182, 176, 175, 184, 177, 186, 185, 188, 190, 189, 191, 193, 139, 194, 195, 196, 207, 206, 201, 205, 204, 197, 198, 203, 200, 199, 202, 208, 209, 210, 187, 217, 216, 211, 215, 213, 214, 192, 212, 220, 218, 219, 221, 222, 223, 226, 224, 225, 227, 228, 229, 231, 230, 232, 233, 234, 235, 236, 237, 238, 239, 240, 242, 241, 243, 244, 245, 246]
def am_PV : List Nat := [133, 33, 35, 41, 38, 36, 40, 39, 37, 42, 43, 44, 45, 129, 130, 60, 78, 134, 131, 6, 4, 7, 52, 53, 90, 91, 128, 92, 95, 96, 97, 132, 101, 113, 114, 144, 143, 155, 148, 147, 146, 145, 149, 158, 157, 156, 154, 152, 150, 151, 153, 138, 141, 179, 140, 171, 170, 172, 167, 165, 166, 169, 164, 168, 173, 174, 182, 176, 177, 185, 189, 139, 206, 201, 205, 204, 197, 198, 203, 200, 199, 202, 187, 216, 211, 215, 213, 214, 192, 212, 218, 219, 224, 241]
def am_IN : List Nat := [11, 9, 6, 3, 8, 1, 7, 0, 5, 13, 4, 12, 10, 2]
def am_IS : List Nat := [8, 5, 2, 7, 1, 6, 0, 4, 3, 9]
def am_P0 : List Nat := [290, 292, 294, 296, 298, 300, 302, 304, 306, 308, 310, 312, 314, 316]
def am_P1 : List Nat := [110, 112, 114, 116, 118, 120, 122, 124, 126, 128, 130, 132, 134, 136, 138]
def am_P2 : List Nat := [244, 246, 248, 250, 252]
def am_P3 : List Nat := [354, 356, 358]
def am_P4 : List Nat := [334, 336, 338]
def am_P5 : List Nat := [46, 48, 50, 52, 54, 56, 58, 60, 62, 64, 66]
def am_P6 : List Nat := [212, 214, 216, 218, 220, 222]
def am_P7 : List Nat := [178, 180, 182, 184, 186, 188, 190, 192, 194, 196]
def am_P8 : List Nat := [379, 381, 383, 385, 387, 389, 391, 393, 395, 397, 399, 401, 403, 405, 407, 409, 411, 413]
def am_P9 : List Nat := [1129, 1131, 1133, 1135, 1137, 1139, 1141, 1143, 1145, 1147, 1149, 1151, 1153, 1155, 1157, 1159, 1161, 1163, 1165, 1167, 1169, 1171, 1173, 1175, 1177, 1179, 1181, 1183, 1185, 1187, 1189, 1191, 1193, 1195, 1197, 1199, 1201, 1203, 1205, 1207, 1209, 1211, 1213, 1215, 1217, 1219, 1221, 1223, 1225, 1227, 1229, 1231, 1233, 1235, 1237, 1239, 1241, 1243, 1245, 1247, 1249, 1251, 1253, 1255, 1257, 1259, 1261, 1263, 1265, 1267, 1269, 1271, 1273, 1275]
abbrev am_pLen : Nat := 481
abbrev am_pChr : Nat := 491
abbrev am_pCod : Nat := 485
abbrev am_pLat : Nat := 495
abbrev am_pL1c : Nat := 498
abbrev am_pChk : Nat := 501
abbrev am_pPre : Nat := 506
def am_PL : List Nat := [133, 33, 35, 41, 38, 36, 40, 39, 37, 42, 43, 44, 45, 129, 130, 60, 78, 134, 131, 6, 4, 7, 52, 53, 90, 91, 128, 92, 95, 96, 97, 132, 101, 113, 114, 144, 143, 155, 148, 147, 146, 145, 149, 158, 157, 156, 154, 152, 150, 151, 153, 138, 141, 179, 140, 171, 170, 172, 167, 165, 166, 169, 164, 168, 173, 174, 182, 176, 177, 185, 189, 139, 206, 201, 205, 204, 197, 198, 203, 200, 199, 202, 187, 216, 211, 215, 213, 214, 192, 212, 218, 219, 224, 241]
abbrev am_privN : Nat := 94
end
section
/-! what the tables' words say of the program as data: checked by the kernel -/
def am_sub : List Cond → List Cond → Bool
  | [], _ => true
  | _ :: _, [] => false
  | w :: ws, t :: ts => if w = t then am_sub ws ts else am_sub (w :: ws) ts
theorem am_sub_mem : ∀ (ws ts : List Cond), am_sub ws ts = true → ∀ w ∈ ws, w ∈ ts
  | [], _, _ => fun w h => absurd h List.not_mem_nil
  | w :: ws, [], h => by simp [am_sub] at h
  | w :: ws, t :: ts, h => by
    unfold am_sub at h
    split at h
    · rename_i e
      intro x hx
      rcases List.mem_cons.mp hx with rfl | hx
      · rw [e]; exact List.mem_cons_self
      · exact List.mem_cons_of_mem _ (am_sub_mem ws ts h x hx)
    · intro x hx
      exact List.mem_cons_of_mem _ (am_sub_mem (w :: ws) ts h x hx)
def LW : List Cond := lw_tbl.filter goodWord
theorem LW_of {w : Cond} (h : w ∈ tables_1) (hg : goodWord w = true) : w ∈ LW := List.mem_filter.mpr ⟨List.mem_append_right _ h, hg⟩
theorem LW_good {w : Cond} (h : w ∈ LW) : (w.onTables && w.keeps) = true ∨ ∃ ty, w = .arrayClass ty := good_of_word (List.mem_filter.mp h).2
theorem am_lk_mem {α : Type} {k : Nat} {e : α} : ∀ {L : List (Nat × α)}, am_lk k L = some e → (k, e) ∈ L
  | [], h => by simp [am_lk] at h
  | (a, b) :: t, h => by
    unfold am_lk at h
    split at h
    · rename_i ha; cases h; rw [ha]; exact List.mem_cons_self
    · exact List.mem_cons_of_mem _ (am_lk_mem h)
def am_T (c : Nat) : u_T := ((am_cl)[c]?.getD ("", am_T0, 0)).2.1
def am_nm (c : Nat) : String := ((am_cl)[c]?.getD ("", am_T0, 0)).1
def w_F (q : Nat × (Nat × Nat × Nat × Bool × Nat)) : Cond := .fieldLink (am_cn (q.1 / 100000)) (q.1 % 100000) (am_T q.2.1 q.2.2.1).1 (am_T q.2.1 q.2.2.1).2.1 (am_T q.2.1 q.2.2.1).2.2.1
theorem F_words : am_sub (am_FL.map w_F) tables_1 = true := by decide +kernel
theorem F_ok : (am_FL.all fun q => decide (q.2.1 ≤ 9 ∧ q.2.2.1 < am_nf q.2.1 ∧ am_ft q.2.1 q.2.2.1 = q.2.2.2.1 ∧ (am_T q.2.1 q.2.2.1).2.2.2 = q.2.2.2.2.1 ∧ (am_T q.2.1 q.2.2.1).1 = am_nm q.2.1)) = true := by decide +kernel
def w_C (q : Nat × (Nat × Nat × Nat × Nat)) : Cond := match q.2.2.2.1 with
  | 3 => .methodLinkNest (am_cn (q.1 / 100000)) (q.1 % 100000) (am_y q.2.1) "MillRow"
  | 5 => .methodLinkNest (am_cn (q.1 / 100000)) (q.1 % 100000) (am_y q.2.1) "MillRow"
  | 4 => .methodLink (am_cn (q.1 / 100000)) (q.1 % 100000) arraycopyName
  | 6 => .methodLink (am_cn (q.1 / 100000)) (q.1 % 100000) ⟨"java/lang/String", "length", "()I"⟩
  | 7 => .methodLink (am_cn (q.1 / 100000)) (q.1 % 100000) ⟨"java/lang/String", "charAt", "(I)C"⟩
  | 8 => .methodLink (am_cn (q.1 / 100000)) (q.1 % 100000) objectInit
  | _ => .methodLink (am_cn (q.1 / 100000)) (q.1 % 100000) (am_y q.2.1)
theorem C_words : am_sub (am_CL.map w_C) tables_1 = true := by decide +kernel
theorem IM_words : am_sub (am_IM.map fun k => .instanceMethod (am_y k)) tables_1 = true := by decide +kernel
theorem SM_words : am_sub (am_SM.map fun k => .static (am_y k)) tables_1 = true := by decide +kernel
theorem SE_words : am_sub (am_SE.map fun k => .selects (am_y k).cls (am_y k) (am_y k)) tables_1 = true := by decide +kernel
theorem IN_words : am_sub (am_IN.map fun c => .initialized (am_cn c)) tables_1 = true := by decide +kernel
theorem IS_words : am_sub (am_IS.map fun c => .instantiable (am_nm c) (am_nf c)) tables_1 = true := by decide +kernel
theorem PL_words : lw_privs.map (fun q => q.1) = am_PL.map am_y := by decide +kernel
theorem C_ok : (am_CL.all fun q => decide ((q.2.2.2.1 ≤ 3 ∨ q.2.2.2.1 = 5) → q.2.1 ∈ am_CO ∧ am_own q.2.1 ∈ am_IN ∧ (am_y q.2.1).cls = am_cn (am_own q.2.1) ∧ (am_y q.2.1).cls ≠ "java/lang/invoke/MethodHandle" ∧ (am_y q.2.1).cls ≠ "java/lang/invoke/VarHandle" ∧ (parseMethodDescriptor (am_y q.2.1).desc).map (fun d => d.parameters.length) = some q.2.2.1 ∧
    (q.2.2.2.1 = 0 → q.2.1 ∈ am_IM ∧ (q.2.1 ∈ am_SE ∨ q.2.1 ∈ am_PL) ∧ am_kd (am_own q.2.1) ≤ 9 ∧ am_nm (am_kd (am_own q.2.1)) = (am_y q.2.1).cls) ∧ ((q.2.2.2.1 = 1 ∨ q.2.2.2.1 = 5) → q.2.1 ∈ am_SM) ∧ ((q.2.2.2.1 = 2 ∨ q.2.2.2.1 = 3) → q.2.1 ∈ am_IM ∧ (am_y q.2.1).name = "<init>" ∧ am_rc q.2.1 = 0 ∧ am_ret q.2.1 = none))) = true := by decide +kernel
theorem M_ok : (am_CO.all fun k => decide (am_maxL k ≤ 41 ∧ (am_y k).cls = am_cn (am_own k) ∧ (am_isI k = true → (am_y k).name = "<init>") ∧ (am_rc k = 0 → am_ret k = none) ∧ (am_rc k = 1 → am_ret k = some .int) ∧ (am_rc k = 2 → am_ret k = some .boolean) ∧ (am_rc k = 3 → am_ret k = some .long) ∧ (am_rc k = 4 → ((match am_ret k with | some (.object _) => true | some (.array _) => true | _ => false) = true)))) = true := by decide +kernel
def w_K (q : Nat × (Nat × Int × Nat)) : Cond := if q.2.1 = 0 then .constant (am_cn (q.1 / 100000)) (q.1 % 100000) (Int32.ofInt q.2.2.1) else .constantLong (am_cn (q.1 / 100000)) (q.1 % 100000) (Int64.ofInt q.2.2.1)
theorem K_in : ∀ q ∈ am_KL.map w_K, q ∈ tables_1 := by decide +kernel
theorem K_ok : (am_KL.all fun q => decide ((q.2.1 = 0 → -2147483648 ≤ q.2.2.1 ∧ q.2.2.1 < 2147483648) ∧ (-9223372036854775808 ≤ q.2.2.1 ∧ q.2.2.1 < 9223372036854775808))) = true := by decide +kernel
def w_N (q : Nat × (Nat × Nat)) : Cond := .classLink (am_cn (q.1 / 100000)) (q.1 % 100000) (am_nm q.2.1)
theorem N_in : ∀ q ∈ am_NL.map w_N, q ∈ tables_1 := by decide +kernel
theorem N_ok : (am_NL.all fun q => decide (q.2.1 ≤ 9 ∧ q.2.1 ∈ am_IS)) = true := by decide +kernel
theorem IS_ini : (am_IS.all fun c => decide (Cond.initialized (am_nm c) ∈ tables_1)) = true := by decide +kernel
theorem arr_in : Cond.arrayClass .int ∈ tables_1 ∧ Cond.arrayClass .long ∈ tables_1 ∧ Cond.arrayClass .boolean ∈ tables_1 ∧ Cond.arrayClass .byte ∈ tables_1 ∧ Cond.arrayOver (.object "MillRow$Mill") ∈ tables_1 ∧ Cond.arrayOver (.object "MillRow$Brook") ∈ tables_1 := by decide +kernel
theorem cp_in : Cond.native arraycopyName ∈ tables_1 ∧ Cond.static arraycopyName ∈ tables_1 ∧ Cond.initialized "java/lang/System" ∈ tables_1 := by decide +kernel
theorem ob_in : Cond.instanceMethod objectInit ∈ tables_1 ∧ Cond.code objectInit ⟨#[0xb1]⟩ 1 none ∈ tables_1 := by decide +kernel
theorem sh_ok : (List.range 218).all (fun i => decide (am_sh (i : Int) ≤ 15 ∧ am_cs ((i : Int) + 1) = am_cs (i : Int) + (am_ln (i : Int)).toNat ∧ (am_ln (i : Int)).toNat ≤ 4000)) = true := by decide +kernel
theorem PF_ok : (am_CO.all fun k => decide (plainFor (am_y k) = true)) = true := by decide +kernel
end
section
set_option maxRecDepth 100000 in
set_option maxHeartbeats 4000000 in
theorem CO_words : am_CO.map (fun k => Cond.code (am_y k) (am_code k) (am_maxL k) (am_ret k)) = am_COP.filterMap (fun i => tables_1[i]?) := rfl
end
section
/-! A MACHINE OF NUMBERS: values are (kind, number): 0 int, 1 long, 2 reference (-1 null, else the object's number; texts from 1000000 on; -5 the script). The heap: numbers g and references r, by object and place. -/
abbrev AV : Type := Nat × Int
abbrev GH : Type := Int → Int → Int
abbrev SCR : Type := Int × (Int → Int)
abbrev CTR : Type := Nat → List AV → GH → GH → Int → (Int → GH → GH → Int → Prop) → Prop
abbrev XT : Type := Nat → List AV → List AV → GH → GH → Int → Prop
def wr (x : Int) : Int := (Int32.ofInt x).toInt
def wL (x : Int) : Int := (Int64.ofInt x).toInt
def up (f : GH) (i j v : Int) : GH := fun a b => if a = i ∧ b = j then v else f a b
def cpy (f : GH) (s sp d dp n : Int) : GH := fun a b => if a = d ∧ dp ≤ b ∧ b < dp + n then f s (sp + (b - dp)) else f a b
def okr (n x : Int) (c : Nat) : Prop := 0 ≤ x ∧ x < n ∧ am_sh x = c
def okI (n x : Int) (c : Nat) (j : Int) : Prop := okr n x c ∧ 0 ≤ j ∧ j < am_ln x
def fresh (g r : GH) (n : Int) : Prop := ∀ j : Int, g n j = 0 ∧ r n j = -1
def am_p (t : Nat) (st : List AV) (f : Int → List AV → Prop) : Prop := match st with
  | [] => False
  | v :: s => if v.1 = t then f v.2 s else False
def am_p2 (t u : Nat) (st : List AV) (f : Int → Int → List AV → Prop) : Prop := am_p u st fun y s => am_p t s fun x s2 => f x y s2
def am_ld (ls : List AV) (i t : Nat) (f : Int → Prop) : Prop := match ls[i]? with
  | none => False
  | some v => if v.1 = t then f v.2 else False
def am_kill (ls : List AV) (i : Nat) : List AV := match i with
  | 0 => ls
  | j + 1 => match ls[j]? with
    | some (1, _) => ls.set j (9, 0)
    | _ => ls
def am_st1 (ls : List AV) (i : Nat) (v : AV) : List AV := (am_kill ls i).set i v
def am_st2 (ls : List AV) (i : Nat) (v : AV) : List AV := ((am_kill ls i).set i v).set (i + 1) (8, 0)
def am_len (a b : Nat) (q : Prop) : Prop := if a = b then q else False
def am_b (b : Bool) (q : Prop) : Prop := if b = true then q else False
def am_j (pc : Nat) (off : Int) (f : Nat → Prop) : Prop := if 0 ≤ (pc : Int) + off then f ((pc : Int) + off).toNat else False
def am_tsw (f : Int → Prop) (d : Int) (x : Int) : Int → List Int → Prop
  | _, [] => f d
  | lo, o :: os => if x = lo then f o else am_tsw f d x (lo + 1) os
def am_popN : Nat → List AV → (List AV → List AV → Prop) → Prop
  | 0, st, f => f [] st
  | m + 1, st, f => match st with
    | [] => False
    | v :: s => am_popN m s fun as s2 => f (as ++ [v]) s2
def am_cat (st : List AV) : Nat := (st.map fun v => if v.1 = 1 then 2 else 1).sum
def am_lay : List AV → List AV
  | [] => []
  | v :: t => if v.1 = 1 then v :: (8, 0) :: am_lay t else v :: am_lay t
def am_ent (n : Nat) (as : List AV) : List AV := am_lay as ++ List.replicate (n - (am_lay as).length) (9, 0)
def am_push (rc : Nat) (v : Int) (s : List AV) : List AV := if rc = 0 then s else if rc = 3 then (1, v) :: s else if rc = 4 then (2, v) :: s else (0, v) :: s
def am_tag (ty : Nat) : Nat := if ty = 1 then 1 else if ty = 2 then 2 else 0
def am_key (k idx : Nat) : Nat := am_own k * 100000 + idx
def am_at {α : Type} (k idx : Nat) (L : List (Nat × α)) : Option α := if idx < 100000 then am_lk (am_key k idx) L else none
def i_shl (x y : Int) : Int := (Int32.ofInt x <<< (Int32.ofInt y &&& 31)).toInt
def i_shr (x y : Int) : Int := (Int32.ofInt x >>> (Int32.ofInt y &&& 31)).toInt
def i_and (x y : Int) : Int := (Int32.ofInt x &&& Int32.ofInt y).toInt
def i_or (x y : Int) : Int := (Int32.ofInt x ||| Int32.ofInt y).toInt
def i_xor (x y : Int) : Int := (Int32.ofInt x ^^^ Int32.ofInt y).toInt
def i_b (x : Int) : Int := (Int32.ofInt x).toInt8.toInt32.toInt
def l_and (x y : Int) : Int := (Int64.ofInt x &&& Int64.ofInt y).toInt
def l_or (x y : Int) : Int := (Int64.ofInt x ||| Int64.ofInt y).toInt
def l_xor (x y : Int) : Int := (Int64.ofInt x ^^^ Int64.ofInt y).toInt
def l_shl (x y : Int) : Int := (Int64.ofInt x <<< ((Int32.ofInt y).toInt64 &&& 63)).toInt
def l_shr (x y : Int) : Int := (Int64.ofInt x >>> ((Int32.ofInt y).toInt64 &&& 63)).toInt
def l_ushr (x y : Int) : Int := ((Int64.ofInt x).toUInt64 >>> ((Int32.ofInt y).toInt64.toUInt64 &&& Int64.toUInt64 63)).toInt64.toInt
def cmpL (x y : Int) : Int := if y < x then 1 else if x = y then 0 else -1
def am_tx (s : Int) : List Int := am_sb.getD (s - 1000000).toNat []
def okT (s : Int) : Prop := 1000000 ≤ s ∧ s < 1000022
section AM
variable (sc : SCR) (d : Nat) (C : CTR) (k : Nat) (n0 : Int) (Q : Int → GH → GH → Int → Prop) (X : XT)
def cellsOK (c : Nat) (n : Int) : Prop := am_mk c ≠ 0 → n + am_mk c ≤ n0 + am_mk k
def stCall (pc : Nat) (ls st : List AV) (g r : GH) (n : Int) (e : Nat × Nat × Nat × Nat) : Prop := match e.2.2.1 with
  | 0 => am_popN e.2.1 st fun as s => am_p 2 s fun x s2 => okr n x (am_kd (am_own e.1)) ∧ am_cat s2 ≤ 8 ∧ cellsOK k n0 e.1 n ∧ C e.1 ((2, x) :: as) g r n fun v g2 r2 n2 => X (pc + 3) ls (am_push (am_rc e.1) v s2) g2 r2 n2
  | 1 => am_popN e.2.1 st fun as s2 => am_cat s2 ≤ 8 ∧ cellsOK k n0 e.1 n ∧ C e.1 as g r n fun v g2 r2 n2 => X (pc + 3) ls (am_push (am_rc e.1) v s2) g2 r2 n2
  | 2 => am_popN e.2.1 st fun as s => am_p 2 s fun x s2 => 0 ≤ x ∧ x < 1000000 ∧ am_cat s2 ≤ 8 ∧ cellsOK k n0 e.1 n ∧ C e.1 ((2, x) :: as) g r n fun v g2 r2 n2 => X (pc + 3) ls (am_push (am_rc e.1) v s2) g2 r2 n2
  | 3 => am_popN e.2.1 st fun as s => am_p 2 s fun x s2 => 0 ≤ x ∧ x < 1000000 ∧ am_cat s2 ≤ 8 ∧ cellsOK k n0 e.1 n ∧ C e.1 ((2, x) :: as) g r n fun v g2 r2 n2 => X (pc + 3) ls (am_push (am_rc e.1) v s2) g2 r2 n2
  | 4 => am_p2 0 0 st fun dp len s => am_p2 0 2 s fun sp dst s2 => am_p 2 s2 fun src s3 => am_cat s3 ≤ 8 ∧ 0 ≤ sp ∧ 0 ≤ dp ∧ 0 ≤ len ∧ sp + len ≤ am_ln src ∧ dp + len ≤ am_ln dst ∧ ((okr n src 11 ∧ okr n dst 11) ∨ (okr n src 12 ∧ okr n dst 12)) ∧ X (pc + 3) ls s3 (cpy g src sp dst dp len) r n
  | 5 => am_popN e.2.1 st fun as s2 => am_cat s2 ≤ 8 ∧ cellsOK k n0 e.1 n ∧ C e.1 as g r n fun v g2 r2 n2 => X (pc + 3) ls (am_push (am_rc e.1) v s2) g2 r2 n2
  | 6 => am_p 2 st fun x s => am_cat s ≤ 8 ∧ 3 ≤ d ∧ okT x ∧ X (pc + 3) ls ((0, ((am_tx x).length : Int)) :: s) g r n
  | 7 => am_p2 2 0 st fun x j s => am_cat s ≤ 8 ∧ 3 ≤ d ∧ okT x ∧ 0 ≤ j ∧ j < ((am_tx x).length : Int) ∧ X (pc + 3) ls ((0, (am_tx x).getD j.toNat 0) :: s) g r n
  | 8 => am_p 2 st fun x s => 0 ≤ x ∧ x < 1000000 ∧ am_cat s ≤ 8 ∧ X (pc + 3) ls s g r n
  | _ => False
def stArr (pc : Nat) (ls st : List AV) (g r : GH) (n : Int) (kd : Nat) : Prop := am_p 0 st fun x s => 0 ≤ x ∧ am_sh n = kd ∧ am_ln n = x ∧ n < n0 + am_mk k ∧ fresh g r n ∧ X (pc + 2) ls ((2, n) :: s) g r (n + 1)
def stI (pc : Nat) (ls st : List AV) (g r : GH) (n : Int) (i : Instr) (len : Nat) : Prop := match i with
  | .iconst v => am_len len 1 (am_b (decide (-128 ≤ v ∧ v < 128)) (X (pc + 1) ls ((0, v) :: st) g r n))
  | .bipush v => am_len len 2 (am_b (decide (-128 ≤ v ∧ v < 128)) (X (pc + 2) ls ((0, v) :: st) g r n))
  | .sipush v => am_len len 3 (am_b (decide (-32768 ≤ v ∧ v < 32768)) (X (pc + 3) ls ((0, v) :: st) g r n))
  | .lconst v => am_len len 1 (X (pc + 1) ls ((1, ((v : Nat) : Int)) :: st) g r n)
  | .aconst_null => am_len len 1 (X (pc + 1) ls ((2, -1) :: st) g r n)
  | .iload_n j => am_len len 1 (am_ld ls j 0 fun v => X (pc + 1) ls ((0, v) :: st) g r n)
  | .iload j => am_len len 2 (am_ld ls j 0 fun v => X (pc + 2) ls ((0, v) :: st) g r n)
  | .lload_n j => am_len len 1 (am_ld ls j 1 fun v => X (pc + 1) ls ((1, v) :: st) g r n)
  | .lload j => am_len len 2 (am_ld ls j 1 fun v => X (pc + 2) ls ((1, v) :: st) g r n)
  | .aload_n j => am_len len 1 (am_ld ls j 2 fun v => X (pc + 1) ls ((2, v) :: st) g r n)
  | .aload j => am_len len 2 (am_ld ls j 2 fun v => X (pc + 2) ls ((2, v) :: st) g r n)
  | .istore_n j => am_len len 1 (am_b (decide ((j : Nat) < am_maxL k)) (am_p 0 st fun v s => X (pc + 1) (am_st1 ls j (0, v)) s g r n))
  | .istore j => am_len len 2 (am_b (decide (j < am_maxL k)) (am_p 0 st fun v s => X (pc + 2) (am_st1 ls j (0, v)) s g r n))
  | .astore_n j => am_len len 1 (am_b (decide ((j : Nat) < am_maxL k)) (am_p 2 st fun v s => X (pc + 1) (am_st1 ls j (2, v)) s g r n))
  | .astore j => am_len len 2 (am_b (decide (j < am_maxL k)) (am_p 2 st fun v s => X (pc + 2) (am_st1 ls j (2, v)) s g r n))
  | .lstore_n j => am_len len 1 (am_b (decide ((j : Nat) + 1 < am_maxL k)) (am_p 1 st fun v s => X (pc + 1) (am_st2 ls j (1, v)) s g r n))
  | .lstore j => am_len len 2 (am_b (decide (j + 1 < am_maxL k)) (am_p 1 st fun v s => X (pc + 2) (am_st2 ls j (1, v)) s g r n))
  | .iinc j c => am_len len 3 (am_b (decide (j < am_maxL k)) (am_ld ls j 0 fun v => X (pc + 3) (am_st1 ls j (0, wr (v + c))) st g r n))
  | .dup => am_len len 1 (match st with
    | v :: s => if v.1 = 1 then False else X (pc + 1) ls (v :: v :: s) g r n
    | _ => False)
  | .dup2 => am_len len 1 (match st with
    | v :: w :: s => if v.1 = 1 then False else if w.1 = 1 then False else X (pc + 1) ls (v :: w :: v :: w :: s) g r n
    | _ => False)
  | .pop => am_len len 1 (match st with
    | v :: s => if v.1 = 1 then False else X (pc + 1) ls s g r n
    | _ => False)
  | .pop2 => am_len len 1 (am_p 1 st fun _ s => X (pc + 1) ls s g r n)
  | .iadd => am_len len 1 (am_p2 0 0 st fun x y s => X (pc + 1) ls ((0, wr (x + y)) :: s) g r n)
  | .isub => am_len len 1 (am_p2 0 0 st fun x y s => X (pc + 1) ls ((0, wr (x - y)) :: s) g r n)
  | .imul => am_len len 1 (am_p2 0 0 st fun x y s => X (pc + 1) ls ((0, wr (x * y)) :: s) g r n)
  | .idiv => am_len len 1 (am_p2 0 0 st fun x y s => y ≠ 0 ∧ X (pc + 1) ls ((0, wr (x.tdiv y)) :: s) g r n)
  | .irem => am_len len 1 (am_p2 0 0 st fun x y s => y ≠ 0 ∧ X (pc + 1) ls ((0, x.tmod y) :: s) g r n)
  | .ineg => am_len len 1 (am_p 0 st fun x s => X (pc + 1) ls ((0, wr (-x)) :: s) g r n)
  | .ishl => am_len len 1 (am_p2 0 0 st fun x y s => X (pc + 1) ls ((0, i_shl x y) :: s) g r n)
  | .ishr => am_len len 1 (am_p2 0 0 st fun x y s => X (pc + 1) ls ((0, i_shr x y) :: s) g r n)
  | .iand => am_len len 1 (am_p2 0 0 st fun x y s => X (pc + 1) ls ((0, i_and x y) :: s) g r n)
  | .ior => am_len len 1 (am_p2 0 0 st fun x y s => X (pc + 1) ls ((0, i_or x y) :: s) g r n)
  | .ixor => am_len len 1 (am_p2 0 0 st fun x y s => X (pc + 1) ls ((0, i_xor x y) :: s) g r n)
  | .i2b => am_len len 1 (am_p 0 st fun x s => X (pc + 1) ls ((0, i_b x) :: s) g r n)
  | .i2l => am_len len 1 (am_p 0 st fun x s => X (pc + 1) ls ((1, x) :: s) g r n)
  | .l2i => am_len len 1 (am_p 1 st fun x s => X (pc + 1) ls ((0, wr x) :: s) g r n)
  | .ladd => am_len len 1 (am_p2 1 1 st fun x y s => X (pc + 1) ls ((1, wL (x + y)) :: s) g r n)
  | .lsub => am_len len 1 (am_p2 1 1 st fun x y s => X (pc + 1) ls ((1, wL (x - y)) :: s) g r n)
  | .lmul => am_len len 1 (am_p2 1 1 st fun x y s => X (pc + 1) ls ((1, wL (x * y)) :: s) g r n)
  | .ldiv => am_len len 1 (am_p2 1 1 st fun x y s => y ≠ 0 ∧ X (pc + 1) ls ((1, wL (x.tdiv y)) :: s) g r n)
  | .lrem => am_len len 1 (am_p2 1 1 st fun x y s => y ≠ 0 ∧ X (pc + 1) ls ((1, x.tmod y) :: s) g r n)
  | .land => am_len len 1 (am_p2 1 1 st fun x y s => X (pc + 1) ls ((1, l_and x y) :: s) g r n)
  | .lor => am_len len 1 (am_p2 1 1 st fun x y s => X (pc + 1) ls ((1, l_or x y) :: s) g r n)
  | .lxor => am_len len 1 (am_p2 1 1 st fun x y s => X (pc + 1) ls ((1, l_xor x y) :: s) g r n)
  | .lshl => am_len len 1 (am_p2 1 0 st fun x y s => X (pc + 1) ls ((1, l_shl x y) :: s) g r n)
  | .lshr => am_len len 1 (am_p2 1 0 st fun x y s => X (pc + 1) ls ((1, l_shr x y) :: s) g r n)
  | .lushr => am_len len 1 (am_p2 1 0 st fun x y s => X (pc + 1) ls ((1, l_ushr x y) :: s) g r n)
  | .lcmp => am_len len 1 (am_p2 1 1 st fun x y s => X (pc + 1) ls ((0, cmpL x y) :: s) g r n)
  | .goto o => am_len len 3 (am_j pc o fun t => X t ls st g r n)
  | .ifCond c o => am_len len 3 (am_p 0 st fun x s => am_j pc o fun t => match c with
    | .eq => if x = 0 then X t ls s g r n else X (pc + 3) ls s g r n
    | .ne => if x = 0 then X (pc + 3) ls s g r n else X t ls s g r n
    | .lt => if x < 0 then X t ls s g r n else X (pc + 3) ls s g r n
    | .ge => if x < 0 then X (pc + 3) ls s g r n else X t ls s g r n
    | .gt => if 0 < x then X t ls s g r n else X (pc + 3) ls s g r n
    | .le => if 0 < x then X (pc + 3) ls s g r n else X t ls s g r n)
  | .if_icmp c o => am_len len 3 (am_p2 0 0 st fun x y s => am_j pc o fun t => match c with
    | .eq => if x = y then X t ls s g r n else X (pc + 3) ls s g r n
    | .ne => if x = y then X (pc + 3) ls s g r n else X t ls s g r n
    | .lt => if x < y then X t ls s g r n else X (pc + 3) ls s g r n
    | .ge => if x < y then X (pc + 3) ls s g r n else X t ls s g r n
    | .gt => if y < x then X t ls s g r n else X (pc + 3) ls s g r n
    | .le => if y < x then X (pc + 3) ls s g r n else X t ls s g r n)
  | .ifnull o => am_len len 3 (am_p 2 st fun x s => am_j pc o fun t => if x = -1 then X t ls s g r n else X (pc + 3) ls s g r n)
  | .ifnonnull o => am_len len 3 (am_p 2 st fun x s => am_j pc o fun t => if x = -1 then X (pc + 3) ls s g r n else X t ls s g r n)
  | .tableswitch dflt lo hi offs => am_p 0 st fun x s => hi + 1 = lo + (offs.size : Int) ∧ am_tsw (fun o => am_j pc o fun t => X t ls s g r n) dflt x lo offs.toList
  | .ldc idx => am_len len 2 (match am_at k idx am_SL with
    | some e => X (pc + 2) ls ((2, 1000000 + (e.1 : Int)) :: st) g r n
    | none => match am_at k idx am_KL with
      | some e => if e.1 = 0 then X (pc + 2) ls ((0, e.2.1) :: st) g r n else False
      | none => False)
  | .ldc_w idx => am_len len 3 (match am_at k idx am_KL with
      | some e => if e.1 = 0 then X (pc + 3) ls ((0, e.2.1) :: st) g r n else False
      | none => False)
  | .ldc2_w idx => am_len len 3 (match am_at k idx am_KL with
      | some e => if e.1 = 1 then X (pc + 3) ls ((1, e.2.1) :: st) g r n else False
      | none => False)
  | .getfield idx => am_len len 3 (match am_at k idx am_FL with
      | some e => am_p 2 st fun x s => okr n x e.1 ∧ X (pc + 3) ls ((am_tag e.2.2.1, if e.2.2.1 = 2 then r x (e.2.1 : Int) else g x (e.2.1 : Int)) :: s) g r n
      | none => False)
  | .putfield idx => am_len len 3 (match am_at k idx am_FL with
      | some e => am_p2 2 (am_tag e.2.2.1) st fun x v s => okr n x e.1 ∧ (e.2.2.2.1 = true → am_isI k = true ∧ am_kd (am_own k) = e.1) ∧ (if e.2.2.1 = 2 then X (pc + 3) ls s g (up r x (e.2.1 : Int) v) n else if e.2.2.1 = 3 then (v = 0 ∨ v = 1) ∧ X (pc + 3) ls s (up g x (e.2.1 : Int) v) r n else X (pc + 3) ls s (up g x (e.2.1 : Int) v) r n)
      | none => False)
  | .iaload => am_len len 1 (am_p2 2 0 st fun x j s => if x = -5 then 0 ≤ j ∧ j < sc.1 ∧ X (pc + 1) ls ((0, sc.2 j) :: s) g r n else okI n x 11 j ∧ X (pc + 1) ls ((0, g x j) :: s) g r n)
  | .laload => am_len len 1 (am_p2 2 0 st fun x j s => okI n x 12 j ∧ X (pc + 1) ls ((1, g x j) :: s) g r n)
  | .baload => am_len len 1 (am_p2 2 0 st fun x j s => (okI n x 10 j ∨ okI n x 13 j) ∧ X (pc + 1) ls ((0, g x j) :: s) g r n)
  | .aaload => am_len len 1 (am_p2 2 0 st fun x j s => (okI n x 14 j ∨ okI n x 15 j) ∧ X (pc + 1) ls ((2, r x j) :: s) g r n)
  | .iastore => am_len len 1 (am_p 0 st fun v s => am_p2 2 0 s fun x j s2 => okI n x 11 j ∧ X (pc + 1) ls s2 (up g x j v) r n)
  | .lastore => am_len len 1 (am_p 1 st fun v s => am_p2 2 0 s fun x j s2 => okI n x 12 j ∧ X (pc + 1) ls s2 (up g x j v) r n)
  | .bastore => am_len len 1 (am_p 0 st fun v s => am_p2 2 0 s fun x j s2 => ((okI n x 10 j ∧ i_b v = v) ∨ (okI n x 13 j ∧ (v = 0 ∨ v = 1))) ∧ X (pc + 1) ls s2 (up g x j v) r n)
  | .aastore => am_len len 1 (am_p 2 st fun v s => am_p2 2 0 s fun x j s2 => ((okI n x 14 j ∧ okr n v 2) ∨ (okI n x 15 j ∧ okr n v 0)) ∧ X (pc + 1) ls s2 g (up r x j v) n)
  | .arraylength => am_len len 1 (am_p 2 st fun x s => if x = -5 then X (pc + 1) ls ((0, sc.1) :: s) g r n else (0 ≤ x ∧ x < n ∧ 11 ≤ am_sh x ∧ am_sh x ≤ 15) ∧ X (pc + 1) ls ((0, am_ln x) :: s) g r n)
  | .new idx => am_len len 3 (match am_at k idx am_NL with
      | some e => e.1 ≤ 9 ∧ am_sh n = e.1 ∧ am_ln n = ((am_nf e.1 : Nat) : Int) ∧ n < n0 + am_mk k ∧ fresh g r n ∧ X (pc + 3) ls ((2, n) :: st) g r (n + 1)
      | none => False)
  | .newarray t => am_len len 2 (match t with
      | .int => stArr k n0 X pc ls st g r n 11
      | .long => stArr k n0 X pc ls st g r n 12
      | .boolean => stArr k n0 X pc ls st g r n 13
      | .byte => stArr k n0 X pc ls st g r n 10
      | _ => False)
  | .anewarray idx => am_len len 3 (match am_at k idx am_NL with
      | some e => if e.1 = 2 then am_p 0 st fun x s => 0 ≤ x ∧ am_sh n = 14 ∧ am_ln n = x ∧ n < n0 + am_mk k ∧ fresh g r n ∧ X (pc + 3) ls ((2, n) :: s) g r (n + 1)
          else if e.1 = 0 then am_p 0 st fun x s => 0 ≤ x ∧ am_sh n = 15 ∧ am_ln n = x ∧ n < n0 + am_mk k ∧ fresh g r n ∧ X (pc + 3) ls ((2, n) :: s) g r (n + 1) else False
      | none => False)
  | .invokevirtual idx => am_len len 3 (match am_at k idx am_CL with
      | some e => if e.2.2.1 = 0 ∨ e.2.2.1 = 6 ∨ e.2.2.1 = 7 then stCall d C k n0 X pc ls st g r n e else False
      | none => False)
  | .invokestatic idx => am_len len 3 (match am_at k idx am_CL with
      | some e => if e.2.2.1 = 1 ∨ e.2.2.1 = 5 ∨ e.2.2.1 = 4 then stCall d C k n0 X pc ls st g r n e else False
      | none => False)
  | .invokespecial idx => am_len len 3 (match am_at k idx am_CL with
      | some e => if e.2.2.1 = 2 ∨ e.2.2.1 = 3 ∨ e.2.2.1 = 8 then stCall d C k n0 X pc ls st g r n e else False
      | none => False)
  | .ireturn => am_len len 1 (am_p 0 st fun v s => s = [] ∧ (am_rc k = 1 ∨ (am_rc k = 2 ∧ (v = 0 ∨ v = 1))) ∧ n = n0 + am_mk k ∧ Q v g r n)
  | .lreturn => am_len len 1 (am_p 1 st fun v s => s = [] ∧ am_rc k = 3 ∧ n = n0 + am_mk k ∧ Q v g r n)
  | .areturn => am_len len 1 (am_p 2 st fun v s => s = [] ∧ am_rc k = 4 ∧ n = n0 + am_mk k ∧ Q v g r n)
  | .return_ => am_len len 1 (st = [] ∧ am_rc k = 0 ∧ n = n0 + am_mk k ∧ Q 0 g r n)
  | _ => False
def stp (pc : Nat) (ls st : List AV) (g r : GH) (n : Int) : Prop := match decode (am_code k) pc with
  | .ok e => stI sc d C k n0 Q X pc ls st g r n e.1 e.2
  | .error _ => False
end AM
/-- the least predicate closed under the steps: the run comes to its end, and Q holds there -/
def WP (sc : SCR) (d : Nat) (C : CTR) (k : Nat) (n0 : Int) (Q : Int → GH → GH → Int → Prop) : XT := fun pc ls st g r n =>
  ∀ X : XT, (∀ pc ls st g r n, stp sc d C k n0 Q X pc ls st g r n → X pc ls st g r n) → X pc ls st g r n
def Cd (sc : SCR) : Nat → CTR
  | 0 => fun _ _ _ _ _ _ => False
  | d + 1 => fun k as g r n Q => (am_lay as).length ≤ am_maxL k ∧ WP sc d (Cd sc d) k n Q 0 (am_ent (am_maxL k) as) [] g r n
end
section
/-! the steps are monotone; so WP unfolds -/
def CMono (C : CTR) : Prop := ∀ (k : Nat) (as : List AV) (g r : GH) (n : Int) (Q Q2 : Int → GH → GH → Int → Prop), (∀ v g r n, Q v g r n → Q2 v g r n) → C k as g r n Q → C k as g r n Q2
theorem am_len_mono {a b : Nat} {q q2 : Prop} (h : q → q2) : am_len a b q → am_len a b q2 := by
  unfold am_len; split <;> intro h1
  · exact h h1
  · exact h1
theorem am_b_mono {b : Bool} {q q2 : Prop} (h : q → q2) : am_b b q → am_b b q2 := by
  unfold am_b; split <;> intro h1
  · exact h h1
  · exact h1
theorem am_p_mono {t : Nat} {st : List AV} {f f2 : Int → List AV → Prop} (h : ∀ x s, f x s → f2 x s) : am_p t st f → am_p t st f2 := by
  unfold am_p
  cases st with
  | nil => exact id
  | cons v s => dsimp only; split <;> intro h1
                · exact h _ _ h1
                · exact h1
theorem am_p2_mono {t u : Nat} {st : List AV} {f f2 : Int → Int → List AV → Prop} (h : ∀ x y s, f x y s → f2 x y s) : am_p2 t u st f → am_p2 t u st f2 :=
  am_p_mono fun y s => am_p_mono fun x s2 => h x y s2
theorem am_ld_mono {ls : List AV} {i t : Nat} {f f2 : Int → Prop} (h : ∀ x, f x → f2 x) : am_ld ls i t f → am_ld ls i t f2 := by
  unfold am_ld
  cases ls[i]? with
  | none => exact id
  | some v => dsimp only; split <;> intro h1
              · exact h _ h1
              · exact h1
theorem am_j_mono {pc : Nat} {o : Int} {f f2 : Nat → Prop} (h : ∀ x, f x → f2 x) : am_j pc o f → am_j pc o f2 := by
  unfold am_j; split <;> intro h1
  · exact h _ h1
  · exact h1
theorem am_tsw_mono {f f2 : Int → Prop} (h : ∀ x, f x → f2 x) (d x : Int) : ∀ (os : List Int) (lo : Int), am_tsw f d x lo os → am_tsw f2 d x lo os
  | [], _ => h d
  | o :: os, lo => by
    unfold am_tsw; split <;> intro h1
    · exact h _ h1
    · exact am_tsw_mono h d x os _ h1
theorem am_popN_mono : ∀ (m : Nat) (st : List AV) {f f2 : List AV → List AV → Prop}, (∀ x s, f x s → f2 x s) → am_popN m st f → am_popN m st f2
  | 0, st, f, f2, h => h _ _
  | m + 1, [], f, f2, h => id
  | m + 1, v :: s, f, f2, h => am_popN_mono m s fun _ _ => h _ _
theorem ite_mono {c : Prop} {inst : Decidable c} {a b a2 b2 : Prop} (h1 : a → a2) (h2 : b → b2) : (@ite Prop c inst a b) → (@ite Prop c inst a2 b2) := by
  split <;> assumption
theorem stArr_mono {k : Nat} {n0 : Int} {X X2 : XT} (hX : ∀ pc ls st g r n, X pc ls st g r n → X2 pc ls st g r n) {pc : Nat} {ls st : List AV} {g r : GH} {n : Int} {kd : Nat} : stArr k n0 X pc ls st g r n kd → stArr k n0 X2 pc ls st g r n kd :=
  am_p_mono fun _ _ h => ⟨h.1, h.2.1, h.2.2.1, h.2.2.2.1, h.2.2.2.2.1, hX _ _ _ _ _ _ h.2.2.2.2.2⟩
theorem stCall_mono {d k : Nat} {n0 : Int} {C : CTR} {X X2 : XT} (hC : CMono C) (hX : ∀ pc ls st g r n, X pc ls st g r n → X2 pc ls st g r n) {pc : Nat} {ls st : List AV} {g r : GH} {n : Int} (e : Nat × Nat × Nat × Nat) : stCall d C k n0 X pc ls st g r n e → stCall d C k n0 X2 pc ls st g r n e := by
  obtain ⟨e1, e2, e3, e4⟩ := e
  have hc : ∀ {s2 : List AV} {as : List AV}, C e1 as g r n (fun v g2 r2 n2 => X (pc + 3) ls (am_push (am_rc e1) v s2) g2 r2 n2) → C e1 as g r n (fun v g2 r2 n2 => X2 (pc + 3) ls (am_push (am_rc e1) v s2) g2 r2 n2) := fun h => hC _ _ _ _ _ _ _ (fun _ _ _ _ h => hX _ _ _ _ _ _ h) h
  unfold stCall
  dsimp only
  split
  · exact am_popN_mono _ _ fun _ _ => am_p_mono fun _ _ h => ⟨h.1, h.2.1, h.2.2.1, hc h.2.2.2⟩
  · exact am_popN_mono _ _ fun _ _ h => ⟨h.1, h.2.1, hc h.2.2⟩
  · exact am_popN_mono _ _ fun _ _ => am_p_mono fun _ _ h => ⟨h.1, h.2.1, h.2.2.1, h.2.2.2.1, hc h.2.2.2.2⟩
  · exact am_popN_mono _ _ fun _ _ => am_p_mono fun _ _ h => ⟨h.1, h.2.1, h.2.2.1, h.2.2.2.1, hc h.2.2.2.2⟩
  · exact am_p2_mono fun _ _ _ => am_p2_mono fun _ _ _ => am_p_mono fun _ _ h => ⟨h.1, h.2.1, h.2.2.1, h.2.2.2.1, h.2.2.2.2.1, h.2.2.2.2.2.1, h.2.2.2.2.2.2.1, hX _ _ _ _ _ _ h.2.2.2.2.2.2.2⟩
  · exact am_popN_mono _ _ fun _ _ h => ⟨h.1, h.2.1, hc h.2.2⟩
  · exact am_p_mono fun _ _ h => ⟨h.1, h.2.1, h.2.2.1, hX _ _ _ _ _ _ h.2.2.2⟩
  · exact am_p2_mono fun _ _ _ h => ⟨h.1, h.2.1, h.2.2.1, h.2.2.2.1, h.2.2.2.2.1, hX _ _ _ _ _ _ h.2.2.2.2.2⟩
  · exact am_p_mono fun _ _ h => ⟨h.1, h.2.1, h.2.2.1, hX _ _ _ _ _ _ h.2.2.2⟩
  · exact id
set_option maxHeartbeats 4000000 in
theorem stI_mono {sc : SCR} {d : Nat} {C : CTR} {k : Nat} {n0 : Int} {Q Q2 : Int → GH → GH → Int → Prop} {X X2 : XT} (hC : CMono C) (hQ : ∀ v g r n, Q v g r n → Q2 v g r n) (hX : ∀ pc ls st g r n, X pc ls st g r n → X2 pc ls st g r n) {pc : Nat} {ls st : List AV} {g r : GH} {n : Int} (i : Instr) (len : Nat) :
    stI sc d C k n0 Q X pc ls st g r n i len → stI sc d C k n0 Q2 X2 pc ls st g r n i len := by
  cases i
  all_goals first
    | exact id
    | exact am_len_mono (hX _ _ _ _ _ _)
    | exact am_len_mono (am_b_mono (hX _ _ _ _ _ _))
    | exact am_len_mono (am_b_mono (am_p_mono fun _ _ => hX _ _ _ _ _ _))
    | exact am_len_mono (am_b_mono (am_ld_mono fun _ => hX _ _ _ _ _ _))
    | exact am_len_mono (am_ld_mono fun _ => hX _ _ _ _ _ _)
    | exact am_len_mono (am_p_mono fun _ _ => hX _ _ _ _ _ _)
    | exact am_len_mono (am_p2_mono fun _ _ _ => hX _ _ _ _ _ _)
    | exact am_len_mono (am_p2_mono fun _ _ _ h => ⟨h.1, hX _ _ _ _ _ _ h.2⟩)
    | exact am_len_mono (am_p_mono fun _ _ => am_p2_mono fun _ _ _ h => ⟨h.1, hX _ _ _ _ _ _ h.2⟩)
    | exact am_len_mono (am_j_mono fun _ => hX _ _ _ _ _ _)
    | exact am_len_mono (am_p_mono fun _ _ h => ⟨h.1, h.2.1, h.2.2.1, hQ _ _ _ _ h.2.2.2⟩)
    | exact am_len_mono (fun h => ⟨h.1, h.2.1, h.2.2.1, hQ _ _ _ _ h.2.2.2⟩)
    | exact am_len_mono (am_p_mono fun _ _ => am_j_mono fun _ => ite_mono (hX _ _ _ _ _ _) (hX _ _ _ _ _ _))
    | exact am_len_mono (am_p2_mono fun _ _ _ => ite_mono (fun h => ⟨h.1, h.2.1, hX _ _ _ _ _ _ h.2.2⟩) (fun h => ⟨h.1, hX _ _ _ _ _ _ h.2⟩))
    | exact am_len_mono (am_p_mono fun _ _ => ite_mono (hX _ _ _ _ _ _) (fun h => ⟨h.1, hX _ _ _ _ _ _ h.2⟩))
    | exact am_p_mono fun _ _ h => ⟨h.1, am_tsw_mono (fun _ => am_j_mono fun _ => hX _ _ _ _ _ _) _ _ _ _ h.2⟩
    | skip
  all_goals unfold stI
  all_goals dsimp only
  case ifCond c o => exact am_len_mono (am_p_mono fun _ _ => am_j_mono fun _ => by cases c <;> exact ite_mono (hX _ _ _ _ _ _) (hX _ _ _ _ _ _))
  case if_icmp c o => exact am_len_mono (am_p2_mono fun _ _ _ => am_j_mono fun _ => by cases c <;> exact ite_mono (hX _ _ _ _ _ _) (hX _ _ _ _ _ _))
  case tableswitch => exact am_p_mono fun x s h => ⟨h.1, am_tsw_mono (f := fun o => am_j pc o fun t => X t ls s g r n) (f2 := fun o => am_j pc o fun t => X2 t ls s g r n) (fun o => am_j_mono fun _ => hX _ _ _ _ _ _) _ _ _ _ h.2⟩
  case dup => refine am_len_mono ?_; split
              · exact ite_mono id (hX _ _ _ _ _ _)
              · exact id
  case dup2 => refine am_len_mono ?_; split
               · exact ite_mono id (ite_mono id (hX _ _ _ _ _ _))
               · exact id
  case pop => refine am_len_mono ?_; split
              · exact ite_mono id (hX _ _ _ _ _ _)
              · exact id
  case ldc idx => refine am_len_mono ?_; split
                  · exact hX _ _ _ _ _ _
                  · split
                    · exact ite_mono (hX _ _ _ _ _ _) id
                    · exact id
  case ldc_w idx => refine am_len_mono ?_; split
                    · exact ite_mono (hX _ _ _ _ _ _) id
                    · exact id
  case ldc2_w idx => refine am_len_mono ?_; split
                     · exact ite_mono (hX _ _ _ _ _ _) id
                     · exact id
  case getfield idx => refine am_len_mono ?_; split
                       · exact am_p_mono fun _ _ h => ⟨h.1, hX _ _ _ _ _ _ h.2⟩
                       · exact id
  case putfield idx => refine am_len_mono ?_; split
                       · exact am_p2_mono fun _ _ _ h => ⟨h.1, h.2.1, ite_mono (hX _ _ _ _ _ _) (ite_mono (fun h => ⟨h.1, hX _ _ _ _ _ _ h.2⟩) (hX _ _ _ _ _ _)) h.2.2⟩
                       · exact id
  case new idx => refine am_len_mono ?_; split
                  · exact fun h => ⟨h.1, h.2.1, h.2.2.1, h.2.2.2.1, h.2.2.2.2.1, hX _ _ _ _ _ _ h.2.2.2.2.2⟩
                  · exact id
  case newarray t => refine am_len_mono ?_; split
                     · exact stArr_mono hX
                     · exact stArr_mono hX
                     · exact stArr_mono hX
                     · exact stArr_mono hX
                     · exact id
  case anewarray idx => refine am_len_mono ?_; split
                        · exact ite_mono (am_p_mono fun _ _ h => ⟨h.1, h.2.1, h.2.2.1, h.2.2.2.1, h.2.2.2.2.1, hX _ _ _ _ _ _ h.2.2.2.2.2⟩) (ite_mono (am_p_mono fun _ _ h => ⟨h.1, h.2.1, h.2.2.1, h.2.2.2.1, h.2.2.2.2.1, hX _ _ _ _ _ _ h.2.2.2.2.2⟩) id)
                        · exact id
  case invokevirtual idx => refine am_len_mono ?_; split
                            · exact ite_mono (stCall_mono hC hX _) id
                            · exact id
  case invokestatic idx => refine am_len_mono ?_; split
                           · exact ite_mono (stCall_mono hC hX _) id
                           · exact id
  case invokespecial idx => refine am_len_mono ?_; split
                            · exact ite_mono (stCall_mono hC hX _) id
                            · exact id
theorem stp_mono {sc : SCR} {d : Nat} {C : CTR} {k : Nat} {n0 : Int} {Q Q2 : Int → GH → GH → Int → Prop} {X X2 : XT} (hC : CMono C) (hQ : ∀ v g r n, Q v g r n → Q2 v g r n) (hX : ∀ pc ls st g r n, X pc ls st g r n → X2 pc ls st g r n) {pc : Nat} {ls st : List AV} {g r : GH} {n : Int} :
    stp sc d C k n0 Q X pc ls st g r n → stp sc d C k n0 Q2 X2 pc ls st g r n := by
  unfold stp; split
  · exact stI_mono hC hQ hX _ _
  · exact id
theorem WP_unf {sc : SCR} {d : Nat} {C : CTR} {k : Nat} {n0 : Int} {Q : Int → GH → GH → Int → Prop} (hC : CMono C) (pc : Nat) (ls st : List AV) (g r : GH) (n : Int) :
    WP sc d C k n0 Q pc ls st g r n = stp sc d C k n0 Q (WP sc d C k n0 Q) pc ls st g r n := by
  have h1 : ∀ pc ls st g r n, stp sc d C k n0 Q (WP sc d C k n0 Q) pc ls st g r n → WP sc d C k n0 Q pc ls st g r n :=
    fun pc ls st g r n h X hX => hX _ _ _ _ _ _ (stp_mono hC (fun _ _ _ _ h => h) (fun _ _ _ _ _ _ w => w X hX) h)
  refine propext ⟨fun h => h _ fun _ _ _ _ _ _ w => stp_mono hC (fun _ _ _ _ h => h) h1 w, h1 _ _ _ _ _ _⟩
theorem WP_mono {sc : SCR} {d : Nat} {C : CTR} {k : Nat} {n0 : Int} {Q Q2 : Int → GH → GH → Int → Prop} (hC : CMono C) (hQ : ∀ v g r n, Q v g r n → Q2 v g r n) {pc : Nat} {ls st : List AV} {g r : GH} {n : Int} :
    WP sc d C k n0 Q pc ls st g r n → WP sc d C k n0 Q2 pc ls st g r n :=
  fun h X hX => h X fun _ _ _ _ _ _ w => hX _ _ _ _ _ _ (stp_mono hC hQ (fun _ _ _ _ _ _ h => h) w)
theorem Cd_mono (sc : SCR) : ∀ d, CMono (Cd sc d)
  | 0 => fun _ _ _ _ _ _ _ _ h => h
  | d + 1 => fun _ _ _ _ _ _ _ hQ h => ⟨h.1, WP_mono (Cd_mono sc d) hQ h.2⟩
end
section
/-! how the machine of numbers stands to the JVM's: addresses, values, cells, worlds -/
abbrev AG : Type := Nat × Nat × (Nat → Nat) × va_G × (Nat → ClassId)
def adr (G : AG) (x : Int) : Nat := if x = -5 then G.2.1 else if 1000000 ≤ x then G.2.2.1 (x - 1000000).toNat else G.1 + x.toNat
def rfo (G : AG) (x : Int) : Option Nat := if x = -1 then none else some (adr G x)
def tv (G : AG) (v : AV) : Value := if v.1 = 0 then .int (Int32.ofInt v.2) else if v.1 = 1 then .long (Int64.ofInt v.2) else va_rf (rfo G v.2)
def rI (x : Int) : Prop := -2147483648 ≤ x ∧ x < 2147483648
def rL (x : Int) : Prop := -9223372036854775808 ≤ x ∧ x < 9223372036854775808
def rR (x : Int) : Prop := x = -1 ∨ x = -5 ∨ 0 ≤ x
def okv (v : AV) : Prop := (v.1 = 0 → rI v.2) ∧ (v.1 = 1 → rL v.2) ∧ (v.1 = 2 → rR v.2)
def am_lng (i j : Int) : Prop := am_sh i = 12 ∨ am_ft (am_sh i) j.toNat = 1
def okG (g r : GH) : Prop := (∀ i j, ¬ am_lng i j → rI (g i j)) ∧ (∀ i j, rL (g i j)) ∧ ∀ i j, rR (r i j)
def fvl (G : AG) (ty : Nat) (x y : Int) : Value := if ty = 1 then .long (Int64.ofInt x) else if ty = 2 then va_rf (rfo G y) else .int (Int32.ofInt x)
def cellE (G : AG) (g r : GH) (i : Int) : va_E :=
  if am_sh i ≤ 9 then .inr (am_sh i, (List.range (am_nf (am_sh i))).map fun j => fvl G (am_ft (am_sh i) j) (g i (j : Int)) (r i (j : Int)))
  else if am_sh i = 12 then .inl (G.2.2.2.2 12, (am_ln i).toNat, .inr (.inl fun j => Int64.ofInt (g i (j : Int))))
  else if am_sh i = 14 ∨ am_sh i = 15 then .inl (G.2.2.2.2 (am_sh i), (am_ln i).toNat, .inr (.inr (.inr (.inr fun j => rfo G (r i (j : Int))))))
  else .inl (G.2.2.2.2 (am_sh i), (am_ln i).toNat, .inl fun j => Int32.ofInt (g i (j : Int)))
def wd (G : AG) (g r : GH) (n : Int) : va_W := (List.range n.toNat).map fun i => (G.1 + i, cellE G g r (i : Int))
def tyA (G : AG) : List (ClassId × FieldType) := [(G.2.2.2.2 10, .byte), (G.2.2.2.2 11, .int), (G.2.2.2.2 12, .long), (G.2.2.2.2 13, .boolean), (G.2.2.2.2 14, .object "MillRow$Mill"), (G.2.2.2.2 15, .object "MillRow$Brook")]
def lvl (G : AG) : Nat → List AV → List (Nat × Value)
  | _, [] => []
  | i, v :: t => if v.1 ≤ 2 then (i, tv G v) :: lvl G (i + 1) t else lvl G (i + 1) t
theorem tv_0 {G : AG} {x : Int} : tv G (0, x) = .int (Int32.ofInt x) := rfl
theorem tv_1 {G : AG} {x : Int} : tv G (1, x) = .long (Int64.ofInt x) := rfl
theorem tv_2 {G : AG} {x : Int} : tv G (2, x) = va_rf (rfo G x) := rfl
theorem wr_rng (x : Int) : rI (wr x) := ⟨Int32.le_toInt _, Int32.toInt_lt _⟩
theorem wL_rng (x : Int) : rL (wL x) := ⟨Int64.le_toInt _, Int64.toInt_lt _⟩
theorem wr_of (x : Int) : Int32.ofInt (wr x) = Int32.ofInt x := Int32.ofInt_toInt _
theorem wL_of (x : Int) : Int64.ofInt (wL x) = Int64.ofInt x := Int64.ofInt_toInt _
theorem wr_id {x : Int} (h : rI x) : wr x = x := Int32.toInt_ofInt_of_le h.1 h.2
theorem wL_id {x : Int} (h : rL x) : wL x = x := Int64.toInt_ofInt_of_le h.1 h.2
theorem i_eq {a b : Int} (ha : rI a) (hb : rI b) : Int32.ofInt a = Int32.ofInt b ↔ a = b := by
  rw [← Int32.toInt_inj, Int32.toInt_ofInt_of_le ha.1 ha.2, Int32.toInt_ofInt_of_le hb.1 hb.2]
theorem i_lt {a b : Int} (ha : rI a) (hb : rI b) : Int32.ofInt a < Int32.ofInt b ↔ a < b := by
  rw [Int32.lt_iff_toInt_lt, Int32.toInt_ofInt_of_le ha.1 ha.2, Int32.toInt_ofInt_of_le hb.1 hb.2]
theorem i_le {a b : Int} (ha : rI a) (hb : rI b) : Int32.ofInt a ≤ Int32.ofInt b ↔ a ≤ b := by
  rw [Int32.le_iff_toInt_le, Int32.toInt_ofInt_of_le ha.1 ha.2, Int32.toInt_ofInt_of_le hb.1 hb.2]
theorem l_eq {a b : Int} (ha : rL a) (hb : rL b) : Int64.ofInt a = Int64.ofInt b ↔ a = b := by
  rw [← Int64.toInt_inj, Int64.toInt_ofInt_of_le ha.1 ha.2, Int64.toInt_ofInt_of_le hb.1 hb.2]
theorem l_lt {a b : Int} (ha : rL a) (hb : rL b) : Int64.ofInt a < Int64.ofInt b ↔ a < b := by
  rw [Int64.lt_iff_toInt_lt, Int64.toInt_ofInt_of_le ha.1 ha.2, Int64.toInt_ofInt_of_le hb.1 hb.2]
theorem rI0 : rI 0 := ⟨by decide, by decide⟩
theorem rL0 : rL 0 := ⟨by decide, by decide⟩
theorem i_cl {j : Int} (h : rI j) : (Int32.ofInt j).toNatClampNeg = j.toNat := by
  show (Int32.ofInt j).toInt.toNat = j.toNat
  rw [Int32.toInt_ofInt_of_le h.1 h.2]
theorem i_in {j : Int} {N : Nat} (h : rI j) (h0 : 0 ≤ j) (h1 : j < (N : Int)) : vp_in (Int32.ofInt j) N := by
  rw [vp_in_iff, Int32.toInt_ofInt_of_le h.1 h.2]; exact ⟨h0, h1⟩
theorem i_nn {j : Int} (h : rI j) (h0 : 0 ≤ j) : ¬ Int32.ofInt j < 0 := by
  rw [show (0 : Int32) = Int32.ofInt 0 from rfl, i_lt h rI0]; omega
theorem ok0 {x : Int} (h : rI x) : okv (0, x) := ⟨fun _ => h, fun h => (by cases h), fun h => (by cases h)⟩
theorem ok1 {x : Int} (h : rL x) : okv (1, x) := ⟨fun h => (by cases h), fun _ => h, fun h => (by cases h)⟩
theorem ok2 {x : Int} (h : rR x) : okv (2, x) := ⟨fun h => (by cases h), fun h => (by cases h), fun _ => h⟩
theorem ok_r0 {x : Int} (h : okv (0, x)) : rI x := h.1 rfl
theorem ok_r1 {x : Int} (h : okv (1, x)) : rL x := h.2.1 rfl
theorem ok_r2 {x : Int} (h : okv (2, x)) : rR x := h.2.2 rfl
theorem tv_cat {G : AG} {v : AV} : (tv G v).category = if v.1 = 1 then 2 else 1 := by
  unfold tv
  split
  · rename_i h; rw [h]; rfl
  · split
    · rfl
    · cases rfo G v.2 <;> rfl
theorem cat_map {G : AG} (st : List AV) : ((st.map (tv G)).map fun v => v.category).sum = am_cat st := by
  unfold am_cat
  rw [List.map_map]
  congr 1
  apply List.map_congr_left
  intro v _
  exact tv_cat
theorem adr_o {G : AG} {x : Int} (h0 : 0 ≤ x) (h1 : x < 1000000) : adr G x = G.1 + x.toNat := by
  unfold adr; rw [if_neg (by omega), if_neg (by omega)]
theorem tv_o {G : AG} {x : Int} (h0 : 0 ≤ x) (h1 : x < 1000000) : tv G (2, x) = .ref (G.1 + x.toNat) := by
  rw [tv_2, rfo, if_neg (by omega), adr_o h0 h1]; rfl
/-! locals -/
theorem lvl_mem {G : AG} : ∀ (ls : List AV) (a i : Nat) (x : Value), (i, x) ∈ lvl G a ls ↔ ∃ v : AV, a ≤ i ∧ ls[i - a]? = some v ∧ v.1 ≤ 2 ∧ x = tv G v
  | [], a, i, x => by simp [lvl]
  | v :: t, a, i, x => by
    have ih := lvl_mem (G := G) t (a + 1) i x
    have key : (∃ w : AV, a ≤ i ∧ (v :: t)[i - a]? = some w ∧ w.1 ≤ 2 ∧ x = tv G w) ↔ (i = a ∧ v.1 ≤ 2 ∧ x = tv G v) ∨ ∃ w : AV, a + 1 ≤ i ∧ t[i - (a + 1)]? = some w ∧ w.1 ≤ 2 ∧ x = tv G w := by
      constructor
      · rintro ⟨w, h1, h2, h3, h4⟩
        by_cases hi : i = a
        · subst hi
          rw [Nat.sub_self, List.getElem?_cons_zero] at h2
          cases h2
          exact Or.inl ⟨rfl, h3, h4⟩
        · rw [show i - a = (i - (a + 1)) + 1 by omega, List.getElem?_cons_succ] at h2
          exact Or.inr ⟨w, by omega, h2, h3, h4⟩
      · rintro (⟨rfl, h3, h4⟩ | ⟨w, h1, h2, h3, h4⟩)
        · exact ⟨v, Nat.le_refl _, by rw [Nat.sub_self, List.getElem?_cons_zero], h3, h4⟩
        · exact ⟨w, by omega, by rw [show i - a = (i - (a + 1)) + 1 by omega, List.getElem?_cons_succ]; exact h2, h3, h4⟩
    rw [key]
    unfold lvl
    split
    · rename_i h
      rw [List.mem_cons, ih]
      constructor
      · rintro (h1 | h1)
        · cases h1; exact Or.inl ⟨rfl, h, rfl⟩
        · exact Or.inr h1
      · rintro (⟨rfl, -, rfl⟩ | h1)
        · exact Or.inl rfl
        · exact Or.inr h1
    · rename_i h
      rw [ih]
      constructor
      · exact Or.inr
      · rintro (⟨-, h2, -⟩ | h1)
        · exact absurd h2 h
        · exact h1
theorem lvl_at {G : AG} {ls : List AV} {i t : Nat} {x : Int} {lsM : Array Slot} {nL : Nat} (h : lv_has lsM nL (lvl G 0 ls)) (hi : ls[i]? = some (t, x)) (ht : t ≤ 2) : lsM[i]? = some (.val (tv G (t, x))) :=
  h.2.2 (i, tv G (t, x)) ((lvl_mem ls 0 i _).mpr ⟨(t, x), Nat.zero_le _, hi, ht, rfl⟩)
theorem lv_weak {lsM : Array Slot} {nL : Nat} {l1 l2 : List (Nat × Value)} (h : lv_has lsM nL l1) (hs : ∀ q ∈ l2, q ∈ l1) : lv_has lsM nL l2 := ⟨h.1, h.2.1, fun q hq => h.2.2 q (hs q hq)⟩
theorem kill_at {ls : List AV} {i j : Nat} {w : AV} (h : (am_kill ls i)[j]? = some w) (hw : w.1 ≤ 2) : ls[j]? = some w ∧ (j + 1 = i → w.1 ≠ 1) := by
  unfold am_kill at h
  split at h
  · exact ⟨h, fun e => by omega⟩
  · rename_i j0
    split at h
    · rename_i v hv
      by_cases hj : j0 = j
      · subst hj
        have hl := (List.getElem?_eq_some_iff.mp hv).1
        rw [List.getElem?_set_self hl] at h
        cases h
        exact absurd hw (by decide)
      · rw [List.getElem?_set_ne hj] at h
        exact ⟨h, fun e => by omega⟩
    · rename_i hn
      refine ⟨h, fun e h1 => ?_⟩
      have hj : j0 = j := by omega
      subst hj
      obtain ⟨w1, w2⟩ := w
      dsimp only at h1
      subst h1
      exact hn w2 h
theorem st1_sub {G : AG} {ls : List AV} {i : Nat} {v : AV} : ∀ q ∈ lvl G 0 (am_st1 ls i v), q ∈ (i, tv G v) :: (lvl G 0 ls).filter (fun q => !(q.1 == i) && !(q.1 + 1 == i && q.2.category == 2)) := by
  rintro ⟨j, x⟩ hq
  obtain ⟨w, -, h2, h3, rfl⟩ := (lvl_mem _ _ _ _).mp hq
  rw [Nat.sub_zero, am_st1] at h2
  by_cases hj : i = j
  · subst hj
    have hl : i < (am_kill ls i).length := by
      have := (List.getElem?_eq_some_iff.mp h2).1
      rwa [List.length_set] at this
    rw [List.getElem?_set_self hl] at h2
    cases h2
    exact List.mem_cons_self
  · rw [List.getElem?_set_ne hj] at h2
    obtain ⟨k1, k2⟩ := kill_at h2 h3
    refine List.mem_cons_of_mem _ (List.mem_filter.mpr ⟨(lvl_mem _ _ _ _).mpr ⟨w, Nat.zero_le _, k1, h3, rfl⟩, ?_⟩)
    simp only [Bool.and_eq_true, Bool.not_eq_true', beq_eq_false_iff_ne, ne_eq, Bool.and_eq_false_iff, tv_cat]
    refine ⟨fun e => hj e.symm, ?_⟩
    by_cases e : j + 1 = i
    · right; rw [if_neg (k2 e)]; decide
    · exact Or.inl e
theorem st2_sub {G : AG} {ls : List AV} {i : Nat} {v : AV} : ∀ q ∈ lvl G 0 (am_st2 ls i v), q ∈ (i, tv G v) :: (lvl G 0 ls).filter (fun q => !(q.1 == i) && (!(q.1 == i + 1) && !(q.1 + 1 == i && q.2.category == 2))) := by
  rintro ⟨j, x⟩ hq
  obtain ⟨w, -, h2, h3, rfl⟩ := (lvl_mem _ _ _ _).mp hq
  rw [Nat.sub_zero, am_st2] at h2
  by_cases hj1 : i + 1 = j
  · subst hj1
    have hl : i + 1 < ((am_kill ls i).set i v).length := by
      have := (List.getElem?_eq_some_iff.mp h2).1
      rwa [List.length_set] at this
    rw [List.getElem?_set_self hl] at h2
    cases h2
    exact absurd h3 (by decide)
  · rw [List.getElem?_set_ne hj1] at h2
    by_cases hj : i = j
    · subst hj
      have hl : i < (am_kill ls i).length := by
        have := (List.getElem?_eq_some_iff.mp h2).1
        rwa [List.length_set] at this
      rw [List.getElem?_set_self hl] at h2
      cases h2
      exact List.mem_cons_self
    · rw [List.getElem?_set_ne hj] at h2
      obtain ⟨k1, k2⟩ := kill_at h2 h3
      refine List.mem_cons_of_mem _ (List.mem_filter.mpr ⟨(lvl_mem _ _ _ _).mpr ⟨w, Nat.zero_le _, k1, h3, rfl⟩, ?_⟩)
      simp only [Bool.and_eq_true, Bool.not_eq_true', beq_eq_false_iff_ne, ne_eq, Bool.and_eq_false_iff, tv_cat]
      refine ⟨fun e => hj e.symm, fun e => hj1 e.symm, ?_⟩
      by_cases e : j + 1 = i
      · right; rw [if_neg (k2 e)]; decide
      · exact Or.inl e
theorem kill_len (ls : List AV) (i : Nat) : (am_kill ls i).length = ls.length := by
  unfold am_kill; split
  · rfl
  · split
    · exact List.length_set
    · rfl
theorem st1_len (ls : List AV) (i : Nat) (v : AV) : (am_st1 ls i v).length = ls.length := by rw [am_st1, List.length_set, kill_len]
theorem st2_len (ls : List AV) (i : Nat) (v : AV) : (am_st2 ls i v).length = ls.length := by rw [am_st2, List.length_set, List.length_set, kill_len]
theorem mem_set_or {α : Type} {l : List α} {i : Nat} {v w : α} (h : w ∈ l.set i v) : w ∈ l ∨ w = v := by
  rcases List.mem_or_eq_of_mem_set h with h | h
  · exact Or.inl h
  · exact Or.inr h
theorem ok_8 {t : Nat} {x : Int} (h : 2 < t) : okv (t, x) := ⟨fun e => absurd e (show t ≠ 0 by omega), fun e => absurd e (show t ≠ 1 by omega), fun e => absurd e (show t ≠ 2 by omega)⟩
theorem kill_ok {ls : List AV} {i : Nat} (h : ∀ w ∈ ls, okv w) : ∀ w ∈ am_kill ls i, okv w := by
  unfold am_kill; split
  · exact h
  · split
    · intro w hw
      rcases mem_set_or hw with hw | rfl
      · exact h w hw
      · exact ok_8 (by decide)
    · exact h
theorem st1_ok {ls : List AV} {i : Nat} {v : AV} (h : ∀ w ∈ ls, okv w) (hv : okv v) : ∀ w ∈ am_st1 ls i v, okv w := by
  intro w hw
  rcases mem_set_or hw with hw | rfl
  · exact kill_ok h w hw
  · exact hv
theorem st2_ok {ls : List AV} {i : Nat} {v : AV} (h : ∀ w ∈ ls, okv w) (hv : okv v) : ∀ w ∈ am_st2 ls i v, okv w := by
  intro w hw
  rcases mem_set_or hw with hw | rfl
  · rcases mem_set_or hw with hw | rfl
    · exact kill_ok h w hw
    · exact hv
  · exact ok_8 (by decide)
/-! stacks -/
theorem am_p_inv {t : Nat} {st : List AV} {f : Int → List AV → Prop} (h : am_p t st f) : ∃ x s, st = (t, x) :: s ∧ f x s := by
  unfold am_p at h
  split at h
  · exact h.elim
  · rename_i v s
    split at h
    · rename_i e; exact ⟨v.2, s, by rw [← e], h⟩
    · exact h.elim
theorem am_p2_inv {t u : Nat} {st : List AV} {f : Int → Int → List AV → Prop} (h : am_p2 t u st f) : ∃ x y s, st = (u, y) :: (t, x) :: s ∧ f x y s := by
  obtain ⟨y, s, e1, h1⟩ := am_p_inv h
  obtain ⟨x, s2, e2, h2⟩ := am_p_inv h1
  exact ⟨x, y, s2, by rw [e1, e2], h2⟩
theorem am_len_inv {a b : Nat} {q : Prop} (h : am_len a b q) : a = b ∧ q := by
  unfold am_len at h; split at h
  · exact ⟨‹_›, h⟩
  · exact h.elim
theorem am_b_inv {b : Bool} {q : Prop} (h : am_b b q) : b = true ∧ q := by
  unfold am_b at h; split at h
  · exact ⟨‹_›, h⟩
  · exact h.elim
theorem am_ld_inv {ls : List AV} {i t : Nat} {f : Int → Prop} (h : am_ld ls i t f) : ∃ x, ls[i]? = some (t, x) ∧ f x := by
  unfold am_ld at h
  split at h
  · exact h.elim
  · rename_i v hv
    split at h
    · rename_i e; exact ⟨v.2, by rw [hv, ← e], h⟩
    · exact h.elim
theorem am_j_inv {pc : Nat} {o : Int} {f : Nat → Prop} (h : am_j pc o f) : ∃ t : Nat, (pc : Int) + o = (t : Int) ∧ f t := by
  unfold am_j at h; split at h
  · exact ⟨_, by omega, h⟩
  · exact h.elim
theorem am_popN_inv : ∀ (m : Nat) (st : List AV) {f : List AV → List AV → Prop}, am_popN m st f → ∃ as s, as.length = m ∧ st = as.reverse ++ s ∧ f as s
  | 0, st, f, h => ⟨[], st, rfl, rfl, h⟩
  | m + 1, [], f, h => h.elim
  | m + 1, v :: s, f, h => by
    obtain ⟨as, s2, h1, h2, h3⟩ := am_popN_inv m s h
    exact ⟨as ++ [v], s2, by rw [List.length_append, h1]; rfl, by rw [h2, List.reverse_append]; rfl, h3⟩
end
section
/-! worlds: the heap's objects in the order of their making -/
theorem wd_len (G : AG) (g r : GH) (n : Int) : (wd G g r n).length = n.toNat := by simp [wd]
theorem wd_at {G : AG} {g r : GH} {n : Int} {k : Nat} {q : Nat × va_E} (h : (wd G g r n)[k]? = some q) : k < n.toNat ∧ q = (G.1 + k, cellE G g r (k : Int)) := by
  have hl := (List.getElem?_eq_some_iff.mp h).1
  rw [wd_len] at hl
  unfold wd at h
  rw [List.getElem?_map, List.getElem?_range hl] at h
  exact ⟨hl, (Option.some.inj h).symm⟩
theorem wd_get {G : AG} {g r : GH} {n x : Int} (h0 : 0 ≤ x) (h1 : x < n) : (wd G g r n)[x.toNat]? = some (G.1 + x.toNat, cellE G g r x) := by
  unfold wd
  rw [List.getElem?_map, List.getElem?_range (by omega)]
  show some (G.1 + x.toNat, cellE G g r (x.toNat : Int)) = _
  rw [Int.toNat_of_nonneg h0]
theorem cellE_congr {G : AG} {g r g2 r2 : GH} {i : Int} (h : ∀ j, g2 i j = g i j) (h2 : ∀ j, r2 i j = r i j) : cellE G g2 r2 i = cellE G g r i := by
  unfold cellE; simp only [h, h2]
theorem wd_set {G : AG} {g r g2 r2 : GH} {n x : Int} (h0 : 0 ≤ x) (h1 : x < n) (h : ∀ i, i ≠ x → ∀ j, g2 i j = g i j) (h2 : ∀ i, i ≠ x → ∀ j, r2 i j = r i j) :
    (wd G g r n).set x.toNat (G.1 + x.toNat, cellE G g2 r2 x) = wd G g2 r2 n := by
  apply List.ext_getElem?
  intro k
  by_cases hk : x.toNat = k
  · subst hk
    rw [List.getElem?_set_self (by rw [wd_len]; omega), wd_get h0 h1]
  · rw [List.getElem?_set_ne hk]
    by_cases hl : k < n.toNat
    · have e1 := wd_get (G := G) (g := g) (r := r) (n := n) (x := (k : Int)) (by omega) (by omega)
      have e2 := wd_get (G := G) (g := g2) (r := r2) (n := n) (x := (k : Int)) (by omega) (by omega)
      rw [Int.toNat_natCast] at e1 e2
      rw [e1, e2, cellE_congr (h _ (by omega)) (h2 _ (by omega))]
    · rw [List.getElem?_eq_none (by rw [wd_len]; omega), List.getElem?_eq_none (by rw [wd_len]; omega)]
theorem wd_D {G : AG} {g r : GH} {n : Int} : va_D (fun q => G.1 ≤ q) (wd G g r n) := by
  refine ⟨fun i j p q hi hj e => ?_, fun k q hk => ?_⟩
  · obtain ⟨-, rfl⟩ := wd_at hi
    obtain ⟨-, rfl⟩ := wd_at hj
    have e : G.1 + i = G.1 + j := e
    omega
  · obtain ⟨-, rfl⟩ := wd_at hk
    exact Nat.le_add_right _ _
theorem wd_push {G : AG} {g r : GH} {n : Int} (h0 : 0 ≤ n) : wd G g r (n + 1) = wd G g r n ++ [(G.1 + n.toNat, cellE G g r n)] := by
  unfold wd
  rw [show (n + 1).toNat = n.toNat + 1 by omega, List.range_succ, List.map_append]
  show _ ++ [(G.1 + n.toNat, cellE G g r (n.toNat : Int))] = _
  rw [Int.toNat_of_nonneg h0]
theorem cl_at : ∀ c, c ≤ 9 → am_cl[c]? = some (am_nm c, am_T c, am_nf c) := by
  intro c hc
  match c, hc with
  | 0, _ => rfl
  | 1, _ => rfl
  | 2, _ => rfl
  | 3, _ => rfl
  | 4, _ => rfl
  | 5, _ => rfl
  | 6, _ => rfl
  | 7, _ => rfl
  | 8, _ => rfl
  | 9, _ => rfl
theorem U_words : (List.range 10).all (fun c => am_sub (u_ws (am_nm c) (am_T c) (am_nf c)) tables_1) = true := by decide +kernel
theorem T_ok : (List.range 10).all (fun c => (List.range (am_nf c)).all fun j => decide (parseFieldDescriptor (am_T c j).2.2.1 = some (am_fd c j) ∧
   (am_ft c j = 0 → am_fd c j = .int) ∧ (am_ft c j = 1 → am_fd c j = .long) ∧ (am_ft c j = 3 → am_fd c j = .boolean) ∧ (am_ft c j = 2 → (match am_fd c j with | .object _ => true | .array _ => true | _ => false) = true) ∧ (am_ft c j = 0 ∨ am_ft c j = 1 ∨ am_ft c j = 2 ∨ am_ft c j = 3))) = true := by decide +kernel
theorem N_apart : (List.range 10).all (fun c => (List.range (am_nf c)).all fun a => (List.range (am_nf c)).all fun b => decide (a ≠ b → (am_T c a).2.1 ≠ (am_T c b).2.1)) = true := by decide +kernel
theorem u_in {c : Nat} (hc : c ≤ 9) : ∀ w ∈ u_ws (am_nm c) (am_T c) (am_nf c), w ∈ LW := by
  intro w hw
  have h := List.all_eq_true.mp U_words c (List.mem_range.mpr (by omega))
  refine LW_of (am_sub_mem _ _ h w hw) ?_
  obtain ⟨j, -, rfl⟩ := List.mem_map.mp hw
  unfold u_lay
  split <;> rfl
theorem T_at {c j : Nat} (hc : c ≤ 9) (hj : j < am_nf c) : parseFieldDescriptor (am_T c j).2.2.1 = some (am_fd c j) ∧ (am_ft c j = 0 → am_fd c j = .int) ∧ (am_ft c j = 1 → am_fd c j = .long) ∧ (am_ft c j = 3 → am_fd c j = .boolean) ∧ (am_ft c j = 2 → (match am_fd c j with | .object _ => true | .array _ => true | _ => false) = true) ∧ (am_ft c j = 0 ∨ am_ft c j = 1 ∨ am_ft c j = 2 ∨ am_ft c j = 3) := by
  have h := List.all_eq_true.mp (List.all_eq_true.mp T_ok c (List.mem_range.mpr (by omega))) j (List.mem_range.mpr hj)
  exact of_decide_eq_true h
theorem N_at {c a b : Nat} (hc : c ≤ 9) (ha : a < am_nf c) (hb : b < am_nf c) (hne : a ≠ b) : (am_T c a).2.1 ≠ (am_T c b).2.1 := by
  have h := List.all_eq_true.mp (List.all_eq_true.mp (List.all_eq_true.mp N_apart c (List.mem_range.mpr (by omega))) a (List.mem_range.mpr ha)) b (List.mem_range.mpr hb)
  exact (of_decide_eq_true h) hne
theorem cell_obj {G : AG} {g r : GH} {i : Int} {c : Nat} (h : am_sh i = c) (hc : c ≤ 9) : cellE G g r i = .inr (c, (List.range (am_nf c)).map fun j => fvl G (am_ft c j) (g i (j : Int)) (r i (j : Int))) := by
  unfold cellE; rw [h, if_pos hc]
theorem cell_int {G : AG} {g r : GH} {i : Int} {c : Nat} (h : am_sh i = c) (hc : c = 10 ∨ c = 11 ∨ c = 13) : cellE G g r i = .inl (G.2.2.2.2 c, (am_ln i).toNat, .inl fun j => Int32.ofInt (g i (j : Int))) := by
  unfold cellE; rw [h, if_neg (by omega), if_neg (by omega), if_neg (by omega)]
theorem cell_long {G : AG} {g r : GH} {i : Int} (h : am_sh i = 12) : cellE G g r i = .inl (G.2.2.2.2 12, (am_ln i).toNat, .inr (.inl fun j => Int64.ofInt (g i (j : Int)))) := by
  unfold cellE; rw [h, if_neg (by omega), if_pos rfl]
theorem cell_ref {G : AG} {g r : GH} {i : Int} {c : Nat} (h : am_sh i = c) (hc : c = 14 ∨ c = 15) : cellE G g r i = .inl (G.2.2.2.2 c, (am_ln i).toNat, .inr (.inr (.inr (.inr fun j => rfo G (r i (j : Int)))))) := by
  unfold cellE; rw [h, if_neg (by omega), if_neg (by omega), if_pos (by omega)]
theorem am_at_inv {α : Type} {k idx : Nat} {L : List (Nat × α)} {e : α} (h : am_at k idx L = some e) : idx < 100000 ∧ am_lk (am_key k idx) L = some e := by
  unfold am_at at h; split at h
  · exact ⟨‹_›, h⟩
  · cases h
theorem F_at {k idx : Nat} {e : Nat × Nat × Nat × Bool × Nat} (h : am_at k idx am_FL = some e) : e.1 ≤ 9 ∧ e.2.1 < am_nf e.1 ∧ am_ft e.1 e.2.1 = e.2.2.1 ∧ (am_T e.1 e.2.1).2.2.2 = e.2.2.2.1 ∧ (am_T e.1 e.2.1).1 = am_nm e.1 ∧ Cond.fieldLink (am_cn (am_own k)) idx (am_T e.1 e.2.1).1 (am_T e.1 e.2.1).2.1 (am_T e.1 e.2.1).2.2.1 ∈ LW := by
  obtain ⟨hi, h⟩ := am_at_inv h
  have hm := am_lk_mem h
  have h1 := of_decide_eq_true (List.all_eq_true.mp F_ok _ hm)
  have h2 := LW_of (am_sub_mem _ _ F_words _ (List.mem_map_of_mem hm)) rfl
  have e1 : am_key k idx / 100000 = am_own k := by unfold am_key; omega
  have e2 : am_key k idx % 100000 = idx := by unfold am_key; omega
  unfold w_F at h2
  dsimp only at h1 h2
  rw [e1, e2] at h2
  exact ⟨h1.1, h1.2.1, h1.2.2.1, h1.2.2.2.1, h1.2.2.2.2, h2⟩
end
section
/-! each step of the machine of numbers is a step of the JVM's -/
def StrOK (G : AG) (U : State) : Prop := ∃ adV : Nat → Nat, vk_S 22 ((am_sb).map List.length) ((am_sb).map fun l => l.map Int32.ofInt) G.2.2.1 adV (fun q => G.1 ≤ q) U U.heap ∧ va_Z "java/lang/String" "COMPACT_STRINGS" "Z" (.int 1) (fun q => G.1 ≤ q) U U.heap ∧ va_Zq "jdk/internal/util/Preconditions" "SIOOBE_FORMATTER" "Ljava/util/function/BiFunction;" (fun q => G.1 ≤ q) U U.heap
def StrR (G : AG) (U : State) : Prop := ∀ e ∈ am_SL, vk_R (am_cn (e.1 / 100000)) (e.1 % 100000) (am_st.getD e.2.1 "") (G.2.2.1 e.2.1) U
def TXs (G : AG) (sc : SCR) (U : State) : Prop := va_X G.2.1 sc.1.toNat (fun j => Int32.ofInt (sc.2 (j : Int))) U U.heap ∧ G.2.1 < G.1 ∧ rI sc.1 ∧ 0 ≤ sc.1 ∧ (∀ j, rI (sc.2 j)) ∧ StrR G U ∧ StrOK G U ∧ va_AO "MillRow$Mill" U ∧ va_AO "MillRow$Brook" U ∧ ∀ q ∈ am_CL, (q.2.2.2.1 = 3 ∨ q.2.2.2.1 = 5) → va_Nw (w_C q) U
abbrev CX (p : Program) (R : Room) (s : State) (m : MethodId) (args : Array Value) (meth : Method) (c : Code) (G : AG) (sc : SCR) (d k : Nat) (n0 : Int) : Prop :=
  p.tables.exec = Jvm.exec ∧ c.code = am_code k ∧ c.maxLocals = am_maxL k ∧ s.vm.findClass (am_cn (am_own k)) = some m.cls ∧ (∀ w ∈ LW, w.before args s = true) ∧ va_K G.2.2.2.1 am_cl (tyA G) s ∧ (am_isI k = true → meth.name = "<init>") ∧
  (d + 1 ≤ R.frames ∧ 64 * d + 64 ≤ R.locals ∧ am_mk k ≤ R.cells ∧ am_cs (n0 + am_mk k) - am_cs n0 ≤ R.slots) ∧ (0 ≤ n0 ∧ n0 + am_mk k ≤ 218) ∧ TXs G sc s ∧ s.heap.size = G.1 + n0.toNat
def Gd (p : Program) (l : Launch) (e : Env) (R : Room) (s : State) (m : MethodId) (args : Array Value) (below : List Frame) (meth : Method) (c : Code) (G : AG) (k : Nat) (n0 : Int) (QE : State → Prop) : XT := fun pc ls st g r n =>
  n0 ≤ n → n ≤ n0 + am_mk k → (∀ v ∈ st, okv v) → (∀ v ∈ ls, okv v) → ls.length = am_maxL k → okG g r → ∀ (H : Heap) (locs : List Loc) (lsM : Array Slot), True → va_P G.2.2.2.1 am_cl (wd G g r n) H → va_S (fun q => G.1 ≤ q) s.heap H locs → lv_has lsM (am_maxL k) (lvl G 0 ls) →
  W p l e R s m args below meth c H locs (n - n0).toNat (am_cs n - am_cs n0) QE (F0 m pc lsM (st.map (tv G)))
theorem fa_cons {α : Type} {P : α → Prop} {a : α} {l : List α} (h1 : P a) (h2 : ∀ x ∈ l, P x) : ∀ x ∈ a :: l, P x := List.forall_mem_cons.mpr ⟨h1, h2⟩
theorem fa_hd {α : Type} {P : α → Prop} {a : α} {l : List α} (h : ∀ x ∈ a :: l, P x) : P a := h a List.mem_cons_self
theorem fa_tl {α : Type} {P : α → Prop} {a : α} {l : List α} (h : ∀ x ∈ a :: l, P x) : ∀ x ∈ l, P x := fun x hx => h x (List.mem_cons_of_mem _ hx)
section SND
variable {p : Program} {l : Launch} {e : Env} {R : Room} {s : State} {m : MethodId} {args : Array Value} {below : List Frame} {meth : Method} {c : Code} {G : AG} {sc : SCR} {d k : Nat} {n0 : Int} {QE : State → Prop}
variable {pc pc2 : Nat} {ls st st2 : List AV} {g r : GH} {n : Int}
theorem gd_pure (S S2 : List Value) (hS : st.map (tv G) = S) (hS2 : st2.map (tv G) = S2)
    (hrow : ∀ (H : Heap) (locs : List Loc) (cells slots : Nat) (lsM : Array Slot), lv_has lsM (am_maxL k) (lvl G 0 ls) → W p l e R s m args below meth c H locs cells slots QE (F0 m pc2 lsM S2) → W p l e R s m args below meth c H locs cells slots QE (F0 m pc lsM S))
    (hok : (∀ v ∈ st, okv v) → (∀ v ∈ ls, okv v) → ∀ v ∈ st2, okv v) (h : Gd p l e R s m args below meth c G k n0 QE pc2 ls st2 g r n) : Gd p l e R s m args below meth c G k n0 QE pc ls st g r n := by
  intro a1 a2 a3 a4 a5 a6 H locs lsM b1 b2 b3 b4
  have w := h a1 a2 (hok a3 a4) a4 a5 a6 H locs lsM b1 b2 b3 b4
  rw [hS2] at w
  rw [hS]
  exact hrow H locs _ _ lsM b4 w
theorem g_const (C : CX p R s m args meth c G sc d k n0) {v : Int} {i : Instr} {len : Nat} (hd : decode (am_code k) pc = .ok (i, len)) (hi : i = .iconst v ∧ len = 1 ∨ i = .bipush v ∧ len = 2 ∨ i = .sipush v ∧ len = 3) (hv : rI v) (hw : i = .bipush v → (Int8.ofInt v).toInt32 = Int32.ofInt v) (hw2 : i = .sipush v → (Int16.ofInt v).toInt32 = Int32.ofInt v)
    (h : Gd p l e R s m args below meth c G k n0 QE (pc + len) ls ((0, v) :: st) g r n) : Gd p l e R s m args below meth c G k n0 QE pc ls st g r n := by
  refine gd_pure _ _ rfl rfl (fun H locs cells slots lsM _ w => ?_) (fun h1 _ => fa_cons (ok0 hv) h1) h
  rcases hi with ⟨rfl, rfl⟩ | ⟨rfl, rfl⟩ | ⟨rfl, rfl⟩
  · exact lv_iconst (v := Int32.ofInt v) C.1 C.2.1 hd rfl w
  · exact lv_bipush (v := Int32.ofInt v) C.1 C.2.1 hd (hw rfl) w
  · exact lv_sipush (v := Int32.ofInt v) C.1 C.2.1 hd (hw2 rfl) w
theorem g_lconst (C : CX p R s m args meth c G sc d k n0) {v : Fin 2} (hd : decode (am_code k) pc = .ok (.lconst v, 1))
    (h : Gd p l e R s m args below meth c G k n0 QE (pc + 1) ls ((1, ((v : Nat) : Int)) :: st) g r n) : Gd p l e R s m args below meth c G k n0 QE pc ls st g r n :=
  gd_pure _ (.long (Int64.ofNat (v : Nat)) :: st.map (tv G)) rfl rfl (fun H locs cells slots lsM _ w => lv_lconst C.1 C.2.1 hd rfl w) (fun h1 _ => fa_cons (ok1 ⟨by omega, by omega⟩) h1) h
theorem g_null (C : CX p R s m args meth c G sc d k n0) (hd : decode (am_code k) pc = .ok (.aconst_null, 1))
    (h : Gd p l e R s m args below meth c G k n0 QE (pc + 1) ls ((2, -1) :: st) g r n) : Gd p l e R s m args below meth c G k n0 QE pc ls st g r n :=
  gd_pure _ (.null :: st.map (tv G)) rfl rfl (fun H locs cells slots lsM _ w => lv_null C.1 C.2.1 hd w) (fun h1 _ => fa_cons (ok2 (Or.inl rfl)) h1) h
theorem g_iload (C : CX p R s m args meth c G sc d k n0) {j : Nat} {x : Int} {i : Instr} {len : Nat} (hd : decode (am_code k) pc = .ok (i, len)) (hi : (∃ q : Fin 4, i = .iload_n q ∧ (q : Nat) = j ∧ len = 1) ∨ i = .iload j ∧ len = 2) (hl : ls[j]? = some (0, x))
    (h : Gd p l e R s m args below meth c G k n0 QE (pc + len) ls ((0, x) :: st) g r n) : Gd p l e R s m args below meth c G k n0 QE pc ls st g r n := by
  refine gd_pure _ (.int (Int32.ofInt x) :: st.map (tv G)) rfl rfl (fun H locs cells slots lsM hL w => ?_) (fun h1 h2 => fa_cons (h2 _ (List.mem_of_getElem? hl)) h1) h
  have ha := lvl_at hL hl (by decide)
  rcases hi with ⟨q, rfl, hq, rfl⟩ | ⟨rfl, rfl⟩
  · exact lv_iload_n C.1 C.2.1 hd hq ha w
  · exact lv_iload C.1 C.2.1 hd ha w
theorem g_lload (C : CX p R s m args meth c G sc d k n0) {j : Nat} {x : Int} {i : Instr} {len : Nat} (hd : decode (am_code k) pc = .ok (i, len)) (hi : (∃ q : Fin 4, i = .lload_n q ∧ (q : Nat) = j ∧ len = 1) ∨ i = .lload j ∧ len = 2) (hl : ls[j]? = some (1, x))
    (h : Gd p l e R s m args below meth c G k n0 QE (pc + len) ls ((1, x) :: st) g r n) : Gd p l e R s m args below meth c G k n0 QE pc ls st g r n := by
  refine gd_pure _ (.long (Int64.ofInt x) :: st.map (tv G)) rfl rfl (fun H locs cells slots lsM hL w => ?_) (fun h1 h2 => fa_cons (h2 _ (List.mem_of_getElem? hl)) h1) h
  have ha := lvl_at hL hl (by decide)
  rcases hi with ⟨q, rfl, hq, rfl⟩ | ⟨rfl, rfl⟩
  · exact lv_lload_n C.1 C.2.1 hd hq ha w
  · exact lv_lload C.1 C.2.1 hd ha w
theorem rf_cases (o : Option Nat) : va_rf o = .null ∨ ∃ a, va_rf o = .ref a := by cases o with
  | none => exact Or.inl rfl
  | some a => exact Or.inr ⟨a, rfl⟩
theorem g_aload (C : CX p R s m args meth c G sc d k n0) {j : Nat} {x : Int} {i : Instr} {len : Nat} (hd : decode (am_code k) pc = .ok (i, len)) (hi : (∃ q : Fin 4, i = .aload_n q ∧ (q : Nat) = j ∧ len = 1) ∨ i = .aload j ∧ len = 2) (hl : ls[j]? = some (2, x))
    (h : Gd p l e R s m args below meth c G k n0 QE (pc + len) ls ((2, x) :: st) g r n) : Gd p l e R s m args below meth c G k n0 QE pc ls st g r n := by
  refine gd_pure _ (va_rf (rfo G x) :: st.map (tv G)) rfl rfl (fun H locs cells slots lsM hL w => ?_) (fun h1 h2 => fa_cons (h2 _ (List.mem_of_getElem? hl)) h1) h
  have ha := lvl_at hL hl (by decide)
  rw [tv_2] at ha
  rcases rf_cases (rfo G x) with e | ⟨a, e⟩ <;> rw [e] at ha w
  · rcases hi with ⟨q, rfl, hq, rfl⟩ | ⟨rfl, rfl⟩
    · exact lv_aload_nN C.1 C.2.1 hd hq ha w
    · exact lv_aloadN C.1 C.2.1 hd ha w
  · rcases hi with ⟨q, rfl, hq, rfl⟩ | ⟨rfl, rfl⟩
    · exact lv_aload_n C.1 C.2.1 hd hq ha w
    · exact lv_aload C.1 C.2.1 hd ha w
theorem g_istore (C : CX p R s m args meth c G sc d k n0) {j : Nat} {x : Int} {i : Instr} {len : Nat} (hd : decode (am_code k) pc = .ok (i, len)) (hi : (∃ q : Fin 4, i = .istore_n q ∧ (q : Nat) = j ∧ len = 1) ∨ i = .istore j ∧ len = 2) (hj : j < am_maxL k)
    (h : Gd p l e R s m args below meth c G k n0 QE (pc + len) (am_st1 ls j (0, x)) st g r n) : Gd p l e R s m args below meth c G k n0 QE pc ls ((0, x) :: st) g r n := by
  intro a1 a2 a3 a4 a5 a6 H locs lsM b1 b2 b3 b4
  have w := fun ls' hL => h a1 a2 (fa_tl a3) (st1_ok a4 (fa_hd a3)) (by rw [st1_len]; exact a5) a6 H locs ls' b1 b2 b3 (lv_weak hL st1_sub)
  rcases hi with ⟨q, rfl, hq, rfl⟩ | ⟨rfl, rfl⟩
  · exact lv_istore_n C.1 C.2.1 hd hq b4 hj rfl w
  · exact lv_istore C.1 C.2.1 hd b4 hj rfl w
theorem g_lstore (C : CX p R s m args meth c G sc d k n0) {j : Nat} {x : Int} {i : Instr} {len : Nat} (hd : decode (am_code k) pc = .ok (i, len)) (hi : (∃ q : Fin 4, i = .lstore_n q ∧ (q : Nat) = j ∧ len = 1) ∨ i = .lstore j ∧ len = 2) (hj : j + 1 < am_maxL k)
    (h : Gd p l e R s m args below meth c G k n0 QE (pc + len) (am_st2 ls j (1, x)) st g r n) : Gd p l e R s m args below meth c G k n0 QE pc ls ((1, x) :: st) g r n := by
  intro a1 a2 a3 a4 a5 a6 H locs lsM b1 b2 b3 b4
  have w := fun ls' hL => h a1 a2 (fa_tl a3) (st2_ok a4 (fa_hd a3)) (by rw [st2_len]; exact a5) a6 H locs ls' b1 b2 b3 (lv_weak hL st2_sub)
  rcases hi with ⟨q, rfl, hq, rfl⟩ | ⟨rfl, rfl⟩
  · exact lv_lstore_n C.1 C.2.1 hd hq b4 hj rfl w
  · exact lv_lstore C.1 C.2.1 hd b4 hj rfl w
theorem g_astore (C : CX p R s m args meth c G sc d k n0) {j : Nat} {x : Int} {i : Instr} {len : Nat} (hd : decode (am_code k) pc = .ok (i, len)) (hi : (∃ q : Fin 4, i = .astore_n q ∧ (q : Nat) = j ∧ len = 1) ∨ i = .astore j ∧ len = 2) (hj : j < am_maxL k)
    (h : Gd p l e R s m args below meth c G k n0 QE (pc + len) (am_st1 ls j (2, x)) st g r n) : Gd p l e R s m args below meth c G k n0 QE pc ls ((2, x) :: st) g r n := by
  intro a1 a2 a3 a4 a5 a6 H locs lsM b1 b2 b3 b4
  have w := fun ls' hL => h a1 a2 (fa_tl a3) (st1_ok a4 (fa_hd a3)) (by rw [st1_len]; exact a5) a6 H locs ls' b1 b2 b3 (lv_weak hL st1_sub)
  show W p l e R s m args below meth c H locs _ _ QE (F0 m pc lsM (va_rf (rfo G x) :: st.map (tv G)))
  rw [tv_2] at w
  rcases rf_cases (rfo G x) with e | ⟨a, e⟩ <;> rw [e] at w ⊢
  · rcases hi with ⟨q, rfl, hq, rfl⟩ | ⟨rfl, rfl⟩
    · exact lv_astore_nN C.1 C.2.1 hd hq b4 hj rfl w
    · exact lv_astoreN C.1 C.2.1 hd b4 hj rfl w
  · rcases hi with ⟨q, rfl, hq, rfl⟩ | ⟨rfl, rfl⟩
    · exact lv_astore_n C.1 C.2.1 hd hq b4 hj rfl w
    · exact lv_astore C.1 C.2.1 hd b4 hj rfl w
theorem g_iinc (C : CX p R s m args meth c G sc d k n0) {j : Nat} {x q : Int} (hd : decode (am_code k) pc = .ok (.iinc j q, 3)) (hj : j < am_maxL k) (hl : ls[j]? = some (0, x))
    (h : Gd p l e R s m args below meth c G k n0 QE (pc + 3) (am_st1 ls j (0, wr (x + q))) st g r n) : Gd p l e R s m args below meth c G k n0 QE pc ls st g r n := by
  intro a1 a2 a3 a4 a5 a6 H locs lsM b1 b2 b3 b4
  have w := fun ls' hL => h a1 a2 a3 (st1_ok a4 (ok0 (wr_rng _))) (by rw [st1_len]; exact a5) a6 H locs ls' b1 b2 b3 (lv_weak hL st1_sub)
  obtain ⟨k0, hk0⟩ := List.getElem?_of_mem ((lvl_mem (G := G) ls 0 j _).mpr ⟨(0, x), Nat.zero_le _, hl, Nat.zero_le 2, rfl⟩)
  rw [tv_0, wr_of, Int32.ofInt_add] at w
  exact lv_iinc C.1 C.2.1 hd b4 hk0 rfl hj rfl w
theorem g_dup (C : CX p R s m args meth c G sc d k n0) {v : AV} (hd : decode (am_code k) pc = .ok (.dup, 1)) (hv : v.1 ≠ 1)
    (h : Gd p l e R s m args below meth c G k n0 QE (pc + 1) ls (v :: v :: st) g r n) : Gd p l e R s m args below meth c G k n0 QE pc ls (v :: st) g r n :=
  gd_pure (tv G v :: st.map (tv G)) (tv G v :: tv G v :: st.map (tv G)) rfl rfl (fun H locs cells slots lsM _ w => lv_dup C.1 C.2.1 hd (by rw [tv_cat, if_neg hv]) w) (fun h1 _ => fa_cons (fa_hd h1) h1) h
theorem g_dup2 (C : CX p R s m args meth c G sc d k n0) {v w : AV} (hd : decode (am_code k) pc = .ok (.dup2, 1)) (hv : v.1 ≠ 1) (hw : w.1 ≠ 1)
    (h : Gd p l e R s m args below meth c G k n0 QE (pc + 1) ls (v :: w :: v :: w :: st) g r n) : Gd p l e R s m args below meth c G k n0 QE pc ls (v :: w :: st) g r n :=
  gd_pure (tv G v :: tv G w :: st.map (tv G)) (tv G v :: tv G w :: tv G v :: tv G w :: st.map (tv G)) rfl rfl (fun H locs cells slots lsM _ z => lv_dup2_11 C.1 C.2.1 hd (by rw [tv_cat, if_neg hv]) (by rw [tv_cat, if_neg hw]) z) (fun h1 _ => fa_cons (fa_hd h1) (fa_cons (fa_hd (fa_tl h1)) h1)) h
theorem g_pop (C : CX p R s m args meth c G sc d k n0) {v : AV} (hd : decode (am_code k) pc = .ok (.pop, 1)) (hv : v.1 ≠ 1)
    (h : Gd p l e R s m args below meth c G k n0 QE (pc + 1) ls st g r n) : Gd p l e R s m args below meth c G k n0 QE pc ls (v :: st) g r n :=
  gd_pure (tv G v :: st.map (tv G)) (st.map (tv G)) rfl rfl (fun H locs cells slots lsM _ w => lv_pop C.1 C.2.1 hd (by rw [tv_cat, if_neg hv]) w) (fun h1 _ => fa_tl h1) h
theorem g_pop2 (C : CX p R s m args meth c G sc d k n0) {v : Int} (hd : decode (am_code k) pc = .ok (.pop2, 1))
    (h : Gd p l e R s m args below meth c G k n0 QE (pc + 1) ls st g r n) : Gd p l e R s m args below meth c G k n0 QE pc ls ((1, v) :: st) g r n :=
  gd_pure (.long (Int64.ofInt v) :: st.map (tv G)) (st.map (tv G)) rfl rfl (fun H locs cells slots lsM _ w => lv_pop2_2 C.1 C.2.1 hd rfl w) (fun h1 _ => fa_tl h1) h
end SND
end
section
/-! arithmetic and branches -/
theorem i_div {x y : Int} (hx : rI x) (hy : rI y) : Int32.ofInt x / Int32.ofInt y = Int32.ofInt (x.tdiv y) := by
  apply Int32.toInt_inj.mp
  rw [Int32.toInt_div, Int32.toInt_ofInt_of_le hx.1 hx.2, Int32.toInt_ofInt_of_le hy.1 hy.2, Int32.toInt_ofInt]
theorem l_div {x y : Int} (hx : rL x) (hy : rL y) : Int64.ofInt x / Int64.ofInt y = Int64.ofInt (x.tdiv y) := by
  apply Int64.toInt_inj.mp
  rw [Int64.toInt_div, Int64.toInt_ofInt_of_le hx.1 hx.2, Int64.toInt_ofInt_of_le hy.1 hy.2, Int64.toInt_ofInt]
theorem i_rem {x y : Int} (hx : rI x) (hy : rI y) : Int32.ofInt x - Int32.ofInt x / Int32.ofInt y * Int32.ofInt y = Int32.ofInt (x.tmod y) := by
  rw [i_div hx hy, ← Int32.ofInt_mul, ← Int32.ofInt_sub, Int.tmod_def, Int.mul_comm y]
theorem l_rem {x y : Int} (hx : rL x) (hy : rL y) : Int64.ofInt x - Int64.ofInt x / Int64.ofInt y * Int64.ofInt y = Int64.ofInt (x.tmod y) := by
  rw [l_div hx hy, ← Int64.ofInt_mul, ← Int64.ofInt_sub, Int.tmod_def, Int.mul_comm y]
theorem tmod_le {x y : Int} {M : Int} (h1 : -M ≤ x) (h2 : x < M) : -M ≤ x.tmod y ∧ x.tmod y < M := by
  have ha : (x.tmod y).natAbs ≤ x.natAbs := by rw [Int.natAbs_tmod]; exact Nat.mod_le _ _
  rcases Int.le_total 0 x with h | h
  · have := Int.tmod_nonneg y h
    omega
  · have h3 := Int.tmod_nonneg y (show 0 ≤ -x by omega)
    rw [Int.neg_tmod] at h3
    omega
theorem rI_tmod {x y : Int} (h : rI x) : rI (x.tmod y) := tmod_le h.1 h.2
theorem rL_tmod {x y : Int} (h : rL x) : rL (x.tmod y) := tmod_le h.1 h.2
theorem cmp_l {x y : Int} (hx : rL x) (hy : rL y) : lg_cmp (Int64.ofInt x) (Int64.ofInt y) = Int32.ofInt (cmpL x y) := by
  unfold lg_cmp cmpL
  by_cases h1 : y < x
  · rw [if_pos ((l_lt hy hx).mpr h1), if_pos h1]; rfl
  · rw [if_neg (fun q => h1 ((l_lt hy hx).mp q)), if_neg h1]
    by_cases h2 : x = y
    · rw [if_pos ((l_eq hx hy).mpr h2), if_pos h2]; rfl
    · rw [if_neg (fun q => h2 ((l_eq hx hy).mp q)), if_neg h2]; rfl
theorem tv_i {G : AG} (E : Int32) : tv G (0, E.toInt) = .int E := by rw [tv_0, Int32.ofInt_toInt]
theorem tv_l {G : AG} (E : Int64) : tv G (1, E.toInt) = .long E := by rw [tv_1, Int64.ofInt_toInt]
theorem cmp_rng (x y : Int) : rI (cmpL x y) := by unfold cmpL rI; split <;> (try split) <;> decide
section SN2
variable {p : Program} {l : Launch} {e : Env} {R : Room} {s : State} {m : MethodId} {args : Array Value} {below : List Frame} {meth : Method} {c : Code} {G : AG} {sc : SCR} {d k : Nat} {n0 : Int} {QE : State → Prop}
variable {pc pc2 : Nat} {ls st st2 : List AV} {g r : GH} {n : Int}
theorem g_iadd (C : CX p R s m args meth c G sc d k n0) {x y : Int} (hd : decode (am_code k) pc = .ok (.iadd, 1)) (h : Gd p l e R s m args below meth c G k n0 QE (pc + 1) ls ((0, wr (x + y)) :: st) g r n) : Gd p l e R s m args below meth c G k n0 QE pc ls ((0, y) :: (0, x) :: st) g r n :=
  gd_pure (.int (Int32.ofInt y) :: .int (Int32.ofInt x) :: st.map (tv G)) (.int (Int32.ofInt x + Int32.ofInt y) :: st.map (tv G)) rfl (by rw [List.map_cons, tv_0, wr_of, Int32.ofInt_add]) (fun H locs cells slots lsM _ w => lv_iadd C.1 C.2.1 hd w) (fun h1 _ => fa_cons (ok0 (wr_rng _)) (fa_tl (fa_tl h1))) h
theorem g_isub (C : CX p R s m args meth c G sc d k n0) {x y : Int} (hd : decode (am_code k) pc = .ok (.isub, 1)) (h : Gd p l e R s m args below meth c G k n0 QE (pc + 1) ls ((0, wr (x - y)) :: st) g r n) : Gd p l e R s m args below meth c G k n0 QE pc ls ((0, y) :: (0, x) :: st) g r n :=
  gd_pure (.int (Int32.ofInt y) :: .int (Int32.ofInt x) :: st.map (tv G)) (.int (Int32.ofInt x - Int32.ofInt y) :: st.map (tv G)) rfl (by rw [List.map_cons, tv_0, wr_of, Int32.ofInt_sub]) (fun H locs cells slots lsM _ w => lv_isub C.1 C.2.1 hd w) (fun h1 _ => fa_cons (ok0 (wr_rng _)) (fa_tl (fa_tl h1))) h
theorem g_imul (C : CX p R s m args meth c G sc d k n0) {x y : Int} (hd : decode (am_code k) pc = .ok (.imul, 1)) (h : Gd p l e R s m args below meth c G k n0 QE (pc + 1) ls ((0, wr (x * y)) :: st) g r n) : Gd p l e R s m args below meth c G k n0 QE pc ls ((0, y) :: (0, x) :: st) g r n :=
  gd_pure (.int (Int32.ofInt y) :: .int (Int32.ofInt x) :: st.map (tv G)) (.int (Int32.ofInt x * Int32.ofInt y) :: st.map (tv G)) rfl (by rw [List.map_cons, tv_0, wr_of, Int32.ofInt_mul]) (fun H locs cells slots lsM _ w => lv_imul C.1 C.2.1 hd w) (fun h1 _ => fa_cons (ok0 (wr_rng _)) (fa_tl (fa_tl h1))) h
theorem g_ladd (C : CX p R s m args meth c G sc d k n0) {x y : Int} (hd : decode (am_code k) pc = .ok (.ladd, 1)) (h : Gd p l e R s m args below meth c G k n0 QE (pc + 1) ls ((1, wL (x + y)) :: st) g r n) : Gd p l e R s m args below meth c G k n0 QE pc ls ((1, y) :: (1, x) :: st) g r n :=
  gd_pure (.long (Int64.ofInt y) :: .long (Int64.ofInt x) :: st.map (tv G)) (.long (Int64.ofInt x + Int64.ofInt y) :: st.map (tv G)) rfl (by rw [List.map_cons, tv_1, wL_of, Int64.ofInt_add]) (fun H locs cells slots lsM _ w => lv_ladd C.1 C.2.1 hd w) (fun h1 _ => fa_cons (ok1 (wL_rng _)) (fa_tl (fa_tl h1))) h
theorem g_lsub (C : CX p R s m args meth c G sc d k n0) {x y : Int} (hd : decode (am_code k) pc = .ok (.lsub, 1)) (h : Gd p l e R s m args below meth c G k n0 QE (pc + 1) ls ((1, wL (x - y)) :: st) g r n) : Gd p l e R s m args below meth c G k n0 QE pc ls ((1, y) :: (1, x) :: st) g r n :=
  gd_pure (.long (Int64.ofInt y) :: .long (Int64.ofInt x) :: st.map (tv G)) (.long (Int64.ofInt x - Int64.ofInt y) :: st.map (tv G)) rfl (by rw [List.map_cons, tv_1, wL_of, Int64.ofInt_sub]) (fun H locs cells slots lsM _ w => lv_lsub C.1 C.2.1 hd w) (fun h1 _ => fa_cons (ok1 (wL_rng _)) (fa_tl (fa_tl h1))) h
theorem g_lmul (C : CX p R s m args meth c G sc d k n0) {x y : Int} (hd : decode (am_code k) pc = .ok (.lmul, 1)) (h : Gd p l e R s m args below meth c G k n0 QE (pc + 1) ls ((1, wL (x * y)) :: st) g r n) : Gd p l e R s m args below meth c G k n0 QE pc ls ((1, y) :: (1, x) :: st) g r n :=
  gd_pure (.long (Int64.ofInt y) :: .long (Int64.ofInt x) :: st.map (tv G)) (.long (Int64.ofInt x * Int64.ofInt y) :: st.map (tv G)) rfl (by rw [List.map_cons, tv_1, wL_of, Int64.ofInt_mul]) (fun H locs cells slots lsM _ w => lv_lmul C.1 C.2.1 hd w) (fun h1 _ => fa_cons (ok1 (wL_rng _)) (fa_tl (fa_tl h1))) h
theorem g_iand (C : CX p R s m args meth c G sc d k n0) {x y : Int} (hd : decode (am_code k) pc = .ok (.iand, 1)) (h : Gd p l e R s m args below meth c G k n0 QE (pc + 1) ls ((0, i_and x y) :: st) g r n) : Gd p l e R s m args below meth c G k n0 QE pc ls ((0, y) :: (0, x) :: st) g r n :=
  gd_pure (.int (Int32.ofInt y) :: .int (Int32.ofInt x) :: st.map (tv G)) (.int (Int32.ofInt x &&& Int32.ofInt y) :: st.map (tv G)) rfl (by exact congrArg (fun z => z :: st.map (tv G)) (tv_i (G := G) (Int32.ofInt x &&& Int32.ofInt y))) (fun H locs cells slots lsM _ w => lv_iand C.1 C.2.1 hd w) (fun h1 _ => fa_cons (ok0 ⟨Int32.le_toInt _, Int32.toInt_lt _⟩) (fa_tl (fa_tl h1))) h
theorem g_ior (C : CX p R s m args meth c G sc d k n0) {x y : Int} (hd : decode (am_code k) pc = .ok (.ior, 1)) (h : Gd p l e R s m args below meth c G k n0 QE (pc + 1) ls ((0, i_or x y) :: st) g r n) : Gd p l e R s m args below meth c G k n0 QE pc ls ((0, y) :: (0, x) :: st) g r n :=
  gd_pure (.int (Int32.ofInt y) :: .int (Int32.ofInt x) :: st.map (tv G)) (.int (Int32.ofInt x ||| Int32.ofInt y) :: st.map (tv G)) rfl (by exact congrArg (fun z => z :: st.map (tv G)) (tv_i (G := G) (Int32.ofInt x ||| Int32.ofInt y))) (fun H locs cells slots lsM _ w => lv_ior C.1 C.2.1 hd w) (fun h1 _ => fa_cons (ok0 ⟨Int32.le_toInt _, Int32.toInt_lt _⟩) (fa_tl (fa_tl h1))) h
theorem g_ixor (C : CX p R s m args meth c G sc d k n0) {x y : Int} (hd : decode (am_code k) pc = .ok (.ixor, 1)) (h : Gd p l e R s m args below meth c G k n0 QE (pc + 1) ls ((0, i_xor x y) :: st) g r n) : Gd p l e R s m args below meth c G k n0 QE pc ls ((0, y) :: (0, x) :: st) g r n :=
  gd_pure (.int (Int32.ofInt y) :: .int (Int32.ofInt x) :: st.map (tv G)) (.int (Int32.ofInt x ^^^ Int32.ofInt y) :: st.map (tv G)) rfl (by exact congrArg (fun z => z :: st.map (tv G)) (tv_i (G := G) (Int32.ofInt x ^^^ Int32.ofInt y))) (fun H locs cells slots lsM _ w => lv_ixor C.1 C.2.1 hd w) (fun h1 _ => fa_cons (ok0 ⟨Int32.le_toInt _, Int32.toInt_lt _⟩) (fa_tl (fa_tl h1))) h
theorem g_ishl (C : CX p R s m args meth c G sc d k n0) {x y : Int} (hd : decode (am_code k) pc = .ok (.ishl, 1)) (h : Gd p l e R s m args below meth c G k n0 QE (pc + 1) ls ((0, i_shl x y) :: st) g r n) : Gd p l e R s m args below meth c G k n0 QE pc ls ((0, y) :: (0, x) :: st) g r n :=
  gd_pure (.int (Int32.ofInt y) :: .int (Int32.ofInt x) :: st.map (tv G)) (.int (Int32.ofInt x <<< (Int32.ofInt y &&& 31)) :: st.map (tv G)) rfl (by exact congrArg (fun z => z :: st.map (tv G)) (tv_i (G := G) (Int32.ofInt x <<< (Int32.ofInt y &&& 31)))) (fun H locs cells slots lsM _ w => lv_ishl C.1 C.2.1 hd w) (fun h1 _ => fa_cons (ok0 ⟨Int32.le_toInt _, Int32.toInt_lt _⟩) (fa_tl (fa_tl h1))) h
theorem g_ishr (C : CX p R s m args meth c G sc d k n0) {x y : Int} (hd : decode (am_code k) pc = .ok (.ishr, 1)) (h : Gd p l e R s m args below meth c G k n0 QE (pc + 1) ls ((0, i_shr x y) :: st) g r n) : Gd p l e R s m args below meth c G k n0 QE pc ls ((0, y) :: (0, x) :: st) g r n :=
  gd_pure (.int (Int32.ofInt y) :: .int (Int32.ofInt x) :: st.map (tv G)) (.int (Int32.ofInt x >>> (Int32.ofInt y &&& 31)) :: st.map (tv G)) rfl (by exact congrArg (fun z => z :: st.map (tv G)) (tv_i (G := G) (Int32.ofInt x >>> (Int32.ofInt y &&& 31)))) (fun H locs cells slots lsM _ w => lv_ishr C.1 C.2.1 hd w) (fun h1 _ => fa_cons (ok0 ⟨Int32.le_toInt _, Int32.toInt_lt _⟩) (fa_tl (fa_tl h1))) h
theorem g_land (C : CX p R s m args meth c G sc d k n0) {x y : Int} (hd : decode (am_code k) pc = .ok (.land, 1)) (h : Gd p l e R s m args below meth c G k n0 QE (pc + 1) ls ((1, l_and x y) :: st) g r n) : Gd p l e R s m args below meth c G k n0 QE pc ls ((1, y) :: (1, x) :: st) g r n :=
  gd_pure (.long (Int64.ofInt y) :: .long (Int64.ofInt x) :: st.map (tv G)) (.long (Int64.ofInt x &&& Int64.ofInt y) :: st.map (tv G)) rfl (by exact congrArg (fun z => z :: st.map (tv G)) (tv_l (G := G) (Int64.ofInt x &&& Int64.ofInt y))) (fun H locs cells slots lsM _ w => lv_land C.1 C.2.1 hd w) (fun h1 _ => fa_cons (ok1 ⟨Int64.le_toInt _, Int64.toInt_lt _⟩) (fa_tl (fa_tl h1))) h
theorem g_lor (C : CX p R s m args meth c G sc d k n0) {x y : Int} (hd : decode (am_code k) pc = .ok (.lor, 1)) (h : Gd p l e R s m args below meth c G k n0 QE (pc + 1) ls ((1, l_or x y) :: st) g r n) : Gd p l e R s m args below meth c G k n0 QE pc ls ((1, y) :: (1, x) :: st) g r n :=
  gd_pure (.long (Int64.ofInt y) :: .long (Int64.ofInt x) :: st.map (tv G)) (.long (Int64.ofInt x ||| Int64.ofInt y) :: st.map (tv G)) rfl (by exact congrArg (fun z => z :: st.map (tv G)) (tv_l (G := G) (Int64.ofInt x ||| Int64.ofInt y))) (fun H locs cells slots lsM _ w => lv_lor C.1 C.2.1 hd w) (fun h1 _ => fa_cons (ok1 ⟨Int64.le_toInt _, Int64.toInt_lt _⟩) (fa_tl (fa_tl h1))) h
theorem g_lxor (C : CX p R s m args meth c G sc d k n0) {x y : Int} (hd : decode (am_code k) pc = .ok (.lxor, 1)) (h : Gd p l e R s m args below meth c G k n0 QE (pc + 1) ls ((1, l_xor x y) :: st) g r n) : Gd p l e R s m args below meth c G k n0 QE pc ls ((1, y) :: (1, x) :: st) g r n :=
  gd_pure (.long (Int64.ofInt y) :: .long (Int64.ofInt x) :: st.map (tv G)) (.long (Int64.ofInt x ^^^ Int64.ofInt y) :: st.map (tv G)) rfl (by exact congrArg (fun z => z :: st.map (tv G)) (tv_l (G := G) (Int64.ofInt x ^^^ Int64.ofInt y))) (fun H locs cells slots lsM _ w => lv_lxor C.1 C.2.1 hd w) (fun h1 _ => fa_cons (ok1 ⟨Int64.le_toInt _, Int64.toInt_lt _⟩) (fa_tl (fa_tl h1))) h
theorem g_lshl (C : CX p R s m args meth c G sc d k n0) {x y : Int} (hd : decode (am_code k) pc = .ok (.lshl, 1)) (h : Gd p l e R s m args below meth c G k n0 QE (pc + 1) ls ((1, l_shl x y) :: st) g r n) : Gd p l e R s m args below meth c G k n0 QE pc ls ((0, y) :: (1, x) :: st) g r n :=
  gd_pure (.int (Int32.ofInt y) :: .long (Int64.ofInt x) :: st.map (tv G)) (.long (Int64.ofInt x <<< ((Int32.ofInt y).toInt64 &&& 63)) :: st.map (tv G)) rfl (by exact congrArg (fun z => z :: st.map (tv G)) (tv_l (G := G) (Int64.ofInt x <<< ((Int32.ofInt y).toInt64 &&& 63)))) (fun H locs cells slots lsM _ w => lv_lshl C.1 C.2.1 hd rfl w) (fun h1 _ => fa_cons (ok1 ⟨Int64.le_toInt _, Int64.toInt_lt _⟩) (fa_tl (fa_tl h1))) h
theorem g_lshr (C : CX p R s m args meth c G sc d k n0) {x y : Int} (hd : decode (am_code k) pc = .ok (.lshr, 1)) (h : Gd p l e R s m args below meth c G k n0 QE (pc + 1) ls ((1, l_shr x y) :: st) g r n) : Gd p l e R s m args below meth c G k n0 QE pc ls ((0, y) :: (1, x) :: st) g r n :=
  gd_pure (.int (Int32.ofInt y) :: .long (Int64.ofInt x) :: st.map (tv G)) (.long (Int64.ofInt x >>> ((Int32.ofInt y).toInt64 &&& 63)) :: st.map (tv G)) rfl (by exact congrArg (fun z => z :: st.map (tv G)) (tv_l (G := G) (Int64.ofInt x >>> ((Int32.ofInt y).toInt64 &&& 63)))) (fun H locs cells slots lsM _ w => lv_lshr C.1 C.2.1 hd rfl w) (fun h1 _ => fa_cons (ok1 ⟨Int64.le_toInt _, Int64.toInt_lt _⟩) (fa_tl (fa_tl h1))) h
theorem g_lushr (C : CX p R s m args meth c G sc d k n0) {x y : Int} (hd : decode (am_code k) pc = .ok (.lushr, 1)) (h : Gd p l e R s m args below meth c G k n0 QE (pc + 1) ls ((1, l_ushr x y) :: st) g r n) : Gd p l e R s m args below meth c G k n0 QE pc ls ((0, y) :: (1, x) :: st) g r n :=
  gd_pure (.int (Int32.ofInt y) :: .long (Int64.ofInt x) :: st.map (tv G)) (.long (((Int64.ofInt x).toUInt64 >>> ((Int32.ofInt y).toInt64.toUInt64 &&& Int64.toUInt64 63)).toInt64) :: st.map (tv G)) rfl (by exact congrArg (fun z => z :: st.map (tv G)) (tv_l (G := G) (((Int64.ofInt x).toUInt64 >>> ((Int32.ofInt y).toInt64.toUInt64 &&& Int64.toUInt64 63)).toInt64))) (fun H locs cells slots lsM _ w => lv_lushr C.1 C.2.1 hd rfl w) (fun h1 _ => fa_cons (ok1 ⟨Int64.le_toInt _, Int64.toInt_lt _⟩) (fa_tl (fa_tl h1))) h
theorem g_idiv (C : CX p R s m args meth c G sc d k n0) {x y : Int} (hd : decode (am_code k) pc = .ok (.idiv, 1)) (hne : y ≠ 0) (h : Gd p l e R s m args below meth c G k n0 QE (pc + 1) ls ((0, wr (x.tdiv y)) :: st) g r n) : Gd p l e R s m args below meth c G k n0 QE pc ls ((0, y) :: (0, x) :: st) g r n := by
  intro a1 a2 a3 a4 a5 a6 H locs lsM b1 b2 b3 b4
  have hy := ok_r0 (fa_hd a3)
  have hx := ok_r0 (fa_hd (fa_tl a3))
  have w := h a1 a2 (fa_cons (ok0 (wr_rng _)) (fa_tl (fa_tl a3))) a4 a5 a6 H locs lsM b1 b2 b3 b4
  rw [List.map_cons, tv_0, wr_of, ← i_div hx hy] at w
  exact lv_idiv C.1 C.2.1 hd (fun q => hne ((i_eq hy rI0).mp q)) w
theorem g_irem (C : CX p R s m args meth c G sc d k n0) {x y : Int} (hd : decode (am_code k) pc = .ok (.irem, 1)) (hne : y ≠ 0) (h : Gd p l e R s m args below meth c G k n0 QE (pc + 1) ls ((0, x.tmod y) :: st) g r n) : Gd p l e R s m args below meth c G k n0 QE pc ls ((0, y) :: (0, x) :: st) g r n := by
  intro a1 a2 a3 a4 a5 a6 H locs lsM b1 b2 b3 b4
  have hy := ok_r0 (fa_hd a3)
  have hx := ok_r0 (fa_hd (fa_tl a3))
  have w := h a1 a2 (fa_cons (ok0 (rI_tmod hx)) (fa_tl (fa_tl a3))) a4 a5 a6 H locs lsM b1 b2 b3 b4
  rw [List.map_cons, tv_0, ← i_rem hx hy] at w
  exact lv_irem C.1 C.2.1 hd (fun q => hne ((i_eq hy rI0).mp q)) w
theorem g_ldiv (C : CX p R s m args meth c G sc d k n0) {x y : Int} (hd : decode (am_code k) pc = .ok (.ldiv, 1)) (hne : y ≠ 0) (h : Gd p l e R s m args below meth c G k n0 QE (pc + 1) ls ((1, wL (x.tdiv y)) :: st) g r n) : Gd p l e R s m args below meth c G k n0 QE pc ls ((1, y) :: (1, x) :: st) g r n := by
  intro a1 a2 a3 a4 a5 a6 H locs lsM b1 b2 b3 b4
  have hy := ok_r1 (fa_hd a3)
  have hx := ok_r1 (fa_hd (fa_tl a3))
  have w := h a1 a2 (fa_cons (ok1 (wL_rng _)) (fa_tl (fa_tl a3))) a4 a5 a6 H locs lsM b1 b2 b3 b4
  rw [List.map_cons, tv_1, wL_of, ← l_div hx hy] at w
  exact lv_ldiv C.1 C.2.1 hd (fun q => hne ((l_eq hy rL0).mp q)) w
theorem g_lrem (C : CX p R s m args meth c G sc d k n0) {x y : Int} (hd : decode (am_code k) pc = .ok (.lrem, 1)) (hne : y ≠ 0) (h : Gd p l e R s m args below meth c G k n0 QE (pc + 1) ls ((1, x.tmod y) :: st) g r n) : Gd p l e R s m args below meth c G k n0 QE pc ls ((1, y) :: (1, x) :: st) g r n := by
  intro a1 a2 a3 a4 a5 a6 H locs lsM b1 b2 b3 b4
  have hy := ok_r1 (fa_hd a3)
  have hx := ok_r1 (fa_hd (fa_tl a3))
  have w := h a1 a2 (fa_cons (ok1 (rL_tmod hx)) (fa_tl (fa_tl a3))) a4 a5 a6 H locs lsM b1 b2 b3 b4
  rw [List.map_cons, tv_1, ← l_rem hx hy] at w
  exact lv_lrem C.1 C.2.1 hd (fun q => hne ((l_eq hy rL0).mp q)) w
theorem g_lcmp (C : CX p R s m args meth c G sc d k n0) {x y : Int} (hd : decode (am_code k) pc = .ok (.lcmp, 1)) (h : Gd p l e R s m args below meth c G k n0 QE (pc + 1) ls ((0, cmpL x y) :: st) g r n) : Gd p l e R s m args below meth c G k n0 QE pc ls ((1, y) :: (1, x) :: st) g r n := by
  intro a1 a2 a3 a4 a5 a6 H locs lsM b1 b2 b3 b4
  have hy := ok_r1 (fa_hd a3)
  have hx := ok_r1 (fa_hd (fa_tl a3))
  have w := h a1 a2 (fa_cons (ok0 (cmp_rng _ _)) (fa_tl (fa_tl a3))) a4 a5 a6 H locs lsM b1 b2 b3 b4
  rw [List.map_cons, tv_0, ← cmp_l hx hy] at w
  exact W.lcmp C.1 C.2.1 hd w
theorem g_ineg (C : CX p R s m args meth c G sc d k n0) {x : Int} (hd : decode (am_code k) pc = .ok (.ineg, 1)) (h : Gd p l e R s m args below meth c G k n0 QE (pc + 1) ls ((0, wr (-x)) :: st) g r n) : Gd p l e R s m args below meth c G k n0 QE pc ls ((0, x) :: st) g r n :=
  gd_pure (.int (Int32.ofInt x) :: st.map (tv G)) (.int (-Int32.ofInt x) :: st.map (tv G)) rfl (by rw [List.map_cons, tv_0, wr_of, Int32.ofInt_neg]) (fun H locs cells slots lsM _ w => lv_ineg C.1 C.2.1 hd w) (fun h1 _ => fa_cons (ok0 (wr_rng _)) (fa_tl h1)) h
theorem g_i2b (C : CX p R s m args meth c G sc d k n0) {x : Int} (hd : decode (am_code k) pc = .ok (.i2b, 1)) (h : Gd p l e R s m args below meth c G k n0 QE (pc + 1) ls ((0, i_b x) :: st) g r n) : Gd p l e R s m args below meth c G k n0 QE pc ls ((0, x) :: st) g r n :=
  gd_pure (.int (Int32.ofInt x) :: st.map (tv G)) (.int ((Int32.ofInt x).toInt8.toInt32) :: st.map (tv G)) rfl (by exact congrArg (fun z => z :: st.map (tv G)) (tv_i (G := G) _)) (fun H locs cells slots lsM _ w => lv_i2b C.1 C.2.1 hd rfl w) (fun h1 _ => fa_cons (ok0 ⟨Int32.le_toInt _, Int32.toInt_lt _⟩) (fa_tl h1)) h
theorem g_l2i (C : CX p R s m args meth c G sc d k n0) {x : Int} (hd : decode (am_code k) pc = .ok (.l2i, 1)) (h : Gd p l e R s m args below meth c G k n0 QE (pc + 1) ls ((0, wr x) :: st) g r n) : Gd p l e R s m args below meth c G k n0 QE pc ls ((1, x) :: st) g r n :=
  gd_pure (.long (Int64.ofInt x) :: st.map (tv G)) (.int (Int32.ofInt x) :: st.map (tv G)) rfl (by rw [List.map_cons, tv_0, wr_of]) (fun H locs cells slots lsM _ w => lv_l2i C.1 C.2.1 hd Int64.toInt32_ofInt w) (fun h1 _ => fa_cons (ok0 (wr_rng _)) (fa_tl h1)) h
theorem g_i2l (C : CX p R s m args meth c G sc d k n0) {x : Int} (hd : decode (am_code k) pc = .ok (.i2l, 1)) (h : Gd p l e R s m args below meth c G k n0 QE (pc + 1) ls ((1, x) :: st) g r n) : Gd p l e R s m args below meth c G k n0 QE pc ls ((0, x) :: st) g r n := by
  intro a1 a2 a3 a4 a5 a6 H locs lsM b1 b2 b3 b4
  have hx := ok_r0 (fa_hd a3)
  have w := h a1 a2 (fa_cons (ok1 ⟨by have := hx.1; omega, by have := hx.2; omega⟩) (fa_tl a3)) a4 a5 a6 H locs lsM b1 b2 b3 b4
  have e : (Int32.ofInt x).toInt64 = Int64.ofInt x := by
    apply Int64.toInt_inj.mp
    rw [Int32.toInt_toInt64, Int32.toInt_ofInt_of_le hx.1 hx.2, Int64.toInt_ofInt_of_le (by have := hx.1; omega) (by have := hx.2; omega)]
  exact lv_i2l C.1 C.2.1 hd e w
theorem g_goto (C : CX p R s m args meth c G sc d k n0) {o : Int} {t : Nat} (hd : decode (am_code k) pc = .ok (.goto o, 3)) (ht : (pc : Int) + o = (t : Int)) (h : Gd p l e R s m args below meth c G k n0 QE t ls st g r n) : Gd p l e R s m args below meth c G k n0 QE pc ls st g r n :=
  gd_pure _ _ rfl rfl (fun H locs cells slots lsM _ w => lv_goto C.1 C.2.1 hd ht w) (fun h1 _ => h1) h
theorem g_if_eq (C : CX p R s m args meth c G sc d k n0) {x : Int} {o : Int} {t : Nat} (hd : decode (am_code k) pc = .ok (.ifCond .eq o, 3)) (ht : (pc : Int) + o = (t : Int)) (h : if x = 0 then Gd p l e R s m args below meth c G k n0 QE t ls st g r n else Gd p l e R s m args below meth c G k n0 QE (pc + 3) ls st g r n) : Gd p l e R s m args below meth c G k n0 QE pc ls ((0, x) :: st) g r n := by
  intro a1 a2 a3 a4 a5 a6 H locs lsM b1 b2 b3 b4
  have hx := ok_r0 (fa_hd a3)
  exact lv_if_eq C.1 C.2.1 hd ht (fun q => by rw [if_pos ((i_eq hx rI0).mp q)] at h; exact h a1 a2 (fa_tl a3) a4 a5 a6 H locs lsM b1 b2 b3 b4) (fun q => by rw [if_neg (fun z => q ((i_eq hx rI0).mpr z))] at h; exact h a1 a2 (fa_tl a3) a4 a5 a6 H locs lsM b1 b2 b3 b4)
theorem g_icmp_eq (C : CX p R s m args meth c G sc d k n0) {x y : Int} {o : Int} {t : Nat} (hd : decode (am_code k) pc = .ok (.if_icmp .eq o, 3)) (ht : (pc : Int) + o = (t : Int)) (h : if x = y then Gd p l e R s m args below meth c G k n0 QE t ls st g r n else Gd p l e R s m args below meth c G k n0 QE (pc + 3) ls st g r n) : Gd p l e R s m args below meth c G k n0 QE pc ls ((0, y) :: (0, x) :: st) g r n := by
  intro a1 a2 a3 a4 a5 a6 H locs lsM b1 b2 b3 b4
  have hy := ok_r0 (fa_hd a3)
  have hx := ok_r0 (fa_hd (fa_tl a3))
  exact lv_icmp_eq C.1 C.2.1 hd ht (fun q => by rw [if_pos ((i_eq hx hy).mp q)] at h; exact h a1 a2 (fa_tl (fa_tl a3)) a4 a5 a6 H locs lsM b1 b2 b3 b4) (fun q => by rw [if_neg (fun z => q ((i_eq hx hy).mpr z))] at h; exact h a1 a2 (fa_tl (fa_tl a3)) a4 a5 a6 H locs lsM b1 b2 b3 b4)
theorem g_if_ne (C : CX p R s m args meth c G sc d k n0) {x : Int} {o : Int} {t : Nat} (hd : decode (am_code k) pc = .ok (.ifCond .ne o, 3)) (ht : (pc : Int) + o = (t : Int)) (h : if x = 0 then Gd p l e R s m args below meth c G k n0 QE (pc + 3) ls st g r n else Gd p l e R s m args below meth c G k n0 QE t ls st g r n) : Gd p l e R s m args below meth c G k n0 QE pc ls ((0, x) :: st) g r n := by
  intro a1 a2 a3 a4 a5 a6 H locs lsM b1 b2 b3 b4
  have hx := ok_r0 (fa_hd a3)
  exact lv_if_ne C.1 C.2.1 hd ht (fun q => by rw [if_neg (fun z => q ((i_eq hx rI0).mpr z))] at h; exact h a1 a2 (fa_tl a3) a4 a5 a6 H locs lsM b1 b2 b3 b4) (fun q => by rw [if_pos ((i_eq hx rI0).mp q)] at h; exact h a1 a2 (fa_tl a3) a4 a5 a6 H locs lsM b1 b2 b3 b4)
theorem g_icmp_ne (C : CX p R s m args meth c G sc d k n0) {x y : Int} {o : Int} {t : Nat} (hd : decode (am_code k) pc = .ok (.if_icmp .ne o, 3)) (ht : (pc : Int) + o = (t : Int)) (h : if x = y then Gd p l e R s m args below meth c G k n0 QE (pc + 3) ls st g r n else Gd p l e R s m args below meth c G k n0 QE t ls st g r n) : Gd p l e R s m args below meth c G k n0 QE pc ls ((0, y) :: (0, x) :: st) g r n := by
  intro a1 a2 a3 a4 a5 a6 H locs lsM b1 b2 b3 b4
  have hy := ok_r0 (fa_hd a3)
  have hx := ok_r0 (fa_hd (fa_tl a3))
  exact lv_icmp_ne C.1 C.2.1 hd ht (fun q => by rw [if_neg (fun z => q ((i_eq hx hy).mpr z))] at h; exact h a1 a2 (fa_tl (fa_tl a3)) a4 a5 a6 H locs lsM b1 b2 b3 b4) (fun q => by rw [if_pos ((i_eq hx hy).mp q)] at h; exact h a1 a2 (fa_tl (fa_tl a3)) a4 a5 a6 H locs lsM b1 b2 b3 b4)
theorem g_if_lt (C : CX p R s m args meth c G sc d k n0) {x : Int} {o : Int} {t : Nat} (hd : decode (am_code k) pc = .ok (.ifCond .lt o, 3)) (ht : (pc : Int) + o = (t : Int)) (h : if x < 0 then Gd p l e R s m args below meth c G k n0 QE t ls st g r n else Gd p l e R s m args below meth c G k n0 QE (pc + 3) ls st g r n) : Gd p l e R s m args below meth c G k n0 QE pc ls ((0, x) :: st) g r n := by
  intro a1 a2 a3 a4 a5 a6 H locs lsM b1 b2 b3 b4
  have hx := ok_r0 (fa_hd a3)
  exact lv_if_lt C.1 C.2.1 hd ht (fun q => by rw [if_pos ((i_lt hx rI0).mp q)] at h; exact h a1 a2 (fa_tl a3) a4 a5 a6 H locs lsM b1 b2 b3 b4) (fun q => by rw [if_neg (fun z => q ((i_lt hx rI0).mpr z))] at h; exact h a1 a2 (fa_tl a3) a4 a5 a6 H locs lsM b1 b2 b3 b4)
theorem g_icmp_lt (C : CX p R s m args meth c G sc d k n0) {x y : Int} {o : Int} {t : Nat} (hd : decode (am_code k) pc = .ok (.if_icmp .lt o, 3)) (ht : (pc : Int) + o = (t : Int)) (h : if x < y then Gd p l e R s m args below meth c G k n0 QE t ls st g r n else Gd p l e R s m args below meth c G k n0 QE (pc + 3) ls st g r n) : Gd p l e R s m args below meth c G k n0 QE pc ls ((0, y) :: (0, x) :: st) g r n := by
  intro a1 a2 a3 a4 a5 a6 H locs lsM b1 b2 b3 b4
  have hy := ok_r0 (fa_hd a3)
  have hx := ok_r0 (fa_hd (fa_tl a3))
  exact lv_icmp_lt C.1 C.2.1 hd ht (fun q => by rw [if_pos ((i_lt hx hy).mp q)] at h; exact h a1 a2 (fa_tl (fa_tl a3)) a4 a5 a6 H locs lsM b1 b2 b3 b4) (fun q => by rw [if_neg (fun z => q ((i_lt hx hy).mpr z))] at h; exact h a1 a2 (fa_tl (fa_tl a3)) a4 a5 a6 H locs lsM b1 b2 b3 b4)
theorem g_if_ge (C : CX p R s m args meth c G sc d k n0) {x : Int} {o : Int} {t : Nat} (hd : decode (am_code k) pc = .ok (.ifCond .ge o, 3)) (ht : (pc : Int) + o = (t : Int)) (h : if x < 0 then Gd p l e R s m args below meth c G k n0 QE (pc + 3) ls st g r n else Gd p l e R s m args below meth c G k n0 QE t ls st g r n) : Gd p l e R s m args below meth c G k n0 QE pc ls ((0, x) :: st) g r n := by
  intro a1 a2 a3 a4 a5 a6 H locs lsM b1 b2 b3 b4
  have hx := ok_r0 (fa_hd a3)
  exact lv_if_ge C.1 C.2.1 hd ht (fun q => by have q := (i_le rI0 hx).mp q; rw [if_neg (by omega)] at h; exact h a1 a2 (fa_tl a3) a4 a5 a6 H locs lsM b1 b2 b3 b4) (fun q => by have q2 : ¬ 0 ≤ x := fun z => q ((i_le rI0 hx).mpr z); rw [if_pos (by omega)] at h; exact h a1 a2 (fa_tl a3) a4 a5 a6 H locs lsM b1 b2 b3 b4)
theorem g_icmp_ge (C : CX p R s m args meth c G sc d k n0) {x y : Int} {o : Int} {t : Nat} (hd : decode (am_code k) pc = .ok (.if_icmp .ge o, 3)) (ht : (pc : Int) + o = (t : Int)) (h : if x < y then Gd p l e R s m args below meth c G k n0 QE (pc + 3) ls st g r n else Gd p l e R s m args below meth c G k n0 QE t ls st g r n) : Gd p l e R s m args below meth c G k n0 QE pc ls ((0, y) :: (0, x) :: st) g r n := by
  intro a1 a2 a3 a4 a5 a6 H locs lsM b1 b2 b3 b4
  have hy := ok_r0 (fa_hd a3)
  have hx := ok_r0 (fa_hd (fa_tl a3))
  exact lv_icmp_ge C.1 C.2.1 hd ht (fun q => by have q := (i_le hy hx).mp q; rw [if_neg (by omega)] at h; exact h a1 a2 (fa_tl (fa_tl a3)) a4 a5 a6 H locs lsM b1 b2 b3 b4) (fun q => by have q2 : ¬ y ≤ x := fun z => q ((i_le hy hx).mpr z); rw [if_pos (by omega)] at h; exact h a1 a2 (fa_tl (fa_tl a3)) a4 a5 a6 H locs lsM b1 b2 b3 b4)
theorem g_if_gt (C : CX p R s m args meth c G sc d k n0) {x : Int} {o : Int} {t : Nat} (hd : decode (am_code k) pc = .ok (.ifCond .gt o, 3)) (ht : (pc : Int) + o = (t : Int)) (h : if 0 < x then Gd p l e R s m args below meth c G k n0 QE t ls st g r n else Gd p l e R s m args below meth c G k n0 QE (pc + 3) ls st g r n) : Gd p l e R s m args below meth c G k n0 QE pc ls ((0, x) :: st) g r n := by
  intro a1 a2 a3 a4 a5 a6 H locs lsM b1 b2 b3 b4
  have hx := ok_r0 (fa_hd a3)
  exact lv_if_gt C.1 C.2.1 hd ht (fun q => by rw [if_pos ((i_lt rI0 hx).mp q)] at h; exact h a1 a2 (fa_tl a3) a4 a5 a6 H locs lsM b1 b2 b3 b4) (fun q => by rw [if_neg (fun z => q ((i_lt rI0 hx).mpr z))] at h; exact h a1 a2 (fa_tl a3) a4 a5 a6 H locs lsM b1 b2 b3 b4)
theorem g_icmp_gt (C : CX p R s m args meth c G sc d k n0) {x y : Int} {o : Int} {t : Nat} (hd : decode (am_code k) pc = .ok (.if_icmp .gt o, 3)) (ht : (pc : Int) + o = (t : Int)) (h : if y < x then Gd p l e R s m args below meth c G k n0 QE t ls st g r n else Gd p l e R s m args below meth c G k n0 QE (pc + 3) ls st g r n) : Gd p l e R s m args below meth c G k n0 QE pc ls ((0, y) :: (0, x) :: st) g r n := by
  intro a1 a2 a3 a4 a5 a6 H locs lsM b1 b2 b3 b4
  have hy := ok_r0 (fa_hd a3)
  have hx := ok_r0 (fa_hd (fa_tl a3))
  exact lv_icmp_gt C.1 C.2.1 hd ht (fun q => by rw [if_pos ((i_lt hy hx).mp q)] at h; exact h a1 a2 (fa_tl (fa_tl a3)) a4 a5 a6 H locs lsM b1 b2 b3 b4) (fun q => by rw [if_neg (fun z => q ((i_lt hy hx).mpr z))] at h; exact h a1 a2 (fa_tl (fa_tl a3)) a4 a5 a6 H locs lsM b1 b2 b3 b4)
theorem g_if_le (C : CX p R s m args meth c G sc d k n0) {x : Int} {o : Int} {t : Nat} (hd : decode (am_code k) pc = .ok (.ifCond .le o, 3)) (ht : (pc : Int) + o = (t : Int)) (h : if 0 < x then Gd p l e R s m args below meth c G k n0 QE (pc + 3) ls st g r n else Gd p l e R s m args below meth c G k n0 QE t ls st g r n) : Gd p l e R s m args below meth c G k n0 QE pc ls ((0, x) :: st) g r n := by
  intro a1 a2 a3 a4 a5 a6 H locs lsM b1 b2 b3 b4
  have hx := ok_r0 (fa_hd a3)
  exact lv_if_le C.1 C.2.1 hd ht (fun q => by have q := (i_le hx rI0).mp q; rw [if_neg (by omega)] at h; exact h a1 a2 (fa_tl a3) a4 a5 a6 H locs lsM b1 b2 b3 b4) (fun q => by have q2 : ¬ x ≤ 0 := fun z => q ((i_le hx rI0).mpr z); rw [if_pos (by omega)] at h; exact h a1 a2 (fa_tl a3) a4 a5 a6 H locs lsM b1 b2 b3 b4)
theorem g_icmp_le (C : CX p R s m args meth c G sc d k n0) {x y : Int} {o : Int} {t : Nat} (hd : decode (am_code k) pc = .ok (.if_icmp .le o, 3)) (ht : (pc : Int) + o = (t : Int)) (h : if y < x then Gd p l e R s m args below meth c G k n0 QE (pc + 3) ls st g r n else Gd p l e R s m args below meth c G k n0 QE t ls st g r n) : Gd p l e R s m args below meth c G k n0 QE pc ls ((0, y) :: (0, x) :: st) g r n := by
  intro a1 a2 a3 a4 a5 a6 H locs lsM b1 b2 b3 b4
  have hy := ok_r0 (fa_hd a3)
  have hx := ok_r0 (fa_hd (fa_tl a3))
  exact lv_icmp_le C.1 C.2.1 hd ht (fun q => by have q := (i_le hx hy).mp q; rw [if_neg (by omega)] at h; exact h a1 a2 (fa_tl (fa_tl a3)) a4 a5 a6 H locs lsM b1 b2 b3 b4) (fun q => by have q2 : ¬ x ≤ y := fun z => q ((i_le hx hy).mpr z); rw [if_pos (by omega)] at h; exact h a1 a2 (fa_tl (fa_tl a3)) a4 a5 a6 H locs lsM b1 b2 b3 b4)
theorem g_ifnull (C : CX p R s m args meth c G sc d k n0) {x : Int} {o : Int} {t : Nat} (hd : decode (am_code k) pc = .ok (.ifnull o, 3)) (ht : (pc : Int) + o = (t : Int)) (h : if x = -1 then Gd p l e R s m args below meth c G k n0 QE t ls st g r n else Gd p l e R s m args below meth c G k n0 QE (pc + 3) ls st g r n) : Gd p l e R s m args below meth c G k n0 QE pc ls ((2, x) :: st) g r n := by
  intro a1 a2 a3 a4 a5 a6 H locs lsM b1 b2 b3 b4
  show W p l e R s m args below meth c H locs _ _ QE (F0 m pc lsM (va_rf (rfo G x) :: st.map (tv G)))
  by_cases hx : x = -1
  · rw [if_pos hx] at h
    rw [rfo, if_pos hx]
    exact lv_ifnullN C.1 C.2.1 hd ht (h a1 a2 (fa_tl a3) a4 a5 a6 H locs lsM b1 b2 b3 b4)
  · rw [if_neg hx] at h
    rw [rfo, if_neg hx]
    exact lv_ifnull C.1 C.2.1 hd (h a1 a2 (fa_tl a3) a4 a5 a6 H locs lsM b1 b2 b3 b4)
theorem g_ifnonnull (C : CX p R s m args meth c G sc d k n0) {x : Int} {o : Int} {t : Nat} (hd : decode (am_code k) pc = .ok (.ifnonnull o, 3)) (ht : (pc : Int) + o = (t : Int)) (h : if x = -1 then Gd p l e R s m args below meth c G k n0 QE (pc + 3) ls st g r n else Gd p l e R s m args below meth c G k n0 QE t ls st g r n) : Gd p l e R s m args below meth c G k n0 QE pc ls ((2, x) :: st) g r n := by
  intro a1 a2 a3 a4 a5 a6 H locs lsM b1 b2 b3 b4
  show W p l e R s m args below meth c H locs _ _ QE (F0 m pc lsM (va_rf (rfo G x) :: st.map (tv G)))
  by_cases hx : x = -1
  · rw [if_pos hx] at h
    rw [rfo, if_pos hx]
    exact lv_ifnonnullN C.1 C.2.1 hd (h a1 a2 (fa_tl a3) a4 a5 a6 H locs lsM b1 b2 b3 b4)
  · rw [if_neg hx] at h
    rw [rfo, if_neg hx]
    exact lv_ifnonnull C.1 C.2.1 hd ht (h a1 a2 (fa_tl a3) a4 a5 a6 H locs lsM b1 b2 b3 b4)
theorem tsw_at {f : Int → Prop} {dd x : Int} : ∀ (os : List Int) (lo : Int), am_tsw f dd x lo os → (x < lo ∨ lo + (os.length : Int) ≤ x → f dd) ∧ (∀ o, lo ≤ x → x < lo + (os.length : Int) → os[(x - lo).toNat]? = some o → f o)
  | [], lo, h => ⟨fun _ => h, fun o h1 h2 => by have h2 : x < lo + 0 := h2; omega⟩
  | o1 :: os, lo, h => by
    unfold am_tsw at h
    have hlen : ((o1 :: os).length : Int) = (os.length : Int) + 1 := by rw [List.length_cons]; omega
    rw [hlen]
    split at h
    · rename_i e
      refine ⟨fun z => by omega, fun o h1 h2 h3 => ?_⟩
      rw [e, Int.sub_self] at h3
      cases h3
      exact h
    · rename_i e
      obtain ⟨i1, i2⟩ := tsw_at os (lo + 1) h
      refine ⟨fun z => i1 (by omega), fun o h1 h2 h3 => i2 o (by omega) (by omega) ?_⟩
      rw [show (x - lo).toNat = (x - (lo + 1)).toNat + 1 by omega, List.getElem?_cons_succ] at h3
      exact h3
theorem g_tsw (C : CX p R s m args meth c G sc d k n0) {x : Int} {dflt lo hi : Int} {offs : Array Int} {len : Nat} (hd : decode (am_code k) pc = .ok (.tableswitch dflt lo hi offs, len)) (hh : hi + 1 = lo + (offs.size : Int))
    (h : am_tsw (fun o => am_j pc o fun t => Gd p l e R s m args below meth c G k n0 QE t ls st g r n) dflt x lo offs.toList) : Gd p l e R s m args below meth c G k n0 QE pc ls ((0, x) :: st) g r n := by
  intro a1 a2 a3 a4 a5 a6 H locs lsM b1 b2 b3 b4
  have hx := ok_r0 (fa_hd a3)
  have ex : (Int32.ofInt x).toInt = x := Int32.toInt_ofInt_of_le hx.1 hx.2
  obtain ⟨h1, h2⟩ := tsw_at _ _ h
  rw [Array.length_toList] at h1 h2
  by_cases hr : x < lo ∨ hi < x
  · obtain ⟨t, ht, hg⟩ := am_j_inv (h1 (by omega))
    exact lv_tableOut C.1 C.2.1 hd (by rw [ex]; exact hr) ht (hg a1 a2 (fa_tl a3) a4 a5 a6 H locs lsM b1 b2 b3 b4)
  · have hb : (x - lo).toNat < offs.size := by omega
    have hg := Array.getElem?_eq_getElem hb
    obtain ⟨t, ht, hG⟩ := am_j_inv (h2 _ (by omega) (by omega) (by rw [Array.getElem?_toList]; exact hg))
    exact lv_tableIn C.1 C.2.1 hd (by rw [ex]; omega) (by rw [ex]; omega) (by rw [ex]; exact hg) ht (hG a1 a2 (fa_tl a3) a4 a5 a6 H locs lsM b1 b2 b3 b4)
end SN2
end
section
/-! fields, arrays, objects made -/
theorem fvl_tv {G : AG} {ty : Nat} {x y : Int} (h : ty = 0 ∨ ty = 1 ∨ ty = 2 ∨ ty = 3) : tv G (am_tag ty, if ty = 2 then y else x) = fvl G ty x y := by
  rcases h with rfl | rfl | rfl | rfl <;> rfl
theorem ln_rng (x : Int) : 0 ≤ am_ln x ∧ am_ln x ≤ 4000 := by
  unfold am_ln
  refine ⟨Int.natCast_nonneg _, ?_⟩
  by_cases h : x.toNat < 218
  · have h1 := of_decide_eq_true (List.all_eq_true.mp sh_ok x.toNat (List.mem_range.mpr h))
    have h2 := h1.2.2
    unfold am_ln at h2
    rw [Int.toNat_natCast, Int.toNat_natCast] at h2
    omega
  · have e : am_lnT.getD x.toNat 0 = 0 := by
      rw [List.getD_eq_getElem?_getD, List.getElem?_eq_none (by show 218 ≤ x.toNat; omega)]; rfl
    rw [e]; decide
theorem ln_nat (x : Int) : ((am_ln x).toNat : Int) = am_ln x := Int.toNat_of_nonneg (ln_rng x).1
theorem cs_step {n : Int} (h0 : 0 ≤ n) (h : n < 218) : am_cs (n + 1) = am_cs n + (am_ln n).toNat := by
  have h1 := of_decide_eq_true (List.all_eq_true.mp sh_ok n.toNat (List.mem_range.mpr (by omega)))
  rw [Int.toNat_of_nonneg h0] at h1
  exact h1.2.1
theorem cs_mono0 (a : Nat) : ∀ j : Nat, a + j ≤ 218 → am_cs (a : Int) ≤ am_cs ((a + j : Nat) : Int)
  | 0, _ => Nat.le_refl _
  | j + 1, h => by
    have h1 := cs_mono0 a j (by omega)
    have h2 := cs_step (n := ((a + j : Nat) : Int)) (by omega) (by omega)
    rw [show ((a + (j + 1) : Nat) : Int) = ((a + j : Nat) : Int) + 1 by omega, h2]
    omega
theorem cs_mono {a b : Int} (h0 : 0 ≤ a) (h : a ≤ b) (hb : b ≤ 218) : am_cs a ≤ am_cs b := by
  have h1 := cs_mono0 a.toNat (b.toNat - a.toNat) (by omega)
  rw [show ((a.toNat : Nat) : Int) = a by omega, show ((a.toNat + (b.toNat - a.toNat) : Nat) : Int) = b by omega] at h1
  exact h1
theorem okG_upI {g r : GH} {x j v : Int} (h : okG g r) (hv : rI v) : okG (up g x j v) r := by
  refine ⟨fun a b hl => ?_, fun a b => ?_, h.2.2⟩
  · unfold up; split
    · exact hv
    · exact h.1 a b hl
  · unfold up; split
    · exact ⟨by have := hv.1; omega, by have := hv.2; omega⟩
    · exact h.2.1 a b
theorem okG_upL {g r : GH} {x j v : Int} (h : okG g r) (hl : am_lng x j) (hv : rL v) : okG (up g x j v) r := by
  refine ⟨fun a b hl2 => ?_, fun a b => ?_, h.2.2⟩
  · unfold up; split
    · rename_i e; rw [e.1, e.2] at hl2; exact absurd hl hl2
    · exact h.1 a b hl2
  · unfold up; split
    · exact hv
    · exact h.2.1 a b
theorem okG_upR {g r : GH} {x j v : Int} (h : okG g r) (hv : rR v) : okG g (up r x j v) := by
  refine ⟨h.1, h.2.1, fun a b => ?_⟩
  unfold up; split
  · exact hv
  · exact h.2.2 a b
theorem up_off {f : GH} {x j v : Int} : ∀ i, i ≠ x → ∀ q, up f x j v i q = f i q := fun i hi q => by
  unfold up; rw [if_neg (fun h => hi h.1)]
theorem up_at {f : GH} {x j v q : Int} : up f x j v x q = if q = j then v else f x q := by
  unfold up; simp
theorem map_set {α : Type} (N j : Nat) (f f2 : Nat → α) (h : ∀ i, i ≠ j → f2 i = f i) : (List.range N).map f2 = ((List.range N).map f).set j (f2 j) := by
  apply List.ext_getElem?
  intro q
  by_cases hN : q < N
  · by_cases hq : j = q
    · subst hq
      rw [List.getElem?_set_self (by simpa using hN), List.getElem?_map, List.getElem?_range hN]; rfl
    · rw [List.getElem?_set_ne hq, List.getElem?_map, List.getElem?_map, List.getElem?_range hN, Option.map_some, Option.map_some, h q (fun e => hq e.symm)]
  · rw [List.getElem?_eq_none (by simpa using hN), List.getElem?_eq_none (by simpa using hN)]
theorem cell_put {G : AG} {g r : GH} {x v : Int} {c j : Nat} (hc : am_sh x = c) (h9 : c ≤ 9) :
    cellE G (up g x (j : Int) v) r x = .inr (c, ((List.range (am_nf c)).map fun i => fvl G (am_ft c i) (g x (i : Int)) (r x (i : Int))).set j (fvl G (am_ft c j) v (r x (j : Int)))) := by
  rw [cell_obj hc h9, map_set (am_nf c) j (fun i => fvl G (am_ft c i) (g x (i : Int)) (r x (i : Int))) _ (fun i hi => by rw [up_at, if_neg (by omega)]), up_at, if_pos rfl]
theorem cell_putR {G : AG} {g r : GH} {x v : Int} {c j : Nat} (hc : am_sh x = c) (h9 : c ≤ 9) :
    cellE G g (up r x (j : Int) v) x = .inr (c, ((List.range (am_nf c)).map fun i => fvl G (am_ft c i) (g x (i : Int)) (r x (i : Int))).set j (fvl G (am_ft c j) (g x (j : Int)) v)) := by
  rw [cell_obj hc h9, map_set (am_nf c) j (fun i => fvl G (am_ft c i) (g x (i : Int)) (r x (i : Int))) _ (fun i hi => by rw [up_at, if_neg (by omega)]), up_at, if_pos rfl]
theorem fs_at {G : AG} {g r : GH} {x : Int} {c j : Nat} (hj : j < am_nf c) : ((List.range (am_nf c)).map fun i => fvl G (am_ft c i) (g x (i : Int)) (r x (i : Int)))[j]? = some (fvl G (am_ft c j) (g x (j : Int)) (r x (j : Int))) := by
  rw [List.getElem?_map, List.getElem?_range hj]; rfl
theorem not_lng {x : Int} {c j : Nat} (hc : am_sh x = c) (h9 : c ≤ 9) (hf : am_ft c j ≠ 1) : ¬ am_lng x (j : Int) := by
  unfold am_lng
  rw [hc, Int.toNat_natCast]
  rintro (h | h)
  · omega
  · exact hf h
theorem is_lng {x : Int} {c j : Nat} (hc : am_sh x = c) (hf : am_ft c j = 1) : am_lng x (j : Int) := by
  unfold am_lng
  rw [hc, Int.toNat_natCast]
  exact Or.inr hf
theorem nlng_arr {x j : Int} {c : Nat} (hc : am_sh x = c) (h : c = 10 ∨ c = 11 ∨ c = 13) : ¬ am_lng x j := by
  unfold am_lng
  rw [hc]
  rcases h with rfl | rfl | rfl <;> (rintro (h | h) <;> revert h <;> exact of_decide_eq_true (by rfl))
section SN3
variable {p : Program} {l : Launch} {e : Env} {R : Room} {s : State} {m : MethodId} {args : Array Value} {below : List Frame} {meth : Method} {c : Code} {G : AG} {sc : SCR} {d k : Nat} {n0 : Int} {QE : State → Prop}
variable {pc pc2 : Nat} {ls st st2 : List AV} {g r : GH} {n : Int}
theorem g_getfield (C : CX p R s m args meth c G sc d k n0) {idx : Nat} {f : Nat × Nat × Nat × Bool × Nat} {x : Int} (hd : decode (am_code k) pc = .ok (.getfield idx, 3)) (he : am_at k idx am_FL = some f) (hk : okr n x f.1)
    (h : Gd p l e R s m args below meth c G k n0 QE (pc + 3) ls ((am_tag f.2.2.1, if f.2.2.1 = 2 then r x (f.2.1 : Int) else g x (f.2.1 : Int)) :: st) g r n) : Gd p l e R s m args below meth c G k n0 QE pc ls ((2, x) :: st) g r n := by
  intro a1 a2 a3 a4 a5 a6 H locs lsM b1 b2 b3 b4
  obtain ⟨cx, cb, cml, cown, cts, cK, -, -, ⟨cn0, cn1⟩, -⟩ := C
  obtain ⟨k0, k1, k2⟩ := hk
  obtain ⟨f9, fl, ft, -, -, fw⟩ := F_at he
  obtain ⟨-, -, -, -, -, f4⟩ := T_at f9 fl
  rw [ft] at f4
  have hv : okv (am_tag f.2.2.1, if f.2.2.1 = 2 then r x (f.2.1 : Int) else g x (f.2.1 : Int)) := by
    rcases f4 with h1 | h1 | h1 | h1 <;> rw [h1]
    · exact ok0 (a6.1 _ _ (not_lng k2 f9 (by rw [ft, h1]; decide)))
    · exact ok1 (a6.2.1 _ _)
    · exact ok2 (a6.2.2 _ _)
    · exact ok0 (a6.1 _ _ (not_lng k2 f9 (by rw [ft, h1]; decide)))
  have w := h a1 a2 (fa_cons hv (fa_tl a3)) a4 a5 a6 H locs lsM b1 b2 b3 b4
  rw [List.map_cons, fvl_tv f4, ← ft] at w
  rw [List.map_cons, tv_o k0 (by omega)]
  exact va_get (T := am_T f.1) (N := am_nf f.1) (ci := f.1) (C := am_nm f.1) cx cb cts (u_in f9) cown cK b2 x.toNat (by rw [wd_get k0 k1, cell_obj k2 f9]) (cl_at _ f9) f.2.1 fl (cts _ fw) (fun _ h => h) (fs_at fl) hd w
theorem fits_ref (o : Option Nat) (t : FieldType) (h : (match t with | .object _ => true | .array _ => true | _ => false) = true) : narrow t (va_rf o) = va_rf o ∧ fits t (va_rf o) = true := by
  cases t <;> first | (cases h; done) | (cases o <;> exact ⟨rfl, rfl⟩)
theorem kd_nm : ∀ {o : Nat}, am_kd o ≤ 9 → am_nm (am_kd o) = am_cn o := by
  intro o h
  by_cases ho : o < 14
  · have h1 := List.all_eq_true.mp (show (List.range 14).all (fun o => decide (am_kd o ≤ 9 → am_nm (am_kd o) = am_cn o)) = true by decide +kernel) o (List.mem_range.mpr ho)
    exact of_decide_eq_true h1 h
  · have e : am_kd o = 99 := by
      unfold am_kd
      rw [List.getD_eq_getElem?_getD, List.getElem?_eq_none (by show 14 ≤ o; omega)]; rfl
    omega
theorem g_putany (C : CX p R s m args meth c G sc d k n0) {idx : Nat} {f : Nat × Nat × Nat × Bool × Nat} {x : Int} {v : AV} {g2 r2 : GH} (hd : decode (am_code k) pc = .ok (.putfield idx, 3)) (he : am_at k idx am_FL = some f) (hk : okr n x f.1) (hfin : f.2.2.2.1 = true → am_isI k = true ∧ am_kd (am_own k) = f.1)
    (hnw : narrow (am_fd f.1 f.2.1) (tv G v) = tv G v ∧ fits (am_fd f.1 f.2.1) (tv G v) = true) (hcell : cellE G g2 r2 x = .inr (f.1, ((List.range (am_nf f.1)).map fun i => fvl G (am_ft f.1 i) (g x (i : Int)) (r x (i : Int))).set f.2.1 (tv G v)))
    (hg : ∀ i, i ≠ x → ∀ j, g2 i j = g i j) (hr : ∀ i, i ≠ x → ∀ j, r2 i j = r i j) (hok : okv v → okG g r → okG g2 r2)
    (h : Gd p l e R s m args below meth c G k n0 QE (pc + 3) ls st g2 r2 n) : Gd p l e R s m args below meth c G k n0 QE pc ls (v :: (2, x) :: st) g r n := by
  intro a1 a2 a3 a4 a5 a6 H locs lsM b1 b2 b3 b4
  obtain ⟨cx, cb, cml, cown, cts, cK, cI, -, ⟨cn0, cn1⟩, -⟩ := C
  obtain ⟨k0, k1, k2⟩ := hk
  obtain ⟨f9, fl, ft, ff, fn, fw⟩ := F_at he
  have hT := (T_at f9 fl).1
  have hw : (wd G g r n).set x.toNat (G.1 + x.toNat, .inr (f.1, ((List.range (am_nf f.1)).map fun i => fvl G (am_ft f.1 i) (g x (i : Int)) (r x (i : Int))).set f.2.1 (tv G v))) = wd G g2 r2 n := by
    rw [← hcell]; exact wd_set k0 k1 hg hr
  have w : ∀ (H1 : Heap) (locs1 : List Loc), va_P G.2.2.2.1 am_cl ((wd G g r n).set x.toNat (G.1 + x.toNat, .inr (f.1, ((List.range (am_nf f.1)).map fun i => fvl G (am_ft f.1 i) (g x (i : Int)) (r x (i : Int))).set f.2.1 (tv G v)))) H1 → va_D (fun q => G.1 ≤ q) ((wd G g r n).set x.toNat (G.1 + x.toNat, .inr (f.1, ((List.range (am_nf f.1)).map fun i => fvl G (am_ft f.1 i) (g x (i : Int)) (r x (i : Int))).set f.2.1 (tv G v)))) → va_S (fun q => G.1 ≤ q) s.heap H1 locs1 → W p l e R s m args below meth c H1 locs1 (n - n0).toNat (am_cs n - am_cs n0) QE (F0 m (pc + 3) lsM (st.map (tv G))) :=
    fun H1 locs1 z2 _ z3 => h a1 a2 (fa_tl (fa_tl a3)) a4 a5 (hok (fa_hd a3) a6) H1 locs1 lsM trivial (by rw [← hw]; exact z2) z3 b4
  rw [List.map_cons, List.map_cons, tv_o k0 (by omega)]
  have hlen : f.2.1 < ((List.range (am_nf f.1)).map fun i => fvl G (am_ft f.1 i) (g x (i : Int)) (r x (i : Int))).length := by simpa using fl
  have hws : (wd G g r n)[x.toNat]? = some (G.1 + x.toNat, .inr (f.1, (List.range (am_nf f.1)).map fun i => fvl G (am_ft f.1 i) (g x (i : Int)) (r x (i : Int)))) := by rw [wd_get k0 k1, cell_obj k2 f9]
  cases hfi : f.2.2.2.1 with
  | false => exact va_put (T := am_T f.1) (N := am_nf f.1) (ci := f.1) (C := am_nm f.1) cx cb cts (u_in f9) (am_fd f.1) (fun q hq => (T_at f9 hq).1) (fun a ha b hb hne => N_at f9 ha hb hne) cown cK b2 wd_D b3 x.toNat hws (cl_at _ f9) f.2.1 fl (cts _ fw) (fun _ h => h) (by rw [ff, hfi]) hT hnw.1 hnw.2 hlen hd w
  | true =>
    obtain ⟨i1, i2⟩ := hfin hfi
    exact va_putF (T := am_T f.1) (N := am_nf f.1) (ci := f.1) (C := am_nm f.1) cx cb cts (u_in f9) (am_fd f.1) (fun q hq => (T_at f9 hq).1) (fun a ha b hb hne => N_at f9 ha hb hne) cown cK b2 wd_D b3 x.toNat hws (cl_at _ f9) f.2.1 fl (cts _ fw) (fun _ h => h) (by rw [ff, hfi]) (cI i1) (by rw [fn, ← i2, kd_nm (by omega)]) hT hnw.1 hnw.2 hlen hd w
theorem g_putfield (C : CX p R s m args meth c G sc d k n0) {idx : Nat} {f : Nat × Nat × Nat × Bool × Nat} {x v : Int} (hd : decode (am_code k) pc = .ok (.putfield idx, 3)) (he : am_at k idx am_FL = some f) (hk : okr n x f.1) (hfin : f.2.2.2.1 = true → am_isI k = true ∧ am_kd (am_own k) = f.1)
    (h : if f.2.2.1 = 2 then Gd p l e R s m args below meth c G k n0 QE (pc + 3) ls st g (up r x (f.2.1 : Int) v) n else if f.2.2.1 = 3 then (v = 0 ∨ v = 1) ∧ Gd p l e R s m args below meth c G k n0 QE (pc + 3) ls st (up g x (f.2.1 : Int) v) r n else Gd p l e R s m args below meth c G k n0 QE (pc + 3) ls st (up g x (f.2.1 : Int) v) r n) :
    Gd p l e R s m args below meth c G k n0 QE pc ls ((am_tag f.2.2.1, v) :: (2, x) :: st) g r n := by
  obtain ⟨f9, fl, ft, -, -, -⟩ := F_at he
  obtain ⟨-, t0, t1, t3, t2, f4⟩ := T_at f9 fl
  have k2 := hk.2.2
  rw [ft] at t0 t1 t2 t3 f4
  have hc1 : ∀ v2, cellE G (up g x (f.2.1 : Int) v) r x = .inr (f.1, ((List.range (am_nf f.1)).map fun i => fvl G (am_ft f.1 i) (g x (i : Int)) (r x (i : Int))).set f.2.1 (fvl G (am_ft f.1 f.2.1) v v2)) → True := fun _ _ => trivial
  rcases f4 with h1 | h1 | h1 | h1 <;> rw [h1] at h ⊢
  · rw [if_neg (by decide), if_neg (by decide)] at h
    refine g_putany C hd he hk hfin (by rw [t0 h1]; exact ⟨rfl, rfl⟩) ?_ up_off (fun _ _ _ => rfl) (fun z1 z2 => okG_upI z2 (ok_r0 z1)) h
    rw [cell_put k2 f9, ft, h1]; rfl
  · rw [if_neg (by decide), if_neg (by decide)] at h
    refine g_putany C hd he hk hfin (by rw [t1 h1]; exact ⟨rfl, rfl⟩) ?_ up_off (fun _ _ _ => rfl) (fun z1 z2 => okG_upL z2 (is_lng k2 (by rw [ft, h1])) (ok_r1 z1)) h
    rw [cell_put k2 f9, ft, h1]; rfl
  · rw [if_pos rfl] at h
    refine g_putany C hd he hk hfin (fits_ref _ _ (t2 h1)) ?_ (fun _ _ _ => rfl) up_off (fun z1 z2 => okG_upR z2 (ok_r2 z1)) h
    rw [cell_putR k2 f9, ft, h1]; rfl
  · rw [if_neg (by decide), if_pos rfl] at h
    obtain ⟨hb, h⟩ := h
    refine g_putany C hd he hk hfin (by rw [t3 h1]; rcases hb with rfl | rfl <;> exact ⟨rfl, rfl⟩) ?_ up_off (fun _ _ _ => rfl) (fun z1 z2 => okG_upI z2 (ok_r0 z1)) h
    rw [cell_put k2 f9, ft, h1]; rfl
end SN3
end
section
/-! arrays -/
theorem okI_in {n x j : Int} {c : Nat} (h : okI n x c j) (hj : rI j) : vp_in (Int32.ofInt j) (am_ln x).toNat := i_in hj h.2.1 (by rw [ln_nat]; exact h.2.2)
theorem ofNat_toNat {j : Int} (h : 0 ≤ j) : ((j.toNat : Nat) : Int) = j := Int.toNat_of_nonneg h
theorem arr_i {G : AG} {g r : GH} {x j v : Int} {c : Nat} (hc : am_sh x = c) (h : c = 10 ∨ c = 11 ∨ c = 13) (hj : rI j) (h0 : 0 ≤ j) :
    cellE G (up g x j v) r x = .inl (G.2.2.2.2 c, (am_ln x).toNat, .inl (upd (fun q => Int32.ofInt (g x (q : Int))) (Int32.ofInt j).toNatClampNeg (Int32.ofInt v))) := by
  rw [cell_int hc h, i_cl hj]
  congr 3
  congr 1
  funext q
  rw [up_at]
  unfold upd
  by_cases hq : (q : Int) = j
  · rw [if_pos hq, if_pos (by omega)]
  · rw [if_neg hq, if_neg (by omega)]
theorem arr_l {G : AG} {g r : GH} {x j v : Int} (hc : am_sh x = 12) (hj : rI j) (h0 : 0 ≤ j) :
    cellE G (up g x j v) r x = .inl (G.2.2.2.2 12, (am_ln x).toNat, .inr (.inl (vp_updL (fun q => Int64.ofInt (g x (q : Int))) (Int32.ofInt j).toNatClampNeg (Int64.ofInt v)))) := by
  rw [cell_long hc, i_cl hj]
  congr 4
  apply congrArg
  funext q
  rw [up_at]
  unfold vp_updL
  by_cases hq : (q : Int) = j
  · rw [if_pos hq, if_pos (by omega)]
  · rw [if_neg hq, if_neg (by omega)]
theorem arr_r {G : AG} {g r : GH} {x j v : Int} {c : Nat} (hc : am_sh x = c) (h : c = 14 ∨ c = 15) (hj : rI j) (h0 : 0 ≤ j) :
    cellE G g (up r x j v) x = .inl (G.2.2.2.2 c, (am_ln x).toNat, .inr (.inr (.inr (.inr (va_up (fun q => rfo G (r x (q : Int))) (Int32.ofInt j).toNatClampNeg (rfo G v)))))) := by
  rw [cell_ref hc h, i_cl hj]
  congr 7
  funext q
  rw [up_at]
  unfold va_up
  by_cases hq : (q : Int) = j
  · rw [if_pos hq, if_pos (by omega)]
  · rw [if_neg hq, if_neg (by omega)]
section SN4
variable {p : Program} {l : Launch} {e : Env} {R : Room} {s : State} {m : MethodId} {args : Array Value} {below : List Frame} {meth : Method} {c : Code} {G : AG} {sc : SCR} {d k : Nat} {n0 : Int} {QE : State → Prop}
variable {pc pc2 : Nat} {ls st st2 : List AV} {g r : GH} {n : Int}
theorem g_iaload (C : CX p R s m args meth c G sc d k n0) {x j : Int} (hd : decode (am_code k) pc = .ok (.iaload, 1))
    (h : if x = -5 then 0 ≤ j ∧ j < sc.1 ∧ Gd p l e R s m args below meth c G k n0 QE (pc + 1) ls ((0, sc.2 j) :: st) g r n else okI n x 11 j ∧ Gd p l e R s m args below meth c G k n0 QE (pc + 1) ls ((0, g x j) :: st) g r n) : Gd p l e R s m args below meth c G k n0 QE pc ls ((0, j) :: (2, x) :: st) g r n := by
  intro a1 a2 a3 a4 a5 a6 H locs lsM b1 b2 b3 b4
  obtain ⟨cx, cb, cml, cown, cts, cK, cI, -, ⟨cn0, cn1⟩, ⟨tX, tb, tr, t0, tv2, -⟩, chs⟩ := C
  have hj := ok_r0 (fa_hd a3)
  rw [List.map_cons, List.map_cons, tv_0]
  split at h
  · rename_i hx
    subst hx
    obtain ⟨h0, h1, h⟩ := h
    have w := h a1 a2 (fa_cons (ok0 (tv2 j)) (fa_tl (fa_tl a3))) a4 a5 a6 H locs lsM b1 b2 b3 b4
    show W p l e R s m args below meth c H locs _ _ QE (F0 m pc lsM (.int (Int32.ofInt j) :: .ref G.2.1 :: st.map (tv G)))
    have hbl : G.2.1 < s.heap.size := by obtain ⟨scr, q1, -⟩ := tX; exact (Array.getElem?_eq_some_iff.mp q1).1
    refine va_sld cx cb tX hbl (Nat.not_le.mpr tb) b3 (i_in hj h0 (by rw [ofNat_toNat t0]; exact h1)) hd ?_
    rw [i_cl hj]
    rw [List.map_cons, tv_0] at w
    rw [ofNat_toNat h0]
    exact w
  · obtain ⟨hk, h⟩ := h
    have w := h a1 a2 (fa_cons (ok0 (a6.1 _ _ (nlng_arr hk.1.2.2 (by decide)))) (fa_tl (fa_tl a3))) a4 a5 a6 H locs lsM b1 b2 b3 b4
    rw [tv_o hk.1.1 (by have := hk.1.2.1; omega)]
    refine va_iald cx cb cK b2 x.toNat 1 (cA := G.2.2.2.2 11) (n := (am_ln x).toNat) (f := fun q => Int32.ofInt (g x (q : Int))) (by rw [wd_get hk.1.1 hk.1.2.1, cell_int hk.1.2.2 (by decide)]) rfl (okI_in hk hj) hd ?_
    rw [List.map_cons, tv_0] at w
    rw [i_cl hj, ofNat_toNat hk.2.1]
    exact w
theorem g_laload (C : CX p R s m args meth c G sc d k n0) {x j : Int} (hd : decode (am_code k) pc = .ok (.laload, 1)) (hk : okI n x 12 j)
    (h : Gd p l e R s m args below meth c G k n0 QE (pc + 1) ls ((1, g x j) :: st) g r n) : Gd p l e R s m args below meth c G k n0 QE pc ls ((0, j) :: (2, x) :: st) g r n := by
  intro a1 a2 a3 a4 a5 a6 H locs lsM b1 b2 b3 b4
  obtain ⟨cx, cb, cml, cown, cts, cK, cI, -, ⟨cn0, cn1⟩, -⟩ := C
  have hj := ok_r0 (fa_hd a3)
  rw [List.map_cons, List.map_cons, tv_0, tv_o hk.1.1 (by have := hk.1.2.1; omega)]
  have w := h a1 a2 (fa_cons (ok1 (a6.2.1 _ _)) (fa_tl (fa_tl a3))) a4 a5 a6 H locs lsM b1 b2 b3 b4
  refine va_lald cx cb cK b2 x.toNat 2 (cA := G.2.2.2.2 12) (n := (am_ln x).toNat) (f := fun q => Int64.ofInt (g x (q : Int))) (by rw [wd_get hk.1.1 hk.1.2.1, cell_long hk.1.2.2]) rfl (okI_in hk hj) hd ?_
  rw [List.map_cons, tv_1] at w
  rw [i_cl hj, ofNat_toNat hk.2.1]
  exact w
theorem g_baload (C : CX p R s m args meth c G sc d k n0) {x j : Int} (hd : decode (am_code k) pc = .ok (.baload, 1)) (hk : okI n x 10 j ∨ okI n x 13 j)
    (h : Gd p l e R s m args below meth c G k n0 QE (pc + 1) ls ((0, g x j) :: st) g r n) : Gd p l e R s m args below meth c G k n0 QE pc ls ((0, j) :: (2, x) :: st) g r n := by
  intro a1 a2 a3 a4 a5 a6 H locs lsM b1 b2 b3 b4
  obtain ⟨cx, cb, cml, cown, cts, cK, cI, -, ⟨cn0, cn1⟩, -⟩ := C
  have hj := ok_r0 (fa_hd a3)
  rcases hk with hk | hk
  · rw [List.map_cons, List.map_cons, tv_0, tv_o hk.1.1 (by have := hk.1.2.1; omega)]
    have w := h a1 a2 (fa_cons (ok0 (a6.1 _ _ (nlng_arr hk.1.2.2 (by decide)))) (fa_tl (fa_tl a3))) a4 a5 a6 H locs lsM b1 b2 b3 b4
    refine va_bald cx cb cK b2 x.toNat 0 (cA := G.2.2.2.2 10) (n := (am_ln x).toNat) (f := fun q => Int32.ofInt (g x (q : Int))) (by rw [wd_get hk.1.1 hk.1.2.1, cell_int hk.1.2.2 (by decide)]) rfl (okI_in hk hj) hd ?_
    rw [List.map_cons, tv_0] at w
    rw [i_cl hj, ofNat_toNat hk.2.1]
    exact w
  · rw [List.map_cons, List.map_cons, tv_0, tv_o hk.1.1 (by have := hk.1.2.1; omega)]
    have w := h a1 a2 (fa_cons (ok0 (a6.1 _ _ (nlng_arr hk.1.2.2 (by decide)))) (fa_tl (fa_tl a3))) a4 a5 a6 H locs lsM b1 b2 b3 b4
    refine va_zald cx cb cK b2 x.toNat 3 (cA := G.2.2.2.2 13) (n := (am_ln x).toNat) (f := fun q => Int32.ofInt (g x (q : Int))) (by rw [wd_get hk.1.1 hk.1.2.1, cell_int hk.1.2.2 (by decide)]) rfl (okI_in hk hj) hd ?_
    rw [List.map_cons, tv_0] at w
    rw [i_cl hj, ofNat_toNat hk.2.1]
    exact w
theorem g_aaload (C : CX p R s m args meth c G sc d k n0) {x j : Int} (hd : decode (am_code k) pc = .ok (.aaload, 1)) (hk : okI n x 14 j ∨ okI n x 15 j)
    (h : Gd p l e R s m args below meth c G k n0 QE (pc + 1) ls ((2, r x j) :: st) g r n) : Gd p l e R s m args below meth c G k n0 QE pc ls ((0, j) :: (2, x) :: st) g r n := by
  intro a1 a2 a3 a4 a5 a6 H locs lsM b1 b2 b3 b4
  obtain ⟨cx, cb, cml, cown, cts, cK, cI, -, ⟨cn0, cn1⟩, -⟩ := C
  have hj := ok_r0 (fa_hd a3)
  have w := h a1 a2 (fa_cons (ok2 (a6.2.2 _ _)) (fa_tl (fa_tl a3))) a4 a5 a6 H locs lsM b1 b2 b3 b4
  rcases hk with hk | hk
  · rw [List.map_cons, List.map_cons, tv_0, tv_o hk.1.1 (by have := hk.1.2.1; omega)]
    refine va_aldq cx cb cK b2 x.toNat 4 (cA := G.2.2.2.2 14) (C := "MillRow$Mill") (n := (am_ln x).toNat) (f := fun q => rfo G (r x (q : Int))) (by rw [wd_get hk.1.1 hk.1.2.1, cell_ref hk.1.2.2 (by decide)]) rfl (okI_in hk hj) hd ?_
    rw [List.map_cons, tv_2] at w
    rw [i_cl hj, ofNat_toNat hk.2.1]
    exact w
  · rw [List.map_cons, List.map_cons, tv_0, tv_o hk.1.1 (by have := hk.1.2.1; omega)]
    refine va_aldq cx cb cK b2 x.toNat 5 (cA := G.2.2.2.2 15) (C := "MillRow$Brook") (n := (am_ln x).toNat) (f := fun q => rfo G (r x (q : Int))) (by rw [wd_get hk.1.1 hk.1.2.1, cell_ref hk.1.2.2 (by decide)]) rfl (okI_in hk hj) hd ?_
    rw [List.map_cons, tv_2] at w
    rw [i_cl hj, ofNat_toNat hk.2.1]
    exact w
theorem g_iastore (C : CX p R s m args meth c G sc d k n0) {x j v : Int} (hd : decode (am_code k) pc = .ok (.iastore, 1)) (hk : okI n x 11 j)
    (h : Gd p l e R s m args below meth c G k n0 QE (pc + 1) ls st (up g x j v) r n) : Gd p l e R s m args below meth c G k n0 QE pc ls ((0, v) :: (0, j) :: (2, x) :: st) g r n := by
  intro a1 a2 a3 a4 a5 a6 H locs lsM b1 b2 b3 b4
  obtain ⟨cx, cb, cml, cown, cts, cK, cI, -, ⟨cn0, cn1⟩, -⟩ := C
  have hv := ok_r0 (fa_hd a3)
  have hj := ok_r0 (fa_hd (fa_tl a3))
  rw [List.map_cons, List.map_cons, List.map_cons, tv_0, tv_0, tv_o hk.1.1 (by have := hk.1.2.1; omega)]
  refine va_iast cx cb cK b2 wd_D b3 x.toNat 1 (cA := G.2.2.2.2 11) (n := (am_ln x).toNat) (f := fun q => Int32.ofInt (g x (q : Int))) (by rw [wd_get hk.1.1 hk.1.2.1, cell_int hk.1.2.2 (by decide)]) rfl (okI_in hk hj) hd (fun H1 locs1 z1 _ z3 => ?_)
  rw [← arr_i (r := r) hk.1.2.2 (by decide) hj hk.2.1, wd_set hk.1.1 hk.1.2.1 up_off (fun _ _ _ => rfl)] at z1
  exact h a1 a2 (fa_tl (fa_tl (fa_tl a3))) a4 a5 (okG_upI a6 hv) H1 locs1 lsM trivial z1 z3 b4
theorem g_lastore (C : CX p R s m args meth c G sc d k n0) {x j v : Int} (hd : decode (am_code k) pc = .ok (.lastore, 1)) (hk : okI n x 12 j)
    (h : Gd p l e R s m args below meth c G k n0 QE (pc + 1) ls st (up g x j v) r n) : Gd p l e R s m args below meth c G k n0 QE pc ls ((1, v) :: (0, j) :: (2, x) :: st) g r n := by
  intro a1 a2 a3 a4 a5 a6 H locs lsM b1 b2 b3 b4
  obtain ⟨cx, cb, cml, cown, cts, cK, cI, -, ⟨cn0, cn1⟩, -⟩ := C
  have hv := ok_r1 (fa_hd a3)
  have hj := ok_r0 (fa_hd (fa_tl a3))
  rw [List.map_cons, List.map_cons, List.map_cons, tv_1, tv_0, tv_o hk.1.1 (by have := hk.1.2.1; omega)]
  refine va_last cx cb cK b2 wd_D b3 x.toNat 2 (cA := G.2.2.2.2 12) (n := (am_ln x).toNat) (f := fun q => Int64.ofInt (g x (q : Int))) (by rw [wd_get hk.1.1 hk.1.2.1, cell_long hk.1.2.2]) rfl (okI_in hk hj) hd (fun H1 locs1 z1 _ z3 => ?_)
  rw [← arr_l (r := r) hk.1.2.2 hj hk.2.1, wd_set hk.1.1 hk.1.2.1 up_off (fun _ _ _ => rfl)] at z1
  exact h a1 a2 (fa_tl (fa_tl (fa_tl a3))) a4 a5 (okG_upL a6 (Or.inl hk.1.2.2) hv) H1 locs1 lsM trivial z1 z3 b4
theorem g_bastore (C : CX p R s m args meth c G sc d k n0) {x j v : Int} (hd : decode (am_code k) pc = .ok (.bastore, 1)) (hk : (okI n x 10 j ∧ i_b v = v) ∨ (okI n x 13 j ∧ (v = 0 ∨ v = 1)))
    (h : Gd p l e R s m args below meth c G k n0 QE (pc + 1) ls st (up g x j v) r n) : Gd p l e R s m args below meth c G k n0 QE pc ls ((0, v) :: (0, j) :: (2, x) :: st) g r n := by
  intro a1 a2 a3 a4 a5 a6 H locs lsM b1 b2 b3 b4
  obtain ⟨cx, cb, cml, cown, cts, cK, cI, -, ⟨cn0, cn1⟩, -⟩ := C
  have hv := ok_r0 (fa_hd a3)
  have hj := ok_r0 (fa_hd (fa_tl a3))
  rcases hk with ⟨hk, hb⟩ | ⟨hk, hb⟩
  · rw [List.map_cons, List.map_cons, List.map_cons, tv_0, tv_0, tv_o hk.1.1 (by have := hk.1.2.1; omega)]
    refine va_bast cx cb cK b2 wd_D b3 x.toNat 0 (cA := G.2.2.2.2 10) (n := (am_ln x).toNat) (f := fun q => Int32.ofInt (g x (q : Int))) (by rw [wd_get hk.1.1 hk.1.2.1, cell_int hk.1.2.2 (by decide)]) rfl (okI_in hk hj) hd (fun H1 locs1 z1 _ z3 => ?_)
    have e : vp_nar .byte (Int32.ofInt v) = Int32.ofInt v := by
      rw [vp_nar_byte]
      apply Int32.toInt_inj.mp
      rw [Int32.toInt_ofInt_of_le hv.1 hv.2]
      exact hb
    rw [e, ← arr_i (r := r) hk.1.2.2 (by decide) hj hk.2.1, wd_set hk.1.1 hk.1.2.1 up_off (fun _ _ _ => rfl)] at z1
    exact h a1 a2 (fa_tl (fa_tl (fa_tl a3))) a4 a5 (okG_upI a6 hv) H1 locs1 lsM trivial z1 z3 b4
  · rw [List.map_cons, List.map_cons, List.map_cons, tv_0, tv_0, tv_o hk.1.1 (by have := hk.1.2.1; omega)]
    refine va_zast cx cb cK b2 wd_D b3 x.toNat 3 (cA := G.2.2.2.2 13) (n := (am_ln x).toNat) (f := fun q => Int32.ofInt (g x (q : Int))) (by rw [wd_get hk.1.1 hk.1.2.1, cell_int hk.1.2.2 (by decide)]) rfl (okI_in hk hj) hd (fun H1 locs1 z1 _ z3 => ?_)
    have e : vp_nar .boolean (Int32.ofInt v) = Int32.ofInt v := by rcases hb with rfl | rfl <;> rfl
    rw [e, ← arr_i (r := r) hk.1.2.2 (by decide) hj hk.2.1, wd_set hk.1.1 hk.1.2.1 up_off (fun _ _ _ => rfl)] at z1
    exact h a1 a2 (fa_tl (fa_tl (fa_tl a3))) a4 a5 (okG_upI a6 hv) H1 locs1 lsM trivial z1 z3 b4
theorem rfo_o {x : Int} (h0 : 0 ≤ x) (h1 : x < 1000000) : rfo G x = some (G.1 + x.toNat) := by
  rw [rfo, if_neg (by omega), adr_o h0 h1]
theorem g_aastore (C : CX p R s m args meth c G sc d k n0) {x j v : Int} (hd : decode (am_code k) pc = .ok (.aastore, 1)) (hk : (okI n x 14 j ∧ okr n v 2) ∨ (okI n x 15 j ∧ okr n v 0))
    (h : Gd p l e R s m args below meth c G k n0 QE (pc + 1) ls st g (up r x j v) n) : Gd p l e R s m args below meth c G k n0 QE pc ls ((2, v) :: (0, j) :: (2, x) :: st) g r n := by
  intro a1 a2 a3 a4 a5 a6 H locs lsM b1 b2 b3 b4
  obtain ⟨cx, cb, cml, cown, cts, cK, cI, -, ⟨cn0, cn1⟩, -⟩ := C
  have hv := ok_r2 (fa_hd a3)
  have hj := ok_r0 (fa_hd (fa_tl a3))
  rcases hk with ⟨hk, kv⟩ | ⟨hk, kv⟩
  · have hv1 := kv.2.1
    rw [List.map_cons, List.map_cons, List.map_cons, tv_o kv.1 (by omega), tv_0, tv_o hk.1.1 (by have := hk.1.2.1; omega)]
    refine va_astq cx cb cK b2 wd_D b3 x.toNat 4 v.toNat 2 (cA := G.2.2.2.2 14) (r := ("MillRow$Mill", am_T 2, am_nf 2)) (n := (am_ln x).toNat) (f := fun q => rfo G (r x (q : Int))) (by rw [wd_get hk.1.1 hk.1.2.1, cell_ref hk.1.2.2 (by decide)]) rfl (by rw [wd_get kv.1 kv.2.1, cell_obj kv.2.2 (by decide)]) rfl (okI_in hk hj) hd (fun H1 locs1 z1 _ z3 => ?_)
    rw [← rfo_o kv.1 (by omega), ← arr_r (g := g) hk.1.2.2 (by decide) hj hk.2.1, wd_set hk.1.1 hk.1.2.1 (fun _ _ _ => rfl) up_off] at z1
    exact h a1 a2 (fa_tl (fa_tl (fa_tl a3))) a4 a5 (okG_upR a6 hv) H1 locs1 lsM trivial z1 z3 b4
  · have hv1 := kv.2.1
    rw [List.map_cons, List.map_cons, List.map_cons, tv_o kv.1 (by omega), tv_0, tv_o hk.1.1 (by have := hk.1.2.1; omega)]
    refine va_astq cx cb cK b2 wd_D b3 x.toNat 5 v.toNat 0 (cA := G.2.2.2.2 15) (r := ("MillRow$Brook", am_T 0, am_nf 0)) (n := (am_ln x).toNat) (f := fun q => rfo G (r x (q : Int))) (by rw [wd_get hk.1.1 hk.1.2.1, cell_ref hk.1.2.2 (by decide)]) rfl (by rw [wd_get kv.1 kv.2.1, cell_obj kv.2.2 (by decide)]) rfl (okI_in hk hj) hd (fun H1 locs1 z1 _ z3 => ?_)
    rw [← rfo_o kv.1 (by omega), ← arr_r (g := g) hk.1.2.2 (by decide) hj hk.2.1, wd_set hk.1.1 hk.1.2.1 (fun _ _ _ => rfl) up_off] at z1
    exact h a1 a2 (fa_tl (fa_tl (fa_tl a3))) a4 a5 (okG_upR a6 hv) H1 locs1 lsM trivial z1 z3 b4
theorem ofInt_nat (N : Nat) : Int32.ofInt (N : Int) = Int32.ofNat N := by
  apply Int32.toInt_inj.mp
  simp
theorem g_alen (C : CX p R s m args meth c G sc d k n0) {x : Int} (hd : decode (am_code k) pc = .ok (.arraylength, 1))
    (h : if x = -5 then Gd p l e R s m args below meth c G k n0 QE (pc + 1) ls ((0, sc.1) :: st) g r n else (0 ≤ x ∧ x < n ∧ 11 ≤ am_sh x ∧ am_sh x ≤ 15) ∧ Gd p l e R s m args below meth c G k n0 QE (pc + 1) ls ((0, am_ln x) :: st) g r n) : Gd p l e R s m args below meth c G k n0 QE pc ls ((2, x) :: st) g r n := by
  intro a1 a2 a3 a4 a5 a6 H locs lsM b1 b2 b3 b4
  obtain ⟨cx, cb, cml, cown, cts, cK, cI, -, ⟨cn0, cn1⟩, ⟨tX, tb, tr, t0, tv2, -⟩, chs⟩ := C
  split at h
  · rename_i hx
    subst hx
    have w := h a1 a2 (fa_cons (ok0 tr) (fa_tl a3)) a4 a5 a6 H locs lsM b1 b2 b3 b4
    show W p l e R s m args below meth c H locs _ _ QE (F0 m pc lsM (.ref G.2.1 :: st.map (tv G)))
    have hbl : G.2.1 < s.heap.size := by obtain ⟨scr, q1, -⟩ := tX; exact (Array.getElem?_eq_some_iff.mp q1).1
    refine va_slen cx cb tX hbl (Nat.not_le.mpr tb) b3 hd ?_
    rw [List.map_cons, tv_0] at w
    rw [← ofInt_nat, ofNat_toNat t0]
    exact w
  · obtain ⟨⟨k0, k1, k2, k3⟩, h⟩ := h
    have hl := ln_rng x
    have w := h a1 a2 (fa_cons (ok0 ⟨by omega, by omega⟩) (fa_tl a3)) a4 a5 a6 H locs lsM b1 b2 b3 b4
    rw [List.map_cons, tv_0] at w
    rw [List.map_cons, tv_o k0 (by omega)]
    have ev : Int32.ofNat (am_ln x).toNat = Int32.ofInt (am_ln x) := by rw [← ofInt_nat, ln_nat]
    have hsh : am_sh x = 11 ∨ am_sh x = 12 ∨ am_sh x = 13 ∨ am_sh x = 14 ∨ am_sh x = 15 := by omega
    rcases hsh with hs | hs | hs | hs | hs
    · exact va_alen cx cb cK b2 x.toNat 1 (cA := G.2.2.2.2 11) (x := ((am_ln x).toNat, .inl fun q => Int32.ofInt (g x (q : Int)))) (by rw [wd_get k0 k1, cell_int hs (by decide)]) (ty := .int) rfl ev hd w
    · exact va_alen cx cb cK b2 x.toNat 2 (cA := G.2.2.2.2 12) (x := ((am_ln x).toNat, .inr (.inl fun q => Int64.ofInt (g x (q : Int))))) (by rw [wd_get k0 k1, cell_long hs]) (ty := .long) rfl ev hd w
    · exact va_alen cx cb cK b2 x.toNat 3 (cA := G.2.2.2.2 13) (x := ((am_ln x).toNat, .inl fun q => Int32.ofInt (g x (q : Int)))) (by rw [wd_get k0 k1, cell_int hs (by decide)]) (ty := .boolean) rfl ev hd w
    · exact va_alen cx cb cK b2 x.toNat 4 (cA := G.2.2.2.2 14) (x := ((am_ln x).toNat, .inr (.inr (.inr (.inr fun q => rfo G (r x (q : Int))))))) (by rw [wd_get k0 k1, cell_ref hs (by decide)]) (ty := .object "MillRow$Mill") rfl ev hd w
    · exact va_alen cx cb cK b2 x.toNat 5 (cA := G.2.2.2.2 15) (x := ((am_ln x).toNat, .inr (.inr (.inr (.inr fun q => rfo G (r x (q : Int))))))) (by rw [wd_get k0 k1, cell_ref hs (by decide)]) (ty := .object "MillRow$Brook") rfl ev hd w
end SN4
end
section
/-! objects and arrays made -/
theorem born_v {G : AG} {c j : Nat} (h9 : c ≤ 9) (hj : j < am_nf c) : defaultValue (am_fd c j) = fvl G (am_ft c j) 0 (-1) := by
  obtain ⟨-, t0, t1, t3, t2, f4⟩ := T_at h9 hj
  rcases f4 with h | h | h | h <;> rw [h]
  · rw [t0 h]; rfl
  · rw [t1 h]; rfl
  · have q := t2 h
    cases hf : am_fd c j <;> rw [hf] at q <;> first | (cases q; done) | rfl
  · rw [t3 h]; rfl
theorem N_at2 {k idx : Nat} {e : Nat × Nat} (h : am_at k idx am_NL = some e) : e.1 ≤ 9 ∧ Cond.classLink (am_cn (am_own k)) idx (am_nm e.1) ∈ LW ∧ Cond.instantiable (am_nm e.1) (am_nf e.1) ∈ LW ∧ Cond.initialized (am_nm e.1) ∈ LW := by
  obtain ⟨hi, h⟩ := am_at_inv h
  have hm := am_lk_mem h
  have h1 := of_decide_eq_true (List.all_eq_true.mp N_ok _ hm)
  have h2 := LW_of (N_in _ (List.mem_map_of_mem hm)) rfl
  have e1 : am_key k idx / 100000 = am_own k := by unfold am_key; omega
  have e2 : am_key k idx % 100000 = idx := by unfold am_key; omega
  unfold w_N at h2
  dsimp only at h1 h2
  rw [e1, e2] at h2
  exact ⟨h1.1, h2, LW_of (am_sub_mem _ _ IS_words _ (List.mem_map_of_mem (f := fun c => Cond.instantiable (am_nm c) (am_nf c)) h1.2)) rfl, LW_of (of_decide_eq_true (List.all_eq_true.mp IS_ini _ h1.2)) rfl⟩
section SN5
variable {p : Program} {l : Launch} {e : Env} {R : Room} {s : State} {m : MethodId} {args : Array Value} {below : List Frame} {meth : Method} {c : Code} {G : AG} {sc : SCR} {d k : Nat} {n0 : Int} {QE : State → Prop}
variable {pc pc2 : Nat} {ls st st2 : List AV} {g r : GH} {n : Int}
/-- the heap's size is known wherever the walk stands -/
theorem sz_of {T : State} {H : Heap} {locs : List Loc} {sl : Nat} (hs : s.heap.size = G.1 + n0.toNat) (h0 : 0 ≤ n0) (h1 : n0 ≤ n) (hT : T.heap = H) (X : Stand p l e R s m args below meth c T locs (n - n0).toNat sl) (hP : va_P G.2.2.2.1 am_cl (wd G g r n) H) (hS : va_S (fun q => G.1 ≤ q) s.heap H locs) : H.size = G.1 + n.toNat := by
  have a := X.heapSize
  rw [hT, hs] at a
  by_cases hn : n = n0
  · have b := hS.1
    rw [hs] at b
    rw [hn] at a ⊢
    rw [Int.sub_self] at a
    have a : H.size ≤ G.1 + n0.toNat + 0 := a
    omega
  · have b := (hP (n - 1).toNat _ (wd_get (x := n - 1) (by omega) (by omega))).lt
    have b : G.1 + (n - 1).toNat < H.size := b
    omega
theorem made_P {H H1 : Heap} {el : va_E} (hn : 0 ≤ n) (hP : va_P G.2.2.2.1 am_cl (wd G g r n) H) (hz : H.size = G.1 + n.toNat) (o1 : ∀ q, q < G.1 + n.toNat → H1[q]? = H[q]?) (hc : cellE G g r n = el) (ha : va_at G.2.2.2.1 am_cl (G.1 + n.toNat, el) H1) : va_P G.2.2.2.1 am_cl (wd G g r (n + 1)) H1 := by
  rw [wd_push hn, hc]
  refine (hP.kept (fun k q hk => o1 q.1 ?_)).app (fun k q hq => ?_)
  · rw [← hz]; exact (hP k q hk).lt
  · have hz1 : k < 1 := (List.getElem?_eq_some_iff.mp hq).1
    rw [show k = 0 by omega] at hq
    cases hq
    exact ha
theorem made_S {H H1 : Heap} {locs : List Loc} {N : Nat} (hS : va_S (fun q => G.1 ≤ q) s.heap H locs) (hz : H.size = N) (z1 : H1.size = N + 1) (o1 : ∀ q, q < N → H1[q]? = H[q]?) : va_S (fun q => G.1 ≤ q) s.heap H1 locs :=
  ⟨Nat.le_trans hS.1 (by omega), fun x h1 h2 => (o1 x (by have := hS.1; omega)).trans (hS.2.1 x h1 h2), hS.2.2⟩
theorem made_n (hn0 : 0 ≤ n0) (h1 : n0 ≤ n) (h2 : n < n0 + am_mk k) (h218 : n0 + am_mk k ≤ 218) (hR : am_mk k ≤ R.cells ∧ am_cs (n0 + am_mk k) - am_cs n0 ≤ R.slots) : (n + 1 - n0).toNat = (n - n0).toNat + 1 ∧ am_cs (n + 1) - am_cs n0 = (am_cs n - am_cs n0) + (am_ln n).toNat ∧ (n - n0).toNat + 1 ≤ R.cells ∧ (am_cs n - am_cs n0) + (am_ln n).toNat ≤ R.slots := by
  have e := cs_step (n := n) (by omega) (by omega)
  have m1 := cs_mono hn0 h1 (by omega)
  have m2 := cs_mono (a := n + 1) (b := n0 + am_mk k) (by omega) (by omega) h218
  omega
theorem g_new (C : CX p R s m args meth c G sc d k n0) {idx : Nat} {f : Nat × Nat} (hd : decode (am_code k) pc = .ok (.new idx, 3)) (he : am_at k idx am_NL = some f) (h2 : am_sh n = f.1) (h3 : am_ln n = ((am_nf f.1 : Nat) : Int)) (h4 : n < n0 + am_mk k) (hf : fresh g r n)
    (h : Gd p l e R s m args below meth c G k n0 QE (pc + 3) ls ((2, n) :: st) g r (n + 1)) : Gd p l e R s m args below meth c G k n0 QE pc ls st g r n := by
  intro a1 a2 a3 a4 a5 a6 H locs lsM b1 b2 b3 b4
  obtain ⟨cx, cb, cml, cown, cts, cK, cI, ⟨-, -, cR⟩, ⟨cn0, cn1⟩, -, chs⟩ := C
  obtain ⟨f9, fc, fi, fn⟩ := N_at2 he
  obtain ⟨m1, m2, m3, m4⟩ := made_n cn0 a1 h4 cn1 cR
  rw [h3, Int.toNat_natCast] at m2 m4
  have hn : 0 ≤ n := by omega
  have hKn := cK.1 f.1 _ (cl_at _ f9)
  intro T hT X
  have hz := sz_of chs cn0 a1 hT X b2 b3
  refine (W.newcK (C := am_nm f.1) cx cb cown (cts _ fc) (cts _ fi) (cts _ fn) rfl hd m3 m4 hKn.2.1 hz (fun H1 kC hkC e1 z1 o1 => ?_) : W p l e R s m args below meth c H locs (n - n0).toNat (am_cs n - am_cs n0) QE (F0 m pc lsM (st.map (tv G)))) T hT X
  have w := h (by omega) (by omega) (fa_cons (ok2 (Or.inr (Or.inr hn))) a3) a4 a5 a6 H1 locs lsM trivial
    (made_P hn b2 hz o1 (cell_obj h2 f9) ⟨_, cl_at _ f9, (u_born (am_fd f.1) cts (u_in f9) hKn hkC e1 (fun q hq => (T_at f9 hq).1)).to (fun j hj => by
      show defaultValue (am_fd f.1 j) = _
      unfold vp_V
      rw [List.getD_eq_getElem?_getD, List.getElem?_map, List.getElem?_range hj, Option.map_some, Option.getD_some, (hf j).1, (hf j).2]
      exact born_v f9 hj)⟩)
    (made_S b3 hz z1 o1) b4
  rw [m1, m2, List.map_cons, tv_o hn (by omega)] at w
  exact w
theorem ra_nm {U : State} {cA cB : ClassId} {ty : FieldType} (h : va_RA U cA ty) (h2 : U.vm.findClass ("[" ++ ty.toString) = some cB) : cB = cA := by
  cases ty with
  | object C =>
    obtain ⟨kA, comp, -, -, -, h4⟩ := h
    exact Option.some.inj (h2.symm.trans h4)
  | _ => exact Option.some.inj (h2.symm.trans h)
theorem g_newarr (C : CX p R s m args meth c G sc d k n0) {at_ : ArrayType} {ty : FieldType} {kd t0 : Nat} {x : Int} {ct : (Nat → Int32) ⊕ (Nat → Int64) ⊕ (Nat → UInt32) ⊕ (Nat → UInt64) ⊕ (Nat → Option Nat)} (hd : decode (am_code k) pc = .ok (.newarray at_, 2)) (hty : newarray.typeOf at_ = ty) (hb8 : componentBytes ty ≤ 8) (hw : Cond.arrayClass ty ∈ tables_1) (ht0 : (tyA G)[t0]? = some (G.2.2.2.2 kd, ty))
    (hcell : (hf : fresh g r n) → am_sh n = kd → cellE G g r n = .inl (G.2.2.2.2 kd, (am_ln n).toNat, ct)) (hdef : ∀ cA N, vp_cell cA (N, ct) = arrV cA N (fun _ => defaultValue ty))
    (h0 : 0 ≤ x) (h2 : am_sh n = kd) (h3 : am_ln n = x) (h4 : n < n0 + am_mk k) (hf : fresh g r n)
    (h : Gd p l e R s m args below meth c G k n0 QE (pc + 2) ls ((2, n) :: st) g r (n + 1)) : Gd p l e R s m args below meth c G k n0 QE pc ls ((0, x) :: st) g r n := by
  intro a1 a2 a3 a4 a5 a6 H locs lsM b1 b2 b3 b4
  obtain ⟨cx, cb, cml, cown, cts, cK, cI, ⟨-, -, cR⟩, ⟨cn0, cn1⟩, -, chs⟩ := C
  obtain ⟨m1, m2, m3, m4⟩ := made_n cn0 a1 h4 cn1 cR
  have hn : 0 ≤ n := by omega
  have hx := ok_r0 (fa_hd a3)
  have hl := ln_rng n
  intro T hT X
  have hz := sz_of chs cn0 a1 hT X b2 b3
  rw [List.map_cons, tv_0]
  refine (va_newaK (N := (am_ln n).toNat) cx cb (atype := at_) (by rw [hty]; exact cts _ (LW_of hw rfl)) rfl hd rfl (i_nn hx h0) (by rw [i_cl hx, h3]) (by rw [hty]; calc (am_ln n).toNat * componentBytes ty ≤ 4000 * 8 := Nat.mul_le_mul (by omega) hb8
      _ ≤ 536870912 := by decide) m3 m4 hz (fun H1 cB e1 z1 o1 _ hnm => ?_) : W p l e R s m args below meth c H locs (n - n0).toNat (am_cs n - am_cs n0) QE (F0 m pc lsM (.int (Int32.ofInt x) :: st.map (tv G)))) T hT X
  rw [hty] at e1 hnm
  have hcB := ra_nm (cK.2 t0 _ ht0).2 hnm
  subst hcB
  have w := h (by omega) (by omega) (fa_cons (ok2 (Or.inr (Or.inr hn))) (fa_tl a3)) a4 a5 a6 H1 locs lsM trivial
    (made_P hn b2 hz o1 (hcell hf h2) (by show H1[G.1 + n.toNat]? = some (vp_cell (G.2.2.2.2 kd) ((am_ln n).toNat, ct)); rw [hdef]; exact e1)) (made_S b3 hz z1 o1) b4
  rw [m1, m2, List.map_cons, tv_o hn (by omega)] at w
  exact w
theorem g_newI (C : CX p R s m args meth c G sc d k n0) {at_ : ArrayType} {kd : Nat} (hd : decode (am_code k) pc = .ok (.newarray at_, 2)) (hk : at_ = .int ∧ kd = 11 ∨ at_ = .long ∧ kd = 12 ∨ at_ = .boolean ∧ kd = 13 ∨ at_ = .byte ∧ kd = 10)
    (h : stArr k n0 (Gd p l e R s m args below meth c G k n0 QE) pc ls st g r n kd) : Gd p l e R s m args below meth c G k n0 QE pc ls st g r n := by
  obtain ⟨x, s2, rfl, h0, h2, h3, h4, hf, hG⟩ := am_p_inv h
  rcases hk with ⟨rfl, rfl⟩ | ⟨rfl, rfl⟩ | ⟨rfl, rfl⟩ | ⟨rfl, rfl⟩
  · exact g_newarr C (ty := .int) (t0 := 1) (ct := .inl fun _ => 0) hd rfl (by decide) arr_in.1 rfl (fun hf hs => by rw [cell_int hs (by decide)]; congr 3; congr 1; funext q; rw [(hf q).1]; rfl) (fun _ _ => rfl) h0 h2 h3 h4 hf hG
  · exact g_newarr C (ty := .long) (t0 := 2) (ct := .inr (.inl fun _ => 0)) hd rfl (by decide) arr_in.2.1 rfl (fun hf hs => by rw [cell_long hs]; congr 4; apply congrArg; funext q; rw [(hf q).1]; rfl) (fun _ _ => rfl) h0 h2 h3 h4 hf hG
  · exact g_newarr C (ty := .boolean) (t0 := 3) (ct := .inl fun _ => 0) hd rfl (by decide) arr_in.2.2.1 rfl (fun hf hs => by rw [cell_int hs (by decide)]; congr 3; congr 1; funext q; rw [(hf q).1]; rfl) (fun _ _ => rfl) h0 h2 h3 h4 hf hG
  · exact g_newarr C (ty := .byte) (t0 := 0) (ct := .inl fun _ => 0) hd rfl (by decide) arr_in.2.2.2.1 rfl (fun hf hs => by rw [cell_int hs (by decide)]; congr 3; congr 1; funext q; rw [(hf q).1]; rfl) (fun _ _ => rfl) h0 h2 h3 h4 hf hG
theorem g_anew (C : CX p R s m args meth c G sc d k n0) {idx : Nat} {f : Nat × Nat} {kd t0 : Nat} {x : Int} (hd : decode (am_code k) pc = .ok (.anewarray idx, 3)) (he : am_at k idx am_NL = some f) (hao : va_AO (am_nm f.1) s) (ht0 : (tyA G)[t0]? = some (G.2.2.2.2 kd, .object (am_nm f.1))) (hkd : kd = 14 ∨ kd = 15)
    (h0 : 0 ≤ x) (h2 : am_sh n = kd) (h3 : am_ln n = x) (h4 : n < n0 + am_mk k) (hf : fresh g r n)
    (h : Gd p l e R s m args below meth c G k n0 QE (pc + 3) ls ((2, n) :: st) g r (n + 1)) : Gd p l e R s m args below meth c G k n0 QE pc ls ((0, x) :: st) g r n := by
  intro a1 a2 a3 a4 a5 a6 H locs lsM b1 b2 b3 b4
  obtain ⟨cx, cb, cml, cown, cts, cK, cI, ⟨-, -, cR⟩, ⟨cn0, cn1⟩, -, chs⟩ := C
  obtain ⟨-, fc, -, -⟩ := N_at2 he
  obtain ⟨m1, m2, m3, m4⟩ := made_n cn0 a1 h4 cn1 cR
  have hn : 0 ≤ n := by omega
  have hx := ok_r0 (fa_hd a3)
  have hl := ln_rng n
  intro T hT X
  have hz := sz_of chs cn0 a1 hT X b2 b3
  rw [List.map_cons, tv_0]
  have ecl := i_cl hx
  refine (W.anew (C := am_nm f.1) cx cb cown (cts _ fc) (va_AO.use hao) rfl hd rfl (i_nn hx h0) (by rw [ecl, ← h3]; omega) m3 (by rw [ecl, ← h3]; exact m4) (fun cB kA comp f1 f2 f3 f4 => ?_) : W p l e R s m args below meth c H locs (n - n0).toNat (am_cs n - am_cs n0) QE (F0 m pc lsM (.int (Int32.ofInt x) :: st.map (tv G)))) T hT X
  have hcB := ra_nm (cK.2 t0 _ ht0).2 f1
  subst hcB
  rw [ecl, ← h3]
  generalize hH1 : H.push ({ cls := G.2.2.2.2 kd, slots := Array.replicate (am_ln n).toNat .null, vm := .none } : Cell) = H1
  have z1 : H1.size = (G.1 + n.toNat) + 1 := by rw [← hH1, Array.size_push, hz]
  have e1 : H1[G.1 + n.toNat]? = some (arrV (G.2.2.2.2 kd) (am_ln n).toNat (fun _ => .null)) := by rw [← hH1, ← hz, Array.getElem?_push_size, ← arrV_new]
  have o1 : ∀ q : Nat, q < G.1 + n.toNat → H1[q]? = H[q]? := fun q hq => by rw [← hH1, Array.getElem?_push, if_neg (by omega)]
  have hcell : cellE G g r n = .inl (G.2.2.2.2 kd, (am_ln n).toNat, .inr (.inr (.inr (.inr fun _ => none)))) := by
    rw [cell_ref h2 hkd]
    congr 7
    funext q
    rw [(hf q).2]; rfl
  have w := h (by omega) (by omega) (fa_cons (ok2 (Or.inr (Or.inr hn))) (fa_tl a3)) a4 a5 a6 H1 locs lsM trivial
    (made_P hn b2 hz o1 hcell (by show H1[G.1 + n.toNat]? = some (vp_cell _ _); rw [vp_cell_q]; exact e1)) (made_S b3 hz z1 o1) b4
  rw [m1, m2, List.map_cons, tv_o hn (by omega)] at w
  rw [hz]
  exact w
end SN5
end
section
/-! contracts -/
def WA (G : AG) (sc : SCR) (U : State) (g r : GH) (n : Int) : Prop := U.heap.size = G.1 + n.toNat ∧ va_P G.2.2.2.1 am_cl (wd G g r n) U.heap ∧ va_K G.2.2.2.1 am_cl (tyA G) U ∧ TXs G sc U
def rvO (G : AG) (rc : Nat) (v : Int) : Option Value := if rc = 0 then none else if rc = 3 then some (.long (Int64.ofInt v)) else if rc = 4 then some (va_rf (rfo G v)) else some (.int (Int32.ofInt v))
def okRet (rc : Nat) (v : Int) : Prop := (rc = 1 ∨ rc = 2 → rI v) ∧ (rc = 3 → rL v) ∧ (rc = 4 → rR v)
def QcA (G : AG) (k : Nat) (n : Int) (Q : Int → GH → GH → Int → Prop) : Array Value → State → Outcome → State → Prop := fun _ st oc t => ∃ (v : Int) (g2 r2 : GH), oc = .returned (rvO G (am_rc k) v) ∧ okRet (am_rc k) v ∧ Q v g2 r2 (n + am_mk k) ∧ okG g2 r2 ∧ va_P G.2.2.2.1 am_cl (wd G g2 r2 (n + am_mk k)) t.heap ∧ (∀ q, q < G.1 → t.heap[q]? = st.heap[q]?) ∧ st.heap.size ≤ t.heap.size
def rmd (d k : Nat) (n : Int) : Room := { frames := d, cells := am_mk k, slots := am_cs (n + am_mk k) - am_cs n, locals := 64 * d }
def wsK (k : Nat) : List Cond := Cond.code (am_y k) (am_code k) (am_maxL k) (am_ret k) :: LW
/-- the contracts of all methods at a depth -/
def SD (l : Launch) (G : AG) (sc : SCR) (d : Nat) (C : CTR) : Prop := ∀ (k : Nat) (as : List AV) (g r : GH) (n : Int) (Q : Int → GH → GH → Int → Prop), k ∈ am_CO → C k as g r n Q → 0 ≤ n → n + am_mk k ≤ 218 → (∀ v ∈ as, okv v) → okG g r →
  Met l (am_y k) (wsK k) (rmd d k n) (va_Pc (as.map (tv G)) (fun U => WA G sc U g r n)) (QcA G k n Q) (am_mk k) (am_cs (n + am_mk k) - am_cs n) (fun q => G.1 ≤ q)
theorem CO_in {k : Nat} (h : k ∈ am_CO) : Cond.code (am_y k) (am_code k) (am_maxL k) (am_ret k) ∈ LW := by
  have h1 : Cond.code (am_y k) (am_code k) (am_maxL k) (am_ret k) ∈ am_CO.map fun k => Cond.code (am_y k) (am_code k) (am_maxL k) (am_ret k) := List.mem_map_of_mem (f := fun k => Cond.code (am_y k) (am_code k) (am_maxL k) (am_ret k)) h
  rw [CO_words] at h1
  obtain ⟨i, -, hi⟩ := List.mem_filterMap.mp h1
  exact LW_of (List.mem_of_getElem? hi) rfl
theorem M_at {k : Nat} (h : k ∈ am_CO) : am_maxL k ≤ 41 ∧ (am_y k).cls = am_cn (am_own k) ∧ (am_isI k = true → (am_y k).name = "<init>") ∧ (am_rc k = 0 → am_ret k = none) ∧ (am_rc k = 1 → am_ret k = some .int) ∧ (am_rc k = 2 → am_ret k = some .boolean) ∧ (am_rc k = 3 → am_ret k = some .long) ∧ (am_rc k = 4 → ((match am_ret k with | some (.object _) => true | some (.array _) => true | _ => false) = true)) :=
  of_decide_eq_true (List.all_eq_true.mp M_ok _ h)
theorem C_at {k idx : Nat} {e : Nat × Nat × Nat × Nat} (h : am_at k idx am_CL = some e) : (am_key k idx, e) ∈ am_CL ∧ am_key k idx / 100000 = am_own k ∧ am_key k idx % 100000 = idx ∧ w_C (am_key k idx, e) ∈ tables_1 := by
  obtain ⟨hi, h⟩ := am_at_inv h
  have hm := am_lk_mem h
  exact ⟨hm, by unfold am_key; omega, by unfold am_key; omega, am_sub_mem _ _ C_words _ (List.mem_map_of_mem hm)⟩
theorem sel_in {k : Nat} (h : k ∈ am_SE ∨ k ∈ am_PL) : Cond.selects (am_y k).cls (am_y k) (am_y k) ∈ LW := by
  rcases h with h | h
  · exact LW_of (am_sub_mem _ _ SE_words _ (List.mem_map_of_mem (f := fun k => Cond.selects (am_y k).cls (am_y k) (am_y k)) h)) rfl
  · have h1 : am_y k ∈ am_PL.map am_y := List.mem_map_of_mem h
    rw [← PL_words] at h1
    obtain ⟨q, hq, he⟩ := List.mem_map.mp h1
    refine List.mem_filter.mpr ⟨List.mem_append_left _ (List.mem_map.mpr ⟨q, hq, ?_⟩), rfl⟩
    rw [he]
theorem TX_move {G : AG} {sc : SCR} {u U : State} (hvm : u.vm.Alike U.vm) (hr : StrR G u → StrR G U) (hn : ∀ q ∈ am_CL, (q.2.2.2.1 = 3 ∨ q.2.2.2.1 = 5) → va_Nw (w_C q) u → va_Nw (w_C q) U) (hq : ∀ a : Nat, a < u.heap.size → ¬ G.1 ≤ a → U.heap[a]? = u.heap[a]?) (h : TXs G sc u) : TXs G sc U := by
  obtain ⟨t1, t2, t3, t4, t5, t6, ⟨adV, t7, t8, t9⟩, t10, t11, t12⟩ := h
  have hlt : G.2.1 < u.heap.size := by obtain ⟨scr, q1, -⟩ := t1; exact (Array.getElem?_eq_some_iff.mp q1).1
  exact ⟨(t1.moved hvm).kept (hq _ hlt (Nat.not_le.mpr t2)), t2, t3, t4, t5, hr t6, ⟨adV, (t7.moved hvm).kept hq, (t8.moved hvm).kept hq, (t9.moved hvm).kept hq⟩, t10.moved hvm, t11.moved hvm, fun q h1 h2 => hn q h1 h2 (t12 q h1 h2)⟩
theorem TX_call {G : AG} {sc : SCR} {U : State} {f : JFrame} {mk : MethodId} {a : Array Value} (h : TXs G sc U) : TXs G sc (U.calling f mk a) :=
  TX_move (Vm.Alike.refl U.vm) (fun h e he => vk_R.same (u := U) (U := U.calling f mk a) rfl (h e he)) (fun q _ h2 hz => va_Nw.same (u := U) (U := U.calling f mk a) (by unfold w_C; rcases h2 with h2 | h2 <;> rw [h2] <;> rfl) rfl hz) (fun _ _ _ => rfl) h
theorem TX_warm {G : AG} {sc : SCR} {s U : State} {H : Heap} {locs : List Loc} (hW : s.WarmedH U.vm) (hU : U.heap = H) (hS : va_S (fun q => G.1 ≤ q) s.heap H locs) (h : TXs G sc s) : TXs G sc U :=
  TX_move hW.alike (fun h e he => (h e he).warm hW) (fun q _ h2 hz => by
    revert hz
    unfold w_C
    rcases h2 with h2 | h2 <;> rw [h2] <;> exact fun hz => va_Nw.warmM hW hz) (fun a h1 h2 => by rw [hU]; exact hS.2.1 a h1 h2) h
theorem blind_A {G : AG} {sc : SCR} {g r : GH} {n : Int} {av : List Value} : FrameBlind (va_Pc av (fun U => WA G sc U g r n)) := fun a U f mk h => by
  obtain ⟨h1, h2, h3, h4, h5⟩ := h
  exact ⟨h1, h2, h3, va_K.moved (u := U) (U := U.calling f mk a) (Vm.Alike.refl U.vm) h4, TX_call h5⟩
section SN6
variable {p : Program} {l : Launch} {e : Env} {R : Room} {s : State} {m : MethodId} {args : Array Value} {below : List Frame} {meth : Method} {c : Code} {G : AG} {sc : SCR} {d k : Nat} {n0 : Int} {QE : State → Prop}
variable {pc pc2 : Nat} {ls st st2 : List AV} {g r : GH} {n : Int}
theorem push_tv {rc : Nat} {v : Int} (s2 : List AV) : (rvO G rc v).toList ++ s2.map (tv G) = (am_push rc v s2).map (tv G) := by
  unfold rvO am_push
  split
  · rfl
  · split
    · rfl
    · split
      · rfl
      · rfl
theorem push_ok {rc : Nat} {v : Int} {s2 : List AV} (h : okRet rc v) (hrc : rc ≤ 4) (h2 : ∀ w ∈ s2, okv w) : ∀ w ∈ am_push rc v s2, okv w := by
  unfold am_push
  split
  · exact h2
  · split
    · exact fa_cons (ok1 (h.2.1 ‹_›)) h2
    · split
      · exact fa_cons (ok2 (h.2.2 ‹_›)) h2
      · exact fa_cons (ok0 (h.1 (by omega))) h2
/-- behind any call by contract -/
theorem g_after {k2 : Nat} {as2 : Array Value} {s2 : List AV} (C : CX p R s m args meth c G sc d k n0) (hrc : am_rc k2 ≤ 4)
    (a1 : n0 ≤ n) (a2 : n ≤ n0 + am_mk k) (hnk : n + am_mk k2 ≤ n0 + am_mk k) (a3 : ∀ w ∈ s2, okv w) (a4 : ∀ v ∈ ls, okv v) (a5 : ls.length = am_maxL k) {H : Heap} {locs : List Loc} {lsM : Array Slot} (b3 : va_S (fun q => G.1 ≤ q) s.heap H locs) (b4 : lv_has lsM (am_maxL k) (lvl G 0 ls))
    {S : List Value} (hr : va_Run p l e R s m args below meth c H locs (n - n0).toNat (am_cs n - am_cs n0) (am_mk k2) (am_cs (n + am_mk k2) - am_cs n) (F0 m pc lsM S) (s2.map (tv G)) (QcA G k2 n (fun v g2 r2 n2 => Gd p l e R s m args below meth c G k n0 QE (pc + 3) ls (am_push (am_rc k2) v s2) g2 r2 n2) as2) (fun q => G.1 ≤ q)) :
    W p l e R s m args below meth c H locs (n - n0).toNat (am_cs n - am_cs n0) QE (F0 m pc lsM S) := by
  intro T hT X
  obtain ⟨v, st₀, t, T', L, h0, X', hL, e1, e2, ⟨vv, g2, r2, hv, hok, hG, hgr, hP, hbl, hsz⟩, hst⟩ := hr T hT X
  cases hv
  obtain ⟨-, -, -, -, -, -, -, -, ⟨cn0, cn1⟩, -⟩ := C
  have w := hG (by omega) hnk (push_ok hok hrc a3) a4 a5 hgr T'.heap (locs ++ L) lsM trivial (by rw [e1]; exact hP)
    ⟨by rw [e1]; exact Nat.le_trans b3.1 (by rw [← h0]; exact hsz), fun q h1 h2 => by rw [e1, hbl q (by omega), h0]; exact b3.2.1 q h1 h2, fun q hq => by
      rcases List.mem_append.mp hq with h | h
      · exact b3.2.2 q h
      · exact hL q h⟩ b4
  have m1 := cs_mono cn0 a1 (by omega)
  have m2 := cs_mono (a := n) (b := n + am_mk k2) (by omega) (by omega) (by omega)
  rw [show (n + am_mk k2 - n0).toNat = (n - n0).toNat + am_mk k2 by omega, show am_cs (n + am_mk k2) - am_cs n0 = (am_cs n - am_cs n0) + (am_cs (n + am_mk k2) - am_cs n) by omega, ← push_tv] at w
  obtain ⟨t2, q1, q2⟩ := w T' rfl X'
  exact ⟨t2, hst t2 q1, q2⟩
end SN6
end
section
/-! calls -/
section SN7
variable {p : Program} {l : Launch} {e : Env} {R : Room} {s : State} {m : MethodId} {args : Array Value} {below : List Frame} {meth : Method} {c : Code} {G : AG} {sc : SCR} {d k : Nat} {n0 : Int} {QE : State → Prop} {CC : CTR}
variable {pc pc2 : Nat} {ls st st2 : List AV} {g r : GH} {n : Int}
theorem LW_in {ws : List Cond} (h : ∀ w ∈ ws, w ∈ LW) : GoodIn LW ws := fun w hw => ⟨h w hw, LW_good (h w hw)⟩
theorem wsK_in {k2 : Nat} (h : k2 ∈ am_CO) : ∀ w ∈ wsK k2, w ∈ LW := fun w hw => by
  rcases List.mem_cons.mp hw with rfl | hw
  · exact CO_in h
  · exact hw
theorem rc4 {k2 : Nat} (h : k2 ∈ am_CO) : am_rc k2 ≤ 4 :=
  of_decide_eq_true (List.all_eq_true.mp (show am_CO.all (fun k => decide (am_rc k ≤ 4)) = true by decide +kernel) k2 h)
/-- the callee's world at the call -/
theorem pre_S {H : Heap} {locs : List Loc} {as2 : List AV} (C : CX p R s m args meth c G sc d k n0) (hz : H.size = G.1 + n.toNat) (b2 : va_P G.2.2.2.1 am_cl (wd G g r n) H) (b3 : va_S (fun q => G.1 ≤ q) s.heap H locs) : PreS s H (va_Pc (as2.map (tv G)) (fun U => WA G sc U g r n)) (as2.map (tv G)) := by
  obtain ⟨-, -, -, -, -, cK, -, -, -, cT, -⟩ := C
  exact ⟨blind_A, fun U hU hW => ⟨rfl, by rw [hU]; exact hz, by rw [hU]; exact b2, va_K.moved hW.alike cK, TX_warm hW hU b3 cT⟩⟩
theorem room_k {k2 : Nat} (h : k2 ∈ am_CO) (C : CX p R s m args meth c G sc d k n0) : (rmd d k2 n).frames + 1 ≤ R.frames ∧ 8 + (am_maxL k2 + 11) + (rmd d k2 n).locals ≤ R.locals := by
  obtain ⟨-, -, -, -, -, -, -, ⟨c1, c2, -⟩, -⟩ := C
  have h1 := (M_at h).1
  exact ⟨c1, by show 8 + (am_maxL k2 + 11) + 64 * d ≤ R.locals; omega⟩
theorem cells_k {k2 : Nat} (C : CX p R s m args meth c G sc d k n0) (a1 : n0 ≤ n) (a2 : n ≤ n0 + am_mk k) (hc : cellsOK k n0 k2 n) : n + am_mk k2 ≤ n0 + am_mk k ∧ ((n - n0).toNat + am_mk k2 ≤ R.cells ∧ (am_cs n - am_cs n0) + (am_cs (n + am_mk k2) - am_cs n) ≤ R.slots) := by
  obtain ⟨-, -, -, -, -, -, -, ⟨-, -, c3, c4⟩, ⟨cn0, cn1⟩, -⟩ := C
  have h1 : n + am_mk k2 ≤ n0 + am_mk k := by
    by_cases hz : am_mk k2 = 0
    · rw [hz]; omega
    · exact hc hz
  have m1 := cs_mono cn0 a1 (by omega)
  have m2 := cs_mono (a := n) (b := n + am_mk k2) (by omega) (by omega) (by omega)
  have m3 := cs_mono (a := n + am_mk k2) (b := n0 + am_mk k) (by omega) (by omega) (by omega)
  exact ⟨h1, by omega, by omega⟩
theorem g_call (C : CX p R s m args meth c G sc d k n0) (hSD : SD l G sc d CC) {idx : Nat} {f : Nat × Nat × Nat × Nat} {as : List AV} {s2 : List AV} {i : Instr} (hd : decode (am_code k) pc = .ok (i, 3)) (he : am_at k idx am_CL = some f) (hcat : am_cat s2 ≤ 8) (hce : cellsOK k n0 f.1 n)
    {rcv : List AV} (hlen : as.length = f.2.1) (hst : st = as.reverse ++ (rcv ++ s2))
    (hm : (i = .invokevirtual idx ∧ f.2.2.1 = 0 ∧ ∃ x, rcv = [(2, x)] ∧ okr n x (am_kd (am_own f.1))) ∨ (i = .invokestatic idx ∧ (f.2.2.1 = 1 ∨ f.2.2.1 = 5) ∧ rcv = []) ∨ (i = .invokespecial idx ∧ (f.2.2.1 = 2 ∨ f.2.2.1 = 3) ∧ ∃ x, rcv = [(2, x)] ∧ 0 ≤ x ∧ x < 1000000))
    (h : CC f.1 (rcv ++ as) g r n (fun v g2 r2 n2 => Gd p l e R s m args below meth c G k n0 QE (pc + 3) ls (am_push (am_rc f.1) v s2) g2 r2 n2)) : Gd p l e R s m args below meth c G k n0 QE pc ls st g r n := by
  subst hst
  intro a1 a2 a3 a4 a5 a6 H locs lsM b1 b2 b3 b4
  obtain ⟨hmem, hk1, hk2, hw⟩ := C_at he
  have hf := of_decide_eq_true (List.all_eq_true.mp C_ok _ hmem)
  dsimp only at hf
  obtain ⟨hco, hini, hcl, hy1, hy2, hdesc, hv0, hv1, hv2⟩ := hf (by rcases hm with ⟨-, q, -⟩ | ⟨-, q, -⟩ | ⟨-, q, -⟩ <;> omega)
  obtain ⟨hnk, hcells⟩ := cells_k C a1 a2 hce
  have C0 := C
  obtain ⟨cx, cb, cml, cown, cts, cK, cI, -, ⟨cn0, cn1⟩, cT, chs⟩ := C
  have hargs : ∀ w ∈ rcv ++ as, okv w := fun w hw => a3 w (by
    rcases List.mem_append.mp hw with h | h
    · exact List.mem_append_right _ (List.mem_append_left _ h)
    · exact List.mem_append_left _ (List.mem_reverse.mpr h))
  have hM := hSD f.1 (rcv ++ as) g r n _ hco h (by omega) (by omega) hargs a6
  have a3' : ∀ w ∈ s2, okv w := fun w hw => a3 w (List.mem_append_right _ (List.mem_append_right _ hw))
  have hiniw : (Cond.initialized (am_y f.1).cls).before args s = true := by
    rw [hcl]; exact cts _ (LW_of (am_sub_mem _ _ IN_words _ (List.mem_map_of_mem (f := fun c => Cond.initialized (am_cn c)) hini)) rfl)
  have hstk : (as.reverse ++ (rcv ++ s2)).map (tv G) = (as.map (tv G)).reverse ++ (rcv.map (tv G) ++ s2.map (tv G)) := by
    rw [List.map_append, List.map_append, List.map_reverse]
  intro T hT X
  have hz := sz_of chs cn0 a1 hT X b2 b3
  rw [hstk]
  have hroom := room_k (n := n) hco C0
  have hW8 : ((s2.map (tv G)).map fun v => v.category).sum ≤ 8 := by rw [cat_map]; exact hcat
  have hlsz : lsM.size = am_maxL k := b4.1
  have hargl : (as.map (tv G)).length = f.2.1 := by rw [List.length_map]; exact hlen
  refine (g_after (k2 := f.1) (s2 := s2) C0 (rc4 hco) a1 a2 hnk a3' a4 a5 b3 b4 (as2 := ((rcv ++ as).map (tv G)).toArray) ?_ : W p l e R s m args below meth c H locs (n - n0).toNat (am_cs n - am_cs n0) QE (F0 m pc lsM _)) T hT X
  rcases hm with ⟨rfl, hmode, x, rfl, hx⟩ | ⟨rfl, hmode, rfl⟩ | ⟨rfl, hmode, x, rfl, hx0, hx1⟩
  · obtain ⟨him, hse, hkd9, hnm⟩ := hv0 hmode
    obtain ⟨x0, x1, x2⟩ := hx
    rw [w_C, hmode] at hw
    dsimp only at hw
    rw [hk1, hk2] at hw
    have hpre := pre_S (as2 := [(2, x)] ++ as) C0 hz b2 b3
    rw [List.map_append, List.map_cons, List.map_nil, tv_o x0 (by omega)] at hpre hM ⊢
    refine va_runV (Ts := LW) ⟨cx, cb, cml, cown, cts⟩ hM (cwV f.2.1 cts (LW_in fun w hw2 => ?_) rfl rfl rfl ⟨rfl, hy1, hy2, hdesc⟩ hroom) ⟨hpre.1, ?_, hpre.2⟩ rfl hargl hlsz rfl (lv_room hW8) hd hcells
    · rcases List.mem_append.mp hw2 with h1 | h1
      · simp only [List.mem_cons, List.not_mem_nil, or_false] at h1
        rcases h1 with rfl | rfl | rfl | rfl
        · exact LW_of hw rfl
        · exact LW_of (am_sub_mem _ _ IM_words _ (List.mem_map_of_mem (f := fun k => Cond.instanceMethod (am_y k)) him)) rfl
        · exact sel_in hse
        · rw [hcl]; exact LW_of (am_sub_mem _ _ IN_words _ (List.mem_map_of_mem (f := fun c => Cond.initialized (am_cn c)) hini)) rfl
      · exact wsK_in hco w h1
    · have hr := va_recv (q0 := x.toNat) cK b2 (cl_at _ hkd9) (by rw [wd_get x0 x1, cell_obj x2 hkd9])
      rw [← hnm]
      exact hr
  · have hpre := pre_S (as2 := [] ++ as) C0 hz b2 b3
    have hsm := hv1 hmode
    rcases hmode with hmode | hmode
    · rw [w_C, hmode] at hw
      dsimp only at hw
      rw [hk1, hk2] at hw
      refine va_runS (Ts := LW) ⟨cx, cb, cml, cown, cts⟩ hM (va_cwS f.2.1 cts (LW_in fun w hw2 => ?_) rfl rfl rfl ⟨hy1, hy2, hdesc⟩ hroom) hpre rfl hargl hlsz rfl (lv_room hW8) hd hcells
      rcases List.mem_append.mp hw2 with h1 | h1
      · simp only [List.mem_cons, List.not_mem_nil, or_false] at h1
        rcases h1 with rfl | rfl | rfl
        · exact LW_of hw rfl
        · exact LW_of (am_sub_mem _ _ SM_words _ (List.mem_map_of_mem (f := fun k => Cond.static (am_y k)) hsm)) rfl
        · rw [hcl]; exact LW_of (am_sub_mem _ _ IN_words _ (List.mem_map_of_mem (f := fun c => Cond.initialized (am_cn c)) hini)) rfl
      · exact wsK_in hco w h1
    · have hnest := cT.2.2.2.2.2.2.2.2.2 _ hmem (Or.inr hmode)
      rw [w_C, hmode] at hnest
      dsimp only at hnest
      rw [hk1, hk2] at hnest
      exact va_runSN (Ts := LW) ⟨cx, cb, cml, cown, cts⟩ hM ⟨va_cnB f.2.1 cts (LW_in (wsK_in hco)) rfl rfl rfl hnest hiniw ⟨hy1, hy2, hdesc⟩ hroom, cts _ (LW_of (am_sub_mem _ _ SM_words _ (List.mem_map_of_mem (f := fun k => Cond.static (am_y k)) hsm)) rfl), trivial⟩ hpre rfl hargl hlsz rfl (lv_room hW8) hd hcells
  · obtain ⟨him, hname, hrc0, hret0⟩ := hv2 hmode
    have himw : (Cond.instanceMethod (am_y f.1)).before args s = true := cts _ (LW_of (am_sub_mem _ _ IM_words _ (List.mem_map_of_mem (f := fun k => Cond.instanceMethod (am_y k)) him)) rfl)
    have hpre := pre_S (as2 := [(2, x)] ++ as) C0 hz b2 b3
    rw [List.map_append, List.map_cons, List.map_nil, tv_o hx0 hx1] at hpre hM ⊢
    have hcode : wsK f.1 = Cond.code (am_y f.1) (am_code f.1) (am_maxL f.1) none :: LW := by unfold wsK; rw [hret0]
    rcases hmode with hmode | hmode
    · rw [w_C, hmode] at hw
      dsimp only at hw
      rw [hk1, hk2] at hw
      exact va_runI (Ts := LW) ⟨cx, cb, cml, cown, cts⟩ hM (cwI f.2.1 cts (LW_in (wsK_in hco)) hcode rfl rfl hiniw (cts _ (LW_of hw rfl)) himw hname ⟨hy1, hy2, hdesc⟩ hroom) hpre rfl hargl hlsz rfl (lv_room hW8) hd hcells
    · have hnest := cT.2.2.2.2.2.2.2.2.2 _ hmem (Or.inl hmode)
      rw [w_C, hmode] at hnest
      dsimp only at hnest
      rw [hk1, hk2] at hnest
      exact va_runIN (Ts := LW) ⟨cx, cb, cml, cown, cts⟩ hM ⟨va_cnB f.2.1 cts (LW_in (wsK_in hco)) hcode rfl rfl hnest hiniw ⟨hy1, hy2, hdesc⟩ hroom, hname, himw⟩ hpre rfl hargl hlsz rfl (lv_room hW8) hd hcells
end SN7
end
section
/-! constants, texts, Object's constructor, copies, ends -/
def yLen : MethodName := ⟨"java/lang/String", "length", "()I"⟩
def yChr : MethodName := ⟨"java/lang/String", "charAt", "(I)C"⟩
abbrev cLen : ByteArray := prog_14_method_54_code
abbrev cChr : ByteArray := prog_14_method_56_code
def rmS : Room := { frames := 3, cells := 0, slots := 0, locals := 192 }
def QS (v : Value) : Array Value → State → Outcome → State → Prop := fun _ st oc t => oc = .returned (some v) ∧ t.heap = st.heap
def StrM (l : Launch) (G : AG) (sc : SCR) : Prop :=
  (∀ i, i < 22 → Met l yLen (.code yLen cLen 1 (some .int) :: LW) rmS (va_Pc [.ref (G.2.2.1 i)] (fun U => TXs G sc U)) (QS (.int (Int32.ofInt (((am_sb.getD i []).length : Nat) : Int)))) 0 0 (fun _ => False)) ∧
  (∀ i j, i < 22 → j < (am_sb.getD i []).length → Met l yChr (.code yChr cChr 2 (some .char) :: LW) rmS (va_Pc [.ref (G.2.2.1 i), .int (Int32.ofInt (j : Int))] (fun U => TXs G sc U)) (QS (.int (Int32.ofInt ((am_sb.getD i []).getD j 0)))) 0 0 (fun _ => False))
theorem sb_ok : (List.range 22).all (fun i => (am_sb.getD i []).all (fun b => decide (0 ≤ b ∧ b < 128)) && decide ((am_sb.getD i []).length < 20)) = true := by decide +kernel
theorem S_ok : (am_SL.all fun q => decide (q.2.1 < 22)) = true := by decide +kernel
theorem K_at {k idx : Nat} {e : Nat × Int × Nat} (h : am_at k idx am_KL = some e) : (e.1 = 0 → rI e.2.1) ∧ rL e.2.1 ∧ (if e.1 = 0 then Cond.constant (am_cn (am_own k)) idx (Int32.ofInt e.2.1) else Cond.constantLong (am_cn (am_own k)) idx (Int64.ofInt e.2.1)) ∈ LW := by
  obtain ⟨hi, h⟩ := am_at_inv h
  have hm := am_lk_mem h
  have h1 := of_decide_eq_true (List.all_eq_true.mp K_ok _ hm)
  have h2 := K_in _ (List.mem_map_of_mem hm)
  have e1 : am_key k idx / 100000 = am_own k := by unfold am_key; omega
  have e2 : am_key k idx % 100000 = idx := by unfold am_key; omega
  unfold w_K at h2
  dsimp only at h1 h2
  rw [e1, e2] at h2
  refine ⟨h1.1, h1.2, LW_of h2 ?_⟩
  split <;> rfl
section SN8
variable {p : Program} {l : Launch} {e : Env} {R : Room} {s : State} {m : MethodId} {args : Array Value} {below : List Frame} {meth : Method} {c : Code} {G : AG} {sc : SCR} {d k : Nat} {n0 : Int} {QE : State → Prop} {CC : CTR}
variable {pc pc2 : Nat} {ls st st2 : List AV} {g r : GH} {n : Int}
theorem g_ldcI (C : CX p R s m args meth c G sc d k n0) {idx : Nat} {f : Nat × Int × Nat} {i : Instr} {len : Nat} (hd : decode (am_code k) pc = .ok (i, len)) (hi : i = .ldc idx ∧ len = 2 ∨ i = .ldc_w idx ∧ len = 3) (he : am_at k idx am_KL = some f) (hf : f.1 = 0)
    (h : Gd p l e R s m args below meth c G k n0 QE (pc + len) ls ((0, f.2.1) :: st) g r n) : Gd p l e R s m args below meth c G k n0 QE pc ls st g r n := by
  obtain ⟨k1, -, k3⟩ := K_at he
  rw [if_pos hf] at k3
  obtain ⟨cx, cb, cml, cown, cts, -⟩ := C
  refine gd_pure _ (.int (Int32.ofInt f.2.1) :: st.map (tv G)) rfl rfl (fun H locs cells slots lsM _ w => ?_) (fun h1 _ => fa_cons (ok0 (k1 hf)) h1) h
  rcases hi with ⟨rfl, rfl⟩ | ⟨rfl, rfl⟩
  · exact lv_ldc cx cb cown (cts _ k3) hd w
  · exact lv_ldcw cx cb cown (cts _ k3) hd w
theorem g_ldcL (C : CX p R s m args meth c G sc d k n0) {idx : Nat} {f : Nat × Int × Nat} (hd : decode (am_code k) pc = .ok (.ldc2_w idx, 3)) (he : am_at k idx am_KL = some f) (hf : f.1 = 1)
    (h : Gd p l e R s m args below meth c G k n0 QE (pc + 3) ls ((1, f.2.1) :: st) g r n) : Gd p l e R s m args below meth c G k n0 QE pc ls st g r n := by
  obtain ⟨-, k2, k3⟩ := K_at he
  rw [if_neg (by omega)] at k3
  obtain ⟨cx, cb, cml, cown, cts, -⟩ := C
  exact gd_pure _ (.long (Int64.ofInt f.2.1) :: st.map (tv G)) rfl rfl (fun H locs cells slots lsM _ w => lv_ldc2 cx cb cown (cts _ k3) hd w) (fun h1 _ => fa_cons (ok1 k2) h1) h
theorem tv_str {i : Nat} (hi : i < 22) : tv G (2, 1000000 + (i : Int)) = .ref (G.2.2.1 i) := by
  rw [tv_2, rfo, if_neg (by omega), adr, if_neg (by omega), if_pos (by omega), show (1000000 + (i : Int) - 1000000).toNat = i by omega]; rfl
theorem g_ldcS (C : CX p R s m args meth c G sc d k n0) {idx : Nat} {f : Nat × Nat} (hd : decode (am_code k) pc = .ok (.ldc idx, 2)) (he : am_at k idx am_SL = some f)
    (h : Gd p l e R s m args below meth c G k n0 QE (pc + 2) ls ((2, 1000000 + (f.1 : Int)) :: st) g r n) : Gd p l e R s m args below meth c G k n0 QE pc ls st g r n := by
  obtain ⟨hi, he⟩ := am_at_inv he
  have hm := am_lk_mem he
  have h22 := of_decide_eq_true (List.all_eq_true.mp S_ok _ hm)
  obtain ⟨cx, cb, cml, cown, cts, -, -, -, -, ⟨-, -, -, -, -, tS, -⟩, -⟩ := C
  have hs := tS _ hm
  dsimp only at hs h22
  rw [show am_key k idx / 100000 = am_own k by unfold am_key; omega, show am_key k idx % 100000 = idx by unfold am_key; omega] at hs
  exact gd_pure _ (.ref (G.2.2.1 f.1) :: st.map (tv G)) rfl (by rw [List.map_cons, tv_str h22]) (fun H locs cells slots lsM _ w => va_ldcS cx cb cown hs hd w) (fun h1 _ => fa_cons (ok2 (Or.inr (Or.inr (by omega)))) h1) h
theorem g_objinit (C : CX p R s m args meth c G sc d k n0) {idx : Nat} {f : Nat × Nat × Nat × Nat} {x : Int} (hd : decode (am_code k) pc = .ok (.invokespecial idx, 3)) (he : am_at k idx am_CL = some f) (hf : f.2.2.1 = 8) (h0 : 0 ≤ x) (h1 : x < 1000000) (hcat : am_cat st ≤ 8)
    (h : Gd p l e R s m args below meth c G k n0 QE (pc + 3) ls st g r n) : Gd p l e R s m args below meth c G k n0 QE pc ls ((2, x) :: st) g r n := by
  obtain ⟨-, e1, e2, hw⟩ := C_at he
  rw [w_C, hf] at hw
  dsimp only at hw
  rw [e1, e2] at hw
  obtain ⟨cx, cb, cml, cown, cts, -, -, ⟨c1, c2, -⟩, -⟩ := C
  refine gd_pure _ (st.map (tv G)) rfl rfl (fun H locs cells slots lsM hL w => ?_) (fun h1 _ => fa_tl h1) h
  rw [List.map_cons, tv_o h0 h1]
  refine W.objInit (a := G.1 + x.toNat) (rest := st.map (tv G)) cx cb cown (cts _ (LW_of hw rfl)) (cts _ (LW_of ob_in.1 rfl)) (cts _ (LW_of ob_in.2 rfl)) rfl (by rw [cml]; exact hL.1) rfl hd (by omega) ?_ w
  rw [cat_map]
  show 2 * 0 + _ + 12 ≤ _
  omega
theorem g_str (C : CX p R s m args meth c G sc d k n0) (h3 : 3 ≤ d) {idx : Nat} {y : MethodName} {bytes : ByteArray} {maxL : Nat} {ret : Option FieldType} {as2 : List AV} {x z : Int} (hd : decode (am_code k) pc = .ok (.invokevirtual idx, 3)) (hlink : Cond.methodLink (am_cn (am_own k)) idx y ∈ LW) (hcls : y.cls = "java/lang/String") (hmx : maxL ≤ 2)
    (hws : ∀ w ∈ wsV (am_cn (am_own k)) idx "java/lang/String" y (.code y bytes maxL ret :: LW), w ∈ LW) (hdesc : (parseMethodDescriptor y.desc).map (fun d => d.parameters.length) = some as2.length)
    (hx : okT x) (hM : Met l y (.code y bytes maxL ret :: LW) rmS (va_Pc (tv G (2, x) :: as2.map (tv G)) (fun U => TXs G sc U)) (QS (.int (Int32.ofInt z))) 0 0 (fun _ => False)) (hz : rI z) (hcat : am_cat st ≤ 8)
    (h : Gd p l e R s m args below meth c G k n0 QE (pc + 3) ls ((0, z) :: st) g r n) : Gd p l e R s m args below meth c G k n0 QE pc ls (as2.reverse ++ (2, x) :: st) g r n := by
  intro a1 a2 a3 a4 a5 a6 H locs lsM b1 b2 b3 b4
  obtain ⟨cx, cb, cml, cown, cts, cK, cI, ⟨c1, c2, c3, c4⟩, ⟨cn0, cn1⟩, cT, chs⟩ := C
  have w := h a1 a2 (fa_cons (ok0 hz) (fun v hv => a3 v (List.mem_append_right _ (List.mem_cons_of_mem _ hv)))) a4 a5 a6 H locs lsM b1 b2 b3 b4
  obtain ⟨adV, tS, -⟩ := cT.2.2.2.2.2.2.1
  have hi : (x - 1000000).toNat < 22 := by have := hx.1; have := hx.2; omega
  have ex : x = 1000000 + (((x - 1000000).toNat : Nat) : Int) := by have := hx.1; omega
  have etv : tv G (2, x) = .ref (G.2.2.1 (x - 1000000).toNat) := by
    conv => lhs; rw [ex]
    rw [tv_str hi]
  rw [etv] at hM
  rw [List.map_append, List.map_cons, List.map_reverse, etv]
  have hW8 : ((st.map (tv G)).map fun v => v.category).sum ≤ 8 := by rw [cat_map]; exact hcat
  have m1 := cs_mono cn0 a1 (by omega)
  have m2 := cs_mono (a := n) (b := n0 + am_mk k) (by omega) (by omega) (by omega)
  intro T hT X
  obtain ⟨v, st₀, t, T', L, q0, X', hL, e1, e2, ⟨hv, hh⟩, hst⟩ := va_runV (Ts := LW) (C := "java/lang/String") (mc := 0) (ms := 0) (n := as2.length) (rest := st.map (tv G)) (As := as2.map (tv G)) (H := H) (g := F0 m pc lsM ((as2.map (tv G)).reverse ++ .ref (G.2.2.1 (x - 1000000).toNat) :: st.map (tv G))) ⟨cx, cb, cml, cown, cts⟩ hM
    (cwV as2.length cts (LW_in hws) rfl rfl rfl ⟨hcls, by rw [hcls]; decide, by rw [hcls]; decide, hdesc⟩ ⟨by show 3 + 1 ≤ R.frames; omega, by show 8 + (maxL + 11) + 192 ≤ R.locals; omega⟩)
    ⟨fun a U f mk q => ⟨q.1, TX_call q.2⟩, vk_recv tS hi b3, fun U hU hW => ⟨rfl, TX_warm hW hU b3 cT⟩⟩ rfl (by rw [List.length_map]) b4.1 rfl (lv_room hW8) hd (by omega) T hT X
  cases hv
  have hhe : T'.heap = H := by rw [e1, hh, q0]
  obtain ⟨t2, q1, q2⟩ := w T' hhe (Stand.forget X' (fun q h => (hL q h).elim))
  exact ⟨t2, hst t2 q1, q2⟩
theorem okG_cpy {src sp dst dp len : Int} (h : okG g r) (hk : (okr n src 11 ∧ okr n dst 11) ∨ (okr n src 12 ∧ okr n dst 12)) : okG (cpy g src sp dst dp len) r := by
  refine ⟨fun a b hl => ?_, fun a b => ?_, h.2.2⟩
  · unfold cpy; split
    · rename_i q
      rcases hk with ⟨h1, h2⟩ | ⟨h1, h2⟩
      · exact h.1 _ _ (nlng_arr h1.2.2 (by decide))
      · exact absurd (Or.inl (by rw [q.1]; exact h2.2.2)) hl
    · exact h.1 _ _ hl
  · unfold cpy; split
    · exact h.2.1 _ _
    · exact h.2.1 _ _
theorem cpy_off {f : GH} {src sp dst dp len : Int} : ∀ i, i ≠ dst → ∀ j, cpy f src sp dst dp len i j = f i j := fun i hi j => by
  unfold cpy; rw [if_neg (fun q => hi q.1)]
theorem g_copy (C : CX p R s m args meth c G sc d k n0) {idx : Nat} {f : Nat × Nat × Nat × Nat} {src sp dst dp len : Int} (hd : decode (am_code k) pc = .ok (.invokestatic idx, 3)) (he : am_at k idx am_CL = some f) (hf : f.2.2.1 = 4) (hcat : am_cat st ≤ 8)
    (h0 : 0 ≤ sp) (h1 : 0 ≤ dp) (h2 : 0 ≤ len) (h3 : sp + len ≤ am_ln src) (h4 : dp + len ≤ am_ln dst) (hk : (okr n src 11 ∧ okr n dst 11) ∨ (okr n src 12 ∧ okr n dst 12))
    (h : Gd p l e R s m args below meth c G k n0 QE (pc + 3) ls st (cpy g src sp dst dp len) r n) : Gd p l e R s m args below meth c G k n0 QE pc ls ((0, len) :: (0, dp) :: (2, dst) :: (0, sp) :: (2, src) :: st) g r n := by
  intro a1 a2 a3 a4 a5 a6 H locs lsM b1 b2 b3 b4
  obtain ⟨-, e1, e2, hw⟩ := C_at he
  rw [w_C, hf] at hw
  dsimp only at hw
  rw [e1, e2] at hw
  obtain ⟨cx, cb, cml, cown, cts, cK, cI, ⟨c1, c2, c3, c4⟩, ⟨cn0, cn1⟩, cT, chs⟩ := C
  have r1 := ok_r0 (fa_hd a3)
  have r2 := ok_r0 (fa_hd (fa_tl a3))
  have r3 := ok_r0 (fa_hd (fa_tl (fa_tl (fa_tl a3))))
  have rest := fa_tl (fa_tl (fa_tl (fa_tl (fa_tl a3))))
  have hls := ln_rng src
  have hld := ln_rng dst
  have hml : c.maxLocals = lsM.size := by rw [cml]; exact b4.1.symm
  have hloc : ((st.map (tv G)).map fun v => v.category).sum + (nativeFrameWords "java/lang/System" "arraycopy" 5 + 11) ≤ R.locals := by
    rw [cat_map, show nativeFrameWords "java/lang/System" "arraycopy" 5 = 7 by decide +kernel]; omega
  have wnat := cts _ (LW_of cp_in.1 rfl)
  have wst := cts _ (LW_of cp_in.2.1 rfl)
  have wini := cts _ (LW_of cp_in.2.2 rfl)
  have wl := cts _ (LW_of hw rfl)
  have fin : ∀ (H1 : Heap) (locs1 : List Loc), va_P G.2.2.2.1 am_cl (wd G (cpy g src sp dst dp len) r n) H1 → va_S (fun q => G.1 ≤ q) s.heap H1 locs1 → W p l e R s m args below meth c H1 locs1 (n - n0).toNat (am_cs n - am_cs n0) QE (F0 m (pc + 3) lsM (st.map (tv G))) :=
    fun H1 locs1 z1 z3 => h a1 a2 rest a4 a5 (okG_cpy a6 hk) H1 locs1 lsM trivial z1 z3 b4
  rcases hk with ⟨k1, k2⟩ | ⟨k1, k2⟩
  · rw [List.map_cons, List.map_cons, List.map_cons, List.map_cons, List.map_cons, tv_0, tv_0, tv_0, tv_o k1.1 (by have := k1.2.1; omega), tv_o k2.1 (by have := k2.2.1; omega)]
    refine va_copyi cx cb hml cown wl wnat wst wini cK b2 wd_D b3 src.toNat dst.toNat 1 1 (c0 := G.2.2.2.2 11) (c1 := G.2.2.2.2 11) (n0 := (am_ln src).toNat) (n1 := (am_ln dst).toNat) (f := fun q => Int32.ofInt (g src (q : Int))) (g := fun q => Int32.ofInt (g dst (q : Int))) (ty := .int)
      (by rw [wd_get k1.1 k1.2.1, cell_int k1.2.2 (by decide)]) (by rw [wd_get k2.1 k2.2.1, cell_int k2.2.2 (by decide)]) rfl rfl rfl (i_nn r3 h0) (i_nn r2 h1) (i_nn r1 h2) (by rw [i_cl r3, i_cl r1]; omega) (by rw [i_cl r2, i_cl r1]; omega) (fun _ _ => rfl) (by omega) hloc hd (fun H1 locs1 z1 _ z3 => fin H1 locs1 ?_ z3)
    rw [i_cl r1, i_cl r2, i_cl r3] at z1
    have hc : cellE G (cpy g src sp dst dp len) r dst = .inl (G.2.2.2.2 11, (am_ln dst).toNat, .inl (va_cpy (fun q => Int32.ofInt (g src (q : Int))) (fun q => Int32.ofInt (g dst (q : Int))) sp.toNat dp.toNat len.toNat)) := by
      rw [cell_int k2.2.2 (by decide)]
      congr 3
      congr 1
      funext q
      unfold cpy va_cpy
      by_cases hq : dp ≤ (q : Int) ∧ (q : Int) < dp + len
      · rw [if_pos ⟨rfl, hq⟩, if_pos (by omega)]
        show _ = Int32.ofInt (g src ((sp.toNat + (q - dp.toNat) : Nat) : Int))
        rw [show ((sp.toNat + (q - dp.toNat) : Nat) : Int) = sp + ((q : Int) - dp) by omega]
      · rw [if_neg (fun z => hq z.2), if_neg (by omega)]
    rw [← hc, wd_set k2.1 k2.2.1 cpy_off (fun _ _ _ => rfl)] at z1
    exact z1
  · rw [List.map_cons, List.map_cons, List.map_cons, List.map_cons, List.map_cons, tv_0, tv_0, tv_0, tv_o k1.1 (by have := k1.2.1; omega), tv_o k2.1 (by have := k2.2.1; omega)]
    refine va_copyl cx cb hml cown wl wnat wst wini cK b2 wd_D b3 src.toNat dst.toNat 2 2 (c0 := G.2.2.2.2 12) (c1 := G.2.2.2.2 12) (n0 := (am_ln src).toNat) (n1 := (am_ln dst).toNat) (f := fun q => Int64.ofInt (g src (q : Int))) (g := fun q => Int64.ofInt (g dst (q : Int))) (ty := .long)
      (by rw [wd_get k1.1 k1.2.1, cell_long k1.2.2]) (by rw [wd_get k2.1 k2.2.1, cell_long k2.2.2]) rfl rfl rfl (i_nn r3 h0) (i_nn r2 h1) (i_nn r1 h2) (by rw [i_cl r3, i_cl r1]; omega) (by rw [i_cl r2, i_cl r1]; omega) (fun _ _ => rfl) (by omega) hloc hd (fun H1 locs1 z1 _ z3 => fin H1 locs1 ?_ z3)
    rw [i_cl r1, i_cl r2, i_cl r3] at z1
    have hc : cellE G (cpy g src sp dst dp len) r dst = .inl (G.2.2.2.2 12, (am_ln dst).toNat, .inr (.inl (va_cpy (fun q => Int64.ofInt (g src (q : Int))) (fun q => Int64.ofInt (g dst (q : Int))) sp.toNat dp.toNat len.toNat))) := by
      rw [cell_long k2.2.2]
      congr 4
      apply congrArg
      funext q
      unfold cpy va_cpy
      by_cases hq : dp ≤ (q : Int) ∧ (q : Int) < dp + len
      · rw [if_pos ⟨rfl, hq⟩, if_pos (by omega)]
        show _ = Int64.ofInt (g src ((sp.toNat + (q - dp.toNat) : Nat) : Int))
        rw [show ((sp.toNat + (q - dp.toNat) : Nat) : Int) = sp + ((q : Int) - dp) by omega]
      · rw [if_neg (fun z => hq z.2), if_neg (by omega)]
    rw [← hc, wd_set k2.1 k2.2.1 cpy_off (fun _ _ _ => rfl)] at z1
    exact z1
end SN8
end
section
/-! all steps together, and the contracts at every depth -/
/-- what the end of the method asks -/
def RetOK (p : Program) (l : Launch) (e : Env) (R : Room) (s : State) (m : MethodId) (args : Array Value) (below : List Frame) (meth : Method) (c : Code) (G : AG) (k : Nat) (n0 : Int) (Q : Int → GH → GH → Int → Prop) (QE : State → Prop) : Prop :=
  ∀ (pc : Nat) (i : Instr) (v : Int) (g r : GH), decode (am_code k) pc = .ok (i, 1) → (i = .ireturn ∧ (am_rc k = 1 ∨ (am_rc k = 2 ∧ (v = 0 ∨ v = 1))) ∨ i = .lreturn ∧ am_rc k = 3 ∨ i = .areturn ∧ am_rc k = 4 ∨ i = .return_ ∧ am_rc k = 0) → okRet (am_rc k) v → Q v g r (n0 + am_mk k) → okG g r → ∀ (H : Heap) (locs : List Loc) (lsM : Array Slot), va_P G.2.2.2.1 am_cl (wd G g r (n0 + am_mk k)) H → va_S (fun q => G.1 ≤ q) s.heap H locs →
  W p l e R s m args below meth c H locs (am_mk k) (am_cs (n0 + am_mk k) - am_cs n0) QE (F0 m pc lsM (rvO G (am_rc k) v).toList)
section SN9
variable {p : Program} {l : Launch} {e : Env} {R : Room} {s : State} {m : MethodId} {args : Array Value} {below : List Frame} {meth : Method} {c : Code} {G : AG} {sc : SCR} {d k : Nat} {n0 : Int} {QE : State → Prop} {CC : CTR} {Q : Int → GH → GH → Int → Prop}
variable {pc pc2 : Nat} {ls st st2 : List AV} {g r : GH} {n : Int}
theorem ret_n (hn : n = n0 + am_mk k) : (n - n0).toNat = am_mk k := by omega
theorem g_ret (hret : RetOK p l e R s m args below meth c G k n0 Q QE) {i : Instr} {v : Int} (hd : decode (am_code k) pc = .ok (i, 1)) (hi : i = .ireturn ∧ (am_rc k = 1 ∨ (am_rc k = 2 ∧ (v = 0 ∨ v = 1))) ∧ st = [(0, v)] ∨ i = .lreturn ∧ am_rc k = 3 ∧ st = [(1, v)] ∨ i = .areturn ∧ am_rc k = 4 ∧ st = [(2, v)] ∨ i = .return_ ∧ am_rc k = 0 ∧ st = [] ∧ v = 0)
    (hn : n = n0 + am_mk k) (hQ : Q v g r n) : Gd p l e R s m args below meth c G k n0 QE pc ls st g r n := by
  intro a1 a2 a3 a4 a5 a6 H locs lsM b1 b2 b3 b4
  rw [ret_n hn]
  subst hn
  rcases hi with ⟨rfl, h1, rfl⟩ | ⟨rfl, h1, rfl⟩ | ⟨rfl, h1, rfl⟩ | ⟨rfl, h1, rfl, rfl⟩
  · have hv := ok_r0 (fa_hd a3)
    have w := hret pc _ v g r hd (Or.inl ⟨rfl, h1⟩) ⟨fun _ => hv, fun q => by omega, fun q => by omega⟩ hQ a6 H locs lsM b2 b3
    have e1 : (rvO G (am_rc k) v).toList = [Value.int (Int32.ofInt v)] := by
      unfold rvO; rw [if_neg (by omega), if_neg (by omega), if_neg (by omega)]; rfl
    rw [e1] at w
    exact w
  · have hv := ok_r1 (fa_hd a3)
    have w := hret pc _ v g r hd (Or.inr (Or.inl ⟨rfl, h1⟩)) ⟨fun q => by omega, fun _ => hv, fun q => by omega⟩ hQ a6 H locs lsM b2 b3
    have e1 : (rvO G (am_rc k) v).toList = [Value.long (Int64.ofInt v)] := by
      unfold rvO; rw [if_neg (by omega), if_pos h1]; rfl
    rw [e1] at w
    exact w
  · have hv := ok_r2 (fa_hd a3)
    have w := hret pc _ v g r hd (Or.inr (Or.inr (Or.inl ⟨rfl, h1⟩))) ⟨fun q => by omega, fun q => by omega, fun _ => hv⟩ hQ a6 H locs lsM b2 b3
    have e1 : (rvO G (am_rc k) v).toList = [va_rf (rfo G v)] := by
      unfold rvO; rw [if_neg (by omega), if_neg (by omega), if_pos h1]; rfl
    rw [e1] at w
    exact w
  · have w := hret pc _ 0 g r hd (Or.inr (Or.inr (Or.inr ⟨rfl, h1⟩))) ⟨fun q => by omega, fun q => by omega, fun q => by omega⟩ hQ a6 H locs lsM b2 b3
    have e1 : (rvO G (am_rc k) 0).toList = [] := by
      unfold rvO; rw [if_pos h1]; rfl
    rw [e1] at w
    exact w
set_option maxRecDepth 100000 in
theorem str_codes : Cond.code yLen cLen 1 (some .int) ∈ LW ∧ Cond.code yChr cChr 2 (some .char) ∈ LW :=
  ⟨LW_of (List.mem_of_getElem? (i := am_pLen) rfl) rfl, LW_of (List.mem_of_getElem? (i := am_pChr) rfl) rfl⟩
theorem str_words : Cond.instanceMethod yLen ∈ tables_1 ∧ Cond.selects "java/lang/String" yLen yLen ∈ tables_1 ∧ Cond.instanceMethod yChr ∈ tables_1 ∧ Cond.selects "java/lang/String" yChr yChr ∈ tables_1 ∧ Cond.initialized "java/lang/String" ∈ tables_1 := by decide +kernel
theorem str_ws {own : String} {idx : Nat} {y : MethodName} {cw : Cond} (h1 : Cond.methodLink own idx y ∈ LW) (h2 : Cond.instanceMethod y ∈ tables_1) (h3 : Cond.selects "java/lang/String" y y ∈ tables_1) (h4 : cw ∈ LW) : ∀ w ∈ wsV own idx "java/lang/String" y (cw :: LW), w ∈ LW := by
  intro w hw
  rcases List.mem_append.mp hw with h | h
  · simp only [List.mem_cons, List.not_mem_nil, or_false] at h
    rcases h with rfl | rfl | rfl | rfl
    · exact h1
    · exact LW_of h2 rfl
    · exact LW_of h3 rfl
    · exact LW_of str_words.2.2.2.2 rfl
  · rcases List.mem_cons.mp h with rfl | h
    · exact h4
    · exact h
theorem g_stCall (C : CX p R s m args meth c G sc d k n0) (hSD : SD l G sc d CC) (hStr : StrM l G sc) {idx : Nat} {f : Nat × Nat × Nat × Nat} {i : Instr} (hd : decode (am_code k) pc = .ok (i, 3)) (he : am_at k idx am_CL = some f)
    (hi : i = .invokevirtual idx ∧ (f.2.2.1 = 0 ∨ f.2.2.1 = 6 ∨ f.2.2.1 = 7) ∨ i = .invokestatic idx ∧ (f.2.2.1 = 1 ∨ f.2.2.1 = 5 ∨ f.2.2.1 = 4) ∨ i = .invokespecial idx ∧ (f.2.2.1 = 2 ∨ f.2.2.1 = 3 ∨ f.2.2.1 = 8))
    (h : stCall d CC k n0 (Gd p l e R s m args below meth c G k n0 QE) pc ls st g r n f) : Gd p l e R s m args below meth c G k n0 QE pc ls st g r n := by
  obtain ⟨f1, f2, f3, f4⟩ := f
  dsimp only at hi
  unfold stCall at h
  dsimp only at h
  have hcases : f3 = 0 ∨ f3 = 1 ∨ f3 = 2 ∨ f3 = 3 ∨ f3 = 4 ∨ f3 = 5 ∨ f3 = 6 ∨ f3 = 7 ∨ f3 = 8 := by
    rcases hi with ⟨-, q⟩ | ⟨-, q⟩ | ⟨-, q⟩ <;> omega
  rcases hcases with rfl | rfl | rfl | rfl | rfl | rfl | rfl | rfl | rfl
  · obtain ⟨as, s1, q1, rfl, h1⟩ := am_popN_inv _ _ h
    obtain ⟨x, s2, rfl, k1, k2, k3, k4⟩ := am_p_inv h1
    have hins : i = .invokevirtual idx := by rcases hi with ⟨q, -⟩ | ⟨-, q⟩ | ⟨-, q⟩ <;> first | exact q | omega
    exact g_call C hSD (rcv := [(2, x)]) hd he k2 k3 q1 rfl (Or.inl ⟨hins, rfl, x, rfl, k1⟩) k4
  · obtain ⟨as, s1, q1, rfl, k2, k3, k4⟩ := am_popN_inv _ _ h
    have hins : i = .invokestatic idx := by rcases hi with ⟨-, q⟩ | ⟨q, -⟩ | ⟨-, q⟩ <;> first | exact q | omega
    exact g_call C hSD (rcv := []) hd he k2 k3 q1 rfl (Or.inr (Or.inl ⟨hins, Or.inl rfl, rfl⟩)) k4
  · obtain ⟨as, s1, q1, rfl, h1⟩ := am_popN_inv _ _ h
    obtain ⟨x, s2, rfl, k0, k1, k2, k3, k4⟩ := am_p_inv h1
    have hins : i = .invokespecial idx := by rcases hi with ⟨-, q⟩ | ⟨-, q⟩ | ⟨q, -⟩ <;> first | exact q | omega
    exact g_call C hSD (rcv := [(2, x)]) hd he k2 k3 q1 rfl (Or.inr (Or.inr ⟨hins, Or.inl rfl, x, rfl, k0, k1⟩)) k4
  · obtain ⟨as, s1, q1, rfl, h1⟩ := am_popN_inv _ _ h
    obtain ⟨x, s2, rfl, k0, k1, k2, k3, k4⟩ := am_p_inv h1
    have hins : i = .invokespecial idx := by rcases hi with ⟨-, q⟩ | ⟨-, q⟩ | ⟨q, -⟩ <;> first | exact q | omega
    exact g_call C hSD (rcv := [(2, x)]) hd he k2 k3 q1 rfl (Or.inr (Or.inr ⟨hins, Or.inr rfl, x, rfl, k0, k1⟩)) k4
  · obtain ⟨dp, len, s1, rfl, h1⟩ := am_p2_inv h
    obtain ⟨sp, dst, s2, rfl, h2⟩ := am_p2_inv h1
    obtain ⟨src, s3, rfl, k1, k2, k3, k4, k5, k6, k7, k8⟩ := am_p_inv h2
    have hins : i = .invokestatic idx := by rcases hi with ⟨-, q⟩ | ⟨q, -⟩ | ⟨-, q⟩ <;> first | exact q | omega
    subst hins
    exact g_copy C hd he rfl k1 k2 k3 k4 k5 k6 k7 k8
  · obtain ⟨as, s1, q1, rfl, k2, k3, k4⟩ := am_popN_inv _ _ h
    have hins : i = .invokestatic idx := by rcases hi with ⟨-, q⟩ | ⟨q, -⟩ | ⟨-, q⟩ <;> first | exact q | omega
    exact g_call C hSD (rcv := []) hd he k2 k3 q1 rfl (Or.inr (Or.inl ⟨hins, Or.inr rfl, rfl⟩)) k4
  · obtain ⟨x, s1, rfl, k1, k2, k3, k4⟩ := am_p_inv h
    have hins : i = .invokevirtual idx := by rcases hi with ⟨q, -⟩ | ⟨-, q⟩ | ⟨-, q⟩ <;> first | exact q | omega
    subst hins
    obtain ⟨-, e1, e2, hw⟩ := C_at he
    rw [w_C] at hw
    dsimp only at hw
    rw [e1, e2] at hw
    have hi22 : (x - 1000000).toNat < 22 := by have := k3.1; have := k3.2; omega
    have hl := List.all_eq_true.mp sb_ok _ (List.mem_range.mpr hi22)
    rw [Bool.and_eq_true] at hl
    have hl2 := of_decide_eq_true hl.2
    refine g_str C k2 (y := yLen) (bytes := cLen) (maxL := 1) (ret := some .int) (as2 := []) hd (LW_of hw rfl) rfl (by decide) (str_ws (LW_of hw rfl) str_words.1 str_words.2.1 str_codes.1) rfl k3 ?_ ⟨by unfold am_tx; omega, by unfold am_tx; omega⟩ k1 k4
    rw [show tv G (2, x) = .ref (G.2.2.1 (x - 1000000).toNat) by rw [← tv_str hi22]; congr 2; have := k3.1; omega]
    exact hStr.1 _ hi22
  · obtain ⟨x, j, s1, rfl, k1, k2, k3, k4, k5, k6⟩ := am_p2_inv h
    have hins : i = .invokevirtual idx := by rcases hi with ⟨q, -⟩ | ⟨-, q⟩ | ⟨-, q⟩ <;> first | exact q | omega
    subst hins
    obtain ⟨-, e1, e2, hw⟩ := C_at he
    rw [w_C] at hw
    dsimp only at hw
    rw [e1, e2] at hw
    have hi22 : (x - 1000000).toNat < 22 := by have := k3.1; have := k3.2; omega
    have hl := List.all_eq_true.mp sb_ok _ (List.mem_range.mpr hi22)
    rw [Bool.and_eq_true] at hl
    have hj : j.toNat < (am_tx x).length := by omega
    have hb := of_decide_eq_true (List.all_eq_true.mp hl.1 ((am_tx x).getD j.toNat 0) (by
      show (am_tx x).getD j.toNat 0 ∈ am_tx x
      rw [List.getD_eq_getElem?_getD, List.getElem?_eq_getElem hj]
      exact List.getElem_mem hj))
    refine g_str C k2 (y := yChr) (bytes := cChr) (maxL := 2) (ret := some .char) (as2 := [(0, j)]) hd (LW_of hw rfl) rfl (by decide) (str_ws (LW_of hw rfl) str_words.2.2.1 str_words.2.2.2.1 str_codes.2) rfl k3 ?_ ⟨by omega, by omega⟩ k1 k6
    rw [show tv G (2, x) = .ref (G.2.2.1 (x - 1000000).toNat) by rw [← tv_str hi22]; congr 2; have := k3.1; omega]
    have := hStr.2 _ j.toNat hi22 hj
    rw [ofNat_toNat k4] at this
    exact this
  · obtain ⟨x, s1, rfl, k1, k2, k3, k4⟩ := am_p_inv h
    have hins : i = .invokespecial idx := by rcases hi with ⟨-, q⟩ | ⟨-, q⟩ | ⟨q, -⟩ <;> first | exact q | omega
    subst hins
    exact g_objinit C hd he rfl k1 k2 k3 k4
end SN9
section SN10
variable {p : Program} {l : Launch} {e : Env} {R : Room} {s : State} {m : MethodId} {args : Array Value} {below : List Frame} {meth : Method} {c : Code} {G : AG} {sc : SCR} {d k : Nat} {n0 : Int} {QE : State → Prop} {CC : CTR} {Q : Int → GH → GH → Int → Prop}
variable {pc pc2 : Nat} {ls st st2 : List AV} {g r : GH} {n : Int}
theorem i8_of {v : Int} (h : -128 ≤ v ∧ v < 128) : (Int8.ofInt v).toInt32 = Int32.ofInt v := by
  apply Int32.toInt_inj.mp
  rw [Int8.toInt_toInt32, Int8.toInt_ofInt_of_le h.1 h.2, Int32.toInt_ofInt_of_le (by omega) (by omega)]
theorem i16_of {v : Int} (h : -32768 ≤ v ∧ v < 32768) : (Int16.ofInt v).toInt32 = Int32.ofInt v := by
  apply Int32.toInt_inj.mp
  rw [Int16.toInt_toInt32, Int16.toInt_ofInt_of_le h.1 h.2, Int32.toInt_ofInt_of_le (by omega) (by omega)]
set_option maxHeartbeats 4000000 in
theorem gd_I (C : CX p R s m args meth c G sc d k n0) (hSD : SD l G sc d CC) (hStr : StrM l G sc) (hret : RetOK p l e R s m args below meth c G k n0 Q QE) {i : Instr} {len : Nat} (hd : decode (am_code k) pc = .ok (i, len))
    (h : stI sc d CC k n0 Q (Gd p l e R s m args below meth c G k n0 QE) pc ls st g r n i len) : Gd p l e R s m args below meth c G k n0 QE pc ls st g r n := by
  cases i
  case iconst v =>
    obtain ⟨e0, q0⟩ := am_len_inv h
    subst e0; clear h; have h := q0; clear q0
    obtain ⟨hb, h⟩ := am_b_inv h
    have hb := of_decide_eq_true hb
    exact g_const C hd (Or.inl ⟨rfl, rfl⟩) ⟨by omega, by omega⟩ (fun q => by cases q) (fun q => by cases q) h
  case bipush v =>
    obtain ⟨e0, q0⟩ := am_len_inv h
    subst e0; clear h; have h := q0; clear q0
    obtain ⟨hb, h⟩ := am_b_inv h
    have hb := of_decide_eq_true hb
    exact g_const C hd (Or.inr (Or.inl ⟨rfl, rfl⟩)) ⟨by omega, by omega⟩ (fun _ => i8_of hb) (fun q => by cases q) h
  case sipush v =>
    obtain ⟨e0, q0⟩ := am_len_inv h
    subst e0; clear h; have h := q0; clear q0
    obtain ⟨hb, h⟩ := am_b_inv h
    have hb := of_decide_eq_true hb
    exact g_const C hd (Or.inr (Or.inr ⟨rfl, rfl⟩)) ⟨by omega, by omega⟩ (fun q => by cases q) (fun _ => i16_of hb) h
  case lconst v => obtain ⟨e0, q0⟩ := am_len_inv h; subst e0; clear h; have h := q0; clear q0; exact g_lconst C hd h
  case aconst_null => obtain ⟨e0, q0⟩ := am_len_inv h; subst e0; clear h; have h := q0; clear q0; exact g_null C hd h
  case iload_n j => obtain ⟨e0, q0⟩ := am_len_inv h; subst e0; clear h; have h := q0; clear q0; obtain ⟨x, h1, h⟩ := am_ld_inv h; exact g_iload C hd (Or.inl ⟨j, rfl, rfl, rfl⟩) h1 h
  case iload j => obtain ⟨e0, q0⟩ := am_len_inv h; subst e0; clear h; have h := q0; clear q0; obtain ⟨x, h1, h⟩ := am_ld_inv h; exact g_iload C hd (Or.inr ⟨rfl, rfl⟩) h1 h
  case lload_n j => obtain ⟨e0, q0⟩ := am_len_inv h; subst e0; clear h; have h := q0; clear q0; obtain ⟨x, h1, h⟩ := am_ld_inv h; exact g_lload C hd (Or.inl ⟨j, rfl, rfl, rfl⟩) h1 h
  case lload j => obtain ⟨e0, q0⟩ := am_len_inv h; subst e0; clear h; have h := q0; clear q0; obtain ⟨x, h1, h⟩ := am_ld_inv h; exact g_lload C hd (Or.inr ⟨rfl, rfl⟩) h1 h
  case aload_n j => obtain ⟨e0, q0⟩ := am_len_inv h; subst e0; clear h; have h := q0; clear q0; obtain ⟨x, h1, h⟩ := am_ld_inv h; exact g_aload C hd (Or.inl ⟨j, rfl, rfl, rfl⟩) h1 h
  case aload j => obtain ⟨e0, q0⟩ := am_len_inv h; subst e0; clear h; have h := q0; clear q0; obtain ⟨x, h1, h⟩ := am_ld_inv h; exact g_aload C hd (Or.inr ⟨rfl, rfl⟩) h1 h
  case istore_n j => obtain ⟨e0, q0⟩ := am_len_inv h; subst e0; clear h; have h := q0; clear q0; obtain ⟨hb, h⟩ := am_b_inv h; obtain ⟨x, s2, rfl, h2⟩ := am_p_inv h; exact g_istore C hd (Or.inl ⟨j, rfl, rfl, rfl⟩) (of_decide_eq_true hb) h2
  case istore j => obtain ⟨e0, q0⟩ := am_len_inv h; subst e0; clear h; have h := q0; clear q0; obtain ⟨hb, h⟩ := am_b_inv h; obtain ⟨x, s2, rfl, h2⟩ := am_p_inv h; exact g_istore C hd (Or.inr ⟨rfl, rfl⟩) (of_decide_eq_true hb) h2
  case astore_n j => obtain ⟨e0, q0⟩ := am_len_inv h; subst e0; clear h; have h := q0; clear q0; obtain ⟨hb, h⟩ := am_b_inv h; obtain ⟨x, s2, rfl, h2⟩ := am_p_inv h; exact g_astore C hd (Or.inl ⟨j, rfl, rfl, rfl⟩) (of_decide_eq_true hb) h2
  case astore j => obtain ⟨e0, q0⟩ := am_len_inv h; subst e0; clear h; have h := q0; clear q0; obtain ⟨hb, h⟩ := am_b_inv h; obtain ⟨x, s2, rfl, h2⟩ := am_p_inv h; exact g_astore C hd (Or.inr ⟨rfl, rfl⟩) (of_decide_eq_true hb) h2
  case lstore_n j => obtain ⟨e0, q0⟩ := am_len_inv h; subst e0; clear h; have h := q0; clear q0; obtain ⟨hb, h⟩ := am_b_inv h; obtain ⟨x, s2, rfl, h2⟩ := am_p_inv h; exact g_lstore C hd (Or.inl ⟨j, rfl, rfl, rfl⟩) (of_decide_eq_true hb) h2
  case lstore j => obtain ⟨e0, q0⟩ := am_len_inv h; subst e0; clear h; have h := q0; clear q0; obtain ⟨hb, h⟩ := am_b_inv h; obtain ⟨x, s2, rfl, h2⟩ := am_p_inv h; exact g_lstore C hd (Or.inr ⟨rfl, rfl⟩) (of_decide_eq_true hb) h2
  case iinc j q => obtain ⟨e0, q0⟩ := am_len_inv h; subst e0; clear h; have h := q0; clear q0; obtain ⟨hb, h⟩ := am_b_inv h; obtain ⟨x, h1, h⟩ := am_ld_inv h; exact g_iinc C hd (of_decide_eq_true hb) h1 h
  case dup =>
    obtain ⟨e0, q0⟩ := am_len_inv h
    subst e0; clear h; have h := q0; clear q0
    split at h
    · split at h
      · exact h.elim
      · exact g_dup C hd ‹_› h
    · exact h.elim
  case dup2 =>
    obtain ⟨e0, q0⟩ := am_len_inv h
    subst e0; clear h; have h := q0; clear q0
    split at h
    · split at h
      · exact h.elim
      · split at h
        · exact h.elim
        · exact g_dup2 C hd ‹_› ‹_› h
    · exact h.elim
  case pop =>
    obtain ⟨e0, q0⟩ := am_len_inv h
    subst e0; clear h; have h := q0; clear q0
    split at h
    · split at h
      · exact h.elim
      · exact g_pop C hd ‹_› h
    · exact h.elim
  case pop2 => obtain ⟨e0, q0⟩ := am_len_inv h; subst e0; clear h; have h := q0; clear q0; obtain ⟨x, s2, rfl, h2⟩ := am_p_inv h; exact g_pop2 C hd h2
  case iadd => obtain ⟨e0, q0⟩ := am_len_inv h; subst e0; clear h; have h := q0; clear q0; obtain ⟨x, y, s2, rfl, h2⟩ := am_p2_inv h; exact g_iadd C hd h2
  case isub => obtain ⟨e0, q0⟩ := am_len_inv h; subst e0; clear h; have h := q0; clear q0; obtain ⟨x, y, s2, rfl, h2⟩ := am_p2_inv h; exact g_isub C hd h2
  case imul => obtain ⟨e0, q0⟩ := am_len_inv h; subst e0; clear h; have h := q0; clear q0; obtain ⟨x, y, s2, rfl, h2⟩ := am_p2_inv h; exact g_imul C hd h2
  case ladd => obtain ⟨e0, q0⟩ := am_len_inv h; subst e0; clear h; have h := q0; clear q0; obtain ⟨x, y, s2, rfl, h2⟩ := am_p2_inv h; exact g_ladd C hd h2
  case lsub => obtain ⟨e0, q0⟩ := am_len_inv h; subst e0; clear h; have h := q0; clear q0; obtain ⟨x, y, s2, rfl, h2⟩ := am_p2_inv h; exact g_lsub C hd h2
  case lmul => obtain ⟨e0, q0⟩ := am_len_inv h; subst e0; clear h; have h := q0; clear q0; obtain ⟨x, y, s2, rfl, h2⟩ := am_p2_inv h; exact g_lmul C hd h2
  case iand => obtain ⟨e0, q0⟩ := am_len_inv h; subst e0; clear h; have h := q0; clear q0; obtain ⟨x, y, s2, rfl, h2⟩ := am_p2_inv h; exact g_iand C hd h2
  case ior => obtain ⟨e0, q0⟩ := am_len_inv h; subst e0; clear h; have h := q0; clear q0; obtain ⟨x, y, s2, rfl, h2⟩ := am_p2_inv h; exact g_ior C hd h2
  case ixor => obtain ⟨e0, q0⟩ := am_len_inv h; subst e0; clear h; have h := q0; clear q0; obtain ⟨x, y, s2, rfl, h2⟩ := am_p2_inv h; exact g_ixor C hd h2
  case ishl => obtain ⟨e0, q0⟩ := am_len_inv h; subst e0; clear h; have h := q0; clear q0; obtain ⟨x, y, s2, rfl, h2⟩ := am_p2_inv h; exact g_ishl C hd h2
  case ishr => obtain ⟨e0, q0⟩ := am_len_inv h; subst e0; clear h; have h := q0; clear q0; obtain ⟨x, y, s2, rfl, h2⟩ := am_p2_inv h; exact g_ishr C hd h2
  case land => obtain ⟨e0, q0⟩ := am_len_inv h; subst e0; clear h; have h := q0; clear q0; obtain ⟨x, y, s2, rfl, h2⟩ := am_p2_inv h; exact g_land C hd h2
  case lor => obtain ⟨e0, q0⟩ := am_len_inv h; subst e0; clear h; have h := q0; clear q0; obtain ⟨x, y, s2, rfl, h2⟩ := am_p2_inv h; exact g_lor C hd h2
  case lxor => obtain ⟨e0, q0⟩ := am_len_inv h; subst e0; clear h; have h := q0; clear q0; obtain ⟨x, y, s2, rfl, h2⟩ := am_p2_inv h; exact g_lxor C hd h2
  case lshl => obtain ⟨e0, q0⟩ := am_len_inv h; subst e0; clear h; have h := q0; clear q0; obtain ⟨x, y, s2, rfl, h2⟩ := am_p2_inv h; exact g_lshl C hd h2
  case lshr => obtain ⟨e0, q0⟩ := am_len_inv h; subst e0; clear h; have h := q0; clear q0; obtain ⟨x, y, s2, rfl, h2⟩ := am_p2_inv h; exact g_lshr C hd h2
  case lushr => obtain ⟨e0, q0⟩ := am_len_inv h; subst e0; clear h; have h := q0; clear q0; obtain ⟨x, y, s2, rfl, h2⟩ := am_p2_inv h; exact g_lushr C hd h2
  case lcmp => obtain ⟨e0, q0⟩ := am_len_inv h; subst e0; clear h; have h := q0; clear q0; obtain ⟨x, y, s2, rfl, h2⟩ := am_p2_inv h; exact g_lcmp C hd h2
  case idiv => obtain ⟨e0, q0⟩ := am_len_inv h; subst e0; clear h; have h := q0; clear q0; obtain ⟨x, y, s2, rfl, h1, h2⟩ := am_p2_inv h; exact g_idiv C hd h1 h2
  case irem => obtain ⟨e0, q0⟩ := am_len_inv h; subst e0; clear h; have h := q0; clear q0; obtain ⟨x, y, s2, rfl, h1, h2⟩ := am_p2_inv h; exact g_irem C hd h1 h2
  case ldiv => obtain ⟨e0, q0⟩ := am_len_inv h; subst e0; clear h; have h := q0; clear q0; obtain ⟨x, y, s2, rfl, h1, h2⟩ := am_p2_inv h; exact g_ldiv C hd h1 h2
  case lrem => obtain ⟨e0, q0⟩ := am_len_inv h; subst e0; clear h; have h := q0; clear q0; obtain ⟨x, y, s2, rfl, h1, h2⟩ := am_p2_inv h; exact g_lrem C hd h1 h2
  case ineg => obtain ⟨e0, q0⟩ := am_len_inv h; subst e0; clear h; have h := q0; clear q0; obtain ⟨x, s2, rfl, h2⟩ := am_p_inv h; exact g_ineg C hd h2
  case i2b => obtain ⟨e0, q0⟩ := am_len_inv h; subst e0; clear h; have h := q0; clear q0; obtain ⟨x, s2, rfl, h2⟩ := am_p_inv h; exact g_i2b C hd h2
  case i2l => obtain ⟨e0, q0⟩ := am_len_inv h; subst e0; clear h; have h := q0; clear q0; obtain ⟨x, s2, rfl, h2⟩ := am_p_inv h; exact g_i2l C hd h2
  case l2i => obtain ⟨e0, q0⟩ := am_len_inv h; subst e0; clear h; have h := q0; clear q0; obtain ⟨x, s2, rfl, h2⟩ := am_p_inv h; exact g_l2i C hd h2
  case goto o => obtain ⟨e0, q0⟩ := am_len_inv h; subst e0; clear h; have h := q0; clear q0; obtain ⟨t, ht, h2⟩ := am_j_inv h; exact g_goto C hd ht h2
  case ifCond q o =>
    obtain ⟨e0, q0⟩ := am_len_inv h
    subst e0; clear h; have h := q0; clear q0
    obtain ⟨x, s2, rfl, h1⟩ := am_p_inv h
    obtain ⟨t, ht, h2⟩ := am_j_inv h1
    cases q
    case eq => exact g_if_eq C hd ht h2
    case ne => exact g_if_ne C hd ht h2
    case lt => exact g_if_lt C hd ht h2
    case ge => exact g_if_ge C hd ht h2
    case gt => exact g_if_gt C hd ht h2
    case le => exact g_if_le C hd ht h2
  case if_icmp q o =>
    obtain ⟨e0, q0⟩ := am_len_inv h
    subst e0; clear h; have h := q0; clear q0
    obtain ⟨x, y, s2, rfl, h1⟩ := am_p2_inv h
    obtain ⟨t, ht, h2⟩ := am_j_inv h1
    cases q
    case eq => exact g_icmp_eq C hd ht h2
    case ne => exact g_icmp_ne C hd ht h2
    case lt => exact g_icmp_lt C hd ht h2
    case ge => exact g_icmp_ge C hd ht h2
    case gt => exact g_icmp_gt C hd ht h2
    case le => exact g_icmp_le C hd ht h2
  case ifnull o => obtain ⟨e0, q0⟩ := am_len_inv h; subst e0; clear h; have h := q0; clear q0; obtain ⟨x, s2, rfl, h1⟩ := am_p_inv h; obtain ⟨t, ht, h2⟩ := am_j_inv h1; exact g_ifnull C hd ht h2
  case ifnonnull o => obtain ⟨e0, q0⟩ := am_len_inv h; subst e0; clear h; have h := q0; clear q0; obtain ⟨x, s2, rfl, h1⟩ := am_p_inv h; obtain ⟨t, ht, h2⟩ := am_j_inv h1; exact g_ifnonnull C hd ht h2
  case tableswitch dflt lo hi offs =>
    have h : am_p 0 st fun x sx => hi + 1 = lo + (offs.size : Int) ∧ am_tsw (fun o => am_j pc o fun t => Gd p l e R s m args below meth c G k n0 QE t ls sx g r n) dflt x lo offs.toList := h
    obtain ⟨x, s2, rfl, h1, h2⟩ := am_p_inv h
    exact g_tsw C hd h1 h2
  case ldc idx =>
    obtain ⟨e0, q0⟩ := am_len_inv h
    subst e0; clear h; have h := q0; clear q0
    split at h
    · exact g_ldcS C hd ‹_› h
    · split at h
      · split at h
        · exact g_ldcI C hd (Or.inl ⟨rfl, rfl⟩) ‹_› ‹_› h
        · exact h.elim
      · exact h.elim
  case ldc_w idx =>
    obtain ⟨e0, q0⟩ := am_len_inv h
    subst e0; clear h; have h := q0; clear q0
    split at h
    · split at h
      · exact g_ldcI C hd (Or.inr ⟨rfl, rfl⟩) ‹_› ‹_› h
      · exact h.elim
    · exact h.elim
  case ldc2_w idx =>
    obtain ⟨e0, q0⟩ := am_len_inv h
    subst e0; clear h; have h := q0; clear q0
    split at h
    · split at h
      · exact g_ldcL C hd ‹_› ‹_› h
      · exact h.elim
    · exact h.elim
  case getfield idx =>
    obtain ⟨e0, q0⟩ := am_len_inv h
    subst e0; clear h; have h := q0; clear q0
    split at h
    · obtain ⟨x, s2, rfl, h1, h2⟩ := am_p_inv h; exact g_getfield C hd ‹_› h1 h2
    · exact h.elim
  case putfield idx =>
    obtain ⟨e0, q0⟩ := am_len_inv h
    subst e0; clear h; have h := q0; clear q0
    split at h
    · obtain ⟨x, y, s2, rfl, h1, h2, h3⟩ := am_p2_inv h; exact g_putfield C hd ‹_› h1 h2 h3
    · exact h.elim
  case iaload => obtain ⟨e0, q0⟩ := am_len_inv h; subst e0; clear h; have h := q0; clear q0; obtain ⟨x, y, s2, rfl, h2⟩ := am_p2_inv h; exact g_iaload C hd h2
  case laload => obtain ⟨e0, q0⟩ := am_len_inv h; subst e0; clear h; have h := q0; clear q0; obtain ⟨x, y, s2, rfl, h1, h2⟩ := am_p2_inv h; exact g_laload C hd h1 h2
  case baload => obtain ⟨e0, q0⟩ := am_len_inv h; subst e0; clear h; have h := q0; clear q0; obtain ⟨x, y, s2, rfl, h1, h2⟩ := am_p2_inv h; exact g_baload C hd h1 h2
  case aaload => obtain ⟨e0, q0⟩ := am_len_inv h; subst e0; clear h; have h := q0; clear q0; obtain ⟨x, y, s2, rfl, h1, h2⟩ := am_p2_inv h; exact g_aaload C hd h1 h2
  case iastore => obtain ⟨e0, q0⟩ := am_len_inv h; subst e0; clear h; have h := q0; clear q0; obtain ⟨v, s1, rfl, h0⟩ := am_p_inv h; obtain ⟨x, y, s2, rfl, h1, h2⟩ := am_p2_inv h0; exact g_iastore C hd h1 h2
  case lastore => obtain ⟨e0, q0⟩ := am_len_inv h; subst e0; clear h; have h := q0; clear q0; obtain ⟨v, s1, rfl, h0⟩ := am_p_inv h; obtain ⟨x, y, s2, rfl, h1, h2⟩ := am_p2_inv h0; exact g_lastore C hd h1 h2
  case bastore => obtain ⟨e0, q0⟩ := am_len_inv h; subst e0; clear h; have h := q0; clear q0; obtain ⟨v, s1, rfl, h0⟩ := am_p_inv h; obtain ⟨x, y, s2, rfl, h1, h2⟩ := am_p2_inv h0; exact g_bastore C hd h1 h2
  case aastore => obtain ⟨e0, q0⟩ := am_len_inv h; subst e0; clear h; have h := q0; clear q0; obtain ⟨v, s1, rfl, h0⟩ := am_p_inv h; obtain ⟨x, y, s2, rfl, h1, h2⟩ := am_p2_inv h0; exact g_aastore C hd h1 h2
  case arraylength => obtain ⟨e0, q0⟩ := am_len_inv h; subst e0; clear h; have h := q0; clear q0; obtain ⟨x, s2, rfl, h2⟩ := am_p_inv h; exact g_alen C hd h2
  case new idx =>
    obtain ⟨e0, q0⟩ := am_len_inv h
    subst e0; clear h; have h := q0; clear q0
    split at h
    · obtain ⟨-, h2, h3, h4, h5, h6⟩ := h; exact g_new C hd ‹_› h2 h3 h4 h5 h6
    · exact h.elim
  case newarray t =>
    obtain ⟨e0, q0⟩ := am_len_inv h
    subst e0; clear h; have h := q0; clear q0
    split at h
    · exact g_newI C hd (Or.inl ⟨rfl, rfl⟩) h
    · exact g_newI C hd (Or.inr (Or.inl ⟨rfl, rfl⟩)) h
    · exact g_newI C hd (Or.inr (Or.inr (Or.inl ⟨rfl, rfl⟩))) h
    · exact g_newI C hd (Or.inr (Or.inr (Or.inr ⟨rfl, rfl⟩))) h
    · exact h.elim
  case anewarray idx =>
    obtain ⟨e0, q0⟩ := am_len_inv h
    subst e0; clear h; have h := q0; clear q0
    split at h
    · rename_i f hf
      have tx := C.2.2.2.2.2.2.2.2.2.1.2.2.2.2.2.2.2
      split at h
      · rename_i h2
        obtain ⟨x, s2, rfl, a1, a2, a3, a4, a5, a6⟩ := am_p_inv h
        exact g_anew C (t0 := 4) (kd := 14) hd hf (by rw [h2]; exact tx.1) (by rw [h2]; rfl) (Or.inl rfl) a1 a2 a3 a4 a5 a6
      · split at h
        · rename_i h2
          obtain ⟨x, s2, rfl, a1, a2, a3, a4, a5, a6⟩ := am_p_inv h
          exact g_anew C (t0 := 5) (kd := 15) hd hf (by rw [h2]; exact tx.2.1) (by rw [h2]; rfl) (Or.inr rfl) a1 a2 a3 a4 a5 a6
        · exact h.elim
    · exact h.elim
  case invokevirtual idx =>
    obtain ⟨e0, q0⟩ := am_len_inv h
    subst e0; clear h; have h := q0; clear q0
    split at h
    · split at h
      · exact g_stCall C hSD hStr hd ‹_› (Or.inl ⟨rfl, ‹_›⟩) h
      · exact h.elim
    · exact h.elim
  case invokestatic idx =>
    obtain ⟨e0, q0⟩ := am_len_inv h
    subst e0; clear h; have h := q0; clear q0
    split at h
    · split at h
      · exact g_stCall C hSD hStr hd ‹_› (Or.inr (Or.inl ⟨rfl, ‹_›⟩)) h
      · exact h.elim
    · exact h.elim
  case invokespecial idx =>
    obtain ⟨e0, q0⟩ := am_len_inv h
    subst e0; clear h; have h := q0; clear q0
    split at h
    · split at h
      · exact g_stCall C hSD hStr hd ‹_› (Or.inr (Or.inr ⟨rfl, ‹_›⟩)) h
      · exact h.elim
    · exact h.elim
  case ireturn => obtain ⟨e0, q0⟩ := am_len_inv h; subst e0; clear h; have h := q0; clear q0; obtain ⟨v, s2, rfl, rfl, h1, h2, h3⟩ := am_p_inv h; exact g_ret hret hd (Or.inl ⟨rfl, h1, rfl⟩) h2 h3
  case lreturn => obtain ⟨e0, q0⟩ := am_len_inv h; subst e0; clear h; have h := q0; clear q0; obtain ⟨v, s2, rfl, rfl, h1, h2, h3⟩ := am_p_inv h; exact g_ret hret hd (Or.inr (Or.inl ⟨rfl, h1, rfl⟩)) h2 h3
  case areturn => obtain ⟨e0, q0⟩ := am_len_inv h; subst e0; clear h; have h := q0; clear q0; obtain ⟨v, s2, rfl, rfl, h1, h2, h3⟩ := am_p_inv h; exact g_ret hret hd (Or.inr (Or.inr (Or.inl ⟨rfl, h1, rfl⟩))) h2 h3
  case return_ => obtain ⟨rfl, rfl, h1, h2, h3⟩ := am_len_inv h; exact g_ret hret hd (Or.inr (Or.inr (Or.inr ⟨rfl, h1, rfl, rfl⟩))) h2 h3
  all_goals exact h.elim
theorem gd_closed (C : CX p R s m args meth c G sc d k n0) (hSD : SD l G sc d CC) (hStr : StrM l G sc) (hret : RetOK p l e R s m args below meth c G k n0 Q QE) :
    ∀ pc ls st g r n, stp sc d CC k n0 Q (Gd p l e R s m args below meth c G k n0 QE) pc ls st g r n → Gd p l e R s m args below meth c G k n0 QE pc ls st g r n := by
  intro pc ls st g r n h
  unfold stp at h
  cases hd : decode (am_code k) pc with
  | error e => rw [hd] at h; exact h.elim
  | ok e =>
    obtain ⟨i, len⟩ := e
    rw [hd] at h
    exact gd_I C hSD hStr hret hd h
end SN10
end
section
/-! a method's contract out of its run in the machine of numbers -/
theorem Met.ofWF {l : Launch} {y : MethodName} {ws ws' : List Cond} {rm : Room} {Pc : Array Value → State → Prop} {Qc : Array Value → State → Outcome → State → Prop} {mc ms : Nat} {free : Addr → Prop} {cc : ByteArray} {maxL : Nat} {ret : Option FieldType}
    (hy : plainFor y = true) (hw : ws = Cond.code y cc maxL ret :: ws')
    (body : ∀ p e s m args below meth c s₁, BodyLoose p l y (headSpec ws rm) cc maxL ret e s m args below meth c s₁ → c.maxLocals = maxL → Pc args s →
      W p l e (headSpec ws rm).room s m args below meth c s.heap [] 0 0 (MQ below Qc args s mc ms free) (entryFrame m args maxL)) : Met l y ws rm Pc Qc mc ms free := by
  refine MetFree.of_bodySF (code := cc) (maxLocals := maxL) (ret := ret) hy ?_ ?_
  · intro args s m h hn
    obtain ⟨meth, c, h1, h2, h3, h4, h5, h6, -, -⟩ := Cond.code_spec hn (atoms_spec (ws := ws) h _ (by rw [hw]; exact List.mem_cons_self))
    exact ⟨meth, c, h1, h2, h3, h4, h5, h6⟩
  · intro p e s m args below meth c s₁ B hml hP _
    have hh0 : s₁.heap = s.heap := by rw [B.state]; rfl
    obtain ⟨t, a1, o, b1, b2, b3⟩ := body p e s m args below meth c s₁ B hml hP s₁ hh0 (Stand.of_body B)
    exact ⟨t, o, a1, b1, b2, ⟨b3.1, b3.2⟩⟩
theorem lvl_args {G : AG} (n : Nat) : ∀ (as : List AV) (i : Nat), ∀ q ∈ lvl G i (am_lay as ++ List.replicate n (9, 0)), q ∈ lv_args i (as.map (tv G))
  | [], i => by
    intro q hq
    exfalso
    obtain ⟨j, x⟩ := q
    obtain ⟨v, h1, h2, h3, -⟩ := (lvl_mem _ _ _ _).mp hq
    have h4 := List.eq_of_mem_replicate (List.mem_of_getElem? (show (List.replicate n ((9, 0) : AV))[j - i]? = some v from h2))
    rw [h4] at h3
    exact absurd h3 (by decide)
  | v :: t, i => by
    intro q hq
    unfold am_lay at hq
    rw [List.map_cons]
    show q ∈ (i, tv G v) :: lv_args (if (tv G v).category = 2 then i + 2 else i + 1) (t.map (tv G))
    rw [tv_cat]
    split at hq
    · rename_i h1
      rw [if_pos h1, if_pos rfl]
      rw [List.cons_append, List.cons_append] at hq
      unfold lvl at hq
      rw [if_pos (by omega)] at hq
      unfold lvl at hq
      rw [if_neg (by decide)] at hq
      rcases List.mem_cons.mp hq with rfl | hq
      · exact List.mem_cons_self
      · exact List.mem_cons_of_mem _ (lvl_args n t (i + 2) q hq)
    · rename_i h1
      rw [if_neg h1, if_neg (by decide)]
      rw [List.cons_append] at hq
      unfold lvl at hq
      split at hq
      · rcases List.mem_cons.mp hq with rfl | hq
        · exact List.mem_cons_self
        · exact List.mem_cons_of_mem _ (lvl_args n t (i + 1) q hq)
      · exact List.mem_cons_of_mem _ (lvl_args n t (i + 1) q hq)
theorem lay_len {G : AG} : ∀ as : List AV, (lg_sl (as.map (tv G))).length = (am_lay as).length
  | [] => rfl
  | v :: t => by
    have ih := lay_len (G := G) t
    unfold am_lay
    rw [List.map_cons]
    show ((if (tv G v).category = 2 then [Slot.val (tv G v), Slot.second] else [Slot.val (tv G v)]) ++ lg_sl (t.map (tv G))).length = _
    rw [tv_cat, List.length_append, ih]
    split <;> simp <;> omega
theorem lay_ok : ∀ {as : List AV}, (∀ v ∈ as, okv v) → ∀ v ∈ am_lay as, okv v
  | [], _ => fun v h => absurd h List.not_mem_nil
  | v :: t, h => by
    unfold am_lay
    split
    · exact fa_cons (fa_hd h) (fa_cons (ok_8 (by decide)) (lay_ok (fa_tl h)))
    · exact fa_cons (fa_hd h) (lay_ok (fa_tl h))
theorem ent_ok {as : List AV} {n : Nat} (h : ∀ v ∈ as, okv v) : ∀ v ∈ am_ent n as, okv v := by
  intro v hv
  rcases List.mem_append.mp hv with hv | hv
  · exact lay_ok h v hv
  · rw [List.eq_of_mem_replicate hv]; exact ok_8 (by decide)
theorem PF_at {k : Nat} (h : k ∈ am_CO) : plainFor (am_y k) = true := of_decide_eq_true (List.all_eq_true.mp PF_ok _ h)
theorem SD_of {l : Launch} {G : AG} {sc : SCR} {d : Nat} {C : CTR} (hC : CMono C) (hSD : SD l G sc d C) (hStr : StrM l G sc) : SD l G sc (d + 1) (fun k as g r n Q => (am_lay as).length ≤ am_maxL k ∧ WP sc d C k n Q 0 (am_ent (am_maxL k) as) [] g r n) := by
  intro k as g r n Q hk hwp hn0 hn1 has hgr
  obtain ⟨hlen, hwp⟩ := hwp
  obtain ⟨-, mcl, mI, m0, m1, m2, m3, m4⟩ := M_at hk
  refine Met.ofWF (cc := am_code k) (maxL := am_maxL k) (ret := am_ret k) (PF_at hk) rfl ?_
  intro p e s m args below meth c s₁ B hml hv
  obtain ⟨rfl, hz, hP, hK, hT⟩ := hv
  have hts := atoms_spec (ws := wsK k) B.pre
  have hown : s.vm.findClass (am_y k).cls = some m.cls := findClass_of_methodNamed B.named
  rw [mcl] at hown
  have hlocks := B.notSynchronized
  have hr := B.returns
  have CX0 : CX p (headSpec (wsK k) (rmd (d + 1) k n)).room s m (as.map (tv G)).toArray meth c G sc d k n :=
    ⟨B.exec, B.bytes, hml, hown, fun w hw => hts w (List.mem_cons_of_mem _ hw), hK, fun h => (name_of_methodNamed B.named B.method).1.trans (mI h), ⟨Nat.le_refl _, by show 64 * d + 64 ≤ 64 * (d + 1); omega, Nat.le_refl _, Nat.le_refl _⟩, ⟨hn0, hn1⟩, hT, hz⟩
  have hret : RetOK p l e (headSpec (wsK k) (rmd (d + 1) k n)).room s m (as.map (tv G)).toArray below meth c G k n Q (MQ below (QcA G k n Q) (as.map (tv G)).toArray s (am_mk k) (am_cs (n + am_mk k) - am_cs n) (fun q => G.1 ≤ q)) := by
    intro pc i v g2 r2 hd hi hok hQ hg2 H locs lsM hP2 hS2
    have hf : ∀ q ∈ locs, G.1 ≤ q.base := hS2.2.2
    have hq : ∀ t : State, t.heap = H → QcA G k n Q (as.map (tv G)).toArray s (.returned (rvO G (am_rc k) v)) t := fun t ht =>
      ⟨v, g2, r2, rfl, hok, hQ, hg2, by rw [ht]; exact hP2, fun q hq => by rw [ht]; exact hS2.2.1 q (by omega) (Nat.not_le.mpr hq), by rw [ht]; exact hS2.1⟩
    rcases hi with ⟨rfl, h1 | ⟨h1, hb⟩⟩ | ⟨rfl, h1⟩ | ⟨rfl, h1⟩ | ⟨rfl, h1⟩
    · have er : rvO G (am_rc k) v = some (.int (Int32.ofInt v)) := by unfold rvO; rw [if_neg (by omega), if_neg (by omega), if_neg (by omega)]
      rw [er] at hq ⊢
      exact W.iret B.exec B.bytes (hr.trans (m1 h1)) (fun t ht _ => hq t ht) hf hd hlocks
    · have er : rvO G (am_rc k) v = some (.int (Int32.ofInt v)) := by unfold rvO; rw [if_neg (by omega), if_neg (by omega), if_neg (by omega)]
      rw [er] at hq ⊢
      exact W.zret (ty := .boolean) B.exec B.bytes (hr.trans (m2 h1)) (by rcases hb with rfl | rfl <;> rfl) (fun t ht _ => hq t ht) hf hd hlocks
    · have er : rvO G (am_rc k) v = some (.long (Int64.ofInt v)) := by unfold rvO; rw [if_neg (by omega), if_pos h1]
      rw [er] at hq ⊢
      exact W.lret B.exec B.bytes (hr.trans (m3 h1)) (fun t ht _ => hq t ht) hf hd hlocks
    · have er : rvO G (am_rc k) v = some (va_rf (rfo G v)) := by unfold rvO; rw [if_neg (by omega), if_neg (by omega), if_pos h1]
      rw [er] at hq ⊢
      have h4 := m4 h1
      cases hrt : am_ret k with
      | none => rw [hrt] at h4; cases h4
      | some ty =>
        rw [hrt] at h4
        refine W.aret (rt := ty) B.exec B.bytes (hr.trans hrt) ?_ (rf_cases _) (fun t ht _ => hq t ht) hf hd hlocks
        cases ty <;> first | (cases h4; done) | exact Or.inl ⟨_, rfl⟩ | exact Or.inr ⟨_, rfl⟩
    · have er : rvO G (am_rc k) v = none := by unfold rvO; rw [if_pos h1]
      rw [er] at hq ⊢
      exact W.vret B.exec B.bytes (hr.trans (m0 h1)) (fun t ht _ => hq t ht) hf hd hlocks
  have hG := hwp _ (gd_closed (QE := MQ below (QcA G k n Q) (as.map (tv G)).toArray s (am_mk k) (am_cs (n + am_mk k) - am_cs n) (fun q => G.1 ≤ q)) CX0 hSD hStr hret)
  have hl := lv_entry (as.map (tv G)) (n := am_maxL k) (by rw [lay_len]; exact hlen)
  rw [lg_entry_eq]
  have w := hG (Int.le_refl _) (by omega) (fun v h => absurd h List.not_mem_nil) (ent_ok has) (by rw [am_ent, List.length_append, List.length_replicate]; omega) hgr s.heap [] _ trivial hP va_S.rf (lv_weak hl (lvl_args _ as 0))
  rw [Int.sub_self, Nat.sub_self] at w
  exact w
theorem SD_all {l : Launch} {G : AG} {sc : SCR} (hStr : StrM l G sc) : ∀ d, SD l G sc d (Cd sc d)
  | 0 => fun _ _ _ _ _ _ _ h => h.elim
  | d + 1 => SD_of (Cd_mono sc d) (SD_all hStr d) hStr
end
section
/-! methods that make no object: n stays; equations of pieces of code, printed by a program and checked by evaluation -/
abbrev XJ : Type := Nat → List AV → List AV → GH → GH → Prop
abbrev QJ : Type := Int → GH → GH → Prop
abbrev CJ : Type := Nat → List AV → GH → GH → QJ → Prop
abbrev HJ : Type := Nat × Nat × Nat × Nat × Int
abbrev EJ : Type := Instr × Nat × HJ
def WQ (sc : SCR) (d k : Nat) (Q : QJ) : XJ := fun pc ls st g r => WP sc d (Cd sc d) k (218 - (am_mk k : Int)) (fun v g r _ => Q v g r) pc ls st g r 218
def Ce (sc : SCR) (d : Nat) : CJ := fun k as g r Q => Cd sc d k as g r 218 fun v g r n => n = 218 → Q v g r
def jb (b : Bool) (q : Prop) : Prop := match b with
  | true => q
  | false => False
def jp (t : Nat) (st : List AV) (f : Int → List AV → Prop) : Prop := match st with
  | [] => False
  | (u, x) :: s => jb (Nat.beq u t) (f x s)
def jld : List AV → Nat → Nat → (Int → Prop) → Prop
  | [], _, _, _ => False
  | (u, x) :: _, 0, t, f => jb (Nat.beq u t) (f x)
  | _ :: s, i + 1, t, f => jld s i t f
def jset : List AV → Nat → AV → (List AV → Prop) → Prop
  | [], _, _, k => k []
  | _ :: s, 0, v, k => k (v :: s)
  | a :: s, i + 1, v, k => jset s i v fun t => k (a :: t)
def jst : List AV → Nat → AV → (List AV → Prop) → Prop
  | [], _, _, k => k []
  | _ :: s, 0, v, k => k (v :: s)
  | (u, x) :: s, 1, v, k => (match u with
    | 1 => jset s 0 v fun t => k ((9, 0) :: t)
    | _ => jset s 0 v fun t => k ((u, x) :: t))
  | a :: s, i + 2, v, k => jst s (i + 1) v fun t => k (a :: t)
def jN : Nat → List AV → (List AV → List AV → Prop) → Prop
  | 0, st, f => f [] st
  | m + 1, st, f => match st with
    | [] => False
    | v :: s => jN m s fun as s2 => f (as ++ [v]) s2
def jc : List AV → Nat
  | [] => 0
  | v :: t => (match v.1 with | 1 => 2 | _ => 1) + jc t
def jpush (rc : Nat) (v : Int) (s : List AV) : List AV := match rc with
  | 0 => s
  | 3 => (1, v) :: s
  | 4 => (2, v) :: s
  | _ => (0, v) :: s
def jcall (sc : SCR) (d : Nat) (C : CJ) (X : XJ) (pc : Nat) (ls st : List AV) (g r : GH) (h : HJ) : Prop := match h with
  | (c, na, mode, kd, rc) => match mode with
    | 0 => jN na st fun as s => jp 2 s fun x s2 => jb (Nat.ble (jc s2) 8) (okr 218 x kd ∧ C c ((2, x) :: as) g r fun v g2 r2 => X (pc + 3) ls (jpush rc.toNat v s2) g2 r2)
    | 1 => jN na st fun as s2 => jb (Nat.ble (jc s2) 8) (C c as g r fun v g2 r2 => X (pc + 3) ls (jpush rc.toNat v s2) g2 r2)
    | 5 => jN na st fun as s2 => jb (Nat.ble (jc s2) 8) (C c as g r fun v g2 r2 => X (pc + 3) ls (jpush rc.toNat v s2) g2 r2)
    | 4 => jp 0 st fun len s => jp 0 s fun dp s => jp 2 s fun dst s => jp 0 s fun sp s => jp 2 s fun src s3 => jb (Nat.ble (jc s3) 8) ((0 ≤ sp ∧ 0 ≤ dp ∧ 0 ≤ len ∧ sp + len ≤ am_ln src ∧ dp + len ≤ am_ln dst ∧ ((okr 218 src 11 ∧ okr 218 dst 11) ∨ (okr 218 src 12 ∧ okr 218 dst 12))) ∧ ∀ g2, g2 = cpy g src sp dst dp len → X (pc + 3) ls s3 g2 r)
    | 6 => jp 2 st fun x s => jb (Nat.ble (jc s) 8) ((3 ≤ d ∧ okT x) ∧ X (pc + 3) ls ((0, ((am_tx x).length : Int)) :: s) g r)
    | 7 => jp 0 st fun j s => jp 2 s fun x s => jb (Nat.ble (jc s) 8) ((3 ≤ d ∧ okT x ∧ 0 ≤ j ∧ j < ((am_tx x).length : Int)) ∧ X (pc + 3) ls ((0, (am_tx x).getD j.toNat 0) :: s) g r)
    | _ => False
def stJ (sc : SCR) (d : Nat) (C : CJ) (k : Nat) (Q : QJ) (X : XJ) (pc : Nat) (ls st : List AV) (g r : GH) (e : EJ) : Prop := match e.1 with
  | .getfield _ => jp 2 st fun x s => okr 218 x e.2.2.1 ∧ X (pc + 3) ls ((match e.2.2.2.2.1 with | 2 => (2, r x (e.2.2.2.1 : Int)) | 1 => (1, g x (e.2.2.2.1 : Int)) | _ => (0, g x (e.2.2.2.1 : Int))) :: s) g r
  | .putfield _ => match st with
    | [] => False
    | v :: s => jp 2 s fun x s => match e.2.2.2.2.1 with
      | 2 => jb (Nat.beq v.1 2) (okr 218 x e.2.2.1 ∧ ∀ r2, r2 = up r x (e.2.2.2.1 : Int) v.2 → X (pc + 3) ls s g r2)
      | 3 => jb (Nat.beq v.1 0) (okr 218 x e.2.2.1 ∧ (v.2 = 0 ∨ v.2 = 1) ∧ ∀ g2, g2 = up g x (e.2.2.2.1 : Int) v.2 → X (pc + 3) ls s g2 r)
      | 1 => jb (Nat.beq v.1 1) (okr 218 x e.2.2.1 ∧ ∀ g2, g2 = up g x (e.2.2.2.1 : Int) v.2 → X (pc + 3) ls s g2 r)
      | _ => jb (Nat.beq v.1 0) (okr 218 x e.2.2.1 ∧ ∀ g2, g2 = up g x (e.2.2.2.1 : Int) v.2 → X (pc + 3) ls s g2 r)
  | .iastore => jp 0 st fun v s => jp 0 s fun j s => jp 2 s fun x s => okI 218 x 11 j ∧ ∀ g2, g2 = up g x j v → X (pc + 1) ls s g2 r
  | .lastore => jp 1 st fun v s => jp 0 s fun j s => jp 2 s fun x s => okI 218 x 12 j ∧ ∀ g2, g2 = up g x j v → X (pc + 1) ls s g2 r
  | .bastore => jp 0 st fun v s => jp 0 s fun j s => jp 2 s fun x s => ((okI 218 x 10 j ∧ i_b v = v) ∨ (okI 218 x 13 j ∧ (v = 0 ∨ v = 1))) ∧ ∀ g2, g2 = up g x j v → X (pc + 1) ls s g2 r
  | .aastore => jp 2 st fun v s => jp 0 s fun j s => jp 2 s fun x s => ((okI 218 x 14 j ∧ okr 218 v 2) ∨ (okI 218 x 15 j ∧ okr 218 v 0)) ∧ ∀ r2, r2 = up r x j v → X (pc + 1) ls s g r2
  | .iload_n j => jld ls j 0 fun v => X (pc + 1) ls ((0, v) :: st) g r
  | .iload j => jld ls j 0 fun v => X (pc + 2) ls ((0, v) :: st) g r
  | .lload_n j => jld ls j 1 fun v => X (pc + 1) ls ((1, v) :: st) g r
  | .lload j => jld ls j 1 fun v => X (pc + 2) ls ((1, v) :: st) g r
  | .aload_n j => jld ls j 2 fun v => X (pc + 1) ls ((2, v) :: st) g r
  | .aload j => jld ls j 2 fun v => X (pc + 2) ls ((2, v) :: st) g r
  | .istore_n j => jp 0 st fun v s => jst ls j (0, v) fun ls => X (pc + 1) ls s g r
  | .istore j => jp 0 st fun v s => jst ls j (0, v) fun ls => X (pc + 2) ls s g r
  | .astore_n j => jp 2 st fun v s => jst ls j (2, v) fun ls => X (pc + 1) ls s g r
  | .astore j => jp 2 st fun v s => jst ls j (2, v) fun ls => X (pc + 2) ls s g r
  | .lstore_n j => jp 1 st fun v s => jst ls j (1, v) fun ls => jset ls (j + 1) (8, 0) fun ls => X (pc + 1) ls s g r
  | .lstore j => jp 1 st fun v s => jst ls j (1, v) fun ls => jset ls (j + 1) (8, 0) fun ls => X (pc + 2) ls s g r
  | .iinc j _ => jld ls j 0 fun v => jst ls j (0, wr (v + e.2.2.2.2.2.2)) fun ls => X (pc + 3) ls st g r
  | .dup => match st with
    | (u, x) :: s => (match u with
      | 1 => False
      | _ => X (pc + 1) ls ((u, x) :: (u, x) :: s) g r)
    | _ => False
  | .dup2 => match st with
    | (u, x) :: (w, y) :: s => (match u with
      | 1 => False
      | _ => match w with
        | 1 => False
        | _ => X (pc + 1) ls ((u, x) :: (w, y) :: (u, x) :: (w, y) :: s) g r)
    | _ => False
  | .iadd => jp 0 st fun y s => jp 0 s fun x s => X (pc + 1) ls ((0, wr (x + y)) :: s) g r
  | .isub => jp 0 st fun y s => jp 0 s fun x s => X (pc + 1) ls ((0, wr (x - y)) :: s) g r
  | .imul => jp 0 st fun y s => jp 0 s fun x s => X (pc + 1) ls ((0, wr (x * y)) :: s) g r
  | .iand => jp 0 st fun y s => jp 0 s fun x s => X (pc + 1) ls ((0, i_and x y) :: s) g r
  | .ior => jp 0 st fun y s => jp 0 s fun x s => X (pc + 1) ls ((0, i_or x y) :: s) g r
  | .ixor => jp 0 st fun y s => jp 0 s fun x s => X (pc + 1) ls ((0, i_xor x y) :: s) g r
  | .ishl => jp 0 st fun y s => jp 0 s fun x s => X (pc + 1) ls ((0, i_shl x y) :: s) g r
  | .ishr => jp 0 st fun y s => jp 0 s fun x s => X (pc + 1) ls ((0, i_shr x y) :: s) g r
  | .ladd => jp 1 st fun y s => jp 1 s fun x s => X (pc + 1) ls ((1, wL (x + y)) :: s) g r
  | .lsub => jp 1 st fun y s => jp 1 s fun x s => X (pc + 1) ls ((1, wL (x - y)) :: s) g r
  | .lmul => jp 1 st fun y s => jp 1 s fun x s => X (pc + 1) ls ((1, wL (x * y)) :: s) g r
  | .land => jp 1 st fun y s => jp 1 s fun x s => X (pc + 1) ls ((1, l_and x y) :: s) g r
  | .lor => jp 1 st fun y s => jp 1 s fun x s => X (pc + 1) ls ((1, l_or x y) :: s) g r
  | .lxor => jp 1 st fun y s => jp 1 s fun x s => X (pc + 1) ls ((1, l_xor x y) :: s) g r
  | .idiv => jp 0 st fun y s => jp 0 s fun x s => y ≠ 0 ∧ X (pc + 1) ls ((0, wr (x.tdiv y)) :: s) g r
  | .irem => jp 0 st fun y s => jp 0 s fun x s => y ≠ 0 ∧ X (pc + 1) ls ((0, x.tmod y) :: s) g r
  | .ldiv => jp 1 st fun y s => jp 1 s fun x s => y ≠ 0 ∧ X (pc + 1) ls ((1, wL (x.tdiv y)) :: s) g r
  | .lrem => jp 1 st fun y s => jp 1 s fun x s => y ≠ 0 ∧ X (pc + 1) ls ((1, x.tmod y) :: s) g r
  | .lshl => jp 0 st fun y s => jp 1 s fun x s => X (pc + 1) ls ((1, l_shl x y) :: s) g r
  | .lshr => jp 0 st fun y s => jp 1 s fun x s => X (pc + 1) ls ((1, l_shr x y) :: s) g r
  | .lushr => jp 0 st fun y s => jp 1 s fun x s => X (pc + 1) ls ((1, l_ushr x y) :: s) g r
  | .lcmp => jp 1 st fun y s => jp 1 s fun x s => X (pc + 1) ls ((0, cmpL x y) :: s) g r
  | .ineg => jp 0 st fun x s => X (pc + 1) ls ((0, wr (-x)) :: s) g r
  | .i2b => jp 0 st fun x s => X (pc + 1) ls ((0, i_b x) :: s) g r
  | .i2l => jp 0 st fun x s => X (pc + 1) ls ((1, x) :: s) g r
  | .l2i => jp 1 st fun x s => X (pc + 1) ls ((0, wr x) :: s) g r
  | .aconst_null => X (pc + 1) ls ((2, -1) :: st) g r
  | .laload => jp 0 st fun j s => jp 2 s fun x s => okI 218 x 12 j ∧ X (pc + 1) ls ((1, g x j) :: s) g r
  | .baload => jp 0 st fun j s => jp 2 s fun x s => (okI 218 x 10 j ∨ okI 218 x 13 j) ∧ X (pc + 1) ls ((0, g x j) :: s) g r
  | .aaload => jp 0 st fun j s => jp 2 s fun x s => (okI 218 x 14 j ∨ okI 218 x 15 j) ∧ X (pc + 1) ls ((2, r x j) :: s) g r
  | .iaload => jp 0 st fun j s => jp 2 s fun x s => match e.2.2.1 with
    | 1 => (x = -5 ∧ 0 ≤ j ∧ j < sc.1) ∧ X (pc + 1) ls ((0, sc.2 j) :: s) g r
    | _ => okI 218 x 11 j ∧ X (pc + 1) ls ((0, g x j) :: s) g r
  | .arraylength => jp 2 st fun x s => match e.2.2.1 with
    | 1 => x = -5 ∧ X (pc + 1) ls ((0, sc.1) :: s) g r
    | _ => (0 ≤ x ∧ x < 218 ∧ 11 ≤ am_sh x ∧ am_sh x ≤ 15) ∧ X (pc + 1) ls ((0, am_ln x) :: s) g r
  | .ldc _ => X (pc + 2) ls ((match e.2.2.1 with | 2 => (2, e.2.2.2.2.2.2) | _ => (0, e.2.2.2.2.2.2)) :: st) g r
  | .ldc_w _ => X (pc + 3) ls ((0, e.2.2.2.2.2.2) :: st) g r
  | .ldc2_w _ => X (pc + 3) ls ((1, e.2.2.2.2.2.2) :: st) g r
  | .invokevirtual _ => jcall sc d C X pc ls st g r e.2.2
  | .invokestatic _ => jcall sc d C X pc ls st g r e.2.2
  | .invokespecial _ => False
  | .new _ => False
  | .newarray _ => False
  | .anewarray _ => False
  | .ireturn => match st with
    | [v] => jb (Nat.beq v.1 0) (match e.2.2.1 with | 2 => (v.2 = 0 ∨ v.2 = 1) ∧ Q v.2 g r | _ => Q v.2 g r)
    | _ => False
  | .lreturn => match st with
    | [v] => jb (Nat.beq v.1 1) (Q v.2 g r)
    | _ => False
  | .areturn => match st with
    | [v] => jb (Nat.beq v.1 2) (Q v.2 g r)
    | _ => False
  | .return_ => match st with
    | [] => Q 0 g r
    | _ => False
  | .goto _ => X e.2.2.1 ls st g r
  | .ifCond c _ => jp 0 st fun x s => match c with
    | .eq => if x = 0 then X e.2.2.1 ls s g r else X (pc + 3) ls s g r
    | .ne => if x = 0 then X (pc + 3) ls s g r else X e.2.2.1 ls s g r
    | .lt => if x < 0 then X e.2.2.1 ls s g r else X (pc + 3) ls s g r
    | .ge => if x < 0 then X (pc + 3) ls s g r else X e.2.2.1 ls s g r
    | .gt => if 0 < x then X e.2.2.1 ls s g r else X (pc + 3) ls s g r
    | .le => if 0 < x then X (pc + 3) ls s g r else X e.2.2.1 ls s g r
  | .if_icmp c _ => jp 0 st fun y s => jp 0 s fun x s => match c with
    | .eq => if x = y then X e.2.2.1 ls s g r else X (pc + 3) ls s g r
    | .ne => if x = y then X (pc + 3) ls s g r else X e.2.2.1 ls s g r
    | .lt => if x < y then X e.2.2.1 ls s g r else X (pc + 3) ls s g r
    | .ge => if x < y then X (pc + 3) ls s g r else X e.2.2.1 ls s g r
    | .gt => if y < x then X e.2.2.1 ls s g r else X (pc + 3) ls s g r
    | .le => if y < x then X (pc + 3) ls s g r else X e.2.2.1 ls s g r
  | .ifnull _ => jp 2 st fun x s => if x = -1 then X e.2.2.1 ls s g r else X (pc + 3) ls s g r
  | .ifnonnull _ => jp 2 st fun x s => if x = -1 then X (pc + 3) ls s g r else X e.2.2.1 ls s g r
  | .iconst _ => X (pc + 1) ls ((0, e.2.2.2.2.2.2) :: st) g r
  | .lconst _ => X (pc + 1) ls ((1, e.2.2.2.2.2.2) :: st) g r
  | .bipush _ => X (pc + 2) ls ((0, e.2.2.2.2.2.2) :: st) g r
  | .sipush _ => X (pc + 3) ls ((0, e.2.2.2.2.2.2) :: st) g r
  | i => stI sc d (fun _ _ _ _ _ _ => False) k (218 - (am_mk k : Int)) (fun _ _ _ _ => False) (fun pc ls st g r _ => X pc ls st g r) pc ls st g r 218 i e.2.1
def lkJ {α : Type} (pc : Nat) : List (Nat × α) → Option (Nat × α)
  | [] => none
  | e :: t => match Nat.beq e.1 pc with
    | true => some e
    | false => lkJ pc t
def mskL : Nat → List Nat → List AV → List AV
  | _, _, [] => []
  | i, ds, v :: t => (match ds with
    | [] => v :: t
    | j :: js => match Nat.beq i j with
      | true => (9, 0) :: mskL (i + 1) js t
      | false => v :: mskL (i + 1) ds t)
def RG (sc : SCR) (d : Nat) (C : CJ) (k : Nat) (Q : QJ) (X : XJ) (L : List (Nat × EJ)) (M : List (Nat × List Nat)) : Nat → XJ
  | 0 => X
  | f + 1 => fun pc ls st g r => match lkJ pc L with
    | some e => stJ sc d C k Q (RG sc d C k Q X L M f) e.1 ls st g r e.2
    | none => match lkJ pc M with
      | some ds => X ds.1 (mskL 0 ds.2 ls) st g r
      | none => X pc ls st g r
def vI (pc k : Nat) (i : Instr) (len : Nat) (h : HJ) : Bool := match i with
  | .goto o => len == 3 && decide ((pc : Int) + o = (h.1 : Int))
  | .ifCond _ o => len == 3 && decide ((pc : Int) + o = (h.1 : Int))
  | .if_icmp _ o => len == 3 && decide ((pc : Int) + o = (h.1 : Int))
  | .ifnull o => len == 3 && decide ((pc : Int) + o = (h.1 : Int))
  | .ifnonnull o => len == 3 && decide ((pc : Int) + o = (h.1 : Int))
  | .iconst v => len == 1 && decide (-128 ≤ v ∧ v < 128) && decide (h.2.2.2.2 = v)
  | .bipush v => len == 2 && decide (-128 ≤ v ∧ v < 128) && decide (h.2.2.2.2 = v)
  | .sipush v => len == 3 && decide (-32768 ≤ v ∧ v < 32768) && decide (h.2.2.2.2 = v)
  | .lconst v => len == 1 && decide (h.2.2.2.2 = ((v : Nat) : Int))
  | .iload j => len == 2
  | .lload j => len == 2
  | .aload j => len == 2
  | .iload_n _ => len == 1
  | .lload_n _ => len == 1
  | .aload_n _ => len == 1
  | .istore_n j => len == 1 && decide ((j : Nat) < am_maxL k)
  | .astore_n j => len == 1 && decide ((j : Nat) < am_maxL k)
  | .lstore_n j => len == 1 && decide ((j : Nat) + 1 < am_maxL k)
  | .istore j => len == 2 && decide (j < am_maxL k)
  | .astore j => len == 2 && decide (j < am_maxL k)
  | .lstore j => len == 2 && decide (j + 1 < am_maxL k)
  | .iinc j c => len == 3 && decide (j < am_maxL k) && decide (h.2.2.2.2 = c)
  | .iadd => len == 1
  | .isub => len == 1
  | .imul => len == 1
  | .iand => len == 1
  | .ior => len == 1
  | .ixor => len == 1
  | .ishl => len == 1
  | .ishr => len == 1
  | .ladd => len == 1
  | .lsub => len == 1
  | .lmul => len == 1
  | .land => len == 1
  | .lor => len == 1
  | .lxor => len == 1
  | .idiv => len == 1
  | .irem => len == 1
  | .ldiv => len == 1
  | .lrem => len == 1
  | .lshl => len == 1
  | .lshr => len == 1
  | .lushr => len == 1
  | .lcmp => len == 1
  | .ineg => len == 1
  | .i2b => len == 1
  | .i2l => len == 1
  | .l2i => len == 1
  | .aconst_null => len == 1
  | .laload => len == 1
  | .baload => len == 1
  | .aaload => len == 1
  | .dup => len == 1
  | .dup2 => len == 1
  | .getfield idx => len == 3 && (match am_at k idx am_FL with
    | some f => f.1 == h.1 && f.2.1 == h.2.1 && (match f.2.2.1 with | 0 => h.2.2.1 == 0 | 1 => h.2.2.1 == 1 | 2 => h.2.2.1 == 2 | 3 => h.2.2.1 == 0 | _ => false)
    | none => false)
  | .putfield idx => len == 3 && (match am_at k idx am_FL with
    | some f => f.1 == h.1 && f.2.1 == h.2.1 && f.2.2.1 == h.2.2.1 && Nat.ble h.2.2.1 3 && !f.2.2.2.1
    | none => false)
  | .ldc idx => len == 2 && (match am_at k idx am_SL with
    | some f => h.1 == 2 && decide (h.2.2.2.2 = 1000000 + (f.1 : Int))
    | none => match am_at k idx am_KL with
      | some f => f.1 == 0 && h.1 == 0 && decide (h.2.2.2.2 = f.2.1)
      | none => false)
  | .ldc_w idx => len == 3 && (match am_at k idx am_KL with
      | some f => f.1 == 0 && decide (h.2.2.2.2 = f.2.1)
      | none => false)
  | .ldc2_w idx => len == 3 && (match am_at k idx am_KL with
      | some f => f.1 == 1 && decide (h.2.2.2.2 = f.2.1)
      | none => false)
  | .invokevirtual idx => len == 3 && (match am_at k idx am_CL with
      | some f => f.1 == h.1 && f.2.1 == h.2.1 && f.2.2.1 == h.2.2.1 && (f.2.2.1 == 0 || f.2.2.1 == 6 || f.2.2.1 == 7) && am_kd (am_own f.1) == h.2.2.2.1 && decide ((am_rc f.1 : Int) = h.2.2.2.2) && (f.2.2.1 == 4 || f.2.2.1 == 6 || f.2.2.1 == 7 || am_mk f.1 == 0)
      | none => false)
  | .invokestatic idx => len == 3 && (match am_at k idx am_CL with
      | some f => f.1 == h.1 && f.2.1 == h.2.1 && f.2.2.1 == h.2.2.1 && (f.2.2.1 == 1 || f.2.2.1 == 5 || f.2.2.1 == 4) && am_kd (am_own f.1) == h.2.2.2.1 && decide ((am_rc f.1 : Int) = h.2.2.2.2) && (f.2.2.1 == 4 || f.2.2.1 == 6 || f.2.2.1 == 7 || am_mk f.1 == 0)
      | none => false)
  | .iaload => len == 1
  | .arraylength => len == 1
  | .iastore => len == 1
  | .lastore => len == 1
  | .bastore => len == 1
  | .aastore => len == 1
  | .ireturn => len == 1 && h.1 == am_rc k && (h.1 == 1 || h.1 == 2)
  | .lreturn => len == 1 && am_rc k == 3
  | .areturn => len == 1 && am_rc k == 4
  | .return_ => len == 1 && am_rc k == 0
  | _ => true
def vld (k : Nat) (e : Nat × EJ) : Bool := (match decode (am_code k) e.1 with
  | .ok f => decide (f.1 = e.2.1) && f.2 == e.2.2.1
  | .error _ => false) && vI e.1 k e.2.1 e.2.2.1 e.2.2.2
theorem jb_e {b : Bool} {q : Prop} (h : jb b q) : b = true ∧ q := by
  cases b
  · exact h.elim
  · exact ⟨rfl, h⟩
theorem jp_e {t : Nat} {st : List AV} {f : Int → List AV → Prop} (h : jp t st f) : ∃ v s, st = (t, v) :: s ∧ f v s := by
  cases st with
  | nil => exact h.elim
  | cons v s =>
    obtain ⟨a, b⟩ := v
    obtain ⟨h1, h2⟩ := jb_e h
    have := Nat.eq_of_beq_eq_true h1
    subst this
    exact ⟨b, s, rfl, h2⟩
theorem am_p_i {t : Nat} {v : Int} {s : List AV} {f : Int → List AV → Prop} (h : f v s) : am_p t ((t, v) :: s) f := by
  show (if t = t then f v s else False)
  rw [if_pos rfl]; exact h
theorem jN_am : ∀ (m : Nat) {st : List AV} {f g : List AV → List AV → Prop}, (∀ a s, f a s → g a s) → jN m st f → am_popN m st g
  | 0, _, _, _, h, w => h _ _ w
  | m + 1, [], _, _, _, w => w.elim
  | m + 1, v :: s, _, _, h, w => jN_am m (fun a s2 w => h _ _ w) w
theorem jc_cat : ∀ st : List AV, jc st = am_cat st
  | [] => rfl
  | v :: t => by
    have ih := jc_cat t
    unfold jc
    rw [ih]
    show _ = ((if v.1 = 1 then 2 else 1) + (t.map _).sum)
    split
    · rename_i h; rw [if_pos h]; rfl
    · rename_i h; rw [if_neg h]; rfl
theorem len_i {a b : Nat} {q : Prop} (h : a = b) (w : q) : am_len a b q := by unfold am_len; rw [if_pos h]; exact w
theorem cF : CMono (fun _ _ _ _ _ _ => False) := fun _ _ _ _ _ _ _ _ h => h
theorem and4 {a b c d : Bool} : (a && b && c && d) = true → a = true ∧ b = true ∧ c = true ∧ d = true := by
  cases a <;> cases b <;> cases c <;> cases d <;> decide
/-- n comes back as it went in -/
theorem Cd_n {sc : SCR} {k : Nat} {as : List AV} {g r : GH} {n : Int} : ∀ {d : Nat} {Q : Int → GH → GH → Int → Prop}, Cd sc d k as g r n Q → Cd sc d k as g r n fun v g r n2 => n2 = n + am_mk k ∧ Q v g r n2
  | 0, _, h => h
  | d + 1, Q, h => by
    refine ⟨h.1, fun X hX => h.2 X fun pc ls st g r n2 w => hX _ _ _ _ _ _ ?_⟩
    unfold stp at w ⊢
    split at w
    · rename_i e he
      obtain ⟨i, len⟩ := e
      cases i
      case ireturn =>
        refine am_len_mono (am_p_mono fun v s h => ?_) w
        exact ⟨h.1, h.2.1, h.2.2.1, h.2.2.1, h.2.2.2⟩
      case lreturn =>
        refine am_len_mono (am_p_mono fun v s h => ?_) w
        exact ⟨h.1, h.2.1, h.2.2.1, h.2.2.1, h.2.2.2⟩
      case areturn =>
        refine am_len_mono (am_p_mono fun v s h => ?_) w
        exact ⟨h.1, h.2.1, h.2.2.1, h.2.2.1, h.2.2.2⟩
      case return_ =>
        refine am_len_mono (fun h => ?_) w
        exact ⟨h.1, h.2.1, h.2.2.1, h.2.2.1, h.2.2.2⟩
      all_goals exact w
    · exact w
theorem Ce_Cd {sc : SCR} {d k : Nat} {as : List AV} {g r : GH} {Q : Int → GH → GH → Int → Prop} {P : QJ} (h0 : am_mk k = 0) (h : Ce sc d k as g r P) (hq : ∀ v g r, P v g r → Q v g r 218) : Cd sc d k as g r 218 Q := by
  have h1 := Cd_n h
  rw [h0] at h1
  exact Cd_mono sc d _ _ _ _ _ _ _ (fun v g r n w => by have e : n = 218 := w.1; subst e; exact hq _ _ _ (w.2 rfl)) h1
end
section
/-! the equations' machine is sound for the machine of numbers -/
theorem b2 {a b : Bool} (h : (a && b) = true) : a = true ∧ b = true := by cases a <;> cases b <;> first | exact ⟨rfl, rfl⟩ | cases h
theorem ne_e {a b : Nat} (h : (a == b) = true) : a = b := eq_of_beq h
theorem jp_am {t : Nat} {st : List AV} {f g : Int → List AV → Prop} (hf : ∀ v s, f v s → g v s) (h : jp t st f) : am_p t st g := by
  obtain ⟨v, s, rfl, w⟩ := jp_e h
  exact am_p_i (hf _ _ w)
theorem jcall_st {sc : SCR} {d k : Nat} {X : XJ} {Y : XT} (hX : ∀ pc ls st g r, X pc ls st g r → Y pc ls st g r 218) {pc : Nat} {ls st : List AV} {g r : GH} {h1 h2 h3 h4 : Nat} {rc : Int} {w : Nat}
    (e4 : am_kd (am_own h1) = h4) (e5 : (am_rc h1 : Int) = rc) (e6 : (h3 == 4 || h3 == 6 || h3 == 7 || am_mk h1 == 0) = true) (h : jcall sc d (Ce sc d) X pc ls st g r (h1, h2, h3, h4, rc)) : stCall d (Cd sc d) k (218 - (am_mk k : Int)) Y pc ls st g r 218 (h1, h2, h3, w) := by
  subst e4; subst e5
  have e7 : h3 = 0 ∨ h3 = 1 ∨ h3 = 5 → am_mk h1 = 0 := by
    intro h
    rcases Bool.or_eq_true_iff.mp e6 with e | e
    · rcases Bool.or_eq_true_iff.mp e with e | e
      · rcases Bool.or_eq_true_iff.mp e with e | e
        · have := ne_e e; omega
        · have := ne_e e; omega
      · have := ne_e e; omega
    · exact ne_e e
  have hcell : (h3 = 0 ∨ h3 = 1 ∨ h3 = 5) → cellsOK k (218 - (am_mk k : Int)) h1 218 := fun w h => absurd (e7 w) h
  have hp : ∀ (v : Int) (s : List AV), jpush (am_rc h1 : Int).toNat v s = am_push (am_rc h1) v s := by
    intro v s
    rw [Int.toNat_natCast]
    unfold jpush am_push
    split
    · rename_i h; rw [if_pos h]
    · rename_i h; rw [if_neg (by omega), if_pos h]
    · rename_i h; rw [if_neg (by omega), if_neg (by omega), if_pos h]
    · rename_i a b c; rw [if_neg a, if_neg b, if_neg c]
  have hc : (h3 = 0 ∨ h3 = 1 ∨ h3 = 5) → ∀ {s2 : List AV} {as : List AV} {g r : GH}, Ce sc d h1 as g r (fun v g2 r2 => X (pc + 3) ls (jpush (am_rc h1 : Int).toNat v s2) g2 r2) → Cd sc d h1 as g r 218 (fun v g2 r2 n2 => Y (pc + 3) ls (am_push (am_rc h1) v s2) g2 r2 n2) := by
    intro hm s2 as g r w
    refine Ce_Cd (e7 hm) w fun v g r w => ?_
    rw [hp] at w
    exact hX _ _ _ _ _ w
  have hb : ∀ {s : List AV}, Nat.ble (jc s) 8 = true → am_cat s ≤ 8 := fun {s} h => by rw [← jc_cat]; exact Nat.le_of_ble_eq_true h
  have hp2 : ∀ {v : Int} {s : List AV} {f : Int → List AV → Prop}, f v s → am_p 2 ((2, v) :: s) f := fun h => am_p_i h
  unfold jcall at h
  dsimp only at h
  unfold stCall
  dsimp only
  split at h
  · refine jN_am _ (fun as s w => ?_) h
    refine jp_am (fun x s2 w => ?_) w
    obtain ⟨b, w1, w2⟩ := jb_e w
    exact ⟨w1, hb b, hcell (by decide), hc (by decide) w2⟩
  · refine jN_am _ (fun as s w => ?_) h
    obtain ⟨b, w2⟩ := jb_e w
    exact ⟨hb b, hcell (by decide), hc (by decide) w2⟩
  · refine jN_am _ (fun as s w => ?_) h
    obtain ⟨b, w2⟩ := jb_e w
    exact ⟨hb b, hcell (by decide), hc (by decide) w2⟩
  · refine jp_am (fun len s h => jp_am (fun dp s h => jp_am (fun dst s h => jp_am (fun sp s h => jp_am (fun src s3 h => ?_) h) h) h) h) h
    obtain ⟨b, ⟨a1, a2, a3, a4, a5, a6⟩, h⟩ := jb_e h
    exact ⟨hb b, a1, a2, a3, a4, a5, a6, hX _ _ _ _ _ (h _ rfl)⟩
  · refine jp_am (fun x s h => ?_) h
    obtain ⟨b, ⟨a1, a2⟩, h⟩ := jb_e h
    exact ⟨hb b, a1, a2, hX _ _ _ _ _ h⟩
  · refine jp_am (fun j s h => jp_am (fun x s h => ?_) h) h
    obtain ⟨b, ⟨a1, a2, a3, a4⟩, h⟩ := jb_e h
    exact ⟨hb b, a1, a2, a3, a4, hX _ _ _ _ _ h⟩
  · exact h.elim
theorem am_j_i {pc t : Nat} {o : Int} {f : Nat → Prop} (h : (pc : Int) + o = (t : Int)) (w : f t) : am_j pc o f := by
  unfold am_j
  rw [h, if_pos (by omega), Int.toNat_natCast]; exact w
theorem am_b_i {b : Bool} {q : Prop} (h : b = true) (w : q) : am_b b q := by unfold am_b; rw [if_pos h]; exact w
theorem jld_am : ∀ {ls : List AV} {i t : Nat} {f g : Int → Prop}, (∀ v, f v → g v) → jld ls i t f → am_ld ls i t g
  | [], _, _, _, _, _, h => h.elim
  | (u, x) :: s, 0, t, f, g, hf, h => by
    obtain ⟨h1, h2⟩ := jb_e h
    have := Nat.eq_of_beq_eq_true h1; subst this
    show (if u = u then g x else False)
    rw [if_pos rfl]; exact hf _ h2
  | a :: s, i + 1, t, f, g, hf, h => jld_am (ls := s) hf h
theorem jset_e : ∀ (ls : List AV) (i : Nat) (v : AV) (k : List AV → Prop), jset ls i v k = k (ls.set i v)
  | [], _, _, _ => rfl
  | _ :: _, 0, _, _ => rfl
  | a :: s, i + 1, v, k => jset_e s i v _
theorem jst_e : ∀ (ls : List AV) (i : Nat) (v : AV) (k : List AV → Prop), jst ls i v k = k (am_st1 ls i v)
  | [], i, v, k => by
    show k [] = _
    unfold am_st1 am_kill
    cases i <;> rfl
  | _ :: _, 0, _, _ => rfl
  | (u, x) :: s, 1, v, k => by
    unfold jst
    split
    · rw [jset_e]; rfl
    · rename_i hu
      rw [jset_e]
      have : am_kill ((u, x) :: s) 1 = (u, x) :: s := by
        unfold am_kill
        dsimp only
        split
        · rename_i h; cases h; exact absurd rfl hu
        · rfl
      unfold am_st1
      rw [this]; rfl
  | a :: s, i + 2, v, k => by
    unfold jst
    rw [jst_e s (i + 1) v]
    have : am_kill (a :: s) (i + 2) = a :: am_kill s (i + 1) := by
      unfold am_kill
      dsimp only
      rw [List.getElem?_cons_succ]
      split <;> rfl
    unfold am_st1
    rw [this]; rfl
set_option maxHeartbeats 4000000 in
theorem stJ_stI {sc : SCR} {d k : Nat} {Q : QJ} {X : XJ} {Y : XT} (hX : ∀ pc ls st g r, X pc ls st g r → Y pc ls st g r 218) {pc : Nat} {ls st : List AV} {g r : GH} {i : Instr} {len : Nat} {hh : HJ} (hv : vI pc k i len hh = true)
    (h : stJ sc d (Ce sc d) k Q X pc ls st g r (i, len, hh)) : stI sc d (Cd sc d) k (218 - (am_mk k : Int)) (fun v g r _ => Q v g r) Y pc ls st g r 218 i len := by
  obtain ⟨h1, h2, h3, h4, c⟩ := hh
  have hm : ∀ pc ls st g r n, (fun pc ls st g r (_ : Int) => X pc ls st g r) pc ls st g r n → (fun pc ls st g r (_ : Int) => X pc ls st g r) pc ls st g r n := fun _ _ _ _ _ _ h => h
  cases i
  case getfield idx =>
    unfold stJ at h; dsimp only at h
    obtain ⟨hl, hv⟩ := b2 hv
    unfold stI; dsimp only
    refine len_i (ne_e hl) ?_
    cases hf : am_at k idx am_FL with
    | none => rw [hf] at hv; cases hv
    | some f =>
      rw [hf] at hv
      obtain ⟨f1, f2, f3, f4⟩ := f
      dsimp only at hv ⊢
      obtain ⟨hv, e3⟩ := b2 hv
      obtain ⟨e1, e2⟩ := b2 hv
      have e1 := ne_e e1
      have e2 := ne_e e2
      subst e1; subst e2
      refine jp_am (fun x s h => ?_) h
      refine ⟨h.1, ?_⟩
      replace h := h.2
      split at e3
      · have := ne_e e3; subst this; exact hX _ _ _ _ _ h
      · have := ne_e e3; subst this; exact hX _ _ _ _ _ h
      · have := ne_e e3; subst this; exact hX _ _ _ _ _ h
      · have := ne_e e3; subst this; exact hX _ _ _ _ _ h
      · cases e3
  case putfield idx =>
    unfold stJ at h; dsimp only at h
    obtain ⟨hl, hv⟩ := b2 hv
    unfold stI; dsimp only
    refine len_i (ne_e hl) ?_
    cases hf : am_at k idx am_FL with
    | none => rw [hf] at hv; cases hv
    | some f =>
      rw [hf] at hv
      obtain ⟨f1, f2, f3, f4, f5⟩ := f
      dsimp only at hv ⊢
      obtain ⟨hv, e5⟩ := b2 hv
      obtain ⟨hv, e4⟩ := b2 hv
      obtain ⟨hv, e3⟩ := b2 hv
      obtain ⟨e1, e2⟩ := b2 hv
      have e1 := ne_e e1
      have e2 := ne_e e2
      have e3 := ne_e e3
      have e4 := Nat.le_of_ble_eq_true e4
      subst e1; subst e2; subst e3
      have hfin : f4 = true → am_isI k = true ∧ am_kd (am_own k) = f1 := fun h => by rw [h] at e5; cases e5
      cases st with
      | nil => exact h.elim
      | cons v s =>
        obtain ⟨t, v⟩ := v
        dsimp only at h
        obtain ⟨x, s', e0, h'⟩ := jp_e h
        clear h; subst e0
        have h := h'; clear h'
        split at h
        · obtain ⟨b, ho, hq⟩ := jb_e h
          have := Nat.eq_of_beq_eq_true b; subst this
          refine am_p_i (am_p_i ⟨ho, hfin, ?_⟩)
          exact hX _ _ _ _ _ (hq _ rfl)
        · obtain ⟨b, ho, hz, hq⟩ := jb_e h
          have := Nat.eq_of_beq_eq_true b; subst this
          refine am_p_i (am_p_i ⟨ho, hfin, ?_⟩)
          exact ⟨hz, hX _ _ _ _ _ (hq _ rfl)⟩
        · obtain ⟨b, ho, hq⟩ := jb_e h
          have := Nat.eq_of_beq_eq_true b; subst this
          refine am_p_i (am_p_i ⟨ho, hfin, ?_⟩)
          exact hX _ _ _ _ _ (hq _ rfl)
        · rename_i n2 n3 n1
          have e0 : f3 = 0 := by
            match f3, e4, n2, n3, n1 with
            | 0, _, _, _, _ => rfl
            | 1, _, _, _, n => exact absurd rfl n
            | 2, _, n, _, _ => exact absurd rfl n
            | 3, _, _, n, _ => exact absurd rfl n
          subst e0
          obtain ⟨b, ho, hq⟩ := jb_e h
          have := Nat.eq_of_beq_eq_true b; subst this
          refine am_p_i (am_p_i ⟨ho, hfin, ?_⟩)
          exact hX _ _ _ _ _ (hq _ rfl)
  case iastore =>
    unfold stJ at h; dsimp only at h
    exact len_i (ne_e hv) (jp_am (fun v s h => jp_am (fun j s h => jp_am (fun x s h => ⟨h.1, hX _ _ _ _ _ (h.2 _ rfl)⟩) h) h) h)
  case lastore =>
    unfold stJ at h; dsimp only at h
    exact len_i (ne_e hv) (jp_am (fun v s h => jp_am (fun j s h => jp_am (fun x s h => ⟨h.1, hX _ _ _ _ _ (h.2 _ rfl)⟩) h) h) h)
  case bastore =>
    unfold stJ at h; dsimp only at h
    exact len_i (ne_e hv) (jp_am (fun v s h => jp_am (fun j s h => jp_am (fun x s h => ⟨h.1, hX _ _ _ _ _ (h.2 _ rfl)⟩) h) h) h)
  case aastore =>
    unfold stJ at h; dsimp only at h
    exact len_i (ne_e hv) (jp_am (fun v s h => jp_am (fun j s h => jp_am (fun x s h => ⟨h.1, hX _ _ _ _ _ (h.2 _ rfl)⟩) h) h) h)
  case ldc idx =>
    unfold stJ at h; dsimp only at h
    obtain ⟨hl, hv⟩ := b2 hv
    unfold stI; dsimp only
    refine len_i (ne_e hl) ?_
    cases hf : am_at k idx am_SL with
    | some f =>
      rw [hf] at hv
      dsimp only at hv ⊢
      obtain ⟨e1, e2⟩ := b2 hv
      have e1 := ne_e e1; subst e1
      have e2 := of_decide_eq_true e2; subst e2
      exact hX _ _ _ _ _ h
    | none =>
      rw [hf] at hv
      dsimp only at hv ⊢
      cases hf : am_at k idx am_KL with
      | none => rw [hf] at hv; cases hv
      | some f =>
        rw [hf] at hv
        dsimp only at hv ⊢
        obtain ⟨hv, e2⟩ := b2 hv
        obtain ⟨e0, e1⟩ := b2 hv
        have e1 := ne_e e1; subst e1
        have e2 := of_decide_eq_true e2; subst e2
        rw [if_pos (ne_e e0)]
        exact hX _ _ _ _ _ h
  case ldc_w idx =>
    unfold stJ at h; dsimp only at h
    obtain ⟨hl, hv⟩ := b2 hv
    unfold stI; dsimp only
    refine len_i (ne_e hl) ?_
    cases hf : am_at k idx am_KL with
    | none => rw [hf] at hv; cases hv
    | some f =>
      rw [hf] at hv
      dsimp only at hv ⊢
      obtain ⟨e0, e2⟩ := b2 hv
      have e2 := of_decide_eq_true e2; subst e2
      rw [if_pos (ne_e e0)]
      exact hX _ _ _ _ _ h
  case ldc2_w idx =>
    unfold stJ at h; dsimp only at h
    obtain ⟨hl, hv⟩ := b2 hv
    unfold stI; dsimp only
    refine len_i (ne_e hl) ?_
    cases hf : am_at k idx am_KL with
    | none => rw [hf] at hv; cases hv
    | some f =>
      rw [hf] at hv
      dsimp only at hv ⊢
      obtain ⟨e0, e2⟩ := b2 hv
      have e2 := of_decide_eq_true e2; subst e2
      rw [if_pos (ne_e e0)]
      exact hX _ _ _ _ _ h
  case invokevirtual idx =>
    unfold stJ at h; dsimp only at h
    obtain ⟨hl, hv⟩ := b2 hv
    unfold stI; dsimp only
    refine len_i (ne_e hl) ?_
    cases hf : am_at k idx am_CL with
    | none => rw [hf] at hv; cases hv
    | some f =>
      rw [hf] at hv
      obtain ⟨f1, f2, f3, f4⟩ := f
      dsimp only at hv ⊢
      obtain ⟨hv, e6⟩ := b2 hv
      obtain ⟨hv, e5⟩ := b2 hv
      obtain ⟨hv, e4⟩ := b2 hv
      obtain ⟨hv, em⟩ := b2 hv
      obtain ⟨hv, e3⟩ := b2 hv
      obtain ⟨e1, e2⟩ := b2 hv
      have e1 := ne_e e1; have e2 := ne_e e2; have e3 := ne_e e3
      subst e1; subst e2; subst e3
      rw [if_pos (by
        rcases Bool.or_eq_true_iff.mp em with em | em
        · rcases Bool.or_eq_true_iff.mp em with em | em
          · exact Or.inl (ne_e em)
          · exact Or.inr (Or.inl (ne_e em))
        · exact Or.inr (Or.inr (ne_e em)))]
      exact jcall_st hX (ne_e e4) (of_decide_eq_true e5) e6 h
  case invokestatic idx =>
    unfold stJ at h; dsimp only at h
    obtain ⟨hl, hv⟩ := b2 hv
    unfold stI; dsimp only
    refine len_i (ne_e hl) ?_
    cases hf : am_at k idx am_CL with
    | none => rw [hf] at hv; cases hv
    | some f =>
      rw [hf] at hv
      obtain ⟨f1, f2, f3, f4⟩ := f
      dsimp only at hv ⊢
      obtain ⟨hv, e6⟩ := b2 hv
      obtain ⟨hv, e5⟩ := b2 hv
      obtain ⟨hv, e4⟩ := b2 hv
      obtain ⟨hv, em⟩ := b2 hv
      obtain ⟨hv, e3⟩ := b2 hv
      obtain ⟨e1, e2⟩ := b2 hv
      have e1 := ne_e e1; have e2 := ne_e e2; have e3 := ne_e e3
      subst e1; subst e2; subst e3
      rw [if_pos (by
        rcases Bool.or_eq_true_iff.mp em with em | em
        · rcases Bool.or_eq_true_iff.mp em with em | em
          · exact Or.inl (ne_e em)
          · exact Or.inr (Or.inl (ne_e em))
        · exact Or.inr (Or.inr (ne_e em)))]
      exact jcall_st hX (ne_e e4) (of_decide_eq_true e5) e6 h
  case iload_n j =>
    unfold stJ at h; dsimp only at h
    exact len_i (ne_e hv) (jld_am (fun v h => hX _ _ _ _ _ h) h)
  case iload j =>
    unfold stJ at h; dsimp only at h
    exact len_i (ne_e hv) (jld_am (fun v h => hX _ _ _ _ _ h) h)
  case lload_n j =>
    unfold stJ at h; dsimp only at h
    exact len_i (ne_e hv) (jld_am (fun v h => hX _ _ _ _ _ h) h)
  case lload j =>
    unfold stJ at h; dsimp only at h
    exact len_i (ne_e hv) (jld_am (fun v h => hX _ _ _ _ _ h) h)
  case aload_n j =>
    unfold stJ at h; dsimp only at h
    exact len_i (ne_e hv) (jld_am (fun v h => hX _ _ _ _ _ h) h)
  case aload j =>
    unfold stJ at h; dsimp only at h
    exact len_i (ne_e hv) (jld_am (fun v h => hX _ _ _ _ _ h) h)
  case istore_n j =>
    unfold stJ at h; dsimp only at h
    obtain ⟨h1, h2⟩ := b2 hv
    exact len_i (ne_e h1) (am_b_i h2 (jp_am (fun v s h => by rw [jst_e] at h; exact hX _ _ _ _ _ h) h))
  case istore j =>
    unfold stJ at h; dsimp only at h
    obtain ⟨h1, h2⟩ := b2 hv
    exact len_i (ne_e h1) (am_b_i h2 (jp_am (fun v s h => by rw [jst_e] at h; exact hX _ _ _ _ _ h) h))
  case astore_n j =>
    unfold stJ at h; dsimp only at h
    obtain ⟨h1, h2⟩ := b2 hv
    exact len_i (ne_e h1) (am_b_i h2 (jp_am (fun v s h => by rw [jst_e] at h; exact hX _ _ _ _ _ h) h))
  case astore j =>
    unfold stJ at h; dsimp only at h
    obtain ⟨h1, h2⟩ := b2 hv
    exact len_i (ne_e h1) (am_b_i h2 (jp_am (fun v s h => by rw [jst_e] at h; exact hX _ _ _ _ _ h) h))
  case lstore_n j =>
    unfold stJ at h; dsimp only at h
    obtain ⟨h1, h2⟩ := b2 hv
    exact len_i (ne_e h1) (am_b_i h2 (jp_am (fun v s h => by rw [jst_e, jset_e] at h; exact hX _ _ _ _ _ h) h))
  case lstore j =>
    unfold stJ at h; dsimp only at h
    obtain ⟨h1, h2⟩ := b2 hv
    exact len_i (ne_e h1) (am_b_i h2 (jp_am (fun v s h => by rw [jst_e, jset_e] at h; exact hX _ _ _ _ _ h) h))
  case iinc j cc =>
    unfold stJ at h; dsimp only at h
    obtain ⟨h1, h3⟩ := b2 hv
    obtain ⟨h1, h2⟩ := b2 h1
    have h3 := of_decide_eq_true h3; dsimp only at h3; subst h3
    exact len_i (ne_e h1) (am_b_i h2 (jld_am (fun v h => by rw [jst_e] at h; exact hX _ _ _ _ _ h) h))
  case dup =>
    unfold stJ at h; dsimp only at h
    refine len_i (ne_e hv) ?_
    split at h
    · split at h
      · exact h.elim
      · rename_i u x s hu
        show ite _ _ _
        rw [if_neg hu]; exact hX _ _ _ _ _ h
    · exact h.elim
  case dup2 =>
    unfold stJ at h; dsimp only at h
    refine len_i (ne_e hv) ?_
    split at h
    · split at h
      · exact h.elim
      · rename_i hu
        split at h
        · exact h.elim
        · rename_i hw
          show ite _ _ (ite _ _ _)
          rw [if_neg hu, if_neg hw]; exact hX _ _ _ _ _ h
    · exact h.elim
  case iadd =>
    unfold stJ at h; dsimp only at h
    exact len_i (ne_e hv) (jp_am (fun _ _ h => jp_am (fun _ _ h => hX _ _ _ _ _ h) h) h)
  case isub =>
    unfold stJ at h; dsimp only at h
    exact len_i (ne_e hv) (jp_am (fun _ _ h => jp_am (fun _ _ h => hX _ _ _ _ _ h) h) h)
  case imul =>
    unfold stJ at h; dsimp only at h
    exact len_i (ne_e hv) (jp_am (fun _ _ h => jp_am (fun _ _ h => hX _ _ _ _ _ h) h) h)
  case iand =>
    unfold stJ at h; dsimp only at h
    exact len_i (ne_e hv) (jp_am (fun _ _ h => jp_am (fun _ _ h => hX _ _ _ _ _ h) h) h)
  case ior =>
    unfold stJ at h; dsimp only at h
    exact len_i (ne_e hv) (jp_am (fun _ _ h => jp_am (fun _ _ h => hX _ _ _ _ _ h) h) h)
  case ixor =>
    unfold stJ at h; dsimp only at h
    exact len_i (ne_e hv) (jp_am (fun _ _ h => jp_am (fun _ _ h => hX _ _ _ _ _ h) h) h)
  case ishl =>
    unfold stJ at h; dsimp only at h
    exact len_i (ne_e hv) (jp_am (fun _ _ h => jp_am (fun _ _ h => hX _ _ _ _ _ h) h) h)
  case ishr =>
    unfold stJ at h; dsimp only at h
    exact len_i (ne_e hv) (jp_am (fun _ _ h => jp_am (fun _ _ h => hX _ _ _ _ _ h) h) h)
  case ladd =>
    unfold stJ at h; dsimp only at h
    exact len_i (ne_e hv) (jp_am (fun _ _ h => jp_am (fun _ _ h => hX _ _ _ _ _ h) h) h)
  case lsub =>
    unfold stJ at h; dsimp only at h
    exact len_i (ne_e hv) (jp_am (fun _ _ h => jp_am (fun _ _ h => hX _ _ _ _ _ h) h) h)
  case lmul =>
    unfold stJ at h; dsimp only at h
    exact len_i (ne_e hv) (jp_am (fun _ _ h => jp_am (fun _ _ h => hX _ _ _ _ _ h) h) h)
  case land =>
    unfold stJ at h; dsimp only at h
    exact len_i (ne_e hv) (jp_am (fun _ _ h => jp_am (fun _ _ h => hX _ _ _ _ _ h) h) h)
  case lor =>
    unfold stJ at h; dsimp only at h
    exact len_i (ne_e hv) (jp_am (fun _ _ h => jp_am (fun _ _ h => hX _ _ _ _ _ h) h) h)
  case lxor =>
    unfold stJ at h; dsimp only at h
    exact len_i (ne_e hv) (jp_am (fun _ _ h => jp_am (fun _ _ h => hX _ _ _ _ _ h) h) h)
  case lshl =>
    unfold stJ at h; dsimp only at h
    exact len_i (ne_e hv) (jp_am (fun _ _ h => jp_am (fun _ _ h => hX _ _ _ _ _ h) h) h)
  case lshr =>
    unfold stJ at h; dsimp only at h
    exact len_i (ne_e hv) (jp_am (fun _ _ h => jp_am (fun _ _ h => hX _ _ _ _ _ h) h) h)
  case lushr =>
    unfold stJ at h; dsimp only at h
    exact len_i (ne_e hv) (jp_am (fun _ _ h => jp_am (fun _ _ h => hX _ _ _ _ _ h) h) h)
  case lcmp =>
    unfold stJ at h; dsimp only at h
    exact len_i (ne_e hv) (jp_am (fun _ _ h => jp_am (fun _ _ h => hX _ _ _ _ _ h) h) h)
  case idiv =>
    unfold stJ at h; dsimp only at h
    exact len_i (ne_e hv) (jp_am (fun _ _ h => jp_am (fun _ _ h => ⟨h.1, hX _ _ _ _ _ h.2⟩) h) h)
  case irem =>
    unfold stJ at h; dsimp only at h
    exact len_i (ne_e hv) (jp_am (fun _ _ h => jp_am (fun _ _ h => ⟨h.1, hX _ _ _ _ _ h.2⟩) h) h)
  case ldiv =>
    unfold stJ at h; dsimp only at h
    exact len_i (ne_e hv) (jp_am (fun _ _ h => jp_am (fun _ _ h => ⟨h.1, hX _ _ _ _ _ h.2⟩) h) h)
  case lrem =>
    unfold stJ at h; dsimp only at h
    exact len_i (ne_e hv) (jp_am (fun _ _ h => jp_am (fun _ _ h => ⟨h.1, hX _ _ _ _ _ h.2⟩) h) h)
  case laload =>
    unfold stJ at h; dsimp only at h
    exact len_i (ne_e hv) (jp_am (fun _ _ h => jp_am (fun _ _ h => ⟨h.1, hX _ _ _ _ _ h.2⟩) h) h)
  case baload =>
    unfold stJ at h; dsimp only at h
    exact len_i (ne_e hv) (jp_am (fun _ _ h => jp_am (fun _ _ h => ⟨h.1, hX _ _ _ _ _ h.2⟩) h) h)
  case aaload =>
    unfold stJ at h; dsimp only at h
    exact len_i (ne_e hv) (jp_am (fun _ _ h => jp_am (fun _ _ h => ⟨h.1, hX _ _ _ _ _ h.2⟩) h) h)
  case ineg =>
    unfold stJ at h; dsimp only at h
    exact len_i (ne_e hv) (jp_am (fun _ _ h => hX _ _ _ _ _ h) h)
  case i2b =>
    unfold stJ at h; dsimp only at h
    exact len_i (ne_e hv) (jp_am (fun _ _ h => hX _ _ _ _ _ h) h)
  case i2l =>
    unfold stJ at h; dsimp only at h
    exact len_i (ne_e hv) (jp_am (fun _ _ h => hX _ _ _ _ _ h) h)
  case l2i =>
    unfold stJ at h; dsimp only at h
    exact len_i (ne_e hv) (jp_am (fun _ _ h => hX _ _ _ _ _ h) h)
  case aconst_null =>
    unfold stJ at h; dsimp only at h
    exact len_i (ne_e hv) (hX _ _ _ _ _ h)
  case iaload =>
    unfold stJ at h; dsimp only at h
    refine len_i (ne_e hv) (jp_am (fun j s h => jp_am (fun x s h => ?_) h) h)
    split at h
    · obtain ⟨⟨rfl, a, b⟩, w⟩ := h
      rw [if_pos rfl]
      exact ⟨a, b, hX _ _ _ _ _ w⟩
    · rw [if_neg (by have := h.1.1.1; omega)]
      exact ⟨h.1, hX _ _ _ _ _ h.2⟩
  case arraylength =>
    unfold stJ at h; dsimp only at h
    refine len_i (ne_e hv) (jp_am (fun x s h => ?_) h)
    split at h
    · obtain ⟨rfl, w⟩ := h
      rw [if_pos rfl]
      exact hX _ _ _ _ _ w
    · rw [if_neg (by have := h.1.1; omega)]
      exact ⟨h.1, hX _ _ _ _ _ h.2⟩
  case goto o =>
    obtain ⟨hl, hv⟩ := b2 hv
    exact len_i (ne_e hl) (am_j_i (of_decide_eq_true hv) (hX _ _ _ _ _ h))
  case ifCond cc o =>
    unfold stJ at h; dsimp only at h
    obtain ⟨hl, hv⟩ := b2 hv
    refine len_i (ne_e hl) (jp_am (fun x s h => am_j_i (of_decide_eq_true hv) ?_) h)
    cases cc <;> exact ite_mono (hX _ _ _ _ _) (hX _ _ _ _ _) h
  case if_icmp cc o =>
    unfold stJ at h; dsimp only at h
    obtain ⟨hl, hv⟩ := b2 hv
    refine len_i (ne_e hl) (jp_am (fun x s h => jp_am (fun x s h => am_j_i (of_decide_eq_true hv) ?_) h) h)
    cases cc <;> exact ite_mono (hX _ _ _ _ _) (hX _ _ _ _ _) h
  case ifnull o =>
    unfold stJ at h; dsimp only at h
    obtain ⟨hl, hv⟩ := b2 hv
    exact len_i (ne_e hl) (jp_am (fun x s h => am_j_i (of_decide_eq_true hv) (ite_mono (hX _ _ _ _ _) (hX _ _ _ _ _) h)) h)
  case ifnonnull o =>
    unfold stJ at h; dsimp only at h
    obtain ⟨hl, hv⟩ := b2 hv
    exact len_i (ne_e hl) (jp_am (fun x s h => am_j_i (of_decide_eq_true hv) (ite_mono (hX _ _ _ _ _) (hX _ _ _ _ _) h)) h)
  case iconst v =>
    unfold stJ at h; dsimp only at h
    obtain ⟨hv, h3⟩ := b2 hv
    obtain ⟨hl, h2⟩ := b2 hv
    have h3 := of_decide_eq_true h3; dsimp only at h3; subst h3
    exact len_i (ne_e hl) (am_b_i h2 (hX _ _ _ _ _ h))
  case bipush v =>
    unfold stJ at h; dsimp only at h
    obtain ⟨hv, h3⟩ := b2 hv
    obtain ⟨hl, h2⟩ := b2 hv
    have h3 := of_decide_eq_true h3; dsimp only at h3; subst h3
    exact len_i (ne_e hl) (am_b_i h2 (hX _ _ _ _ _ h))
  case sipush v =>
    unfold stJ at h; dsimp only at h
    obtain ⟨hv, h3⟩ := b2 hv
    obtain ⟨hl, h2⟩ := b2 hv
    have h3 := of_decide_eq_true h3; dsimp only at h3; subst h3
    exact len_i (ne_e hl) (am_b_i h2 (hX _ _ _ _ _ h))
  case lconst v =>
    unfold stJ at h; dsimp only at h
    obtain ⟨hl, h3⟩ := b2 hv
    have h3 := of_decide_eq_true h3; dsimp only at h3; subst h3
    exact len_i (ne_e hl) (hX _ _ _ _ _ h)
  case invokespecial => exact h.elim
  case new => exact h.elim
  case newarray => exact h.elim
  case anewarray => exact h.elim
  case ireturn =>
    unfold stJ at h; dsimp only at h
    obtain ⟨hv, e4⟩ := b2 hv
    obtain ⟨e1, e3⟩ := b2 hv
    have e1 := ne_e e1; have e3 := ne_e e3
    subst e3
    split at h
    · rename_i v
      obtain ⟨t, v⟩ := v
      obtain ⟨b, h⟩ := jb_e h
      have := Nat.eq_of_beq_eq_true b; subst this
      refine len_i e1 (am_p_i ⟨rfl, ?_, by omega, ?_⟩)
      · rcases Bool.or_eq_true_iff.mp e4 with e4 | e4
        · exact Or.inl (ne_e e4)
        · dsimp only at h
          have e4 := ne_e e4
          dsimp only at e4
          rw [e4] at h
          exact Or.inr ⟨e4, h.1⟩
      · dsimp only at h
        split at h
        · exact h.2
        · exact h
    · exact h.elim
  case lreturn =>
    unfold stJ at h; dsimp only at h
    obtain ⟨e1, e3⟩ := b2 hv
    split at h
    · rename_i v
      obtain ⟨t, v⟩ := v
      obtain ⟨b, h⟩ := jb_e h
      have := Nat.eq_of_beq_eq_true b; subst this
      exact len_i (ne_e e1) (am_p_i ⟨rfl, ne_e e3, by omega, h⟩)
    · exact h.elim
  case areturn =>
    unfold stJ at h; dsimp only at h
    obtain ⟨e1, e3⟩ := b2 hv
    split at h
    · rename_i v
      obtain ⟨t, v⟩ := v
      obtain ⟨b, h⟩ := jb_e h
      have := Nat.eq_of_beq_eq_true b; subst this
      exact len_i (ne_e e1) (am_p_i ⟨rfl, ne_e e3, by omega, h⟩)
    · exact h.elim
  case return_ =>
    unfold stJ at h; dsimp only at h
    obtain ⟨e1, e3⟩ := b2 hv
    split at h
    · exact len_i (ne_e e1) ⟨rfl, ne_e e3, by omega, h⟩
    · exact h.elim
  all_goals (unfold stJ at h; dsimp only at h)
  all_goals exact stI_mono (sc := sc) (d := d) (k := k) (n0 := 218 - (am_mk k : Int)) (X := fun pc ls st g r (_ : Int) => X pc ls st g r) (X2 := fun pc ls st g r (_ : Int) => Y pc ls st g r 218) (Q := fun _ _ _ _ => False) (Q2 := fun _ _ _ _ => False) (C := fun _ _ _ _ _ _ => False) cF (fun _ _ _ _ h => h) (fun pc ls st g r n w => hX pc ls st g r w) _ len h
end
section
/-! places that nobody reads any more may be forgotten -/
def LEl (a b : List AV) : Prop := a.length = b.length ∧ ∀ i : Nat, a[i]? = b[i]? ∨ a[i]? = some (9, 0)
theorem LEl.set {a b : List AV} (h : LEl a b) (j : Nat) (v : AV) : LEl (a.set j v) (b.set j v) := by
  refine ⟨by rw [List.length_set, List.length_set]; exact h.1, fun i => ?_⟩
  by_cases e : j = i
  · subst e
    by_cases hl : j < a.length
    · rw [List.getElem?_set_self hl, List.getElem?_set_self (h.1 ▸ hl)]; exact Or.inl rfl
    · rw [List.getElem?_eq_none (by rw [List.length_set]; omega), List.getElem?_eq_none (by rw [List.length_set]; have := h.1; omega)]; exact Or.inl rfl
  · rw [List.getElem?_set_ne e, List.getElem?_set_ne e]; exact h.2 i
theorem LEl.setR {a b : List AV} (h : LEl a b) (j : Nat) (v : AV) (w : a[j]? = some (9, 0) ∨ a[j]? = none) : LEl a (b.set j v) := by
  refine ⟨by rw [List.length_set]; exact h.1, fun i => ?_⟩
  by_cases e : j = i
  · subst e
    rcases w with w | w
    · exact Or.inr w
    · rw [w, List.getElem?_eq_none (by rw [List.length_set, ← h.1]; exact List.getElem?_eq_none_iff.mp w)]; exact Or.inl rfl
  · rw [List.getElem?_set_ne e]; exact h.2 i
theorem LEl.kill {a b : List AV} (h : LEl a b) : ∀ i, LEl (am_kill a i) (am_kill b i)
  | 0 => h
  | j + 1 => by
    unfold am_kill
    dsimp only
    rcases h.2 j with e | e
    · rw [e]
      split
      · exact h.set _ _
      · exact h
    · rw [e]
      show LEl a _
      split
      · exact h.setR _ _ (Or.inl e)
      · exact h
theorem LEl.st1 {a b : List AV} (h : LEl a b) (i : Nat) (v : AV) : LEl (am_st1 a i v) (am_st1 b i v) := (h.kill i).set i v
theorem LEl.st2 {a b : List AV} (h : LEl a b) (i : Nat) (v : AV) : LEl (am_st2 a i v) (am_st2 b i v) := ((h.kill i).set i v).set (i + 1) (8, 0)
theorem LEl.ld {a b : List AV} (h : LEl a b) {i t : Nat} {f f2 : Int → Prop} (ht : t ≠ 9) (hf : ∀ v, f v → f2 v) (w : am_ld a i t f) : am_ld b i t f2 := by
  unfold am_ld at w ⊢
  rcases h.2 i with e | e
  · rw [e] at w
    split at w
    · exact w.elim
    · rename_i v hv
      split at w
      · rename_i h1; rw [if_pos h1]; exact hf _ w
      · exact w.elim
  · rw [e] at w
    dsimp only at w
    rw [if_neg (by exact fun h => ht h.symm)] at w
    exact w.elim
set_option maxHeartbeats 4000000 in
theorem stI_weak {sc : SCR} {d : Nat} {C : CTR} {k : Nat} {n0 : Int} {Q : Int → GH → GH → Int → Prop} {X X2 : XT} (hC : CMono C) (hX : ∀ pc a b st g r n, LEl a b → X pc a st g r n → X2 pc b st g r n) {a b : List AV} (hab : LEl a b) {pc : Nat} {st : List AV} {g r : GH} {n : Int} (i : Instr) (len : Nat) :
    stI sc d C k n0 Q X pc a st g r n i len → stI sc d C k n0 Q X2 pc b st g r n i len := by
  have key := stI_mono (sc := sc) (d := d) (k := k) (n0 := n0) (X := fun pc _ st g r n => X pc a st g r n) (X2 := fun pc _ st g r n => X2 pc b st g r n) (Q := Q) (Q2 := Q) (C := C) hC (fun _ _ _ _ h => h) (fun pc ls st g r n w => hX pc a b st g r n hab w) (pc := pc) (ls := a) (st := st) (g := g) (r := r) (n := n) i len
  cases i
  case iload_n j => exact am_len_mono (hab.ld (by decide) fun _ => hX _ _ _ _ _ _ _ hab)
  case iload j => exact am_len_mono (hab.ld (by decide) fun _ => hX _ _ _ _ _ _ _ hab)
  case lload_n j => exact am_len_mono (hab.ld (by decide) fun _ => hX _ _ _ _ _ _ _ hab)
  case lload j => exact am_len_mono (hab.ld (by decide) fun _ => hX _ _ _ _ _ _ _ hab)
  case aload_n j => exact am_len_mono (hab.ld (by decide) fun _ => hX _ _ _ _ _ _ _ hab)
  case aload j => exact am_len_mono (hab.ld (by decide) fun _ => hX _ _ _ _ _ _ _ hab)
  case istore_n j => exact am_len_mono (am_b_mono (am_p_mono fun _ _ => hX _ _ _ _ _ _ _ (hab.st1 _ _)))
  case istore j => exact am_len_mono (am_b_mono (am_p_mono fun _ _ => hX _ _ _ _ _ _ _ (hab.st1 _ _)))
  case astore_n j => exact am_len_mono (am_b_mono (am_p_mono fun _ _ => hX _ _ _ _ _ _ _ (hab.st1 _ _)))
  case astore j => exact am_len_mono (am_b_mono (am_p_mono fun _ _ => hX _ _ _ _ _ _ _ (hab.st1 _ _)))
  case lstore_n j => exact am_len_mono (am_b_mono (am_p_mono fun _ _ => hX _ _ _ _ _ _ _ (hab.st2 _ _)))
  case lstore j => exact am_len_mono (am_b_mono (am_p_mono fun _ _ => hX _ _ _ _ _ _ _ (hab.st2 _ _)))
  case iinc j c => exact am_len_mono (am_b_mono (hab.ld (by decide) fun _ => hX _ _ _ _ _ _ _ (hab.st1 _ _)))
  all_goals exact key
theorem WP_weak {sc : SCR} {d : Nat} {C : CTR} {k : Nat} {n0 : Int} {Q : Int → GH → GH → Int → Prop} (hC : CMono C) {pc : Nat} {a b : List AV} {st : List AV} {g r : GH} {n : Int} (hab : LEl a b) (h : WP sc d C k n0 Q pc a st g r n) : WP sc d C k n0 Q pc b st g r n := by
  refine h (fun pc a st g r n => ∀ b, LEl a b → WP sc d C k n0 Q pc b st g r n) (fun pc a st g r n w b hab => ?_) b hab
  rw [WP_unf hC]
  unfold stp at w ⊢
  split at w
  · exact stI_weak hC (fun pc a b st g r n h w => w b h) hab _ _ w
  · exact w.elim
theorem LEl.cons {a b : List AV} (h : LEl a b) (v : AV) : LEl (v :: a) (v :: b) :=
  ⟨by rw [List.length_cons, List.length_cons, h.1], fun i => match i with
    | 0 => Or.inl rfl
    | i + 1 => by rw [List.getElem?_cons_succ, List.getElem?_cons_succ]; exact h.2 i⟩
theorem LEl.forget {a b : List AV} (h : LEl a b) (v : AV) : LEl ((9, 0) :: a) (v :: b) :=
  ⟨by rw [List.length_cons, List.length_cons, h.1], fun i => match i with
    | 0 => Or.inr rfl
    | i + 1 => by rw [List.getElem?_cons_succ, List.getElem?_cons_succ]; exact h.2 i⟩
theorem LEl.rf (a : List AV) : LEl a a := ⟨rfl, fun _ => Or.inl rfl⟩
theorem msk_LE : ∀ (ls : List AV) (i : Nat) (ds : List Nat), LEl (mskL i ds ls) ls
  | [], _, _ => LEl.rf _
  | v :: t, i, [] => LEl.rf _
  | v :: t, i, j :: js => by
    unfold mskL
    dsimp only
    split
    · exact (msk_LE t (i + 1) js).forget v
    · exact (msk_LE t (i + 1) (j :: js)).cons v
theorem lkJ_mem {α : Type} {pc : Nat} : ∀ {L : List (Nat × α)} {e : Nat × α}, lkJ pc L = some e → e ∈ L ∧ e.1 = pc
  | [], _, h => by cases h
  | (a, b) :: t, e, h => by
    unfold lkJ at h
    dsimp only at h
    split at h
    · rename_i hb
      have := Nat.eq_of_beq_eq_true hb; subst this
      cases h
      exact ⟨List.mem_cons_self, rfl⟩
    · exact ⟨List.mem_cons_of_mem _ (lkJ_mem h).1, (lkJ_mem h).2⟩
theorem st_WQ {sc : SCR} {d k : Nat} {Q : QJ} {X : XJ} (hX : ∀ pc ls st g r, X pc ls st g r → WQ sc d k Q pc ls st g r) {pc : Nat} {ls st : List AV} {g r : GH} {e : EJ} (hv : vld k (pc, e) = true)
    (h : stJ sc d (Ce sc d) k Q X pc ls st g r e) : WQ sc d k Q pc ls st g r := by
  obtain ⟨i, len, hh⟩ := e
  obtain ⟨h1, h2⟩ := b2 hv
  unfold WQ
  rw [WP_unf (Cd_mono sc d)]
  unfold stp
  dsimp only at h1
  cases hd : decode (am_code k) pc with
  | error _ => rw [hd] at h1; cases h1
  | ok f =>
    rw [hd] at h1
    obtain ⟨f1, f2⟩ := f
    obtain ⟨a, b⟩ := b2 h1
    have a := of_decide_eq_true a
    have b := ne_e b
    dsimp only at a b
    subst a; subst b
    exact stJ_stI hX h2 h
theorem RG_WQ {sc : SCR} {d k : Nat} {Q : QJ} {L : List (Nat × EJ)} {M : List (Nat × List Nat)} (hL : L.all (vld k) = true) : ∀ (f : Nat) (pc : Nat) (ls st : List AV) (g r : GH), RG sc d (Ce sc d) k Q (WQ sc d k Q) L M f pc ls st g r → WQ sc d k Q pc ls st g r
  | 0, _, _, _, _, _, h => h
  | f + 1, pc, ls, st, g, r, h => by
    unfold RG at h
    split at h
    · rename_i e he
      obtain ⟨h1, rfl⟩ := lkJ_mem he
      exact st_WQ (RG_WQ hL f) (List.all_eq_true.mp hL _ h1) h
    · split at h
      · rename_i ds hds
        obtain ⟨h1, rfl⟩ := lkJ_mem hds
        exact WP_weak (Cd_mono sc d) (msk_LE _ _ _) h
      · exact h
/-- a piece of code: its first step, then as far as the table reaches -/
theorem RS_WQ {sc : SCR} {d k : Nat} {Q : QJ} {L : List (Nat × EJ)} {M : List (Nat × List Nat)} {e : Nat × EJ} (hL : (e :: L).all (vld k) = true) (f : Nat) {ls st : List AV} {g r : GH}
    (h : stJ sc d (Ce sc d) k Q (RG sc d (Ce sc d) k Q (WQ sc d k Q) L M f) e.1 ls st g r e.2) : WQ sc d k Q e.1 ls st g r :=
  st_WQ (RG_WQ (List.all_eq_true.mpr fun x hx => List.all_eq_true.mp hL x (List.mem_cons_of_mem _ hx)) f) (List.all_eq_true.mp hL _ List.mem_cons_self) h
theorem Ce_of {sc : SCR} {d k : Nat} {Q : QJ} {as : List AV} {g r : GH} (hl : (Nat.ble (am_lay as).length (am_maxL k) && Nat.beq (am_mk k) 0) = true) (h : WQ sc d k Q 0 (am_ent (am_maxL k) as) [] g r) : Ce sc (d + 1) k as g r Q := by
  obtain ⟨h1, h2⟩ := b2 hl
  have h2 := Nat.eq_of_beq_eq_true h2
  unfold WQ at h
  rw [h2] at h
  exact   ⟨Nat.le_of_ble_eq_true h1, WP_mono (Cd_mono sc d) (Q := fun v g r _ => Q v g r) (Q2 := fun v g r n => n = 218 → Q v g r) (fun v g r n w _ => w) h⟩
theorem Ce_mono {sc : SCR} {d k : Nat} {Q P : QJ} {as : List AV} {g r : GH} (h : Ce sc d k as g r Q) (hq : ∀ v g r, Q v g r → P v g r) : Ce sc d k as g r P :=
  Cd_mono sc d _ _ _ _ _ _ _ (fun v g r _ w e => hq v g r (w e)) h
end
section
/-! constructors: a run on a heap that is a list of what was written; evaluation finds the objects as they lie at the start -/
abbrev HL : Type := List (Int × Int × Int)
abbrev XR : Type := Int × HL × HL × Int
def dn (z : Int) : HL → GH
  | [] => fun _ _ => z
  | e :: t => up (dn z t) e.1 e.2.1 e.2.2
def dl (z i j : Int) : HL → Int
  | [] => z
  | e :: t => if i = e.1 ∧ j = e.2.1 then e.2.2 else dl z i j t
theorem dl_dn (z i j : Int) : ∀ L : HL, dn z L i j = dl z i j L
  | [] => rfl
  | e :: t => by
    unfold dn dl up
    rw [dl_dn z i j t]
def xq (t : Nat) (st : List AV) (f : Int → List AV → Option XR) : Option XR := match st with
  | [] => none
  | (u, x) :: s => if u = t then f x s else none
def fN (m : Nat) (k : Nat → Option XR) : Option XR := match m with
  | 0 => k 0
  | m + 1 => k (m + 1)
theorem fN_e (m : Nat) (k : Nat → Option XR) : fN m k = k m := by cases m <;> rfl
def fI (x : Int) (k : Int → Option XR) : Option XR := match x with
  | .ofNat m => fN m fun m => k (.ofNat m)
  | .negSucc m => fN m fun m => k (.negSucc m)
theorem fI_e (x : Int) (k : Int → Option XR) : fI x k = k x := by
  cases x with
  | ofNat m => exact fN_e m fun m => k (.ofNat m)
  | negSucc m => exact fN_e m fun m => k (.negSucc m)
def xL : List AV → (List AV → Option XR) → Option XR
  | [], k => k []
  | (u, x) :: t, k => fN u fun u => fI x fun x => xL t fun t => k ((u, x) :: t)
theorem xL_e : ∀ (ls : List AV) (k : List AV → Option XR), xL ls k = k ls
  | [], _ => rfl
  | (u, x) :: t, k => by
    show fN u _ = _
    rw [fN_e, fI_e, xL_e t]
def xg (b : Bool) (o : Option XR) : Option XR := match b with
  | true => o
  | false => none
def xl : List AV → Nat → Nat → (Int → Option XR) → Option XR
  | [], _, _, _ => none
  | (u, x) :: _, 0, t, f => if u = t then f x else none
  | _ :: s, i + 1, t, f => xl s i t f
def xN : Nat → List AV → (List AV → List AV → Option XR) → Option XR
  | 0, st, f => f [] st
  | m + 1, st, f => match st with
    | [] => none
    | v :: s => xN m s fun as s2 => f (as ++ [v]) s2
def xf (G R : HL) (n : Int) : Bool := G.all (fun e => decide (e.1 < n)) && R.all (fun e => decide (e.1 < n))
def xO (i : Nat) (n : Int) (m : Int) (c : Nat) : Bool := decide (0 ≤ m) && decide (m < n) && am_sh m == c
def xC (o : Nat → Option XR) (D : Nat) : Option XR := match D with
  | 0 => none
  | D2 + 1 => o D2
def xrun : Nat → Nat → Nat → Int → Nat → List AV → List AV → HL → HL → Int → Option XR
  | 0 => fun _ _ _ _ _ _ _ _ _ => none
  | f + 1 => fun D k n0 pc ls st G R n =>
    let call := fun (e : Nat × Nat × Nat × Nat) (as s2 : List AV) => xC (fun D2 => xg (Nat.ble (am_cat s2) 8 && (am_mk e.1 == 0 || decide (n + am_mk e.1 ≤ n0 + am_mk k)) && Nat.ble (am_lay as).length (am_maxL e.1))
        (match xL (am_ent (am_maxL e.1) as) (fun ls => xrun f D2 e.1 n 0 ls [] G R n) with
        | none => none
        | some q => xL (am_push (am_rc e.1) q.1 s2) (fun st => xrun f (D2 + 1) k n0 (pc + 3) ls st q.2.1 q.2.2.1 q.2.2.2))) D
    let arr := fun (kd : Nat) (ln : Nat) => xq 0 st fun x s => xg (decide (0 ≤ x) && am_sh n == kd && decide (am_ln n = x) && decide (n < n0 + am_mk k) && xf G R n) (fI (n + 1) fun n2 => xrun f D k n0 (pc + ln) ls ((2, n) :: s) G R n2)
    fN pc fun pc => match decode (am_code k) pc with
    | .error _ => none
    | .ok (i, len) => match i with
      | .iconst v => xg (len == 1 && decide (-128 ≤ v ∧ v < 128)) (xrun f D k n0 (pc + 1) ls ((0, v) :: st) G R n)
      | .bipush v => xg (len == 2 && decide (-128 ≤ v ∧ v < 128)) (xrun f D k n0 (pc + 2) ls ((0, v) :: st) G R n)
      | .sipush v => xg (len == 3 && decide (-32768 ≤ v ∧ v < 32768)) (xrun f D k n0 (pc + 3) ls ((0, v) :: st) G R n)
      | .lconst v => xg (len == 1) (xrun f D k n0 (pc + 1) ls ((1, ((v : Nat) : Int)) :: st) G R n)
      | .iload_n j => xg (len == 1) (xl ls j 0 fun v => xrun f D k n0 (pc + 1) ls ((0, v) :: st) G R n)
      | .aload_n j => xg (len == 1) (xl ls j 2 fun v => xrun f D k n0 (pc + 1) ls ((2, v) :: st) G R n)
      | .istore_n j => xg (len == 1 && decide ((j : Nat) < am_maxL k)) (xq 0 st fun v s => xL (am_st1 ls j (0, v)) fun ls => xrun f D k n0 (pc + 1) ls s G R n)
      | .iinc j c => xg (len == 3 && decide (j < am_maxL k)) (xl ls j 0 fun v => xL (am_st1 ls j (0, wr (v + c))) fun ls => xrun f D k n0 (pc + 3) ls st G R n)
      | .dup => xg (len == 1) (match st with
        | (u, x) :: s => if u = 1 then none else xrun f D k n0 (pc + 1) ls ((u, x) :: (u, x) :: s) G R n
        | [] => none)
      | .goto o => xg (len == 3 && decide (0 ≤ (pc : Int) + o)) (xrun f D k n0 ((pc : Int) + o).toNat ls st G R n)
      | .if_icmp c o => xg (len == 3 && decide (0 ≤ (pc : Int) + o)) (xq 0 st fun y s => xq 0 s fun x s => match c with
        | .eq => if x = y then xrun f D k n0 ((pc : Int) + o).toNat ls s G R n else xrun f D k n0 (pc + 3) ls s G R n
        | .ne => if x = y then xrun f D k n0 (pc + 3) ls s G R n else xrun f D k n0 ((pc : Int) + o).toNat ls s G R n
        | .lt => if x < y then xrun f D k n0 ((pc : Int) + o).toNat ls s G R n else xrun f D k n0 (pc + 3) ls s G R n
        | .ge => if x < y then xrun f D k n0 (pc + 3) ls s G R n else xrun f D k n0 ((pc : Int) + o).toNat ls s G R n
        | .gt => if y < x then xrun f D k n0 ((pc : Int) + o).toNat ls s G R n else xrun f D k n0 (pc + 3) ls s G R n
        | .le => if y < x then xrun f D k n0 (pc + 3) ls s G R n else xrun f D k n0 ((pc : Int) + o).toNat ls s G R n)
      | .getfield idx => xg (len == 3) (match am_at k idx am_FL with
        | some e => xq 2 st fun x s => xg (xO 0 n x e.1) (xL ((am_tag e.2.2.1, if e.2.2.1 = 2 then dl (-1) x (e.2.1 : Int) R else dl 0 x (e.2.1 : Int) G) :: s) fun st => xrun f D k n0 (pc + 3) ls st G R n)
        | none => none)
      | .putfield idx => xg (len == 3) (match am_at k idx am_FL with
        | some e => xq (am_tag e.2.2.1) st fun v s => xq 2 s fun x s => xg (xO 0 n x e.1 && (!e.2.2.2.1 || (am_isI k && am_kd (am_own k) == e.1)))
            (if e.2.2.1 = 2 then xrun f D k n0 (pc + 3) ls s G ((x, (e.2.1 : Int), v) :: R) n else if e.2.2.1 = 3 then xg (decide (v = 0 ∨ v = 1)) (xrun f D k n0 (pc + 3) ls s ((x, (e.2.1 : Int), v) :: G) R n) else xrun f D k n0 (pc + 3) ls s ((x, (e.2.1 : Int), v) :: G) R n)
        | none => none)
      | .iastore => xg (len == 1) (xq 0 st fun v s => xq 0 s fun j s => xq 2 s fun x s => xg (xO 0 n x 11 && decide (0 ≤ j) && decide (j < am_ln x)) (xrun f D k n0 (pc + 1) ls s ((x, j, v) :: G) R n))
      | .aastore => xg (len == 1) (xq 2 st fun v s => xq 0 s fun j s => xq 2 s fun x s => xg (decide (0 ≤ j) && decide (j < am_ln x) && ((xO 0 n x 14 && xO 0 n v 2) || (xO 0 n x 15 && xO 0 n v 0))) (xrun f D k n0 (pc + 1) ls s G ((x, j, v) :: R) n))
      | .arraylength => xg (len == 1) (xq 2 st fun x s => xg (decide (0 ≤ x ∧ x < n ∧ 11 ≤ am_sh x ∧ am_sh x ≤ 15)) (xrun f D k n0 (pc + 1) ls ((0, am_ln x) :: s) G R n))
      | .new idx => xg (len == 3) (match am_at k idx am_NL with
        | some e => xg (Nat.ble e.1 9 && am_sh n == e.1 && decide (am_ln n = ((am_nf e.1 : Nat) : Int)) && decide (n < n0 + am_mk k) && xf G R n) (fI (n + 1) fun n2 => xrun f D k n0 (pc + 3) ls ((2, n) :: st) G R n2)
        | none => none)
      | .newarray t => xg (len == 2) (match t with
        | .int => arr 11 2
        | .long => arr 12 2
        | .boolean => arr 13 2
        | .byte => arr 10 2
        | _ => none)
      | .anewarray idx => xg (len == 3) (match am_at k idx am_NL with
        | some e => if e.1 = 2 then arr 14 3 else if e.1 = 0 then arr 15 3 else none
        | none => none)
      | .invokestatic idx => xg (len == 3) (match am_at k idx am_CL with
        | some e => if e.2.2.1 = 1 then xN e.2.1 st fun as s2 => call e as s2 else none
        | none => none)
      | .invokespecial idx => xg (len == 3) (match am_at k idx am_CL with
        | some e => if e.2.2.1 = 2 ∨ e.2.2.1 = 3 then xN e.2.1 st fun as s => xq 2 s fun x s2 => xg (decide (0 ≤ x ∧ x < 1000000)) (call e ((2, x) :: as) s2)
          else if e.2.2.1 = 8 then xq 2 st fun x s => xg (decide (0 ≤ x ∧ x < 1000000) && Nat.ble (am_cat s) 8) (xrun f D k n0 (pc + 3) ls s G R n) else none
        | none => none)
      | .ireturn => xg (len == 1) (xq 0 st fun v s => match s with
        | [] => xg (am_rc k == 1 && decide (n = n0 + am_mk k)) (some (v, G, R, n))
        | _ :: _ => none)
      | .return_ => xg (len == 1) (match st with
        | [] => xg (am_rc k == 0 && decide (n = n0 + am_mk k)) (some (0, G, R, n))
        | _ :: _ => none)
      | _ => none
theorem xq_i {t : Nat} {st : List AV} {f : Int → List AV → Option XR} {F : Int → List AV → Prop} {a : XR} (hf : ∀ v s, f v s = some a → F v s) (h : xq t st f = some a) : am_p t st F := by
  cases st with
  | nil => cases h
  | cons v s =>
    obtain ⟨u, x⟩ := v
    unfold xq at h
    show (if u = t then F x s else False)
    dsimp only at h
    split at h
    · rename_i e; rw [if_pos e]; exact hf _ _ h
    · cases h
theorem xg_e {b : Bool} {o : Option XR} {a : XR} (h : xg b o = some a) : b = true ∧ o = some a := by
  cases b
  · cases h
  · exact ⟨rfl, h⟩
theorem xl_i {a : XR} : ∀ {ls : List AV} {i t : Nat} {f : Int → Option XR} {F : Int → Prop}, (∀ v, f v = some a → F v) → xl ls i t f = some a → am_ld ls i t F
  | [], _, _, _, _, _, h => by cases h
  | (u, x) :: s, 0, t, f, F, hf, h => by
    unfold xl at h
    show (if u = t then F x else False)
    split at h
    · rename_i e; rw [if_pos e]; exact hf _ h
    · cases h
  | a :: s, i + 1, t, f, F, hf, h => xl_i (ls := s) hf h
theorem xN_i {a : XR} : ∀ (m : Nat) {st : List AV} {f : List AV → List AV → Option XR} {F : List AV → List AV → Prop}, (∀ as s, f as s = some a → F as s) → xN m st f = some a → am_popN m st F
  | 0, _, _, _, h, w => h _ _ w
  | m + 1, [], _, _, _, w => by cases w
  | m + 1, v :: s, _, _, h, w => xN_i m (fun as s2 w => h _ _ w) w
theorem ite_i {c : Prop} {inst : Decidable c} {x y : Option XR} {a : XR} {p q : Prop} (h1 : x = some a → p) (h2 : y = some a → q) (h : @ite _ c inst x y = some a) : @ite _ c inst p q := by
  split at h
  · rename_i e; rw [if_pos e]; exact h1 h
  · rename_i e; rw [if_neg e]; exact h2 h
theorem dn_fresh {z : Int} {n : Int} : ∀ {L : HL}, L.all (fun e => decide (e.1 < n)) = true → ∀ j, dn z L n j = z
  | [], _, _ => rfl
  | e :: t, h, j => by
    rw [List.all_cons] at h
    obtain ⟨h1, h2⟩ := b2 h
    have h1 := of_decide_eq_true h1
    unfold dn up
    rw [if_neg (by omega)]
    exact dn_fresh h2 j
theorem am_j_p {pc : Nat} {o : Int} {f : Nat → Prop} (h : 0 ≤ (pc : Int) + o) (w : f ((pc : Int) + o).toNat) : am_j pc o f := by unfold am_j; rw [if_pos h]; exact w
theorem xf_i {G R : HL} {n : Int} (h : xf G R n = true) : fresh (dn 0 G) (dn (-1) R) n := fun j => ⟨dn_fresh (b2 h).1 j, dn_fresh (b2 h).2 j⟩
theorem xO_i {i : Nat} {n m : Int} {c : Nat} (h : xO i n m c = true) : okr n m c := by
  obtain ⟨h, h3⟩ := b2 h
  obtain ⟨h1, h2⟩ := b2 h
  exact ⟨of_decide_eq_true h1, of_decide_eq_true h2, ne_e h3⟩
set_option maxHeartbeats 4000000 in
theorem xrun_ok {sc : SCR} : ∀ (f D k : Nat) (n0 : Int) (pc : Nat) (ls st : List AV) (G R : HL) (n : Int) (a : XR), xrun f D k n0 pc ls st G R n = some a →
    ∀ Q : Int → GH → GH → Int → Prop, Q a.1 (dn 0 a.2.1) (dn (-1) a.2.2.1) a.2.2.2 → WP sc D (Cd sc D) k n0 Q pc ls st (dn 0 G) (dn (-1) R) n
  | 0, _, _, _, _, _, _, _, _, _, _, h => by cases h
  | f + 1, D, k, n0, pc, ls, st, G, R, n, a, h => by
    intro Q hQ
    have ih : ∀ {k : Nat} {n0 : Int} {pc : Nat} {ls st : List AV} {G R : HL} {n : Int}, xrun f D k n0 pc ls st G R n = some a → k = k → True := fun _ _ => trivial
    have hx : ∀ {pc : Nat} {ls st : List AV} {G R : HL} {n : Int}, xrun f D k n0 pc ls st G R n = some a → WP sc D (Cd sc D) k n0 Q pc ls st (dn 0 G) (dn (-1) R) n := fun w => xrun_ok f D k n0 _ _ _ _ _ _ a w Q hQ
    have hcall : ∀ (e : Nat × Nat × Nat × Nat) (as s2 : List AV), xC (fun D2 => xg (Nat.ble (am_cat s2) 8 && (am_mk e.1 == 0 || decide (n + am_mk e.1 ≤ n0 + am_mk k)) && Nat.ble (am_lay as).length (am_maxL e.1))
        (match xL (am_ent (am_maxL e.1) as) (fun ls => xrun f D2 e.1 n 0 ls [] G R n) with
        | none => none
        | some q => xL (am_push (am_rc e.1) q.1 s2) (fun st => xrun f (D2 + 1) k n0 (pc + 3) ls st q.2.1 q.2.2.1 q.2.2.2))) D = some a →
        am_cat s2 ≤ 8 ∧ cellsOK k n0 e.1 n ∧ Cd sc D e.1 as (dn 0 G) (dn (-1) R) n (fun v g2 r2 n2 => WP sc D (Cd sc D) k n0 Q (pc + 3) ls (am_push (am_rc e.1) v s2) g2 r2 n2) := by
      intro e as s2 w
      cases D with
      | zero => cases w
      | succ D2 =>
        unfold xC at w
        dsimp only at w
        obtain ⟨b, w⟩ := xg_e w
        obtain ⟨b, b3⟩ := b2 b
        obtain ⟨b1, b2'⟩ := b2 b
        rw [xL_e] at w
        split at w
        · cases w
        · rename_i q hq
          rw [xL_e] at w
          refine ⟨Nat.le_of_ble_eq_true b1, fun hm => ?_, Nat.le_of_ble_eq_true b3, ?_⟩
          · rcases Bool.or_eq_true_iff.mp b2' with e | e
            · exact absurd (ne_e e) hm
            · exact of_decide_eq_true e
          · exact xrun_ok f D2 e.1 n 0 _ _ _ _ _ q hq _ (hx w)
    have harr : ∀ (kd ln : Nat), (xq 0 st fun x s => xg (decide (0 ≤ x) && am_sh n == kd && decide (am_ln n = x) && decide (n < n0 + am_mk k) && xf G R n) (fI (n + 1) fun n2 => xrun f D k n0 (pc + ln) ls ((2, n) :: s) G R n2)) = some a →
        am_p 0 st fun x s => 0 ≤ x ∧ am_sh n = kd ∧ am_ln n = x ∧ n < n0 + am_mk k ∧ fresh (dn 0 G) (dn (-1) R) n ∧ WP sc D (Cd sc D) k n0 Q (pc + ln) ls ((2, n) :: s) (dn 0 G) (dn (-1) R) (n + 1) := by
      intro kd ln w
      refine xq_i (fun x s w => ?_) w
      obtain ⟨b, w⟩ := xg_e w
      obtain ⟨b, b5⟩ := b2 b
      obtain ⟨b, b4⟩ := b2 b
      obtain ⟨b, b3⟩ := b2 b
      obtain ⟨b1, b2'⟩ := b2 b
      rw [fI_e] at w
      exact ⟨of_decide_eq_true b1, ne_e b2', of_decide_eq_true b3, of_decide_eq_true b4, xf_i b5, hx w⟩
    rw [WP_unf (Cd_mono sc D)]
    unfold stp
    unfold xrun at h
    dsimp only at h
    rw [fN_e] at h
    split at h
    · cases h
    · rename_i i len hd
      rw [hd]
      dsimp only
      cases i
      case iconst v => obtain ⟨b, h⟩ := xg_e h; obtain ⟨b1, b2'⟩ := b2 b; exact len_i (ne_e b1) (am_b_i b2' (hx h))
      case bipush v => obtain ⟨b, h⟩ := xg_e h; obtain ⟨b1, b2'⟩ := b2 b; exact len_i (ne_e b1) (am_b_i b2' (hx h))
      case sipush v => obtain ⟨b, h⟩ := xg_e h; obtain ⟨b1, b2'⟩ := b2 b; exact len_i (ne_e b1) (am_b_i b2' (hx h))
      case lconst v => obtain ⟨b, h⟩ := xg_e h; exact len_i (ne_e b) (hx h)
      case iload_n j => obtain ⟨b, h⟩ := xg_e h; exact len_i (ne_e b) (xl_i (fun v w => hx w) h)
      case aload_n j => obtain ⟨b, h⟩ := xg_e h; exact len_i (ne_e b) (xl_i (fun v w => hx w) h)
      case istore_n j => obtain ⟨b, h⟩ := xg_e h; obtain ⟨b1, b2'⟩ := b2 b; exact len_i (ne_e b1) (am_b_i b2' (xq_i (fun v s w => hx (by rw [xL_e] at w; exact w)) h))
      case iinc j c => obtain ⟨b, h⟩ := xg_e h; obtain ⟨b1, b2'⟩ := b2 b; exact len_i (ne_e b1) (am_b_i b2' (xl_i (fun v w => hx (by rw [xL_e] at w; exact w)) h))
      case dup =>
        obtain ⟨b, h⟩ := xg_e h
        refine len_i (ne_e b) ?_
        split at h
        · split at h
          · cases h
          · rename_i hn
            show ite _ _ _
            rw [if_neg hn]; exact hx h
        · cases h
      case goto o => obtain ⟨b, h⟩ := xg_e h; obtain ⟨b1, b2'⟩ := b2 b; refine len_i (ne_e b1) ?_; unfold am_j; rw [if_pos (of_decide_eq_true b2')]; exact hx h
      case if_icmp c o =>
        obtain ⟨b, h⟩ := xg_e h; obtain ⟨b1, b2'⟩ := b2 b
        refine len_i (ne_e b1) (xq_i (fun y s w => xq_i (fun x s w => ?_) w) h)
        refine am_j_p (of_decide_eq_true b2') ?_
        cases c <;> exact ite_i hx hx w
      case getfield idx =>
        obtain ⟨b, h⟩ := xg_e h
        refine len_i (ne_e b) ?_
        split at h
        · rename_i e he
          rw [he]
          try dsimp only
          refine xq_i (fun x s w => ?_) h
          obtain ⟨b, w⟩ := xg_e w
          refine ⟨xO_i b, ?_⟩
          rw [dl_dn, dl_dn]; rw [xL_e] at w; exact hx w
        · cases h
      case putfield idx =>
        obtain ⟨b, h⟩ := xg_e h
        refine len_i (ne_e b) ?_
        split at h
        · rename_i e he
          rw [he]
          try dsimp only
          refine xq_i (fun v s w => xq_i (fun x s w => ?_) w) h
          obtain ⟨b, w⟩ := xg_e w
          obtain ⟨b1, b2'⟩ := b2 b
          refine ⟨xO_i b1, fun hf => ?_, ?_⟩
          · rw [hf] at b2'
            obtain ⟨c1, c2⟩ := b2 b2'
            exact ⟨c1, ne_e c2⟩
          · refine ite_i (fun w => hx w) (ite_i (fun w => ?_) (fun w => hx w)) w
            obtain ⟨b, w⟩ := xg_e w
            exact ⟨of_decide_eq_true b, hx w⟩
        · cases h
      case iastore =>
        obtain ⟨b, h⟩ := xg_e h
        refine len_i (ne_e b) (xq_i (fun v s w => xq_i (fun j s w => xq_i (fun x s w => ?_) w) w) h)
        obtain ⟨b, w⟩ := xg_e w
        obtain ⟨b, b3⟩ := b2 b
        obtain ⟨b1, b2'⟩ := b2 b
        exact ⟨⟨xO_i b1, of_decide_eq_true b2', of_decide_eq_true b3⟩, hx w⟩
      case aastore =>
        obtain ⟨b, h⟩ := xg_e h
        refine len_i (ne_e b) (xq_i (fun v s w => xq_i (fun j s w => xq_i (fun x s w => ?_) w) w) h)
        obtain ⟨b, w⟩ := xg_e w
        obtain ⟨b, b3⟩ := b2 b
        obtain ⟨b1, b2'⟩ := b2 b
        refine ⟨?_, hx w⟩
        rcases Bool.or_eq_true_iff.mp b3 with e | e
        · exact Or.inl ⟨⟨xO_i (b2 e).1, of_decide_eq_true b1, of_decide_eq_true b2'⟩, xO_i (b2 e).2⟩
        · exact Or.inr ⟨⟨xO_i (b2 e).1, of_decide_eq_true b1, of_decide_eq_true b2'⟩, xO_i (b2 e).2⟩
      case arraylength =>
        obtain ⟨b, h⟩ := xg_e h
        refine len_i (ne_e b) (xq_i (fun x s w => ?_) h)
        obtain ⟨b, w⟩ := xg_e w
        have b := of_decide_eq_true b
        show ite _ _ _
        rw [if_neg (by omega)]
        exact ⟨b, hx w⟩
      case new idx =>
        obtain ⟨b, h⟩ := xg_e h
        refine len_i (ne_e b) ?_
        split at h
        · rename_i e he
          rw [he]
          try dsimp only
          obtain ⟨b, w⟩ := xg_e h
          obtain ⟨b, b5⟩ := b2 b
          obtain ⟨b, b4⟩ := b2 b
          obtain ⟨b, b3⟩ := b2 b
          obtain ⟨b1, b2'⟩ := b2 b
          rw [fI_e] at w
          exact ⟨Nat.le_of_ble_eq_true b1, ne_e b2', of_decide_eq_true b3, of_decide_eq_true b4, xf_i b5, hx w⟩
        · cases h
      case newarray t =>
        obtain ⟨b, h⟩ := xg_e h
        refine len_i (ne_e b) ?_
        cases t <;> first | exact harr _ _ h | cases h
      case anewarray idx =>
        obtain ⟨b, h⟩ := xg_e h
        refine len_i (ne_e b) ?_
        split at h
        · rename_i e he
          rw [he]
          exact ite_i (harr 14 3) (ite_i (harr 15 3) (fun h => by cases h)) h
        · cases h
      case invokestatic idx =>
        obtain ⟨b, h⟩ := xg_e h
        refine len_i (ne_e b) ?_
        split at h
        · rename_i e he
          rw [he]
          try dsimp only
          obtain ⟨e1, e2, e3, e4⟩ := e
          dsimp only at h ⊢
          split at h
          · rename_i h1
            subst h1
            rw [if_pos (by decide)]
            exact xN_i _ (fun as s w => hcall (e1, e2, 1, e4) as s w) h
          · cases h
        · cases h
      case invokespecial idx =>
        obtain ⟨b, h⟩ := xg_e h
        refine len_i (ne_e b) ?_
        split at h
        · rename_i e he
          rw [he]
          try dsimp only
          obtain ⟨e1, e2, e3, e4⟩ := e
          dsimp only at h ⊢
          split at h
          · rename_i h1
            rw [if_pos (by omega)]
            rcases h1 with h1 | h1 <;> subst h1
            · refine xN_i _ (fun as s w => xq_i (fun x s2 w => ?_) w) h
              obtain ⟨b, w⟩ := xg_e w
              have b := of_decide_eq_true b
              exact ⟨b.1, b.2, hcall (e1, e2, 2, e4) _ s2 w⟩
            · refine xN_i _ (fun as s w => xq_i (fun x s2 w => ?_) w) h
              obtain ⟨b, w⟩ := xg_e w
              have b := of_decide_eq_true b
              exact ⟨b.1, b.2, hcall (e1, e2, 3, e4) _ s2 w⟩
          · split at h
            · rename_i h1
              subst h1
              rw [if_pos (by decide)]
              unfold stCall
              dsimp only
              refine xq_i (fun x s w => ?_) h
              obtain ⟨b, w⟩ := xg_e w
              obtain ⟨b, b3⟩ := b2 b
              have b := of_decide_eq_true b
              exact ⟨b.1, b.2, Nat.le_of_ble_eq_true b3, hx w⟩
            · cases h
        · cases h
      case ireturn =>
        obtain ⟨b, h⟩ := xg_e h
        refine len_i (ne_e b) (xq_i (fun v s w => ?_) h)
        split at w
        · obtain ⟨b, w⟩ := xg_e w
          cases w
          exact ⟨rfl, Or.inl (ne_e (b2 b).1), of_decide_eq_true (b2 b).2, hQ⟩
        · cases w
      case return_ =>
        obtain ⟨b, h⟩ := xg_e h
        refine len_i (ne_e b) ?_
        split at h
        · obtain ⟨b, w⟩ := xg_e h
          cases w
          exact ⟨rfl, ne_e (b2 b).1, of_decide_eq_true (b2 b).2, hQ⟩
        · cases h
      all_goals cases h
end
section
/-! the objects as they lie after the constructors, printed by a program (wip/gen/gen_obj.py), checked by evaluation -/
def oG : HL := [(1, 2, (-1)), (9, 1, 1), (9, 13, (-1)), (9, 14, (-1)), (19, 1, 1), (19, 13, (-1)), (19, 14, (-1)), (23, 3, 1), (34, 3, 1), (47, 0, (-1)), (47, 1, (-1)), (47, 2, (-1)), (47, 3, (-1)), (47, 4, (-1)), (47, 5, (-1)), (49, 0, (-1)), (49, 1, (-1)), (49, 2, (-1)), (49, 3, (-1)), (49, 4, (-1)), (49, 5, (-1)), (51, 0, 1), (51, 1, 1), (51, 2, 1), (51, 3, 1), (51, 4, 1), (51, 5, 1), (68, 1, 1), (68, 13, (-1)), (68, 14, (-1)), (79, 1, 1), (79, 13, (-1)), (79, 14, (-1)), (90, 1, 1), (90, 13, (-1)), (90, 14, (-1)), (101, 1, 1), (101, 13, (-1)), (101, 14, (-1)), (112, 1, 1), (112, 13, (-1)), (112, 14, (-1)), (123, 1, 1), (123, 13, (-1)), (123, 14, (-1)), (132, 3, 1), (143, 3, 1), (154, 3, 1), (165, 25, (-1)), (165, 49, 1), (181, 0, 1), (181, 1, 1), (181, 2, 1), (181, 3, 1), (181, 4, 1), (181, 5, 1)]
def oR : HL := [(0, 0, 1), (0, 1, 6), (0, 2, 7), (0, 3, 18), (0, 4, 23), (0, 5, 34), (0, 6, 45), (0, 8, 46), (0, 9, 48), (0, 10, 50), (0, 11, 51), (0, 12, 52), (0, 13, 55), (0, 14, 58), (0, 15, 61), (0, 16, 62), (0, 17, 65), (1, 0, 2), (1, 3, 3), (1, 4, 4), (1, 5, 5), (6, 0, 66), (6, 1, 77), (6, 2, 88), (6, 3, 99), (6, 4, 110), (6, 5, 121), (7, 1, 8), (7, 4, 13), (8, 9, 9), (9, 5, 10), (9, 6, 11), (9, 12, 12), (13, 0, 14), (13, 2, 15), (13, 3, 16), (13, 5, 17), (18, 9, 19), (19, 5, 20), (19, 6, 21), (19, 12, 22), (23, 4, 24), (23, 5, 25), (23, 6, 26), (23, 7, 27), (23, 8, 28), (23, 9, 29), (23, 10, 30), (23, 11, 31), (23, 12, 32), (23, 13, 33), (34, 4, 35), (34, 5, 36), (34, 6, 37), (34, 7, 38), (34, 8, 39), (34, 9, 40), (34, 10, 41), (34, 11, 42), (34, 12, 43), (34, 13, 44), (45, 0, 132), (45, 1, 143), (45, 2, 154), (46, 0, 47), (48, 0, 49), (52, 0, 53), (52, 1, 54), (55, 0, 56), (55, 1, 57), (58, 0, 59), (58, 1, 60), (62, 0, 63), (62, 1, 64), (66, 1, 67), (66, 4, 72), (67, 9, 68), (68, 5, 69), (68, 6, 70), (68, 12, 71), (72, 0, 73), (72, 2, 74), (72, 3, 75), (72, 5, 76), (77, 1, 78), (77, 4, 83), (78, 9, 79), (79, 5, 80), (79, 6, 81), (79, 12, 82), (83, 0, 84), (83, 2, 85), (83, 3, 86), (83, 5, 87), (88, 1, 89), (88, 4, 94), (89, 9, 90), (90, 5, 91), (90, 6, 92), (90, 12, 93), (94, 0, 95), (94, 2, 96), (94, 3, 97), (94, 5, 98), (99, 1, 100), (99, 4, 105), (100, 9, 101), (101, 5, 102), (101, 6, 103), (101, 12, 104), (105, 0, 106), (105, 2, 107), (105, 3, 108), (105, 5, 109), (110, 1, 111), (110, 4, 116), (111, 9, 112), (112, 5, 113), (112, 6, 114), (112, 12, 115), (116, 0, 117), (116, 2, 118), (116, 3, 119), (116, 5, 120), (121, 1, 122), (121, 4, 127), (122, 9, 123), (123, 5, 124), (123, 6, 125), (123, 12, 126), (127, 0, 128), (127, 2, 129), (127, 3, 130), (127, 5, 131), (132, 4, 133), (132, 5, 134), (132, 6, 135), (132, 7, 136), (132, 8, 137), (132, 9, 138), (132, 10, 139), (132, 11, 140), (132, 12, 141), (132, 13, 142), (143, 4, 144), (143, 5, 145), (143, 6, 146), (143, 7, 147), (143, 8, 148), (143, 9, 149), (143, 10, 150), (143, 11, 151), (143, 12, 152), (143, 13, 153), (154, 4, 155), (154, 5, 156), (154, 6, 157), (154, 7, 158), (154, 8, 159), (154, 9, 160), (154, 10, 161), (154, 11, 162), (154, 12, 163), (154, 13, 164), (165, 0, 166), (165, 1, 167), (165, 2, 168), (165, 3, 169), (165, 4, 170), (165, 5, 171), (165, 6, 172), (165, 7, 173), (165, 8, 174), (165, 9, 175), (165, 10, 176), (165, 11, 177), (165, 12, 178), (165, 13, 179), (165, 14, 180), (165, 15, 181), (165, 16, 182), (165, 17, 183), (165, 18, 184), (165, 19, 185), (165, 20, 186), (165, 21, 187), (165, 22, 188), (165, 23, 189), (165, 34, 190), (165, 35, 191), (165, 37, 192), (165, 38, 193), (165, 39, 194), (165, 40, 195), (165, 41, 196), (165, 42, 197), (165, 43, 198), (165, 44, 199), (165, 45, 200), (165, 46, 201), (165, 47, 202), (165, 50, 203), (165, 51, 204), (165, 57, 205), (165, 58, 206), (165, 59, 207), (165, 60, 208), (165, 62, 209), (165, 63, 210), (165, 65, 211), (165, 67, 212), (165, 68, 213), (165, 69, 214), (165, 71, 215), (165, 72, 216), (165, 73, 217)]
def chk (z : Int) (A B : HL) : Bool := A.all (fun e => decide (dl z e.1 e.2.1 A = dl z e.1 e.2.1 B)) && B.all (fun e => decide (dl z e.1 e.2.1 A = dl z e.1 e.2.1 B))
theorem dl_none {z i j : Int} : ∀ {A : HL}, (∀ e ∈ A, ¬ (i = e.1 ∧ j = e.2.1)) → dl z i j A = z
  | [], _ => rfl
  | e :: t, h => by
    unfold dl
    rw [if_neg (h e List.mem_cons_self)]
    exact dl_none fun e he => h e (List.mem_cons_of_mem _ he)
theorem chk_eq {z : Int} {A B : HL} (h : chk z A B = true) : dn z A = dn z B := by
  funext i j
  rw [dl_dn, dl_dn]
  obtain ⟨h1, h2⟩ := b2 h
  by_cases ha : ∃ e ∈ A, i = e.1 ∧ j = e.2.1
  · obtain ⟨e, he, rfl, rfl⟩ := ha
    exact of_decide_eq_true (List.all_eq_true.mp h1 e he)
  · by_cases hb : ∃ e ∈ B, i = e.1 ∧ j = e.2.1
    · obtain ⟨e, he, rfl, rfl⟩ := hb
      exact of_decide_eq_true (List.all_eq_true.mp h2 e he)
    · rw [dl_none fun e he hh => ha ⟨e, he, hh⟩, dl_none fun e he hh => hb ⟨e, he, hh⟩]
def resA : Option XR := xrun 5000 60 65 1 0 (am_ent (am_maxL 65) [(2, 0)]) [] [] [] 1
def resB : Option XR := match resA with
  | none => none
  | some q => xrun 5000 60 136 166 0 (am_ent (am_maxL 136) [(2, 165)]) [] q.2.1 q.2.2.1 166
def resOK : Bool := match resA with
  | none => false
  | some q => decide (q.2.2.2 = 165) && xf q.2.1 q.2.2.1 165 && (match resB with
    | none => false
    | some w => decide (w.2.2.2 = 218) && chk 0 w.2.1 oG && chk (-1) w.2.2.1 oR)
set_option maxRecDepth 100000 in
theorem resOK_e : resOK = true := by decide +kernel
end
section
theorem my_test : (2:Nat) + 2 = 4 := rfl
end
