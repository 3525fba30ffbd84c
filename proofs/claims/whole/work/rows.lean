section
-- ===== PART A: goes FIRST, ahead of the names: the tables' words, and 'selects' of the private methods out of them =====
/-- a private method of a class that the tables say can be made, by its rows of tables_1 -/
def lw_okq (q : MethodName × Nat) : Prop := (q.1.cls ≠ "java/lang/invoke/MethodHandle" ∧ q.1.cls ≠ "java/lang/invoke/VarHandle") ∧ Cond.instantiable q.1.cls q.2 ∈ tables_1 ∧ Cond.privateMethod q.1 ∈ tables_1 ∧ Cond.instanceMethod q.1 ∈ tables_1
theorem lw_p0 : lw_okq (⟨"FeltCold", "find", "(I)I"⟩, 11) := ⟨⟨by decide +kernel, by decide +kernel⟩, List.mem_of_getElem? (i := 17) (by decide +kernel), List.mem_of_getElem? (i := 291) (by decide +kernel), List.mem_of_getElem? (i := 292) (by decide +kernel)⟩
theorem lw_p1 : lw_okq (⟨"FeltCold", "refusedPlace", "(II)I"⟩, 11) := ⟨⟨by decide +kernel, by decide +kernel⟩, List.mem_of_getElem? (i := 17) (by decide +kernel), List.mem_of_getElem? (i := 303) (by decide +kernel), List.mem_of_getElem? (i := 304) (by decide +kernel)⟩
theorem lw_p2 : lw_okq (⟨"FeltCold", "refusedRow", "(I)I"⟩, 11) := ⟨⟨by decide +kernel, by decide +kernel⟩, List.mem_of_getElem? (i := 17) (by decide +kernel), List.mem_of_getElem? (i := 307) (by decide +kernel), List.mem_of_getElem? (i := 308) (by decide +kernel)⟩
theorem lw_p3 : lw_okq (⟨"FeltCold", "refusedText", "(I)I"⟩, 11) := ⟨⟨by decide +kernel, by decide +kernel⟩, List.mem_of_getElem? (i := 17) (by decide +kernel), List.mem_of_getElem? (i := 384) (by decide +kernel), List.mem_of_getElem? (i := 385) (by decide +kernel)⟩
theorem lw_p4 : lw_okq (⟨"FeltCold$Reader", "skipBlanks", "(LFeltCold$Texts;I)V"⟩, 3) := ⟨⟨by decide +kernel, by decide +kernel⟩, List.mem_of_getElem? (i := 63) (by decide +kernel), List.mem_of_getElem? (i := 420) (by decide +kernel), List.mem_of_getElem? (i := 421) (by decide +kernel)⟩
theorem lw_p5 : lw_okq (⟨"FeltCold$Reader", "readItem", "(LFeltCold$Texts;I)I"⟩, 3) := ⟨⟨by decide +kernel, by decide +kernel⟩, List.mem_of_getElem? (i := 63) (by decide +kernel), List.mem_of_getElem? (i := 426) (by decide +kernel), List.mem_of_getElem? (i := 427) (by decide +kernel)⟩
theorem lw_p6 : lw_okq (⟨"FeltCold$Reader", "readRoom", "(LFeltCold$Texts;I)I"⟩, 3) := ⟨⟨by decide +kernel, by decide +kernel⟩, List.mem_of_getElem? (i := 63) (by decide +kernel), List.mem_of_getElem? (i := 434) (by decide +kernel), List.mem_of_getElem? (i := 435) (by decide +kernel)⟩
theorem lw_p7 : lw_okq (⟨"FeltCold$Reader", "readNumber", "(LFeltCold$Texts;IIII)I"⟩, 3) := ⟨⟨by decide +kernel, by decide +kernel⟩, List.mem_of_getElem? (i := 63) (by decide +kernel), List.mem_of_getElem? (i := 438) (by decide +kernel), List.mem_of_getElem? (i := 439) (by decide +kernel)⟩
theorem lw_p8 : lw_okq (⟨"FeltCold$Reader", "readMember", "(LFeltCold$Texts;II)I"⟩, 3) := ⟨⟨by decide +kernel, by decide +kernel⟩, List.mem_of_getElem? (i := 63) (by decide +kernel), List.mem_of_getElem? (i := 456) (by decide +kernel), List.mem_of_getElem? (i := 457) (by decide +kernel)⟩
theorem lw_p9 : lw_okq (⟨"FeltCold", "isMember", "(I)Z"⟩, 11) := ⟨⟨by decide +kernel, by decide +kernel⟩, List.mem_of_getElem? (i := 17) (by decide +kernel), List.mem_of_getElem? (i := 496) (by decide +kernel), List.mem_of_getElem? (i := 497) (by decide +kernel)⟩
theorem lw_p10 : lw_okq (⟨"FeltCold", "ofMember", "(II)I"⟩, 11) := ⟨⟨by decide +kernel, by decide +kernel⟩, List.mem_of_getElem? (i := 17) (by decide +kernel), List.mem_of_getElem? (i := 500) (by decide +kernel), List.mem_of_getElem? (i := 501) (by decide +kernel)⟩
theorem lw_p11 : lw_okq (⟨"FeltCold", "isRoom", "(I)Z"⟩, 11) := ⟨⟨by decide +kernel, by decide +kernel⟩, List.mem_of_getElem? (i := 17) (by decide +kernel), List.mem_of_getElem? (i := 559) (by decide +kernel), List.mem_of_getElem? (i := 560) (by decide +kernel)⟩
theorem lw_p12 : lw_okq (⟨"FeltCold", "refusedDeed", "()I"⟩, 11) := ⟨⟨by decide +kernel, by decide +kernel⟩, List.mem_of_getElem? (i := 17) (by decide +kernel), List.mem_of_getElem? (i := 634) (by decide +kernel), List.mem_of_getElem? (i := 635) (by decide +kernel)⟩
theorem lw_p13 : lw_okq (⟨"FeltCold$Sender", "sendFrom", "(LFeltCold$Town;III)V"⟩, 6) := ⟨⟨by decide +kernel, by decide +kernel⟩, List.mem_of_getElem? (i := 190) (by decide +kernel), List.mem_of_getElem? (i := 746) (by decide +kernel), List.mem_of_getElem? (i := 747) (by decide +kernel)⟩
theorem lw_p14 : lw_okq (⟨"FeltCold$Sender", "compare", "(LFeltCold$Town;I)V"⟩, 6) := ⟨⟨by decide +kernel, by decide +kernel⟩, List.mem_of_getElem? (i := 190) (by decide +kernel), List.mem_of_getElem? (i := 750) (by decide +kernel), List.mem_of_getElem? (i := 751) (by decide +kernel)⟩
theorem lw_p15 : lw_okq (⟨"FeltCold", "refusedRecord", "(I)I"⟩, 11) := ⟨⟨by decide +kernel, by decide +kernel⟩, List.mem_of_getElem? (i := 17) (by decide +kernel), List.mem_of_getElem? (i := 791) (by decide +kernel), List.mem_of_getElem? (i := 792) (by decide +kernel)⟩
def lw_privs_1 : List (MethodName × Nat) := [(⟨"FeltCold", "find", "(I)I"⟩, 11), (⟨"FeltCold", "refusedPlace", "(II)I"⟩, 11), (⟨"FeltCold", "refusedRow", "(I)I"⟩, 11), (⟨"FeltCold", "refusedText", "(I)I"⟩, 11), (⟨"FeltCold$Reader", "skipBlanks", "(LFeltCold$Texts;I)V"⟩, 3), (⟨"FeltCold$Reader", "readItem", "(LFeltCold$Texts;I)I"⟩, 3), (⟨"FeltCold$Reader", "readRoom", "(LFeltCold$Texts;I)I"⟩, 3), (⟨"FeltCold$Reader", "readNumber", "(LFeltCold$Texts;IIII)I"⟩, 3), (⟨"FeltCold$Reader", "readMember", "(LFeltCold$Texts;II)I"⟩, 3), (⟨"FeltCold", "isMember", "(I)Z"⟩, 11), (⟨"FeltCold", "ofMember", "(II)I"⟩, 11), (⟨"FeltCold", "isRoom", "(I)Z"⟩, 11), (⟨"FeltCold", "refusedDeed", "()I"⟩, 11), (⟨"FeltCold$Sender", "sendFrom", "(LFeltCold$Town;III)V"⟩, 6), (⟨"FeltCold$Sender", "compare", "(LFeltCold$Town;I)V"⟩, 6), (⟨"FeltCold", "refusedRecord", "(I)I"⟩, 11)]
theorem lw_r1 : ∀ q ∈ lw_privs_1, lw_okq q := List.forall_mem_cons.mpr ⟨lw_p0, List.forall_mem_cons.mpr ⟨lw_p1, List.forall_mem_cons.mpr ⟨lw_p2, List.forall_mem_cons.mpr ⟨lw_p3, List.forall_mem_cons.mpr ⟨lw_p4, List.forall_mem_cons.mpr ⟨lw_p5, List.forall_mem_cons.mpr ⟨lw_p6, List.forall_mem_cons.mpr ⟨lw_p7, List.forall_mem_cons.mpr ⟨lw_p8, List.forall_mem_cons.mpr ⟨lw_p9, List.forall_mem_cons.mpr ⟨lw_p10, List.forall_mem_cons.mpr ⟨lw_p11, List.forall_mem_cons.mpr ⟨lw_p12, List.forall_mem_cons.mpr ⟨lw_p13, List.forall_mem_cons.mpr ⟨lw_p14, List.forall_mem_cons.mpr ⟨lw_p15, fun _ h => absurd h List.not_mem_nil⟩⟩⟩⟩⟩⟩⟩⟩⟩⟩⟩⟩⟩⟩⟩⟩
theorem lw_p16 : lw_okq (⟨"FeltCold", "refusedPairs", "(II)I"⟩, 11) := ⟨⟨by decide +kernel, by decide +kernel⟩, List.mem_of_getElem? (i := 17) (by decide +kernel), List.mem_of_getElem? (i := 795) (by decide +kernel), List.mem_of_getElem? (i := 796) (by decide +kernel)⟩
theorem lw_p17 : lw_okq (⟨"FeltCold", "fitting", "(II)I"⟩, 11) := ⟨⟨by decide +kernel, by decide +kernel⟩, List.mem_of_getElem? (i := 17) (by decide +kernel), List.mem_of_getElem? (i := 803) (by decide +kernel), List.mem_of_getElem? (i := 804) (by decide +kernel)⟩
theorem lw_p18 : lw_okq (⟨"FeltCold", "refusedDays", "(II)I"⟩, 11) := ⟨⟨by decide +kernel, by decide +kernel⟩, List.mem_of_getElem? (i := 17) (by decide +kernel), List.mem_of_getElem? (i := 816) (by decide +kernel), List.mem_of_getElem? (i := 817) (by decide +kernel)⟩
theorem lw_p19 : lw_okq (⟨"FeltCold", "agreesWithDays", "(II)Z"⟩, 11) := ⟨⟨by decide +kernel, by decide +kernel⟩, List.mem_of_getElem? (i := 17) (by decide +kernel), List.mem_of_getElem? (i := 821) (by decide +kernel), List.mem_of_getElem? (i := 822) (by decide +kernel)⟩
theorem lw_p20 : lw_okq (⟨"FeltCold", "weighed", "(IIZ)I"⟩, 11) := ⟨⟨by decide +kernel, by decide +kernel⟩, List.mem_of_getElem? (i := 17) (by decide +kernel), List.mem_of_getElem? (i := 850) (by decide +kernel), List.mem_of_getElem? (i := 851) (by decide +kernel)⟩
theorem lw_p21 : lw_okq (⟨"FeltCold$Chances", "reduce", "(JJ)V"⟩, 2) := ⟨⟨by decide +kernel, by decide +kernel⟩, List.mem_of_getElem? (i := 235) (by decide +kernel), List.mem_of_getElem? (i := 874) (by decide +kernel), List.mem_of_getElem? (i := 875) (by decide +kernel)⟩
theorem lw_p22 : lw_okq (⟨"FeltCold", "carryOutLot", "(J)V"⟩, 11) := ⟨⟨by decide +kernel, by decide +kernel⟩, List.mem_of_getElem? (i := 17) (by decide +kernel), List.mem_of_getElem? (i := 888) (by decide +kernel), List.mem_of_getElem? (i := 889) (by decide +kernel)⟩
theorem lw_p23 : lw_okq (⟨"FeltCold", "digestTown", "(J)J"⟩, 11) := ⟨⟨by decide +kernel, by decide +kernel⟩, List.mem_of_getElem? (i := 17) (by decide +kernel), List.mem_of_getElem? (i := 932) (by decide +kernel), List.mem_of_getElem? (i := 933) (by decide +kernel)⟩
theorem lw_p24 : lw_okq (⟨"FeltColdModel", "finds", "(I)I"⟩, 30) := ⟨⟨by decide +kernel, by decide +kernel⟩, List.mem_of_getElem? (i := 938) (by decide +kernel), List.mem_of_getElem? (i := 1042) (by decide +kernel), List.mem_of_getElem? (i := 1043) (by decide +kernel)⟩
theorem lw_p25 : lw_okq (⟨"FeltColdModel", "wrongAt", "(II)I"⟩, 30) := ⟨⟨by decide +kernel, by decide +kernel⟩, List.mem_of_getElem? (i := 938) (by decide +kernel), List.mem_of_getElem? (i := 1050) (by decide +kernel), List.mem_of_getElem? (i := 1051) (by decide +kernel)⟩
theorem lw_p26 : lw_okq (⟨"FeltColdModel", "tells", "(I)I"⟩, 30) := ⟨⟨by decide +kernel, by decide +kernel⟩, List.mem_of_getElem? (i := 938) (by decide +kernel), List.mem_of_getElem? (i := 1054) (by decide +kernel), List.mem_of_getElem? (i := 1055) (by decide +kernel)⟩
theorem lw_p27 : lw_okq (⟨"FeltColdModel", "read", "(I)I"⟩, 30) := ⟨⟨by decide +kernel, by decide +kernel⟩, List.mem_of_getElem? (i := 938) (by decide +kernel), List.mem_of_getElem? (i := 1089) (by decide +kernel), List.mem_of_getElem? (i := 1090) (by decide +kernel)⟩
theorem lw_p28 : lw_okq (⟨"FeltColdModel", "skip", "()V"⟩, 30) := ⟨⟨by decide +kernel, by decide +kernel⟩, List.mem_of_getElem? (i := 938) (by decide +kernel), List.mem_of_getElem? (i := 1093) (by decide +kernel), List.mem_of_getElem? (i := 1094) (by decide +kernel)⟩
theorem lw_p29 : lw_okq (⟨"FeltColdModel", "letterAt", "(I)I"⟩, 30) := ⟨⟨by decide +kernel, by decide +kernel⟩, List.mem_of_getElem? (i := 938) (by decide +kernel), List.mem_of_getElem? (i := 1097) (by decide +kernel), List.mem_of_getElem? (i := 1098) (by decide +kernel)⟩
theorem lw_p30 : lw_okq (⟨"FeltColdModel", "isRoomItem", "()Z"⟩, 30) := ⟨⟨by decide +kernel, by decide +kernel⟩, List.mem_of_getElem? (i := 938) (by decide +kernel), List.mem_of_getElem? (i := 1101) (by decide +kernel), List.mem_of_getElem? (i := 1102) (by decide +kernel)⟩
theorem lw_p31 : lw_okq (⟨"FeltColdModel", "two", "(II)I"⟩, 30) := ⟨⟨by decide +kernel, by decide +kernel⟩, List.mem_of_getElem? (i := 938) (by decide +kernel), List.mem_of_getElem? (i := 1105) (by decide +kernel), List.mem_of_getElem? (i := 1106) (by decide +kernel)⟩
def lw_privs_2 : List (MethodName × Nat) := [(⟨"FeltCold", "refusedPairs", "(II)I"⟩, 11), (⟨"FeltCold", "fitting", "(II)I"⟩, 11), (⟨"FeltCold", "refusedDays", "(II)I"⟩, 11), (⟨"FeltCold", "agreesWithDays", "(II)Z"⟩, 11), (⟨"FeltCold", "weighed", "(IIZ)I"⟩, 11), (⟨"FeltCold$Chances", "reduce", "(JJ)V"⟩, 2), (⟨"FeltCold", "carryOutLot", "(J)V"⟩, 11), (⟨"FeltCold", "digestTown", "(J)J"⟩, 11), (⟨"FeltColdModel", "finds", "(I)I"⟩, 30), (⟨"FeltColdModel", "wrongAt", "(II)I"⟩, 30), (⟨"FeltColdModel", "tells", "(I)I"⟩, 30), (⟨"FeltColdModel", "read", "(I)I"⟩, 30), (⟨"FeltColdModel", "skip", "()V"⟩, 30), (⟨"FeltColdModel", "letterAt", "(I)I"⟩, 30), (⟨"FeltColdModel", "isRoomItem", "()Z"⟩, 30), (⟨"FeltColdModel", "two", "(II)I"⟩, 30)]
theorem lw_r2 : ∀ q ∈ lw_privs_2, lw_okq q := List.forall_mem_cons.mpr ⟨lw_p16, List.forall_mem_cons.mpr ⟨lw_p17, List.forall_mem_cons.mpr ⟨lw_p18, List.forall_mem_cons.mpr ⟨lw_p19, List.forall_mem_cons.mpr ⟨lw_p20, List.forall_mem_cons.mpr ⟨lw_p21, List.forall_mem_cons.mpr ⟨lw_p22, List.forall_mem_cons.mpr ⟨lw_p23, List.forall_mem_cons.mpr ⟨lw_p24, List.forall_mem_cons.mpr ⟨lw_p25, List.forall_mem_cons.mpr ⟨lw_p26, List.forall_mem_cons.mpr ⟨lw_p27, List.forall_mem_cons.mpr ⟨lw_p28, List.forall_mem_cons.mpr ⟨lw_p29, List.forall_mem_cons.mpr ⟨lw_p30, List.forall_mem_cons.mpr ⟨lw_p31, fun _ h => absurd h List.not_mem_nil⟩⟩⟩⟩⟩⟩⟩⟩⟩⟩⟩⟩⟩⟩⟩⟩
theorem lw_p32 : lw_okq (⟨"FeltColdModel", "isFigure", "(I)Z"⟩, 30) := ⟨⟨by decide +kernel, by decide +kernel⟩, List.mem_of_getElem? (i := 938) (by decide +kernel), List.mem_of_getElem? (i := 1109) (by decide +kernel), List.mem_of_getElem? (i := 1110) (by decide +kernel)⟩
theorem lw_p33 : lw_okq (⟨"FeltColdModel", "isMemberItem", "()Z"⟩, 30) := ⟨⟨by decide +kernel, by decide +kernel⟩, List.mem_of_getElem? (i := 938) (by decide +kernel), List.mem_of_getElem? (i := 1113) (by decide +kernel), List.mem_of_getElem? (i := 1114) (by decide +kernel)⟩
theorem lw_p34 : lw_okq (⟨"FeltColdModel", "one", "(I)I"⟩, 30) := ⟨⟨by decide +kernel, by decide +kernel⟩, List.mem_of_getElem? (i := 938) (by decide +kernel), List.mem_of_getElem? (i := 1120) (by decide +kernel), List.mem_of_getElem? (i := 1121) (by decide +kernel)⟩
theorem lw_p35 : lw_okq (⟨"FeltColdModel", "isOne", "(I)Z"⟩, 30) := ⟨⟨by decide +kernel, by decide +kernel⟩, List.mem_of_getElem? (i := 938) (by decide +kernel), List.mem_of_getElem? (i := 1132) (by decide +kernel), List.mem_of_getElem? (i := 1133) (by decide +kernel)⟩
theorem lw_p36 : lw_okq (⟨"FeltColdModel", "memberTells", "(II)I"⟩, 30) := ⟨⟨by decide +kernel, by decide +kernel⟩, List.mem_of_getElem? (i := 938) (by decide +kernel), List.mem_of_getElem? (i := 1136) (by decide +kernel), List.mem_of_getElem? (i := 1137) (by decide +kernel)⟩
theorem lw_p37 : lw_okq (⟨"FeltColdModel", "feels", "([II)I"⟩, 30) := ⟨⟨by decide +kernel, by decide +kernel⟩, List.mem_of_getElem? (i := 938) (by decide +kernel), List.mem_of_getElem? (i := 1140) (by decide +kernel), List.mem_of_getElem? (i := 1141) (by decide +kernel)⟩
theorem lw_p38 : lw_okq (⟨"FeltColdModel", "does", "([II)Z"⟩, 30) := ⟨⟨by decide +kernel, by decide +kernel⟩, List.mem_of_getElem? (i := 938) (by decide +kernel), List.mem_of_getElem? (i := 1147) (by decide +kernel), List.mem_of_getElem? (i := 1148) (by decide +kernel)⟩
theorem lw_p39 : lw_okq (⟨"FeltColdModel", "doesAt", "([III)Z"⟩, 30) := ⟨⟨by decide +kernel, by decide +kernel⟩, List.mem_of_getElem? (i := 938) (by decide +kernel), List.mem_of_getElem? (i := 1151) (by decide +kernel), List.mem_of_getElem? (i := 1152) (by decide +kernel)⟩
theorem lw_p40 : lw_okq (⟨"FeltColdModel", "wouldAt", "([III)Z"⟩, 30) := ⟨⟨by decide +kernel, by decide +kernel⟩, List.mem_of_getElem? (i := 938) (by decide +kernel), List.mem_of_getElem? (i := 1155) (by decide +kernel), List.mem_of_getElem? (i := 1156) (by decide +kernel)⟩
theorem lw_p41 : lw_okq (⟨"FeltColdModel", "isRoom", "(I)Z"⟩, 30) := ⟨⟨by decide +kernel, by decide +kernel⟩, List.mem_of_getElem? (i := 938) (by decide +kernel), List.mem_of_getElem? (i := 1166) (by decide +kernel), List.mem_of_getElem? (i := 1167) (by decide +kernel)⟩
theorem lw_p42 : lw_okq (⟨"FeltColdModel", "thereIn", "([II)I"⟩, 30) := ⟨⟨by decide +kernel, by decide +kernel⟩, List.mem_of_getElem? (i := 938) (by decide +kernel), List.mem_of_getElem? (i := 1170) (by decide +kernel), List.mem_of_getElem? (i := 1171) (by decide +kernel)⟩
theorem lw_p43 : lw_okq (⟨"FeltColdModel", "doing", "([I)I"⟩, 30) := ⟨⟨by decide +kernel, by decide +kernel⟩, List.mem_of_getElem? (i := 938) (by decide +kernel), List.mem_of_getElem? (i := 1174) (by decide +kernel), List.mem_of_getElem? (i := 1175) (by decide +kernel)⟩
theorem lw_p44 : lw_okq (⟨"FeltColdModel", "coldIn", "([II)I"⟩, 30) := ⟨⟨by decide +kernel, by decide +kernel⟩, List.mem_of_getElem? (i := 938) (by decide +kernel), List.mem_of_getElem? (i := 1185) (by decide +kernel), List.mem_of_getElem? (i := 1186) (by decide +kernel)⟩
theorem lw_p45 : lw_okq (⟨"FeltColdModel", "note", "()V"⟩, 30) := ⟨⟨by decide +kernel, by decide +kernel⟩, List.mem_of_getElem? (i := 938) (by decide +kernel), List.mem_of_getElem? (i := 1196) (by decide +kernel), List.mem_of_getElem? (i := 1197) (by decide +kernel)⟩
theorem lw_p46 : lw_okq (⟨"FeltColdModel", "step", "([III)V"⟩, 30) := ⟨⟨by decide +kernel, by decide +kernel⟩, List.mem_of_getElem? (i := 938) (by decide +kernel), List.mem_of_getElem? (i := 1203) (by decide +kernel), List.mem_of_getElem? (i := 1204) (by decide +kernel)⟩
theorem lw_p47 : lw_okq (⟨"FeltColdModel", "noDeed", "()I"⟩, 30) := ⟨⟨by decide +kernel, by decide +kernel⟩, List.mem_of_getElem? (i := 938) (by decide +kernel), List.mem_of_getElem? (i := 1211) (by decide +kernel), List.mem_of_getElem? (i := 1212) (by decide +kernel)⟩
def lw_privs_3 : List (MethodName × Nat) := [(⟨"FeltColdModel", "isFigure", "(I)Z"⟩, 30), (⟨"FeltColdModel", "isMemberItem", "()Z"⟩, 30), (⟨"FeltColdModel", "one", "(I)I"⟩, 30), (⟨"FeltColdModel", "isOne", "(I)Z"⟩, 30), (⟨"FeltColdModel", "memberTells", "(II)I"⟩, 30), (⟨"FeltColdModel", "feels", "([II)I"⟩, 30), (⟨"FeltColdModel", "does", "([II)Z"⟩, 30), (⟨"FeltColdModel", "doesAt", "([III)Z"⟩, 30), (⟨"FeltColdModel", "wouldAt", "([III)Z"⟩, 30), (⟨"FeltColdModel", "isRoom", "(I)Z"⟩, 30), (⟨"FeltColdModel", "thereIn", "([II)I"⟩, 30), (⟨"FeltColdModel", "doing", "([I)I"⟩, 30), (⟨"FeltColdModel", "coldIn", "([II)I"⟩, 30), (⟨"FeltColdModel", "note", "()V"⟩, 30), (⟨"FeltColdModel", "step", "([III)V"⟩, 30), (⟨"FeltColdModel", "noDeed", "()I"⟩, 30)]
theorem lw_r3 : ∀ q ∈ lw_privs_3, lw_okq q := List.forall_mem_cons.mpr ⟨lw_p32, List.forall_mem_cons.mpr ⟨lw_p33, List.forall_mem_cons.mpr ⟨lw_p34, List.forall_mem_cons.mpr ⟨lw_p35, List.forall_mem_cons.mpr ⟨lw_p36, List.forall_mem_cons.mpr ⟨lw_p37, List.forall_mem_cons.mpr ⟨lw_p38, List.forall_mem_cons.mpr ⟨lw_p39, List.forall_mem_cons.mpr ⟨lw_p40, List.forall_mem_cons.mpr ⟨lw_p41, List.forall_mem_cons.mpr ⟨lw_p42, List.forall_mem_cons.mpr ⟨lw_p43, List.forall_mem_cons.mpr ⟨lw_p44, List.forall_mem_cons.mpr ⟨lw_p45, List.forall_mem_cons.mpr ⟨lw_p46, List.forall_mem_cons.mpr ⟨lw_p47, fun _ h => absurd h List.not_mem_nil⟩⟩⟩⟩⟩⟩⟩⟩⟩⟩⟩⟩⟩⟩⟩⟩
theorem lw_p48 : lw_okq (⟨"FeltColdModel", "pass", "([I)I"⟩, 30) := ⟨⟨by decide +kernel, by decide +kernel⟩, List.mem_of_getElem? (i := 938) (by decide +kernel), List.mem_of_getElem? (i := 1215) (by decide +kernel), List.mem_of_getElem? (i := 1216) (by decide +kernel)⟩
theorem lw_p49 : lw_okq (⟨"FeltColdModel", "coldOnes", "([I)I"⟩, 30) := ⟨⟨by decide +kernel, by decide +kernel⟩, List.mem_of_getElem? (i := 938) (by decide +kernel), List.mem_of_getElem? (i := 1230) (by decide +kernel), List.mem_of_getElem? (i := 1231) (by decide +kernel)⟩
theorem lw_p50 : lw_okq (⟨"FeltColdModel", "spanOf", "([III)I"⟩, 30) := ⟨⟨by decide +kernel, by decide +kernel⟩, List.mem_of_getElem? (i := 938) (by decide +kernel), List.mem_of_getElem? (i := 1258) (by decide +kernel), List.mem_of_getElem? (i := 1259) (by decide +kernel)⟩
theorem lw_p51 : lw_okq (⟨"FeltColdModel", "isSet", "(I)Z"⟩, 30) := ⟨⟨by decide +kernel, by decide +kernel⟩, List.mem_of_getElem? (i := 938) (by decide +kernel), List.mem_of_getElem? (i := 1266) (by decide +kernel), List.mem_of_getElem? (i := 1267) (by decide +kernel)⟩
theorem lw_p52 : lw_okq (⟨"FeltColdModel", "knownIn", "([I)I"⟩, 30) := ⟨⟨by decide +kernel, by decide +kernel⟩, List.mem_of_getElem? (i := 938) (by decide +kernel), List.mem_of_getElem? (i := 1274) (by decide +kernel), List.mem_of_getElem? (i := 1275) (by decide +kernel)⟩
theorem lw_p53 : lw_okq (⟨"FeltColdModel", "ways", "()I"⟩, 30) := ⟨⟨by decide +kernel, by decide +kernel⟩, List.mem_of_getElem? (i := 938) (by decide +kernel), List.mem_of_getElem? (i := 1286) (by decide +kernel), List.mem_of_getElem? (i := 1287) (by decide +kernel)⟩
theorem lw_p54 : lw_okq (⟨"FeltColdModel", "walkBy", "(I)V"⟩, 30) := ⟨⟨by decide +kernel, by decide +kernel⟩, List.mem_of_getElem? (i := 938) (by decide +kernel), List.mem_of_getElem? (i := 1290) (by decide +kernel), List.mem_of_getElem? (i := 1291) (by decide +kernel)⟩
theorem lw_p55 : lw_okq (⟨"FeltColdModel", "partsBy", "(I)I"⟩, 30) := ⟨⟨by decide +kernel, by decide +kernel⟩, List.mem_of_getElem? (i := 938) (by decide +kernel), List.mem_of_getElem? (i := 1303) (by decide +kernel), List.mem_of_getElem? (i := 1304) (by decide +kernel)⟩
theorem lw_p56 : lw_okq (⟨"FeltColdModel", "alikeBy", "(II)I"⟩, 30) := ⟨⟨by decide +kernel, by decide +kernel⟩, List.mem_of_getElem? (i := 938) (by decide +kernel), List.mem_of_getElem? (i := 1307) (by decide +kernel), List.mem_of_getElem? (i := 1308) (by decide +kernel)⟩
theorem lw_p57 : lw_okq (⟨"FeltColdModel", "doingAt", "(II)I"⟩, 30) := ⟨⟨by decide +kernel, by decide +kernel⟩, List.mem_of_getElem? (i := 938) (by decide +kernel), List.mem_of_getElem? (i := 1311) (by decide +kernel), List.mem_of_getElem? (i := 1312) (by decide +kernel)⟩
theorem lw_p58 : lw_okq (⟨"FeltColdModel", "wrongPairs", "(II)I"⟩, 30) := ⟨⟨by decide +kernel, by decide +kernel⟩, List.mem_of_getElem? (i := 938) (by decide +kernel), List.mem_of_getElem? (i := 1327) (by decide +kernel), List.mem_of_getElem? (i := 1328) (by decide +kernel)⟩
theorem lw_p59 : lw_okq (⟨"FeltColdModel", "fitsBy", "(II)I"⟩, 30) := ⟨⟨by decide +kernel, by decide +kernel⟩, List.mem_of_getElem? (i := 938) (by decide +kernel), List.mem_of_getElem? (i := 1331) (by decide +kernel), List.mem_of_getElem? (i := 1332) (by decide +kernel)⟩
theorem lw_p60 : lw_okq (⟨"FeltColdModel", "isBy", "(IIII)Z"⟩, 30) := ⟨⟨by decide +kernel, by decide +kernel⟩, List.mem_of_getElem? (i := 938) (by decide +kernel), List.mem_of_getElem? (i := 1343) (by decide +kernel), List.mem_of_getElem? (i := 1344) (by decide +kernel)⟩
theorem lw_p61 : lw_okq (⟨"FeltColdModel", "isServed", "(IIIZ)Z"⟩, 30) := ⟨⟨by decide +kernel, by decide +kernel⟩, List.mem_of_getElem? (i := 938) (by decide +kernel), List.mem_of_getElem? (i := 1359) (by decide +kernel), List.mem_of_getElem? (i := 1360) (by decide +kernel)⟩
theorem lw_p62 : lw_okq (⟨"FeltColdModel", "seems", "(IIZ)I"⟩, 30) := ⟨⟨by decide +kernel, by decide +kernel⟩, List.mem_of_getElem? (i := 938) (by decide +kernel), List.mem_of_getElem? (i := 1367) (by decide +kernel), List.mem_of_getElem? (i := 1368) (by decide +kernel)⟩
theorem lw_p63 : lw_okq (⟨"FeltColdModel", "tellsPart", "(JJ)V"⟩, 30) := ⟨⟨by decide +kernel, by decide +kernel⟩, List.mem_of_getElem? (i := 938) (by decide +kernel), List.mem_of_getElem? (i := 1372) (by decide +kernel), List.mem_of_getElem? (i := 1373) (by decide +kernel)⟩
def lw_privs_4 : List (MethodName × Nat) := [(⟨"FeltColdModel", "pass", "([I)I"⟩, 30), (⟨"FeltColdModel", "coldOnes", "([I)I"⟩, 30), (⟨"FeltColdModel", "spanOf", "([III)I"⟩, 30), (⟨"FeltColdModel", "isSet", "(I)Z"⟩, 30), (⟨"FeltColdModel", "knownIn", "([I)I"⟩, 30), (⟨"FeltColdModel", "ways", "()I"⟩, 30), (⟨"FeltColdModel", "walkBy", "(I)V"⟩, 30), (⟨"FeltColdModel", "partsBy", "(I)I"⟩, 30), (⟨"FeltColdModel", "alikeBy", "(II)I"⟩, 30), (⟨"FeltColdModel", "doingAt", "(II)I"⟩, 30), (⟨"FeltColdModel", "wrongPairs", "(II)I"⟩, 30), (⟨"FeltColdModel", "fitsBy", "(II)I"⟩, 30), (⟨"FeltColdModel", "isBy", "(IIII)Z"⟩, 30), (⟨"FeltColdModel", "isServed", "(IIIZ)Z"⟩, 30), (⟨"FeltColdModel", "seems", "(IIZ)I"⟩, 30), (⟨"FeltColdModel", "tellsPart", "(JJ)V"⟩, 30)]
theorem lw_r4 : ∀ q ∈ lw_privs_4, lw_okq q := List.forall_mem_cons.mpr ⟨lw_p48, List.forall_mem_cons.mpr ⟨lw_p49, List.forall_mem_cons.mpr ⟨lw_p50, List.forall_mem_cons.mpr ⟨lw_p51, List.forall_mem_cons.mpr ⟨lw_p52, List.forall_mem_cons.mpr ⟨lw_p53, List.forall_mem_cons.mpr ⟨lw_p54, List.forall_mem_cons.mpr ⟨lw_p55, List.forall_mem_cons.mpr ⟨lw_p56, List.forall_mem_cons.mpr ⟨lw_p57, List.forall_mem_cons.mpr ⟨lw_p58, List.forall_mem_cons.mpr ⟨lw_p59, List.forall_mem_cons.mpr ⟨lw_p60, List.forall_mem_cons.mpr ⟨lw_p61, List.forall_mem_cons.mpr ⟨lw_p62, List.forall_mem_cons.mpr ⟨lw_p63, fun _ h => absurd h List.not_mem_nil⟩⟩⟩⟩⟩⟩⟩⟩⟩⟩⟩⟩⟩⟩⟩⟩
def lw_privs : List (MethodName × Nat) := lw_privs_1 ++ (lw_privs_2 ++ (lw_privs_3 ++ (lw_privs_4)))
def lw_tbl : List Cond := k2_sels lw_privs ++ tables_1
theorem lw_privs_ok : ∀ q ∈ lw_privs, lw_okq q := by
  show ∀ q ∈ lw_privs_1 ++ (lw_privs_2 ++ (lw_privs_3 ++ (lw_privs_4))), lw_okq q
  exact List.forall_mem_append.mpr ⟨lw_r1, List.forall_mem_append.mpr ⟨lw_r2, List.forall_mem_append.mpr ⟨lw_r3, lw_r4⟩⟩⟩
end
section
/-! names, printed by a program out of the claim (NAMES.whole, Statement) -/
def RX0 : String := "FeltCold$Chances"
def TX0 : u_T := fun k => match k with
  | 0 => ("FeltCold$Chances", "over", "J", false)
  | _ => ("FeltCold$Chances", "under", "J", false)
def tyX0 : Nat → FieldType := fun k => match k with
  | 0 => .long
  | _ => .long
abbrev wsX00 : List Cond := u_ws RX0 TX0 2
theorem nmX0 : ∀ a, a < 2 → ∀ b, b < 2 → a ≠ b → (TX0 a).2.1 ≠ (TX0 b).2.1 := by decide +kernel
theorem tyX0_ok : ∀ k, k < 2 → parseFieldDescriptor (TX0 k).2.2.1 = some (tyX0 k) := by decide +kernel
abbrev cX0_init : ByteArray := prog_2_method_1_code
def yX0_init : MethodName := ⟨RX0, "<init>", "()V"⟩
abbrev cX0_weigh : ByteArray := prog_2_method_2_code
def yX0_weigh : MethodName := ⟨RX0, "weigh", "(LFeltCold$Town;IIZ)V"⟩
abbrev cX0_seeming : ByteArray := prog_2_method_3_code
def yX0_seeming : MethodName := ⟨RX0, "seeming", "(LFeltCold$Town;III)I"⟩
abbrev cX0_ways : ByteArray := prog_2_method_4_code
def yX0_ways : MethodName := ⟨RX0, "ways", "(III)J"⟩
abbrev cX0_reduce : ByteArray := prog_2_method_5_code
def yX0_reduce : MethodName := ⟨RX0, "reduce", "(JJ)V"⟩
def RX1 : String := "FeltCold$Deeds"
def TX1 : u_T := fun k => match k with
  | 0 => ("FeltCold$Deeds", "done", "[I", true)
  | 1 => ("FeltCold$Deeds", "kept", "[[I", true)
  | 2 => ("FeltCold$Deeds", "keptNumber", "[I", true)
  | _ => ("FeltCold$Deeds", "number", "I", false)
def tyX1 : Nat → FieldType := fun k => match k with
  | 0 => .array .int
  | 1 => .array (.array .int)
  | 2 => .array .int
  | _ => .int
abbrev wsX10 : List Cond := u_ws RX1 TX1 4
theorem nmX1 : ∀ a, a < 4 → ∀ b, b < 4 → a ≠ b → (TX1 a).2.1 ≠ (TX1 b).2.1 := by decide +kernel
theorem tyX1_ok : ∀ k, k < 4 → parseFieldDescriptor (TX1 k).2.2.1 = some (tyX1 k) := by decide +kernel
abbrev cX1_init : ByteArray := prog_3_method_1_code
def yX1_init : MethodName := ⟨RX1, "<init>", "()V"⟩
abbrev cX1_forget : ByteArray := prog_3_method_2_code
def yX1_forget : MethodName := ⟨RX1, "forget", "()V"⟩
abbrev cX1_left : ByteArray := prog_3_method_3_code
def yX1_left : MethodName := ⟨RX1, "left", "()I"⟩
abbrev cX1_carryOut : ByteArray := prog_3_method_4_code
def yX1_carryOut : MethodName := ⟨RX1, "carryOut", "(LFeltCold$Town;III)V"⟩
abbrev cX1_goBack : ByteArray := prog_3_method_5_code
def yX1_goBack : MethodName := ⟨RX1, "goBack", "(LFeltCold$Town;I)V"⟩
abbrev cX1_store : ByteArray := prog_3_method_6_code
def yX1_store : MethodName := ⟨RX1, "store", "(I)V"⟩
abbrev cX1_resume : ByteArray := prog_3_method_7_code
def yX1_resume : MethodName := ⟨RX1, "resume", "(LFeltCold$Town;I)V"⟩
def RX2 : String := "FeltCold$Plan"
def TX2 : u_T := fun k => match k with
  | 0 => ("FeltCold$Plan", "degrees", "[I", true)
  | 1 => ("FeltCold$Plan", "needs", "[I", true)
  | 2 => ("FeltCold$Plan", "kindNumbers", "[I", true)
  | 3 => ("FeltCold$Plan", "marks", "[I", true)
  | 4 => ("FeltCold$Plan", "widths", "[I", true)
  | 5 => ("FeltCold$Plan", "places", "[I", true)
  | 6 => ("FeltCold$Plan", "rooms", "I", false)
  | _ => ("FeltCold$Plan", "members", "I", false)
def tyX2 : Nat → FieldType := fun k => match k with
  | 0 => .array .int
  | 1 => .array .int
  | 2 => .array .int
  | 3 => .array .int
  | 4 => .array .int
  | 5 => .array .int
  | 6 => .int
  | _ => .int
abbrev wsX20 : List Cond := u_ws RX2 TX2 8
theorem nmX2 : ∀ a, a < 8 → ∀ b, b < 8 → a ≠ b → (TX2 a).2.1 ≠ (TX2 b).2.1 := by decide +kernel
theorem tyX2_ok : ∀ k, k < 8 → parseFieldDescriptor (TX2 k).2.2.1 = some (tyX2 k) := by decide +kernel
abbrev cX2_init : ByteArray := prog_4_method_1_code
def yX2_init : MethodName := ⟨RX2, "<init>", "()V"⟩
abbrev cX2_clear : ByteArray := prog_4_method_2_code
def yX2_clear : MethodName := ⟨RX2, "clear", "()V"⟩
abbrev cX2_hasSpaceForRoom : ByteArray := prog_4_method_3_code
def yX2_hasSpaceForRoom : MethodName := ⟨RX2, "hasSpaceForRoom", "()Z"⟩
abbrev cX2_hasSpaceForMember : ByteArray := prog_4_method_4_code
def yX2_hasSpaceForMember : MethodName := ⟨RX2, "hasSpaceForMember", "()Z"⟩
abbrev cX2_addRoom : ByteArray := prog_4_method_5_code
def yX2_addRoom : MethodName := ⟨RX2, "addRoom", "(II)V"⟩
abbrev cX2_addMember : ByteArray := prog_4_method_6_code
def yX2_addMember : MethodName := ⟨RX2, "addMember", "(IIII)V"⟩
abbrev cX2_takeFrom : ByteArray := prog_4_method_7_code
def yX2_takeFrom : MethodName := ⟨RX2, "takeFrom", "(LFeltCold$Plan;)V"⟩
def RX3 : String := "FeltCold$Reader"
def TX3 : u_T := fun k => match k with
  | 0 => ("FeltCold$Reader", "plan", "LFeltCold$Plan;", true)
  | 1 => ("FeltCold$Reader", "place", "I", false)
  | _ => ("FeltCold$Reader", "number", "I", false)
def tyX3 : Nat → FieldType := fun k => match k with
  | 0 => .object "FeltCold$Plan"
  | 1 => .int
  | _ => .int
abbrev wsX30 : List Cond := u_ws RX3 TX3 3
theorem nmX3 : ∀ a, a < 3 → ∀ b, b < 3 → a ≠ b → (TX3 a).2.1 ≠ (TX3 b).2.1 := by decide +kernel
theorem tyX3_ok : ∀ k, k < 3 → parseFieldDescriptor (TX3 k).2.2.1 = some (tyX3 k) := by decide +kernel
abbrev cX3_init : ByteArray := prog_5_method_1_code
def yX3_init : MethodName := ⟨RX3, "<init>", "()V"⟩
abbrev cX3_read : ByteArray := prog_5_method_2_code
def yX3_read : MethodName := ⟨RX3, "read", "(LFeltCold$Texts;I)I"⟩
abbrev cX3_skipBlanks : ByteArray := prog_5_method_3_code
def yX3_skipBlanks : MethodName := ⟨RX3, "skipBlanks", "(LFeltCold$Texts;I)V"⟩
abbrev cX3_readItem : ByteArray := prog_5_method_4_code
def yX3_readItem : MethodName := ⟨RX3, "readItem", "(LFeltCold$Texts;I)I"⟩
abbrev cX3_readRoom : ByteArray := prog_5_method_5_code
def yX3_readRoom : MethodName := ⟨RX3, "readRoom", "(LFeltCold$Texts;I)I"⟩
abbrev cX3_readMember : ByteArray := prog_5_method_6_code
def yX3_readMember : MethodName := ⟨RX3, "readMember", "(LFeltCold$Texts;II)I"⟩
abbrev cX3_readNumber : ByteArray := prog_5_method_7_code
def yX3_readNumber : MethodName := ⟨RX3, "readNumber", "(LFeltCold$Texts;IIII)I"⟩
abbrev cX3_kindBySign : ByteArray := prog_5_method_8_code
def yX3_kindBySign : MethodName := ⟨RX3, "kindBySign", "(I)I"⟩
def RX4 : String := "FeltCold$Rows"
def TX4 : u_T := fun k => match k with
  | 0 => ("FeltCold$Rows", "places", "[[I", true)
  | _ => ("FeltCold$Rows", "sizes", "[I", true)
def tyX4 : Nat → FieldType := fun k => match k with
  | 0 => .array (.array .int)
  | _ => .array .int
abbrev wsX40 : List Cond := u_ws RX4 TX4 2
theorem nmX4 : ∀ a, a < 2 → ∀ b, b < 2 → a ≠ b → (TX4 a).2.1 ≠ (TX4 b).2.1 := by decide +kernel
theorem tyX4_ok : ∀ k, k < 2 → parseFieldDescriptor (TX4 k).2.2.1 = some (tyX4 k) := by decide +kernel
abbrev cX4_init : ByteArray := prog_6_method_1_code
def yX4_init : MethodName := ⟨RX4, "<init>", "()V"⟩
abbrev cX4_make : ByteArray := prog_6_method_2_code
def yX4_make : MethodName := ⟨RX4, "make", "(II)V"⟩
abbrev cX4_remove : ByteArray := prog_6_method_3_code
def yX4_remove : MethodName := ⟨RX4, "remove", "(I)V"⟩
abbrev cX4_isMissing : ByteArray := prog_6_method_4_code
def yX4_isMissing : MethodName := ⟨RX4, "isMissing", "(I)Z"⟩
abbrev cX4_sizeOf : ByteArray := prog_6_method_5_code
def yX4_sizeOf : MethodName := ⟨RX4, "sizeOf", "(I)I"⟩
abbrev cX4_has : ByteArray := prog_6_method_6_code
def yX4_has : MethodName := ⟨RX4, "has", "(II)Z"⟩
abbrev cX4_hasAll : ByteArray := prog_6_method_7_code
def yX4_hasAll : MethodName := ⟨RX4, "hasAll", "(III)Z"⟩
abbrev cX4_get : ByteArray := prog_6_method_8_code
def yX4_get : MethodName := ⟨RX4, "get", "(II)I"⟩
abbrev cX4_set : ByteArray := prog_6_method_9_code
def yX4_set : MethodName := ⟨RX4, "set", "(III)V"⟩
abbrev cX4_move : ByteArray := prog_6_method_10_code
def yX4_move : MethodName := ⟨RX4, "move", "(IIIII)V"⟩
abbrev cX4_sum : ByteArray := prog_6_method_11_code
def yX4_sum : MethodName := ⟨RX4, "sum", "(I)J"⟩
abbrev cX4_arePairs : ByteArray := prog_6_method_12_code
def yX4_arePairs : MethodName := ⟨RX4, "arePairs", "(II)Z"⟩
def RX5 : String := "FeltCold$Sender"
def TX5 : u_T := fun k => match k with
  | 0 => ("FeltCold$Sender", "like", "[I", true)
  | 1 => ("FeltCold$Sender", "spans", "[I", true)
  | 2 => ("FeltCold$Sender", "goes", "[I", true)
  | 3 => ("FeltCold$Sender", "bestGoes", "[I", true)
  | 4 => ("FeltCold$Sender", "bestKnown", "I", false)
  | _ => ("FeltCold$Sender", "bestSteps", "I", false)
def tyX5 : Nat → FieldType := fun k => match k with
  | 0 => .array .int
  | 1 => .array .int
  | 2 => .array .int
  | 3 => .array .int
  | 4 => .int
  | _ => .int
abbrev wsX50 : List Cond := u_ws RX5 TX5 6
theorem nmX5 : ∀ a, a < 6 → ∀ b, b < 6 → a ≠ b → (TX5 a).2.1 ≠ (TX5 b).2.1 := by decide +kernel
theorem tyX5_ok : ∀ k, k < 6 → parseFieldDescriptor (TX5 k).2.2.1 = some (tyX5 k) := by decide +kernel
abbrev cX5_init : ByteArray := prog_7_method_1_code
def yX5_init : MethodName := ⟨RX5, "<init>", "()V"⟩
abbrev cX5_seek : ByteArray := prog_7_method_2_code
def yX5_seek : MethodName := ⟨RX5, "seek", "(LFeltCold$Town;I)V"⟩
abbrev cX5_sendFrom : ByteArray := prog_7_method_3_code
def yX5_sendFrom : MethodName := ⟨RX5, "sendFrom", "(LFeltCold$Town;III)V"⟩
abbrev cX5_compare : ByteArray := prog_7_method_4_code
def yX5_compare : MethodName := ⟨RX5, "compare", "(LFeltCold$Town;I)V"⟩
def RX6 : String := "FeltCold$Teller"
def TX6 : u_T := fun k => match k with
  | 0 => ("FeltCold$Teller", "doersAt", "[I", true)
  | 1 => ("FeltCold$Teller", "sizes", "[I", true)
  | _ => ("FeltCold$Teller", "greatest", "I", false)
def tyX6 : Nat → FieldType := fun k => match k with
  | 0 => .array .int
  | 1 => .array .int
  | _ => .int
abbrev wsX60 : List Cond := u_ws RX6 TX6 3
theorem nmX6 : ∀ a, a < 3 → ∀ b, b < 3 → a ≠ b → (TX6 a).2.1 ≠ (TX6 b).2.1 := by decide +kernel
theorem tyX6_ok : ∀ k, k < 3 → parseFieldDescriptor (TX6 k).2.2.1 = some (tyX6 k) := by decide +kernel
abbrev cX6_init : ByteArray := prog_8_method_1_code
def yX6_init : MethodName := ⟨RX6, "<init>", "()V"⟩
abbrev cX6_look : ByteArray := prog_8_method_2_code
def yX6_look : MethodName := ⟨RX6, "look", "(LFeltCold$Town;)V"⟩
abbrev cX6_partsBy : ByteArray := prog_8_method_3_code
def yX6_partsBy : MethodName := ⟨RX6, "partsBy", "(I)I"⟩
def RX7 : String := "FeltCold$Texts"
def TX7 : u_T := fun k => match k with
  | 0 => ("FeltCold$Texts", "signs", "[[B", true)
  | _ => ("FeltCold$Texts", "sizes", "[I", true)
def tyX7 : Nat → FieldType := fun k => match k with
  | 0 => .array (.array .byte)
  | _ => .array .int
abbrev wsX70 : List Cond := u_ws RX7 TX7 2
theorem nmX7 : ∀ a, a < 2 → ∀ b, b < 2 → a ≠ b → (TX7 a).2.1 ≠ (TX7 b).2.1 := by decide +kernel
theorem tyX7_ok : ∀ k, k < 2 → parseFieldDescriptor (TX7 k).2.2.1 = some (tyX7 k) := by decide +kernel
abbrev cX7_init : ByteArray := prog_9_method_1_code
def yX7_init : MethodName := ⟨RX7, "<init>", "()V"⟩
abbrev cX7_make : ByteArray := prog_9_method_2_code
def yX7_make : MethodName := ⟨RX7, "make", "(II)V"⟩
abbrev cX7_isMissing : ByteArray := prog_9_method_3_code
def yX7_isMissing : MethodName := ⟨RX7, "isMissing", "(I)Z"⟩
abbrev cX7_sizeOf : ByteArray := prog_9_method_4_code
def yX7_sizeOf : MethodName := ⟨RX7, "sizeOf", "(I)I"⟩
abbrev cX7_has : ByteArray := prog_9_method_5_code
def yX7_has : MethodName := ⟨RX7, "has", "(II)Z"⟩
abbrev cX7_get : ByteArray := prog_9_method_6_code
def yX7_get : MethodName := ⟨RX7, "get", "(II)I"⟩
abbrev cX7_set : ByteArray := prog_9_method_7_code
def yX7_set : MethodName := ⟨RX7, "set", "(IIB)V"⟩
def RX8 : String := "FeltCold$Town"
def TX8 : u_T := fun k => match k with
  | 0 => ("FeltCold$Town", "plan", "LFeltCold$Plan;", true)
  | 1 => ("FeltCold$Town", "degrees", "[I", true)
  | 2 => ("FeltCold$Town", "placeOf", "[I", true)
  | 3 => ("FeltCold$Town", "coldOf", "[I", true)
  | 4 => ("FeltCold$Town", "shiftOf", "[I", true)
  | 5 => ("FeltCold$Town", "laterColds", "[I", true)
  | 6 => ("FeltCold$Town", "hours", "I", false)
  | 7 => ("FeltCold$Town", "soupLeft", "I", false)
  | _ => ("FeltCold$Town", "steps", "I", false)
def tyX8 : Nat → FieldType := fun k => match k with
  | 0 => .object "FeltCold$Plan"
  | 1 => .array .int
  | 2 => .array .int
  | 3 => .array .int
  | 4 => .array .int
  | 5 => .array .int
  | 6 => .int
  | 7 => .int
  | _ => .int
abbrev wsX80 : List Cond := u_ws RX8 TX8 9
theorem nmX8 : ∀ a, a < 9 → ∀ b, b < 9 → a ≠ b → (TX8 a).2.1 ≠ (TX8 b).2.1 := by decide +kernel
theorem tyX8_ok : ∀ k, k < 9 → parseFieldDescriptor (TX8 k).2.2.1 = some (tyX8 k) := by decide +kernel
abbrev cX8_init : ByteArray := prog_10_method_1_code
def yX8_init : MethodName := ⟨RX8, "<init>", "()V"⟩
abbrev cX8_settle : ByteArray := prog_10_method_2_code
def yX8_settle : MethodName := ⟨RX8, "settle", "(LFeltCold$Plan;)V"⟩
abbrev cX8_begin : ByteArray := prog_10_method_3_code
def yX8_begin : MethodName := ⟨RX8, "begin", "()V"⟩
abbrev cX8_members : ByteArray := prog_10_method_4_code
def yX8_members : MethodName := ⟨RX8, "members", "()I"⟩
abbrev cX8_rooms : ByteArray := prog_10_method_5_code
def yX8_rooms : MethodName := ⟨RX8, "rooms", "()I"⟩
abbrev cX8_isEmpty : ByteArray := prog_10_method_6_code
def yX8_isEmpty : MethodName := ⟨RX8, "isEmpty", "()Z"⟩
abbrev cX8_everybody : ByteArray := prog_10_method_7_code
def yX8_everybody : MethodName := ⟨RX8, "everybody", "()I"⟩
abbrev cX8_isSet : ByteArray := prog_10_method_8_code
def yX8_isSet : MethodName := ⟨RX8, "isSet", "(I)Z"⟩
abbrev cX8_needOf : ByteArray := prog_10_method_9_code
def yX8_needOf : MethodName := ⟨RX8, "needOf", "(I)I"⟩
abbrev cX8_kindOf : ByteArray := prog_10_method_10_code
def yX8_kindOf : MethodName := ⟨RX8, "kindOf", "(I)I"⟩
abbrev cX8_markOf : ByteArray := prog_10_method_11_code
def yX8_markOf : MethodName := ⟨RX8, "markOf", "(I)I"⟩
abbrev cX8_widthOf : ByteArray := prog_10_method_12_code
def yX8_widthOf : MethodName := ⟨RX8, "widthOf", "(I)I"⟩
abbrev cX8_there : ByteArray := prog_10_method_13_code
def yX8_there : MethodName := ⟨RX8, "there", "(I)I"⟩
abbrev cX8_sneezers : ByteArray := prog_10_method_14_code
def yX8_sneezers : MethodName := ⟨RX8, "sneezers", "()I"⟩
abbrev cX8_otherTwins : ByteArray := prog_10_method_15_code
def yX8_otherTwins : MethodName := ⟨RX8, "otherTwins", "(I)I"⟩
abbrev cX8_feltBy : ByteArray := prog_10_method_16_code
def yX8_feltBy : MethodName := ⟨RX8, "feltBy", "(I)I"⟩
abbrev cX8_feeling : ByteArray := prog_10_method_17_code
def yX8_feeling : MethodName := ⟨RX8, "feeling", "(IIII)I"⟩
abbrev cX8_upFrom : ByteArray := prog_10_method_18_code
def yX8_upFrom : MethodName := ⟨RX8, "upFrom", "(I)I"⟩
abbrev cX8_doingBy : ByteArray := prog_10_method_19_code
def yX8_doingBy : MethodName := ⟨RX8, "doingBy", "(III)I"⟩
abbrev cX8_wouldAs : ByteArray := prog_10_method_20_code
def yX8_wouldAs : MethodName := ⟨RX8, "wouldAs", "(III)I"⟩
abbrev cX8_would : ByteArray := prog_10_method_21_code
def yX8_would : MethodName := ⟨RX8, "would", "(I)I"⟩
abbrev cX8_does : ByteArray := prog_10_method_22_code
def yX8_does : MethodName := ⟨RX8, "does", "(I)I"⟩
abbrev cX8_doesNow : ByteArray := prog_10_method_23_code
def yX8_doesNow : MethodName := ⟨RX8, "doesNow", "(I)I"⟩
abbrev cX8_doers : ByteArray := prog_10_method_24_code
def yX8_doers : MethodName := ⟨RX8, "doers", "()I"⟩
abbrev cX8_likeAt : ByteArray := prog_10_method_25_code
def yX8_likeAt : MethodName := ⟨RX8, "likeAt", "(II)I"⟩
abbrev cX8_spanAt : ByteArray := prog_10_method_26_code
def yX8_spanAt : MethodName := ⟨RX8, "spanAt", "(II)I"⟩
abbrev cX8_spanIn : ByteArray := prog_10_method_27_code
def yX8_spanIn : MethodName := ⟨RX8, "spanIn", "(II)I"⟩
abbrev cX8_copyOfColds : ByteArray := prog_10_method_28_code
def yX8_copyOfColds : MethodName := ⟨RX8, "copyOfColds", "()[I"⟩
abbrev cX8_catchers : ByteArray := prog_10_method_29_code
def yX8_catchers : MethodName := ⟨RX8, "catchers", "([I)I"⟩
abbrev cX8_passColds : ByteArray := prog_10_method_30_code
def yX8_passColds : MethodName := ⟨RX8, "passColds", "([I)V"⟩
abbrev cX8_staysSo : ByteArray := prog_10_method_31_code
def yX8_staysSo : MethodName := ⟨RX8, "staysSo", "(IIII)Z"⟩
abbrev cX8_act : ByteArray := prog_10_method_32_code
def yX8_act : MethodName := ⟨RX8, "act", "(III)V"⟩
def RX9 : String := "FeltCold"
def TX9 : u_T := fun k => match k with
  | 0 => ("FeltCold", "rows", "LFeltCold$Rows;", true)
  | 1 => ("FeltCold", "texts", "LFeltCold$Texts;", true)
  | 2 => ("FeltCold", "reader", "LFeltCold$Reader;", true)
  | 3 => ("FeltCold", "town", "LFeltCold$Town;", true)
  | 4 => ("FeltCold", "deeds", "LFeltCold$Deeds;", true)
  | 5 => ("FeltCold", "sender", "LFeltCold$Sender;", true)
  | 6 => ("FeltCold", "teller", "LFeltCold$Teller;", true)
  | 7 => ("FeltCold", "chances", "LFeltCold$Chances;", true)
  | 8 => ("FeltCold", "found", "[I", true)
  | 9 => ("FeltCold", "latestFinding", "I", false)
  | _ => ("FeltCold", "told", "I", false)
def tyX9 : Nat → FieldType := fun k => match k with
  | 0 => .object "FeltCold$Rows"
  | 1 => .object "FeltCold$Texts"
  | 2 => .object "FeltCold$Reader"
  | 3 => .object "FeltCold$Town"
  | 4 => .object "FeltCold$Deeds"
  | 5 => .object "FeltCold$Sender"
  | 6 => .object "FeltCold$Teller"
  | 7 => .object "FeltCold$Chances"
  | 8 => .array .int
  | 9 => .int
  | _ => .int
abbrev wsX90 : List Cond := u_ws RX9 TX9 11
theorem nmX9 : ∀ a, a < 11 → ∀ b, b < 11 → a ≠ b → (TX9 a).2.1 ≠ (TX9 b).2.1 := by decide +kernel
theorem tyX9_ok : ∀ k, k < 11 → parseFieldDescriptor (TX9 k).2.2.1 = some (tyX9 k) := by decide +kernel
abbrev cX9_init : ByteArray := prog_1_method_1_code
def yX9_init : MethodName := ⟨RX9, "<init>", "()V"⟩
abbrev cX9_row : ByteArray := prog_1_method_2_code
def yX9_row : MethodName := ⟨RX9, "row", "(II)I"⟩
abbrev cX9_lay : ByteArray := prog_1_method_3_code
def yX9_lay : MethodName := ⟨RX9, "lay", "(III)I"⟩
abbrev cX9_at : ByteArray := prog_1_method_4_code
def yX9_at : MethodName := ⟨RX9, "at", "(II)I"⟩
abbrev cX9_tear : ByteArray := prog_1_method_5_code
def yX9_tear : MethodName := ⟨RX9, "tear", "(I)I"⟩
abbrev cX9_copy : ByteArray := prog_1_method_6_code
def yX9_copy : MethodName := ⟨RX9, "copy", "(IIIII)I"⟩
abbrev cX9_mean : ByteArray := prog_1_method_7_code
def yX9_mean : MethodName := ⟨RX9, "mean", "(I)I"⟩
abbrev cX9_text : ByteArray := prog_1_method_8_code
def yX9_text : MethodName := ⟨RX9, "text", "(II)I"⟩
abbrev cX9_put : ByteArray := prog_1_method_9_code
def yX9_put : MethodName := ⟨RX9, "put", "(III)I"⟩
abbrev cX9_fault : ByteArray := prog_1_method_10_code
def yX9_fault : MethodName := ⟨RX9, "fault", "(I)I"⟩
abbrev cX9_town : ByteArray := prog_1_method_11_code
def yX9_town : MethodName := ⟨RX9, "town", "(I)I"⟩
abbrev cX9_member : ByteArray := prog_1_method_12_code
def yX9_member : MethodName := ⟨RX9, "member", "(II)I"⟩
abbrev cX9_room : ByteArray := prog_1_method_13_code
def yX9_room : MethodName := ⟨RX9, "room", "(II)I"⟩
abbrev cX9_mark : ByteArray := prog_1_method_14_code
def yX9_mark : MethodName := ⟨RX9, "mark", "(II)I"⟩
abbrev cX9_walk : ByteArray := prog_1_method_15_code
def yX9_walk : MethodName := ⟨RX9, "walk", "(II)I"⟩
abbrev cX9_hour : ByteArray := prog_1_method_16_code
def yX9_hour : MethodName := ⟨RX9, "hour", "()I"⟩
abbrev cX9_soup : ByteArray := prog_1_method_17_code
def yX9_soup : MethodName := ⟨RX9, "soup", "()I"⟩
abbrev cX9_cold : ByteArray := prog_1_method_18_code
def yX9_cold : MethodName := ⟨RX9, "cold", "(I)I"⟩
abbrev cX9_love : ByteArray := prog_1_method_19_code
def yX9_love : MethodName := ⟨RX9, "love", "(II)I"⟩
abbrev cX9_fire : ByteArray := prog_1_method_20_code
def yX9_fire : MethodName := ⟨RX9, "fire", "(II)I"⟩
abbrev cX9_undo : ByteArray := prog_1_method_21_code
def yX9_undo : MethodName := ⟨RX9, "undo", "(I)I"⟩
abbrev cX9_keep : ByteArray := prog_1_method_22_code
def yX9_keep : MethodName := ⟨RX9, "keep", "(I)I"⟩
abbrev cX9_on : ByteArray := prog_1_method_23_code
def yX9_on : MethodName := ⟨RX9, "on", "(I)I"⟩
abbrev cX9_span : ByteArray := prog_1_method_24_code
def yX9_span : MethodName := ⟨RX9, "span", "(I)I"⟩
abbrev cX9_spanBy : ByteArray := prog_1_method_25_code
def yX9_spanBy : MethodName := ⟨RX9, "spanBy", "(II)I"⟩
abbrev cX9_known : ByteArray := prog_1_method_26_code
def yX9_known : MethodName := ⟨RX9, "known", "()I"⟩
abbrev cX9_box : ByteArray := prog_1_method_27_code
def yX9_box : MethodName := ⟨RX9, "box", "(II)I"⟩
abbrev cX9_send : ByteArray := prog_1_method_28_code
def yX9_send : MethodName := ⟨RX9, "send", "(I)I"⟩
abbrev cX9_most : ByteArray := prog_1_method_29_code
def yX9_most : MethodName := ⟨RX9, "most", "(I)I"⟩
abbrev cX9_parts : ByteArray := prog_1_method_30_code
def yX9_parts : MethodName := ⟨RX9, "parts", "(I)I"⟩
abbrev cX9_fewest : ByteArray := prog_1_method_31_code
def yX9_fewest : MethodName := ⟨RX9, "fewest", "()I"⟩
abbrev cX9_alike : ByteArray := prog_1_method_32_code
def yX9_alike : MethodName := ⟨RX9, "alike", "(I)I"⟩
abbrev cX9_fits : ByteArray := prog_1_method_33_code
def yX9_fits : MethodName := ⟨RX9, "fits", "(I)I"⟩
abbrev cX9_tickled : ByteArray := prog_1_method_34_code
def yX9_tickled : MethodName := ⟨RX9, "tickled", "(I)I"⟩
abbrev cX9_shifts : ByteArray := prog_1_method_35_code
def yX9_shifts : MethodName := ⟨RX9, "shifts", "(II)I"⟩
abbrev cX9_kinds : ByteArray := prog_1_method_36_code
def yX9_kinds : MethodName := ⟨RX9, "kinds", "(II)I"⟩
abbrev cX9_spreads : ByteArray := prog_1_method_37_code
def yX9_spreads : MethodName := ⟨RX9, "spreads", "(I)I"⟩
abbrev cX9_soups : ByteArray := prog_1_method_38_code
def yX9_soups : MethodName := ⟨RX9, "soups", "(III)I"⟩
abbrev cX9_odds : ByteArray := prog_1_method_39_code
def yX9_odds : MethodName := ⟨RX9, "odds", "(II)I"⟩
abbrev cX9_mid : ByteArray := prog_1_method_40_code
def yX9_mid : MethodName := ⟨RX9, "mid", "(II)I"⟩
abbrev cX9_lots : ByteArray := prog_1_method_41_code
def yX9_lots : MethodName := ⟨RX9, "lots", "(II)I"⟩
abbrev cX9_asked : ByteArray := prog_1_method_42_code
def yX9_asked : MethodName := ⟨RX9, "asked", "()I"⟩
abbrev cX9_upper : ByteArray := prog_1_method_43_code
def yX9_upper : MethodName := ⟨RX9, "upper", "()J"⟩
abbrev cX9_lower : ByteArray := prog_1_method_44_code
def yX9_lower : MethodName := ⟨RX9, "lower", "()J"⟩
abbrev cX9_count : ByteArray := prog_1_method_45_code
def yX9_count : MethodName := ⟨RX9, "count", "(I)I"⟩
abbrev cX9_finding : ByteArray := prog_1_method_46_code
def yX9_finding : MethodName := ⟨RX9, "finding", "()I"⟩
abbrev cX9_findings : ByteArray := prog_1_method_47_code
def yX9_findings : MethodName := ⟨RX9, "findings", "(I)I"⟩
abbrev cX9_digest : ByteArray := prog_1_method_48_code
def yX9_digest : MethodName := ⟨RX9, "digest", "()J"⟩
abbrev cX9_digestTown : ByteArray := prog_1_method_49_code
def yX9_digestTown : MethodName := ⟨RX9, "digestTown", "(J)J"⟩
abbrev cX9_find : ByteArray := prog_1_method_50_code
def yX9_find : MethodName := ⟨RX9, "find", "(I)I"⟩
abbrev cX9_isRow : ByteArray := prog_1_method_51_code
def yX9_isRow : MethodName := ⟨RX9, "isRow", "(I)Z"⟩
abbrev cX9_isText : ByteArray := prog_1_method_52_code
def yX9_isText : MethodName := ⟨RX9, "isText", "(I)Z"⟩
abbrev cX9_isKept : ByteArray := prog_1_method_53_code
def yX9_isKept : MethodName := ⟨RX9, "isKept", "(I)Z"⟩
abbrev cX9_isDegree : ByteArray := prog_1_method_54_code
def yX9_isDegree : MethodName := ⟨RX9, "isDegree", "(I)Z"⟩
abbrev cX9_isRoom : ByteArray := prog_1_method_55_code
def yX9_isRoom : MethodName := ⟨RX9, "isRoom", "(I)Z"⟩
abbrev cX9_isMember : ByteArray := prog_1_method_56_code
def yX9_isMember : MethodName := ⟨RX9, "isMember", "(I)Z"⟩
abbrev cX9_ofMember : ByteArray := prog_1_method_57_code
def yX9_ofMember : MethodName := ⟨RX9, "ofMember", "(II)I"⟩
abbrev cX9_refusedRow : ByteArray := prog_1_method_58_code
def yX9_refusedRow : MethodName := ⟨RX9, "refusedRow", "(I)I"⟩
abbrev cX9_refusedPlace : ByteArray := prog_1_method_59_code
def yX9_refusedPlace : MethodName := ⟨RX9, "refusedPlace", "(II)I"⟩
abbrev cX9_refusedText : ByteArray := prog_1_method_60_code
def yX9_refusedText : MethodName := ⟨RX9, "refusedText", "(I)I"⟩
abbrev cX9_refusedDeed : ByteArray := prog_1_method_61_code
def yX9_refusedDeed : MethodName := ⟨RX9, "refusedDeed", "()I"⟩
abbrev cX9_refusedRecord : ByteArray := prog_1_method_62_code
def yX9_refusedRecord : MethodName := ⟨RX9, "refusedRecord", "(I)I"⟩
abbrev cX9_refusedDays : ByteArray := prog_1_method_63_code
def yX9_refusedDays : MethodName := ⟨RX9, "refusedDays", "(II)I"⟩
abbrev cX9_refusedPairs : ByteArray := prog_1_method_64_code
def yX9_refusedPairs : MethodName := ⟨RX9, "refusedPairs", "(II)I"⟩
abbrev cX9_fitting : ByteArray := prog_1_method_65_code
def yX9_fitting : MethodName := ⟨RX9, "fitting", "(II)I"⟩
abbrev cX9_agreesWithDays : ByteArray := prog_1_method_66_code
def yX9_agreesWithDays : MethodName := ⟨RX9, "agreesWithDays", "(II)Z"⟩
abbrev cX9_weighed : ByteArray := prog_1_method_67_code
def yX9_weighed : MethodName := ⟨RX9, "weighed", "(IIZ)I"⟩
abbrev cX9_carryOutLot : ByteArray := prog_1_method_68_code
def yX9_carryOutLot : MethodName := ⟨RX9, "carryOutLot", "(J)V"⟩
abbrev cX9_seen : ByteArray := prog_1_method_69_code
def yX9_seen : MethodName := ⟨RX9, "seen", "(IZ)I"⟩
abbrev cX9_sick : ByteArray := prog_1_method_70_code
def yX9_sick : MethodName := ⟨RX9, "sick", "([I)I"⟩
abbrev cX9_present : ByteArray := prog_1_method_71_code
def yX9_present : MethodName := ⟨RX9, "present", "([I)I"⟩
abbrev cX9_isOfKind : ByteArray := prog_1_method_72_code
def yX9_isOfKind : MethodName := ⟨RX9, "isOfKind", "(II)Z"⟩
def RX10 : String := "FeltColdModel"
def TX10 : u_T := fun k => match k with
  | 0 => ("FeltColdModel", "rowSize", "[I", true)
  | 1 => ("FeltColdModel", "rowItem", "[I", true)
  | 2 => ("FeltColdModel", "textSize", "[I", true)
  | 3 => ("FeltColdModel", "textItem", "[I", true)
  | 4 => ("FeltColdModel", "findingNow", "I", false)
  | 5 => ("FeltColdModel", "findingMany", "[I", true)
  | 6 => ("FeltColdModel", "askedNow", "I", false)
  | 7 => ("FeltColdModel", "upperNow", "J", false)
  | 8 => ("FeltColdModel", "lowerNow", "J", false)
  | 9 => ("FeltColdModel", "position", "I", false)
  | 10 => ("FeltColdModel", "from", "I", false)
  | 11 => ("FeltColdModel", "all", "I", false)
  | 12 => ("FeltColdModel", "readRooms", "I", false)
  | 13 => ("FeltColdModel", "readMembers", "I", false)
  | 14 => ("FeltColdModel", "readRoom", "[I", true)
  | 15 => ("FeltColdModel", "readMember", "[I", true)
  | 16 => ("FeltColdModel", "rooms", "I", false)
  | 17 => ("FeltColdModel", "members", "I", false)
  | 18 => ("FeltColdModel", "need", "[I", true)
  | 19 => ("FeltColdModel", "sort", "[I", true)
  | 20 => ("FeltColdModel", "markOf", "[I", true)
  | 21 => ("FeltColdModel", "width", "[I", true)
  | 22 => ("FeltColdModel", "now", "[I", true)
  | 23 => ("FeltColdModel", "tried", "[I", true)
  | 24 => ("FeltColdModel", "deed", "[I", true)
  | 25 => ("FeltColdModel", "deeds", "I", false)
  | 26 => ("FeltColdModel", "keptNow", "[I", true)
  | 27 => ("FeltColdModel", "keptDeed", "[I", true)
  | 28 => ("FeltColdModel", "keptMany", "[I", true)
  | _ => ("FeltColdModel", "bestRooms", "[I", true)
def tyX10 : Nat → FieldType := fun k => match k with
  | 0 => .array .int
  | 1 => .array .int
  | 2 => .array .int
  | 3 => .array .int
  | 4 => .int
  | 5 => .array .int
  | 6 => .int
  | 7 => .long
  | 8 => .long
  | 9 => .int
  | 10 => .int
  | 11 => .int
  | 12 => .int
  | 13 => .int
  | 14 => .array .int
  | 15 => .array .int
  | 16 => .int
  | 17 => .int
  | 18 => .array .int
  | 19 => .array .int
  | 20 => .array .int
  | 21 => .array .int
  | 22 => .array .int
  | 23 => .array .int
  | 24 => .array .int
  | 25 => .int
  | 26 => .array .int
  | 27 => .array .int
  | 28 => .array .int
  | _ => .array .int
abbrev wsX100 : List Cond := u_ws RX10 TX10 30
theorem nmX10 : ∀ a, a < 30 → ∀ b, b < 30 → a ≠ b → (TX10 a).2.1 ≠ (TX10 b).2.1 := by decide +kernel
theorem tyX10_ok : ∀ k, k < 30 → parseFieldDescriptor (TX10 k).2.2.1 = some (tyX10 k) := by decide +kernel
abbrev cX10_init : ByteArray := prog_12_method_1_code
def yX10_init : MethodName := ⟨RX10, "<init>", "()V"⟩
abbrev cX10_in : ByteArray := prog_12_method_2_code
def yX10_in : MethodName := ⟨RX10, "in", "(III)Z"⟩
abbrev cX10_has : ByteArray := prog_12_method_3_code
def yX10_has : MethodName := ⟨RX10, "has", "(II)Z"⟩
abbrev cX10_bits : ByteArray := prog_12_method_4_code
def yX10_bits : MethodName := ⟨RX10, "bits", "(I)I"⟩
abbrev cX10_finds : ByteArray := prog_12_method_5_code
def yX10_finds : MethodName := ⟨RX10, "finds", "(I)I"⟩
abbrev cX10_tells : ByteArray := prog_12_method_6_code
def yX10_tells : MethodName := ⟨RX10, "tells", "(I)I"⟩
abbrev cX10_bring : ByteArray := prog_12_method_7_code
def yX10_bring : MethodName := ⟨RX10, "bring", "([II[III)V"⟩
abbrev cX10_isOne : ByteArray := prog_12_method_8_code
def yX10_isOne : MethodName := ⟨RX10, "isOne", "(I)Z"⟩
abbrev cX10_isRoom : ByteArray := prog_12_method_9_code
def yX10_isRoom : MethodName := ⟨RX10, "isRoom", "(I)Z"⟩
abbrev cX10_isSet : ByteArray := prog_12_method_10_code
def yX10_isSet : MethodName := ⟨RX10, "isSet", "(I)Z"⟩
abbrev cX10_row : ByteArray := prog_12_method_11_code
def yX10_row : MethodName := ⟨RX10, "row", "(II)I"⟩
abbrev cX10_wrongAt : ByteArray := prog_12_method_12_code
def yX10_wrongAt : MethodName := ⟨RX10, "wrongAt", "(II)I"⟩
abbrev cX10_lay : ByteArray := prog_12_method_13_code
def yX10_lay : MethodName := ⟨RX10, "lay", "(III)I"⟩
abbrev cX10_at : ByteArray := prog_12_method_14_code
def yX10_at : MethodName := ⟨RX10, "at", "(II)I"⟩
abbrev cX10_tear : ByteArray := prog_12_method_15_code
def yX10_tear : MethodName := ⟨RX10, "tear", "(I)I"⟩
abbrev cX10_isPart : ByteArray := prog_12_method_16_code
def yX10_isPart : MethodName := ⟨RX10, "isPart", "(III)Z"⟩
abbrev cX10_copy : ByteArray := prog_12_method_17_code
def yX10_copy : MethodName := ⟨RX10, "copy", "(IIIII)I"⟩
abbrev cX10_mean : ByteArray := prog_12_method_18_code
def yX10_mean : MethodName := ⟨RX10, "mean", "(I)I"⟩
abbrev cX10_text : ByteArray := prog_12_method_19_code
def yX10_text : MethodName := ⟨RX10, "text", "(II)I"⟩
abbrev cX10_put : ByteArray := prog_12_method_20_code
def yX10_put : MethodName := ⟨RX10, "put", "(III)I"⟩
abbrev cX10_letterAt : ByteArray := prog_12_method_21_code
def yX10_letterAt : MethodName := ⟨RX10, "letterAt", "(I)I"⟩
abbrev cX10_isFigure : ByteArray := prog_12_method_22_code
def yX10_isFigure : MethodName := ⟨RX10, "isFigure", "(I)Z"⟩
abbrev cX10_two : ByteArray := prog_12_method_23_code
def yX10_two : MethodName := ⟨RX10, "two", "(II)I"⟩
abbrev cX10_one : ByteArray := prog_12_method_24_code
def yX10_one : MethodName := ⟨RX10, "one", "(I)I"⟩
abbrev cX10_isRoomItem : ByteArray := prog_12_method_25_code
def yX10_isRoomItem : MethodName := ⟨RX10, "isRoomItem", "()Z"⟩
abbrev cX10_sortBy : ByteArray := prog_12_method_26_code
def yX10_sortBy : MethodName := ⟨RX10, "sortBy", "(I)I"⟩
abbrev cX10_isMemberItem : ByteArray := prog_12_method_27_code
def yX10_isMemberItem : MethodName := ⟨RX10, "isMemberItem", "()Z"⟩
abbrev cX10_skip : ByteArray := prog_12_method_28_code
def yX10_skip : MethodName := ⟨RX10, "skip", "()V"⟩
abbrev cX10_read : ByteArray := prog_12_method_29_code
def yX10_read : MethodName := ⟨RX10, "read", "(I)I"⟩
abbrev cX10_fault : ByteArray := prog_12_method_30_code
def yX10_fault : MethodName := ⟨RX10, "fault", "(I)I"⟩
abbrev cX10_town : ByteArray := prog_12_method_31_code
def yX10_town : MethodName := ⟨RX10, "town", "(I)I"⟩
abbrev cX10_feelsBy : ByteArray := prog_12_method_32_code
def yX10_feelsBy : MethodName := ⟨RX10, "feelsBy", "([III)I"⟩
abbrev cX10_feels : ByteArray := prog_12_method_33_code
def yX10_feels : MethodName := ⟨RX10, "feels", "([II)I"⟩
abbrev cX10_doesBy : ByteArray := prog_12_method_34_code
def yX10_doesBy : MethodName := ⟨RX10, "doesBy", "(IIII)Z"⟩
abbrev cX10_wouldAt : ByteArray := prog_12_method_35_code
def yX10_wouldAt : MethodName := ⟨RX10, "wouldAt", "([III)Z"⟩
abbrev cX10_doesAt : ByteArray := prog_12_method_36_code
def yX10_doesAt : MethodName := ⟨RX10, "doesAt", "([III)Z"⟩
abbrev cX10_does : ByteArray := prog_12_method_37_code
def yX10_does : MethodName := ⟨RX10, "does", "([II)Z"⟩
abbrev cX10_thereIn : ByteArray := prog_12_method_38_code
def yX10_thereIn : MethodName := ⟨RX10, "thereIn", "([II)I"⟩
abbrev cX10_doing : ByteArray := prog_12_method_39_code
def yX10_doing : MethodName := ⟨RX10, "doing", "([I)I"⟩
abbrev cX10_memberTells : ByteArray := prog_12_method_40_code
def yX10_memberTells : MethodName := ⟨RX10, "memberTells", "(II)I"⟩
abbrev cX10_member : ByteArray := prog_12_method_41_code
def yX10_member : MethodName := ⟨RX10, "member", "(II)I"⟩
abbrev cX10_room : ByteArray := prog_12_method_42_code
def yX10_room : MethodName := ⟨RX10, "room", "(II)I"⟩
abbrev cX10_is : ByteArray := prog_12_method_43_code
def yX10_is : MethodName := ⟨RX10, "is", "(II)Z"⟩
abbrev cX10_coldIn : ByteArray := prog_12_method_44_code
def yX10_coldIn : MethodName := ⟨RX10, "coldIn", "([II)I"⟩
abbrev cX10_mark : ByteArray := prog_12_method_45_code
def yX10_mark : MethodName := ⟨RX10, "mark", "(II)I"⟩
abbrev cX10_note : ByteArray := prog_12_method_46_code
def yX10_note : MethodName := ⟨RX10, "note", "()V"⟩
abbrev cX10_step : ByteArray := prog_12_method_47_code
def yX10_step : MethodName := ⟨RX10, "step", "([III)V"⟩
abbrev cX10_walk : ByteArray := prog_12_method_48_code
def yX10_walk : MethodName := ⟨RX10, "walk", "(II)I"⟩
abbrev cX10_pass : ByteArray := prog_12_method_49_code
def yX10_pass : MethodName := ⟨RX10, "pass", "([I)I"⟩
abbrev cX10_noDeed : ByteArray := prog_12_method_50_code
def yX10_noDeed : MethodName := ⟨RX10, "noDeed", "()I"⟩
abbrev cX10_hour : ByteArray := prog_12_method_51_code
def yX10_hour : MethodName := ⟨RX10, "hour", "()I"⟩
abbrev cX10_soup : ByteArray := prog_12_method_52_code
def yX10_soup : MethodName := ⟨RX10, "soup", "()I"⟩
abbrev cX10_coldOnes : ByteArray := prog_12_method_53_code
def yX10_coldOnes : MethodName := ⟨RX10, "coldOnes", "([I)I"⟩
abbrev cX10_cold : ByteArray := prog_12_method_54_code
def yX10_cold : MethodName := ⟨RX10, "cold", "(I)I"⟩
abbrev cX10_love : ByteArray := prog_12_method_55_code
def yX10_love : MethodName := ⟨RX10, "love", "(II)I"⟩
abbrev cX10_fire : ByteArray := prog_12_method_56_code
def yX10_fire : MethodName := ⟨RX10, "fire", "(II)I"⟩
abbrev cX10_undo : ByteArray := prog_12_method_57_code
def yX10_undo : MethodName := ⟨RX10, "undo", "(I)I"⟩
abbrev cX10_keep : ByteArray := prog_12_method_58_code
def yX10_keep : MethodName := ⟨RX10, "keep", "(I)I"⟩
abbrev cX10_on : ByteArray := prog_12_method_59_code
def yX10_on : MethodName := ⟨RX10, "on", "(I)I"⟩
abbrev cX10_spanOf : ByteArray := prog_12_method_60_code
def yX10_spanOf : MethodName := ⟨RX10, "spanOf", "([III)I"⟩
abbrev cX10_span : ByteArray := prog_12_method_61_code
def yX10_span : MethodName := ⟨RX10, "span", "(I)I"⟩
abbrev cX10_spanBy : ByteArray := prog_12_method_62_code
def yX10_spanBy : MethodName := ⟨RX10, "spanBy", "(II)I"⟩
abbrev cX10_knownIn : ByteArray := prog_12_method_63_code
def yX10_knownIn : MethodName := ⟨RX10, "knownIn", "([I)I"⟩
abbrev cX10_known : ByteArray := prog_12_method_64_code
def yX10_known : MethodName := ⟨RX10, "known", "()I"⟩
abbrev cX10_box : ByteArray := prog_12_method_65_code
def yX10_box : MethodName := ⟨RX10, "box", "(II)I"⟩
abbrev cX10_walkBy : ByteArray := prog_12_method_66_code
def yX10_walkBy : MethodName := ⟨RX10, "walkBy", "(I)V"⟩
abbrev cX10_ways : ByteArray := prog_12_method_67_code
def yX10_ways : MethodName := ⟨RX10, "ways", "()I"⟩
abbrev cX10_send : ByteArray := prog_12_method_68_code
def yX10_send : MethodName := ⟨RX10, "send", "(I)I"⟩
abbrev cX10_most : ByteArray := prog_12_method_69_code
def yX10_most : MethodName := ⟨RX10, "most", "(I)I"⟩
abbrev cX10_doingAt : ByteArray := prog_12_method_70_code
def yX10_doingAt : MethodName := ⟨RX10, "doingAt", "(II)I"⟩
abbrev cX10_alikeBy : ByteArray := prog_12_method_71_code
def yX10_alikeBy : MethodName := ⟨RX10, "alikeBy", "(II)I"⟩
abbrev cX10_partsBy : ByteArray := prog_12_method_72_code
def yX10_partsBy : MethodName := ⟨RX10, "partsBy", "(I)I"⟩
abbrev cX10_parts : ByteArray := prog_12_method_73_code
def yX10_parts : MethodName := ⟨RX10, "parts", "(I)I"⟩
abbrev cX10_fewest : ByteArray := prog_12_method_74_code
def yX10_fewest : MethodName := ⟨RX10, "fewest", "()I"⟩
abbrev cX10_alike : ByteArray := prog_12_method_75_code
def yX10_alike : MethodName := ⟨RX10, "alike", "(I)I"⟩
abbrev cX10_wrongPairs : ByteArray := prog_12_method_76_code
def yX10_wrongPairs : MethodName := ⟨RX10, "wrongPairs", "(II)I"⟩
abbrev cX10_fitsBy : ByteArray := prog_12_method_77_code
def yX10_fitsBy : MethodName := ⟨RX10, "fitsBy", "(II)I"⟩
abbrev cX10_fits : ByteArray := prog_12_method_78_code
def yX10_fits : MethodName := ⟨RX10, "fits", "(I)I"⟩
abbrev cX10_tickled : ByteArray := prog_12_method_79_code
def yX10_tickled : MethodName := ⟨RX10, "tickled", "(I)I"⟩
abbrev cX10_isBy : ByteArray := prog_12_method_80_code
def yX10_isBy : MethodName := ⟨RX10, "isBy", "(IIII)Z"⟩
abbrev cX10_shifts : ByteArray := prog_12_method_81_code
def yX10_shifts : MethodName := ⟨RX10, "shifts", "(II)I"⟩
abbrev cX10_kinds : ByteArray := prog_12_method_82_code
def yX10_kinds : MethodName := ⟨RX10, "kinds", "(II)I"⟩
abbrev cX10_spreads : ByteArray := prog_12_method_83_code
def yX10_spreads : MethodName := ⟨RX10, "spreads", "(I)I"⟩
abbrev cX10_isServed : ByteArray := prog_12_method_84_code
def yX10_isServed : MethodName := ⟨RX10, "isServed", "(IIIZ)Z"⟩
abbrev cX10_soups : ByteArray := prog_12_method_85_code
def yX10_soups : MethodName := ⟨RX10, "soups", "(III)I"⟩
abbrev cX10_tellsPart : ByteArray := prog_12_method_86_code
def yX10_tellsPart : MethodName := ⟨RX10, "tellsPart", "(JJ)V"⟩
abbrev cX10_seems : ByteArray := prog_12_method_87_code
def yX10_seems : MethodName := ⟨RX10, "seems", "(IIZ)I"⟩
abbrev cX10_odds : ByteArray := prog_12_method_88_code
def yX10_odds : MethodName := ⟨RX10, "odds", "(II)I"⟩
abbrev cX10_mid : ByteArray := prog_12_method_89_code
def yX10_mid : MethodName := ⟨RX10, "mid", "(II)I"⟩
abbrev cX10_lots : ByteArray := prog_12_method_90_code
def yX10_lots : MethodName := ⟨RX10, "lots", "(II)I"⟩
abbrev cX10_asked : ByteArray := prog_12_method_91_code
def yX10_asked : MethodName := ⟨RX10, "asked", "()I"⟩
abbrev cX10_upper : ByteArray := prog_12_method_92_code
def yX10_upper : MethodName := ⟨RX10, "upper", "()J"⟩
abbrev cX10_lower : ByteArray := prog_12_method_93_code
def yX10_lower : MethodName := ⟨RX10, "lower", "()J"⟩
abbrev cX10_thereOf : ByteArray := prog_12_method_94_code
def yX10_thereOf : MethodName := ⟨RX10, "thereOf", "([I)I"⟩
abbrev cX10_count : ByteArray := prog_12_method_95_code
def yX10_count : MethodName := ⟨RX10, "count", "(I)I"⟩
abbrev cX10_finding : ByteArray := prog_12_method_96_code
def yX10_finding : MethodName := ⟨RX10, "finding", "()I"⟩
abbrev cX10_findings : ByteArray := prog_12_method_97_code
def yX10_findings : MethodName := ⟨RX10, "findings", "(I)I"⟩
abbrev cX10_digest : ByteArray := prog_12_method_98_code
def yX10_digest : MethodName := ⟨RX10, "digest", "()J"⟩
def RJ6 : String := "java/lang/Integer"
def TJ6 : u_T := fun k => match k with
  | _ => ("", "", "", false)
def tyJ6 : Nat → FieldType := fun k => match k with
  | _ => .int
abbrev wsJ60 : List Cond := u_ws RJ6 TJ6 0
theorem nmJ6 : ∀ a, a < 0 → ∀ b, b < 0 → a ≠ b → (TJ6 a).2.1 ≠ (TJ6 b).2.1 := by decide +kernel
theorem tyJ6_ok : ∀ k, k < 0 → parseFieldDescriptor (TJ6 k).2.2.1 = some (tyJ6 k) := by decide +kernel
abbrev cJ6_bitCount_0f7a4 : ByteArray := prog_13_method_49_code
def yJ6_bitCount_0f7a4 : MethodName := ⟨RJ6, "bitCount", "(I)I"⟩
def RJ9 : String := "java/lang/Math"
def TJ9 : u_T := fun k => match k with
  | _ => ("", "", "", false)
def tyJ9 : Nat → FieldType := fun k => match k with
  | _ => .int
abbrev wsJ90 : List Cond := u_ws RJ9 TJ9 0
theorem nmJ9 : ∀ a, a < 0 → ∀ b, b < 0 → a ≠ b → (TJ9 a).2.1 ≠ (TJ9 b).2.1 := by decide +kernel
theorem tyJ9_ok : ∀ k, k < 0 → parseFieldDescriptor (TJ9 k).2.2.1 = some (tyJ9 k) := by decide +kernel
abbrev cJ9_abs_0f7a4 : ByteArray := prog_14_method_59_code
def yJ9_abs_0f7a4 : MethodName := ⟨RJ9, "abs", "(I)I"⟩
abbrev cJ9_max_7cf53 : ByteArray := prog_14_method_65_code
def yJ9_max_7cf53 : MethodName := ⟨RJ9, "max", "(II)I"⟩
abbrev cJ9_min_7cf53 : ByteArray := prog_14_method_69_code
def yJ9_min_7cf53 : MethodName := ⟨RJ9, "min", "(II)I"⟩
def RJ10 : String := "java/lang/System"
def TJ10 : u_T := fun k => match k with
  | _ => ("", "", "", false)
def tyJ10 : Nat → FieldType := fun k => match k with
  | _ => .int
abbrev wsJ100 : List Cond := u_ws RJ10 TJ10 0
theorem nmJ10 : ∀ a, a < 0 → ∀ b, b < 0 → a ≠ b → (TJ10 a).2.1 ≠ (TJ10 b).2.1 := by decide +kernel
theorem tyJ10_ok : ∀ k, k < 0 → parseFieldDescriptor (TJ10 k).2.2.1 = some (tyJ10 k) := by decide +kernel
def RJ7 : String := "java/util/Arrays"
def TJ7 : u_T := fun k => match k with
  | _ => ("", "", "", false)
def tyJ7 : Nat → FieldType := fun k => match k with
  | _ => .int
abbrev wsJ70 : List Cond := u_ws RJ7 TJ7 0
theorem nmJ7 : ∀ a, a < 0 → ∀ b, b < 0 → a ≠ b → (TJ7 a).2.1 ≠ (TJ7 b).2.1 := by decide +kernel
theorem tyJ7_ok : ∀ k, k < 0 → parseFieldDescriptor (TJ7 k).2.2.1 = some (tyJ7 k) := by decide +kernel
abbrev cJ7_fill_53178 : ByteArray := prog_16_method_103_code
def yJ7_fill_53178 : MethodName := ⟨RJ7, "fill", "([II)V"⟩
abbrev cJ7_fill_031fb : ByteArray := prog_16_method_109_code
def yJ7_fill_031fb : MethodName := ⟨RJ7, "fill", "([BB)V"⟩
def RL : String := "FeltColdLaw"
abbrev cL_law : ByteArray := code
def yL_law : MethodName := ⟨RL, "law", "([I)Z"⟩
abbrev vwCl : List vw_C := [(RX0, TX0, 2), (RX1, TX1, 4), (RX2, TX2, 8), (RX3, TX3, 3), (RX4, TX4, 2), (RX5, TX5, 6), (RX6, TX6, 3), (RX7, TX7, 2), (RX8, TX8, 9), (RX9, TX9, 11), (RX10, TX10, 30)]
end
section
/-! ===== a small machine: cells that stay where they are; numbers that change. rf_S: ints and longs by cell and place; rf_C: a cell's make (object: class number, fields none int, some none long, some (some k) the cell k; array: kind 0 int 1 byte 2 int[][] 3 byte[][], length, the cells of a row of rows) ===== -/
abbrev rf_S : Type := (Nat → Nat → Int32) × (Nat → Nat → Int64)
abbrev rf_C : Type := (Nat × List (Option (Option Nat))) ⊕ (Nat × Nat × List Nat)
abbrev rf_F : Type := Nat × List (Option Value) × List Value × rf_S
abbrev rf_E : Type := Nat × Instr × Nat × Nat
abbrev rf_M : Type := Nat × MethodName × ByteArray × Nat × Option FieldType × Nat × Bool
def rf_sA (σ : rf_S) (c : Nat) (f : Nat → Int32) : rf_S := (fun k => if k = c then f else σ.1 k, σ.2)
def rf_sI (σ : rf_S) (c j : Nat) (x : Int32) : rf_S := rf_sA σ c (upd (σ.1 c) j x)
def rf_sL (σ : rf_S) (c j : Nat) (x : Int64) : rf_S := (σ.1, fun k => if k = c then vp_updL (σ.2 c) j x else σ.2 k)
def rf_cv (ad : Nat → Nat) (v : Value) : Value := match v with
  | .ref c => .ref (ad c)
  | v => v
theorem rf_cv_cat (ad : Nat → Nat) (v : Value) : (rf_cv ad v).category = v.category := by cases v <;> rfl
def rf_fv (σ : rf_S) (c j : Nat) (t : Option (Option Nat)) : Value := match t with
  | none => .int (σ.1 c j)
  | some none => .long (σ.2 c j)
  | some (some k) => .ref k
def rf_ce (ca : Nat → ClassId) (ad : Nat → Nat) (σ : rf_S) (c : Nat) (en : rf_C) : va_E := match en with
  | .inl q => .inr (q.1, q.2.mapIdx (fun j t => rf_cv ad (rf_fv σ c j t)))
  | .inr q => .inl (ca q.1, q.2.1, if q.1 < 2 then .inl (σ.1 c) else .inr (.inr (.inr (.inr (fun j => (q.2.2[j]?).map ad)))))
def rf_w (ca : Nat → ClassId) (ad : Nat → Nat) (ly : List rf_C) (σ : rf_S) : va_W := ly.mapIdx (fun c en => (ad c, rf_ce ca ad σ c en))
theorem rf_w_get {ca : Nat → ClassId} {ad : Nat → Nat} {ly : List rf_C} {σ : rf_S} (c : Nat) : (rf_w ca ad ly σ)[c]? = (ly[c]?).map (fun en => (ad c, rf_ce ca ad σ c en)) := by simp [rf_w]
theorem rf_w_at {ca : Nat → ClassId} {ad : Nat → Nat} {ly : List rf_C} {σ : rf_S} {c : Nat} {en : rf_C} (h : ly[c]? = some en) : (rf_w ca ad ly σ)[c]? = some (ad c, rf_ce ca ad σ c en) := by rw [rf_w_get, h]; rfl
theorem rf_w_set {ca : Nat → ClassId} {ad : Nat → Nat} {ly : List rf_C} {σ σ' : rf_S} {c : Nat} {en : rf_C} {x : va_E} (h : ly[c]? = some en) (hc : x = rf_ce ca ad σ' c en) (ho : ∀ k en, k ≠ c → rf_ce ca ad σ k en = rf_ce ca ad σ' k en) : (rf_w ca ad ly σ).set c (ad c, x) = rf_w ca ad ly σ' := by
  apply List.ext_getElem?
  intro k
  by_cases hk : k = c
  · subst hk
    have hl : k < (rf_w ca ad ly σ).length := (List.getElem?_eq_some_iff.mp (rf_w_at (ca := ca) (ad := ad) (σ := σ) h)).1
    rw [List.getElem?_set_self hl, rf_w_at h, hc]
  · rw [List.getElem?_set_ne (Ne.symm hk), rf_w_get, rf_w_get]
    cases ly[k]? with
    | none => rfl
    | some en => simp only [Option.map_some]; rw [ho k en hk]
theorem rf_ce_A {ca : Nat → ClassId} {ad : Nat → Nat} {σ : rf_S} {c : Nat} {f : Nat → Int32} (k : Nat) (en : rf_C) (hk : k ≠ c) : rf_ce ca ad σ k en = rf_ce ca ad (rf_sA σ c f) k en := by
  have e : (rf_sA σ c f).1 k = σ.1 k := if_neg hk
  unfold rf_ce
  cases en with
  | inl q =>
    simp only
    congr 3
    funext j t
    cases t with
    | none => simp only [rf_fv]; rw [e]
    | some t => cases t <;> rfl
  | inr q => simp only; rw [e]
theorem rf_ce_L {ca : Nat → ClassId} {ad : Nat → Nat} {σ : rf_S} {c j0 : Nat} {x : Int64} (k : Nat) (en : rf_C) (hk : k ≠ c) : rf_ce ca ad σ k en = rf_ce ca ad (rf_sL σ c j0 x) k en := by
  have e : (rf_sL σ c j0 x).2 k = σ.2 k := if_neg hk
  unfold rf_ce
  cases en with
  | inl q =>
    simp only
    congr 3
    funext j t
    cases t with
    | none => rfl
    | some t => cases t with
      | none => simp only [rf_fv]; rw [e]
      | some t => rfl
  | inr q => rfl
theorem rf_w_setA {ca : Nat → ClassId} {ad : Nat → Nat} {ly : List rf_C} {σ : rf_S} {c : Nat} {q : Nat × Nat × List Nat} (h : ly[c]? = some (.inr q)) (hk : q.1 < 2) (f : Nat → Int32) : (rf_w ca ad ly σ).set c (ad c, .inl (ca q.1, q.2.1, .inl f)) = rf_w ca ad ly (rf_sA σ c f) := by
  refine rf_w_set h ?_ (fun k en hk => rf_ce_A k en hk)
  have e : (rf_sA σ c f).1 c = f := if_pos rfl
  simp only [rf_ce]
  rw [if_pos hk, e]
theorem rf_w_setI {ca : Nat → ClassId} {ad : Nat → Nat} {ly : List rf_C} {σ : rf_S} {c j : Nat} {q : Nat × List (Option (Option Nat))} (h : ly[c]? = some (.inl q)) (hj : q.2[j]? = some none) (x : Int32) : (rf_w ca ad ly σ).set c (ad c, .inr (q.1, (q.2.mapIdx (fun j t => rf_cv ad (rf_fv σ c j t))).set j (.int x))) = rf_w ca ad ly (rf_sI σ c j x) := by
  refine rf_w_set h ?_ (fun k en hk => rf_ce_A k en hk)
  have e : (rf_sI σ c j x).1 c = upd (σ.1 c) j x := if_pos rfl
  simp only [rf_ce]
  congr 2
  apply List.ext_getElem?
  intro k
  by_cases hk : k = j
  · subst hk
    have hl : k < q.2.length := (List.getElem?_eq_some_iff.mp hj).1
    rw [List.getElem?_set_self (by simpa using hl), List.getElem?_mapIdx, hj]
    simp only [Option.map_some, rf_fv, rf_cv]
    rw [e]
    simp [upd]
  · rw [List.getElem?_set_ne (Ne.symm hk), List.getElem?_mapIdx, List.getElem?_mapIdx]
    cases q.2[k]? with
    | none => rfl
    | some t =>
      cases t with
      | none => simp only [Option.map_some, rf_fv, rf_cv]; rw [e]; simp [upd, hk]
      | some t => cases t <;> rfl
theorem rf_w_setL {ca : Nat → ClassId} {ad : Nat → Nat} {ly : List rf_C} {σ : rf_S} {c j : Nat} {q : Nat × List (Option (Option Nat))} (h : ly[c]? = some (.inl q)) (hj : q.2[j]? = some (some none)) (x : Int64) : (rf_w ca ad ly σ).set c (ad c, .inr (q.1, (q.2.mapIdx (fun j t => rf_cv ad (rf_fv σ c j t))).set j (.long x))) = rf_w ca ad ly (rf_sL σ c j x) := by
  refine rf_w_set h ?_ (fun k en hk => rf_ce_L k en hk)
  have e : (rf_sL σ c j x).2 c = vp_updL (σ.2 c) j x := if_pos rfl
  simp only [rf_ce]
  congr 2
  apply List.ext_getElem?
  intro k
  by_cases hk : k = j
  · subst hk
    have hl : k < q.2.length := (List.getElem?_eq_some_iff.mp hj).1
    rw [List.getElem?_set_self (by simpa using hl), List.getElem?_mapIdx, hj]
    simp only [Option.map_some, rf_fv, rf_cv]
    rw [e]
    simp [vp_updL]
  · rw [List.getElem?_set_ne (Ne.symm hk), List.getElem?_mapIdx, List.getElem?_mapIdx]
    cases q.2[k]? with
    | none => rfl
    | some t =>
      cases t with
      | none => rfl
      | some t => cases t with
        | none => simp only [Option.map_some, rf_fv, rf_cv]; rw [e]; simp [vp_updL, hk]
        | some t => rfl
theorem rf_D {A : Nat → Prop} {ca : Nat → ClassId} {ad : Nat → Nat} {ly : List rf_C} {σ : rf_S} (σ' : rf_S) (h : va_D A (rf_w ca ad ly σ)) : va_D A (rf_w ca ad ly σ') := by
  have key : ∀ (i : Nat) (p : Nat × va_E), (rf_w ca ad ly σ')[i]? = some p → ∃ p0, (rf_w ca ad ly σ)[i]? = some p0 ∧ p0.1 = p.1 := by
    intro i p hp
    rw [rf_w_get] at hp
    obtain ⟨en, h1, h2⟩ := Option.map_eq_some_iff.mp hp
    exact ⟨_, rf_w_at h1, by rw [← h2]⟩
  refine ⟨fun i j p q hi hj hpq => ?_, fun k q hk => ?_⟩
  · obtain ⟨p0, a1, a2⟩ := key i p hi
    obtain ⟨q0, b1, b2⟩ := key j q hj
    exact h.1 i j p0 q0 a1 b1 (a2.trans (hpq.trans b2.symm))
  · obtain ⟨q0, b1, b2⟩ := key k q hk
    rw [← b2]
    exact h.2 k q0 b1
theorem rf_A {ca : Nat → ClassId} {ad : Nat → Nat} {ly : List rf_C} {σ : rf_S} (σ' : rf_S) {sz sz' q : Nat} (hs : sz ≤ sz') (h : va_A (rf_w ca ad ly σ) sz' q) : va_A (rf_w ca ad ly σ') sz q := by
  rcases h with ⟨k, e, h⟩ | h
  · rw [rf_w_get] at h
    obtain ⟨en, h1, h2⟩ := Option.map_eq_some_iff.mp h
    have h3 : ad k = q := congrArg Prod.fst h2
    subst h3
    exact Or.inl ⟨k, _, rf_w_at h1⟩
  · exact Or.inr (Nat.le_trans hs h)
/-! the locals -/
def rf_lh (ad : Nat → Nat) (lC : Array Slot) (nL : Nat) (ls : List (Option Value)) : Prop := ls.length = nL ∧ lC.size = nL ∧ lv_wf lC ∧ ∀ (i : Nat) (v : Value), ls[i]? = some (some v) → lC[i]? = some (.val (rf_cv ad v))
def rf_en (ad : Nat → Nat) (ls : List (Option Value)) : List (Nat × Value) := (List.range ls.length).filterMap (fun i => match ls[i]? with | some (some v) => some (i, rf_cv ad v) | _ => none)
theorem rf_en_mem {ad : Nat → Nat} {ls : List (Option Value)} {i : Nat} {v : Value} (h : ls[i]? = some (some v)) : (i, rf_cv ad v) ∈ rf_en ad ls := by
  refine List.mem_filterMap.mpr ⟨i, List.mem_range.mpr (List.getElem?_eq_some_iff.mp h).1, ?_⟩
  rw [h]
theorem rf_en_of {ad : Nat → Nat} {ls : List (Option Value)} {q : Nat × Value} (h : q ∈ rf_en ad ls) : ∃ v, ls[q.1]? = some (some v) ∧ q.2 = rf_cv ad v := by
  obtain ⟨i, -, hi⟩ := List.mem_filterMap.mp h
  split at hi
  · rename_i v hv
    cases hi
    exact ⟨v, hv, rfl⟩
  · cases hi
theorem rf_lh.has {ad : Nat → Nat} {lC : Array Slot} {nL : Nat} {ls : List (Option Value)} (h : rf_lh ad lC nL ls) : lv_has lC nL (rf_en ad ls) := by
  refine ⟨h.2.1, h.2.2.1, fun q hq => ?_⟩
  obtain ⟨v, h1, h2⟩ := rf_en_of hq
  rw [h2]
  exact h.2.2.2 q.1 v h1
def rf_kl (ls : List (Option Value)) (i : Nat) : List (Option Value) := match i with
  | 0 => ls
  | j + 1 => match ls[j]? with
    | some (some (.long _)) => ls.set j none
    | some (some (.double _)) => ls.set j none
    | _ => ls
def rf_s1 (ls : List (Option Value)) (i : Nat) (v : Value) : List (Option Value) := (rf_kl ls i).set i (some v)
def rf_s2 (ls : List (Option Value)) (i : Nat) (v : Value) : List (Option Value) := ((rf_kl ls i).set i (some v)).set (i + 1) none
theorem rf_kl_len (ls : List (Option Value)) (i : Nat) : (rf_kl ls i).length = ls.length := by
  unfold rf_kl
  split
  · rfl
  · split <;> simp
theorem rf_kl_at {ls : List (Option Value)} {i k : Nat} {u : Value} (h : (rf_kl ls i)[k]? = some (some u)) : ls[k]? = some (some u) ∧ ¬ (k + 1 = i ∧ u.category = 2) := by
  unfold rf_kl at h
  split at h
  · exact ⟨h, fun q => by omega⟩
  · rename_i i j
    split at h
    · by_cases hk : j = k
      · subst hk
        rw [List.getElem?_set] at h
        split at h
        · split at h <;> cases h
        · rename_i hh; exact absurd rfl hh
      · rw [List.getElem?_set_ne hk] at h
        exact ⟨h, fun q => hk (by omega)⟩
    · by_cases hk : j = k
      · subst hk
        rw [List.getElem?_set] at h
        split at h
        · split at h <;> cases h
        · rename_i hh; exact absurd rfl hh
      · rw [List.getElem?_set_ne hk] at h
        exact ⟨h, fun q => hk (by omega)⟩
    · rename_i h1 h2
      refine ⟨h, fun q => ?_⟩
      have hk : k = j := by omega
      subst hk
      cases u with
      | long x => exact h1 x h
      | double x => exact h2 x h
      | _ => exact absurd q.2 (by simp [Value.category])
theorem rf_lh.s1 {ad : Nat → Nat} {lC lC' : Array Slot} {nL : Nat} {ls : List (Option Value)} {i : Nat} {v : Value} (h : rf_lh ad lC nL ls) (hi : i < nL) (h2 : lv_has lC' nL ((i, rf_cv ad v) :: (rf_en ad ls).filter (fun q => !(q.1 == i) && !(q.1 + 1 == i && q.2.category == 2)))) : rf_lh ad lC' nL (rf_s1 ls i v) := by
  refine ⟨by simp only [rf_s1, List.length_set, rf_kl_len]; exact h.1, h2.1, h2.2.1, fun k u hk => ?_⟩
  by_cases hki : k = i
  · subst hki
    unfold rf_s1 at hk
    rw [List.getElem?_set_self (by rw [rf_kl_len, h.1]; exact hi)] at hk
    cases hk
    exact h2.2.2 (k, rf_cv ad v) List.mem_cons_self
  · unfold rf_s1 at hk
    rw [List.getElem?_set_ne (Ne.symm hki)] at hk
    obtain ⟨a1, a2⟩ := rf_kl_at hk
    refine h2.2.2 (k, rf_cv ad u) (List.mem_cons_of_mem _ (List.mem_filter.mpr ⟨rf_en_mem a1, ?_⟩))
    simp only [rf_cv_cat]
    by_cases z : k + 1 = i
    · have : ¬ u.category = 2 := fun q => a2 ⟨z, q⟩
      simp [hki, z, this]
    · simp [hki, z]
theorem rf_lh.s2 {ad : Nat → Nat} {lC lC' : Array Slot} {nL : Nat} {ls : List (Option Value)} {i : Nat} {v : Value} (h : rf_lh ad lC nL ls) (hi : i + 1 < nL) (h2 : lv_has lC' nL ((i, rf_cv ad v) :: (rf_en ad ls).filter (fun q => !(q.1 == i) && (!(q.1 == i + 1) && !(q.1 + 1 == i && q.2.category == 2))))) : rf_lh ad lC' nL (rf_s2 ls i v) := by
  refine ⟨by simp only [rf_s2, List.length_set, rf_kl_len]; exact h.1, h2.1, h2.2.1, fun k u hk => ?_⟩
  unfold rf_s2 at hk
  by_cases hki : k = i + 1
  · subst hki
    rw [List.getElem?_set_self (by rw [List.length_set, rf_kl_len, h.1]; exact hi)] at hk
    cases hk
  · rw [List.getElem?_set_ne (Ne.symm hki)] at hk
    by_cases hk2 : k = i
    · subst hk2
      rw [List.getElem?_set_self (by rw [rf_kl_len, h.1]; omega)] at hk
      cases hk
      exact h2.2.2 (k, rf_cv ad v) List.mem_cons_self
    · rw [List.getElem?_set_ne (Ne.symm hk2)] at hk
      obtain ⟨a1, a2⟩ := rf_kl_at hk
      refine h2.2.2 (k, rf_cv ad u) (List.mem_cons_of_mem _ (List.mem_filter.mpr ⟨rf_en_mem a1, ?_⟩))
      simp only [rf_cv_cat]
      by_cases z : k + 1 = i
      · have : ¬ u.category = 2 := fun q => a2 ⟨z, q⟩
        simp [hki, hk2, z, this]
      · simp [hki, hk2, z]
/-- fewer known locals -/
def rf_mk : List Bool → List (Option Value) → List (Option Value)
  | b :: bs, a :: l => (if b = true then a else none) :: rf_mk bs l
  | _, l => l
theorem rf_mk_len : ∀ (bs : List Bool) (l : List (Option Value)), (rf_mk bs l).length = l.length
  | [], l => by simp [rf_mk]
  | b :: bs, [] => by simp [rf_mk]
  | b :: bs, a :: l => by simp [rf_mk, rf_mk_len bs l]
theorem rf_mk_at : ∀ (bs : List Bool) (l : List (Option Value)) (i : Nat) (v : Value), (rf_mk bs l)[i]? = some (some v) → l[i]? = some (some v)
  | [], l, i, v, h => by simpa [rf_mk] using h
  | b :: bs, [], i, v, h => by simp [rf_mk] at h
  | b :: bs, a :: l, 0, v, h => by
    simp only [rf_mk, List.getElem?_cons_zero] at h ⊢
    split at h
    · exact h
    · cases h
  | b :: bs, a :: l, i + 1, v, h => by
    simp only [rf_mk, List.getElem?_cons_succ] at h ⊢
    exact rf_mk_at bs l i v h
theorem rf_lh.mk {ad : Nat → Nat} {lC : Array Slot} {nL : Nat} {ls : List (Option Value)} (bs : List Bool) (h : rf_lh ad lC nL ls) : rf_lh ad lC nL (rf_mk bs ls) := ⟨by rw [rf_mk_len]; exact h.1, h.2.1, h.2.2.1, fun i v q => h.2.2.2 i v (rf_mk_at bs ls i v q)⟩
/-! reads of the layout -/
def rf_in (i : Int32) (n : Nat) : Bool := decide (¬ i < 0) && decide (i.toNatClampNeg < n)
def rf_len (ly : List rf_C) (c : Nat) : Nat := match ly[c]? with
  | some (.inr q) => q.2.1
  | _ => 0
def rf_isA (ly : List rf_C) (c : Nat) : Bool := match ly[c]? with
  | some (.inr _) => true
  | _ => false
def rf_kd (ly : List rf_C) (kd c : Nat) : Bool := match ly[c]? with
  | some (.inr q) => q.1 == kd
  | _ => false
def rf_ck (ly : List rf_C) (kd c : Nat) (i : Int32) : Bool := rf_kd ly kd c && rf_in i (rf_len ly c)
def rf_ra (ly : List rf_C) (c j : Nat) : Nat := match ly[c]? with
  | some (.inr q) => q.2.2.getD j 0
  | _ => 0
def rf_rk (ly : List rf_C) (c : Nat) (i : Int32) : Bool := (rf_kd ly 2 c || rf_kd ly 3 c) && rf_in i (rf_len ly c)
def rf_cp (ly : List rf_C) (a : Nat) (sp : Int32) (b : Nat) (dp n : Int32) : Bool := rf_kd ly 0 a && rf_kd ly 0 b && decide (¬ sp < 0) && decide (¬ dp < 0) && decide (¬ n < 0) && decide (sp.toNatClampNeg + n.toNatClampNeg ≤ rf_len ly a) && decide (dp.toNatClampNeg + n.toNatClampNeg ≤ rf_len ly b)
def rf_ci (n : Int) : Int32 := match n with
  | .ofNat k => Int32.ofNat k
  | .negSucc k => - Int32.ofNat (k + 1)

/-- one instruction that is no call, no return, no switch: x is its number (a local, a target, a field, a constant), np the next place -/
def rf_st (ly : List rf_C) (i : Instr) (x np : Nat) (ls : List (Option Value)) (st : List Value) (σ : rf_S) : Option rf_F := match i with
  | .iconst n => some (np, ls, .int (rf_ci n) :: st, σ)
  | .bipush n => some (np, ls, .int (rf_ci n) :: st, σ)
  | .sipush n => some (np, ls, .int (rf_ci n) :: st, σ)
  | .ldc _ => some (np, ls, .int (Int32.ofNat x) :: st, σ)
  | .ldc_w _ => some (np, ls, .int (Int32.ofNat x) :: st, σ)
  | .ldc2_w _ => some (np, ls, .long (Int64.ofNat x) :: st, σ)
  | .lconst _ => some (np, ls, .long (Int64.ofNat x) :: st, σ)
  | .iload _ => match ls[x]? with
    | some (some (.int a)) => some (np, ls, .int a :: st, σ)
    | _ => none
  | .iload_n _ => match ls[x]? with
    | some (some (.int a)) => some (np, ls, .int a :: st, σ)
    | _ => none
  | .lload _ => match ls[x]? with
    | some (some (.long a)) => some (np, ls, .long a :: st, σ)
    | _ => none
  | .lload_n _ => match ls[x]? with
    | some (some (.long a)) => some (np, ls, .long a :: st, σ)
    | _ => none
  | .aload _ => match ls[x]? with
    | some (some (.ref a)) => some (np, ls, .ref a :: st, σ)
    | _ => none
  | .aload_n _ => match ls[x]? with
    | some (some (.ref a)) => some (np, ls, .ref a :: st, σ)
    | _ => none
  | .istore _ => match st with
    | .int a :: r => some (np, rf_s1 ls x (.int a), r, σ)
    | _ => none
  | .istore_n _ => match st with
    | .int a :: r => some (np, rf_s1 ls x (.int a), r, σ)
    | _ => none
  | .lstore _ => match st with
    | .long a :: r => some (np, rf_s2 ls x (.long a), r, σ)
    | _ => none
  | .lstore_n _ => match st with
    | .long a :: r => some (np, rf_s2 ls x (.long a), r, σ)
    | _ => none
  | .astore _ => match st with
    | .ref a :: r => some (np, rf_s1 ls x (.ref a), r, σ)
    | _ => none
  | .astore_n _ => match st with
    | .ref a :: r => some (np, rf_s1 ls x (.ref a), r, σ)
    | _ => none
  | .iinc _ n => match ls[x]? with
    | some (some (.int a)) => some (np, rf_s1 ls x (.int (a + rf_ci n)), st, σ)
    | _ => none
  | .iadd => match st with
    | .int b :: .int a :: r => some (np, ls, .int (a + b) :: r, σ)
    | _ => none
  | .isub => match st with
    | .int b :: .int a :: r => some (np, ls, .int (a - b) :: r, σ)
    | _ => none
  | .imul => match st with
    | .int b :: .int a :: r => some (np, ls, .int (a * b) :: r, σ)
    | _ => none
  | .iand => match st with
    | .int b :: .int a :: r => some (np, ls, .int (a &&& b) :: r, σ)
    | _ => none
  | .ior => match st with
    | .int b :: .int a :: r => some (np, ls, .int (a ||| b) :: r, σ)
    | _ => none
  | .ixor => match st with
    | .int b :: .int a :: r => some (np, ls, .int (a ^^^ b) :: r, σ)
    | _ => none
  | .ishl => match st with
    | .int b :: .int a :: r => some (np, ls, .int (a <<< (b &&& 31)) :: r, σ)
    | _ => none
  | .ishr => match st with
    | .int b :: .int a :: r => some (np, ls, .int (a >>> (b &&& 31)) :: r, σ)
    | _ => none
  | .iushr => match st with
    | .int b :: .int a :: r => some (np, ls, .int ((a.toUInt32 >>> (b.toUInt32 &&& Int32.toUInt32 31)).toInt32) :: r, σ)
    | _ => none
  | .idiv => match st with
    | .int b :: .int a :: r => if b = 0 then none else some (np, ls, .int (a / b) :: r, σ)
    | _ => none
  | .irem => match st with
    | .int b :: .int a :: r => if b = 0 then none else some (np, ls, .int (a - a / b * b) :: r, σ)
    | _ => none
  | .ineg => match st with
    | .int a :: r => some (np, ls, .int (-a) :: r, σ)
    | _ => none
  | .ladd => match st with
    | .long b :: .long a :: r => some (np, ls, .long (a + b) :: r, σ)
    | _ => none
  | .lmul => match st with
    | .long b :: .long a :: r => some (np, ls, .long (a * b) :: r, σ)
    | _ => none
  | .ldiv => match st with
    | .long b :: .long a :: r => if b = 0 then none else some (np, ls, .long (a / b) :: r, σ)
    | _ => none
  | .lrem => match st with
    | .long b :: .long a :: r => if b = 0 then none else some (np, ls, .long (a - a / b * b) :: r, σ)
    | _ => none
  | .lcmp => match st with
    | .long b :: .long a :: r => some (np, ls, .int (lg_cmp a b) :: r, σ)
    | _ => none
  | .i2l => match st with
    | .int a :: r => some (np, ls, .long a.toInt64 :: r, σ)
    | _ => none
  | .l2i => match st with
    | .long a :: r => some (np, ls, .int a.toInt32 :: r, σ)
    | _ => none
  | .i2b => match st with
    | .int a :: r => some (np, ls, .int a.toInt8.toInt32 :: r, σ)
    | _ => none
  | .dup => match st with
    | a :: r => if a.category = 1 then some (np, ls, a :: a :: r, σ) else none
    | _ => none
  | .dup2 => match st with
    | a :: b :: r => if a.category = 1 ∧ b.category = 1 then some (np, ls, a :: b :: a :: b :: r, σ) else none
    | _ => none
  | .pop => match st with
    | a :: r => if a.category = 1 then some (np, ls, r, σ) else none
    | _ => none
  | .ifCond .eq _ => match st with
    | .int a :: r => if a = 0 then some (x, ls, r, σ) else some (np, ls, r, σ)
    | _ => none
  | .ifCond .ne _ => match st with
    | .int a :: r => if a ≠ 0 then some (x, ls, r, σ) else some (np, ls, r, σ)
    | _ => none
  | .ifCond .lt _ => match st with
    | .int a :: r => if a < 0 then some (x, ls, r, σ) else some (np, ls, r, σ)
    | _ => none
  | .ifCond .ge _ => match st with
    | .int a :: r => if 0 ≤ a then some (x, ls, r, σ) else some (np, ls, r, σ)
    | _ => none
  | .ifCond .gt _ => match st with
    | .int a :: r => if 0 < a then some (x, ls, r, σ) else some (np, ls, r, σ)
    | _ => none
  | .ifCond .le _ => match st with
    | .int a :: r => if a ≤ 0 then some (x, ls, r, σ) else some (np, ls, r, σ)
    | _ => none
  | .if_icmp .eq _ => match st with
    | .int b :: .int a :: r => if a = b then some (x, ls, r, σ) else some (np, ls, r, σ)
    | _ => none
  | .if_icmp .ne _ => match st with
    | .int b :: .int a :: r => if a ≠ b then some (x, ls, r, σ) else some (np, ls, r, σ)
    | _ => none
  | .if_icmp .lt _ => match st with
    | .int b :: .int a :: r => if a < b then some (x, ls, r, σ) else some (np, ls, r, σ)
    | _ => none
  | .if_icmp .ge _ => match st with
    | .int b :: .int a :: r => if b ≤ a then some (x, ls, r, σ) else some (np, ls, r, σ)
    | _ => none
  | .if_icmp .gt _ => match st with
    | .int b :: .int a :: r => if b < a then some (x, ls, r, σ) else some (np, ls, r, σ)
    | _ => none
  | .if_icmp .le _ => match st with
    | .int b :: .int a :: r => if a ≤ b then some (x, ls, r, σ) else some (np, ls, r, σ)
    | _ => none
  | .goto _ => some (x, ls, st, σ)
  | .getfield _ => match st with
    | .ref c :: r => (match ly[c]? with
      | some (.inl q) => if q.1 = x / 100 then (match q.2[x % 100]? with
        | some t => some (np, ls, rf_fv σ c (x % 100) t :: r, σ)
        | none => none) else none
      | _ => none)
    | _ => none
  | .putfield _ => match st with
    | .int a :: .ref c :: r => (match ly[c]? with
      | some (.inl q) => if q.1 = x / 100 then (match q.2[x % 100]? with
        | some none => some (np, ls, r, rf_sI σ c (x % 100) a)
        | _ => none) else none
      | _ => none)
    | .long a :: .ref c :: r => (match ly[c]? with
      | some (.inl q) => if q.1 = x / 100 then (match q.2[x % 100]? with
        | some (some none) => some (np, ls, r, rf_sL σ c (x % 100) a)
        | _ => none) else none
      | _ => none)
    | _ => none
  | .arraylength => match st with
    | .ref c :: r => if rf_isA ly c = true then some (np, ls, .int (Int32.ofNat (rf_len ly c)) :: r, σ) else none
    | _ => none
  | .iaload => match st with
    | .int j :: .ref c :: r => if rf_ck ly 0 c j = true then some (np, ls, .int (σ.1 c j.toNatClampNeg) :: r, σ) else none
    | _ => none
  | .baload => match st with
    | .int j :: .ref c :: r => if rf_ck ly 1 c j = true then some (np, ls, .int (σ.1 c j.toNatClampNeg) :: r, σ) else none
    | _ => none
  | .aaload => match st with
    | .int j :: .ref c :: r => if rf_rk ly c j = true then some (np, ls, .ref (rf_ra ly c j.toNatClampNeg) :: r, σ) else none
    | _ => none
  | .iastore => match st with
    | .int a :: .int j :: .ref c :: r => if rf_ck ly 0 c j = true then some (np, ls, r, rf_sI σ c j.toNatClampNeg a) else none
    | _ => none
  | .bastore => match st with
    | .int a :: .int j :: .ref c :: r => if rf_ck ly 1 c j = true then some (np, ls, r, rf_sI σ c j.toNatClampNeg (a.toInt8.toInt32)) else none
    | _ => none
  | .invokestatic _ => if x = 1000 then (match st with
    | .int n :: .int dp :: .ref b :: .int sp :: .ref a :: r => if rf_cp ly a sp b dp n = true then some (np, ls, r, rf_sA σ b (va_cpy (σ.1 a) (σ.1 b) sp.toNatClampNeg dp.toNatClampNeg n.toNatClampNeg)) else none
    | _ => none)
    else if x = 1001 then (match st with
    | .int a :: r => some (np, ls, .int (if 0 ≤ a then a else 0 - a) :: r, σ)
    | _ => none)
    else if x = 1002 then (match st with
    | .int b :: .int a :: r => some (np, ls, .int (if a < b then b else a) :: r, σ)
    | _ => none)
    else if x = 1003 then (match st with
    | .int b :: .int a :: r => some (np, ls, .int (if b < a then b else a) :: r, σ)
    | _ => none)
    else none
  | _ => none
end
section
def rf_cn (o : Nat) : String := match o with
  | 0 => "FeltCold$Chances"
  | 1 => "FeltCold$Deeds"
  | 2 => "FeltCold$Plan"
  | 3 => "FeltCold$Reader"
  | 4 => "FeltCold$Rows"
  | 5 => "FeltCold$Sender"
  | 6 => "FeltCold$Teller"
  | 7 => "FeltCold$Texts"
  | 8 => "FeltCold$Town"
  | 9 => "FeltCold"
  | 10 => "FeltColdModel"
  | 11 => "java/lang/Integer"
  | 12 => "java/lang/Math"
  | _ => "java/util/Arrays"
abbrev mX0_weigh : rf_M := (0, yX0_weigh, cX0_weigh, 11, none, 4, false)
abbrev mX0_seeming : rf_M := (0, yX0_seeming, cX0_seeming, 8, (some .int), 4, true)
abbrev mX0_ways : rf_M := (0, yX0_ways, cX0_ways, 6, (some .long), 3, true)
abbrev mX0_reduce : rf_M := (0, yX0_reduce, cX0_reduce, 12, none, 2, false)
abbrev mX1_forget : rf_M := (1, yX1_forget, cX1_forget, 1, none, 0, false)
abbrev mX1_left : rf_M := (1, yX1_left, cX1_left, 1, (some .int), 0, false)
abbrev mX1_carryOut : rf_M := (1, yX1_carryOut, cX1_carryOut, 5, none, 4, false)
abbrev mX1_goBack : rf_M := (1, yX1_goBack, cX1_goBack, 5, none, 2, false)
abbrev mX1_store : rf_M := (1, yX1_store, cX1_store, 2, none, 1, false)
abbrev mX1_resume : rf_M := (1, yX1_resume, cX1_resume, 3, none, 2, false)
abbrev mX2_clear : rf_M := (2, yX2_clear, cX2_clear, 1, none, 0, false)
abbrev mX2_hasSpaceForRoom : rf_M := (2, yX2_hasSpaceForRoom, cX2_hasSpaceForRoom, 1, (some .boolean), 0, false)
abbrev mX2_hasSpaceForMember : rf_M := (2, yX2_hasSpaceForMember, cX2_hasSpaceForMember, 1, (some .boolean), 0, false)
abbrev mX2_addRoom : rf_M := (2, yX2_addRoom, cX2_addRoom, 3, none, 2, false)
abbrev mX2_addMember : rf_M := (2, yX2_addMember, cX2_addMember, 5, none, 4, false)
abbrev mX2_takeFrom : rf_M := (2, yX2_takeFrom, cX2_takeFrom, 2, none, 1, false)
abbrev mX3_read : rf_M := (3, yX3_read, cX3_read, 6, (some .int), 2, false)
abbrev mX3_skipBlanks : rf_M := (3, yX3_skipBlanks, cX3_skipBlanks, 4, none, 2, false)
abbrev mX3_readItem : rf_M := (3, yX3_readItem, cX3_readItem, 6, (some .int), 2, false)
abbrev mX3_readRoom : rf_M := (3, yX3_readRoom, cX3_readRoom, 5, (some .int), 2, false)
abbrev mX3_readMember : rf_M := (3, yX3_readMember, cX3_readMember, 7, (some .int), 3, false)
abbrev mX3_readNumber : rf_M := (3, yX3_readNumber, cX3_readNumber, 9, (some .int), 5, false)
abbrev mX3_kindBySign : rf_M := (3, yX3_kindBySign, cX3_kindBySign, 2, (some .int), 1, true)
abbrev mX4_make : rf_M := (4, yX4_make, cX4_make, 3, none, 2, false)
abbrev mX4_remove : rf_M := (4, yX4_remove, cX4_remove, 2, none, 1, false)
abbrev mX4_isMissing : rf_M := (4, yX4_isMissing, cX4_isMissing, 2, (some .boolean), 1, false)
abbrev mX4_sizeOf : rf_M := (4, yX4_sizeOf, cX4_sizeOf, 2, (some .int), 1, false)
abbrev mX4_has : rf_M := (4, yX4_has, cX4_has, 3, (some .boolean), 2, false)
abbrev mX4_hasAll : rf_M := (4, yX4_hasAll, cX4_hasAll, 4, (some .boolean), 3, false)
abbrev mX4_get : rf_M := (4, yX4_get, cX4_get, 3, (some .int), 2, false)
abbrev mX4_set : rf_M := (4, yX4_set, cX4_set, 4, none, 3, false)
abbrev mX4_move : rf_M := (4, yX4_move, cX4_move, 6, none, 5, false)
abbrev mX4_sum : rf_M := (4, yX4_sum, cX4_sum, 5, (some .long), 1, false)
abbrev mX4_arePairs : rf_M := (4, yX4_arePairs, cX4_arePairs, 6, (some .boolean), 2, false)
abbrev mX5_seek : rf_M := (5, yX5_seek, cX5_seek, 5, none, 2, false)
abbrev mX5_sendFrom : rf_M := (5, yX5_sendFrom, cX5_sendFrom, 7, none, 4, false)
abbrev mX5_compare : rf_M := (5, yX5_compare, cX5_compare, 5, none, 2, false)
abbrev mX6_look : rf_M := (6, yX6_look, cX6_look, 5, none, 1, false)
abbrev mX6_partsBy : rf_M := (6, yX6_partsBy, cX6_partsBy, 5, (some .int), 1, false)
abbrev mX7_make : rf_M := (7, yX7_make, cX7_make, 3, none, 2, false)
abbrev mX7_isMissing : rf_M := (7, yX7_isMissing, cX7_isMissing, 2, (some .boolean), 1, false)
abbrev mX7_sizeOf : rf_M := (7, yX7_sizeOf, cX7_sizeOf, 2, (some .int), 1, false)
abbrev mX7_has : rf_M := (7, yX7_has, cX7_has, 3, (some .boolean), 2, false)
abbrev mX7_get : rf_M := (7, yX7_get, cX7_get, 3, (some .int), 2, false)
abbrev mX7_set : rf_M := (7, yX7_set, cX7_set, 4, none, 3, false)
abbrev mX8_settle : rf_M := (8, yX8_settle, cX8_settle, 2, none, 1, false)
abbrev mX8_begin : rf_M := (8, yX8_begin, cX8_begin, 1, none, 0, false)
abbrev mX8_members : rf_M := (8, yX8_members, cX8_members, 1, (some .int), 0, false)
abbrev mX8_rooms : rf_M := (8, yX8_rooms, cX8_rooms, 1, (some .int), 0, false)
abbrev mX8_isEmpty : rf_M := (8, yX8_isEmpty, cX8_isEmpty, 1, (some .boolean), 0, false)
abbrev mX8_everybody : rf_M := (8, yX8_everybody, cX8_everybody, 1, (some .int), 0, false)
abbrev mX8_isSet : rf_M := (8, yX8_isSet, cX8_isSet, 2, (some .boolean), 1, false)
abbrev mX8_needOf : rf_M := (8, yX8_needOf, cX8_needOf, 2, (some .int), 1, false)
abbrev mX8_kindOf : rf_M := (8, yX8_kindOf, cX8_kindOf, 2, (some .int), 1, false)
abbrev mX8_markOf : rf_M := (8, yX8_markOf, cX8_markOf, 2, (some .int), 1, false)
abbrev mX8_widthOf : rf_M := (8, yX8_widthOf, cX8_widthOf, 2, (some .int), 1, false)
abbrev mX8_there : rf_M := (8, yX8_there, cX8_there, 4, (some .int), 1, false)
abbrev mX8_sneezers : rf_M := (8, yX8_sneezers, cX8_sneezers, 3, (some .int), 0, false)
abbrev mX8_otherTwins : rf_M := (8, yX8_otherTwins, cX8_otherTwins, 4, (some .int), 1, false)
abbrev mX8_feltBy : rf_M := (8, yX8_feltBy, cX8_feltBy, 2, (some .int), 1, false)
abbrev mX8_feeling : rf_M := (8, yX8_feeling, cX8_feeling, 5, (some .int), 4, true)
abbrev mX8_upFrom : rf_M := (8, yX8_upFrom, cX8_upFrom, 1, (some .int), 1, true)
abbrev mX8_doingBy : rf_M := (8, yX8_doingBy, cX8_doingBy, 3, (some .int), 3, true)
abbrev mX8_wouldAs : rf_M := (8, yX8_wouldAs, cX8_wouldAs, 4, (some .int), 3, false)
abbrev mX8_would : rf_M := (8, yX8_would, cX8_would, 2, (some .int), 1, false)
abbrev mX8_does : rf_M := (8, yX8_does, cX8_does, 2, (some .int), 1, false)
abbrev mX8_doesNow : rf_M := (8, yX8_doesNow, cX8_doesNow, 2, (some .int), 1, false)
abbrev mX8_doers : rf_M := (8, yX8_doers, cX8_doers, 3, (some .int), 0, false)
abbrev mX8_likeAt : rf_M := (8, yX8_likeAt, cX8_likeAt, 4, (some .int), 2, false)
abbrev mX8_spanAt : rf_M := (8, yX8_spanAt, cX8_spanAt, 5, (some .int), 2, false)
abbrev mX8_spanIn : rf_M := (8, yX8_spanIn, cX8_spanIn, 3, (some .int), 2, false)
abbrev mX8_copyOfColds : rf_M := (8, yX8_copyOfColds, cX8_copyOfColds, 1, (some (.array .int)), 0, false)
abbrev mX8_catchers : rf_M := (8, yX8_catchers, cX8_catchers, 5, (some .int), 1, false)
abbrev mX8_passColds : rf_M := (8, yX8_passColds, cX8_passColds, 4, none, 1, false)
abbrev mX8_staysSo : rf_M := (8, yX8_staysSo, cX8_staysSo, 9, (some .boolean), 4, false)
abbrev mX8_act : rf_M := (8, yX8_act, cX8_act, 4, none, 3, false)
abbrev mX9_row : rf_M := (9, yX9_row, cX9_row, 3, (some .int), 2, false)
abbrev mX9_lay : rf_M := (9, yX9_lay, cX9_lay, 5, (some .int), 3, false)
abbrev mX9_at : rf_M := (9, yX9_at, cX9_at, 4, (some .int), 2, false)
abbrev mX9_tear : rf_M := (9, yX9_tear, cX9_tear, 3, (some .int), 1, false)
abbrev mX9_copy : rf_M := (9, yX9_copy, cX9_copy, 6, (some .int), 5, false)
abbrev mX9_mean : rf_M := (9, yX9_mean, cX9_mean, 4, (some .int), 1, false)
abbrev mX9_text : rf_M := (9, yX9_text, cX9_text, 3, (some .int), 2, false)
abbrev mX9_put : rf_M := (9, yX9_put, cX9_put, 6, (some .int), 3, false)
abbrev mX9_fault : rf_M := (9, yX9_fault, cX9_fault, 3, (some .int), 1, false)
abbrev mX9_town : rf_M := (9, yX9_town, cX9_town, 3, (some .int), 1, false)
abbrev mX9_member : rf_M := (9, yX9_member, cX9_member, 3, (some .int), 2, false)
abbrev mX9_room : rf_M := (9, yX9_room, cX9_room, 3, (some .int), 2, false)
abbrev mX9_mark : rf_M := (9, yX9_mark, cX9_mark, 3, (some .int), 2, false)
abbrev mX9_walk : rf_M := (9, yX9_walk, cX9_walk, 3, (some .int), 2, false)
abbrev mX9_hour : rf_M := (9, yX9_hour, cX9_hour, 3, (some .int), 0, false)
abbrev mX9_soup : rf_M := (9, yX9_soup, cX9_soup, 2, (some .int), 0, false)
abbrev mX9_cold : rf_M := (9, yX9_cold, cX9_cold, 2, (some .int), 1, false)
abbrev mX9_love : rf_M := (9, yX9_love, cX9_love, 3, (some .int), 2, false)
abbrev mX9_fire : rf_M := (9, yX9_fire, cX9_fire, 4, (some .int), 2, false)
abbrev mX9_undo : rf_M := (9, yX9_undo, cX9_undo, 3, (some .int), 1, false)
abbrev mX9_keep : rf_M := (9, yX9_keep, cX9_keep, 2, (some .int), 1, false)
abbrev mX9_on : rf_M := (9, yX9_on, cX9_on, 2, (some .int), 1, false)
abbrev mX9_span : rf_M := (9, yX9_span, cX9_span, 3, (some .int), 1, false)
abbrev mX9_spanBy : rf_M := (9, yX9_spanBy, cX9_spanBy, 3, (some .int), 2, false)
abbrev mX9_known : rf_M := (9, yX9_known, cX9_known, 3, (some .int), 0, false)
abbrev mX9_box : rf_M := (9, yX9_box, cX9_box, 7, (some .int), 2, false)
abbrev mX9_send : rf_M := (9, yX9_send, cX9_send, 3, (some .int), 1, false)
abbrev mX9_most : rf_M := (9, yX9_most, cX9_most, 2, (some .int), 1, false)
abbrev mX9_parts : rf_M := (9, yX9_parts, cX9_parts, 3, (some .int), 1, false)
abbrev mX9_fewest : rf_M := (9, yX9_fewest, cX9_fewest, 4, (some .int), 0, false)
abbrev mX9_alike : rf_M := (9, yX9_alike, cX9_alike, 2, (some .int), 1, false)
abbrev mX9_fits : rf_M := (9, yX9_fits, cX9_fits, 4, (some .int), 1, false)
abbrev mX9_tickled : rf_M := (9, yX9_tickled, cX9_tickled, 5, (some .int), 1, false)
abbrev mX9_shifts : rf_M := (9, yX9_shifts, cX9_shifts, 7, (some .int), 2, false)
abbrev mX9_kinds : rf_M := (9, yX9_kinds, cX9_kinds, 7, (some .int), 2, false)
abbrev mX9_spreads : rf_M := (9, yX9_spreads, cX9_spreads, 5, (some .int), 1, false)
abbrev mX9_soups : rf_M := (9, yX9_soups, cX9_soups, 7, (some .int), 3, false)
abbrev mX9_odds : rf_M := (9, yX9_odds, cX9_odds, 3, (some .int), 2, false)
abbrev mX9_mid : rf_M := (9, yX9_mid, cX9_mid, 3, (some .int), 2, false)
abbrev mX9_lots : rf_M := (9, yX9_lots, cX9_lots, 6, (some .int), 2, false)
abbrev mX9_asked : rf_M := (9, yX9_asked, cX9_asked, 1, (some .int), 0, false)
abbrev mX9_upper : rf_M := (9, yX9_upper, cX9_upper, 1, (some .long), 0, false)
abbrev mX9_lower : rf_M := (9, yX9_lower, cX9_lower, 1, (some .long), 0, false)
abbrev mX9_count : rf_M := (9, yX9_count, cX9_count, 2, (some .int), 1, false)
abbrev mX9_finding : rf_M := (9, yX9_finding, cX9_finding, 1, (some .int), 0, false)
abbrev mX9_findings : rf_M := (9, yX9_findings, cX9_findings, 2, (some .int), 1, false)
abbrev mX9_digest : rf_M := (9, yX9_digest, cX9_digest, 5, (some .long), 0, false)
abbrev mX9_digestTown : rf_M := (9, yX9_digestTown, cX9_digestTown, 7, (some .long), 1, false)
abbrev mX9_find : rf_M := (9, yX9_find, cX9_find, 2, (some .int), 1, false)
abbrev mX9_isRow : rf_M := (9, yX9_isRow, cX9_isRow, 1, (some .boolean), 1, true)
abbrev mX9_isText : rf_M := (9, yX9_isText, cX9_isText, 1, (some .boolean), 1, true)
abbrev mX9_isKept : rf_M := (9, yX9_isKept, cX9_isKept, 1, (some .boolean), 1, true)
abbrev mX9_isDegree : rf_M := (9, yX9_isDegree, cX9_isDegree, 1, (some .boolean), 1, true)
abbrev mX9_isRoom : rf_M := (9, yX9_isRoom, cX9_isRoom, 2, (some .boolean), 1, false)
abbrev mX9_isMember : rf_M := (9, yX9_isMember, cX9_isMember, 2, (some .boolean), 1, false)
abbrev mX9_ofMember : rf_M := (9, yX9_ofMember, cX9_ofMember, 3, (some .int), 2, false)
abbrev mX9_refusedRow : rf_M := (9, yX9_refusedRow, cX9_refusedRow, 2, (some .int), 1, false)
abbrev mX9_refusedPlace : rf_M := (9, yX9_refusedPlace, cX9_refusedPlace, 4, (some .int), 2, false)
abbrev mX9_refusedText : rf_M := (9, yX9_refusedText, cX9_refusedText, 2, (some .int), 1, false)
abbrev mX9_refusedDeed : rf_M := (9, yX9_refusedDeed, cX9_refusedDeed, 1, (some .int), 0, false)
abbrev mX9_refusedRecord : rf_M := (9, yX9_refusedRecord, cX9_refusedRecord, 2, (some .int), 1, false)
abbrev mX9_refusedDays : rf_M := (9, yX9_refusedDays, cX9_refusedDays, 3, (some .int), 2, false)
abbrev mX9_refusedPairs : rf_M := (9, yX9_refusedPairs, cX9_refusedPairs, 3, (some .int), 2, false)
abbrev mX9_fitting : rf_M := (9, yX9_fitting, cX9_fitting, 6, (some .int), 2, false)
abbrev mX9_agreesWithDays : rf_M := (9, yX9_agreesWithDays, cX9_agreesWithDays, 5, (some .boolean), 2, false)
abbrev mX9_weighed : rf_M := (9, yX9_weighed, cX9_weighed, 4, (some .int), 3, false)
abbrev mX9_carryOutLot : rf_M := (9, yX9_carryOutLot, cX9_carryOutLot, 6, none, 1, false)
abbrev mX9_seen : rf_M := (9, yX9_seen, cX9_seen, 2, (some .int), 2, true)
abbrev mX9_sick : rf_M := (9, yX9_sick, cX9_sick, 3, (some .int), 1, true)
abbrev mX9_present : rf_M := (9, yX9_present, cX9_present, 6, (some .int), 1, true)
abbrev mX9_isOfKind : rf_M := (9, yX9_isOfKind, cX9_isOfKind, 2, (some .boolean), 2, true)
abbrev mX10_in : rf_M := (10, yX10_in, cX10_in, 3, (some .boolean), 3, true)
abbrev mX10_has : rf_M := (10, yX10_has, cX10_has, 2, (some .boolean), 2, true)
abbrev mX10_bits : rf_M := (10, yX10_bits, cX10_bits, 3, (some .int), 1, true)
abbrev mX10_finds : rf_M := (10, yX10_finds, cX10_finds, 2, (some .int), 1, false)
abbrev mX10_tells : rf_M := (10, yX10_tells, cX10_tells, 2, (some .int), 1, false)
abbrev mX10_bring : rf_M := (10, yX10_bring, cX10_bring, 6, none, 5, true)
abbrev mX10_isOne : rf_M := (10, yX10_isOne, cX10_isOne, 2, (some .boolean), 1, false)
abbrev mX10_isRoom : rf_M := (10, yX10_isRoom, cX10_isRoom, 2, (some .boolean), 1, false)
abbrev mX10_isSet : rf_M := (10, yX10_isSet, cX10_isSet, 2, (some .boolean), 1, false)
abbrev mX10_row : rf_M := (10, yX10_row, cX10_row, 4, (some .int), 2, false)
abbrev mX10_wrongAt : rf_M := (10, yX10_wrongAt, cX10_wrongAt, 3, (some .int), 2, false)
abbrev mX10_lay : rf_M := (10, yX10_lay, cX10_lay, 6, (some .int), 3, false)
abbrev mX10_at : rf_M := (10, yX10_at, cX10_at, 4, (some .int), 2, false)
abbrev mX10_tear : rf_M := (10, yX10_tear, cX10_tear, 2, (some .int), 1, false)
abbrev mX10_isPart : rf_M := (10, yX10_isPart, cX10_isPart, 3, (some .boolean), 3, true)
abbrev mX10_copy : rf_M := (10, yX10_copy, cX10_copy, 9, (some .int), 5, false)
abbrev mX10_mean : rf_M := (10, yX10_mean, cX10_mean, 5, (some .int), 1, false)
abbrev mX10_text : rf_M := (10, yX10_text, cX10_text, 4, (some .int), 2, false)
abbrev mX10_put : rf_M := (10, yX10_put, cX10_put, 5, (some .int), 3, false)
abbrev mX10_letterAt : rf_M := (10, yX10_letterAt, cX10_letterAt, 2, (some .int), 1, false)
abbrev mX10_isFigure : rf_M := (10, yX10_isFigure, cX10_isFigure, 2, (some .boolean), 1, false)
abbrev mX10_two : rf_M := (10, yX10_two, cX10_two, 4, (some .int), 2, false)
abbrev mX10_one : rf_M := (10, yX10_one, cX10_one, 3, (some .int), 1, false)
abbrev mX10_isRoomItem : rf_M := (10, yX10_isRoomItem, cX10_isRoomItem, 3, (some .boolean), 0, false)
abbrev mX10_sortBy : rf_M := (10, yX10_sortBy, cX10_sortBy, 1, (some .int), 1, true)
abbrev mX10_isMemberItem : rf_M := (10, yX10_isMemberItem, cX10_isMemberItem, 5, (some .boolean), 0, false)
abbrev mX10_skip : rf_M := (10, yX10_skip, cX10_skip, 1, none, 0, false)
abbrev mX10_read : rf_M := (10, yX10_read, cX10_read, 3, (some .int), 1, false)
abbrev mX10_fault : rf_M := (10, yX10_fault, cX10_fault, 2, (some .int), 1, false)
abbrev mX10_town : rf_M := (10, yX10_town, cX10_town, 3, (some .int), 1, false)
abbrev mX10_feelsBy : rf_M := (10, yX10_feelsBy, cX10_feelsBy, 4, (some .int), 3, true)
abbrev mX10_feels : rf_M := (10, yX10_feels, cX10_feels, 3, (some .int), 2, false)
abbrev mX10_doesBy : rf_M := (10, yX10_doesBy, cX10_doesBy, 4, (some .boolean), 4, true)
abbrev mX10_wouldAt : rf_M := (10, yX10_wouldAt, cX10_wouldAt, 4, (some .boolean), 3, false)
abbrev mX10_doesAt : rf_M := (10, yX10_doesAt, cX10_doesAt, 4, (some .boolean), 3, false)
abbrev mX10_does : rf_M := (10, yX10_does, cX10_does, 3, (some .boolean), 2, false)
abbrev mX10_thereIn : rf_M := (10, yX10_thereIn, cX10_thereIn, 5, (some .int), 2, false)
abbrev mX10_doing : rf_M := (10, yX10_doing, cX10_doing, 4, (some .int), 1, false)
abbrev mX10_memberTells : rf_M := (10, yX10_memberTells, cX10_memberTells, 3, (some .int), 2, false)
abbrev mX10_member : rf_M := (10, yX10_member, cX10_member, 3, (some .int), 2, false)
abbrev mX10_room : rf_M := (10, yX10_room, cX10_room, 3, (some .int), 2, false)
abbrev mX10_is : rf_M := (10, yX10_is, cX10_is, 2, (some .boolean), 2, true)
abbrev mX10_coldIn : rf_M := (10, yX10_coldIn, cX10_coldIn, 5, (some .int), 2, false)
abbrev mX10_mark : rf_M := (10, yX10_mark, cX10_mark, 5, (some .int), 2, false)
abbrev mX10_note : rf_M := (10, yX10_note, cX10_note, 1, none, 0, false)
abbrev mX10_step : rf_M := (10, yX10_step, cX10_step, 5, none, 3, false)
abbrev mX10_walk : rf_M := (10, yX10_walk, cX10_walk, 3, (some .int), 2, false)
abbrev mX10_pass : rf_M := (10, yX10_pass, cX10_pass, 4, (some .int), 1, false)
abbrev mX10_noDeed : rf_M := (10, yX10_noDeed, cX10_noDeed, 1, (some .int), 0, false)
abbrev mX10_hour : rf_M := (10, yX10_hour, cX10_hour, 1, (some .int), 0, false)
abbrev mX10_soup : rf_M := (10, yX10_soup, cX10_soup, 1, (some .int), 0, false)
abbrev mX10_coldOnes : rf_M := (10, yX10_coldOnes, cX10_coldOnes, 4, (some .int), 1, false)
abbrev mX10_cold : rf_M := (10, yX10_cold, cX10_cold, 2, (some .int), 1, false)
abbrev mX10_love : rf_M := (10, yX10_love, cX10_love, 3, (some .int), 2, false)
abbrev mX10_fire : rf_M := (10, yX10_fire, cX10_fire, 4, (some .int), 2, false)
abbrev mX10_undo : rf_M := (10, yX10_undo, cX10_undo, 3, (some .int), 1, false)
abbrev mX10_keep : rf_M := (10, yX10_keep, cX10_keep, 2, (some .int), 1, false)
abbrev mX10_on : rf_M := (10, yX10_on, cX10_on, 2, (some .int), 1, false)
abbrev mX10_spanOf : rf_M := (10, yX10_spanOf, cX10_spanOf, 8, (some .int), 3, false)
abbrev mX10_span : rf_M := (10, yX10_span, cX10_span, 3, (some .int), 1, false)
abbrev mX10_spanBy : rf_M := (10, yX10_spanBy, cX10_spanBy, 3, (some .int), 2, false)
abbrev mX10_knownIn : rf_M := (10, yX10_knownIn, cX10_knownIn, 4, (some .int), 1, false)
abbrev mX10_known : rf_M := (10, yX10_known, cX10_known, 1, (some .int), 0, false)
abbrev mX10_box : rf_M := (10, yX10_box, cX10_box, 7, (some .int), 2, false)
abbrev mX10_walkBy : rf_M := (10, yX10_walkBy, cX10_walkBy, 4, none, 1, false)
abbrev mX10_ways : rf_M := (10, yX10_ways, cX10_ways, 3, (some .int), 0, false)
abbrev mX10_send : rf_M := (10, yX10_send, cX10_send, 5, (some .int), 1, false)
abbrev mX10_most : rf_M := (10, yX10_most, cX10_most, 6, (some .int), 1, false)
abbrev mX10_doingAt : rf_M := (10, yX10_doingAt, cX10_doingAt, 5, (some .int), 2, false)
abbrev mX10_alikeBy : rf_M := (10, yX10_alikeBy, cX10_alikeBy, 5, (some .int), 2, false)
abbrev mX10_partsBy : rf_M := (10, yX10_partsBy, cX10_partsBy, 6, (some .int), 1, false)
abbrev mX10_parts : rf_M := (10, yX10_parts, cX10_parts, 3, (some .int), 1, false)
abbrev mX10_fewest : rf_M := (10, yX10_fewest, cX10_fewest, 4, (some .int), 0, false)
abbrev mX10_alike : rf_M := (10, yX10_alike, cX10_alike, 2, (some .int), 1, false)
abbrev mX10_wrongPairs : rf_M := (10, yX10_wrongPairs, cX10_wrongPairs, 5, (some .int), 2, false)
abbrev mX10_fitsBy : rf_M := (10, yX10_fitsBy, cX10_fitsBy, 8, (some .int), 2, false)
abbrev mX10_fits : rf_M := (10, yX10_fits, cX10_fits, 4, (some .int), 1, false)
abbrev mX10_tickled : rf_M := (10, yX10_tickled, cX10_tickled, 5, (some .int), 1, false)
abbrev mX10_isBy : rf_M := (10, yX10_isBy, cX10_isBy, 7, (some .boolean), 4, false)
abbrev mX10_shifts : rf_M := (10, yX10_shifts, cX10_shifts, 6, (some .int), 2, false)
abbrev mX10_kinds : rf_M := (10, yX10_kinds, cX10_kinds, 6, (some .int), 2, false)
abbrev mX10_spreads : rf_M := (10, yX10_spreads, cX10_spreads, 4, (some .int), 1, false)
abbrev mX10_isServed : rf_M := (10, yX10_isServed, cX10_isServed, 7, (some .boolean), 4, false)
abbrev mX10_soups : rf_M := (10, yX10_soups, cX10_soups, 6, (some .int), 3, false)
abbrev mX10_tellsPart : rf_M := (10, yX10_tellsPart, cX10_tellsPart, 11, none, 2, false)
abbrev mX10_seems : rf_M := (10, yX10_seems, cX10_seems, 15, (some .int), 3, false)
abbrev mX10_odds : rf_M := (10, yX10_odds, cX10_odds, 3, (some .int), 2, false)
abbrev mX10_mid : rf_M := (10, yX10_mid, cX10_mid, 3, (some .int), 2, false)
abbrev mX10_lots : rf_M := (10, yX10_lots, cX10_lots, 8, (some .int), 2, false)
abbrev mX10_asked : rf_M := (10, yX10_asked, cX10_asked, 1, (some .int), 0, false)
abbrev mX10_upper : rf_M := (10, yX10_upper, cX10_upper, 1, (some .long), 0, false)
abbrev mX10_lower : rf_M := (10, yX10_lower, cX10_lower, 1, (some .long), 0, false)
abbrev mX10_thereOf : rf_M := (10, yX10_thereOf, cX10_thereOf, 6, (some .int), 1, true)
abbrev mX10_count : rf_M := (10, yX10_count, cX10_count, 4, (some .int), 1, false)
abbrev mX10_finding : rf_M := (10, yX10_finding, cX10_finding, 1, (some .int), 0, false)
abbrev mX10_findings : rf_M := (10, yX10_findings, cX10_findings, 2, (some .int), 1, false)
abbrev mX10_digest : rf_M := (10, yX10_digest, cX10_digest, 5, (some .long), 0, false)
abbrev mJ6_bitCount_0f7a4 : rf_M := (11, yJ6_bitCount_0f7a4, cJ6_bitCount_0f7a4, 1, (some .int), 1, true)
abbrev mJ7_fill_53178 : rf_M := (13, yJ7_fill_53178, cJ7_fill_53178, 4, none, 2, true)
abbrev mJ7_fill_031fb : rf_M := (13, yJ7_fill_031fb, cJ7_fill_031fb, 4, none, 2, true)
/-- own class, index, the field (class times 100 and its place), whether by the nest -/
def rf_isN (w : Cond) : Bool := match w with
  | .fieldLinkNest .. => true
  | .methodLinkNest .. => true
  | _ => false
def rf_tb : List Cond := lw_tbl.filter goodWord
def rf_nw : List Cond := lw_tbl.filter rf_isN
theorem rf_in_tb {w : Cond} (h : w ∈ lw_tbl) (g : goodWord w = true) : w ∈ rf_tb := List.mem_filter.mpr ⟨h, g⟩
theorem rf_in_nw {w : Cond} (h : w ∈ lw_tbl) (g : rf_isN w = true) : w ∈ rf_nw := List.mem_filter.mpr ⟨h, g⟩
theorem rf_tb_good {w : Cond} (h : w ∈ rf_tb) : (w.onTables && w.keeps) = true ∨ ∃ ty, w = .arrayClass ty := good_of_word (List.mem_filter.mp h).2
def rf_fl (e : Nat × Nat × Nat × Bool) : Cond := match vwCl[e.2.2.1 / 100]? with
  | some q => if e.2.2.2 = true then .fieldLinkNest (rf_cn e.1) e.2.1 (q.2.1 (e.2.2.1 % 100)).1 (q.2.1 (e.2.2.1 % 100)).2.1 (q.2.1 (e.2.2.1 % 100)).2.2.1 "FeltCold" else .fieldLink (rf_cn e.1) e.2.1 (q.2.1 (e.2.2.1 % 100)).1 (q.2.1 (e.2.2.1 % 100)).2.1 (q.2.1 (e.2.2.1 % 100)).2.2.1
  | none => .tt
def rf_cl (e : Nat × Nat × Bool × MethodName) : Cond := if e.2.2.1 = true then .methodLinkNest (rf_cn e.1) e.2.1 e.2.2.2 "FeltCold" else .methodLink (rf_cn e.1) e.2.1 e.2.2.2
def rf_ats (ps : List Nat) : List Cond := ps.filterMap (fun i => lw_tbl[i]?)
theorem rf_ats_in {α : Type} {f : α → Cond} {l : List α} {ps : List Nat} (h : l.map f = rf_ats ps) : ∀ e ∈ l, f e ∈ lw_tbl := by
  intro e he
  have h1 : f e ∈ rf_ats ps := h ▸ List.mem_map_of_mem he
  obtain ⟨i, -, hi⟩ := List.mem_filterMap.mp h1
  exact List.mem_of_getElem? hi
theorem rf_all_app {α : Type} {P : α → Prop} {a b : List α} (ha : ∀ e ∈ a, P e) (hb : ∀ e ∈ b, P e) : ∀ e ∈ a ++ b, P e := List.forall_mem_append.mpr ⟨ha, hb⟩


def rf_fT_0 : List (Nat × Nat × Nat × Bool) := [(0, 9, 0, false), (0, 15, 1, false), (0, 57, 801, true), (1, 9, 100, false), (1, 17, 101, false), (1, 20, 102, false), (1, 29, 103, false), (2, 9, 200, false), (2, 15, 201, false), (2, 18, 202, false), (2, 21, 203, false), (2, 24, 204, false), (2, 27, 205, false), (2, 30, 206, false), (2, 34, 207, false), (3, 12, 300, false), (3, 21, 301, false), (3, 35, 207, true), (3, 71, 302, false), (3, 78, 206, true)]
theorem rf_fT_ok0 : ∀ e ∈ rf_fT_0, rf_fl e ∈ lw_tbl := rf_ats_in (ps := [304, 306, 195, 238, 239, 240, 242, 138, 140, 142, 144, 146, 148, 150, 153, 173, 175, 154, 176, 152]) (by decide +kernel)
def rf_fT_1 : List (Nat × Nat × Nat × Bool) := [(4, 11, 400, false), (4, 16, 401, false), (5, 9, 500, false), (5, 15, 501, false), (5, 18, 502, false), (5, 21, 503, false), (5, 33, 801, true), (5, 47, 504, false), (5, 51, 505, false), (5, 62, 802, true), (6, 9, 600, false), (6, 15, 601, false), (6, 34, 602, false), (7, 11, 700, false), (7, 16, 701, false), (8, 12, 800, false), (8, 18, 801, false), (8, 22, 802, false), (8, 25, 803, false), (8, 28, 804, false)]
theorem rf_fT_ok1 : ∀ e ∈ rf_fT_1, rf_fl e ∈ lw_tbl := rf_ats_in (ps := [99, 100, 259, 260, 261, 262, 194, 264, 266, 198, 287, 288, 289, 117, 118, 192, 193, 197, 200, 202]) (by decide +kernel)
def rf_fT_2 : List (Nat × Nat × Nat × Bool) := [(8, 31, 805, false), (8, 41, 200, true), (8, 48, 205, true), (8, 57, 806, false), (8, 61, 807, false), (8, 64, 808, false), (8, 67, 207, true), (8, 70, 206, true), (8, 77, 201, true), (8, 80, 202, true), (8, 83, 203, true), (8, 86, 204, true), (9, 10, 900, false), (9, 19, 901, false), (9, 26, 902, false), (9, 33, 903, false), (9, 40, 904, false), (9, 47, 905, false), (9, 54, 906, false), (9, 61, 907, false)]
theorem rf_fT_ok2 : ∀ e ∈ rf_fT_2, rf_fl e ∈ lw_tbl := rf_ats_in (ps := [204, 139, 149, 205, 207, 209, 155, 151, 141, 143, 145, 147, 313, 314, 315, 316, 317, 318, 319, 320]) (by decide +kernel)
def rf_fT_3 : List (Nat × Nat × Nat × Bool) := [(9, 65, 908, false), (9, 88, 910, false), (9, 140, 300, true), (9, 164, 801, true), (9, 199, 804, true), (9, 207, 802, true), (9, 210, 803, true), (9, 217, 806, true), (9, 227, 808, true), (9, 242, 103, true), (9, 259, 102, true), (9, 280, 504, true), (9, 283, 503, true), (9, 286, 505, true), (9, 296, 602, true), (9, 342, 0, true), (9, 346, 1, true), (9, 349, 807, true), (9, 355, 401, true), (9, 361, 701, true)]
theorem rf_fT_ok3 : ∀ e ∈ rf_fT_3, rf_fl e ∈ lw_tbl := rf_ats_in (ps := [321, 323, 174, 196, 203, 199, 201, 206, 210, 243, 241, 265, 263, 267, 290, 305, 307, 208, 101, 119]) (by decide +kernel)
def rf_fT_4 : List (Nat × Nat × Nat × Bool) := [(9, 362, 909, false), (10, 7, 1000, false), (10, 13, 1001, false), (10, 16, 1002, false), (10, 19, 1003, false), (10, 22, 1005, false), (10, 25, 1008, false), (10, 29, 1014, false), (10, 32, 1015, false), (10, 35, 1018, false), (10, 38, 1019, false), (10, 41, 1020, false), (10, 44, 1021, false), (10, 47, 1022, false), (10, 50, 1023, false), (10, 53, 1024, false), (10, 56, 1026, false), (10, 59, 1027, false), (10, 62, 1028, false), (10, 65, 1029, false)]
theorem rf_fT_ok4 : ∀ e ∈ rf_fT_4, rf_fl e ∈ lw_tbl := rf_ats_in (ps := [322, 1007, 1008, 1009, 1010, 1012, 1015, 1021, 1022, 1025, 1026, 1027, 1028, 1029, 1030, 1031, 1033, 1034, 1035, 1036]) (by decide +kernel)
def rf_fT_5 : List (Nat × Nat × Nat × Bool) := [(10, 68, 1004, false), (10, 72, 1006, false), (10, 75, 1017, false), (10, 82, 1016, false), (10, 99, 1011, false), (10, 102, 1010, false), (10, 108, 1009, false), (10, 115, 1012, false), (10, 118, 1013, false), (10, 143, 1025, false), (10, 260, 1007, false)]
theorem rf_fT_ok5 : ∀ e ∈ rf_fT_5, rf_fl e ∈ lw_tbl := rf_ats_in (ps := [1011, 1013, 1024, 1023, 1018, 1017, 1016, 1019, 1020, 1032, 1014]) (by decide +kernel)
def rf_fT : List (Nat × Nat × Nat × Bool) := rf_fT_0 ++ (rf_fT_1 ++ (rf_fT_2 ++ (rf_fT_3 ++ (rf_fT_4 ++ (rf_fT_5)))))
theorem rf_fT_ok : ∀ e ∈ rf_fT, rf_fl e ∈ lw_tbl := rf_all_app rf_fT_ok0 (rf_all_app rf_fT_ok1 (rf_all_app rf_fT_ok2 (rf_all_app rf_fT_ok3 (rf_all_app rf_fT_ok4 (rf_fT_ok5)))))
def rf_cT_0 : List (Nat × Nat × Bool × MethodName) := [(0, 18, false, yX8_there), (0, 24, false, yX0_seeming), (0, 28, false, yJ6_bitCount_0f7a4), (0, 33, false, yX0_ways), (0, 45, false, yX0_reduce), (0, 50, false, yX8_members), (0, 54, false, yX8_does), (0, 61, true, yX9_seen), (1, 23, false, yJ7_fill_53178), (1, 33, false, yX1_left), (1, 37, false, yX8_act), (1, 43, false, yX8_begin), (1, 52, false, yX1_goBack), (2, 37, false, yX2_hasSpaceForRoom), (2, 41, false, yX2_hasSpaceForMember), (3, 18, false, yX2_clear), (3, 25, false, yX7_sizeOf), (3, 31, false, yX3_skipBlanks), (3, 38, false, yX3_readItem), (3, 42, false, yX7_has)]
theorem rf_cT_ok0 : ∀ e ∈ rf_cT_0, rf_cl e ∈ lw_tbl := rf_ats_in (ps := [921, 922, 929, 930, 937, 926, 927, 928, 237, 675, 676, 733, 754, 509, 527, 475, 479, 483, 489, 487]) (by decide +kernel)
def rf_cT_1 : List (Nat × Nat × Bool × MethodName) := [(3, 46, false, yX7_get), (3, 50, false, yX2_hasSpaceForRoom), (3, 54, false, yX3_readRoom), (3, 57, false, yX3_kindBySign), (3, 60, false, yX2_hasSpaceForMember), (3, 63, false, yX3_readMember), (3, 67, false, yX3_readNumber), (3, 74, false, yX2_addRoom), (3, 81, false, yX2_addMember), (4, 20, false, yJ7_fill_53178), (5, 24, false, yX8_members), (5, 30, false, yX8_rooms), (5, 36, false, yX8_likeAt), (5, 41, false, yJ7_fill_53178), (5, 54, false, yX5_sendFrom), (5, 58, false, yX5_compare), (5, 71, false, yJ6_bitCount_0f7a4), (5, 76, false, yX8_needOf), (6, 18, false, yJ7_fill_53178), (6, 24, false, yX8_members)]
theorem rf_cT_ok1 : ∀ e ∈ rf_cT_1, rf_cl e ∈ lw_tbl := rf_ats_in (ps := [488, 493, 497, 510, 515, 519, 501, 505, 523, 96, 804, 805, 806, 808, 809, 813, 817, 818, 833, 834]) (by decide +kernel)
def rf_cT_2 : List (Nat × Nat × Bool × MethodName) := [(6, 30, false, yX8_does), (7, 20, false, yJ7_fill_53178), (7, 26, false, yJ7_fill_031fb), (8, 34, false, yX2_takeFrom), (8, 38, false, yX8_begin), (8, 51, false, yJ7_fill_53178), (8, 73, false, yX8_everybody), (8, 89, false, yX8_kindOf), (8, 93, true, yX9_isOfKind), (8, 97, false, yX8_markOf), (8, 100, false, yX8_feeling), (8, 111, false, yX8_upFrom), (8, 114, false, yX8_widthOf), (8, 117, false, yX8_doingBy), (8, 121, false, yX8_wouldAs), (8, 124, false, yX8_would), (8, 127, false, yX8_does), (8, 130, false, yX8_doesNow), (8, 133, true, yX9_seen), (8, 137, false, yX8_likeAt)]
theorem rf_cT_ok2 : ∀ e ∈ rf_cT_2, rf_cl e ∈ lw_tbl := rf_ats_in (ps := [835, 116, 440, 536, 541, 546, 783, 583, 588, 584, 585, 611, 607, 608, 603, 599, 595, 642, 771, 767]) (by decide +kernel)
def rf_cT_3 : List (Nat × Nat × Bool × MethodName) := [(8, 140, false, yX8_spanAt), (8, 143, true, yX9_sick), (8, 147, false, yX8_there), (8, 150, false, yX8_catchers), (8, 156, false, yX8_passColds), (9, 69, false, yX9_isRow), (9, 73, false, yX9_find), (9, 77, false, yX4_make), (9, 81, false, yX9_refusedPlace), (9, 85, false, yX4_get), (9, 92, false, yX4_set), (9, 96, false, yX9_refusedRow), (9, 99, false, yX4_remove), (9, 103, false, yX4_isMissing), (9, 106, false, yX4_hasAll), (9, 110, false, yX4_move), (9, 114, false, yX4_sizeOf), (9, 117, false, yX4_sum), (9, 121, false, yX9_isText), (9, 124, false, yX7_make)]
theorem rf_cT_ok3 : ∀ e ∈ rf_cT_3, rf_cl e ∈ lw_tbl := rf_ats_in (ps := [763, 691, 692, 687, 683, 351, 354, 358, 366, 382, 386, 370, 398, 374, 406, 410, 421, 425, 433, 436]) (by decide +kernel)
def rf_cT_4 : List (Nat × Nat × Bool × MethodName) := [(9, 125, false, yX9_refusedText), (9, 128, false, yX7_has), (9, 132, false, yX7_get), (9, 133, false, yX7_set), (9, 136, false, yX3_read), (9, 144, false, yX8_settle), (9, 148, false, yX1_forget), (9, 151, false, yX8_members), (9, 155, false, yX9_isMember), (9, 158, false, yX9_ofMember), (9, 161, false, yX9_isRoom), (9, 167, false, yX8_needOf), (9, 170, false, yX8_there), (9, 173, false, yX8_doers), (9, 176, false, yX8_kindOf), (9, 179, false, yX9_isOfKind), (9, 182, false, yX8_would), (9, 185, false, yJ6_bitCount_0f7a4), (9, 190, false, yX8_otherTwins), (9, 193, false, yX8_feltBy)]
theorem rf_cT_ok4 : ∀ e ∈ rf_cT_4, rf_cl e ∈ lw_tbl := rf_ats_in (ps := [447, 455, 459, 463, 471, 532, 547, 551, 559, 563, 622, 630, 634, 638, 567, 647, 648, 649, 655, 579]) (by decide +kernel)
def rf_cT_5 : List (Nat × Nat × Bool × MethodName) := [(9, 196, false, yX8_markOf), (9, 213, false, yX9_sick), (9, 220, false, yX1_left), (9, 223, false, yX1_carryOut), (9, 230, false, yX9_refusedDeed), (9, 233, false, yX8_catchers), (9, 236, false, yX8_doesNow), (9, 239, false, yX9_isDegree), (9, 245, false, yX1_goBack), (9, 249, false, yX9_isKept), (9, 252, false, yX8_isEmpty), (9, 256, false, yX1_store), (9, 262, false, yX1_resume), (9, 265, false, yX8_spanIn), (9, 268, false, yX8_isSet), (9, 271, false, yX8_rooms), (9, 274, false, yX8_everybody), (9, 277, false, yX5_seek), (9, 289, false, yX6_look), (9, 293, false, yX6_partsBy)]
theorem rf_cT_ok5 : ∀ e ∈ rf_cT_5, rf_cl e ∈ lw_tbl := rf_ats_in (ps := [571, 660, 667, 671, 697, 705, 591, 722, 729, 738, 701, 741, 750, 759, 779, 626, 795, 800, 829, 836]) (by decide +kernel)
def rf_cT_6 : List (Nat × Nat × Bool × MethodName) := [(9, 299, false, yX8_spanAt), (9, 302, false, yX9_refusedRecord), (9, 305, false, yX9_fitting), (9, 308, false, yX9_refusedDays), (9, 311, false, yX8_wouldAs), (9, 315, false, yX9_agreesWithDays), (9, 318, false, yX8_copyOfColds), (9, 322, false, yX8_passColds), (9, 326, false, yX8_staysSo), (9, 330, false, yX9_weighed), (9, 338, false, yX9_carryOutLot), (9, 352, false, yX8_sneezers), (9, 358, false, yX9_present), (9, 369, false, yX9_count), (9, 372, false, yX9_digestTown), (9, 376, false, yX7_sizeOf), (9, 377, false, yX9_room), (9, 380, false, yX8_widthOf), (9, 383, false, yX4_has), (9, 384, false, yX7_isMissing)]
theorem rf_cT_ok6 : ∀ e ∈ rf_cT_6, rf_cl e ∈ lw_tbl := rf_ats_in (ps := [849, 854, 866, 879, 883, 884, 896, 900, 905, 913, 951, 973, 977, 994, 995, 1000, 999, 575, 378, 451]) (by decide +kernel)
def rf_cT_7 : List (Nat × Nat × Bool × MethodName) := [(9, 385, false, yX9_refusedPairs), (9, 388, false, yX4_arePairs), (9, 392, false, yX9_seen), (9, 396, false, yX0_weigh), (10, 78, false, yX10_in), (10, 85, false, yX10_finds), (10, 89, false, yX10_wrongAt), (10, 93, false, yX10_tells), (10, 96, false, yX10_isPart), (10, 105, false, yX10_letterAt), (10, 111, false, yX10_isFigure), (10, 121, false, yX10_two), (10, 124, false, yX10_sortBy), (10, 127, false, yX10_one), (10, 130, false, yX10_skip), (10, 133, false, yX10_isRoomItem), (10, 137, false, yX10_isMemberItem), (10, 140, false, yX10_read), (10, 146, false, yX10_feelsBy), (10, 150, false, yX10_feels)]
theorem rf_cT_ok7 : ∀ e ∈ rf_cT_7, rf_cl e ∈ lw_tbl := rf_ats_in (ps := [858, 862, 870, 917, 1102, 1105, 1113, 1117, 1133, 1160, 1172, 1168, 1180, 1183, 1156, 1164, 1176, 1152, 1207, 1203]) (by decide +kernel)
def rf_cT_8 : List (Nat × Nat × Bool × MethodName) := [(10, 154, false, yX10_doesBy), (10, 158, false, yX10_wouldAt), (10, 162, false, yX10_doesAt), (10, 165, false, yX10_does), (10, 169, false, yX10_isOne), (10, 172, false, yX10_memberTells), (10, 175, false, yX10_isRoom), (10, 178, false, yX10_thereIn), (10, 181, false, yX10_doing), (10, 185, false, yX10_is), (10, 189, false, yX10_coldIn), (10, 192, false, yX10_bits), (10, 195, false, yX10_bring), (10, 199, false, yX10_note), (10, 202, false, yX10_step), (10, 206, false, yX10_has), (10, 209, false, yX10_noDeed), (10, 213, false, yX10_pass), (10, 216, false, yX10_coldOnes), (10, 219, false, yX10_spanOf)]
theorem rf_cT_ok8 : ∀ e ∈ rf_cT_8, rf_cl e ∈ lw_tbl := rf_ats_in (ps := [1222, 1218, 1214, 1210, 1195, 1199, 1229, 1233, 1237, 1245, 1248, 1252, 1263, 1259, 1266, 1282, 1274, 1278, 1293, 1321]) (by decide +kernel)
def rf_cT_9 : List (Nat × Nat × Bool × MethodName) := [(10, 222, false, yX10_isSet), (10, 225, false, yX10_knownIn), (10, 228, false, yX10_ways), (10, 231, false, yX10_walkBy), (10, 235, false, yX10_row), (10, 238, false, yX10_doingAt), (10, 241, false, yX10_alikeBy), (10, 244, false, yX10_partsBy), (10, 247, false, yX10_wrongPairs), (10, 250, false, yX10_fitsBy), (10, 253, false, yX10_isBy), (10, 256, false, yX10_isServed), (10, 265, false, yX10_tellsPart), (10, 269, false, yX10_seems), (10, 282, false, yX10_thereOf), (10, 289, false, yX10_count), (10, 292, false, yX10_room)]
theorem rf_cT_ok9 : ∀ e ∈ rf_cT_9, rf_cl e ∈ lw_tbl := rf_ats_in (ps := [1329, 1337, 1349, 1353, 1357, 1374, 1370, 1366, 1390, 1394, 1406, 1422, 1435, 1430, 1468, 1485, 1486]) (by decide +kernel)
def rf_cT : List (Nat × Nat × Bool × MethodName) := rf_cT_0 ++ (rf_cT_1 ++ (rf_cT_2 ++ (rf_cT_3 ++ (rf_cT_4 ++ (rf_cT_5 ++ (rf_cT_6 ++ (rf_cT_7 ++ (rf_cT_8 ++ (rf_cT_9)))))))))
theorem rf_cT_ok : ∀ e ∈ rf_cT, rf_cl e ∈ lw_tbl := rf_all_app rf_cT_ok0 (rf_all_app rf_cT_ok1 (rf_all_app rf_cT_ok2 (rf_all_app rf_cT_ok3 (rf_all_app rf_cT_ok4 (rf_all_app rf_cT_ok5 (rf_all_app rf_cT_ok6 (rf_all_app rf_cT_ok7 (rf_all_app rf_cT_ok8 (rf_cT_ok9)))))))))
def rf_an (x : Nat) : MethodName := if x = 1000 then arraycopyName else if x = 1001 then Lib.Math.abs.name else if x = 1002 then Lib.Math.max.name else Lib.Math.min.name
def rf_awl (e : Nat × Nat × Nat) : Cond := .methodLink (rf_cn e.1) e.2.1 (rf_an e.2.2)
def rf_aT_0 : List (Nat × Nat × Nat) := [(9, 202, 1002), (0, 37, 1003), (1, 46, 1000), (2, 44, 1000), (4, 26, 1000), (5, 65, 1001), (5, 79, 1000), (6, 38, 1002), (8, 42, 1000), (8, 105, 1002), (8, 153, 1001)]
theorem rf_aT_ok0 : ∀ e ∈ rf_aT_0, rf_awl e ∈ lw_tbl := rf_ats_in (ps := [659, 933, 745, 540, 414, 820, 819, 840, 545, 615, 680]) (by decide +kernel)
def rf_aT : List (Nat × Nat × Nat) := rf_aT_0
theorem rf_aT_ok : ∀ e ∈ rf_aT, rf_awl e ∈ lw_tbl := rf_aT_ok0
def rf_kwl (e : Nat × Nat × Nat) : Cond := .constant (rf_cn e.1) e.2.1 (Int32.ofNat e.2.2)
def rf_kT_0 : List (Nat × Nat × Nat) := [(9, 391, 2147483647), (0, 49, 2147483647), (5, 40, 2147483647), (8, 104, 2147483647), (10, 273, 2147483646), (11, 265, 1431655765), (11, 266, 858993459), (11, 267, 252645135)]
theorem rf_kT_ok0 : ∀ e ∈ rf_kT_0, rf_kwl e ∈ lw_tbl := rf_ats_in (ps := [774, 925, 807, 614, 1447, 652, 653, 654]) (by decide +kernel)
def rf_kT : List (Nat × Nat × Nat) := rf_kT_0
theorem rf_kT_ok : ∀ e ∈ rf_kT, rf_kwl e ∈ lw_tbl := rf_kT_ok0
def rf_lwl (e : Nat × Nat × Nat) : Cond := .constantLong (rf_cn e.1) e.2.1 (Int64.ofNat e.2.2)
def rf_lT_0 : List (Nat × Nat × Nat) := [(9, 334, 2147483647), (9, 336, 48271), (9, 365, 17), (9, 367, 31), (9, 400, 8), (9, 402, 4), (0, 43, 12), (10, 263, 12), (10, 274, 48271), (10, 276, 2147483647), (10, 278, 4), (10, 280, 8), (10, 285, 17), (10, 287, 31)]
theorem rf_lT_ok0 : ∀ e ∈ rf_lT_0, rf_lwl e ∈ lw_tbl := rf_ats_in (ps := [949, 950, 992, 993, 955, 956, 936, 1434, 1448, 1449, 1450, 1451, 1483, 1484]) (by decide +kernel)
def rf_lT : List (Nat × Nat × Nat) := rf_lT_0
theorem rf_lT_ok : ∀ e ∈ rf_lT, rf_lwl e ∈ lw_tbl := rf_lT_ok0
def rf_iwl (o : Nat) : Cond := .initialized (rf_cn o)
def rf_iT_0 : List Nat := [0, 1, 2, 3, 4, 5, 6, 7, 8, 9, 10, 11, 12, 13]
theorem rf_iT_ok0 : ∀ e ∈ rf_iT_0, rf_iwl e ∈ lw_tbl := rf_ats_in (ps := [75, 72, 70, 69, 66, 73, 74, 68, 71, 65, 76, 79, 78, 67]) (by decide +kernel)
def rf_iT : List Nat := rf_iT_0
theorem rf_iT_ok : ∀ e ∈ rf_iT, rf_iwl e ∈ lw_tbl := rf_iT_ok0
theorem rf_ac_ok : Cond.native arraycopyName ∈ lw_tbl ∧ Cond.static arraycopyName ∈ lw_tbl ∧ Cond.initialized "java/lang/System" ∈ lw_tbl := ⟨List.mem_of_getElem? (i := 416) (by decide +kernel), List.mem_of_getElem? (i := 415) (by decide +kernel), List.mem_of_getElem? (i := 77) (by decide +kernel)⟩
theorem rf_abs_ok : Cond.static Lib.Math.abs.name ∈ lw_tbl ∧ Cond.code Lib.Math.abs.name Lib.Math.abs.code 1 (some .int) ∈ lw_tbl := ⟨List.mem_of_getElem? (i := 681) (by decide +kernel), List.mem_of_getElem? (i := 682) (by decide +kernel)⟩
theorem rf_max_ok : Cond.static Lib.Math.max.name ∈ lw_tbl ∧ Cond.code Lib.Math.max.name Lib.Math.max.code 2 (some .int) ∈ lw_tbl := ⟨List.mem_of_getElem? (i := 616) (by decide +kernel), List.mem_of_getElem? (i := 617) (by decide +kernel)⟩
theorem rf_min_ok : Cond.static Lib.Math.min.name ∈ lw_tbl ∧ Cond.code Lib.Math.min.name Lib.Math.min.code 2 (some .int) ∈ lw_tbl := ⟨List.mem_of_getElem? (i := 934) (by decide +kernel), List.mem_of_getElem? (i := 935) (by decide +kernel)⟩
end
section
def rf_cwl (M : rf_M) : Cond := .code M.2.1 M.2.2.1 M.2.2.2.1 M.2.2.2.2.1
def rf_swl (M : rf_M) : Cond := .static M.2.1
def rf_nwl (M : rf_M) : Cond := .instanceMethod M.2.1
def rf_vwl (M : rf_M) : Cond := .selects M.2.1.cls M.2.1 M.2.1
def rf_mt_0 : List rf_M := [mX0_weigh, mX0_seeming, mX0_ways, mX0_reduce, mX1_forget, mX1_left, mX1_carryOut, mX1_goBack, mX1_store, mX1_resume, mX2_clear, mX2_hasSpaceForRoom, mX2_hasSpaceForMember, mX2_addRoom, mX2_addMember]
theorem rf_mt_ok0 : ∀ e ∈ rf_mt_0, rf_cwl e ∈ lw_tbl := rf_ats_in (ps := [920, 924, 932, 940, 550, 670, 674, 732, 744, 753, 478, 496, 518, 508, 526]) (by decide +kernel)
def rf_mt_1 : List rf_M := [mX2_takeFrom, mX3_read, mX3_skipBlanks, mX3_readItem, mX3_readRoom, mX3_readMember, mX3_readNumber, mX3_kindBySign, mX4_make, mX4_remove, mX4_isMissing, mX4_sizeOf, mX4_has, mX4_hasAll, mX4_get]
theorem rf_mt_ok1 : ∀ e ∈ rf_mt_1, rf_cwl e ∈ lw_tbl := rf_ats_in (ps := [539, 474, 486, 492, 500, 522, 504, 512, 361, 401, 377, 424, 381, 409, 385]) (by decide +kernel)
def rf_mt_2 : List rf_M := [mX4_set, mX4_move, mX4_sum, mX4_arePairs, mX5_seek, mX5_sendFrom, mX5_compare, mX6_look, mX6_partsBy, mX7_make, mX7_isMissing, mX7_sizeOf, mX7_has, mX7_get, mX7_set]
theorem rf_mt_ok2 : ∀ e ∈ rf_mt_2, rf_cwl e ∈ lw_tbl := rf_ats_in (ps := [389, 413, 428, 865, 803, 812, 816, 832, 839, 439, 454, 482, 458, 462, 466]) (by decide +kernel)
def rf_mt_3 : List rf_M := [mX8_settle, mX8_begin, mX8_members, mX8_rooms, mX8_isEmpty, mX8_everybody, mX8_isSet, mX8_needOf, mX8_kindOf, mX8_markOf, mX8_widthOf, mX8_there, mX8_sneezers, mX8_otherTwins, mX8_feltBy]
theorem rf_mt_ok3 : ∀ e ∈ rf_mt_3, rf_cwl e ∈ lw_tbl := rf_ats_in (ps := [535, 544, 554, 629, 704, 786, 782, 633, 570, 574, 578, 637, 976, 658, 582]) (by decide +kernel)
def rf_mt_4 : List rf_M := [mX8_feeling, mX8_upFrom, mX8_doingBy, mX8_wouldAs, mX8_would, mX8_does, mX8_doesNow, mX8_doers, mX8_likeAt, mX8_spanAt, mX8_spanIn, mX8_copyOfColds, mX8_catchers, mX8_passColds, mX8_staysSo]
theorem rf_mt_ok4 : ∀ e ∈ rf_mt_4, rf_cwl e ∈ lw_tbl := rf_ats_in (ps := [587, 613, 610, 606, 602, 598, 594, 641, 770, 766, 762, 899, 690, 686, 908]) (by decide +kernel)
def rf_mt_5 : List rf_M := [mX8_act, mX9_row, mX9_lay, mX9_at, mX9_tear, mX9_copy, mX9_mean, mX9_text, mX9_put, mX9_fault, mX9_town, mX9_member, mX9_room, mX9_mark, mX9_walk]
theorem rf_mt_ok5 : ∀ e ∈ rf_mt_5, rf_cwl e ∈ lw_tbl := rf_ats_in (ps := [679, 350, 365, 393, 397, 405, 420, 432, 446, 470, 531, 558, 621, 646, 666]) (by decide +kernel)
def rf_mt_6 : List rf_M := [mX9_hour, mX9_soup, mX9_cold, mX9_love, mX9_fire, mX9_undo, mX9_keep, mX9_on, mX9_span, mX9_spanBy, mX9_known, mX9_box, mX9_send, mX9_most, mX9_parts]
theorem rf_mt_ok6 : ∀ e ∈ rf_mt_6, rf_cwl e ∈ lw_tbl := rf_ats_in (ps := [696, 709, 713, 717, 721, 728, 737, 749, 758, 778, 790, 794, 799, 824, 828]) (by decide +kernel)
def rf_mt_7 : List rf_M := [mX9_fewest, mX9_alike, mX9_fits, mX9_tickled, mX9_shifts, mX9_kinds, mX9_spreads, mX9_soups, mX9_odds, mX9_mid, mX9_lots, mX9_asked, mX9_upper, mX9_lower, mX9_count]
theorem rf_mt_ok7 : ∀ e ∈ rf_mt_7, rf_cwl e ∈ lw_tbl := rf_ats_in (ps := [844, 848, 853, 874, 878, 891, 895, 904, 912, 944, 948, 960, 964, 968, 972]) (by decide +kernel)
def rf_mt_8 : List rf_M := [mX9_finding, mX9_findings, mX9_digest, mX9_digestTown, mX9_find, mX9_isRow, mX9_isText, mX9_isKept, mX9_isDegree, mX9_isRoom, mX9_isMember, mX9_ofMember, mX9_refusedRow, mX9_refusedPlace, mX9_refusedText]
theorem rf_mt_ok8 : ∀ e ∈ rf_mt_8, rf_cwl e ∈ lw_tbl := rf_ats_in (ps := [983, 987, 991, 998, 357, 353, 435, 740, 724, 625, 562, 566, 373, 369, 450]) (by decide +kernel)
def rf_mt_9 : List rf_M := [mX9_refusedDeed, mX9_refusedRecord, mX9_refusedDays, mX9_refusedPairs, mX9_fitting, mX9_agreesWithDays, mX9_weighed, mX9_carryOutLot, mX9_seen, mX9_sick, mX9_present, mX9_isOfKind, mX10_in, mX10_has, mX10_bits]
theorem rf_mt_ok9 : ∀ e ∈ rf_mt_9, rf_cwl e ∈ lw_tbl := rf_ats_in (ps := [700, 857, 882, 861, 869, 887, 916, 954, 773, 662, 979, 590, 1104, 1284, 1254]) (by decide +kernel)
def rf_mt_10 : List rf_M := [mX10_finds, mX10_tells, mX10_bring, mX10_isOne, mX10_isRoom, mX10_isSet, mX10_row, mX10_wrongAt, mX10_lay, mX10_at, mX10_tear, mX10_isPart, mX10_copy, mX10_mean, mX10_text]
theorem rf_mt_ok10 : ∀ e ∈ rf_mt_10, rf_cwl e ∈ lw_tbl := rf_ats_in (ps := [1108, 1120, 1265, 1198, 1232, 1332, 1101, 1116, 1112, 1124, 1128, 1135, 1132, 1139, 1143]) (by decide +kernel)
def rf_mt_11 : List rf_M := [mX10_put, mX10_letterAt, mX10_isFigure, mX10_two, mX10_one, mX10_isRoomItem, mX10_sortBy, mX10_isMemberItem, mX10_skip, mX10_read, mX10_fault, mX10_town, mX10_feelsBy, mX10_feels, mX10_doesBy]
theorem rf_mt_ok11 : ∀ e ∈ rf_mt_11, rf_cwl e ∈ lw_tbl := rf_ats_in (ps := [1147, 1163, 1175, 1171, 1186, 1167, 1182, 1179, 1159, 1155, 1151, 1190, 1209, 1206, 1224]) (by decide +kernel)
def rf_mt_12 : List rf_M := [mX10_wouldAt, mX10_doesAt, mX10_does, mX10_thereIn, mX10_doing, mX10_memberTells, mX10_member, mX10_room, mX10_is, mX10_coldIn, mX10_mark, mX10_note, mX10_step, mX10_walk, mX10_pass]
theorem rf_mt_ok12 : ∀ e ∈ rf_mt_12, rf_cwl e ∈ lw_tbl := rf_ats_in (ps := [1221, 1217, 1213, 1236, 1240, 1202, 1194, 1228, 1247, 1251, 1244, 1262, 1269, 1258, 1281]) (by decide +kernel)
def rf_mt_13 : List rf_M := [mX10_noDeed, mX10_hour, mX10_soup, mX10_coldOnes, mX10_cold, mX10_love, mX10_fire, mX10_undo, mX10_keep, mX10_on, mX10_spanOf, mX10_span, mX10_spanBy, mX10_knownIn, mX10_known]
theorem rf_mt_ok13 : ∀ e ∈ rf_mt_13, rf_cwl e ∈ lw_tbl := rf_ats_in (ps := [1277, 1273, 1288, 1296, 1292, 1300, 1304, 1308, 1312, 1316, 1324, 1320, 1328, 1340, 1336]) (by decide +kernel)
def rf_mt_14 : List rf_M := [mX10_box, mX10_walkBy, mX10_ways, mX10_send, mX10_most, mX10_doingAt, mX10_alikeBy, mX10_partsBy, mX10_parts, mX10_fewest, mX10_alike, mX10_wrongPairs, mX10_fitsBy, mX10_fits, mX10_tickled]
theorem rf_mt_ok14 : ∀ e ∈ rf_mt_14, rf_cwl e ∈ lw_tbl := rf_ats_in (ps := [1344, 1356, 1352, 1348, 1361, 1377, 1373, 1369, 1365, 1381, 1385, 1393, 1397, 1389, 1401]) (by decide +kernel)
def rf_mt_15 : List rf_M := [mX10_isBy, mX10_shifts, mX10_kinds, mX10_spreads, mX10_isServed, mX10_soups, mX10_tellsPart, mX10_seems, mX10_odds, mX10_mid, mX10_lots, mX10_asked, mX10_upper, mX10_lower, mX10_thereOf]
theorem rf_mt_ok15 : ∀ e ∈ rf_mt_15, rf_cwl e ∈ lw_tbl := rf_ats_in (ps := [1409, 1405, 1413, 1417, 1425, 1421, 1438, 1433, 1429, 1442, 1446, 1455, 1459, 1463, 1470]) (by decide +kernel)
def rf_mt_16 : List rf_M := [mX10_count, mX10_finding, mX10_findings, mX10_digest, mJ6_bitCount_0f7a4, mJ7_fill_53178, mJ7_fill_031fb]
theorem rf_mt_ok16 : ∀ e ∈ rf_mt_16, rf_cwl e ∈ lw_tbl := rf_ats_in (ps := [1467, 1474, 1478, 1482, 651, 98, 442]) (by decide +kernel)
def rf_mt : List rf_M := rf_mt_0 ++ (rf_mt_1 ++ (rf_mt_2 ++ (rf_mt_3 ++ (rf_mt_4 ++ (rf_mt_5 ++ (rf_mt_6 ++ (rf_mt_7 ++ (rf_mt_8 ++ (rf_mt_9 ++ (rf_mt_10 ++ (rf_mt_11 ++ (rf_mt_12 ++ (rf_mt_13 ++ (rf_mt_14 ++ (rf_mt_15 ++ (rf_mt_16))))))))))))))))
theorem rf_mt_ok : ∀ e ∈ rf_mt, rf_cwl e ∈ lw_tbl := rf_all_app rf_mt_ok0 (rf_all_app rf_mt_ok1 (rf_all_app rf_mt_ok2 (rf_all_app rf_mt_ok3 (rf_all_app rf_mt_ok4 (rf_all_app rf_mt_ok5 (rf_all_app rf_mt_ok6 (rf_all_app rf_mt_ok7 (rf_all_app rf_mt_ok8 (rf_all_app rf_mt_ok9 (rf_all_app rf_mt_ok10 (rf_all_app rf_mt_ok11 (rf_all_app rf_mt_ok12 (rf_all_app rf_mt_ok13 (rf_all_app rf_mt_ok14 (rf_all_app rf_mt_ok15 (rf_mt_ok16))))))))))))))))
def rf_ms_0 : List rf_M := [mX0_seeming, mX0_ways, mX3_kindBySign, mX8_feeling, mX8_upFrom, mX8_doingBy, mX9_isRow, mX9_isText, mX9_isKept, mX9_isDegree, mX9_seen, mX9_sick, mX9_present, mX9_isOfKind, mX10_in, mX10_has, mX10_bits, mX10_bring, mX10_isPart, mX10_sortBy]
theorem rf_ms_ok0 : ∀ e ∈ rf_ms_0, rf_swl e ∈ lw_tbl := rf_ats_in (ps := [923, 931, 511, 586, 612, 609, 352, 434, 739, 723, 772, 661, 978, 589, 1103, 1283, 1253, 1264, 1134, 1181]) (by decide +kernel)
def rf_ms_1 : List rf_M := [mX10_feelsBy, mX10_doesBy, mX10_is, mX10_thereOf, mJ6_bitCount_0f7a4, mJ7_fill_53178, mJ7_fill_031fb]
theorem rf_ms_ok1 : ∀ e ∈ rf_ms_1, rf_swl e ∈ lw_tbl := rf_ats_in (ps := [1208, 1223, 1246, 1469, 650, 97, 441]) (by decide +kernel)
def rf_ms : List rf_M := rf_ms_0 ++ (rf_ms_1)
theorem rf_ms_ok : ∀ e ∈ rf_ms, rf_swl e ∈ lw_tbl := rf_all_app rf_ms_ok0 (rf_ms_ok1)
def rf_mi_0 : List rf_M := [mX0_weigh, mX0_reduce, mX1_forget, mX1_left, mX1_carryOut, mX1_goBack, mX1_store, mX1_resume, mX2_clear, mX2_hasSpaceForRoom, mX2_hasSpaceForMember, mX2_addRoom, mX2_addMember, mX2_takeFrom, mX3_read, mX3_skipBlanks, mX3_readItem, mX3_readRoom, mX3_readMember, mX3_readNumber]
theorem rf_mi_ok0 : ∀ e ∈ rf_mi_0, rf_nwl e ∈ lw_tbl := rf_ats_in (ps := [918, 939, 548, 668, 672, 730, 742, 751, 476, 494, 516, 506, 524, 537, 472, 485, 491, 499, 521, 503]) (by decide +kernel)
def rf_mi_1 : List rf_M := [mX4_make, mX4_remove, mX4_isMissing, mX4_sizeOf, mX4_has, mX4_hasAll, mX4_get, mX4_set, mX4_move, mX4_sum, mX4_arePairs, mX5_seek, mX5_sendFrom, mX5_compare, mX6_look, mX6_partsBy, mX7_make, mX7_isMissing, mX7_sizeOf, mX7_has]
theorem rf_mi_ok1 : ∀ e ∈ rf_mi_1, rf_nwl e ∈ lw_tbl := rf_ats_in (ps := [359, 399, 375, 422, 379, 407, 383, 387, 411, 426, 863, 801, 811, 815, 830, 837, 437, 452, 480, 456]) (by decide +kernel)
def rf_mi_2 : List rf_M := [mX7_get, mX7_set, mX8_settle, mX8_begin, mX8_members, mX8_rooms, mX8_isEmpty, mX8_everybody, mX8_isSet, mX8_needOf, mX8_kindOf, mX8_markOf, mX8_widthOf, mX8_there, mX8_sneezers, mX8_otherTwins, mX8_feltBy, mX8_wouldAs, mX8_would, mX8_does]
theorem rf_mi_ok2 : ∀ e ∈ rf_mi_2, rf_nwl e ∈ lw_tbl := rf_ats_in (ps := [460, 464, 533, 542, 552, 627, 702, 784, 780, 631, 568, 572, 576, 635, 974, 656, 580, 604, 600, 596]) (by decide +kernel)
def rf_mi_3 : List rf_M := [mX8_doesNow, mX8_doers, mX8_likeAt, mX8_spanAt, mX8_spanIn, mX8_copyOfColds, mX8_catchers, mX8_passColds, mX8_staysSo, mX8_act, mX9_row, mX9_lay, mX9_at, mX9_tear, mX9_copy, mX9_mean, mX9_text, mX9_put, mX9_fault, mX9_town]
theorem rf_mi_ok3 : ∀ e ∈ rf_mi_3, rf_nwl e ∈ lw_tbl := rf_ats_in (ps := [592, 639, 768, 764, 760, 897, 688, 684, 906, 677, 348, 363, 391, 395, 403, 418, 430, 444, 468, 529]) (by decide +kernel)
def rf_mi_4 : List rf_M := [mX9_member, mX9_room, mX9_mark, mX9_walk, mX9_hour, mX9_soup, mX9_cold, mX9_love, mX9_fire, mX9_undo, mX9_keep, mX9_on, mX9_span, mX9_spanBy, mX9_known, mX9_box, mX9_send, mX9_most, mX9_parts, mX9_fewest]
theorem rf_mi_ok4 : ∀ e ∈ rf_mi_4, rf_nwl e ∈ lw_tbl := rf_ats_in (ps := [556, 619, 644, 664, 694, 707, 711, 715, 719, 726, 735, 747, 756, 776, 788, 792, 797, 822, 826, 842]) (by decide +kernel)
def rf_mi_5 : List rf_M := [mX9_alike, mX9_fits, mX9_tickled, mX9_shifts, mX9_kinds, mX9_spreads, mX9_soups, mX9_odds, mX9_mid, mX9_lots, mX9_asked, mX9_upper, mX9_lower, mX9_count, mX9_finding, mX9_findings, mX9_digest, mX9_digestTown, mX9_find, mX9_isRoom]
theorem rf_mi_ok5 : ∀ e ∈ rf_mi_5, rf_nwl e ∈ lw_tbl := rf_ats_in (ps := [846, 851, 872, 876, 889, 893, 902, 910, 942, 946, 958, 962, 966, 970, 981, 985, 989, 997, 356, 624]) (by decide +kernel)
def rf_mi_6 : List rf_M := [mX9_isMember, mX9_ofMember, mX9_refusedRow, mX9_refusedPlace, mX9_refusedText, mX9_refusedDeed, mX9_refusedRecord, mX9_refusedDays, mX9_refusedPairs, mX9_fitting, mX9_agreesWithDays, mX9_weighed, mX9_carryOutLot, mX10_finds, mX10_tells, mX10_isOne, mX10_isRoom, mX10_isSet, mX10_row, mX10_wrongAt]
theorem rf_mi_ok6 : ∀ e ∈ rf_mi_6, rf_nwl e ∈ lw_tbl := rf_ats_in (ps := [561, 565, 372, 368, 449, 699, 856, 881, 860, 868, 886, 915, 953, 1107, 1119, 1197, 1231, 1331, 1099, 1115]) (by decide +kernel)
def rf_mi_7 : List rf_M := [mX10_lay, mX10_at, mX10_tear, mX10_copy, mX10_mean, mX10_text, mX10_put, mX10_letterAt, mX10_isFigure, mX10_two, mX10_one, mX10_isRoomItem, mX10_isMemberItem, mX10_skip, mX10_read, mX10_fault, mX10_town, mX10_feels, mX10_wouldAt, mX10_doesAt]
theorem rf_mi_ok7 : ∀ e ∈ rf_mi_7, rf_nwl e ∈ lw_tbl := rf_ats_in (ps := [1110, 1122, 1126, 1130, 1137, 1141, 1145, 1162, 1174, 1170, 1185, 1166, 1178, 1158, 1154, 1149, 1188, 1205, 1220, 1216]) (by decide +kernel)
def rf_mi_8 : List rf_M := [mX10_does, mX10_thereIn, mX10_doing, mX10_memberTells, mX10_member, mX10_room, mX10_coldIn, mX10_mark, mX10_note, mX10_step, mX10_walk, mX10_pass, mX10_noDeed, mX10_hour, mX10_soup, mX10_coldOnes, mX10_cold, mX10_love, mX10_fire, mX10_undo]
theorem rf_mi_ok8 : ∀ e ∈ rf_mi_8, rf_nwl e ∈ lw_tbl := rf_ats_in (ps := [1212, 1235, 1239, 1201, 1192, 1226, 1250, 1242, 1261, 1268, 1256, 1280, 1276, 1271, 1286, 1295, 1290, 1298, 1302, 1306]) (by decide +kernel)
def rf_mi_9 : List rf_M := [mX10_keep, mX10_on, mX10_spanOf, mX10_span, mX10_spanBy, mX10_knownIn, mX10_known, mX10_box, mX10_walkBy, mX10_ways, mX10_send, mX10_most, mX10_doingAt, mX10_alikeBy, mX10_partsBy, mX10_parts, mX10_fewest, mX10_alike, mX10_wrongPairs, mX10_fitsBy]
theorem rf_mi_ok9 : ∀ e ∈ rf_mi_9, rf_nwl e ∈ lw_tbl := rf_ats_in (ps := [1310, 1314, 1323, 1318, 1326, 1339, 1334, 1342, 1355, 1351, 1346, 1359, 1376, 1372, 1368, 1363, 1379, 1383, 1392, 1396]) (by decide +kernel)
def rf_mi_10 : List rf_M := [mX10_fits, mX10_tickled, mX10_isBy, mX10_shifts, mX10_kinds, mX10_spreads, mX10_isServed, mX10_soups, mX10_tellsPart, mX10_seems, mX10_odds, mX10_mid, mX10_lots, mX10_asked, mX10_upper, mX10_lower, mX10_count, mX10_finding, mX10_findings, mX10_digest]
theorem rf_mi_ok10 : ∀ e ∈ rf_mi_10, rf_nwl e ∈ lw_tbl := rf_ats_in (ps := [1387, 1399, 1408, 1403, 1411, 1415, 1424, 1419, 1437, 1432, 1427, 1440, 1444, 1453, 1457, 1461, 1465, 1472, 1476, 1480]) (by decide +kernel)
def rf_mi : List rf_M := rf_mi_0 ++ (rf_mi_1 ++ (rf_mi_2 ++ (rf_mi_3 ++ (rf_mi_4 ++ (rf_mi_5 ++ (rf_mi_6 ++ (rf_mi_7 ++ (rf_mi_8 ++ (rf_mi_9 ++ (rf_mi_10))))))))))
theorem rf_mi_ok : ∀ e ∈ rf_mi, rf_nwl e ∈ lw_tbl := rf_all_app rf_mi_ok0 (rf_all_app rf_mi_ok1 (rf_all_app rf_mi_ok2 (rf_all_app rf_mi_ok3 (rf_all_app rf_mi_ok4 (rf_all_app rf_mi_ok5 (rf_all_app rf_mi_ok6 (rf_all_app rf_mi_ok7 (rf_all_app rf_mi_ok8 (rf_all_app rf_mi_ok9 (rf_mi_ok10))))))))))
def rf_mv_0 : List rf_M := [mX0_weigh, mX0_reduce, mX1_forget, mX1_left, mX1_carryOut, mX1_goBack, mX1_store, mX1_resume, mX2_clear, mX2_hasSpaceForRoom, mX2_hasSpaceForMember, mX2_addRoom, mX2_addMember, mX2_takeFrom, mX3_read, mX3_skipBlanks, mX3_readItem, mX3_readRoom, mX3_readMember, mX3_readNumber]
theorem rf_mv_ok0 : ∀ e ∈ rf_mv_0, rf_vwl e ∈ lw_tbl := rf_ats_in (ps := [919, 21, 549, 669, 673, 731, 743, 752, 477, 495, 517, 507, 525, 538, 473, 4, 5, 6, 8, 7]) (by decide +kernel)
def rf_mv_1 : List rf_M := [mX4_make, mX4_remove, mX4_isMissing, mX4_sizeOf, mX4_has, mX4_hasAll, mX4_get, mX4_set, mX4_move, mX4_sum, mX4_arePairs, mX5_seek, mX5_sendFrom, mX5_compare, mX6_look, mX6_partsBy, mX7_make, mX7_isMissing, mX7_sizeOf, mX7_has]
theorem rf_mv_ok1 : ∀ e ∈ rf_mv_1, rf_vwl e ∈ lw_tbl := rf_ats_in (ps := [360, 400, 376, 423, 380, 408, 384, 388, 412, 427, 864, 802, 13, 14, 831, 838, 438, 453, 481, 457]) (by decide +kernel)
def rf_mv_2 : List rf_M := [mX7_get, mX7_set, mX8_settle, mX8_begin, mX8_members, mX8_rooms, mX8_isEmpty, mX8_everybody, mX8_isSet, mX8_needOf, mX8_kindOf, mX8_markOf, mX8_widthOf, mX8_there, mX8_sneezers, mX8_otherTwins, mX8_feltBy, mX8_wouldAs, mX8_would, mX8_does]
theorem rf_mv_ok2 : ∀ e ∈ rf_mv_2, rf_vwl e ∈ lw_tbl := rf_ats_in (ps := [461, 465, 534, 543, 553, 628, 703, 785, 781, 632, 569, 573, 577, 636, 975, 657, 581, 605, 601, 597]) (by decide +kernel)
def rf_mv_3 : List rf_M := [mX8_doesNow, mX8_doers, mX8_likeAt, mX8_spanAt, mX8_spanIn, mX8_copyOfColds, mX8_catchers, mX8_passColds, mX8_staysSo, mX8_act, mX9_row, mX9_lay, mX9_at, mX9_tear, mX9_copy, mX9_mean, mX9_text, mX9_put, mX9_fault, mX9_town]
theorem rf_mv_ok3 : ∀ e ∈ rf_mv_3, rf_vwl e ∈ lw_tbl := rf_ats_in (ps := [593, 640, 769, 765, 761, 898, 689, 685, 907, 678, 349, 364, 392, 396, 404, 419, 431, 445, 469, 530]) (by decide +kernel)
def rf_mv_4 : List rf_M := [mX9_member, mX9_room, mX9_mark, mX9_walk, mX9_hour, mX9_soup, mX9_cold, mX9_love, mX9_fire, mX9_undo, mX9_keep, mX9_on, mX9_span, mX9_spanBy, mX9_known, mX9_box, mX9_send, mX9_most, mX9_parts, mX9_fewest]
theorem rf_mv_ok4 : ∀ e ∈ rf_mv_4, rf_vwl e ∈ lw_tbl := rf_ats_in (ps := [557, 620, 645, 665, 695, 708, 712, 716, 720, 727, 736, 748, 757, 777, 789, 793, 798, 823, 827, 843]) (by decide +kernel)
def rf_mv_5 : List rf_M := [mX9_alike, mX9_fits, mX9_tickled, mX9_shifts, mX9_kinds, mX9_spreads, mX9_soups, mX9_odds, mX9_mid, mX9_lots, mX9_asked, mX9_upper, mX9_lower, mX9_count, mX9_finding, mX9_findings, mX9_digest, mX9_digestTown, mX9_find, mX9_isRoom]
theorem rf_mv_ok5 : ∀ e ∈ rf_mv_5, rf_vwl e ∈ lw_tbl := rf_ats_in (ps := [847, 852, 873, 877, 890, 894, 903, 911, 943, 947, 959, 963, 967, 971, 982, 986, 990, 23, 0, 11]) (by decide +kernel)
def rf_mv_6 : List rf_M := [mX9_isMember, mX9_ofMember, mX9_refusedRow, mX9_refusedPlace, mX9_refusedText, mX9_refusedDeed, mX9_refusedRecord, mX9_refusedDays, mX9_refusedPairs, mX9_fitting, mX9_agreesWithDays, mX9_weighed, mX9_carryOutLot, mX10_finds, mX10_tells, mX10_isOne, mX10_isRoom, mX10_isSet, mX10_row, mX10_wrongAt]
theorem rf_mv_ok6 : ∀ e ∈ rf_mv_6, rf_vwl e ∈ lw_tbl := rf_ats_in (ps := [9, 10, 2, 1, 3, 12, 15, 18, 16, 17, 19, 20, 22, 24, 26, 35, 41, 51, 1100, 25]) (by decide +kernel)
def rf_mv_7 : List rf_M := [mX10_lay, mX10_at, mX10_tear, mX10_copy, mX10_mean, mX10_text, mX10_put, mX10_letterAt, mX10_isFigure, mX10_two, mX10_one, mX10_isRoomItem, mX10_isMemberItem, mX10_skip, mX10_read, mX10_fault, mX10_town, mX10_feels, mX10_wouldAt, mX10_doesAt]
theorem rf_mv_ok7 : ∀ e ∈ rf_mv_7, rf_vwl e ∈ lw_tbl := rf_ats_in (ps := [1111, 1123, 1127, 1131, 1138, 1142, 1146, 29, 32, 31, 34, 30, 33, 28, 27, 1150, 1189, 37, 40, 39]) (by decide +kernel)
def rf_mv_8 : List rf_M := [mX10_does, mX10_thereIn, mX10_doing, mX10_memberTells, mX10_member, mX10_room, mX10_coldIn, mX10_mark, mX10_note, mX10_step, mX10_walk, mX10_pass, mX10_noDeed, mX10_hour, mX10_soup, mX10_coldOnes, mX10_cold, mX10_love, mX10_fire, mX10_undo]
theorem rf_mv_ok8 : ∀ e ∈ rf_mv_8, rf_vwl e ∈ lw_tbl := rf_ats_in (ps := [38, 42, 43, 36, 1193, 1227, 44, 1243, 45, 46, 1257, 48, 47, 1272, 1287, 49, 1291, 1299, 1303, 1307]) (by decide +kernel)
def rf_mv_9 : List rf_M := [mX10_keep, mX10_on, mX10_spanOf, mX10_span, mX10_spanBy, mX10_knownIn, mX10_known, mX10_box, mX10_walkBy, mX10_ways, mX10_send, mX10_most, mX10_doingAt, mX10_alikeBy, mX10_partsBy, mX10_parts, mX10_fewest, mX10_alike, mX10_wrongPairs, mX10_fitsBy]
theorem rf_mv_ok9 : ∀ e ∈ rf_mv_9, rf_vwl e ∈ lw_tbl := rf_ats_in (ps := [1311, 1315, 50, 1319, 1327, 52, 1335, 1343, 54, 53, 1347, 1360, 57, 56, 55, 1364, 1380, 1384, 58, 59]) (by decide +kernel)
def rf_mv_10 : List rf_M := [mX10_fits, mX10_tickled, mX10_isBy, mX10_shifts, mX10_kinds, mX10_spreads, mX10_isServed, mX10_soups, mX10_tellsPart, mX10_seems, mX10_odds, mX10_mid, mX10_lots, mX10_asked, mX10_upper, mX10_lower, mX10_count, mX10_finding, mX10_findings, mX10_digest]
theorem rf_mv_ok10 : ∀ e ∈ rf_mv_10, rf_vwl e ∈ lw_tbl := rf_ats_in (ps := [1388, 1400, 60, 1404, 1412, 1416, 61, 1420, 63, 62, 1428, 1441, 1445, 1454, 1458, 1462, 1466, 1473, 1477, 1481]) (by decide +kernel)
def rf_mv : List rf_M := rf_mv_0 ++ (rf_mv_1 ++ (rf_mv_2 ++ (rf_mv_3 ++ (rf_mv_4 ++ (rf_mv_5 ++ (rf_mv_6 ++ (rf_mv_7 ++ (rf_mv_8 ++ (rf_mv_9 ++ (rf_mv_10))))))))))
theorem rf_mv_ok : ∀ e ∈ rf_mv, rf_vwl e ∈ lw_tbl := rf_all_app rf_mv_ok0 (rf_all_app rf_mv_ok1 (rf_all_app rf_mv_ok2 (rf_all_app rf_mv_ok3 (rf_all_app rf_mv_ok4 (rf_all_app rf_mv_ok5 (rf_all_app rf_mv_ok6 (rf_all_app rf_mv_ok7 (rf_all_app rf_mv_ok8 (rf_all_app rf_mv_ok9 (rf_mv_ok10))))))))))
def rf_mq (M : rf_M) : Bool := plainName M.2.1.cls && decide (M.2.1.cls = rf_cn M.1) && decide (M.1 < 14) && decide (M.2.2.2.1 ≤ 20) && decide (M.2.1.cls ≠ "java/lang/invoke/MethodHandle") && decide (M.2.1.cls ≠ "java/lang/invoke/VarHandle") && decide ((parseMethodDescriptor M.2.1.desc).map (fun d => d.parameters.length) = some M.2.2.2.2.2.1)
theorem rf_mq_0 : ∀ M ∈ ([mX0_weigh, mX0_seeming, mX0_ways, mX0_reduce, mX1_forget, mX1_left, mX1_carryOut, mX1_goBack, mX1_store, mX1_resume, mX2_clear, mX2_hasSpaceForRoom, mX2_hasSpaceForMember, mX2_addRoom, mX2_addMember, mX2_takeFrom, mX3_read, mX3_skipBlanks, mX3_readItem, mX3_readRoom, mX3_readMember, mX3_readNumber, mX3_kindBySign, mX4_make, mX4_remove] : List rf_M), rf_mq M = true := by decide +kernel
theorem rf_mq_1 : ∀ M ∈ ([mX4_isMissing, mX4_sizeOf, mX4_has, mX4_hasAll, mX4_get, mX4_set, mX4_move, mX4_sum, mX4_arePairs, mX5_seek, mX5_sendFrom, mX5_compare, mX6_look, mX6_partsBy, mX7_make, mX7_isMissing, mX7_sizeOf, mX7_has, mX7_get, mX7_set, mX8_settle, mX8_begin, mX8_members, mX8_rooms, mX8_isEmpty] : List rf_M), rf_mq M = true := by decide +kernel
theorem rf_mq_2 : ∀ M ∈ ([mX8_everybody, mX8_isSet, mX8_needOf, mX8_kindOf, mX8_markOf, mX8_widthOf, mX8_there, mX8_sneezers, mX8_otherTwins, mX8_feltBy, mX8_feeling, mX8_upFrom, mX8_doingBy, mX8_wouldAs, mX8_would, mX8_does, mX8_doesNow, mX8_doers, mX8_likeAt, mX8_spanAt, mX8_spanIn, mX8_copyOfColds, mX8_catchers, mX8_passColds, mX8_staysSo] : List rf_M), rf_mq M = true := by decide +kernel
theorem rf_mq_3 : ∀ M ∈ ([mX8_act, mX9_row, mX9_lay, mX9_at, mX9_tear, mX9_copy, mX9_mean, mX9_text, mX9_put, mX9_fault, mX9_town, mX9_member, mX9_room, mX9_mark, mX9_walk, mX9_hour, mX9_soup, mX9_cold, mX9_love, mX9_fire, mX9_undo, mX9_keep, mX9_on, mX9_span, mX9_spanBy] : List rf_M), rf_mq M = true := by decide +kernel
theorem rf_mq_4 : ∀ M ∈ ([mX9_known, mX9_box, mX9_send, mX9_most, mX9_parts, mX9_fewest, mX9_alike, mX9_fits, mX9_tickled, mX9_shifts, mX9_kinds, mX9_spreads, mX9_soups, mX9_odds, mX9_mid, mX9_lots, mX9_asked, mX9_upper, mX9_lower, mX9_count, mX9_finding, mX9_findings, mX9_digest, mX9_digestTown, mX9_find] : List rf_M), rf_mq M = true := by decide +kernel
theorem rf_mq_5 : ∀ M ∈ ([mX9_isRow, mX9_isText, mX9_isKept, mX9_isDegree, mX9_isRoom, mX9_isMember, mX9_ofMember, mX9_refusedRow, mX9_refusedPlace, mX9_refusedText, mX9_refusedDeed, mX9_refusedRecord, mX9_refusedDays, mX9_refusedPairs, mX9_fitting, mX9_agreesWithDays, mX9_weighed, mX9_carryOutLot, mX9_seen, mX9_sick, mX9_present, mX9_isOfKind, mX10_in, mX10_has, mX10_bits] : List rf_M), rf_mq M = true := by decide +kernel
theorem rf_mq_6 : ∀ M ∈ ([mX10_finds, mX10_tells, mX10_bring, mX10_isOne, mX10_isRoom, mX10_isSet, mX10_row, mX10_wrongAt, mX10_lay, mX10_at, mX10_tear, mX10_isPart, mX10_copy, mX10_mean, mX10_text, mX10_put, mX10_letterAt, mX10_isFigure, mX10_two, mX10_one, mX10_isRoomItem, mX10_sortBy, mX10_isMemberItem, mX10_skip, mX10_read] : List rf_M), rf_mq M = true := by decide +kernel
theorem rf_mq_7 : ∀ M ∈ ([mX10_fault, mX10_town, mX10_feelsBy, mX10_feels, mX10_doesBy, mX10_wouldAt, mX10_doesAt, mX10_does, mX10_thereIn, mX10_doing, mX10_memberTells, mX10_member, mX10_room, mX10_is, mX10_coldIn, mX10_mark, mX10_note, mX10_step, mX10_walk, mX10_pass, mX10_noDeed, mX10_hour, mX10_soup, mX10_coldOnes, mX10_cold] : List rf_M), rf_mq M = true := by decide +kernel
theorem rf_mq_8 : ∀ M ∈ ([mX10_love, mX10_fire, mX10_undo, mX10_keep, mX10_on, mX10_spanOf, mX10_span, mX10_spanBy, mX10_knownIn, mX10_known, mX10_box, mX10_walkBy, mX10_ways, mX10_send, mX10_most, mX10_doingAt, mX10_alikeBy, mX10_partsBy, mX10_parts, mX10_fewest, mX10_alike, mX10_wrongPairs, mX10_fitsBy, mX10_fits, mX10_tickled] : List rf_M), rf_mq M = true := by decide +kernel
theorem rf_mq_9 : ∀ M ∈ ([mX10_isBy, mX10_shifts, mX10_kinds, mX10_spreads, mX10_isServed, mX10_soups, mX10_tellsPart, mX10_seems, mX10_odds, mX10_mid, mX10_lots, mX10_asked, mX10_upper, mX10_lower, mX10_thereOf, mX10_count, mX10_finding, mX10_findings, mX10_digest, mJ6_bitCount_0f7a4, mJ7_fill_53178, mJ7_fill_031fb] : List rf_M), rf_mq M = true := by decide +kernel
end
section
/-! ===== judgements over the kit's W and Met ===== -/
def rf_ty (ca : Nat → ClassId) : List (ClassId × FieldType) := [(ca 0, .int), (ca 1, .byte), (ca 2, .array .int), (ca 3, .array .byte)]
def rf_kn (j : Nat) : Int32 := match j with
  | 0 => 111
  | 1 => 115
  | 2 => 116
  | 3 => 109
  | 4 => 102
  | _ => 97
def rf_ks (j : Nat) : Value := .int (rf_kn j)
def rf_ws (M : rf_M) : List Cond := .code M.2.1 M.2.2.1 M.2.2.2.1 M.2.2.2.2.1 :: rf_tb
def rf_rm (d : Nat) : Room := { frames := d, cells := 0, slots := 0, locals := 50 * d }
def rf_X (ly : List rf_C) (D : va_G) (ca : Nat → ClassId) (ad : Nat → Nat) (tk : Nat) (A : Nat → Prop) (σ : rf_S) (U : State) : Prop := va_P D vwCl (rf_w ca ad ly σ) U.heap ∧ va_K D vwCl (rf_ty ca) U ∧ va_D (fun _ => True) (rf_w ca ad ly σ) ∧ (∀ w ∈ rf_nw, va_Nw w U) ∧ va_Z "FeltCold" "KIND_SIGNS" "[I" (.ref tk) A U U.heap ∧ va_T .int tk 6 rf_ks A U U.heap
def rf_Q (ly : List rf_C) (D : va_G) (ca : Nat → ClassId) (ad : Nat → Nat) (A : Nat → Prop) (r : Option Value) (σ' : rf_S) : Array Value → State → Outcome → State → Prop := fun _ st oc t => oc = .returned (r.map (rf_cv ad)) ∧ va_P D vwCl (rf_w ca ad ly σ') t.heap ∧ va_F A st t
/-- the method M, with a depth d of calls, answers r and leaves σ' -/
def rf_Ex (ly : List rf_C) (d : Nat) (M : rf_M) (as : List Value) (σ : rf_S) (r : Option Value) (σ' : rf_S) : Prop := ∀ (l : Launch) (D : va_G) (ca : Nat → ClassId) (ad : Nat → Nat) (tk sz : Nat),
  Met l M.2.1 (rf_ws M) (rf_rm d) (va_Pc (as.map (rf_cv ad)) (fun U => U.heap.size = sz ∧ rf_X ly D ca ad tk (va_A (rf_w ca ad ly σ) sz) σ U)) (rf_Q ly D ca ad (va_A (rf_w ca ad ly σ) sz) r σ') 0 0 (va_A (rf_w ca ad ly σ) sz)
def rf_H (ly : List rf_C) (M : rf_M) (p : Program) (s : State) (m : MethodId) (args : Array Value) (meth : Method) (c : Code) (D : va_G) (ca : Nat → ClassId) (ad : Nat → Nat) (tk : Nat) (A : Nat → Prop) : Prop :=
  p.tables.exec = Jvm.exec ∧ c.code = M.2.2.1 ∧ c.maxLocals = M.2.2.2.1 ∧ meth.sig.returnType = M.2.2.2.2.1 ∧ meth.locks = false ∧ (∀ w ∈ rf_ws M, w.before args s = true) ∧ s.vm.findClass (rf_cn M.1) = some m.cls ∧ va_K D vwCl (rf_ty ca) s ∧ (∀ w ∈ rf_nw, va_Nw w s) ∧ (∀ q : Nat, s.heap.size ≤ q → A q) ∧ (∀ σ, va_D A (rf_w ca ad ly σ)) ∧ (∀ σ (sz q : Nat), s.heap.size ≤ sz → va_A (rf_w ca ad ly σ) sz q → A q) ∧ va_Z "FeltCold" "KIND_SIGNS" "[I" (.ref tk) A s s.heap ∧ va_T .int tk 6 rf_ks A s s.heap
/-- from the frame f the method M comes to its end with r and σ' -/
def rf_G (ly : List rf_C) (d : Nat) (M : rf_M) (f : rf_F) (r : Option Value) (σ' : rf_S) : Prop := ∀ (p : Program) (l : Launch) (e : Env) (s : State) (m : MethodId) (args : Array Value) (below : List Frame) (meth : Method) (c : Code) (D : va_G) (ca : Nat → ClassId) (ad : Nat → Nat) (tk : Nat) (A : Nat → Prop), rf_H ly M p s m args meth c D ca ad tk A →
  ∀ (H : Heap) (locs : List Loc) (lC : Array Slot), va_P D vwCl (rf_w ca ad ly f.2.2.2) H → va_S A s.heap H locs → rf_lh ad lC M.2.2.2.1 f.2.1 → W p l e (rf_rm (d + 1)) s m args below meth c H locs 0 0 (MQ below (rf_Q ly D ca ad A r σ') args s 0 0 A) (F0 m f.1 lC (f.2.2.1.map (rf_cv ad)))
/-! what the kernel decides of an instruction's row -/
def rf_ln (i : Instr) : Nat := match i with
  | .bipush _ | .ldc _ | .iload _ | .lload _ | .aload _ | .istore _ | .lstore _ | .astore _ => 2
  | .sipush _ | .ldc_w _ | .ldc2_w _ | .iinc _ _ | .ifCond _ _ | .if_icmp _ _ | .goto _ | .getfield _ | .putfield _ | .invokestatic _ | .invokevirtual _ => 3
  | _ => 1
def rf_okc (o nL : Nat) (e : rf_E) : Bool := decide (e.2.2.1 = rf_ln e.2.1) && match e.2.1 with
  | .iconst n => decide (Int32.ofInt n = rf_ci n)
  | .bipush n => decide ((Int8.ofInt n).toInt32 = rf_ci n)
  | .sipush n => decide ((Int16.ofInt n).toInt32 = rf_ci n)
  | .ldc k => decide ((o, k, e.2.2.2) ∈ rf_kT)
  | .ldc_w k => decide ((o, k, e.2.2.2) ∈ rf_kT)
  | .ldc2_w k => decide ((o, k, e.2.2.2) ∈ rf_lT)
  | .lconst n => decide ((n : Nat) = e.2.2.2)
  | .iload k | .lload k | .aload k => decide (k = e.2.2.2)
  | .iload_n k | .lload_n k | .aload_n k => decide ((k : Nat) = e.2.2.2)
  | .istore k | .astore k => decide (k = e.2.2.2 ∧ e.2.2.2 < nL)
  | .istore_n k | .astore_n k => decide ((k : Nat) = e.2.2.2 ∧ e.2.2.2 < nL)
  | .lstore k => decide (k = e.2.2.2 ∧ e.2.2.2 + 1 < nL)
  | .lstore_n k => decide ((k : Nat) = e.2.2.2 ∧ e.2.2.2 + 1 < nL)
  | .iinc k n => decide (k = e.2.2.2 ∧ e.2.2.2 < nL ∧ Int32.ofInt n = rf_ci n)
  | .ifCond _ off | .if_icmp _ off | .goto off => decide ((e.1 : Int) + off = (e.2.2.2 : Int))
  | .getfield k | .putfield k => decide ((o, k, e.2.2.2, false) ∈ rf_fT) || decide ((o, k, e.2.2.2, true) ∈ rf_fT)
  | .invokestatic k => decide ((o, k, e.2.2.2) ∈ rf_aT)
  | _ => true
def rf_dec (cc : ByteArray) (e : rf_E) : Bool := match decode cc e.1 with
  | .ok q => decide (q.1 = e.2.1 ∧ q.2 = e.2.2.1)
  | _ => false
theorem rf_dec_ok {cc : ByteArray} {e : rf_E} (h : rf_dec cc e = true) : decode cc e.1 = .ok (e.2.1, e.2.2.1) := by
  unfold rf_dec at h
  split at h
  · rename_i q hq
    obtain ⟨h1, h2⟩ := of_decide_eq_true h
    rw [hq, ← h1, ← h2]
  · cases h
/-! the layout against the classes -/
def rf_wfc (en : rf_C) : Bool := match en with
  | .inl q => (match vwCl[q.1]? with
    | some cq => decide (q.2.length = cq.2.2) && (List.range q.2.length).all (fun j => match q.2[j]? with
      | some none => decide ((cq.2.1 j).2.2.1 = "I" ∧ (cq.2.1 j).2.2.2 = false)
      | some (some none) => decide ((cq.2.1 j).2.2.1 = "J" ∧ (cq.2.1 j).2.2.2 = false)
      | _ => true)
    | none => false)
  | .inr q => decide (q.1 < 4) && (decide (q.1 < 2) || decide (q.2.2.length = q.2.1))
def rf_wf (ly : List rf_C) : Prop := ∀ (c : Nat) (en : rf_C), ly[c]? = some en → rf_wfc en = true
theorem rf_wf_of {ly : List rf_C} (h : ly.all rf_wfc = true) : rf_wf ly := fun c en hc => List.all_eq_true.mp h en (List.mem_of_getElem? hc)
theorem rf_wf_obj {ly : List rf_C} (hw : rf_wf ly) {c : Nat} {q : Nat × List (Option (Option Nat))} (h : ly[c]? = some (.inl q)) : ∃ cq, vwCl[q.1]? = some cq ∧ q.2.length = cq.2.2 ∧ ∀ j, (q.2[j]? = some none → (cq.2.1 j).2.2.1 = "I" ∧ (cq.2.1 j).2.2.2 = false) ∧ (q.2[j]? = some (some none) → (cq.2.1 j).2.2.1 = "J" ∧ (cq.2.1 j).2.2.2 = false) := by
  have h1 := hw c _ h
  unfold rf_wfc at h1
  simp only at h1
  split at h1
  · rename_i cq hcq
    simp only [Bool.and_eq_true, decide_eq_true_eq] at h1
    refine ⟨cq, hcq, h1.1, fun j => ⟨fun hj => ?_, fun hj => ?_⟩⟩
    · have h2 := List.all_eq_true.mp h1.2 j (List.mem_range.mpr (List.getElem?_eq_some_iff.mp hj).1)
      rw [hj] at h2
      exact of_decide_eq_true h2
    · have h2 := List.all_eq_true.mp h1.2 j (List.mem_range.mpr (List.getElem?_eq_some_iff.mp hj).1)
      rw [hj] at h2
      exact of_decide_eq_true h2
  · cases h1
theorem rf_wf_arr {ly : List rf_C} (hw : rf_wf ly) {c : Nat} {q : Nat × Nat × List Nat} (h : ly[c]? = some (.inr q)) : q.1 < 4 ∧ (¬ q.1 < 2 → q.2.2.length = q.2.1) := by
  have h1 := hw c _ h
  unfold rf_wfc at h1
  simp only [Bool.and_eq_true, Bool.or_eq_true, decide_eq_true_eq] at h1
  exact ⟨h1.1, fun h2 => h1.2.resolve_left h2⟩
theorem rf_kd_at {ly : List rf_C} {kd c : Nat} (h : rf_kd ly kd c = true) : ∃ n rs, ly[c]? = some (.inr (kd, n, rs)) ∧ rf_len ly c = n := by
  unfold rf_kd at h
  split at h
  · rename_i q hq
    obtain ⟨k, n, rs⟩ := q
    have hk : k = kd := by simpa using h
    subst hk
    exact ⟨n, rs, hq, by unfold rf_len; rw [hq]⟩
  · cases h
theorem rf_in_vp {i : Int32} {n : Nat} (h : rf_in i n = true) : vp_in i n := by
  simp only [rf_in, Bool.and_eq_true, decide_eq_true_eq] at h
  rintro (q | q)
  · exact h.1 q
  · omega
theorem rf_ty_at {ca : Nat → ClassId} {k : Nat} (h : k < 4) : (rf_ty ca)[k]? = some (ca k, if k = 0 then .int else if k = 1 then .byte else if k = 2 then .array .int else .array .byte) := by
  match k, h with
  | 0, _ => rfl
  | 1, _ => rfl
  | 2, _ => rfl
  | 3, _ => rfl
theorem rf_i0 : ∀ w ∈ u_ws RX0 TX0 2, w ∈ lw_tbl := rf_ats_in (f := id) (ps := [308, 310]) (by rw [List.map_id]; decide +kernel)
theorem rf_i1 : ∀ w ∈ u_ws RX1 TX1 4, w ∈ lw_tbl := rf_ats_in (f := id) (ps := [244, 246, 248, 250]) (by rw [List.map_id]; decide +kernel)
theorem rf_i2 : ∀ w ∈ u_ws RX2 TX2 8, w ∈ lw_tbl := rf_ats_in (f := id) (ps := [156, 158, 160, 162, 164, 166, 168, 170]) (by rw [List.map_id]; decide +kernel)
theorem rf_i3 : ∀ w ∈ u_ws RX3 TX3 3, w ∈ lw_tbl := rf_ats_in (f := id) (ps := [177, 179, 181]) (by rw [List.map_id]; decide +kernel)
theorem rf_i4 : ∀ w ∈ u_ws RX4 TX4 2, w ∈ lw_tbl := rf_ats_in (f := id) (ps := [102, 104]) (by rw [List.map_id]; decide +kernel)
theorem rf_i5 : ∀ w ∈ u_ws RX5 TX5 6, w ∈ lw_tbl := rf_ats_in (f := id) (ps := [268, 270, 272, 274, 276, 278]) (by rw [List.map_id]; decide +kernel)
theorem rf_i6 : ∀ w ∈ u_ws RX6 TX6 3, w ∈ lw_tbl := rf_ats_in (f := id) (ps := [291, 293, 295]) (by rw [List.map_id]; decide +kernel)
theorem rf_i7 : ∀ w ∈ u_ws RX7 TX7 2, w ∈ lw_tbl := rf_ats_in (f := id) (ps := [120, 122]) (by rw [List.map_id]; decide +kernel)
theorem rf_i8 : ∀ w ∈ u_ws RX8 TX8 9, w ∈ lw_tbl := rf_ats_in (f := id) (ps := [211, 213, 215, 217, 219, 221, 223, 225, 227]) (by rw [List.map_id]; decide +kernel)
theorem rf_i9 : ∀ w ∈ u_ws RX9 TX9 11, w ∈ lw_tbl := rf_ats_in (f := id) (ps := [324, 326, 328, 330, 332, 334, 336, 338, 340, 342, 344]) (by rw [List.map_id]; decide +kernel)
theorem rf_i10 : ∀ w ∈ u_ws RX10 TX10 30, w ∈ lw_tbl := rf_ats_in (f := id) (ps := [1037, 1039, 1041, 1043, 1045, 1047, 1049, 1051, 1053, 1055, 1057, 1059, 1061, 1063, 1065, 1067, 1069, 1071, 1073, 1075, 1077, 1079, 1081, 1083, 1085, 1087, 1089, 1091, 1093, 1095]) (by rw [List.map_id]; decide +kernel)
theorem rf_cls_in {ci : Nat} {q : vw_C} (h : vwCl[ci]? = some q) : (∀ w ∈ u_ws q.1 q.2.1 q.2.2, w ∈ rf_tb) ∧ ∃ ty0 : Nat → FieldType, (∀ k, k < q.2.2 → parseFieldDescriptor (q.2.1 k).2.2.1 = some (ty0 k)) ∧ (∀ a, a < q.2.2 → ∀ b, b < q.2.2 → a ≠ b → (q.2.1 a).2.1 ≠ (q.2.1 b).2.1) := by
  have g : ∀ {C : String} {T : u_T} {n : Nat} (w : Cond), w ∈ u_ws C T n → goodWord w = true := by
    intro C T n w hw
    obtain ⟨k, -, rfl⟩ := List.mem_map.mp hw
    unfold u_lay
    split <;> rfl
  match ci, h with
  | 0, h => cases h; exact ⟨fun w hw => rf_in_tb (rf_i0 w hw) (g w hw), tyX0, tyX0_ok, nmX0⟩
  | 1, h => cases h; exact ⟨fun w hw => rf_in_tb (rf_i1 w hw) (g w hw), tyX1, tyX1_ok, nmX1⟩
  | 2, h => cases h; exact ⟨fun w hw => rf_in_tb (rf_i2 w hw) (g w hw), tyX2, tyX2_ok, nmX2⟩
  | 3, h => cases h; exact ⟨fun w hw => rf_in_tb (rf_i3 w hw) (g w hw), tyX3, tyX3_ok, nmX3⟩
  | 4, h => cases h; exact ⟨fun w hw => rf_in_tb (rf_i4 w hw) (g w hw), tyX4, tyX4_ok, nmX4⟩
  | 5, h => cases h; exact ⟨fun w hw => rf_in_tb (rf_i5 w hw) (g w hw), tyX5, tyX5_ok, nmX5⟩
  | 6, h => cases h; exact ⟨fun w hw => rf_in_tb (rf_i6 w hw) (g w hw), tyX6, tyX6_ok, nmX6⟩
  | 7, h => cases h; exact ⟨fun w hw => rf_in_tb (rf_i7 w hw) (g w hw), tyX7, tyX7_ok, nmX7⟩
  | 8, h => cases h; exact ⟨fun w hw => rf_in_tb (rf_i8 w hw) (g w hw), tyX8, tyX8_ok, nmX8⟩
  | 9, h => cases h; exact ⟨fun w hw => rf_in_tb (rf_i9 w hw) (g w hw), tyX9, tyX9_ok, nmX9⟩
  | 10, h => cases h; exact ⟨fun w hw => rf_in_tb (rf_i10 w hw) (g w hw), tyX10, tyX10_ok, nmX10⟩
  | k + 11, h => simp [vwCl] at h
theorem rf_pI : parseFieldDescriptor "I" = some .int := by decide +kernel
theorem rf_pJ : parseFieldDescriptor "J" = some .long := by decide +kernel
theorem rf_fT_in {e : Nat × Nat × Nat × Bool} (h : e ∈ rf_fT) {q : vw_C} (hq : vwCl[e.2.2.1 / 100]? = some q) : (e.2.2.2 = false → Cond.fieldLink (rf_cn e.1) e.2.1 (q.2.1 (e.2.2.1 % 100)).1 (q.2.1 (e.2.2.1 % 100)).2.1 (q.2.1 (e.2.2.1 % 100)).2.2.1 ∈ rf_tb) ∧ (e.2.2.2 = true → Cond.fieldLinkNest (rf_cn e.1) e.2.1 (q.2.1 (e.2.2.1 % 100)).1 (q.2.1 (e.2.2.1 % 100)).2.1 (q.2.1 (e.2.2.1 % 100)).2.2.1 "FeltCold" ∈ rf_nw) := by
  have h1 := rf_fT_ok e h
  unfold rf_fl at h1
  rw [hq] at h1
  simp only at h1
  refine ⟨fun hn => ?_, fun hn => ?_⟩
  · rw [if_neg (by rw [hn]; decide)] at h1
    exact rf_in_tb h1 rfl
  · rw [if_pos hn] at h1
    exact rf_in_nw h1 rfl
theorem rf_cv_map_cat (ad : Nat → Nat) (l : List Value) : ((l.map (rf_cv ad)).map fun v => v.category).sum = (l.map fun v => v.category).sum := by
  rw [List.map_map]
  congr 1
  apply List.map_congr_left
  intro v _
  exact rf_cv_cat ad v
theorem rf_tbw {M : rf_M} {w : Cond} (h : w ∈ rf_tb) : w ∈ rf_ws M := List.mem_cons_of_mem _ h

set_option maxHeartbeats 4000000 in
theorem rf_step {ly : List rf_C} {d : Nat} {M : rf_M} (hw : rf_wf ly) {pc : Nat} {i : Instr} {len x : Nat} {ls : List (Option Value)} {st : List Value} {σ : rf_S} {f' : rf_F} {r : Option Value} {σ' : rf_S} (hd : decode M.2.2.1 pc = .ok (i, len)) (hok : rf_okc M.1 M.2.2.2.1 (pc, i, len, x) = true) (hB0 : (st.map fun v => v.category).sum ≤ 20 ∨ ∀ k, i ≠ .invokestatic k) (hs : rf_st ly i x (pc + len) ls st σ = some f') (k : rf_G ly d M f' r σ') : rf_G ly d M (pc, ls, st, σ) r σ' := by
  intro p l e s m args below meth c D ca ad tk A hH H locs lC hP hS hl
  have k := k p l e s m args below meth c D ca ad tk A hH
  obtain ⟨hx, hb, hml, hr, hlocks, hts, hown, hK, hN, hA, hD, hF, hZ, hT⟩ := hH
  have hlen : len = rf_ln i := by
    have := (Bool.and_eq_true _ _ ▸ hok : _ ∧ _).1
    exact of_decide_eq_true this
  have hok2 := (Bool.and_eq_true _ _ ▸ hok : _ ∧ _).2
  subst hlen
  cases i with
  | iconst n =>
    simp only [rf_st] at hs
    cases hs
    exact lv_iconst hx hb hd (of_decide_eq_true hok2) (k H locs lC hP hS hl)
  | bipush n =>
    simp only [rf_st] at hs
    cases hs
    exact lv_bipush hx hb hd (of_decide_eq_true hok2) (k H locs lC hP hS hl)
  | sipush n =>
    simp only [rf_st] at hs
    cases hs
    exact lv_sipush hx hb hd (of_decide_eq_true hok2) (k H locs lC hP hS hl)
  | ldc n =>
    simp only [rf_st] at hs
    cases hs
    exact lv_ldc hx hb hown (hts _ (rf_tbw (rf_in_tb (rf_kT_ok _ (of_decide_eq_true hok2)) rfl))) hd (k H locs lC hP hS hl)
  | ldc_w n =>
    simp only [rf_st] at hs
    cases hs
    exact lv_ldcw hx hb hown (hts _ (rf_tbw (rf_in_tb (rf_kT_ok _ (of_decide_eq_true hok2)) rfl))) hd (k H locs lC hP hS hl)
  | ldc2_w n =>
    simp only [rf_st] at hs
    cases hs
    exact lv_ldc2 hx hb hown (hts _ (rf_tbw (rf_in_tb (rf_lT_ok _ (of_decide_eq_true hok2)) rfl))) hd (k H locs lC hP hS hl)
  | lconst n =>
    simp only [rf_st] at hs
    cases hs
    exact lv_lconst hx hb hd (congrArg Int64.ofNat (of_decide_eq_true hok2)) (k H locs lC hP hS hl)
  | iload n =>
    simp only [rf_st] at hs
    split at hs
    · rename_i a ha
      cases hs
      have hz : n = x := of_decide_eq_true hok2
      subst hz
      exact lv_iload hx hb hd (hl.2.2.2 _ _ ha) (k H locs lC hP hS hl)
    · cases hs
  | iload_n n =>
    simp only [rf_st] at hs
    split at hs
    · rename_i a ha
      cases hs
      exact lv_iload_n hx hb hd (of_decide_eq_true hok2) (hl.2.2.2 _ _ ha) (k H locs lC hP hS hl)
    · cases hs
  | lload n =>
    simp only [rf_st] at hs
    split at hs
    · rename_i a ha
      cases hs
      have hz : n = x := of_decide_eq_true hok2
      subst hz
      exact lv_lload hx hb hd (hl.2.2.2 _ _ ha) (k H locs lC hP hS hl)
    · cases hs
  | lload_n n =>
    simp only [rf_st] at hs
    split at hs
    · rename_i a ha
      cases hs
      exact lv_lload_n hx hb hd (of_decide_eq_true hok2) (hl.2.2.2 _ _ ha) (k H locs lC hP hS hl)
    · cases hs
  | aload n =>
    simp only [rf_st] at hs
    split at hs
    · rename_i a ha
      cases hs
      have hz : n = x := of_decide_eq_true hok2
      subst hz
      exact lv_aload hx hb hd (hl.2.2.2 _ _ ha) (k H locs lC hP hS hl)
    · cases hs
  | aload_n n =>
    simp only [rf_st] at hs
    split at hs
    · rename_i a ha
      cases hs
      exact lv_aload_n hx hb hd (of_decide_eq_true hok2) (hl.2.2.2 _ _ ha) (k H locs lC hP hS hl)
    · cases hs
  | istore n =>
    simp only [rf_st] at hs
    split at hs
    · rename_i a r0
      cases hs
      obtain ⟨hz, hn⟩ := of_decide_eq_true hok2
      subst hz
      exact lv_istore hx hb hd hl.has hn rfl (fun lC2 h2 => k H locs lC2 hP hS (hl.s1 (v := .int a) hn h2))
    · cases hs
  | istore_n n =>
    simp only [rf_st] at hs
    split at hs
    · rename_i a r0
      cases hs
      obtain ⟨hz, hn⟩ := of_decide_eq_true hok2
      exact lv_istore_n hx hb hd hz hl.has hn rfl (fun lC2 h2 => k H locs lC2 hP hS (hl.s1 (v := .int a) hn h2))
    · cases hs
  | lstore n =>
    simp only [rf_st] at hs
    split at hs
    · rename_i a r0
      cases hs
      obtain ⟨hz, hn⟩ := of_decide_eq_true hok2
      subst hz
      exact lv_lstore hx hb hd hl.has hn rfl (fun lC2 h2 => k H locs lC2 hP hS (hl.s2 (v := .long a) hn h2))
    · cases hs
  | lstore_n n =>
    simp only [rf_st] at hs
    split at hs
    · rename_i a r0
      cases hs
      obtain ⟨hz, hn⟩ := of_decide_eq_true hok2
      exact lv_lstore_n hx hb hd hz hl.has hn rfl (fun lC2 h2 => k H locs lC2 hP hS (hl.s2 (v := .long a) hn h2))
    · cases hs
  | astore n =>
    simp only [rf_st] at hs
    split at hs
    · rename_i a r0
      cases hs
      obtain ⟨hz, hn⟩ := of_decide_eq_true hok2
      subst hz
      exact lv_astore hx hb hd hl.has hn rfl (fun lC2 h2 => k H locs lC2 hP hS (hl.s1 (v := .ref a) hn h2))
    · cases hs
  | astore_n n =>
    simp only [rf_st] at hs
    split at hs
    · rename_i a r0
      cases hs
      obtain ⟨hz, hn⟩ := of_decide_eq_true hok2
      exact lv_astore_n hx hb hd hz hl.has hn rfl (fun lC2 h2 => k H locs lC2 hP hS (hl.s1 (v := .ref a) hn h2))
    · cases hs
  | iinc n z =>
    simp only [rf_st] at hs
    split at hs
    · rename_i a ha
      cases hs
      obtain ⟨hz, hn, hc⟩ := of_decide_eq_true hok2
      subst hz
      obtain ⟨j, hj⟩ := List.getElem?_of_mem (rf_en_mem (ad := ad) ha)
      exact lv_iinc hx hb hd hl.has hj (by rw [hc]) hn rfl (fun lC2 h2 => k H locs lC2 hP hS (hl.s1 (v := .int (a + rf_ci z)) hn h2))
    · cases hs
  | iadd =>
    simp only [rf_st] at hs
    split at hs
    · cases hs
      exact lv_iadd hx hb hd (k H locs lC hP hS hl)
    · cases hs
  | isub =>
    simp only [rf_st] at hs
    split at hs
    · cases hs
      exact lv_isub hx hb hd (k H locs lC hP hS hl)
    · cases hs
  | imul =>
    simp only [rf_st] at hs
    split at hs
    · cases hs
      exact lv_imul hx hb hd (k H locs lC hP hS hl)
    · cases hs
  | iand =>
    simp only [rf_st] at hs
    split at hs
    · cases hs
      exact lv_iand hx hb hd (k H locs lC hP hS hl)
    · cases hs
  | ior =>
    simp only [rf_st] at hs
    split at hs
    · cases hs
      exact lv_ior hx hb hd (k H locs lC hP hS hl)
    · cases hs
  | ixor =>
    simp only [rf_st] at hs
    split at hs
    · cases hs
      exact lv_ixor hx hb hd (k H locs lC hP hS hl)
    · cases hs
  | ishl =>
    simp only [rf_st] at hs
    split at hs
    · cases hs
      exact lv_ishl hx hb hd (k H locs lC hP hS hl)
    · cases hs
  | ishr =>
    simp only [rf_st] at hs
    split at hs
    · cases hs
      exact lv_ishr hx hb hd (k H locs lC hP hS hl)
    · cases hs
  | ladd =>
    simp only [rf_st] at hs
    split at hs
    · cases hs
      exact lv_ladd hx hb hd (k H locs lC hP hS hl)
    · cases hs
  | lmul =>
    simp only [rf_st] at hs
    split at hs
    · cases hs
      exact lv_lmul hx hb hd (k H locs lC hP hS hl)
    · cases hs
  | iushr =>
    simp only [rf_st] at hs
    split at hs
    · cases hs
      exact lv_iushr hx hb hd rfl (k H locs lC hP hS hl)
    · cases hs
  | lcmp =>
    simp only [rf_st] at hs
    split at hs
    · cases hs
      exact W.lcmp hx hb hd (k H locs lC hP hS hl)
    · cases hs
  | idiv =>
    simp only [rf_st] at hs
    split at hs
    · split at hs
      · cases hs
      · rename_i hne
        cases hs
        exact lv_idiv hx hb hd hne (k H locs lC hP hS hl)
    · cases hs
  | irem =>
    simp only [rf_st] at hs
    split at hs
    · split at hs
      · cases hs
      · rename_i hne
        cases hs
        exact lv_irem hx hb hd hne (k H locs lC hP hS hl)
    · cases hs
  | ldiv =>
    simp only [rf_st] at hs
    split at hs
    · split at hs
      · cases hs
      · rename_i hne
        cases hs
        exact lv_ldiv hx hb hd hne (k H locs lC hP hS hl)
    · cases hs
  | lrem =>
    simp only [rf_st] at hs
    split at hs
    · split at hs
      · cases hs
      · rename_i hne
        cases hs
        exact lv_lrem hx hb hd hne (k H locs lC hP hS hl)
    · cases hs
  | ineg =>
    simp only [rf_st] at hs
    split at hs
    · cases hs
      exact lv_ineg hx hb hd (k H locs lC hP hS hl)
    · cases hs
  | i2l =>
    simp only [rf_st] at hs
    split at hs
    · cases hs
      exact lv_i2l hx hb hd rfl (k H locs lC hP hS hl)
    · cases hs
  | l2i =>
    simp only [rf_st] at hs
    split at hs
    · cases hs
      exact lv_l2i hx hb hd rfl (k H locs lC hP hS hl)
    · cases hs
  | i2b =>
    simp only [rf_st] at hs
    split at hs
    · cases hs
      exact lv_i2b hx hb hd rfl (k H locs lC hP hS hl)
    · cases hs
  | dup =>
    simp only [rf_st] at hs
    split at hs
    · split at hs
      · rename_i hc
        cases hs
        exact lv_dup hx hb hd (by rw [rf_cv_cat]; exact hc) (k H locs lC hP hS hl)
      · cases hs
    · cases hs
  | dup2 =>
    simp only [rf_st] at hs
    split at hs
    · split at hs
      · rename_i hc
        cases hs
        exact lv_dup2_11 hx hb hd (by rw [rf_cv_cat]; exact hc.1) (by rw [rf_cv_cat]; exact hc.2) (k H locs lC hP hS hl)
      · cases hs
    · cases hs
  | pop =>
    simp only [rf_st] at hs
    split at hs
    · split at hs
      · rename_i hc
        cases hs
        exact lv_pop hx hb hd (by rw [rf_cv_cat]; exact hc) (k H locs lC hP hS hl)
      · cases hs
    · cases hs
  | ifCond cnd off =>
    cases cnd with
    | eq =>
      simp only [rf_st] at hs
      split at hs
      · refine lv_if_eq hx hb hd (of_decide_eq_true hok2) (fun q => ?_) (fun q => ?_)
        · rw [if_pos q] at hs
          cases hs
          exact k H locs lC hP hS hl
        · rw [if_neg q] at hs
          cases hs
          exact k H locs lC hP hS hl
      · cases hs
    | ne =>
      simp only [rf_st] at hs
      split at hs
      · refine lv_if_ne hx hb hd (of_decide_eq_true hok2) (fun q => ?_) (fun q => ?_)
        · rw [if_pos q] at hs
          cases hs
          exact k H locs lC hP hS hl
        · rw [if_neg (fun z => z q)] at hs
          cases hs
          exact k H locs lC hP hS hl
      · cases hs
    | lt =>
      simp only [rf_st] at hs
      split at hs
      · refine lv_if_lt hx hb hd (of_decide_eq_true hok2) (fun q => ?_) (fun q => ?_)
        · rw [if_pos q] at hs
          cases hs
          exact k H locs lC hP hS hl
        · rw [if_neg q] at hs
          cases hs
          exact k H locs lC hP hS hl
      · cases hs
    | ge =>
      simp only [rf_st] at hs
      split at hs
      · refine lv_if_ge hx hb hd (of_decide_eq_true hok2) (fun q => ?_) (fun q => ?_)
        · rw [if_pos q] at hs
          cases hs
          exact k H locs lC hP hS hl
        · rw [if_neg q] at hs
          cases hs
          exact k H locs lC hP hS hl
      · cases hs
    | gt =>
      simp only [rf_st] at hs
      split at hs
      · refine lv_if_gt hx hb hd (of_decide_eq_true hok2) (fun q => ?_) (fun q => ?_)
        · rw [if_pos q] at hs
          cases hs
          exact k H locs lC hP hS hl
        · rw [if_neg q] at hs
          cases hs
          exact k H locs lC hP hS hl
      · cases hs
    | le =>
      simp only [rf_st] at hs
      split at hs
      · refine lv_if_le hx hb hd (of_decide_eq_true hok2) (fun q => ?_) (fun q => ?_)
        · rw [if_pos q] at hs
          cases hs
          exact k H locs lC hP hS hl
        · rw [if_neg q] at hs
          cases hs
          exact k H locs lC hP hS hl
      · cases hs
  | if_icmp cnd off =>
    cases cnd with
    | eq =>
      simp only [rf_st] at hs
      split at hs
      · refine lv_icmp_eq hx hb hd (of_decide_eq_true hok2) (fun q => ?_) (fun q => ?_)
        · rw [if_pos q] at hs
          cases hs
          exact k H locs lC hP hS hl
        · rw [if_neg q] at hs
          cases hs
          exact k H locs lC hP hS hl
      · cases hs
    | ne =>
      simp only [rf_st] at hs
      split at hs
      · refine lv_icmp_ne hx hb hd (of_decide_eq_true hok2) (fun q => ?_) (fun q => ?_)
        · rw [if_pos q] at hs
          cases hs
          exact k H locs lC hP hS hl
        · rw [if_neg (fun z => z q)] at hs
          cases hs
          exact k H locs lC hP hS hl
      · cases hs
    | lt =>
      simp only [rf_st] at hs
      split at hs
      · refine lv_icmp_lt hx hb hd (of_decide_eq_true hok2) (fun q => ?_) (fun q => ?_)
        · rw [if_pos q] at hs
          cases hs
          exact k H locs lC hP hS hl
        · rw [if_neg q] at hs
          cases hs
          exact k H locs lC hP hS hl
      · cases hs
    | ge =>
      simp only [rf_st] at hs
      split at hs
      · refine lv_icmp_ge hx hb hd (of_decide_eq_true hok2) (fun q => ?_) (fun q => ?_)
        · rw [if_pos q] at hs
          cases hs
          exact k H locs lC hP hS hl
        · rw [if_neg q] at hs
          cases hs
          exact k H locs lC hP hS hl
      · cases hs
    | gt =>
      simp only [rf_st] at hs
      split at hs
      · refine lv_icmp_gt hx hb hd (of_decide_eq_true hok2) (fun q => ?_) (fun q => ?_)
        · rw [if_pos q] at hs
          cases hs
          exact k H locs lC hP hS hl
        · rw [if_neg q] at hs
          cases hs
          exact k H locs lC hP hS hl
      · cases hs
    | le =>
      simp only [rf_st] at hs
      split at hs
      · refine lv_icmp_le hx hb hd (of_decide_eq_true hok2) (fun q => ?_) (fun q => ?_)
        · rw [if_pos q] at hs
          cases hs
          exact k H locs lC hP hS hl
        · rw [if_neg q] at hs
          cases hs
          exact k H locs lC hP hS hl
      · cases hs
  | goto off =>
    simp only [rf_st] at hs
    cases hs
    exact lv_goto hx hb hd (of_decide_eq_true hok2) (k H locs lC hP hS hl)
  | getfield n =>
    simp only [rf_st] at hs
    split at hs
    · rename_i c0 r0
      split at hs
      · rename_i q hq
        split at hs
        · rename_i hqx
          split at hs
          · rename_i t ht
            cases hs
            obtain ⟨cq, h1, h2, h3⟩ := rf_wf_obj hw hq
            obtain ⟨g1, ty0, g2, g3⟩ := rf_cls_in h1
            have hj : x % 100 < cq.2.2 := by rw [← h2]; exact (List.getElem?_eq_some_iff.mp ht).1
            have hv : (q.2.mapIdx (fun j t => rf_cv ad (rf_fv σ c0 j t)))[x % 100]? = some (rf_cv ad (rf_fv σ c0 (x % 100) t)) := by rw [List.getElem?_mapIdx, ht]; rfl
            have h1' : vwCl[x / 100]? = some cq := by rw [← hqx]; exact h1
            rcases (Bool.or_eq_true _ _ ▸ hok2 : _ ∨ _) with hf | hf
            · have hf := of_decide_eq_true hf
              exact va_get (C := cq.1) (T := cq.2.1) (N := cq.2.2) hx hb hts (fun w hw => rf_tbw (g1 w hw)) hown hK hP c0 (rf_w_at hq) h1 (x % 100) hj (hts _ (rf_tbw ((rf_fT_in hf h1').1 rfl))) (fun _ h9 => h9) hv hd (k H locs lC hP hS hl)
            · have hf := of_decide_eq_true hf
              exact va_getN (C := cq.1) (T := cq.2.1) (N := cq.2.2) hx hb hts (fun w hw => rf_tbw (g1 w hw)) hown hK hP c0 (rf_w_at hq) h1 (x % 100) hj ((hN _ ((rf_fT_in hf h1').2 rfl)).use rfl) (fun _ h9 => h9) hv hd (k H locs lC hP hS hl)
          · cases hs
        · cases hs
      · cases hs
    · cases hs
  | putfield n =>
    simp only [rf_st] at hs
    split at hs
    · rename_i a c0 r0
      split at hs
      · rename_i q hq
        split at hs
        · rename_i hqx
          split at hs
          · rename_i ht
            cases hs
            obtain ⟨cq, h1, h2, h3⟩ := rf_wf_obj hw hq
            obtain ⟨g1, ty0, g2, g3⟩ := rf_cls_in h1
            have hj : x % 100 < cq.2.2 := by rw [← h2]; exact (List.getElem?_eq_some_iff.mp ht).1
            obtain ⟨e1, e2⟩ := (h3 (x % 100)).1 ht
            have h1' : vwCl[x / 100]? = some cq := by rw [← hqx]; exact h1
            have hjl : x % 100 < (q.2.mapIdx (fun j t => rf_cv ad (rf_fv σ c0 j t))).length := by simpa using (List.getElem?_eq_some_iff.mp ht).1
            rcases (Bool.or_eq_true _ _ ▸ hok2 : _ ∨ _) with hf | hf
            · have hf := of_decide_eq_true hf
              refine va_put (C := cq.1) (T := cq.2.1) (N := cq.2.2) (ty := .int) hx hb hts (fun w hw => rf_tbw (g1 w hw)) ty0 g2 g3 hown hK hP (hD σ) hS c0 (rf_w_at hq) h1 (x % 100) hj (hts _ (rf_tbw ((rf_fT_in hf h1').1 rfl))) (fun _ h9 => h9) e2 (by rw [e1]; exact rf_pI) rfl rfl hjl hd (fun H1 locs1 hP1 _ hS1 => k H1 locs1 lC ?_ hS1 hl)
              exact cast (congrArg (fun z => va_P D vwCl z H1) (rf_w_setI (ca := ca) (ad := ad) (σ := σ) hq ht a)) hP1
            · have hf := of_decide_eq_true hf
              refine va_putN (C := cq.1) (T := cq.2.1) (N := cq.2.2) (ty := .int) hx hb hts (fun w hw => rf_tbw (g1 w hw)) ty0 g2 g3 hown hK hP (hD σ) hS c0 (rf_w_at hq) h1 (x % 100) hj ((hN _ ((rf_fT_in hf h1').2 rfl)).use rfl) (fun _ h9 => h9) e2 (by rw [e1]; exact rf_pI) rfl rfl hjl hd (fun H1 locs1 hP1 _ hS1 => k H1 locs1 lC ?_ hS1 hl)
              exact cast (congrArg (fun z => va_P D vwCl z H1) (rf_w_setI (ca := ca) (ad := ad) (σ := σ) hq ht a)) hP1
          · cases hs
        · cases hs
      · cases hs
    · rename_i a c0 r0
      split at hs
      · rename_i q hq
        split at hs
        · rename_i hqx
          split at hs
          · rename_i ht
            cases hs
            obtain ⟨cq, h1, h2, h3⟩ := rf_wf_obj hw hq
            obtain ⟨g1, ty0, g2, g3⟩ := rf_cls_in h1
            have hj : x % 100 < cq.2.2 := by rw [← h2]; exact (List.getElem?_eq_some_iff.mp ht).1
            obtain ⟨e1, e2⟩ := (h3 (x % 100)).2 ht
            have h1' : vwCl[x / 100]? = some cq := by rw [← hqx]; exact h1
            have hjl : x % 100 < (q.2.mapIdx (fun j t => rf_cv ad (rf_fv σ c0 j t))).length := by simpa using (List.getElem?_eq_some_iff.mp ht).1
            rcases (Bool.or_eq_true _ _ ▸ hok2 : _ ∨ _) with hf | hf
            · have hf := of_decide_eq_true hf
              refine va_put (C := cq.1) (T := cq.2.1) (N := cq.2.2) (ty := .long) hx hb hts (fun w hw => rf_tbw (g1 w hw)) ty0 g2 g3 hown hK hP (hD σ) hS c0 (rf_w_at hq) h1 (x % 100) hj (hts _ (rf_tbw ((rf_fT_in hf h1').1 rfl))) (fun _ h9 => h9) e2 (by rw [e1]; exact rf_pJ) rfl rfl hjl hd (fun H1 locs1 hP1 _ hS1 => k H1 locs1 lC ?_ hS1 hl)
              exact cast (congrArg (fun z => va_P D vwCl z H1) (rf_w_setL (ca := ca) (ad := ad) (σ := σ) hq ht a)) hP1
            · have hf := of_decide_eq_true hf
              refine va_putN (C := cq.1) (T := cq.2.1) (N := cq.2.2) (ty := .long) hx hb hts (fun w hw => rf_tbw (g1 w hw)) ty0 g2 g3 hown hK hP (hD σ) hS c0 (rf_w_at hq) h1 (x % 100) hj ((hN _ ((rf_fT_in hf h1').2 rfl)).use rfl) (fun _ h9 => h9) e2 (by rw [e1]; exact rf_pJ) rfl rfl hjl hd (fun H1 locs1 hP1 _ hS1 => k H1 locs1 lC ?_ hS1 hl)
              exact cast (congrArg (fun z => va_P D vwCl z H1) (rf_w_setL (ca := ca) (ad := ad) (σ := σ) hq ht a)) hP1
          · cases hs
        · cases hs
      · cases hs
    · cases hs
  | arraylength =>
    simp only [rf_st] at hs
    split at hs
    · rename_i c0 r0
      split at hs
      · rename_i hc
        cases hs
        unfold rf_isA at hc
        split at hc
        · rename_i q hq
          refine va_alen hx hb hK hP c0 q.1 (rf_w_at hq) (rf_ty_at (rf_wf_arr hw hq).1) ?_ hd (k H locs lC hP hS hl)
          simp only [rf_len]
          rw [hq]
        · cases hc
      · cases hs
    · cases hs
  | iaload =>
    simp only [rf_st] at hs
    split at hs
    · rename_i j c0 r0
      split at hs
      · rename_i hc
        cases hs
        obtain ⟨hc1, hc2⟩ := (Bool.and_eq_true _ _ ▸ hc : _ ∧ _)
        obtain ⟨n, rs, hq, hn⟩ := rf_kd_at hc1
        rw [hn] at hc2
        exact va_iald hx hb hK hP c0 0 (rf_w_at hq) rfl (rf_in_vp hc2) hd (k H locs lC hP hS hl)
      · cases hs
    · cases hs
  | baload =>
    simp only [rf_st] at hs
    split at hs
    · rename_i j c0 r0
      split at hs
      · rename_i hc
        cases hs
        obtain ⟨hc1, hc2⟩ := (Bool.and_eq_true _ _ ▸ hc : _ ∧ _)
        obtain ⟨n, rs, hq, hn⟩ := rf_kd_at hc1
        rw [hn] at hc2
        exact va_bald hx hb hK hP c0 1 (rf_w_at hq) rfl (rf_in_vp hc2) hd (k H locs lC hP hS hl)
      · cases hs
    · cases hs
  | aaload =>
    simp only [rf_st] at hs
    split at hs
    · rename_i j c0 r0
      split at hs
      · rename_i hc
        cases hs
        obtain ⟨hc1, hc2⟩ := (Bool.and_eq_true _ _ ▸ hc : _ ∧ _)
        have hlt : ∀ n, rf_in j n = true → j.toNatClampNeg < n := fun n h => by
          simp only [rf_in, Bool.and_eq_true, decide_eq_true_eq] at h
          exact h.2
        have go : ∀ (kd n : Nat) (rs : List Nat), ly[c0]? = some (.inr (kd, n, rs)) → rf_len ly c0 = n → ¬ kd < 2 → (∀ U : State, va_K D vwCl (rf_ty ca) U → ∀ (n : Nat) (z : Nat → Value), ∃ t : FieldType, U.isArrayOf (arrV (ca kd) n z) (.array t)) → W p l e (rf_rm (d + 1)) s m args below meth c H locs 0 0 (MQ below (rf_Q ly D ca ad A r σ') args s 0 0 A) (F0 m pc lC ((Value.int j :: Value.ref c0 :: r0).map (rf_cv ad))) := by
          intro kd n rs hq hn hk2 hty
          have hrs := (rf_wf_arr hw hq).2 hk2
          rw [hn] at hc2
          have hj := hlt n hc2
          have hcell : H[ad c0]? = some (arrV (ca kd) n (fun i => va_rf ((rs[i]?).map ad))) := by
            have h9 := hP c0 _ (rf_w_at hq)
            simp only [rf_ce, if_neg hk2] at h9
            exact h9
          obtain ⟨t, ht⟩ := hty s hK n (fun i => va_rf ((rs[i]?).map ad))
          have hget : rs[j.toNatClampNeg]? = some (rf_ra ly c0 j.toNatClampNeg) := by
            have h8 : j.toNatClampNeg < rs.length := by rw [hrs]; exact hj
            unfold rf_ra
            rw [hq]
            simp [h8]
          exact W.aald (v := .ref (ad (rf_ra ly c0 j.toNatClampNeg))) (ty := .array t) hx hb hcell ht rfl (fun q => by cases q) (by rw [arrV_size]; exact rf_in_vp hc2) (by rw [arrV_read _ _ hj, hget]; rfl) rfl rfl hd (k H locs lC hP hS hl)
        rcases (Bool.or_eq_true _ _ ▸ hc1 : _ ∨ _) with h1 | h1
        · obtain ⟨n, rs, hq, hn⟩ := rf_kd_at h1
          exact go 2 n rs hq hn (by decide) (fun U hU n z => ⟨.int, (hU.2 2 _ rfl).1 n z⟩)
        · obtain ⟨n, rs, hq, hn⟩ := rf_kd_at h1
          exact go 3 n rs hq hn (by decide) (fun U hU n z => ⟨.byte, (hU.2 3 _ rfl).1 n z⟩)
      · cases hs
    · cases hs
  | iastore =>
    simp only [rf_st] at hs
    split at hs
    · rename_i a j c0 r0
      split at hs
      · rename_i hc
        cases hs
        obtain ⟨hc1, hc2⟩ := (Bool.and_eq_true _ _ ▸ hc : _ ∧ _)
        obtain ⟨n, rs, hq, hn⟩ := rf_kd_at hc1
        rw [hn] at hc2
        refine va_iast hx hb hK hP (hD σ) hS c0 0 (rf_w_at hq) rfl (rf_in_vp hc2) hd (fun H1 locs1 hP1 _ hS1 => k H1 locs1 lC ?_ hS1 hl)
        exact cast (congrArg (fun z => va_P D vwCl z H1) (rf_w_setA (ca := ca) (ad := ad) (σ := σ) hq (show (0 : Nat) < 2 by decide) _)) hP1
      · cases hs
    · cases hs
  | bastore =>
    simp only [rf_st] at hs
    split at hs
    · rename_i a j c0 r0
      split at hs
      · rename_i hc
        cases hs
        obtain ⟨hc1, hc2⟩ := (Bool.and_eq_true _ _ ▸ hc : _ ∧ _)
        obtain ⟨n, rs, hq, hn⟩ := rf_kd_at hc1
        rw [hn] at hc2
        refine va_bast hx hb hK hP (hD σ) hS c0 1 (rf_w_at hq) rfl (rf_in_vp hc2) hd (fun H1 locs1 hP1 _ hS1 => k H1 locs1 lC ?_ hS1 hl)
        exact cast (congrArg (fun z => va_P D vwCl z H1) (rf_w_setA (ca := ca) (ad := ad) (σ := σ) hq (show (1 : Nat) < 2 by decide) _)) hP1
      · cases hs
    · cases hs
  | invokestatic n =>
    simp only [rf_st] at hs
    have hB : (st.map fun v => v.category).sum ≤ 20 := hB0.elim id (fun h => absurd rfl (h n))
    have hin := of_decide_eq_true hok2
    have hlk := rf_aT_ok _ hin
    split at hs
    · rename_i hx0
      subst hx0
      split at hs
      · rename_i n0 dp b sp a r0
        split at hs
        · rename_i hc
          cases hs
          simp only [rf_cp, Bool.and_eq_true, decide_eq_true_eq] at hc
          obtain ⟨⟨⟨⟨⟨⟨c1, c2⟩, c3⟩, c4⟩, c5⟩, c6⟩, c7⟩ := hc
          obtain ⟨n1, rs1, hq1, hn1⟩ := rf_kd_at c1
          obtain ⟨n2, rs2, hq2, hn2⟩ := rf_kd_at c2
          rw [hn1] at c6
          rw [hn2] at c7
          refine va_copyi hx hb (by rw [hml]; exact hl.2.1.symm) hown (hts _ (rf_tbw (rf_in_tb hlk rfl))) (hts _ (rf_tbw (rf_in_tb rf_ac_ok.1 rfl))) (hts _ (rf_tbw (rf_in_tb rf_ac_ok.2.1 rfl))) (hts _ (rf_tbw (rf_in_tb rf_ac_ok.2.2 rfl))) hK hP (hD σ) hS a b 0 0 (rf_w_at hq1) (rf_w_at hq2) rfl rfl rfl c3 c4 c5 c6 c7 (fun _ _ => rfl) (Nat.succ_le_succ (Nat.zero_le d)) ?_ hd (fun H1 locs1 hP1 _ hS1 => k H1 locs1 lC ?_ hS1 hl)
          · rw [rf_cv_map_cat]
            have h9 : (r0.map fun v => v.category).sum ≤ 20 := by simp only [List.map_cons, List.sum_cons] at hB; omega
            have h8 : nativeFrameWords "java/lang/System" "arraycopy" 5 ≤ 15 := by decide +kernel
            show _ ≤ 50 * (d + 1)
            omega
          · exact cast (congrArg (fun z => va_P D vwCl z H1) (rf_w_setA (ca := ca) (ad := ad) (σ := σ) hq2 (show (0 : Nat) < 2 by decide) _)) hP1
        · cases hs
      · cases hs
    · split at hs
      · rename_i hx0 hx1
        subst hx1
        split at hs
        · rename_i a r0
          cases hs
          refine va_mabs hx hb (by rw [hml]; exact hl.2.1.symm) hown (hts _ (rf_tbw (rf_in_tb hlk rfl))) (hts _ (rf_tbw (rf_in_tb rf_abs_ok.1 rfl))) (hts _ (rf_tbw (rf_in_tb (rf_iT_ok 12 (by decide)) rfl))) (hts _ (rf_tbw (rf_in_tb rf_abs_ok.2 rfl))) (Nat.succ_le_succ (Nat.zero_le d)) ?_ (Nat.le_refl _) (Nat.le_refl _) hd (k H locs lC hP hS hl)
          rw [rf_cv_map_cat]
          have h9 : (r0.map fun v => v.category).sum ≤ 20 := by simp only [List.map_cons, List.sum_cons] at hB; omega
          show _ ≤ 50 * (d + 1)
          omega
        · cases hs
      · split at hs
        · rename_i hx0 hx1 hx2
          subst hx2
          split at hs
          · rename_i b a r0
            cases hs
            refine va_mmax hx hb (by rw [hml]; exact hl.2.1.symm) hown (hts _ (rf_tbw (rf_in_tb hlk rfl))) (hts _ (rf_tbw (rf_in_tb rf_max_ok.1 rfl))) (hts _ (rf_tbw (rf_in_tb (rf_iT_ok 12 (by decide)) rfl))) (hts _ (rf_tbw (rf_in_tb rf_max_ok.2 rfl))) (Nat.succ_le_succ (Nat.zero_le d)) ?_ (Nat.le_refl _) (Nat.le_refl _) hd (k H locs lC hP hS hl)
            rw [rf_cv_map_cat]
            have h9 : (r0.map fun v => v.category).sum ≤ 20 := by simp only [List.map_cons, List.sum_cons] at hB; omega
            show _ ≤ 50 * (d + 1)
            omega
          · cases hs
        · split at hs
          · rename_i hx0 hx1 hx2 hx3
            subst hx3
            split at hs
            · rename_i b a r0
              cases hs
              refine va_mmin hx hb (by rw [hml]; exact hl.2.1.symm) hown (hts _ (rf_tbw (rf_in_tb hlk rfl))) (hts _ (rf_tbw (rf_in_tb rf_min_ok.1 rfl))) (hts _ (rf_tbw (rf_in_tb (rf_iT_ok 12 (by decide)) rfl))) (hts _ (rf_tbw (rf_in_tb rf_min_ok.2 rfl))) (Nat.succ_le_succ (Nat.zero_le d)) ?_ (Nat.le_refl _) (Nat.le_refl _) hd (k H locs lC hP hS hl)
              rw [rf_cv_map_cat]
              have h9 : (r0.map fun v => v.category).sum ≤ 20 := by simp only [List.map_cons, List.sum_cons] at hB; omega
              show _ ≤ 50 * (d + 1)
              omega
            · cases hs
          · cases hs
  | _ => exact absurd hs (by simp [rf_st])
end
section
/-! ===== rules: blocks, guards, branches, calls, ends, entry ===== -/
def rf_sz (i : Instr) (st : List Value) : Bool := match i with
  | .invokestatic _ => decide ((st.map fun v => v.category).sum ≤ 20)
  | _ => true
def rf_isC (e : rf_E) : Bool := match e.2.1 with
  | .invokestatic _ => decide (e.2.2.2 < 1000)
  | _ => false
def rf_rc (M : rf_M) (rc : List rf_E) : Bool := rc.all (fun e => rf_dec M.2.2.1 e && (rf_okc M.1 M.2.2.2.1 e || rf_isC e))
def rf_run (ly : List rf_C) : List rf_E → rf_F → Option rf_F
  | [], f => some f
  | e :: es, f => if e.1 = f.1 ∧ rf_sz e.2.1 f.2.2.1 = true then (rf_st ly e.2.1 e.2.2.2 (e.1 + e.2.2.1) f.2.1 f.2.2.1 f.2.2.2).bind (rf_run ly es) else none
theorem rf_rc_dec {M : rf_M} {rc : List rf_E} (h : rf_rc M rc = true) {e : rf_E} (he : e ∈ rc) : decode M.2.2.1 e.1 = .ok (e.2.1, e.2.2.1) := rf_dec_ok (Bool.and_eq_true _ _ ▸ List.all_eq_true.mp h e he : _ ∧ _).1
theorem rf_rc_ok {M : rf_M} {rc : List rf_E} (h : rf_rc M rc = true) {e : rf_E} (he : e ∈ rc) {ly : List rf_C} {np : Nat} {ls : List (Option Value)} {st : List Value} {σ : rf_S} {f' : rf_F} (hs : rf_st ly e.2.1 e.2.2.2 np ls st σ = some f') : rf_okc M.1 M.2.2.2.1 e = true := by
  have h1 := (Bool.and_eq_true _ _ ▸ List.all_eq_true.mp h e he : _ ∧ _).2
  rcases (Bool.or_eq_true _ _ ▸ h1 : _ ∨ _) with h2 | h2
  · exact h2
  · obtain ⟨pc, i, len, x⟩ := e
    cases i with
    | invokestatic n =>
      have h3 : x < 1000 := of_decide_eq_true h2
      simp only [rf_st] at hs
      rw [if_neg (by omega), if_neg (by omega), if_neg (by omega), if_neg (by omega)] at hs
      cases hs
    | _ => cases h2
theorem rf_one {ly : List rf_C} {d : Nat} {M : rf_M} (hw : rf_wf ly) {rc : List rf_E} (hrc : rf_rc M rc = true) {e : rf_E} (he : e ∈ rc) {ls : List (Option Value)} {st : List Value} {σ : rf_S} {f' : rf_F} {r : Option Value} {σ' : rf_S} (hz : rf_sz e.2.1 st = true) (hs : rf_st ly e.2.1 e.2.2.2 (e.1 + e.2.2.1) ls st σ = some f') (k : rf_G ly d M f' r σ') : rf_G ly d M (e.1, ls, st, σ) r σ' := by
  have hok := rf_rc_ok hrc he hs
  have hd := rf_rc_dec hrc he
  obtain ⟨pc, i, len, x⟩ := e
  refine rf_step hw hd hok ?_ hs k
  cases i with
  | invokestatic n => exact Or.inl (of_decide_eq_true hz)
  | _ => exact Or.inr (fun k => by intro q; cases q)
theorem rf_bl {ly : List rf_C} {d : Nat} {M : rf_M} (hw : rf_wf ly) {rc : List rf_E} (hrc : rf_rc M rc = true) {r : Option Value} {σ' : rf_S} : ∀ (es : List rf_E) (f f' : rf_F), (∀ e ∈ es, e ∈ rc) → rf_run ly es f = some f' → rf_G ly d M f' r σ' → rf_G ly d M f r σ'
  | [], f, f', _, h, k => by
    cases h
    exact k
  | e :: es, f, f', hm, h, k => by
    simp only [rf_run] at h
    split at h
    · rename_i hc
      obtain ⟨f1, h1, h2⟩ := Option.bind_eq_some_iff.mp h
      obtain ⟨pc, ls, st, σ⟩ := f
      have h3 : e.1 = pc := hc.1
      subst h3
      exact rf_one hw hrc (hm e List.mem_cons_self) hc.2 h1 (rf_bl hw hrc es f1 f' (fun e he => hm e (List.mem_cons_of_mem _ he)) h2 k)
    · cases h
/-- a stretch of instructions: the rows n .. n + cnt of the method -/
theorem rf_b {ly : List rf_C} {d : Nat} {M : rf_M} (hw : rf_wf ly) {rc : List rf_E} (hrc : rf_rc M rc = true) (n cnt : Nat) {f : rf_F} (f' : rf_F) {r : Option Value} {σ' : rf_S} (h : rf_run ly ((rc.drop n).take cnt) f = some f') (k : rf_G ly d M f' r σ') : rf_G ly d M f r σ' := rf_bl hw hrc _ f f' (fun e he => List.mem_of_mem_drop (List.mem_of_mem_take he)) h k
/-- an instruction that is guarded -/
theorem rf_gd {ly : List rf_C} {d : Nat} {M : rf_M} (hw : rf_wf ly) {rc : List rf_E} (hrc : rf_rc M rc = true) (n : Nat) {pc : Nat} {i : Instr} {len x : Nat} {ls : List (Option Value)} {st : List Value} {σ : rf_S} (f' : rf_F) {r : Option Value} {σ' : rf_S} (he : rc[n]? = some (pc, i, len, x)) (hz : rf_sz i st = true) {b : Bool} (hb : b = true) (hs : rf_st ly i x (pc + len) ls st σ = if b = true then some f' else none) (k : rf_G ly d M f' r σ') : rf_G ly d M (pc, ls, st, σ) r σ' := by
  rw [if_pos hb] at hs
  exact rf_one hw hrc (List.mem_of_getElem? he) hz hs k
theorem rf_nz {ly : List rf_C} {d : Nat} {M : rf_M} (hw : rf_wf ly) {rc : List rf_E} (hrc : rf_rc M rc = true) (n : Nat) {pc : Nat} {i : Instr} {len x : Nat} {ls : List (Option Value)} {st : List Value} {σ : rf_S} (f' : rf_F) {r : Option Value} {σ' : rf_S} (he : rc[n]? = some (pc, i, len, x)) (hz : rf_sz i st = true) {c : Prop} [Decidable c] (hc : ¬ c) (hs : rf_st ly i x (pc + len) ls st σ = if c then none else some f') (k : rf_G ly d M f' r σ') : rf_G ly d M (pc, ls, st, σ) r σ' := by
  rw [if_neg hc] at hs
  exact rf_one hw hrc (List.mem_of_getElem? he) hz hs k
/-- a branch that is taken, and one that is not -/
theorem rf_t {ly : List rf_C} {d : Nat} {M : rf_M} (hw : rf_wf ly) {rc : List rf_E} (hrc : rf_rc M rc = true) (n : Nat) {pc : Nat} {i : Instr} {len x : Nat} {ls : List (Option Value)} {st : List Value} {σ : rf_S} (f1 : rf_F) {f2 : rf_F} {r : Option Value} {σ' : rf_S} (he : rc[n]? = some (pc, i, len, x)) (hz : rf_sz i st = true) {c : Prop} [Decidable c] (hc : c) (hs : rf_st ly i x (pc + len) ls st σ = if c then some f1 else some f2) (k : rf_G ly d M f1 r σ') : rf_G ly d M (pc, ls, st, σ) r σ' := by
  rw [if_pos hc] at hs
  exact rf_one hw hrc (List.mem_of_getElem? he) hz hs k
theorem rf_f {ly : List rf_C} {d : Nat} {M : rf_M} (hw : rf_wf ly) {rc : List rf_E} (hrc : rf_rc M rc = true) (n : Nat) {pc : Nat} {i : Instr} {len x : Nat} {ls : List (Option Value)} {st : List Value} {σ : rf_S} {f1 : rf_F} (f2 : rf_F) {r : Option Value} {σ' : rf_S} (he : rc[n]? = some (pc, i, len, x)) (hz : rf_sz i st = true) {c : Prop} [Decidable c] (hc : ¬ c) (hs : rf_st ly i x (pc + len) ls st σ = if c then some f1 else some f2) (k : rf_G ly d M f2 r σ') : rf_G ly d M (pc, ls, st, σ) r σ' := by
  rw [if_neg hc] at hs
  exact rf_one hw hrc (List.mem_of_getElem? he) hz hs k
/-- some locals are forgotten -/
theorem rf_fg {ly : List rf_C} {d : Nat} {M : rf_M} (bs : List Bool) {pc : Nat} {ls : List (Option Value)} {st : List Value} {σ : rf_S} (ls' : List (Option Value)) {r : Option Value} {σ' : rf_S} (h : rf_mk bs ls = ls') (k : rf_G ly d M (pc, ls', st, σ) r σ') : rf_G ly d M (pc, ls, st, σ) r σ' := by
  subst h
  intro p l e s m args below meth c D ca ad tk A hH H locs lC hP hS hl
  exact k p l e s m args below meth c D ca ad tk A hH H locs lC hP hS (hl.mk bs)
/-! switches -/
theorem rf_sw {ly : List rf_C} {d : Nat} {M : rf_M} {rc : List rf_E} (hrc : rf_rc M rc = true) (n : Nat) {pc : Nat} {dflt lo hi : Int} {offs : Array Int} {len x : Nat} {ls : List (Option Value)} {st : List Value} {σ : rf_S} {a k0 : Int32} (tgt : Nat) {off : Int} {r : Option Value} {σ' : rf_S} (he : rc[n]? = some (pc, .tableswitch dflt lo hi offs, len, x)) (ha : a = k0) (h1 : ¬ k0.toInt < lo) (h2 : ¬ hi < k0.toInt) (ho : offs[(k0.toInt - lo).toNat]? = some off) (ht : (pc : Int) + off = (tgt : Int)) (k : rf_G ly d M (tgt, ls, st, σ) r σ') : rf_G ly d M (pc, ls, .int a :: st, σ) r σ' := by
  have hd : decode M.2.2.1 pc = .ok (.tableswitch dflt lo hi offs, len) := rf_rc_dec (e := (pc, .tableswitch dflt lo hi offs, len, x)) hrc (List.mem_of_getElem? he)
  subst ha
  intro p l e s m args below meth c D ca ad tk A hH H locs lC hP hS hl
  exact lv_tableIn hH.1 hH.2.1 hd h1 h2 ho ht (k p l e s m args below meth c D ca ad tk A hH H locs lC hP hS hl)
theorem rf_sd {ly : List rf_C} {d : Nat} {M : rf_M} {rc : List rf_E} (hrc : rf_rc M rc = true) (n : Nat) {pc : Nat} {dflt lo hi : Int} {offs : Array Int} {len x : Nat} {ls : List (Option Value)} {st : List Value} {σ : rf_S} {a : Int32} (ks : List Int32) (tgt : Nat) {r : Option Value} {σ' : rf_S} (he : rc[n]? = some (pc, .tableswitch dflt lo hi offs, len, x)) (ha : ∀ k ∈ ks, ¬ a = k) (hk : (List.range (hi - lo + 1).toNat).all (fun j => ks.any (fun k => decide (k.toInt = lo + (j : Int)))) = true) (ht : (pc : Int) + dflt = (tgt : Int)) (k : rf_G ly d M (tgt, ls, st, σ) r σ') : rf_G ly d M (pc, ls, .int a :: st, σ) r σ' := by
  have hd : decode M.2.2.1 pc = .ok (.tableswitch dflt lo hi offs, len) := rf_rc_dec (e := (pc, .tableswitch dflt lo hi offs, len, x)) hrc (List.mem_of_getElem? he)
  intro p l e s m args below meth c D ca ad tk A hH H locs lC hP hS hl
  refine lv_tableOut hH.1 hH.2.1 hd ?_ ht (k p l e s m args below meth c D ca ad tk A hH H locs lC hP hS hl)
  by_cases h1 : a.toInt < lo
  · exact Or.inl h1
  · by_cases h2 : hi < a.toInt
    · exact Or.inr h2
    · exfalso
      have h3 := List.all_eq_true.mp hk (a.toInt - lo).toNat (List.mem_range.mpr (by omega))
      obtain ⟨q, hq, hq2⟩ := List.any_eq_true.mp h3
      have hq3 : q.toInt = lo + ((a.toInt - lo).toNat : Int) := of_decide_eq_true hq2
      have hq4 : q.toInt = a.toInt := by omega
      exact ha q hq (Int32.toInt_inj.mp hq4.symm)
theorem rf_lk {ly : List rf_C} {d : Nat} {M : rf_M} {rc : List rf_E} (hrc : rf_rc M rc = true) (n : Nat) {pc : Nat} {dflt : Int} {ps : Array (Int × Int)} {len x : Nat} {ls : List (Option Value)} {st : List Value} {σ : rf_S} {a : Int32} (tgt : Nat) {off : Int} {r : Option Value} {σ' : rf_S} (he : rc[n]? = some (pc, .lookupswitch dflt ps, len, x)) (hp : (ps.toList.zip (ps.toList.drop 1)).all (fun (a, next) => a.1 < next.1) = true) (ho : Op.lookupswitch.offset ps.toList dflt a.toInt = off) (ht : (pc : Int) + off = (tgt : Int)) (k : rf_G ly d M (tgt, ls, st, σ) r σ') : rf_G ly d M (pc, ls, .int a :: st, σ) r σ' := by
  have hd : decode M.2.2.1 pc = .ok (.lookupswitch dflt ps, len) := rf_rc_dec (e := (pc, .lookupswitch dflt ps, len, x)) hrc (List.mem_of_getElem? he)
  intro p l e s m args below meth c D ca ad tk A hH H locs lC hP hS hl
  exact lv_lookup hH.1 hH.2.1 hd hp ho ht (k p l e s m args below meth c D ca ad tk A hH H locs lC hP hS hl)
/-! ends -/
theorem rf_ri {ly : List rf_C} {d : Nat} {M : rf_M} {rc : List rf_E} (hrc : rf_rc M rc = true) (n : Nat) {pc x : Nat} {ls : List (Option Value)} {σ : rf_S} {v : Int32} (he : rc[n]? = some (pc, .ireturn, 1, x)) (hr : M.2.2.2.2.1 = some .int) : rf_G ly d M (pc, ls, [.int v], σ) (some (.int v)) σ := by
  have hd : decode M.2.2.1 pc = .ok (.ireturn, 1) := rf_rc_dec (e := (pc, .ireturn, 1, x)) hrc (List.mem_of_getElem? he)
  intro p l e s m args below meth c D ca ad tk A hH H locs lC hP hS hl
  exact W.iret hH.1 hH.2.1 (hH.2.2.2.1.trans hr) (fun t ht _ => ⟨rfl, by rw [ht]; exact hP, hS.F ht⟩) hS.2.2 hd (hlocks := hH.2.2.2.2.1)
theorem rf_nb {v : Int32} (h : v = 0 ∨ v = 1) : narrow .boolean (.int v) = .int v := by
  rcases h with rfl | rfl <;> rfl
theorem rf_rz {ly : List rf_C} {d : Nat} {M : rf_M} {rc : List rf_E} (hrc : rf_rc M rc = true) (n : Nat) {pc x : Nat} {ls : List (Option Value)} {σ : rf_S} {v : Int32} (he : rc[n]? = some (pc, .ireturn, 1, x)) (hr : M.2.2.2.2.1 = some .boolean) (hv : v = 0 ∨ v = 1) : rf_G ly d M (pc, ls, [.int v], σ) (some (.int v)) σ := by
  have hd : decode M.2.2.1 pc = .ok (.ireturn, 1) := rf_rc_dec (e := (pc, .ireturn, 1, x)) hrc (List.mem_of_getElem? he)
  intro p l e s m args below meth c D ca ad tk A hH H locs lC hP hS hl
  exact W.zret hH.1 hH.2.1 (hH.2.2.2.1.trans hr) (rf_nb hv) (fun t ht _ => ⟨rfl, by rw [ht]; exact hP, hS.F ht⟩) hS.2.2 hd (hlocks := hH.2.2.2.2.1)
theorem rf_rl {ly : List rf_C} {d : Nat} {M : rf_M} {rc : List rf_E} (hrc : rf_rc M rc = true) (n : Nat) {pc x : Nat} {ls : List (Option Value)} {σ : rf_S} {v : Int64} (he : rc[n]? = some (pc, .lreturn, 1, x)) (hr : M.2.2.2.2.1 = some .long) : rf_G ly d M (pc, ls, [.long v], σ) (some (.long v)) σ := by
  have hd : decode M.2.2.1 pc = .ok (.lreturn, 1) := rf_rc_dec (e := (pc, .lreturn, 1, x)) hrc (List.mem_of_getElem? he)
  intro p l e s m args below meth c D ca ad tk A hH H locs lC hP hS hl
  exact W.lret hH.1 hH.2.1 (hH.2.2.2.1.trans hr) (fun t ht _ => ⟨rfl, by rw [ht]; exact hP, hS.F ht⟩) hS.2.2 hd (hlocks := hH.2.2.2.2.1)
theorem rf_rv {ly : List rf_C} {d : Nat} {M : rf_M} {rc : List rf_E} (hrc : rf_rc M rc = true) (n : Nat) {pc x : Nat} {ls : List (Option Value)} {σ : rf_S} (he : rc[n]? = some (pc, .return_, 1, x)) (hr : M.2.2.2.2.1 = none) : rf_G ly d M (pc, ls, [], σ) none σ := by
  have hd : decode M.2.2.1 pc = .ok (.return_, 1) := rf_rc_dec (e := (pc, .return_, 1, x)) hrc (List.mem_of_getElem? he)
  intro p l e s m args below meth c D ca ad tk A hH H locs lC hP hS hl
  exact W.vret hH.1 hH.2.1 (hH.2.2.2.1.trans hr) (fun t ht _ => ⟨rfl, by rw [ht]; exact hP, hS.F ht⟩) hS.2.2 hd (hlocks := hH.2.2.2.2.1)
theorem rf_rr {ly : List rf_C} {d : Nat} {M : rf_M} {rc : List rf_E} (hrc : rf_rc M rc = true) (n : Nat) {pc x : Nat} {ls : List (Option Value)} {σ : rf_S} {v : Nat} (he : rc[n]? = some (pc, .areturn, 1, x)) (hr : M.2.2.2.2.1 = some (.array .int)) : rf_G ly d M (pc, ls, [.ref v], σ) (some (.ref v)) σ := by
  have hd : decode M.2.2.1 pc = .ok (.areturn, 1) := rf_rc_dec (e := (pc, .areturn, 1, x)) hrc (List.mem_of_getElem? he)
  intro p l e s m args below meth c D ca ad tk A hH H locs lC hP hS hl
  exact W.aret hH.1 hH.2.1 (hH.2.2.2.1.trans hr) (Or.inr ⟨_, rfl⟩) (Or.inr ⟨_, rfl⟩) (fun t ht _ => ⟨rfl, by rw [ht]; exact hP, hS.F ht⟩) hS.2.2 hd (hlocks := hH.2.2.2.2.1)
/-! calls -/
def rf_mw (M : rf_M) : Prop := rf_cwl M ∈ lw_tbl ∧ (M.2.2.2.2.2.2 = true → rf_swl M ∈ lw_tbl) ∧ (M.2.2.2.2.2.2 = false → rf_nwl M ∈ lw_tbl ∧ rf_vwl M ∈ lw_tbl) ∧ rf_mq M = true
theorem rf_mq_spec {M : rf_M} (h : rf_mq M = true) : plainName M.2.1.cls = true ∧ M.2.1.cls = rf_cn M.1 ∧ M.1 < 14 ∧ M.2.2.2.1 ≤ 20 ∧ M.2.1.cls ≠ "java/lang/invoke/MethodHandle" ∧ M.2.1.cls ≠ "java/lang/invoke/VarHandle" ∧ (parseMethodDescriptor M.2.1.desc).map (fun d => d.parameters.length) = some M.2.2.2.2.2.1 := by
  simp only [rf_mq, Bool.and_eq_true, decide_eq_true_eq] at h
  obtain ⟨⟨⟨⟨⟨⟨h1, h2⟩, h3⟩, h4⟩, h5⟩, h6⟩, h7⟩ := h
  exact ⟨h1, h2, h3, h4, h5, h6, h7⟩
theorem rf_good (Mt : rf_M) {Ts : List Cond} (hT : ∀ w ∈ rf_tb, w ∈ Ts) (h : rf_cwl Mt ∈ lw_tbl) : GoodIn Ts (rf_ws Mt) := by
  intro w hw
  rcases List.mem_cons.mp hw with rfl | hw
  · exact ⟨hT _ (rf_in_tb h rfl), rf_tb_good (rf_in_tb h rfl)⟩
  · exact ⟨hT w hw, rf_tb_good hw⟩
theorem rf_ini {o : Nat} (h : o < 14) : Cond.initialized (rf_cn o) ∈ rf_tb := by
  refine rf_in_tb (rf_iT_ok o ?_) rfl
  match o, h with
  | 0, _ | 1, _ | 2, _ | 3, _ | 4, _ | 5, _ | 6, _ | 7, _ | 8, _ | 9, _ | 10, _ | 11, _ | 12, _ | 13, _ => decide
theorem rf_nwm {w : Cond} (h : w ∈ rf_nw) {s U : State} (hW : s.WarmedH U.vm) (hz : va_Nw w s) : va_Nw w U := by
  have h1 := (List.mem_filter.mp h).2
  cases w with
  | fieldLinkNest a i b n d h => exact hz.warmF hW
  | methodLinkNest a i x h => exact hz.warmM hW
  | _ => cases h1
theorem rf_nws {w : Cond} (h : w ∈ rf_nw) {s U : State} (hW : s.vm = U.vm) (hz : va_Nw w s) : va_Nw w U := by
  have h1 := (List.mem_filter.mp h).2
  cases w with
  | fieldLinkNest a i b n d h => exact hz.same rfl hW
  | methodLinkNest a i x h => exact hz.same rfl hW
  | _ => cases h1
theorem rf_blind (ly : List rf_C) (D : va_G) (ca : Nat → ClassId) (ad : Nat → Nat) (tk sz : Nat) (A : Nat → Prop) (σ : rf_S) (as : List Value) : FrameBlind (va_Pc as (fun U => U.heap.size = sz ∧ rf_X ly D ca ad tk A σ U)) := by
  intro a U g mk q
  obtain ⟨q0, q1, qP, qK, qD, qN, qZ, qT⟩ := q
  exact ⟨q0, q1, qP, va_K.moved (u := U) (U := U.calling g mk a) (Vm.Alike.refl U.vm) qK, qD, fun w hw => rf_nws hw (show U.vm = (U.calling g mk a).vm from rfl) (qN w hw), va_Z.moved (u := U) (U := U.calling g mk a) (Vm.Alike.refl U.vm) qZ, va_T.moved (u := U) (U := U.calling g mk a) (Vm.Alike.refl U.vm) qT⟩
theorem rf_pre {ly : List rf_C} {M : rf_M} {p : Program} {s : State} {m : MethodId} {args : Array Value} {meth : Method} {c : Code} {D : va_G} {ca : Nat → ClassId} {ad : Nat → Nat} {tk : Nat} {A : Nat → Prop} (hH : rf_H ly M p s m args meth c D ca ad tk A) {H : Heap} {locs : List Loc} {σ : rf_S} (hP : va_P D vwCl (rf_w ca ad ly σ) H) (hS : va_S A s.heap H locs) (U : State) (hU : U.heap = H) (hW : s.WarmedH U.vm) : U.heap.size = H.size ∧ rf_X ly D ca ad tk (va_A (rf_w ca ad ly σ) H.size) σ U := by
  obtain ⟨hx, hb, hml, hr, hlocks, hts, hown, hK, hN, hA, hD, hF, hZ, hT⟩ := hH
  have hAA : ∀ q, va_A (rf_w ca ad ly σ) H.size q → A q := fun q h => hF σ H.size q hS.1 h
  refine ⟨by rw [hU], by rw [hU]; exact hP, va_K.moved hW.alike hK, (hD σ).weaken (fun _ _ _ _ => trivial), fun w hw => rf_nwm hw hW (hN w hw), ?_, ?_⟩
  · rw [hU]
    exact ((hZ.moved hW.alike).kept (fun a h1 h2 => hS.2.1 a h1 h2)).narrow hAA
  · rw [hU]
    exact ((hT.moved hW.alike).kept (fun a h1 h2 => hS.2.1 a h1 h2)).narrow hAA
theorem rf_aft {ly : List rf_C} {D : va_G} {ca : Nat → ClassId} {ad : Nat → Nat} {p : Program} {l : Launch} {e : Env} {R : Room} {s : State} {m : MethodId} {args : Array Value} {below : List Frame} {meth : Method} {c : Code} {H : Heap} {locs : List Loc} {Q : State → Prop} {pc : Nat} {lC : Array Slot} {st0 rest : List Value} {a : Array Value} {A0 A1 : Nat → Prop} {r1 : Option Value} {σ1 : rf_S} {free : Addr → Prop} (hr : va_Run p l e R s m args below meth c H locs 0 0 0 0 (F0 m pc lC st0) rest (rf_Q ly D ca ad A1 r1 σ1 a) free) (hS : va_S A0 s.heap H locs) (hA : ∀ q, q < H.size → A1 q → A0 q) (hf : ∀ q, free q → A0 q)
    (kk : ∀ (H1 : Heap) (locs1 : List Loc), va_P D vwCl (rf_w ca ad ly σ1) H1 → va_S A0 s.heap H1 locs1 → W p l e R s m args below meth c H1 locs1 0 0 Q (F0 m (pc + 3) lC ((r1.map (rf_cv ad)).toList ++ rest))) : W p l e R s m args below meth c H locs 0 0 Q (F0 m pc lC st0) := by
  intro T hT X
  obtain ⟨v, st₀, t, T', L, h0, X', hL, e1, e2, ⟨hv, hP1, hz, hk⟩, st⟩ := hr T hT X
  cases hv
  rw [h0] at hz hk
  obtain ⟨t2, a1, b1⟩ := kk T'.heap (locs ++ L) (by rw [e1]; exact hP1)
    ⟨Nat.le_trans hS.1 (by rw [e1]; exact hz), fun q h1 h2 => by rw [e1, hk q (Nat.lt_of_lt_of_le h1 hS.1) (fun z => h2 (hA q (Nat.lt_of_lt_of_le h1 hS.1) z))]; exact hS.2.1 q h1 h2, fun q hq => by
      rcases List.mem_append.mp hq with h | h
      · exact hS.2.2 q h
      · exact hf _ (hL q h)⟩ T' rfl X'
  exact ⟨t2, st t2 a1, b1⟩
def rf_ob (ly : List rf_C) (ci c : Nat) : Bool := match ly[c]? with
  | some (.inl q) => q.1 == ci
  | _ => false
theorem rf_recv {ly : List rf_C} (hw : rf_wf ly) {D : va_G} {ca : Nat → ClassId} {ad : Nat → Nat} {σ : rf_S} {s : State} {H : Heap} {ci b : Nat} (ho : rf_ob ly ci b = true) (hK : va_K D vwCl (rf_ty ca) s) (hP : va_P D vwCl (rf_w ca ad ly σ) H) : ∃ cell : Cell, H[ad b]? = some cell ∧ cell.vm.isStatics = false ∧ s.vm.findClass (rf_cn ci) = some cell.cls := by
  unfold rf_ob at ho
  split at ho
  · rename_i q hq
    have hc : q.1 = ci := by simpa using ho
    obtain ⟨cq, h1, -, -⟩ := rf_wf_obj hw hq
    obtain ⟨cell, g1, g2, g3⟩ := va_recv hK hP h1 (rf_w_at hq)
    refine ⟨cell, g1, g2, ?_⟩
    rw [← g3]
    congr 1
    rw [← hc]
    match q.1, h1 with
    | 0, h | 1, h | 2, h | 3, h | 4, h | 5, h | 6, h | 7, h | 8, h | 9, h | 10, h => cases h; rfl
    | k + 11, h => simp [vwCl] at h
  · cases ho
theorem rf_rev (ad : Nat → Nat) (As : List Value) : (As.map (rf_cv ad)).reverse = As.reverse.map (rf_cv ad) := List.map_reverse.symm
theorem rf_tol (ad : Nat → Nat) (r : Option Value) (l : List Value) : (r.map (rf_cv ad)).toList ++ l.map (rf_cv ad) = (r.toList ++ l).map (rf_cv ad) := by cases r <;> rfl
set_option maxHeartbeats 1000000 in
/-- a method of an object -/
theorem rf_cv1 {ly : List rf_C} {d : Nat} {M Mt : rf_M} (hw : rf_wf ly) {rc : List rf_E} (hrc : rf_rc M rc = true) (n : Nat) {pc ix x : Nat} (nest : Bool) {ls : List (Option Value)} {st : List Value} {σ σ1 : rf_S} {r : Option Value} {σ' : rf_S} (he : rc[n]? = some (pc, .invokevirtual ix, 3, x)) (hl : (M.1, ix, nest, Mt.2.1) ∈ rf_cT) (hmt : rf_mw Mt) (hss : Mt.2.2.2.2.2.2 = false) (b : Nat) (As rest : List Value) {r1 : Option Value} (hst : st = As.reverse ++ .ref b :: rest) (ho : rf_ob ly Mt.1 b = true) (hn : As.length = Mt.2.2.2.2.2.1) (hrs : (rest.map fun v => v.category).sum ≤ 8) (hex : rf_Ex ly d Mt (.ref b :: As) σ r1 σ1) (k : rf_G ly d M (pc + 3, ls, r1.toList ++ rest, σ1) r σ') : rf_G ly d M (pc, ls, st, σ) r σ' := by
  subst hst
  intro p l e s m args below meth c D ca ad tk A hH H locs lC hP hS hlh
  have hd := rf_rc_dec hrc (List.mem_of_getElem? he)
  obtain ⟨q1, q2, q3, q4, q5, q6, q7⟩ := rf_mq_spec hmt.2.2.2
  obtain ⟨hx, hb, hml, hr, hlocks, hts, hown, hK, hN, hA, hD, hF, hZ, hT⟩ := id hH
  have hAA : ∀ q, va_A (rf_w ca ad ly σ) H.size q → A q := fun q h => hF σ H.size q hS.1 h
  have hroom : (rf_rm d).frames + 1 ≤ (rf_rm (d + 1)).frames ∧ 8 + (Mt.2.2.2.1 + 11) + (rf_rm d).locals ≤ (rf_rm (d + 1)).locals := ⟨Nat.le_refl _, by show 8 + (Mt.2.2.2.1 + 11) + 50 * d ≤ 50 * (d + 1); omega⟩
  have hini : (Cond.initialized Mt.2.1.cls).before args s = true := by rw [q2]; exact hts _ (rf_tbw (rf_ini q3))
  have hgood : GoodIn (rf_ws M) (rf_ws Mt) := rf_good Mt (fun w h => rf_tbw h) hmt.1
  obtain ⟨hi1, hi2⟩ := hmt.2.2.1 hss
  have hinst : (Cond.instanceMethod Mt.2.1).before args s = true := hts _ (rf_tbw (rf_in_tb hi1 rfl))
  have hsel : (Cond.selects (rf_cn Mt.1) Mt.2.1 Mt.2.1).before args s = true := by rw [← q2]; exact hts _ (rf_tbw (rf_in_tb hi2 rfl))
  have hpv : PreV s H (rf_cn Mt.1) (ad b) (va_Pc ((Value.ref b :: As).map (rf_cv ad)) (fun U => U.heap.size = H.size ∧ rf_X ly D ca ad tk (va_A (rf_w ca ad ly σ) H.size) σ U)) (As.map (rf_cv ad)) := ⟨rf_blind _ _ _ _ _ _ _ _ _, rf_recv hw ho hK hP, fun U hU hW => ⟨rfl, rf_pre hH hP hS U hU hW⟩⟩
  have hstk : ((As.reverse ++ Value.ref b :: rest).map (rf_cv ad)) = (As.map (rf_cv ad)).reverse ++ Value.ref (ad b) :: rest.map (rf_cv ad) := by rw [rf_rev, List.map_append]; rfl
  have hlk := rf_cT_ok _ hl
  have hk : ∀ (H1 : Heap) (locs1 : List Loc), va_P D vwCl (rf_w ca ad ly σ1) H1 → va_S A s.heap H1 locs1 → W p l e (rf_rm (d + 1)) s m args below meth c H1 locs1 0 0 (MQ below (rf_Q ly D ca ad A r σ') args s 0 0 A) (F0 m (pc + 3) lC ((r1.map (rf_cv ad)).toList ++ rest.map (rf_cv ad))) := by
    intro H1 locs1 hP1 hS1
    rw [rf_tol]
    exact k p l e s m args below meth c D ca ad tk A hH H1 locs1 lC hP1 hS1 hlh
  unfold rf_cl at hlk
  by_cases hne : nest = true
  · rw [if_pos hne] at hlk
    have hnw := hN _ (rf_in_nw hlk rfl)
    refine rf_aft (va_runVN (C := rf_cn Mt.1) (Ts := rf_ws M) (own := rf_cn M.1) (As := As.map (rf_cv ad)) (rest := rest.map (rf_cv ad)) ⟨hx, hb, hml, hown, hts⟩ (hex l D ca ad tk H.size) ⟨va_cnB Mt.2.2.2.2.2.1 hts hgood rfl rfl rfl hnw hini ⟨q5, q6, q7⟩ hroom, hinst, hsel⟩ hpv rfl (by rw [List.length_map]; exact hn) hlh.2.1 hstk (lv_room (by rw [rf_cv_map_cat]; exact hrs)) hd ⟨Nat.le_refl _, Nat.le_refl _⟩) hS (fun q _ h => hAA q h) hAA hk
  · rw [if_neg hne] at hlk
    have hlk2 := hts _ (rf_tbw (rf_in_tb hlk rfl))
    refine rf_aft (va_runV (C := rf_cn Mt.1) (Ts := rf_ws M) (own := rf_cn M.1) (As := As.map (rf_cv ad)) (rest := rest.map (rf_cv ad)) ⟨hx, hb, hml, hown, hts⟩ (hex l D ca ad tk H.size) ⟨callB_of Mt.2.2.2.2.2.1 hts hgood rfl rfl rfl hini hlk2 ⟨q5, q6, q7⟩ hroom, hinst, hsel⟩ hpv rfl (by rw [List.length_map]; exact hn) hlh.2.1 hstk (lv_room (by rw [rf_cv_map_cat]; exact hrs)) hd ⟨Nat.le_refl _, Nat.le_refl _⟩) hS (fun q _ h => hAA q h) hAA hk
set_option maxHeartbeats 1000000 in
/-- a method of a class -/
theorem rf_cs1 {ly : List rf_C} {d : Nat} {M Mt : rf_M} {rc : List rf_E} (hrc : rf_rc M rc = true) (n : Nat) {pc ix x : Nat} (nest : Bool) {ls : List (Option Value)} {st : List Value} {σ σ1 : rf_S} {r : Option Value} {σ' : rf_S} (he : rc[n]? = some (pc, .invokestatic ix, 3, x)) (hl : (M.1, ix, nest, Mt.2.1) ∈ rf_cT) (hmt : rf_mw Mt) (hss : Mt.2.2.2.2.2.2 = true) (As rest : List Value) {r1 : Option Value} (hst : st = As.reverse ++ rest) (hn : As.length = Mt.2.2.2.2.2.1) (hrs : (rest.map fun v => v.category).sum ≤ 8) (hex : rf_Ex ly d Mt As σ r1 σ1) (k : rf_G ly d M (pc + 3, ls, r1.toList ++ rest, σ1) r σ') : rf_G ly d M (pc, ls, st, σ) r σ' := by
  subst hst
  intro p l e s m args below meth c D ca ad tk A hH H locs lC hP hS hlh
  have hd := rf_rc_dec hrc (List.mem_of_getElem? he)
  obtain ⟨q1, q2, q3, q4, q5, q6, q7⟩ := rf_mq_spec hmt.2.2.2
  obtain ⟨hx, hb, hml, hr, hlocks, hts, hown, hK, hN, hA, hD, hF, hZ, hT⟩ := id hH
  have hAA : ∀ q, va_A (rf_w ca ad ly σ) H.size q → A q := fun q h => hF σ H.size q hS.1 h
  have hroom : (rf_rm d).frames + 1 ≤ (rf_rm (d + 1)).frames ∧ 8 + (Mt.2.2.2.1 + 11) + (rf_rm d).locals ≤ (rf_rm (d + 1)).locals := ⟨Nat.le_refl _, by show 8 + (Mt.2.2.2.1 + 11) + 50 * d ≤ 50 * (d + 1); omega⟩
  have hini : (Cond.initialized Mt.2.1.cls).before args s = true := by rw [q2]; exact hts _ (rf_tbw (rf_ini q3))
  have hgood : GoodIn (rf_ws M) (rf_ws Mt) := rf_good Mt (fun w h => rf_tbw h) hmt.1
  have hstat : (Cond.static Mt.2.1).before args s = true := hts _ (rf_tbw (rf_in_tb (hmt.2.1 hss) rfl))
  have hpv : PreS s H (va_Pc (As.map (rf_cv ad)) (fun U => U.heap.size = H.size ∧ rf_X ly D ca ad tk (va_A (rf_w ca ad ly σ) H.size) σ U)) (As.map (rf_cv ad)) := ⟨rf_blind _ _ _ _ _ _ _ _ _, fun U hU hW => ⟨rfl, rf_pre hH hP hS U hU hW⟩⟩
  have hstk : ((As.reverse ++ rest).map (rf_cv ad)) = (As.map (rf_cv ad)).reverse ++ rest.map (rf_cv ad) := by rw [rf_rev, List.map_append]
  have hlk := rf_cT_ok _ hl
  have hk : ∀ (H1 : Heap) (locs1 : List Loc), va_P D vwCl (rf_w ca ad ly σ1) H1 → va_S A s.heap H1 locs1 → W p l e (rf_rm (d + 1)) s m args below meth c H1 locs1 0 0 (MQ below (rf_Q ly D ca ad A r σ') args s 0 0 A) (F0 m (pc + 3) lC ((r1.map (rf_cv ad)).toList ++ rest.map (rf_cv ad))) := by
    intro H1 locs1 hP1 hS1
    rw [rf_tol]
    exact k p l e s m args below meth c D ca ad tk A hH H1 locs1 lC hP1 hS1 hlh
  unfold rf_cl at hlk
  by_cases hne : nest = true
  · rw [if_pos hne] at hlk
    have hnw := hN _ (rf_in_nw hlk rfl)
    refine rf_aft (va_runSN (Ts := rf_ws M) (own := rf_cn M.1) (As := As.map (rf_cv ad)) (rest := rest.map (rf_cv ad)) ⟨hx, hb, hml, hown, hts⟩ (hex l D ca ad tk H.size) ⟨va_cnB Mt.2.2.2.2.2.1 hts hgood rfl rfl rfl hnw hini ⟨q5, q6, q7⟩ hroom, hstat, trivial⟩ hpv rfl (by rw [List.length_map]; exact hn) hlh.2.1 hstk (lv_room (by rw [rf_cv_map_cat]; exact hrs)) hd ⟨Nat.le_refl _, Nat.le_refl _⟩) hS (fun q _ h => hAA q h) hAA hk
  · rw [if_neg hne] at hlk
    have hlk2 := hts _ (rf_tbw (rf_in_tb hlk rfl))
    refine rf_aft (va_runS (Ts := rf_ws M) (own := rf_cn M.1) (As := As.map (rf_cv ad)) (rest := rest.map (rf_cv ad)) ⟨hx, hb, hml, hown, hts⟩ (hex l D ca ad tk H.size) ⟨callB_of Mt.2.2.2.2.2.1 hts hgood rfl rfl rfl hini hlk2 ⟨q5, q6, q7⟩ hroom, hstat⟩ hpv rfl (by rw [List.length_map]; exact hn) hlh.2.1 hstk (lv_room (by rw [rf_cv_map_cat]; exact hrs)) hd ⟨Nat.le_refl _, Nat.le_refl _⟩) hS (fun q _ h => hAA q h) hAA hk
/-! entry -/
def rf_al : List Value → List (Option Value)
  | [] => []
  | v :: vs => if v.category = 2 then some v :: none :: rf_al vs else some v :: rf_al vs
theorem rf_al_len (ad : Nat → Nat) : ∀ as : List Value, (lg_sl (as.map (rf_cv ad))).length = (rf_al as).length
  | [] => rfl
  | v :: vs => by
    have ih := rf_al_len ad vs
    simp only [lg_sl, List.map_cons, List.flatMap_cons, rf_cv_cat, rf_al] at ih ⊢
    split <;> simp [ih]
theorem rf_al_at (ad : Nat → Nat) : ∀ (as : List Value) (i : Nat) (v : Value), (rf_al as)[i]? = some (some v) → (lg_sl (as.map (rf_cv ad)))[i]? = some (.val (rf_cv ad v))
  | [], i, v, h => by simp [rf_al] at h
  | u :: vs, i, v, h => by
    have ih := rf_al_at ad vs
    simp only [lg_sl, List.map_cons, List.flatMap_cons, rf_cv_cat, rf_al] at ih h ⊢
    split at h
    · rename_i hc
      rw [if_pos hc]
      match i, h with
      | 0, h => simp at h; subst h; rfl
      | 1, h => simp at h
      | i + 2, h => simp only [List.getElem?_cons_succ] at h; simpa using ih i v h
    · rename_i hc
      rw [if_neg hc]
      match i, h with
      | 0, h => simp at h; subst h; rfl
      | i + 1, h => simp only [List.getElem?_cons_succ] at h; simpa using ih i v h
set_option maxHeartbeats 1000000 in
theorem rf_ex {ly : List rf_C} {d : Nat} {M : rf_M} (hmw : rf_mw M) {as : List Value} {σ : rf_S} {r : Option Value} {σ' : rf_S} (ls : List (Option Value)) (hle : (rf_al as).length ≤ M.2.2.2.1) (hls : rf_al as ++ List.replicate (M.2.2.2.1 - (rf_al as).length) none = ls) (k : rf_G ly d M (0, ls, [], σ) r σ') : rf_Ex ly (d + 1) M as σ r σ' := by
  subst hls
  intro l D ca ad tk sz
  obtain ⟨q1, q2, q3, q4, q5, q6, q7⟩ := rf_mq_spec hmw.2.2.2
  refine Met.ofW (cc := M.2.2.1) (maxL := M.2.2.2.1) (ret := M.2.2.2.2.1) q1 rfl ?_
  intro p e s m args below meth c s₁ B hml hv
  obtain ⟨rfl, hsz, hP, hK, hD0, hN, hZ, hT⟩ := hv
  subst hsz
  have hts := atoms_spec (ws := rf_ws M) B.pre
  have hown : s.vm.findClass (rf_cn M.1) = some m.cls := by rw [← q2]; exact findClass_of_methodNamed B.named
  have hH : rf_H ly M p s m (as.map (rf_cv ad)).toArray meth c D ca ad tk (va_A (rf_w ca ad ly σ) s.heap.size) := ⟨B.exec, B.bytes, hml, B.returns, B.notSynchronized, hts, hown, hK, hN, fun q h => Or.inr h, fun σ2 => rf_D σ2 (hD0.self (sz := s.heap.size)), fun σ2 sz q h1 h2 => rf_A σ h1 h2, hZ, hT⟩
  rw [lg_entry_eq]
  have hent := lv_entry (as.map (rf_cv ad)) (n := M.2.2.2.1) (by rw [rf_al_len]; exact hle)
  refine k p l e s m _ below meth c D ca ad tk _ hH s.heap [] _ hP va_S.rf ⟨?_, hent.1, hent.2.1, fun i v hi => ?_⟩
  · simp only [List.length_append, List.length_replicate]
    omega
  · rw [List.getElem?_toArray]
    by_cases hlt : i < (rf_al as).length
    · rw [List.getElem?_append_left hlt] at hi
      rw [List.getElem?_append_left (by rw [rf_al_len]; exact hlt)]
      exact rf_al_at ad as i v hi
    · rw [List.getElem?_append_right (by omega), List.getElem?_replicate] at hi
      split at hi <;> cases hi
/-! loops -/
def rf_lp {S E : Type} (b : S → Option (S ⊕ E)) : Nat → S → Option E
  | 0, _ => none
  | n + 1, s => (b s).bind (fun o => match o with
    | .inl s' => rf_lp b n s'
    | .inr e => some e)
theorem rf_lpG {S E : Type} {b : S → Option (S ⊕ E)} {G : S → Prop} {K : E → Prop} (hb : ∀ s o, b s = some o → (∀ s', o = .inl s' → G s') → (∀ e, o = .inr e → K e) → G s) : ∀ (n : Nat) (s : S) (e : E), rf_lp b n s = some e → K e → G s
  | 0, s, e, h, _ => by cases h
  | n + 1, s, e, h, hk => by
    simp only [rf_lp] at h
    obtain ⟨o, h1, h2⟩ := Option.bind_eq_some_iff.mp h
    refine hb s o h1 (fun s' hs => ?_) (fun e' he => ?_)
    · subst hs
      exact rf_lpG hb n s' e h2 hk
    · subst he
      cases h2
      exact hk
end
