section
-- ===== PART A: goes FIRST, ahead of the names: the tables' words, and 'selects' of the private methods out of them =====
/-- a private method of a class that the tables say can be made, by its rows of tables_1 -/
def lw_okq (q : MethodName × Nat) : Prop := (q.1.cls ≠ "java/lang/invoke/MethodHandle" ∧ q.1.cls ≠ "java/lang/invoke/VarHandle") ∧ Cond.instantiable q.1.cls q.2 ∈ tables_1 ∧ Cond.privateMethod q.1 ∈ tables_1 ∧ Cond.instanceMethod q.1 ∈ tables_1
theorem lw_p0 : lw_okq (⟨"DarkCommittee", "refuse", "(I)I"⟩, 20) := ⟨⟨by decide +kernel, by decide +kernel⟩, List.mem_of_getElem? (i := 21) (by decide +kernel), List.mem_of_getElem? (i := 417) (by decide +kernel), List.mem_of_getElem? (i := 418) (by decide +kernel)⟩
theorem lw_p1 : lw_okq (⟨"DarkCommittee", "accept", "(I)I"⟩, 20) := ⟨⟨by decide +kernel, by decide +kernel⟩, List.mem_of_getElem? (i := 21) (by decide +kernel), List.mem_of_getElem? (i := 432) (by decide +kernel), List.mem_of_getElem? (i := 433) (by decide +kernel)⟩
theorem lw_p2 : lw_okq (⟨"DarkCommittee$Council", "tellBird", "(LDarkCommittee$Stand;II)V"⟩, 6) := ⟨⟨by decide +kernel, by decide +kernel⟩, List.mem_of_getElem? (i := 243) (by decide +kernel), List.mem_of_getElem? (i := 467) (by decide +kernel), List.mem_of_getElem? (i := 468) (by decide +kernel)⟩
theorem lw_p3 : lw_okq (⟨"DarkCommittee$Council", "tellLaw", "(LDarkCommittee$Stand;IIII)V"⟩, 6) := ⟨⟨by decide +kernel, by decide +kernel⟩, List.mem_of_getElem? (i := 243) (by decide +kernel), List.mem_of_getElem? (i := 471) (by decide +kernel), List.mem_of_getElem? (i := 472) (by decide +kernel)⟩
theorem lw_p4 : lw_okq (⟨"DarkCommittee$Council", "wouldCarry", "(II)Z"⟩, 6) := ⟨⟨by decide +kernel, by decide +kernel⟩, List.mem_of_getElem? (i := 243) (by decide +kernel), List.mem_of_getElem? (i := 553) (by decide +kernel), List.mem_of_getElem? (i := 554) (by decide +kernel)⟩
theorem lw_p5 : lw_okq (⟨"DarkCommittee", "term", "(I)I"⟩, 20) := ⟨⟨by decide +kernel, by decide +kernel⟩, List.mem_of_getElem? (i := 21) (by decide +kernel), List.mem_of_getElem? (i := 564) (by decide +kernel), List.mem_of_getElem? (i := 565) (by decide +kernel)⟩
theorem lw_p6 : lw_okq (⟨"DarkCommittee", "feedFour", "(I)V"⟩, 20) := ⟨⟨by decide +kernel, by decide +kernel⟩, List.mem_of_getElem? (i := 21) (by decide +kernel), List.mem_of_getElem? (i := 572) (by decide +kernel), List.mem_of_getElem? (i := 573) (by decide +kernel)⟩
theorem lw_p7 : lw_okq (⟨"DarkCommittee", "canBeBird", "(I)Z"⟩, 20) := ⟨⟨by decide +kernel, by decide +kernel⟩, List.mem_of_getElem? (i := 21) (by decide +kernel), List.mem_of_getElem? (i := 584) (by decide +kernel), List.mem_of_getElem? (i := 585) (by decide +kernel)⟩
theorem lw_p8 : lw_okq (⟨"DarkCommittee", "addBirdOfRow", "(I)V"⟩, 20) := ⟨⟨by decide +kernel, by decide +kernel⟩, List.mem_of_getElem? (i := 21) (by decide +kernel), List.mem_of_getElem? (i := 588) (by decide +kernel), List.mem_of_getElem? (i := 589) (by decide +kernel)⟩
theorem lw_p9 : lw_okq (⟨"DarkCommittee$Tokens", "add", "(III)V"⟩, 4) := ⟨⟨by decide +kernel, by decide +kernel⟩, List.mem_of_getElem? (i := 310) (by decide +kernel), List.mem_of_getElem? (i := 674) (by decide +kernel), List.mem_of_getElem? (i := 675) (by decide +kernel)⟩
theorem lw_p10 : lw_okq (⟨"DarkCommittee$Reader", "kind", "()I"⟩, 5) := ⟨⟨by decide +kernel, by decide +kernel⟩, List.mem_of_getElem? (i := 304) (by decide +kernel), List.mem_of_getElem? (i := 678) (by decide +kernel), List.mem_of_getElem? (i := 679) (by decide +kernel)⟩
theorem lw_p11 : lw_okq (⟨"DarkCommittee$Reader", "setHead", "(II)V"⟩, 5) := ⟨⟨by decide +kernel, by decide +kernel⟩, List.mem_of_getElem? (i := 304) (by decide +kernel), List.mem_of_getElem? (i := 682) (by decide +kernel), List.mem_of_getElem? (i := 683) (by decide +kernel)⟩
theorem lw_p12 : lw_okq (⟨"DarkCommittee$Reader", "lawClause", "()Z"⟩, 5) := ⟨⟨by decide +kernel, by decide +kernel⟩, List.mem_of_getElem? (i := 304) (by decide +kernel), List.mem_of_getElem? (i := 690) (by decide +kernel), List.mem_of_getElem? (i := 691) (by decide +kernel)⟩
theorem lw_p13 : lw_okq (⟨"DarkCommittee$Reader", "next", "()V"⟩, 5) := ⟨⟨by decide +kernel, by decide +kernel⟩, List.mem_of_getElem? (i := 304) (by decide +kernel), List.mem_of_getElem? (i := 694) (by decide +kernel), List.mem_of_getElem? (i := 695) (by decide +kernel)⟩
theorem lw_p14 : lw_okq (⟨"DarkCommittee$Reader", "sum", "(I)Z"⟩, 5) := ⟨⟨by decide +kernel, by decide +kernel⟩, List.mem_of_getElem? (i := 304) (by decide +kernel), List.mem_of_getElem? (i := 698) (by decide +kernel), List.mem_of_getElem? (i := 699) (by decide +kernel)⟩
theorem lw_p15 : lw_okq (⟨"DarkCommittee$Reader", "part", "(I)Z"⟩, 5) := ⟨⟨by decide +kernel, by decide +kernel⟩, List.mem_of_getElem? (i := 304) (by decide +kernel), List.mem_of_getElem? (i := 702) (by decide +kernel), List.mem_of_getElem? (i := 703) (by decide +kernel)⟩
def lw_privs_1 : List (MethodName × Nat) := [(⟨"DarkCommittee", "refuse", "(I)I"⟩, 20), (⟨"DarkCommittee", "accept", "(I)I"⟩, 20), (⟨"DarkCommittee$Council", "tellBird", "(LDarkCommittee$Stand;II)V"⟩, 6), (⟨"DarkCommittee$Council", "tellLaw", "(LDarkCommittee$Stand;IIII)V"⟩, 6), (⟨"DarkCommittee$Council", "wouldCarry", "(II)Z"⟩, 6), (⟨"DarkCommittee", "term", "(I)I"⟩, 20), (⟨"DarkCommittee", "feedFour", "(I)V"⟩, 20), (⟨"DarkCommittee", "canBeBird", "(I)Z"⟩, 20), (⟨"DarkCommittee", "addBirdOfRow", "(I)V"⟩, 20), (⟨"DarkCommittee$Tokens", "add", "(III)V"⟩, 4), (⟨"DarkCommittee$Reader", "kind", "()I"⟩, 5), (⟨"DarkCommittee$Reader", "setHead", "(II)V"⟩, 5), (⟨"DarkCommittee$Reader", "lawClause", "()Z"⟩, 5), (⟨"DarkCommittee$Reader", "next", "()V"⟩, 5), (⟨"DarkCommittee$Reader", "sum", "(I)Z"⟩, 5), (⟨"DarkCommittee$Reader", "part", "(I)Z"⟩, 5)]
theorem lw_r1 : ∀ q ∈ lw_privs_1, lw_okq q := List.forall_mem_cons.mpr ⟨lw_p0, List.forall_mem_cons.mpr ⟨lw_p1, List.forall_mem_cons.mpr ⟨lw_p2, List.forall_mem_cons.mpr ⟨lw_p3, List.forall_mem_cons.mpr ⟨lw_p4, List.forall_mem_cons.mpr ⟨lw_p5, List.forall_mem_cons.mpr ⟨lw_p6, List.forall_mem_cons.mpr ⟨lw_p7, List.forall_mem_cons.mpr ⟨lw_p8, List.forall_mem_cons.mpr ⟨lw_p9, List.forall_mem_cons.mpr ⟨lw_p10, List.forall_mem_cons.mpr ⟨lw_p11, List.forall_mem_cons.mpr ⟨lw_p12, List.forall_mem_cons.mpr ⟨lw_p13, List.forall_mem_cons.mpr ⟨lw_p14, List.forall_mem_cons.mpr ⟨lw_p15, fun _ h => absurd h List.not_mem_nil⟩⟩⟩⟩⟩⟩⟩⟩⟩⟩⟩⟩⟩⟩⟩⟩
theorem lw_p16 : lw_okq (⟨"DarkCommittee$Reader", "sumInBrackets", "(I)Z"⟩, 5) := ⟨⟨by decide +kernel, by decide +kernel⟩, List.mem_of_getElem? (i := 304) (by decide +kernel), List.mem_of_getElem? (i := 706) (by decide +kernel), List.mem_of_getElem? (i := 707) (by decide +kernel)⟩
theorem lw_p17 : lw_okq (⟨"DarkCommittee$Reader", "isNumber", "(II)Z"⟩, 5) := ⟨⟨by decide +kernel, by decide +kernel⟩, List.mem_of_getElem? (i := 304) (by decide +kernel), List.mem_of_getElem? (i := 710) (by decide +kernel), List.mem_of_getElem? (i := 711) (by decide +kernel)⟩
theorem lw_p18 : lw_okq (⟨"DarkCommittee$Reader", "number", "()I"⟩, 5) := ⟨⟨by decide +kernel, by decide +kernel⟩, List.mem_of_getElem? (i := 304) (by decide +kernel), List.mem_of_getElem? (i := 714) (by decide +kernel), List.mem_of_getElem? (i := 715) (by decide +kernel)⟩
theorem lw_p19 : lw_okq (⟨"DarkCommittee$Reader", "emit", "(II)V"⟩, 5) := ⟨⟨by decide +kernel, by decide +kernel⟩, List.mem_of_getElem? (i := 304) (by decide +kernel), List.mem_of_getElem? (i := 718) (by decide +kernel), List.mem_of_getElem? (i := 719) (by decide +kernel)⟩
theorem lw_p20 : lw_okq (⟨"DarkCommittee$Reader", "lawWord", "()Z"⟩, 5) := ⟨⟨by decide +kernel, by decide +kernel⟩, List.mem_of_getElem? (i := 304) (by decide +kernel), List.mem_of_getElem? (i := 722) (by decide +kernel), List.mem_of_getElem? (i := 723) (by decide +kernel)⟩
theorem lw_p21 : lw_okq (⟨"DarkCommittee$Reader", "orderWord", "()Z"⟩, 5) := ⟨⟨by decide +kernel, by decide +kernel⟩, List.mem_of_getElem? (i := 304) (by decide +kernel), List.mem_of_getElem? (i := 726) (by decide +kernel), List.mem_of_getElem? (i := 727) (by decide +kernel)⟩
theorem lw_p22 : lw_okq (⟨"DarkCommittee$Reader", "orderClause", "()Z"⟩, 5) := ⟨⟨by decide +kernel, by decide +kernel⟩, List.mem_of_getElem? (i := 304) (by decide +kernel), List.mem_of_getElem? (i := 730) (by decide +kernel), List.mem_of_getElem? (i := 731) (by decide +kernel)⟩
theorem lw_p23 : lw_okq (⟨"DarkCommittee$Reader", "times", "()Z"⟩, 5) := ⟨⟨by decide +kernel, by decide +kernel⟩, List.mem_of_getElem? (i := 304) (by decide +kernel), List.mem_of_getElem? (i := 734) (by decide +kernel), List.mem_of_getElem? (i := 735) (by decide +kernel)⟩
theorem lw_p24 : lw_okq (⟨"DarkCommittee$Reader", "test", "(I)Z"⟩, 5) := ⟨⟨by decide +kernel, by decide +kernel⟩, List.mem_of_getElem? (i := 304) (by decide +kernel), List.mem_of_getElem? (i := 738) (by decide +kernel), List.mem_of_getElem? (i := 739) (by decide +kernel)⟩
theorem lw_p25 : lw_okq (⟨"DarkCommittee$Reader", "plain", "(I)Z"⟩, 5) := ⟨⟨by decide +kernel, by decide +kernel⟩, List.mem_of_getElem? (i := 304) (by decide +kernel), List.mem_of_getElem? (i := 742) (by decide +kernel), List.mem_of_getElem? (i := 743) (by decide +kernel)⟩
theorem lw_p26 : lw_okq (⟨"DarkCommittee$Reader", "testInBrackets", "(I)Z"⟩, 5) := ⟨⟨by decide +kernel, by decide +kernel⟩, List.mem_of_getElem? (i := 304) (by decide +kernel), List.mem_of_getElem? (i := 746) (by decide +kernel), List.mem_of_getElem? (i := 747) (by decide +kernel)⟩
theorem lw_p27 : lw_okq (⟨"DarkCommittee$Reader", "leapHere", "(I)V"⟩, 5) := ⟨⟨by decide +kernel, by decide +kernel⟩, List.mem_of_getElem? (i := 304) (by decide +kernel), List.mem_of_getElem? (i := 750) (by decide +kernel), List.mem_of_getElem? (i := 751) (by decide +kernel)⟩
theorem lw_p28 : lw_okq (⟨"DarkCommittee", "runClause", "(LDarkCommittee$Text;I)Z"⟩, 20) := ⟨⟨by decide +kernel, by decide +kernel⟩, List.mem_of_getElem? (i := 21) (by decide +kernel), List.mem_of_getElem? (i := 775) (by decide +kernel), List.mem_of_getElem? (i := 776) (by decide +kernel)⟩
theorem lw_p29 : lw_okq (⟨"DarkCommittee", "tellOrders", "()V"⟩, 20) := ⟨⟨by decide +kernel, by decide +kernel⟩, List.mem_of_getElem? (i := 21) (by decide +kernel), List.mem_of_getElem? (i := 780) (by decide +kernel), List.mem_of_getElem? (i := 781) (by decide +kernel)⟩
theorem lw_p30 : lw_okq (⟨"DarkCommittee", "act", "(III)I"⟩, 20) := ⟨⟨by decide +kernel, by decide +kernel⟩, List.mem_of_getElem? (i := 21) (by decide +kernel), List.mem_of_getElem? (i := 790) (by decide +kernel), List.mem_of_getElem? (i := 791) (by decide +kernel)⟩
theorem lw_p31 : lw_okq (⟨"DarkCommittee", "answer", "(I)I"⟩, 20) := ⟨⟨by decide +kernel, by decide +kernel⟩, List.mem_of_getElem? (i := 21) (by decide +kernel), List.mem_of_getElem? (i := 841) (by decide +kernel), List.mem_of_getElem? (i := 842) (by decide +kernel)⟩
def lw_privs_2 : List (MethodName × Nat) := [(⟨"DarkCommittee$Reader", "sumInBrackets", "(I)Z"⟩, 5), (⟨"DarkCommittee$Reader", "isNumber", "(II)Z"⟩, 5), (⟨"DarkCommittee$Reader", "number", "()I"⟩, 5), (⟨"DarkCommittee$Reader", "emit", "(II)V"⟩, 5), (⟨"DarkCommittee$Reader", "lawWord", "()Z"⟩, 5), (⟨"DarkCommittee$Reader", "orderWord", "()Z"⟩, 5), (⟨"DarkCommittee$Reader", "orderClause", "()Z"⟩, 5), (⟨"DarkCommittee$Reader", "times", "()Z"⟩, 5), (⟨"DarkCommittee$Reader", "test", "(I)Z"⟩, 5), (⟨"DarkCommittee$Reader", "plain", "(I)Z"⟩, 5), (⟨"DarkCommittee$Reader", "testInBrackets", "(I)Z"⟩, 5), (⟨"DarkCommittee$Reader", "leapHere", "(I)V"⟩, 5), (⟨"DarkCommittee", "runClause", "(LDarkCommittee$Text;I)Z"⟩, 20), (⟨"DarkCommittee", "tellOrders", "()V"⟩, 20), (⟨"DarkCommittee", "act", "(III)I"⟩, 20), (⟨"DarkCommittee", "answer", "(I)I"⟩, 20)]
theorem lw_r2 : ∀ q ∈ lw_privs_2, lw_okq q := List.forall_mem_cons.mpr ⟨lw_p16, List.forall_mem_cons.mpr ⟨lw_p17, List.forall_mem_cons.mpr ⟨lw_p18, List.forall_mem_cons.mpr ⟨lw_p19, List.forall_mem_cons.mpr ⟨lw_p20, List.forall_mem_cons.mpr ⟨lw_p21, List.forall_mem_cons.mpr ⟨lw_p22, List.forall_mem_cons.mpr ⟨lw_p23, List.forall_mem_cons.mpr ⟨lw_p24, List.forall_mem_cons.mpr ⟨lw_p25, List.forall_mem_cons.mpr ⟨lw_p26, List.forall_mem_cons.mpr ⟨lw_p27, List.forall_mem_cons.mpr ⟨lw_p28, List.forall_mem_cons.mpr ⟨lw_p29, List.forall_mem_cons.mpr ⟨lw_p30, List.forall_mem_cons.mpr ⟨lw_p31, fun _ h => absurd h List.not_mem_nil⟩⟩⟩⟩⟩⟩⟩⟩⟩⟩⟩⟩⟩⟩⟩⟩
theorem lw_p32 : lw_okq (⟨"DarkCommittee$Best", "divisionAt", "(II)I"⟩, 7) := ⟨⟨by decide +kernel, by decide +kernel⟩, List.mem_of_getElem? (i := 271) (by decide +kernel), List.mem_of_getElem? (i := 892) (by decide +kernel), List.mem_of_getElem? (i := 893) (by decide +kernel)⟩
theorem lw_p33 : lw_okq (⟨"DarkCommittee$Council", "nextInChain", "(LDarkCommittee$Stand;II)I"⟩, 6) := ⟨⟨by decide +kernel, by decide +kernel⟩, List.mem_of_getElem? (i := 243) (by decide +kernel), List.mem_of_getElem? (i := 925) (by decide +kernel), List.mem_of_getElem? (i := 926) (by decide +kernel)⟩
theorem lw_p34 : lw_okq (⟨"DarkCommittee$Council", "hearAll", "(II)Z"⟩, 6) := ⟨⟨by decide +kernel, by decide +kernel⟩, List.mem_of_getElem? (i := 243) (by decide +kernel), List.mem_of_getElem? (i := 946) (by decide +kernel), List.mem_of_getElem? (i := 947) (by decide +kernel)⟩
theorem lw_p35 : lw_okq (⟨"DarkCommittee$May", "draw", "(I)I"⟩, 4) := ⟨⟨by decide +kernel, by decide +kernel⟩, List.mem_of_getElem? (i := 198) (by decide +kernel), List.mem_of_getElem? (i := 1020) (by decide +kernel), List.mem_of_getElem? (i := 1021) (by decide +kernel)⟩
theorem lw_p36 : lw_okq (⟨"DarkCommitteeModel", "tell", "(I)I"⟩, 58) := ⟨⟨by decide +kernel, by decide +kernel⟩, List.mem_of_getElem? (i := 1055) (by decide +kernel), List.mem_of_getElem? (i := 1261) (by decide +kernel), List.mem_of_getElem? (i := 1262) (by decide +kernel)⟩
theorem lw_p37 : lw_okq (⟨"DarkCommitteeModel", "putBack", "(I)V"⟩, 58) := ⟨⟨by decide +kernel, by decide +kernel⟩, List.mem_of_getElem? (i := 1055) (by decide +kernel), List.mem_of_getElem? (i := 1265) (by decide +kernel), List.mem_of_getElem? (i := 1266) (by decide +kernel)⟩
theorem lw_p38 : lw_okq (⟨"DarkCommitteeModel", "lasting", "(I)I"⟩, 58) := ⟨⟨by decide +kernel, by decide +kernel⟩, List.mem_of_getElem? (i := 1055) (by decide +kernel), List.mem_of_getElem? (i := 1280) (by decide +kernel), List.mem_of_getElem? (i := 1281) (by decide +kernel)⟩
theorem lw_p39 : lw_okq (⟨"DarkCommitteeModel", "comes", "(II)I"⟩, 58) := ⟨⟨by decide +kernel, by decide +kernel⟩, List.mem_of_getElem? (i := 1055) (by decide +kernel), List.mem_of_getElem? (i := 1288) (by decide +kernel), List.mem_of_getElem? (i := 1289) (by decide +kernel)⟩
theorem lw_p40 : lw_okq (⟨"DarkCommitteeModel", "isBird", "(I)Z"⟩, 58) := ⟨⟨by decide +kernel, by decide +kernel⟩, List.mem_of_getElem? (i := 1055) (by decide +kernel), List.mem_of_getElem? (i := 1303) (by decide +kernel), List.mem_of_getElem? (i := 1304) (by decide +kernel)⟩
theorem lw_p41 : lw_okq (⟨"DarkCommitteeModel", "change", "(II)I"⟩, 58) := ⟨⟨by decide +kernel, by decide +kernel⟩, List.mem_of_getElem? (i := 1055) (by decide +kernel), List.mem_of_getElem? (i := 1307) (by decide +kernel), List.mem_of_getElem? (i := 1308) (by decide +kernel)⟩
theorem lw_p42 : lw_okq (⟨"DarkCommitteeModel", "hearsAll", "(I)I"⟩, 58) := ⟨⟨by decide +kernel, by decide +kernel⟩, List.mem_of_getElem? (i := 1055) (by decide +kernel), List.mem_of_getElem? (i := 1316) (by decide +kernel), List.mem_of_getElem? (i := 1317) (by decide +kernel)⟩
theorem lw_p43 : lw_okq (⟨"DarkCommitteeModel", "hears", "(II)Z"⟩, 58) := ⟨⟨by decide +kernel, by decide +kernel⟩, List.mem_of_getElem? (i := 1055) (by decide +kernel), List.mem_of_getElem? (i := 1320) (by decide +kernel), List.mem_of_getElem? (i := 1321) (by decide +kernel)⟩
theorem lw_p44 : lw_okq (⟨"DarkCommitteeModel", "isAway", "(I)Z"⟩, 58) := ⟨⟨by decide +kernel, by decide +kernel⟩, List.mem_of_getElem? (i := 1055) (by decide +kernel), List.mem_of_getElem? (i := 1324) (by decide +kernel), List.mem_of_getElem? (i := 1325) (by decide +kernel)⟩
theorem lw_p45 : lw_okq (⟨"DarkCommitteeModel", "isMatter", "(I)Z"⟩, 58) := ⟨⟨by decide +kernel, by decide +kernel⟩, List.mem_of_getElem? (i := 1055) (by decide +kernel), List.mem_of_getElem? (i := 1328) (by decide +kernel), List.mem_of_getElem? (i := 1329) (by decide +kernel)⟩
theorem lw_p46 : lw_okq (⟨"DarkCommitteeModel", "swayOf", "(II)I"⟩, 58) := ⟨⟨by decide +kernel, by decide +kernel⟩, List.mem_of_getElem? (i := 1055) (by decide +kernel), List.mem_of_getElem? (i := 1332) (by decide +kernel), List.mem_of_getElem? (i := 1333) (by decide +kernel)⟩
theorem lw_p47 : lw_okq (⟨"DarkCommitteeModel", "tells", "(IIIJ)J"⟩, 58) := ⟨⟨by decide +kernel, by decide +kernel⟩, List.mem_of_getElem? (i := 1055) (by decide +kernel), List.mem_of_getElem? (i := 1336) (by decide +kernel), List.mem_of_getElem? (i := 1337) (by decide +kernel)⟩
def lw_privs_3 : List (MethodName × Nat) := [(⟨"DarkCommittee$Best", "divisionAt", "(II)I"⟩, 7), (⟨"DarkCommittee$Council", "nextInChain", "(LDarkCommittee$Stand;II)I"⟩, 6), (⟨"DarkCommittee$Council", "hearAll", "(II)Z"⟩, 6), (⟨"DarkCommittee$May", "draw", "(I)I"⟩, 4), (⟨"DarkCommitteeModel", "tell", "(I)I"⟩, 58), (⟨"DarkCommitteeModel", "putBack", "(I)V"⟩, 58), (⟨"DarkCommitteeModel", "lasting", "(I)I"⟩, 58), (⟨"DarkCommitteeModel", "comes", "(II)I"⟩, 58), (⟨"DarkCommitteeModel", "isBird", "(I)Z"⟩, 58), (⟨"DarkCommitteeModel", "change", "(II)I"⟩, 58), (⟨"DarkCommitteeModel", "hearsAll", "(I)I"⟩, 58), (⟨"DarkCommitteeModel", "hears", "(II)Z"⟩, 58), (⟨"DarkCommitteeModel", "isAway", "(I)Z"⟩, 58), (⟨"DarkCommitteeModel", "isMatter", "(I)Z"⟩, 58), (⟨"DarkCommitteeModel", "swayOf", "(II)I"⟩, 58), (⟨"DarkCommitteeModel", "tells", "(IIIJ)J"⟩, 58)]
theorem lw_r3 : ∀ q ∈ lw_privs_3, lw_okq q := List.forall_mem_cons.mpr ⟨lw_p32, List.forall_mem_cons.mpr ⟨lw_p33, List.forall_mem_cons.mpr ⟨lw_p34, List.forall_mem_cons.mpr ⟨lw_p35, List.forall_mem_cons.mpr ⟨lw_p36, List.forall_mem_cons.mpr ⟨lw_p37, List.forall_mem_cons.mpr ⟨lw_p38, List.forall_mem_cons.mpr ⟨lw_p39, List.forall_mem_cons.mpr ⟨lw_p40, List.forall_mem_cons.mpr ⟨lw_p41, List.forall_mem_cons.mpr ⟨lw_p42, List.forall_mem_cons.mpr ⟨lw_p43, List.forall_mem_cons.mpr ⟨lw_p44, List.forall_mem_cons.mpr ⟨lw_p45, List.forall_mem_cons.mpr ⟨lw_p46, List.forall_mem_cons.mpr ⟨lw_p47, fun _ h => absurd h List.not_mem_nil⟩⟩⟩⟩⟩⟩⟩⟩⟩⟩⟩⟩⟩⟩⟩⟩
theorem lw_p48 : lw_okq (⟨"DarkCommitteeModel", "isSo", "(I)Z"⟩, 58) := ⟨⟨by decide +kernel, by decide +kernel⟩, List.mem_of_getElem? (i := 1055) (by decide +kernel), List.mem_of_getElem? (i := 1340) (by decide +kernel), List.mem_of_getElem? (i := 1341) (by decide +kernel)⟩
theorem lw_p49 : lw_okq (⟨"DarkCommitteeModel", "reckonAll", "(II)V"⟩, 58) := ⟨⟨by decide +kernel, by decide +kernel⟩, List.mem_of_getElem? (i := 1055) (by decide +kernel), List.mem_of_getElem? (i := 1344) (by decide +kernel), List.mem_of_getElem? (i := 1345) (by decide +kernel)⟩
theorem lw_p50 : lw_okq (⟨"DarkCommitteeModel", "reckon", "(IJJ)J"⟩, 58) := ⟨⟨by decide +kernel, by decide +kernel⟩, List.mem_of_getElem? (i := 1055) (by decide +kernel), List.mem_of_getElem? (i := 1348) (by decide +kernel), List.mem_of_getElem? (i := 1349) (by decide +kernel)⟩
theorem lw_p51 : lw_okq (⟨"DarkCommitteeModel", "sits", "(II)Z"⟩, 58) := ⟨⟨by decide +kernel, by decide +kernel⟩, List.mem_of_getElem? (i := 1055) (by decide +kernel), List.mem_of_getElem? (i := 1357) (by decide +kernel), List.mem_of_getElem? (i := 1358) (by decide +kernel)⟩
theorem lw_p52 : lw_okq (⟨"DarkCommitteeModel", "isAye", "(II)Z"⟩, 58) := ⟨⟨by decide +kernel, by decide +kernel⟩, List.mem_of_getElem? (i := 1055) (by decide +kernel), List.mem_of_getElem? (i := 1361) (by decide +kernel), List.mem_of_getElem? (i := 1362) (by decide +kernel)⟩
theorem lw_p53 : lw_okq (⟨"DarkCommitteeModel", "takesOf", "(I)I"⟩, 58) := ⟨⟨by decide +kernel, by decide +kernel⟩, List.mem_of_getElem? (i := 1055) (by decide +kernel), List.mem_of_getElem? (i := 1373) (by decide +kernel), List.mem_of_getElem? (i := 1374) (by decide +kernel)⟩
theorem lw_p54 : lw_okq (⟨"DarkCommitteeModel", "sitting", "(I)I"⟩, 58) := ⟨⟨by decide +kernel, by decide +kernel⟩, List.mem_of_getElem? (i := 1055) (by decide +kernel), List.mem_of_getElem? (i := 1377) (by decide +kernel), List.mem_of_getElem? (i := 1378) (by decide +kernel)⟩
theorem lw_p55 : lw_okq (⟨"DarkCommitteeModel", "ayes", "(I)I"⟩, 58) := ⟨⟨by decide +kernel, by decide +kernel⟩, List.mem_of_getElem? (i := 1055) (by decide +kernel), List.mem_of_getElem? (i := 1381) (by decide +kernel), List.mem_of_getElem? (i := 1382) (by decide +kernel)⟩
theorem lw_p56 : lw_okq (⟨"DarkCommitteeModel", "canDivide", "(I)Z"⟩, 58) := ⟨⟨by decide +kernel, by decide +kernel⟩, List.mem_of_getElem? (i := 1055) (by decide +kernel), List.mem_of_getElem? (i := 1385) (by decide +kernel), List.mem_of_getElem? (i := 1386) (by decide +kernel)⟩
theorem lw_p57 : lw_okq (⟨"DarkCommitteeModel", "isRow", "(II)Z"⟩, 58) := ⟨⟨by decide +kernel, by decide +kernel⟩, List.mem_of_getElem? (i := 1055) (by decide +kernel), List.mem_of_getElem? (i := 1403) (by decide +kernel), List.mem_of_getElem? (i := 1404) (by decide +kernel)⟩
theorem lw_p58 : lw_okq (⟨"DarkCommitteeModel", "four", "(I)V"⟩, 58) := ⟨⟨by decide +kernel, by decide +kernel⟩, List.mem_of_getElem? (i := 1055) (by decide +kernel), List.mem_of_getElem? (i := 1415) (by decide +kernel), List.mem_of_getElem? (i := 1416) (by decide +kernel)⟩
theorem lw_p59 : lw_okq (⟨"DarkCommitteeModel", "beginText", "(Z)V"⟩, 58) := ⟨⟨by decide +kernel, by decide +kernel⟩, List.mem_of_getElem? (i := 1055) (by decide +kernel), List.mem_of_getElem? (i := 1431) (by decide +kernel), List.mem_of_getElem? (i := 1432) (by decide +kernel)⟩
theorem lw_p60 : lw_okq (⟨"DarkCommitteeModel", "begin", "()V"⟩, 58) := ⟨⟨by decide +kernel, by decide +kernel⟩, List.mem_of_getElem? (i := 1055) (by decide +kernel), List.mem_of_getElem? (i := 1435) (by decide +kernel), List.mem_of_getElem? (i := 1436) (by decide +kernel)⟩
theorem lw_p61 : lw_okq (⟨"DarkCommitteeModel", "next", "()V"⟩, 58) := ⟨⟨by decide +kernel, by decide +kernel⟩, List.mem_of_getElem? (i := 1055) (by decide +kernel), List.mem_of_getElem? (i := 1439) (by decide +kernel), List.mem_of_getElem? (i := 1440) (by decide +kernel)⟩
theorem lw_p62 : lw_okq (⟨"DarkCommitteeModel", "readLaw", "()V"⟩, 58) := ⟨⟨by decide +kernel, by decide +kernel⟩, List.mem_of_getElem? (i := 1055) (by decide +kernel), List.mem_of_getElem? (i := 1453) (by decide +kernel), List.mem_of_getElem? (i := 1454) (by decide +kernel)⟩
theorem lw_p63 : lw_okq (⟨"DarkCommitteeModel", "isWord", "(J)Z"⟩, 58) := ⟨⟨by decide +kernel, by decide +kernel⟩, List.mem_of_getElem? (i := 1055) (by decide +kernel), List.mem_of_getElem? (i := 1457) (by decide +kernel), List.mem_of_getElem? (i := 1458) (by decide +kernel)⟩
def lw_privs_4 : List (MethodName × Nat) := [(⟨"DarkCommitteeModel", "isSo", "(I)Z"⟩, 58), (⟨"DarkCommitteeModel", "reckonAll", "(II)V"⟩, 58), (⟨"DarkCommitteeModel", "reckon", "(IJJ)J"⟩, 58), (⟨"DarkCommitteeModel", "sits", "(II)Z"⟩, 58), (⟨"DarkCommitteeModel", "isAye", "(II)Z"⟩, 58), (⟨"DarkCommitteeModel", "takesOf", "(I)I"⟩, 58), (⟨"DarkCommitteeModel", "sitting", "(I)I"⟩, 58), (⟨"DarkCommitteeModel", "ayes", "(I)I"⟩, 58), (⟨"DarkCommitteeModel", "canDivide", "(I)Z"⟩, 58), (⟨"DarkCommitteeModel", "isRow", "(II)Z"⟩, 58), (⟨"DarkCommitteeModel", "four", "(I)V"⟩, 58), (⟨"DarkCommitteeModel", "beginText", "(Z)V"⟩, 58), (⟨"DarkCommitteeModel", "begin", "()V"⟩, 58), (⟨"DarkCommitteeModel", "next", "()V"⟩, 58), (⟨"DarkCommitteeModel", "readLaw", "()V"⟩, 58), (⟨"DarkCommitteeModel", "isWord", "(J)Z"⟩, 58)]
theorem lw_r4 : ∀ q ∈ lw_privs_4, lw_okq q := List.forall_mem_cons.mpr ⟨lw_p48, List.forall_mem_cons.mpr ⟨lw_p49, List.forall_mem_cons.mpr ⟨lw_p50, List.forall_mem_cons.mpr ⟨lw_p51, List.forall_mem_cons.mpr ⟨lw_p52, List.forall_mem_cons.mpr ⟨lw_p53, List.forall_mem_cons.mpr ⟨lw_p54, List.forall_mem_cons.mpr ⟨lw_p55, List.forall_mem_cons.mpr ⟨lw_p56, List.forall_mem_cons.mpr ⟨lw_p57, List.forall_mem_cons.mpr ⟨lw_p58, List.forall_mem_cons.mpr ⟨lw_p59, List.forall_mem_cons.mpr ⟨lw_p60, List.forall_mem_cons.mpr ⟨lw_p61, List.forall_mem_cons.mpr ⟨lw_p62, List.forall_mem_cons.mpr ⟨lw_p63, fun _ h => absurd h List.not_mem_nil⟩⟩⟩⟩⟩⟩⟩⟩⟩⟩⟩⟩⟩⟩⟩⟩
theorem lw_p64 : lw_okq (⟨"DarkCommitteeModel", "must", "(Z)V"⟩, 58) := ⟨⟨by decide +kernel, by decide +kernel⟩, List.mem_of_getElem? (i := 1055) (by decide +kernel), List.mem_of_getElem? (i := 1461) (by decide +kernel), List.mem_of_getElem? (i := 1462) (by decide +kernel)⟩
theorem lw_p65 : lw_okq (⟨"DarkCommitteeModel", "readExpression", "(Z)V"⟩, 58) := ⟨⟨by decide +kernel, by decide +kernel⟩, List.mem_of_getElem? (i := 1055) (by decide +kernel), List.mem_of_getElem? (i := 1465) (by decide +kernel), List.mem_of_getElem? (i := 1466) (by decide +kernel)⟩
theorem lw_p66 : lw_okq (⟨"DarkCommitteeModel", "readPlain", "()I"⟩, 58) := ⟨⟨by decide +kernel, by decide +kernel⟩, List.mem_of_getElem? (i := 1055) (by decide +kernel), List.mem_of_getElem? (i := 1469) (by decide +kernel), List.mem_of_getElem? (i := 1470) (by decide +kernel)⟩
theorem lw_p67 : lw_okq (⟨"DarkCommitteeModel", "push", "(II)V"⟩, 58) := ⟨⟨by decide +kernel, by decide +kernel⟩, List.mem_of_getElem? (i := 1055) (by decide +kernel), List.mem_of_getElem? (i := 1474) (by decide +kernel), List.mem_of_getElem? (i := 1475) (by decide +kernel)⟩
theorem lw_p68 : lw_okq (⟨"DarkCommitteeModel", "isSign", "(I)Z"⟩, 58) := ⟨⟨by decide +kernel, by decide +kernel⟩, List.mem_of_getElem? (i := 1055) (by decide +kernel), List.mem_of_getElem? (i := 1478) (by decide +kernel), List.mem_of_getElem? (i := 1479) (by decide +kernel)⟩
theorem lw_p69 : lw_okq (⟨"DarkCommitteeModel", "openBracket", "(I)V"⟩, 58) := ⟨⟨by decide +kernel, by decide +kernel⟩, List.mem_of_getElem? (i := 1055) (by decide +kernel), List.mem_of_getElem? (i := 1482) (by decide +kernel), List.mem_of_getElem? (i := 1483) (by decide +kernel)⟩
theorem lw_p70 : lw_okq (⟨"DarkCommitteeModel", "readPart", "()I"⟩, 58) := ⟨⟨by decide +kernel, by decide +kernel⟩, List.mem_of_getElem? (i := 1055) (by decide +kernel), List.mem_of_getElem? (i := 1486) (by decide +kernel), List.mem_of_getElem? (i := 1487) (by decide +kernel)⟩
theorem lw_p71 : lw_okq (⟨"DarkCommitteeModel", "orderPartAt", "()I"⟩, 58) := ⟨⟨by decide +kernel, by decide +kernel⟩, List.mem_of_getElem? (i := 1055) (by decide +kernel), List.mem_of_getElem? (i := 1490) (by decide +kernel), List.mem_of_getElem? (i := 1491) (by decide +kernel)⟩
theorem lw_p72 : lw_okq (⟨"DarkCommitteeModel", "partAt", "()I"⟩, 58) := ⟨⟨by decide +kernel, by decide +kernel⟩, List.mem_of_getElem? (i := 1055) (by decide +kernel), List.mem_of_getElem? (i := 1494) (by decide +kernel), List.mem_of_getElem? (i := 1495) (by decide +kernel)⟩
theorem lw_p73 : lw_okq (⟨"DarkCommitteeModel", "leaf", "(ZII)V"⟩, 58) := ⟨⟨by decide +kernel, by decide +kernel⟩, List.mem_of_getElem? (i := 1055) (by decide +kernel), List.mem_of_getElem? (i := 1499) (by decide +kernel), List.mem_of_getElem? (i := 1500) (by decide +kernel)⟩
theorem lw_p74 : lw_okq (⟨"DarkCommitteeModel", "emit", "(II)V"⟩, 58) := ⟨⟨by decide +kernel, by decide +kernel⟩, List.mem_of_getElem? (i := 1055) (by decide +kernel), List.mem_of_getElem? (i := 1503) (by decide +kernel), List.mem_of_getElem? (i := 1504) (by decide +kernel)⟩
theorem lw_p75 : lw_okq (⟨"DarkCommitteeModel", "number", "(JJ)I"⟩, 58) := ⟨⟨by decide +kernel, by decide +kernel⟩, List.mem_of_getElem? (i := 1055) (by decide +kernel), List.mem_of_getElem? (i := 1508) (by decide +kernel), List.mem_of_getElem? (i := 1509) (by decide +kernel)⟩
theorem lw_p76 : lw_okq (⟨"DarkCommitteeModel", "behindSum", "(Z)I"⟩, 58) := ⟨⟨by decide +kernel, by decide +kernel⟩, List.mem_of_getElem? (i := 1055) (by decide +kernel), List.mem_of_getElem? (i := 1512) (by decide +kernel), List.mem_of_getElem? (i := 1513) (by decide +kernel)⟩
theorem lw_p77 : lw_okq (⟨"DarkCommitteeModel", "settle", "(I)V"⟩, 58) := ⟨⟨by decide +kernel, by decide +kernel⟩, List.mem_of_getElem? (i := 1055) (by decide +kernel), List.mem_of_getElem? (i := 1519) (by decide +kernel), List.mem_of_getElem? (i := 1520) (by decide +kernel)⟩
theorem lw_p78 : lw_okq (⟨"DarkCommitteeModel", "inner", "()I"⟩, 58) := ⟨⟨by decide +kernel, by decide +kernel⟩, List.mem_of_getElem? (i := 1055) (by decide +kernel), List.mem_of_getElem? (i := 1523) (by decide +kernel), List.mem_of_getElem? (i := 1524) (by decide +kernel)⟩
theorem lw_p79 : lw_okq (⟨"DarkCommitteeModel", "isCompared", "()Z"⟩, 58) := ⟨⟨by decide +kernel, by decide +kernel⟩, List.mem_of_getElem? (i := 1055) (by decide +kernel), List.mem_of_getElem? (i := 1527) (by decide +kernel), List.mem_of_getElem? (i := 1528) (by decide +kernel)⟩
def lw_privs_5 : List (MethodName × Nat) := [(⟨"DarkCommitteeModel", "must", "(Z)V"⟩, 58), (⟨"DarkCommitteeModel", "readExpression", "(Z)V"⟩, 58), (⟨"DarkCommitteeModel", "readPlain", "()I"⟩, 58), (⟨"DarkCommitteeModel", "push", "(II)V"⟩, 58), (⟨"DarkCommitteeModel", "isSign", "(I)Z"⟩, 58), (⟨"DarkCommitteeModel", "openBracket", "(I)V"⟩, 58), (⟨"DarkCommitteeModel", "readPart", "()I"⟩, 58), (⟨"DarkCommitteeModel", "orderPartAt", "()I"⟩, 58), (⟨"DarkCommitteeModel", "partAt", "()I"⟩, 58), (⟨"DarkCommitteeModel", "leaf", "(ZII)V"⟩, 58), (⟨"DarkCommitteeModel", "emit", "(II)V"⟩, 58), (⟨"DarkCommitteeModel", "number", "(JJ)I"⟩, 58), (⟨"DarkCommitteeModel", "behindSum", "(Z)I"⟩, 58), (⟨"DarkCommitteeModel", "settle", "(I)V"⟩, 58), (⟨"DarkCommitteeModel", "inner", "()I"⟩, 58), (⟨"DarkCommitteeModel", "isCompared", "()Z"⟩, 58)]
theorem lw_r5 : ∀ q ∈ lw_privs_5, lw_okq q := List.forall_mem_cons.mpr ⟨lw_p64, List.forall_mem_cons.mpr ⟨lw_p65, List.forall_mem_cons.mpr ⟨lw_p66, List.forall_mem_cons.mpr ⟨lw_p67, List.forall_mem_cons.mpr ⟨lw_p68, List.forall_mem_cons.mpr ⟨lw_p69, List.forall_mem_cons.mpr ⟨lw_p70, List.forall_mem_cons.mpr ⟨lw_p71, List.forall_mem_cons.mpr ⟨lw_p72, List.forall_mem_cons.mpr ⟨lw_p73, List.forall_mem_cons.mpr ⟨lw_p74, List.forall_mem_cons.mpr ⟨lw_p75, List.forall_mem_cons.mpr ⟨lw_p76, List.forall_mem_cons.mpr ⟨lw_p77, List.forall_mem_cons.mpr ⟨lw_p78, List.forall_mem_cons.mpr ⟨lw_p79, fun _ h => absurd h List.not_mem_nil⟩⟩⟩⟩⟩⟩⟩⟩⟩⟩⟩⟩⟩⟩⟩⟩
theorem lw_p80 : lw_okq (⟨"DarkCommitteeModel", "behindTest", "()I"⟩, 58) := ⟨⟨by decide +kernel, by decide +kernel⟩, List.mem_of_getElem? (i := 1055) (by decide +kernel), List.mem_of_getElem? (i := 1534) (by decide +kernel), List.mem_of_getElem? (i := 1535) (by decide +kernel)⟩
theorem lw_p81 : lw_okq (⟨"DarkCommitteeModel", "endText", "()V"⟩, 58) := ⟨⟨by decide +kernel, by decide +kernel⟩, List.mem_of_getElem? (i := 1055) (by decide +kernel), List.mem_of_getElem? (i := 1541) (by decide +kernel), List.mem_of_getElem? (i := 1542) (by decide +kernel)⟩
theorem lw_p82 : lw_okq (⟨"DarkCommitteeModel", "isLaw", "(I)Z"⟩, 58) := ⟨⟨by decide +kernel, by decide +kernel⟩, List.mem_of_getElem? (i := 1055) (by decide +kernel), List.mem_of_getElem? (i := 1549) (by decide +kernel), List.mem_of_getElem? (i := 1550) (by decide +kernel)⟩
theorem lw_p83 : lw_okq (⟨"DarkCommitteeModel", "moveNow", "(II)I"⟩, 58) := ⟨⟨by decide +kernel, by decide +kernel⟩, List.mem_of_getElem? (i := 1055) (by decide +kernel), List.mem_of_getElem? (i := 1557) (by decide +kernel), List.mem_of_getElem? (i := 1558) (by decide +kernel)⟩
theorem lw_p84 : lw_okq (⟨"DarkCommitteeModel", "canMove", "(II)Z"⟩, 58) := ⟨⟨by decide +kernel, by decide +kernel⟩, List.mem_of_getElem? (i := 1055) (by decide +kernel), List.mem_of_getElem? (i := 1561) (by decide +kernel), List.mem_of_getElem? (i := 1562) (by decide +kernel)⟩
theorem lw_p85 : lw_okq (⟨"DarkCommitteeModel", "seconder", "(II)I"⟩, 58) := ⟨⟨by decide +kernel, by decide +kernel⟩, List.mem_of_getElem? (i := 1055) (by decide +kernel), List.mem_of_getElem? (i := 1565) (by decide +kernel), List.mem_of_getElem? (i := 1566) (by decide +kernel)⟩
theorem lw_p86 : lw_okq (⟨"DarkCommitteeModel", "remember", "(I)V"⟩, 58) := ⟨⟨by decide +kernel, by decide +kernel⟩, List.mem_of_getElem? (i := 1055) (by decide +kernel), List.mem_of_getElem? (i := 1569) (by decide +kernel), List.mem_of_getElem? (i := 1570) (by decide +kernel)⟩
theorem lw_p87 : lw_okq (⟨"DarkCommitteeModel", "keepAll", "(I)V"⟩, 58) := ⟨⟨by decide +kernel, by decide +kernel⟩, List.mem_of_getElem? (i := 1055) (by decide +kernel), List.mem_of_getElem? (i := 1573) (by decide +kernel), List.mem_of_getElem? (i := 1574) (by decide +kernel)⟩
theorem lw_p88 : lw_okq (⟨"DarkCommitteeModel", "divideNow", "(I)I"⟩, 58) := ⟨⟨by decide +kernel, by decide +kernel⟩, List.mem_of_getElem? (i := 1055) (by decide +kernel), List.mem_of_getElem? (i := 1581) (by decide +kernel), List.mem_of_getElem? (i := 1582) (by decide +kernel)⟩
theorem lw_p89 : lw_okq (⟨"DarkCommitteeModel", "divideIt", "(I)V"⟩, 58) := ⟨⟨by decide +kernel, by decide +kernel⟩, List.mem_of_getElem? (i := 1055) (by decide +kernel), List.mem_of_getElem? (i := 1585) (by decide +kernel), List.mem_of_getElem? (i := 1586) (by decide +kernel)⟩
theorem lw_p90 : lw_okq (⟨"DarkCommitteeModel", "carries", "(II)Z"⟩, 58) := ⟨⟨by decide +kernel, by decide +kernel⟩, List.mem_of_getElem? (i := 1055) (by decide +kernel), List.mem_of_getElem? (i := 1589) (by decide +kernel), List.mem_of_getElem? (i := 1590) (by decide +kernel)⟩
theorem lw_p91 : lw_okq (⟨"DarkCommitteeModel", "flyNow", "(II)I"⟩, 58) := ⟨⟨by decide +kernel, by decide +kernel⟩, List.mem_of_getElem? (i := 1055) (by decide +kernel), List.mem_of_getElem? (i := 1597) (by decide +kernel), List.mem_of_getElem? (i := 1598) (by decide +kernel)⟩
theorem lw_p92 : lw_okq (⟨"DarkCommitteeModel", "passNow", "()I"⟩, 58) := ⟨⟨by decide +kernel, by decide +kernel⟩, List.mem_of_getElem? (i := 1055) (by decide +kernel), List.mem_of_getElem? (i := 1605) (by decide +kernel), List.mem_of_getElem? (i := 1606) (by decide +kernel)⟩
theorem lw_p93 : lw_okq (⟨"DarkCommitteeModel", "passIt", "()I"⟩, 58) := ⟨⟨by decide +kernel, by decide +kernel⟩, List.mem_of_getElem? (i := 1055) (by decide +kernel), List.mem_of_getElem? (i := 1609) (by decide +kernel), List.mem_of_getElem? (i := 1610) (by decide +kernel)⟩
theorem lw_p94 : lw_okq (⟨"DarkCommitteeModel", "findRichest", "()I"⟩, 58) := ⟨⟨by decide +kernel, by decide +kernel⟩, List.mem_of_getElem? (i := 1055) (by decide +kernel), List.mem_of_getElem? (i := 1621) (by decide +kernel), List.mem_of_getElem? (i := 1622) (by decide +kernel)⟩
theorem lw_p95 : lw_okq (⟨"DarkCommitteeModel", "isNew", "(I)Z"⟩, 58) := ⟨⟨by decide +kernel, by decide +kernel⟩, List.mem_of_getElem? (i := 1055) (by decide +kernel), List.mem_of_getElem? (i := 1625) (by decide +kernel), List.mem_of_getElem? (i := 1626) (by decide +kernel)⟩
def lw_privs_6 : List (MethodName × Nat) := [(⟨"DarkCommitteeModel", "behindTest", "()I"⟩, 58), (⟨"DarkCommitteeModel", "endText", "()V"⟩, 58), (⟨"DarkCommitteeModel", "isLaw", "(I)Z"⟩, 58), (⟨"DarkCommitteeModel", "moveNow", "(II)I"⟩, 58), (⟨"DarkCommitteeModel", "canMove", "(II)Z"⟩, 58), (⟨"DarkCommitteeModel", "seconder", "(II)I"⟩, 58), (⟨"DarkCommitteeModel", "remember", "(I)V"⟩, 58), (⟨"DarkCommitteeModel", "keepAll", "(I)V"⟩, 58), (⟨"DarkCommitteeModel", "divideNow", "(I)I"⟩, 58), (⟨"DarkCommitteeModel", "divideIt", "(I)V"⟩, 58), (⟨"DarkCommitteeModel", "carries", "(II)Z"⟩, 58), (⟨"DarkCommitteeModel", "flyNow", "(II)I"⟩, 58), (⟨"DarkCommitteeModel", "passNow", "()I"⟩, 58), (⟨"DarkCommitteeModel", "passIt", "()I"⟩, 58), (⟨"DarkCommitteeModel", "findRichest", "()I"⟩, 58), (⟨"DarkCommitteeModel", "isNew", "(I)Z"⟩, 58)]
theorem lw_r6 : ∀ q ∈ lw_privs_6, lw_okq q := List.forall_mem_cons.mpr ⟨lw_p80, List.forall_mem_cons.mpr ⟨lw_p81, List.forall_mem_cons.mpr ⟨lw_p82, List.forall_mem_cons.mpr ⟨lw_p83, List.forall_mem_cons.mpr ⟨lw_p84, List.forall_mem_cons.mpr ⟨lw_p85, List.forall_mem_cons.mpr ⟨lw_p86, List.forall_mem_cons.mpr ⟨lw_p87, List.forall_mem_cons.mpr ⟨lw_p88, List.forall_mem_cons.mpr ⟨lw_p89, List.forall_mem_cons.mpr ⟨lw_p90, List.forall_mem_cons.mpr ⟨lw_p91, List.forall_mem_cons.mpr ⟨lw_p92, List.forall_mem_cons.mpr ⟨lw_p93, List.forall_mem_cons.mpr ⟨lw_p94, List.forall_mem_cons.mpr ⟨lw_p95, fun _ h => absurd h List.not_mem_nil⟩⟩⟩⟩⟩⟩⟩⟩⟩⟩⟩⟩⟩⟩⟩⟩
theorem lw_p96 : lw_okq (⟨"DarkCommitteeModel", "layLeft", "(I)V"⟩, 58) := ⟨⟨by decide +kernel, by decide +kernel⟩, List.mem_of_getElem? (i := 1055) (by decide +kernel), List.mem_of_getElem? (i := 1646) (by decide +kernel), List.mem_of_getElem? (i := 1647) (by decide +kernel)⟩
theorem lw_p97 : lw_okq (⟨"DarkCommitteeModel", "present", "()I"⟩, 58) := ⟨⟨by decide +kernel, by decide +kernel⟩, List.mem_of_getElem? (i := 1055) (by decide +kernel), List.mem_of_getElem? (i := 1654) (by decide +kernel), List.mem_of_getElem? (i := 1655) (by decide +kernel)⟩
theorem lw_p98 : lw_okq (⟨"DarkCommitteeModel", "hearAll", "(I)Z"⟩, 58) := ⟨⟨by decide +kernel, by decide +kernel⟩, List.mem_of_getElem? (i := 1055) (by decide +kernel), List.mem_of_getElem? (i := 1658) (by decide +kernel), List.mem_of_getElem? (i := 1659) (by decide +kernel)⟩
theorem lw_p99 : lw_okq (⟨"DarkCommitteeModel", "heardBy", "(I)I"⟩, 58) := ⟨⟨by decide +kernel, by decide +kernel⟩, List.mem_of_getElem? (i := 1055) (by decide +kernel), List.mem_of_getElem? (i := 1669) (by decide +kernel), List.mem_of_getElem? (i := 1670) (by decide +kernel)⟩
theorem lw_p100 : lw_okq (⟨"DarkCommitteeModel", "thatCanBe", "()I"⟩, 58) := ⟨⟨by decide +kernel, by decide +kernel⟩, List.mem_of_getElem? (i := 1055) (by decide +kernel), List.mem_of_getElem? (i := 1689) (by decide +kernel), List.mem_of_getElem? (i := 1690) (by decide +kernel)⟩
theorem lw_p101 : lw_okq (⟨"DarkCommitteeModel", "readOrder", "()V"⟩, 58) := ⟨⟨by decide +kernel, by decide +kernel⟩, List.mem_of_getElem? (i := 1055) (by decide +kernel), List.mem_of_getElem? (i := 1711) (by decide +kernel), List.mem_of_getElem? (i := 1712) (by decide +kernel)⟩
theorem lw_p102 : lw_okq (⟨"DarkCommitteeModel", "readSum", "(I)V"⟩, 58) := ⟨⟨by decide +kernel, by decide +kernel⟩, List.mem_of_getElem? (i := 1055) (by decide +kernel), List.mem_of_getElem? (i := 1715) (by decide +kernel), List.mem_of_getElem? (i := 1716) (by decide +kernel)⟩
theorem lw_p103 : lw_okq (⟨"DarkCommitteeModel", "run", "(I)I"⟩, 58) := ⟨⟨by decide +kernel, by decide +kernel⟩, List.mem_of_getElem? (i := 1055) (by decide +kernel), List.mem_of_getElem? (i := 1722) (by decide +kernel), List.mem_of_getElem? (i := 1723) (by decide +kernel)⟩
theorem lw_p104 : lw_okq (⟨"DarkCommitteeModel", "sumOf", "(I)I"⟩, 58) := ⟨⟨by decide +kernel, by decide +kernel⟩, List.mem_of_getElem? (i := 1055) (by decide +kernel), List.mem_of_getElem? (i := 1726) (by decide +kernel), List.mem_of_getElem? (i := 1727) (by decide +kernel)⟩
theorem lw_p105 : lw_okq (⟨"DarkCommitteeModel", "act", "(III)I"⟩, 58) := ⟨⟨by decide +kernel, by decide +kernel⟩, List.mem_of_getElem? (i := 1055) (by decide +kernel), List.mem_of_getElem? (i := 1730) (by decide +kernel), List.mem_of_getElem? (i := 1731) (by decide +kernel)⟩
theorem lw_p106 : lw_okq (⟨"DarkCommitteeModel", "giveBack", "(I)V"⟩, 58) := ⟨⟨by decide +kernel, by decide +kernel⟩, List.mem_of_getElem? (i := 1055) (by decide +kernel), List.mem_of_getElem? (i := 1734) (by decide +kernel), List.mem_of_getElem? (i := 1735) (by decide +kernel)⟩
theorem lw_p107 : lw_okq (⟨"DarkCommitteeModel", "draw", "(I)I"⟩, 58) := ⟨⟨by decide +kernel, by decide +kernel⟩, List.mem_of_getElem? (i := 1055) (by decide +kernel), List.mem_of_getElem? (i := 1747) (by decide +kernel), List.mem_of_getElem? (i := 1748) (by decide +kernel)⟩
def lw_privs_7 : List (MethodName × Nat) := [(⟨"DarkCommitteeModel", "layLeft", "(I)V"⟩, 58), (⟨"DarkCommitteeModel", "present", "()I"⟩, 58), (⟨"DarkCommitteeModel", "hearAll", "(I)Z"⟩, 58), (⟨"DarkCommitteeModel", "heardBy", "(I)I"⟩, 58), (⟨"DarkCommitteeModel", "thatCanBe", "()I"⟩, 58), (⟨"DarkCommitteeModel", "readOrder", "()V"⟩, 58), (⟨"DarkCommitteeModel", "readSum", "(I)V"⟩, 58), (⟨"DarkCommitteeModel", "run", "(I)I"⟩, 58), (⟨"DarkCommitteeModel", "sumOf", "(I)I"⟩, 58), (⟨"DarkCommitteeModel", "act", "(III)I"⟩, 58), (⟨"DarkCommitteeModel", "giveBack", "(I)V"⟩, 58), (⟨"DarkCommitteeModel", "draw", "(I)I"⟩, 58)]
theorem lw_r7 : ∀ q ∈ lw_privs_7, lw_okq q := List.forall_mem_cons.mpr ⟨lw_p96, List.forall_mem_cons.mpr ⟨lw_p97, List.forall_mem_cons.mpr ⟨lw_p98, List.forall_mem_cons.mpr ⟨lw_p99, List.forall_mem_cons.mpr ⟨lw_p100, List.forall_mem_cons.mpr ⟨lw_p101, List.forall_mem_cons.mpr ⟨lw_p102, List.forall_mem_cons.mpr ⟨lw_p103, List.forall_mem_cons.mpr ⟨lw_p104, List.forall_mem_cons.mpr ⟨lw_p105, List.forall_mem_cons.mpr ⟨lw_p106, List.forall_mem_cons.mpr ⟨lw_p107, fun _ h => absurd h List.not_mem_nil⟩⟩⟩⟩⟩⟩⟩⟩⟩⟩⟩⟩
def lw_privs : List (MethodName × Nat) := lw_privs_1 ++ (lw_privs_2 ++ (lw_privs_3 ++ (lw_privs_4 ++ (lw_privs_5 ++ (lw_privs_6 ++ (lw_privs_7))))))
def lw_tbl : List Cond := k2_sels lw_privs ++ tables_1
theorem lw_privs_ok : ∀ q ∈ lw_privs, lw_okq q := by
  show ∀ q ∈ lw_privs_1 ++ (lw_privs_2 ++ (lw_privs_3 ++ (lw_privs_4 ++ (lw_privs_5 ++ (lw_privs_6 ++ (lw_privs_7)))))), lw_okq q
  exact List.forall_mem_append.mpr ⟨lw_r1, List.forall_mem_append.mpr ⟨lw_r2, List.forall_mem_append.mpr ⟨lw_r3, List.forall_mem_append.mpr ⟨lw_r4, List.forall_mem_append.mpr ⟨lw_r5, List.forall_mem_append.mpr ⟨lw_r6, lw_r7⟩⟩⟩⟩⟩⟩
-- ===== end of PART A; then your names; then what follows =====
end
section
def RX0 : String := "DarkCommittee$Best"
def TX0 : u_T := fun k => match k with
  | 0 => ("DarkCommittee$Best", "council", "LDarkCommittee$Council;", true)
  | 1 => ("DarkCommittee$Best", "paper", "LDarkCommittee$Stand;", true)
  | 2 => ("DarkCommittee$Best", "told", "[I", true)
  | 3 => ("DarkCommittee$Best", "row", "[I", true)
  | 4 => ("DarkCommittee$Best", "bestRow", "[I", true)
  | 5 => ("DarkCommittee$Best", "bestLength", "I", false)
  | _ => ("DarkCommittee$Best", "bestRich", "I", false)
def tyX0 : Nat → FieldType := fun k => match k with
  | 0 => .object "DarkCommittee$Council"
  | 1 => .object "DarkCommittee$Stand"
  | 2 => .array .int
  | 3 => .array .int
  | 4 => .array .int
  | 5 => .int
  | _ => .int
theorem nmX0 : ∀ a, a < 7 → ∀ b, b < 7 → a ≠ b → (TX0 a).2.1 ≠ (TX0 b).2.1 := by decide +kernel
theorem tyX0_ok : ∀ k, k < 7 → parseFieldDescriptor (TX0 k).2.2.1 = some (tyX0 k) := by decide +kernel
abbrev cX0_init : ByteArray := prog_2_method_1_code
def yX0_init : MethodName := ⟨RX0, "<init>", "(LDarkCommittee$Council;)V"⟩
abbrev cX0_begin : ByteArray := prog_2_method_2_code
def yX0_begin : MethodName := ⟨RX0, "begin", "(LDarkCommittee$Stand;)V"⟩
abbrev cX0_goOn : ByteArray := prog_2_method_3_code
def yX0_goOn : MethodName := ⟨RX0, "goOn", "(IIII)V"⟩
abbrev cX0_divisionAt : ByteArray := prog_2_method_4_code
def yX0_divisionAt : MethodName := ⟨RX0, "divisionAt", "(II)I"⟩
def RX1 : String := "DarkCommittee$Council"
def TX1 : u_T := fun k => match k with
  | 0 => ("DarkCommittee$Council", "roll", "LDarkCommittee$Roll;", true)
  | 1 => ("DarkCommittee$Council", "reckoner", "LDarkCommittee$Reckoner;", true)
  | 2 => ("DarkCommittee$Council", "sitting", "I", false)
  | 3 => ("DarkCommittee$Council", "ayes", "I", false)
  | 4 => ("DarkCommittee$Council", "hopsTo", "[I", true)
  | _ => ("DarkCommittee$Council", "hearersOf", "[I", true)
def tyX1 : Nat → FieldType := fun k => match k with
  | 0 => .object "DarkCommittee$Roll"
  | 1 => .object "DarkCommittee$Reckoner"
  | 2 => .int
  | 3 => .int
  | 4 => .array .int
  | _ => .array .int
theorem nmX1 : ∀ a, a < 6 → ∀ b, b < 6 → a ≠ b → (TX1 a).2.1 ≠ (TX1 b).2.1 := by decide +kernel
theorem tyX1_ok : ∀ k, k < 6 → parseFieldDescriptor (TX1 k).2.2.1 = some (tyX1 k) := by decide +kernel
abbrev cX1_init : ByteArray := prog_3_method_1_code
def yX1_init : MethodName := ⟨RX1, "<init>", "(LDarkCommittee$Roll;LDarkCommittee$Reckoner;)V"⟩
abbrev cX1_tellLaw : ByteArray := prog_3_method_2_code
def yX1_tellLaw : MethodName := ⟨RX1, "tellLaw", "(LDarkCommittee$Stand;IIII)V"⟩
abbrev cX1_tellBird : ByteArray := prog_3_method_3_code
def yX1_tellBird : MethodName := ⟨RX1, "tellBird", "(LDarkCommittee$Stand;II)V"⟩
abbrev cX1_within : ByteArray := prog_3_method_4_code
def yX1_within : MethodName := ⟨RX1, "within", "(III)I"⟩
abbrev cX1_swayed : ByteArray := prog_3_method_5_code
def yX1_swayed : MethodName := ⟨RX1, "swayed", "(LDarkCommittee$Stand;II)I"⟩
abbrev cX1_timeTaken : ByteArray := prog_3_method_6_code
def yX1_timeTaken : MethodName := ⟨RX1, "timeTaken", "(LDarkCommittee$Stand;I)I"⟩
abbrev cX1_vote : ByteArray := prog_3_method_7_code
def yX1_vote : MethodName := ⟨RX1, "vote", "(LDarkCommittee$Stand;IILDarkCommittee$Text;)I"⟩
abbrev cX1_poll : ByteArray := prog_3_method_8_code
def yX1_poll : MethodName := ⟨RX1, "poll", "(LDarkCommittee$Stand;ILDarkCommittee$Text;)V"⟩
abbrev cX1_present : ByteArray := prog_3_method_9_code
def yX1_present : MethodName := ⟨RX1, "present", "(LDarkCommittee$Stand;)I"⟩
abbrev cX1_moved : ByteArray := prog_3_method_10_code
def yX1_moved : MethodName := ⟨RX1, "moved", "(LDarkCommittee$Stand;)I"⟩
abbrev cX1_hears : ByteArray := prog_3_method_11_code
def yX1_hears : MethodName := ⟨RX1, "hears", "(LDarkCommittee$Stand;II)Z"⟩
abbrev cX1_whomHears : ByteArray := prog_3_method_12_code
def yX1_whomHears : MethodName := ⟨RX1, "whomHears", "(LDarkCommittee$Stand;I)I"⟩
abbrev cX1_hearers : ByteArray := prog_3_method_13_code
def yX1_hearers : MethodName := ⟨RX1, "hearers", "(LDarkCommittee$Stand;I)I"⟩
abbrev cX1_seconder : ByteArray := prog_3_method_14_code
def yX1_seconder : MethodName := ⟨RX1, "seconder", "(LDarkCommittee$Stand;II)I"⟩
abbrev cX1_moving : ByteArray := prog_3_method_15_code
def yX1_moving : MethodName := ⟨RX1, "moving", "(LDarkCommittee$Stand;II)I"⟩
abbrev cX1_dividing : ByteArray := prog_3_method_16_code
def yX1_dividing : MethodName := ⟨RX1, "dividing", "(LDarkCommittee$Stand;I)I"⟩
abbrev cX1_flying : ByteArray := prog_3_method_17_code
def yX1_flying : MethodName := ⟨RX1, "flying", "(LDarkCommittee$Stand;II)I"⟩
abbrev cX1_passing : ByteArray := prog_3_method_18_code
def yX1_passing : MethodName := ⟨RX1, "passing", "(LDarkCommittee$Stand;)I"⟩
abbrev cX1_wouldCarry : ByteArray := prog_3_method_19_code
def yX1_wouldCarry : MethodName := ⟨RX1, "wouldCarry", "(II)Z"⟩
abbrev cX1_fewest : ByteArray := prog_3_method_20_code
def yX1_fewest : MethodName := ⟨RX1, "fewest", "(IIZ)I"⟩
abbrev cX1_hops : ByteArray := prog_3_method_21_code
def yX1_hops : MethodName := ⟨RX1, "hops", "(LDarkCommittee$Stand;II)I"⟩
abbrev cX1_nextInChain : ByteArray := prog_3_method_22_code
def yX1_nextInChain : MethodName := ⟨RX1, "nextInChain", "(LDarkCommittee$Stand;II)I"⟩
abbrev cX1_chainBird : ByteArray := prog_3_method_23_code
def yX1_chainBird : MethodName := ⟨RX1, "chainBird", "(LDarkCommittee$Stand;II)I"⟩
abbrev cX1_fewestEars : ByteArray := prog_3_method_24_code
def yX1_fewestEars : MethodName := ⟨RX1, "fewestEars", "(LDarkCommittee$Stand;)I"⟩
abbrev cX1_hearAll : ByteArray := prog_3_method_25_code
def yX1_hearAll : MethodName := ⟨RX1, "hearAll", "(II)Z"⟩
abbrev cX1_mattersAsHeard : ByteArray := prog_3_method_26_code
def yX1_mattersAsHeard : MethodName := ⟨RX1, "mattersAsHeard", "(LDarkCommittee$Stand;)I"⟩
abbrev cX1_mattersAyeOn : ByteArray := prog_3_method_27_code
def yX1_mattersAyeOn : MethodName := ⟨RX1, "mattersAyeOn", "(LDarkCommittee$Stand;I)I"⟩
def RX2 : String := "DarkCommittee$May"
def TX2 : u_T := fun k => match k with
  | 0 => ("DarkCommittee$May", "stand", "LDarkCommittee$Stand;", true)
  | 1 => ("DarkCommittee$May", "birds", "I", false)
  | 2 => ("DarkCommittee$May", "matters", "I", false)
  | _ => ("DarkCommittee$May", "seed", "I", false)
def tyX2 : Nat → FieldType := fun k => match k with
  | 0 => .object "DarkCommittee$Stand"
  | 1 => .int
  | 2 => .int
  | _ => .int
theorem nmX2 : ∀ a, a < 4 → ∀ b, b < 4 → a ≠ b → (TX2 a).2.1 ≠ (TX2 b).2.1 := by decide +kernel
theorem tyX2_ok : ∀ k, k < 4 → parseFieldDescriptor (TX2 k).2.2.1 = some (tyX2 k) := by decide +kernel
abbrev cX2_init : ByteArray := prog_4_method_1_code
def yX2_init : MethodName := ⟨RX2, "<init>", "()V"⟩
abbrev cX2_begin : ByteArray := prog_4_method_2_code
def yX2_begin : MethodName := ⟨RX2, "begin", "(LDarkCommittee$Roll;I)V"⟩
abbrev cX2_draw : ByteArray := prog_4_method_3_code
def yX2_draw : MethodName := ⟨RX2, "draw", "(I)I"⟩
abbrev cX2_step : ByteArray := prog_4_method_4_code
def yX2_step : MethodName := ⟨RX2, "step", "(LDarkCommittee$Council;)V"⟩
def RX3 : String := "DarkCommittee$Reader"
def TX3 : u_T := fun k => match k with
  | 0 => ("DarkCommittee$Reader", "tokens", "LDarkCommittee$Tokens;", true)
  | 1 => ("DarkCommittee$Reader", "text", "LDarkCommittee$Text;", true)
  | 2 => ("DarkCommittee$Reader", "asLaw", "Z", false)
  | 3 => ("DarkCommittee$Reader", "present", "I", false)
  | _ => ("DarkCommittee$Reader", "partCount", "I", false)
def tyX3 : Nat → FieldType := fun k => match k with
  | 0 => .object "DarkCommittee$Tokens"
  | 1 => .object "DarkCommittee$Text"
  | 2 => .boolean
  | 3 => .int
  | _ => .int
theorem nmX3 : ∀ a, a < 5 → ∀ b, b < 5 → a ≠ b → (TX3 a).2.1 ≠ (TX3 b).2.1 := by decide +kernel
theorem tyX3_ok : ∀ k, k < 5 → parseFieldDescriptor (TX3 k).2.2.1 = some (tyX3 k) := by decide +kernel
abbrev cX3_init : ByteArray := prog_5_method_1_code
def yX3_init : MethodName := ⟨RX3, "<init>", "()V"⟩
abbrev cX3_read : ByteArray := prog_5_method_2_code
def yX3_read : MethodName := ⟨RX3, "read", "([IIZ)Z"⟩
abbrev cX3_place : ByteArray := prog_5_method_3_code
def yX3_place : MethodName := ⟨RX3, "place", "()I"⟩
abbrev cX3_kind : ByteArray := prog_5_method_4_code
def yX3_kind : MethodName := ⟨RX3, "kind", "()I"⟩
abbrev cX3_number : ByteArray := prog_5_method_5_code
def yX3_number : MethodName := ⟨RX3, "number", "()I"⟩
abbrev cX3_next : ByteArray := prog_5_method_6_code
def yX3_next : MethodName := ⟨RX3, "next", "()V"⟩
abbrev cX3_isNumber : ByteArray := prog_5_method_7_code
def yX3_isNumber : MethodName := ⟨RX3, "isNumber", "(II)Z"⟩
abbrev cX3_setHead : ByteArray := prog_5_method_8_code
def yX3_setHead : MethodName := ⟨RX3, "setHead", "(II)V"⟩
abbrev cX3_emit : ByteArray := prog_5_method_9_code
def yX3_emit : MethodName := ⟨RX3, "emit", "(II)V"⟩
abbrev cX3_lawClause : ByteArray := prog_5_method_10_code
def yX3_lawClause : MethodName := ⟨RX3, "lawClause", "()Z"⟩
abbrev cX3_orderClause : ByteArray := prog_5_method_11_code
def yX3_orderClause : MethodName := ⟨RX3, "orderClause", "()Z"⟩
abbrev cX3_times : ByteArray := prog_5_method_12_code
def yX3_times : MethodName := ⟨RX3, "times", "()Z"⟩
abbrev cX3_test : ByteArray := prog_5_method_13_code
def yX3_test : MethodName := ⟨RX3, "test", "(I)Z"⟩
abbrev cX3_leapHere : ByteArray := prog_5_method_14_code
def yX3_leapHere : MethodName := ⟨RX3, "leapHere", "(I)V"⟩
abbrev cX3_plain : ByteArray := prog_5_method_15_code
def yX3_plain : MethodName := ⟨RX3, "plain", "(I)Z"⟩
abbrev cX3_testInBrackets : ByteArray := prog_5_method_16_code
def yX3_testInBrackets : MethodName := ⟨RX3, "testInBrackets", "(I)Z"⟩
abbrev cX3_sum : ByteArray := prog_5_method_17_code
def yX3_sum : MethodName := ⟨RX3, "sum", "(I)Z"⟩
abbrev cX3_part : ByteArray := prog_5_method_18_code
def yX3_part : MethodName := ⟨RX3, "part", "(I)Z"⟩
abbrev cX3_sumInBrackets : ByteArray := prog_5_method_19_code
def yX3_sumInBrackets : MethodName := ⟨RX3, "sumInBrackets", "(I)Z"⟩
abbrev cX3_lawWord : ByteArray := prog_5_method_20_code
def yX3_lawWord : MethodName := ⟨RX3, "lawWord", "()Z"⟩
abbrev cX3_orderWord : ByteArray := prog_5_method_21_code
def yX3_orderWord : MethodName := ⟨RX3, "orderWord", "()Z"⟩
def RX4 : String := "DarkCommittee$Reckoner"
def TX4 : u_T := fun k => match k with
  | 0 => ("DarkCommittee$Reckoner", "values", "[I", true)
  | 1 => ("DarkCommittee$Reckoner", "stack", "[J", true)
  | _ => ("DarkCommittee$Reckoner", "value", "I", false)
def tyX4 : Nat → FieldType := fun k => match k with
  | 0 => .array .int
  | 1 => .array .long
  | _ => .int
theorem nmX4 : ∀ a, a < 3 → ∀ b, b < 3 → a ≠ b → (TX4 a).2.1 ≠ (TX4 b).2.1 := by decide +kernel
theorem tyX4_ok : ∀ k, k < 3 → parseFieldDescriptor (TX4 k).2.2.1 = some (tyX4 k) := by decide +kernel
abbrev cX4_init : ByteArray := prog_6_method_1_code
def yX4_init : MethodName := ⟨RX4, "<init>", "()V"⟩
abbrev cX4_holds : ByteArray := prog_6_method_2_code
def yX4_holds : MethodName := ⟨RX4, "holds", "(LDarkCommittee$Text;I)Z"⟩
abbrev cX4_reckon : ByteArray := prog_6_method_3_code
def yX4_reckon : MethodName := ⟨RX4, "reckon", "([III)Z"⟩
def RX5 : String := "DarkCommittee$Ring"
def TX5 : u_T := fun k => match k with
  | 0 => ("DarkCommittee$Ring", "cells", "[I", true)
  | 1 => ("DarkCommittee$Ring", "acts", "[I", true)
  | 2 => ("DarkCommittee$Ring", "next", "I", false)
  | _ => ("DarkCommittee$Ring", "size", "I", false)
def tyX5 : Nat → FieldType := fun k => match k with
  | 0 => .array .int
  | 1 => .array .int
  | 2 => .int
  | _ => .int
theorem nmX5 : ∀ a, a < 4 → ∀ b, b < 4 → a ≠ b → (TX5 a).2.1 ≠ (TX5 b).2.1 := by decide +kernel
theorem tyX5_ok : ∀ k, k < 4 → parseFieldDescriptor (TX5 k).2.2.1 = some (tyX5 k) := by decide +kernel
abbrev cX5_init : ByteArray := prog_7_method_1_code
def yX5_init : MethodName := ⟨RX5, "<init>", "()V"⟩
abbrev cX5_note : ByteArray := prog_7_method_2_code
def yX5_note : MethodName := ⟨RX5, "note", "(LDarkCommittee$Stand;)V"⟩
abbrev cX5_keep : ByteArray := prog_7_method_3_code
def yX5_keep : MethodName := ⟨RX5, "keep", "(I)V"⟩
abbrev cX5_takeBack : ByteArray := prog_7_method_4_code
def yX5_takeBack : MethodName := ⟨RX5, "takeBack", "(LDarkCommittee$Stand;)I"⟩
abbrev cX5_clear : ByteArray := prog_7_method_5_code
def yX5_clear : MethodName := ⟨RX5, "clear", "()V"⟩
abbrev cX5_become : ByteArray := prog_7_method_6_code
def yX5_become : MethodName := ⟨RX5, "become", "(LDarkCommittee$Ring;)V"⟩
def RX6 : String := "DarkCommittee$Roll"
def TX6 : u_T := fun k => match k with
  | 0 => ("DarkCommittee$Roll", "stand", "LDarkCommittee$Stand;", true)
  | 1 => ("DarkCommittee$Roll", "birds", "I", false)
  | 2 => ("DarkCommittee$Roll", "ranges", "[I", true)
  | 3 => ("DarkCommittee$Roll", "favours", "[I", true)
  | 4 => ("DarkCommittee$Roll", "matters", "I", false)
  | 5 => ("DarkCommittee$Roll", "clauses", "[I", true)
  | 6 => ("DarkCommittee$Roll", "rich", "[I", true)
  | 7 => ("DarkCommittee$Roll", "dumb", "I", false)
  | 8 => ("DarkCommittee$Roll", "mood", "I", false)
  | 9 => ("DarkCommittee$Roll", "quorum", "I", false)
  | 10 => ("DarkCommittee$Roll", "timesHeard", "I", false)
  | 11 => ("DarkCommittee$Roll", "ayesHeard", "[I", true)
  | 12 => ("DarkCommittee$Roll", "lawCount", "I", false)
  | 13 => ("DarkCommittee$Roll", "laws", "[LDarkCommittee$Text;", true)
  | 14 => ("DarkCommittee$Roll", "noLaw", "LDarkCommittee$Text;", true)
  | 15 => ("DarkCommittee$Roll", "inForce", "I", false)
  | _ => ("DarkCommittee$Roll", "kept", "Z", false)
def tyX6 : Nat → FieldType := fun k => match k with
  | 0 => .object "DarkCommittee$Stand"
  | 1 => .int
  | 2 => .array .int
  | 3 => .array .int
  | 4 => .int
  | 5 => .array .int
  | 6 => .array .int
  | 7 => .int
  | 8 => .int
  | 9 => .int
  | 10 => .int
  | 11 => .array .int
  | 12 => .int
  | 13 => .array (.object "DarkCommittee$Text")
  | 14 => .object "DarkCommittee$Text"
  | 15 => .int
  | _ => .boolean
theorem nmX6 : ∀ a, a < 17 → ∀ b, b < 17 → a ≠ b → (TX6 a).2.1 ≠ (TX6 b).2.1 := by decide +kernel
theorem tyX6_ok : ∀ k, k < 17 → parseFieldDescriptor (TX6 k).2.2.1 = some (tyX6 k) := by decide +kernel
abbrev cX6_init : ByteArray := prog_8_method_1_code
def yX6_init : MethodName := ⟨RX6, "<init>", "()V"⟩
abbrev cX6_become : ByteArray := prog_8_method_2_code
def yX6_become : MethodName := ⟨RX6, "become", "(LDarkCommittee$Roll;)V"⟩
abbrev cX6_hasBird : ByteArray := prog_8_method_3_code
def yX6_hasBird : MethodName := ⟨RX6, "hasBird", "(I)Z"⟩
abbrev cX6_hasMatter : ByteArray := prog_8_method_4_code
def yX6_hasMatter : MethodName := ⟨RX6, "hasMatter", "(I)Z"⟩
abbrev cX6_hasLaw : ByteArray := prog_8_method_5_code
def yX6_hasLaw : MethodName := ⟨RX6, "hasLaw", "(I)Z"⟩
abbrev cX6_addBird : ByteArray := prog_8_method_6_code
def yX6_addBird : MethodName := ⟨RX6, "addBird", "(II)I"⟩
abbrev cX6_addMatter : ByteArray := prog_8_method_7_code
def yX6_addMatter : MethodName := ⟨RX6, "addMatter", "(II)I"⟩
abbrev cX6_hear : ByteArray := prog_8_method_8_code
def yX6_hear : MethodName := ⟨RX6, "hear", "(I)V"⟩
abbrev cX6_fitsAllHeard : ByteArray := prog_8_method_9_code
def yX6_fitsAllHeard : MethodName := ⟨RX6, "fitsAllHeard", "(I)Z"⟩
abbrev cX6_lawInForce : ByteArray := prog_8_method_10_code
def yX6_lawInForce : MethodName := ⟨RX6, "lawInForce", "()LDarkCommittee$Text;"⟩
abbrev cX6_lawOf : ByteArray := prog_8_method_11_code
def yX6_lawOf : MethodName := ⟨RX6, "lawOf", "(I)LDarkCommittee$Text;"⟩
def RX7 : String := "DarkCommittee$Stand"
def TX7 : u_T := fun k => match k with
  | 0 => ("DarkCommittee$Stand", "trees", "[I", true)
  | 1 => ("DarkCommittee$Stand", "stands", "[I", true)
  | 2 => ("DarkCommittee$Stand", "clock", "I", false)
  | _ => ("DarkCommittee$Stand", "night", "I", false)
def tyX7 : Nat → FieldType := fun k => match k with
  | 0 => .array .int
  | 1 => .array .int
  | 2 => .int
  | _ => .int
theorem nmX7 : ∀ a, a < 4 → ∀ b, b < 4 → a ≠ b → (TX7 a).2.1 ≠ (TX7 b).2.1 := by decide +kernel
theorem tyX7_ok : ∀ k, k < 4 → parseFieldDescriptor (TX7 k).2.2.1 = some (tyX7 k) := by decide +kernel
abbrev cX7_init : ByteArray := prog_9_method_1_code
def yX7_init : MethodName := ⟨RX7, "<init>", "()V"⟩
abbrev cX7_become : ByteArray := prog_9_method_2_code
def yX7_become : MethodName := ⟨RX7, "become", "(LDarkCommittee$Stand;)V"⟩
abbrev cX7_writeTo : ByteArray := prog_9_method_3_code
def yX7_writeTo : MethodName := ⟨RX7, "writeTo", "([II)V"⟩
abbrev cX7_readFrom : ByteArray := prog_9_method_4_code
def yX7_readFrom : MethodName := ⟨RX7, "readFrom", "([II)V"⟩
def RX8 : String := "DarkCommittee$Text"
def TX8 : u_T := fun k => match k with
  | 0 => ("DarkCommittee$Text", "code", "[I", true)
  | 1 => ("DarkCommittee$Text", "heads", "[I", true)
  | 2 => ("DarkCommittee$Text", "codeLength", "I", false)
  | _ => ("DarkCommittee$Text", "clauseCount", "I", false)
def tyX8 : Nat → FieldType := fun k => match k with
  | 0 => .array .int
  | 1 => .array .int
  | 2 => .int
  | _ => .int
theorem nmX8 : ∀ a, a < 4 → ∀ b, b < 4 → a ≠ b → (TX8 a).2.1 ≠ (TX8 b).2.1 := by decide +kernel
theorem tyX8_ok : ∀ k, k < 4 → parseFieldDescriptor (TX8 k).2.2.1 = some (tyX8 k) := by decide +kernel
abbrev cX8_init : ByteArray := prog_10_method_1_code
def yX8_init : MethodName := ⟨RX8, "<init>", "(II)V"⟩
abbrev cX8_copied : ByteArray := prog_10_method_2_code
def yX8_copied : MethodName := ⟨RX8, "copied", "()LDarkCommittee$Text;"⟩
abbrev cX8_head : ByteArray := prog_10_method_3_code
def yX8_head : MethodName := ⟨RX8, "head", "(II)I"⟩
abbrev cX8_setHead : ByteArray := prog_10_method_4_code
def yX8_setHead : MethodName := ⟨RX8, "setHead", "(III)V"⟩
def RX9 : String := "DarkCommittee$Tokens"
def TX9 : u_T := fun k => match k with
  | 0 => ("DarkCommittee$Tokens", "kinds", "[I", true)
  | 1 => ("DarkCommittee$Tokens", "places", "[I", true)
  | 2 => ("DarkCommittee$Tokens", "numbers", "[I", true)
  | _ => ("DarkCommittee$Tokens", "size", "I", false)
def tyX9 : Nat → FieldType := fun k => match k with
  | 0 => .array .int
  | 1 => .array .int
  | 2 => .array .int
  | _ => .int
theorem nmX9 : ∀ a, a < 4 → ∀ b, b < 4 → a ≠ b → (TX9 a).2.1 ≠ (TX9 b).2.1 := by decide +kernel
theorem tyX9_ok : ∀ k, k < 4 → parseFieldDescriptor (TX9 k).2.2.1 = some (tyX9 k) := by decide +kernel
abbrev cX9_init : ByteArray := prog_11_method_1_code
def yX9_init : MethodName := ⟨RX9, "<init>", "()V"⟩
abbrev cX9_cut : ByteArray := prog_11_method_2_code
def yX9_cut : MethodName := ⟨RX9, "cut", "([II)V"⟩
abbrev cX9_add : ByteArray := prog_11_method_3_code
def yX9_add : MethodName := ⟨RX9, "add", "(III)V"⟩
abbrev cX9_sortOf : ByteArray := prog_11_method_4_code
def yX9_sortOf : MethodName := ⟨RX9, "sortOf", "(I)I"⟩
abbrev cX9_endOf : ByteArray := prog_11_method_5_code
def yX9_endOf : MethodName := ⟨RX9, "endOf", "([III)I"⟩
abbrev cX9_kindOf : ByteArray := prog_11_method_6_code
def yX9_kindOf : MethodName := ⟨RX9, "kindOf", "([III)I"⟩
abbrev cX9_wordOf : ByteArray := prog_11_method_7_code
def yX9_wordOf : MethodName := ⟨RX9, "wordOf", "([III)I"⟩
abbrev cX9_numberOf : ByteArray := prog_11_method_8_code
def yX9_numberOf : MethodName := ⟨RX9, "numberOf", "([III)I"⟩
def RX10 : String := "DarkCommittee"
def TX10 : u_T := fun k => match k with
  | 0 => ("DarkCommittee", "tape", "[I", true)
  | 1 => ("DarkCommittee", "fed", "I", false)
  | 2 => ("DarkCommittee", "roll", "LDarkCommittee$Roll;", true)
  | 3 => ("DarkCommittee", "images", "[LDarkCommittee$Roll;", true)
  | 4 => ("DarkCommittee", "ring", "LDarkCommittee$Ring;", true)
  | 5 => ("DarkCommittee", "ringAhead", "LDarkCommittee$Ring;", true)
  | 6 => ("DarkCommittee", "ahead", "LDarkCommittee$Stand;", true)
  | 7 => ("DarkCommittee", "paper", "LDarkCommittee$Stand;", true)
  | 8 => ("DarkCommittee", "latestMay", "LDarkCommittee$May;", true)
  | 9 => ("DarkCommittee", "reckoner", "LDarkCommittee$Reckoner;", true)
  | 10 => ("DarkCommittee", "council", "LDarkCommittee$Council;", true)
  | 11 => ("DarkCommittee", "best", "LDarkCommittee$Best;", true)
  | 12 => ("DarkCommittee", "reader", "LDarkCommittee$Reader;", true)
  | 13 => ("DarkCommittee", "refusals", "[I", true)
  | 14 => ("DarkCommittee", "latestRefusal", "I", false)
  | 15 => ("DarkCommittee", "faultAt", "I", false)
  | 16 => ("DarkCommittee", "catsOfRow", "I", false)
  | 17 => ("DarkCommittee", "stoppedAt", "I", false)
  | 18 => ("DarkCommittee", "done", "I", false)
  | _ => ("DarkCommittee", "latest", "I", false)
def tyX10 : Nat → FieldType := fun k => match k with
  | 0 => .array .int
  | 1 => .int
  | 2 => .object "DarkCommittee$Roll"
  | 3 => .array (.object "DarkCommittee$Roll")
  | 4 => .object "DarkCommittee$Ring"
  | 5 => .object "DarkCommittee$Ring"
  | 6 => .object "DarkCommittee$Stand"
  | 7 => .object "DarkCommittee$Stand"
  | 8 => .object "DarkCommittee$May"
  | 9 => .object "DarkCommittee$Reckoner"
  | 10 => .object "DarkCommittee$Council"
  | 11 => .object "DarkCommittee$Best"
  | 12 => .object "DarkCommittee$Reader"
  | 13 => .array .int
  | 14 => .int
  | 15 => .int
  | 16 => .int
  | 17 => .int
  | 18 => .int
  | _ => .int
theorem nmX10 : ∀ a, a < 20 → ∀ b, b < 20 → a ≠ b → (TX10 a).2.1 ≠ (TX10 b).2.1 := by decide +kernel
theorem tyX10_ok : ∀ k, k < 20 → parseFieldDescriptor (TX10 k).2.2.1 = some (tyX10 k) := by decide +kernel
abbrev cX10_init : ByteArray := prog_1_method_1_code
def yX10_init : MethodName := ⟨RX10, "<init>", "()V"⟩
abbrev cX10_bird : ByteArray := prog_1_method_2_code
def yX10_bird : MethodName := ⟨RX10, "bird", "(II)I"⟩
abbrev cX10_favour : ByteArray := prog_1_method_3_code
def yX10_favour : MethodName := ⟨RX10, "favour", "(III)I"⟩
abbrev cX10_of : ByteArray := prog_1_method_4_code
def yX10_of : MethodName := ⟨RX10, "of", "(II)I"⟩
abbrev cX10_matter : ByteArray := prog_1_method_5_code
def yX10_matter : MethodName := ⟨RX10, "matter", "(II)I"⟩
abbrev cX10_at : ByteArray := prog_1_method_6_code
def yX10_at : MethodName := ⟨RX10, "at", "(II)I"⟩
abbrev cX10_terms : ByteArray := prog_1_method_7_code
def yX10_terms : MethodName := ⟨RX10, "terms", "(II)I"⟩
abbrev cX10_largestTerm : ByteArray := prog_1_method_8_code
def yX10_largestTerm : MethodName := ⟨RX10, "largestTerm", "(I)I"⟩
abbrev cX10_term : ByteArray := prog_1_method_9_code
def yX10_term : MethodName := ⟨RX10, "term", "(I)I"⟩
abbrev cX10_feed : ByteArray := prog_1_method_10_code
def yX10_feed : MethodName := ⟨RX10, "feed", "(IIIII)I"⟩
abbrev cX10_feedFour : ByteArray := prog_1_method_11_code
def yX10_feedFour : MethodName := ⟨RX10, "feedFour", "(I)V"⟩
abbrev cX10_end : ByteArray := prog_1_method_12_code
def yX10_end : MethodName := ⟨RX10, "end", "(I)I"⟩
abbrev cX10_row : ByteArray := prog_1_method_13_code
def yX10_row : MethodName := ⟨RX10, "row", "()I"⟩
abbrev cX10_canBeBird : ByteArray := prog_1_method_14_code
def yX10_canBeBird : MethodName := ⟨RX10, "canBeBird", "(I)Z"⟩
abbrev cX10_addBirdOfRow : ByteArray := prog_1_method_15_code
def yX10_addBirdOfRow : MethodName := ⟨RX10, "addBirdOfRow", "(I)V"⟩
abbrev cX10_cats : ByteArray := prog_1_method_16_code
def yX10_cats : MethodName := ⟨RX10, "cats", "()I"⟩
abbrev cX10_law : ByteArray := prog_1_method_17_code
def yX10_law : MethodName := ⟨RX10, "law", "()I"⟩
abbrev cX10_orders : ByteArray := prog_1_method_18_code
def yX10_orders : MethodName := ⟨RX10, "orders", "()I"⟩
abbrev cX10_runClause : ByteArray := prog_1_method_19_code
def yX10_runClause : MethodName := ⟨RX10, "runClause", "(LDarkCommittee$Text;I)Z"⟩
abbrev cX10_tellOrders : ByteArray := prog_1_method_20_code
def yX10_tellOrders : MethodName := ⟨RX10, "tellOrders", "()V"⟩
abbrev cX10_fault : ByteArray := prog_1_method_21_code
def yX10_fault : MethodName := ⟨RX10, "fault", "()I"⟩
abbrev cX10_stopped : ByteArray := prog_1_method_22_code
def yX10_stopped : MethodName := ⟨RX10, "stopped", "()I"⟩
abbrev cX10_force : ByteArray := prog_1_method_23_code
def yX10_force : MethodName := ⟨RX10, "force", "(I)I"⟩
abbrev cX10_act : ByteArray := prog_1_method_24_code
def yX10_act : MethodName := ⟨RX10, "act", "(III)I"⟩
abbrev cX10_move : ByteArray := prog_1_method_25_code
def yX10_move : MethodName := ⟨RX10, "move", "(II)I"⟩
abbrev cX10_divide : ByteArray := prog_1_method_26_code
def yX10_divide : MethodName := ⟨RX10, "divide", "(I)I"⟩
abbrev cX10_fly : ByteArray := prog_1_method_27_code
def yX10_fly : MethodName := ⟨RX10, "fly", "(II)I"⟩
abbrev cX10_pass : ByteArray := prog_1_method_28_code
def yX10_pass : MethodName := ⟨RX10, "pass", "()I"⟩
abbrev cX10_undo : ByteArray := prog_1_method_29_code
def yX10_undo : MethodName := ⟨RX10, "undo", "()I"⟩
abbrev cX10_second : ByteArray := prog_1_method_30_code
def yX10_second : MethodName := ⟨RX10, "second", "(II)I"⟩
abbrev cX10_richest : ByteArray := prog_1_method_31_code
def yX10_richest : MethodName := ⟨RX10, "richest", "(I)I"⟩
abbrev cX10_byClock : ByteArray := prog_1_method_32_code
def yX10_byClock : MethodName := ⟨RX10, "byClock", "(I)I"⟩
abbrev cX10_spoilt : ByteArray := prog_1_method_33_code
def yX10_spoilt : MethodName := ⟨RX10, "spoilt", "(II)I"⟩
abbrev cX10_come : ByteArray := prog_1_method_34_code
def yX10_come : MethodName := ⟨RX10, "come", "(II)I"⟩
abbrev cX10_howManyOrWho : ByteArray := prog_1_method_35_code
def yX10_howManyOrWho : MethodName := ⟨RX10, "howManyOrWho", "(II)I"⟩
abbrev cX10_chain : ByteArray := prog_1_method_36_code
def yX10_chain : MethodName := ⟨RX10, "chain", "(III)I"⟩
abbrev cX10_ears : ByteArray := prog_1_method_37_code
def yX10_ears : MethodName := ⟨RX10, "ears", "(I)I"⟩
abbrev cX10_loudest : ByteArray := prog_1_method_38_code
def yX10_loudest : MethodName := ⟨RX10, "loudest", "(I)I"⟩
abbrev cX10_nearest : ByteArray := prog_1_method_39_code
def yX10_nearest : MethodName := ⟨RX10, "nearest", "(II)I"⟩
abbrev cX10_heard : ByteArray := prog_1_method_40_code
def yX10_heard : MethodName := ⟨RX10, "heard", "(I)I"⟩
abbrev cX10_forget : ByteArray := prog_1_method_41_code
def yX10_forget : MethodName := ⟨RX10, "forget", "()I"⟩
abbrev cX10_canBe : ByteArray := prog_1_method_42_code
def yX10_canBe : MethodName := ⟨RX10, "canBe", "()I"⟩
abbrev cX10_listen : ByteArray := prog_1_method_43_code
def yX10_listen : MethodName := ⟨RX10, "listen", "(I)I"⟩
abbrev cX10_few : ByteArray := prog_1_method_44_code
def yX10_few : MethodName := ⟨RX10, "few", "(II)J"⟩
abbrev cX10_compare : ByteArray := prog_1_method_45_code
def yX10_compare : MethodName := ⟨RX10, "compare", "(II)I"⟩
abbrev cX10_mays : ByteArray := prog_1_method_46_code
def yX10_mays : MethodName := ⟨RX10, "mays", "(II)I"⟩
abbrev cX10_drawn : ByteArray := prog_1_method_47_code
def yX10_drawn : MethodName := ⟨RX10, "drawn", "(II)I"⟩
abbrev cX10_image : ByteArray := prog_1_method_48_code
def yX10_image : MethodName := ⟨RX10, "image", "(I)I"⟩
abbrev cX10_back : ByteArray := prog_1_method_49_code
def yX10_back : MethodName := ⟨RX10, "back", "(I)I"⟩
abbrev cX10_count : ByteArray := prog_1_method_50_code
def yX10_count : MethodName := ⟨RX10, "count", "(I)I"⟩
abbrev cX10_status : ByteArray := prog_1_method_51_code
def yX10_status : MethodName := ⟨RX10, "status", "()I"⟩
abbrev cX10_accept : ByteArray := prog_1_method_52_code
def yX10_accept : MethodName := ⟨RX10, "accept", "(I)I"⟩
abbrev cX10_refuse : ByteArray := prog_1_method_53_code
def yX10_refuse : MethodName := ⟨RX10, "refuse", "(I)I"⟩
abbrev cX10_answer : ByteArray := prog_1_method_54_code
def yX10_answer : MethodName := ⟨RX10, "answer", "(I)I"⟩
def RX11 : String := "DarkCommitteeModel"
def TX11 : u_T := fun k => match k with
  | 0 => ("DarkCommitteeModel", "thrown", "I", false)
  | 1 => ("DarkCommitteeModel", "status", "I", false)
  | 2 => ("DarkCommitteeModel", "refusals", "[I", true)
  | 3 => ("DarkCommitteeModel", "row", "[I", true)
  | 4 => ("DarkCommitteeModel", "images", "[I", true)
  | 5 => ("DarkCommitteeModel", "isKept", "[Z", true)
  | 6 => ("DarkCommitteeModel", "undos", "[I", true)
  | 7 => ("DarkCommitteeModel", "sorts", "[I", true)
  | 8 => ("DarkCommitteeModel", "nUndo", "I", false)
  | 9 => ("DarkCommitteeModel", "undosBefore", "[I", true)
  | 10 => ("DarkCommitteeModel", "sortsBefore", "[I", true)
  | 11 => ("DarkCommitteeModel", "cats", "I", false)
  | 12 => ("DarkCommitteeModel", "tape", "[I", true)
  | 13 => ("DarkCommitteeModel", "taped", "I", false)
  | 14 => ("DarkCommitteeModel", "from", "I", false)
  | 15 => ("DarkCommitteeModel", "to", "I", false)
  | 16 => ("DarkCommitteeModel", "sort", "I", false)
  | 17 => ("DarkCommitteeModel", "worth", "J", false)
  | 18 => ("DarkCommitteeModel", "fault", "I", false)
  | 19 => ("DarkCommitteeModel", "bad", "Z", false)
  | 20 => ("DarkCommitteeModel", "ordered", "Z", false)
  | 21 => ("DarkCommitteeModel", "nClauses", "I", false)
  | 22 => ("DarkCommitteeModel", "nClause", "[I", true)
  | 23 => ("DarkCommitteeModel", "nCode", "I", false)
  | 24 => ("DarkCommitteeModel", "nOp", "[I", true)
  | 25 => ("DarkCommitteeModel", "nArg", "[I", true)
  | 26 => ("DarkCommitteeModel", "nLeaves", "I", false)
  | 27 => ("DarkCommitteeModel", "pile", "[I", true)
  | 28 => ("DarkCommitteeModel", "pileAt", "[I", true)
  | 29 => ("DarkCommitteeModel", "piled", "I", false)
  | 30 => ("DarkCommitteeModel", "opened", "I", false)
  | 31 => ("DarkCommitteeModel", "words", "[J", true)
  | 32 => ("DarkCommitteeModel", "orderWords", "[J", true)
  | 33 => ("DarkCommitteeModel", "heads", "[J", true)
  | 34 => ("DarkCommitteeModel", "law", "I", false)
  | 35 => ("DarkCommitteeModel", "set", "[J", true)
  | 36 => ("DarkCommitteeModel", "now", "[J", true)
  | 37 => ("DarkCommitteeModel", "rest", "[J", true)
  | 38 => ("DarkCommitteeModel", "broken", "Z", false)
  | 39 => ("DarkCommitteeModel", "value", "J", false)
  | 40 => ("DarkCommitteeModel", "sum", "J", false)
  | 41 => ("DarkCommitteeModel", "tried", "[I", true)
  | 42 => ("DarkCommitteeModel", "clocks", "[I", true)
  | 43 => ("DarkCommitteeModel", "worths", "[I", true)
  | 44 => ("DarkCommitteeModel", "best", "[I", true)
  | 45 => ("DarkCommitteeModel", "bestLength", "I", false)
  | 46 => ("DarkCommitteeModel", "left1", "[I", true)
  | 47 => ("DarkCommitteeModel", "parts", "[J", true)
  | 48 => ("DarkCommitteeModel", "acts", "[J", true)
  | 49 => ("DarkCommitteeModel", "nOrder", "[I", true)
  | 50 => ("DarkCommitteeModel", "done", "I", false)
  | 51 => ("DarkCommitteeModel", "latest", "I", false)
  | 52 => ("DarkCommitteeModel", "stopped", "I", false)
  | 53 => ("DarkCommitteeModel", "off", "Z", false)
  | 54 => ("DarkCommitteeModel", "state", "J", false)
  | 55 => ("DarkCommitteeModel", "drawn", "[I", true)
  | 56 => ("DarkCommitteeModel", "drawnBirds", "I", false)
  | _ => ("DarkCommitteeModel", "drawnMatters", "I", false)
def tyX11 : Nat → FieldType := fun k => match k with
  | 0 => .int
  | 1 => .int
  | 2 => .array .int
  | 3 => .array .int
  | 4 => .array .int
  | 5 => .array .boolean
  | 6 => .array .int
  | 7 => .array .int
  | 8 => .int
  | 9 => .array .int
  | 10 => .array .int
  | 11 => .int
  | 12 => .array .int
  | 13 => .int
  | 14 => .int
  | 15 => .int
  | 16 => .int
  | 17 => .long
  | 18 => .int
  | 19 => .boolean
  | 20 => .boolean
  | 21 => .int
  | 22 => .array .int
  | 23 => .int
  | 24 => .array .int
  | 25 => .array .int
  | 26 => .int
  | 27 => .array .int
  | 28 => .array .int
  | 29 => .int
  | 30 => .int
  | 31 => .array .long
  | 32 => .array .long
  | 33 => .array .long
  | 34 => .int
  | 35 => .array .long
  | 36 => .array .long
  | 37 => .array .long
  | 38 => .boolean
  | 39 => .long
  | 40 => .long
  | 41 => .array .int
  | 42 => .array .int
  | 43 => .array .int
  | 44 => .array .int
  | 45 => .int
  | 46 => .array .int
  | 47 => .array .long
  | 48 => .array .long
  | 49 => .array .int
  | 50 => .int
  | 51 => .int
  | 52 => .int
  | 53 => .boolean
  | 54 => .long
  | 55 => .array .int
  | 56 => .int
  | _ => .int
theorem nmX11 : ∀ a, a < 58 → ∀ b, b < 58 → a ≠ b → (TX11 a).2.1 ≠ (TX11 b).2.1 := by decide +kernel
theorem tyX11_ok : ∀ k, k < 58 → parseFieldDescriptor (TX11 k).2.2.1 = some (tyX11 k) := by decide +kernel
abbrev cX11_init : ByteArray := prog_13_method_1_code
def yX11_init : MethodName := ⟨RX11, "<init>", "()V"⟩
abbrev cX11_in : ByteArray := prog_13_method_3_code
def yX11_in : MethodName := ⟨RX11, "in", "(JJJ)Z"⟩
abbrev cX11_is : ByteArray := prog_13_method_4_code
def yX11_is : MethodName := ⟨RX11, "is", "(II)Z"⟩
abbrev cX11_ones : ByteArray := prog_13_method_5_code
def yX11_ones : MethodName := ⟨RX11, "ones", "(I)I"⟩
abbrev cX11_bounded : ByteArray := prog_13_method_6_code
def yX11_bounded : MethodName := ⟨RX11, "bounded", "(JII)I"⟩
abbrev cX11_tell : ByteArray := prog_13_method_7_code
def yX11_tell : MethodName := ⟨RX11, "tell", "(I)I"⟩
abbrev cX11_change : ByteArray := prog_13_method_8_code
def yX11_change : MethodName := ⟨RX11, "change", "(II)I"⟩
abbrev cX11_lasting : ByteArray := prog_13_method_9_code
def yX11_lasting : MethodName := ⟨RX11, "lasting", "(I)I"⟩
abbrev cX11_keepAll : ByteArray := prog_13_method_10_code
def yX11_keepAll : MethodName := ⟨RX11, "keepAll", "(I)V"⟩
abbrev cX11_putBack : ByteArray := prog_13_method_11_code
def yX11_putBack : MethodName := ⟨RX11, "putBack", "(I)V"⟩
abbrev cX11_remember : ByteArray := prog_13_method_12_code
def yX11_remember : MethodName := ⟨RX11, "remember", "(I)V"⟩
abbrev cX11_undo : ByteArray := prog_13_method_13_code
def yX11_undo : MethodName := ⟨RX11, "undo", "()I"⟩
abbrev cX11_image : ByteArray := prog_13_method_14_code
def yX11_image : MethodName := ⟨RX11, "image", "(I)I"⟩
abbrev cX11_back : ByteArray := prog_13_method_15_code
def yX11_back : MethodName := ⟨RX11, "back", "(I)I"⟩
abbrev cX11_isBird : ByteArray := prog_13_method_16_code
def yX11_isBird : MethodName := ⟨RX11, "isBird", "(I)Z"⟩
abbrev cX11_isMatter : ByteArray := prog_13_method_17_code
def yX11_isMatter : MethodName := ⟨RX11, "isMatter", "(I)Z"⟩
abbrev cX11_isTree : ByteArray := prog_13_method_18_code
def yX11_isTree : MethodName := ⟨RX11, "isTree", "(I)Z"⟩
abbrev cX11_isAway : ByteArray := prog_13_method_19_code
def yX11_isAway : MethodName := ⟨RX11, "isAway", "(I)Z"⟩
abbrev cX11_present : ByteArray := prog_13_method_20_code
def yX11_present : MethodName := ⟨RX11, "present", "()I"⟩
abbrev cX11_hears : ByteArray := prog_13_method_21_code
def yX11_hears : MethodName := ⟨RX11, "hears", "(II)Z"⟩
abbrev cX11_comes : ByteArray := prog_13_method_22_code
def yX11_comes : MethodName := ⟨RX11, "comes", "(II)I"⟩
abbrev cX11_bird : ByteArray := prog_13_method_23_code
def yX11_bird : MethodName := ⟨RX11, "bird", "(II)I"⟩
abbrev cX11_favour : ByteArray := prog_13_method_24_code
def yX11_favour : MethodName := ⟨RX11, "favour", "(III)I"⟩
abbrev cX11_hearsAll : ByteArray := prog_13_method_25_code
def yX11_hearsAll : MethodName := ⟨RX11, "hearsAll", "(I)I"⟩
abbrev cX11_of : ByteArray := prog_13_method_26_code
def yX11_of : MethodName := ⟨RX11, "of", "(II)I"⟩
abbrev cX11_matter : ByteArray := prog_13_method_27_code
def yX11_matter : MethodName := ⟨RX11, "matter", "(II)I"⟩
abbrev cX11_at : ByteArray := prog_13_method_28_code
def yX11_at : MethodName := ⟨RX11, "at", "(II)I"⟩
abbrev cX11_terms : ByteArray := prog_13_method_29_code
def yX11_terms : MethodName := ⟨RX11, "terms", "(II)I"⟩
abbrev cX11_isRow : ByteArray := prog_13_method_30_code
def yX11_isRow : MethodName := ⟨RX11, "isRow", "(II)Z"⟩
abbrev cX11_row : ByteArray := prog_13_method_31_code
def yX11_row : MethodName := ⟨RX11, "row", "()I"⟩
abbrev cX11_cats : ByteArray := prog_13_method_32_code
def yX11_cats : MethodName := ⟨RX11, "cats", "()I"⟩
abbrev cX11_four : ByteArray := prog_13_method_33_code
def yX11_four : MethodName := ⟨RX11, "four", "(I)V"⟩
abbrev cX11_feed : ByteArray := prog_13_method_34_code
def yX11_feed : MethodName := ⟨RX11, "feed", "(IIIII)I"⟩
abbrev cX11_end : ByteArray := prog_13_method_35_code
def yX11_end : MethodName := ⟨RX11, "end", "(I)I"⟩
abbrev cX11_isSmall : ByteArray := prog_13_method_36_code
def yX11_isSmall : MethodName := ⟨RX11, "isSmall", "(I)Z"⟩
abbrev cX11_isDigit : ByteArray := prog_13_method_37_code
def yX11_isDigit : MethodName := ⟨RX11, "isDigit", "(I)Z"⟩
abbrev cX11_begin : ByteArray := prog_13_method_38_code
def yX11_begin : MethodName := ⟨RX11, "begin", "()V"⟩
abbrev cX11_next : ByteArray := prog_13_method_39_code
def yX11_next : MethodName := ⟨RX11, "next", "()V"⟩
abbrev cX11_isWord : ByteArray := prog_13_method_40_code
def yX11_isWord : MethodName := ⟨RX11, "isWord", "(J)Z"⟩
abbrev cX11_isSign : ByteArray := prog_13_method_41_code
def yX11_isSign : MethodName := ⟨RX11, "isSign", "(I)Z"⟩
abbrev cX11_must : ByteArray := prog_13_method_42_code
def yX11_must : MethodName := ⟨RX11, "must", "(Z)V"⟩
abbrev cX11_number : ByteArray := prog_13_method_43_code
def yX11_number : MethodName := ⟨RX11, "number", "(JJ)I"⟩
abbrev cX11_fault : ByteArray := prog_13_method_44_code
def yX11_fault : MethodName := ⟨RX11, "fault", "()I"⟩
abbrev cX11_emit : ByteArray := prog_13_method_45_code
def yX11_emit : MethodName := ⟨RX11, "emit", "(II)V"⟩
abbrev cX11_push : ByteArray := prog_13_method_46_code
def yX11_push : MethodName := ⟨RX11, "push", "(II)V"⟩
abbrev cX11_binds : ByteArray := prog_13_method_47_code
def yX11_binds : MethodName := ⟨RX11, "binds", "(I)I"⟩
abbrev cX11_settle : ByteArray := prog_13_method_48_code
def yX11_settle : MethodName := ⟨RX11, "settle", "(I)V"⟩
abbrev cX11_inner : ByteArray := prog_13_method_49_code
def yX11_inner : MethodName := ⟨RX11, "inner", "()I"⟩
abbrev cX11_isCompared : ByteArray := prog_13_method_50_code
def yX11_isCompared : MethodName := ⟨RX11, "isCompared", "()Z"⟩
abbrev cX11_partAt : ByteArray := prog_13_method_51_code
def yX11_partAt : MethodName := ⟨RX11, "partAt", "()I"⟩
abbrev cX11_orderPartAt : ByteArray := prog_13_method_52_code
def yX11_orderPartAt : MethodName := ⟨RX11, "orderPartAt", "()I"⟩
abbrev cX11_openBracket : ByteArray := prog_13_method_53_code
def yX11_openBracket : MethodName := ⟨RX11, "openBracket", "(I)V"⟩
abbrev cX11_leaf : ByteArray := prog_13_method_54_code
def yX11_leaf : MethodName := ⟨RX11, "leaf", "(ZII)V"⟩
abbrev cX11_readPart : ByteArray := prog_13_method_55_code
def yX11_readPart : MethodName := ⟨RX11, "readPart", "()I"⟩
abbrev cX11_readPlain : ByteArray := prog_13_method_56_code
def yX11_readPlain : MethodName := ⟨RX11, "readPlain", "()I"⟩
abbrev cX11_behindSum : ByteArray := prog_13_method_57_code
def yX11_behindSum : MethodName := ⟨RX11, "behindSum", "(Z)I"⟩
abbrev cX11_behindTest : ByteArray := prog_13_method_58_code
def yX11_behindTest : MethodName := ⟨RX11, "behindTest", "()I"⟩
abbrev cX11_readExpression : ByteArray := prog_13_method_59_code
def yX11_readExpression : MethodName := ⟨RX11, "readExpression", "(Z)V"⟩
abbrev cX11_beginText : ByteArray := prog_13_method_60_code
def yX11_beginText : MethodName := ⟨RX11, "beginText", "(Z)V"⟩
abbrev cX11_endText : ByteArray := prog_13_method_61_code
def yX11_endText : MethodName := ⟨RX11, "endText", "()V"⟩
abbrev cX11_readLaw : ByteArray := prog_13_method_62_code
def yX11_readLaw : MethodName := ⟨RX11, "readLaw", "()V"⟩
abbrev cX11_law : ByteArray := prog_13_method_63_code
def yX11_law : MethodName := ⟨RX11, "law", "()I"⟩
abbrev cX11_isLaw : ByteArray := prog_13_method_64_code
def yX11_isLaw : MethodName := ⟨RX11, "isLaw", "(I)Z"⟩
abbrev cX11_force : ByteArray := prog_13_method_65_code
def yX11_force : MethodName := ⟨RX11, "force", "(I)I"⟩
abbrev cX11_reckon : ByteArray := prog_13_method_66_code
def yX11_reckon : MethodName := ⟨RX11, "reckon", "(IJJ)J"⟩
abbrev cX11_reckonAll : ByteArray := prog_13_method_67_code
def yX11_reckonAll : MethodName := ⟨RX11, "reckonAll", "(II)V"⟩
abbrev cX11_isSo : ByteArray := prog_13_method_68_code
def yX11_isSo : MethodName := ⟨RX11, "isSo", "(I)Z"⟩
abbrev cX11_tells : ByteArray := prog_13_method_69_code
def yX11_tells : MethodName := ⟨RX11, "tells", "(IIIJ)J"⟩
abbrev cX11_swayOf : ByteArray := prog_13_method_70_code
def yX11_swayOf : MethodName := ⟨RX11, "swayOf", "(II)I"⟩
abbrev cX11_takesOf : ByteArray := prog_13_method_71_code
def yX11_takesOf : MethodName := ⟨RX11, "takesOf", "(I)I"⟩
abbrev cX11_sits : ByteArray := prog_13_method_72_code
def yX11_sits : MethodName := ⟨RX11, "sits", "(II)Z"⟩
abbrev cX11_isAye : ByteArray := prog_13_method_73_code
def yX11_isAye : MethodName := ⟨RX11, "isAye", "(II)Z"⟩
abbrev cX11_sitting : ByteArray := prog_13_method_74_code
def yX11_sitting : MethodName := ⟨RX11, "sitting", "(I)I"⟩
abbrev cX11_ayes : ByteArray := prog_13_method_75_code
def yX11_ayes : MethodName := ⟨RX11, "ayes", "(I)I"⟩
abbrev cX11_carries : ByteArray := prog_13_method_76_code
def yX11_carries : MethodName := ⟨RX11, "carries", "(II)Z"⟩
abbrev cX11_seconder : ByteArray := prog_13_method_77_code
def yX11_seconder : MethodName := ⟨RX11, "seconder", "(II)I"⟩
abbrev cX11_canDivide : ByteArray := prog_13_method_78_code
def yX11_canDivide : MethodName := ⟨RX11, "canDivide", "(I)Z"⟩
abbrev cX11_divideIt : ByteArray := prog_13_method_79_code
def yX11_divideIt : MethodName := ⟨RX11, "divideIt", "(I)V"⟩
abbrev cX11_canMove : ByteArray := prog_13_method_80_code
def yX11_canMove : MethodName := ⟨RX11, "canMove", "(II)Z"⟩
abbrev cX11_moveNow : ByteArray := prog_13_method_81_code
def yX11_moveNow : MethodName := ⟨RX11, "moveNow", "(II)I"⟩
abbrev cX11_move : ByteArray := prog_13_method_82_code
def yX11_move : MethodName := ⟨RX11, "move", "(II)I"⟩
abbrev cX11_divideNow : ByteArray := prog_13_method_83_code
def yX11_divideNow : MethodName := ⟨RX11, "divideNow", "(I)I"⟩
abbrev cX11_divide : ByteArray := prog_13_method_84_code
def yX11_divide : MethodName := ⟨RX11, "divide", "(I)I"⟩
abbrev cX11_flyNow : ByteArray := prog_13_method_85_code
def yX11_flyNow : MethodName := ⟨RX11, "flyNow", "(II)I"⟩
abbrev cX11_fly : ByteArray := prog_13_method_86_code
def yX11_fly : MethodName := ⟨RX11, "fly", "(II)I"⟩
abbrev cX11_passIt : ByteArray := prog_13_method_87_code
def yX11_passIt : MethodName := ⟨RX11, "passIt", "()I"⟩
abbrev cX11_passNow : ByteArray := prog_13_method_88_code
def yX11_passNow : MethodName := ⟨RX11, "passNow", "()I"⟩
abbrev cX11_pass : ByteArray := prog_13_method_89_code
def yX11_pass : MethodName := ⟨RX11, "pass", "()I"⟩
abbrev cX11_second : ByteArray := prog_13_method_90_code
def yX11_second : MethodName := ⟨RX11, "second", "(II)I"⟩
abbrev cX11_isNew : ByteArray := prog_13_method_91_code
def yX11_isNew : MethodName := ⟨RX11, "isNew", "(I)Z"⟩
abbrev cX11_findRichest : ByteArray := prog_13_method_92_code
def yX11_findRichest : MethodName := ⟨RX11, "findRichest", "()I"⟩
abbrev cX11_richest : ByteArray := prog_13_method_93_code
def yX11_richest : MethodName := ⟨RX11, "richest", "(I)I"⟩
abbrev cX11_byClock : ByteArray := prog_13_method_94_code
def yX11_byClock : MethodName := ⟨RX11, "byClock", "(I)I"⟩
abbrev cX11_spoilt : ByteArray := prog_13_method_95_code
def yX11_spoilt : MethodName := ⟨RX11, "spoilt", "(II)I"⟩
abbrev cX11_come : ByteArray := prog_13_method_96_code
def yX11_come : MethodName := ⟨RX11, "come", "(II)I"⟩
abbrev cX11_layLeft : ByteArray := prog_13_method_97_code
def yX11_layLeft : MethodName := ⟨RX11, "layLeft", "(I)V"⟩
abbrev cX11_chain : ByteArray := prog_13_method_98_code
def yX11_chain : MethodName := ⟨RX11, "chain", "(III)I"⟩
abbrev cX11_hearAll : ByteArray := prog_13_method_99_code
def yX11_hearAll : MethodName := ⟨RX11, "hearAll", "(I)Z"⟩
abbrev cX11_ears : ByteArray := prog_13_method_100_code
def yX11_ears : MethodName := ⟨RX11, "ears", "(I)I"⟩
abbrev cX11_heardBy : ByteArray := prog_13_method_101_code
def yX11_heardBy : MethodName := ⟨RX11, "heardBy", "(I)I"⟩
abbrev cX11_loudest : ByteArray := prog_13_method_102_code
def yX11_loudest : MethodName := ⟨RX11, "loudest", "(I)I"⟩
abbrev cX11_nearest : ByteArray := prog_13_method_103_code
def yX11_nearest : MethodName := ⟨RX11, "nearest", "(II)I"⟩
abbrev cX11_heard : ByteArray := prog_13_method_104_code
def yX11_heard : MethodName := ⟨RX11, "heard", "(I)I"⟩
abbrev cX11_forget : ByteArray := prog_13_method_105_code
def yX11_forget : MethodName := ⟨RX11, "forget", "()I"⟩
abbrev cX11_thatCanBe : ByteArray := prog_13_method_106_code
def yX11_thatCanBe : MethodName := ⟨RX11, "thatCanBe", "()I"⟩
abbrev cX11_canBe : ByteArray := prog_13_method_107_code
def yX11_canBe : MethodName := ⟨RX11, "canBe", "()I"⟩
abbrev cX11_listen : ByteArray := prog_13_method_108_code
def yX11_listen : MethodName := ⟨RX11, "listen", "(I)I"⟩
abbrev cX11_few : ByteArray := prog_13_method_109_code
def yX11_few : MethodName := ⟨RX11, "few", "(II)J"⟩
abbrev cX11_compare : ByteArray := prog_13_method_110_code
def yX11_compare : MethodName := ⟨RX11, "compare", "(II)I"⟩
abbrev cX11_readSum : ByteArray := prog_13_method_111_code
def yX11_readSum : MethodName := ⟨RX11, "readSum", "(I)V"⟩
abbrev cX11_readOrder : ByteArray := prog_13_method_112_code
def yX11_readOrder : MethodName := ⟨RX11, "readOrder", "()V"⟩
abbrev cX11_sumOf : ByteArray := prog_13_method_113_code
def yX11_sumOf : MethodName := ⟨RX11, "sumOf", "(I)I"⟩
abbrev cX11_act : ByteArray := prog_13_method_114_code
def yX11_act : MethodName := ⟨RX11, "act", "(III)I"⟩
abbrev cX11_run : ByteArray := prog_13_method_115_code
def yX11_run : MethodName := ⟨RX11, "run", "(I)I"⟩
abbrev cX11_orders : ByteArray := prog_13_method_116_code
def yX11_orders : MethodName := ⟨RX11, "orders", "()I"⟩
abbrev cX11_giveBack : ByteArray := prog_13_method_117_code
def yX11_giveBack : MethodName := ⟨RX11, "giveBack", "(I)V"⟩
abbrev cX11_stopped : ByteArray := prog_13_method_118_code
def yX11_stopped : MethodName := ⟨RX11, "stopped", "()I"⟩
abbrev cX11_draw : ByteArray := prog_13_method_119_code
def yX11_draw : MethodName := ⟨RX11, "draw", "(I)I"⟩
abbrev cX11_mays : ByteArray := prog_13_method_120_code
def yX11_mays : MethodName := ⟨RX11, "mays", "(II)I"⟩
abbrev cX11_drawn : ByteArray := prog_13_method_121_code
def yX11_drawn : MethodName := ⟨RX11, "drawn", "(II)I"⟩
abbrev cX11_count : ByteArray := prog_13_method_122_code
def yX11_count : MethodName := ⟨RX11, "count", "(I)I"⟩
abbrev cX11_status : ByteArray := prog_13_method_123_code
def yX11_status : MethodName := ⟨RX11, "status", "()I"⟩
def RJ6 : String := "java/lang/Integer"
def TJ6 : u_T := fun k => match k with
  | _ => ("", "", "", false)
def tyJ6 : Nat → FieldType := fun k => match k with
  | _ => .int
theorem nmJ6 : ∀ a, a < 0 → ∀ b, b < 0 → a ≠ b → (TJ6 a).2.1 ≠ (TJ6 b).2.1 := by decide +kernel
theorem tyJ6_ok : ∀ k, k < 0 → parseFieldDescriptor (TJ6 k).2.2.1 = some (tyJ6 k) := by decide +kernel
abbrev cJ6_bitCount_0f7a4 : ByteArray := prog_14_method_49_code
def yJ6_bitCount_0f7a4 : MethodName := ⟨RJ6, "bitCount", "(I)I"⟩
def RJ9 : String := "java/lang/Math"
def TJ9 : u_T := fun k => match k with
  | _ => ("", "", "", false)
def tyJ9 : Nat → FieldType := fun k => match k with
  | _ => .int
theorem nmJ9 : ∀ a, a < 0 → ∀ b, b < 0 → a ≠ b → (TJ9 a).2.1 ≠ (TJ9 b).2.1 := by decide +kernel
theorem tyJ9_ok : ∀ k, k < 0 → parseFieldDescriptor (TJ9 k).2.2.1 = some (tyJ9 k) := by decide +kernel
abbrev cJ9_abs_0f7a4 : ByteArray := prog_15_method_59_code
def yJ9_abs_0f7a4 : MethodName := ⟨RJ9, "abs", "(I)I"⟩
abbrev cJ9_max_7cf53 : ByteArray := prog_15_method_65_code
def yJ9_max_7cf53 : MethodName := ⟨RJ9, "max", "(II)I"⟩
abbrev cJ9_min_7cf53 : ByteArray := prog_15_method_69_code
def yJ9_min_7cf53 : MethodName := ⟨RJ9, "min", "(II)I"⟩
def RJ0 : String := "java/lang/String"
def TJ0 : u_T := fun k => match k with
  | _ => ("", "", "", false)
def tyJ0 : Nat → FieldType := fun k => match k with
  | _ => .int
theorem nmJ0 : ∀ a, a < 0 → ∀ b, b < 0 → a ≠ b → (TJ0 a).2.1 ≠ (TJ0 b).2.1 := by decide +kernel
theorem tyJ0_ok : ∀ k, k < 0 → parseFieldDescriptor (TJ0 k).2.2.1 = some (tyJ0 k) := by decide +kernel
abbrev cJ0_length_8abf5 : ByteArray := prog_16_method_54_code
def yJ0_length_8abf5 : MethodName := ⟨RJ0, "length", "()I"⟩
abbrev cJ0_charAt_5068e : ByteArray := prog_16_method_56_code
def yJ0_charAt_5068e : MethodName := ⟨RJ0, "charAt", "(I)C"⟩
abbrev cJ0_coder_7d493 : ByteArray := prog_16_method_152_code
def yJ0_coder_7d493 : MethodName := ⟨RJ0, "coder", "()B"⟩
abbrev cJ0_isLatin1_aae02 : ByteArray := prog_16_method_154_code
def yJ0_isLatin1_aae02 : MethodName := ⟨RJ0, "isLatin1", "()Z"⟩
abbrev cJ0_checkIndex_df160 : ByteArray := prog_16_method_155_code
def yJ0_checkIndex_df160 : MethodName := ⟨RJ0, "checkIndex", "(II)V"⟩
def RJ1 : String := "java/lang/StringLatin1"
def TJ1 : u_T := fun k => match k with
  | _ => ("", "", "", false)
def tyJ1 : Nat → FieldType := fun k => match k with
  | _ => .int
theorem nmJ1 : ∀ a, a < 0 → ∀ b, b < 0 → a ≠ b → (TJ1 a).2.1 ≠ (TJ1 b).2.1 := by decide +kernel
theorem tyJ1_ok : ∀ k, k < 0 → parseFieldDescriptor (TJ1 k).2.2.1 = some (tyJ1 k) := by decide +kernel
abbrev cJ1_charAt_3b067 : ByteArray := prog_17_method_2_code
def yJ1_charAt_3b067 : MethodName := ⟨RJ1, "charAt", "([BI)C"⟩
def RJ2 : String := "java/lang/StringUTF16"
def TJ2 : u_T := fun k => match k with
  | _ => ("", "", "", false)
def tyJ2 : Nat → FieldType := fun k => match k with
  | _ => .int
theorem nmJ2 : ∀ a, a < 0 → ∀ b, b < 0 → a ≠ b → (TJ2 a).2.1 ≠ (TJ2 b).2.1 := by decide +kernel
theorem tyJ2_ok : ∀ k, k < 0 → parseFieldDescriptor (TJ2 k).2.2.1 = some (tyJ2 k) := by decide +kernel
abbrev cJ2_getChar_3b067 : ByteArray := prog_18_method_5_code
def yJ2_getChar_3b067 : MethodName := ⟨RJ2, "getChar", "([BI)C"⟩
abbrev cJ2_length_9d52b : ByteArray := prog_18_method_6_code
def yJ2_length_9d52b : MethodName := ⟨RJ2, "length", "([B)I"⟩
abbrev cJ2_charAt_3b067 : ByteArray := prog_18_method_83_code
def yJ2_charAt_3b067 : MethodName := ⟨RJ2, "charAt", "([BI)C"⟩
abbrev cJ2_checkIndex_2214a : ByteArray := prog_18_method_91_code
def yJ2_checkIndex_2214a : MethodName := ⟨RJ2, "checkIndex", "(I[B)V"⟩
def RJ10 : String := "java/lang/System"
def TJ10 : u_T := fun k => match k with
  | _ => ("", "", "", false)
def tyJ10 : Nat → FieldType := fun k => match k with
  | _ => .int
theorem nmJ10 : ∀ a, a < 0 → ∀ b, b < 0 → a ≠ b → (TJ10 a).2.1 ≠ (TJ10 b).2.1 := by decide +kernel
theorem tyJ10_ok : ∀ k, k < 0 → parseFieldDescriptor (TJ10 k).2.2.1 = some (tyJ10 k) := by decide +kernel
def RJ3 : String := "jdk/internal/util/Preconditions"
def TJ3 : u_T := fun k => match k with
  | _ => ("", "", "", false)
def tyJ3 : Nat → FieldType := fun k => match k with
  | _ => .int
theorem nmJ3 : ∀ a, a < 0 → ∀ b, b < 0 → a ≠ b → (TJ3 a).2.1 ≠ (TJ3 b).2.1 := by decide +kernel
theorem tyJ3_ok : ∀ k, k < 0 → parseFieldDescriptor (TJ3 k).2.2.1 = some (tyJ3 k) := by decide +kernel
abbrev cJ3_checkIndex_8e157 : ByteArray := prog_20_method_11_code
def yJ3_checkIndex_8e157 : MethodName := ⟨RJ3, "checkIndex", "(IILjava/util/function/BiFunction;)I"⟩
def RL : String := "DarkCommitteeLaw"
abbrev cL_law : ByteArray := code
def yL_law : MethodName := ⟨RL, "law", "([I)Z"⟩
abbrev vwCl : List vw_C := [(RX0, TX0, 7), (RX1, TX1, 6), (RX2, TX2, 4), (RX3, TX3, 5), (RX4, TX4, 3), (RX5, TX5, 4), (RX6, TX6, 17), (RX7, TX7, 4), (RX8, TX8, 4), (RX9, TX9, 4), (RX10, TX10, 20), (RX11, TX11, 58)]
def cTy : Nat → Nat → FieldType := fun c => match c with
  | 0 => tyX0
  | 1 => tyX1
  | 2 => tyX2
  | 3 => tyX3
  | 4 => tyX4
  | 5 => tyX5
  | 6 => tyX6
  | 7 => tyX7
  | 8 => tyX8
  | 9 => tyX9
  | 10 => tyX10
  | _ => tyX11
def cN : Nat → Nat := fun c => match c with
  | 0 => 7
  | 1 => 6
  | 2 => 4
  | 3 => 5
  | 4 => 3
  | 5 => 4
  | 6 => 17
  | 7 => 4
  | 8 => 4
  | 9 => 4
  | 10 => 20
  | _ => 58
end
section
/-! THE ABSTRACT MACHINE: places instead of addresses. A heap: the kinds of its places (0: an object of a class; 1: ints; 2: longs; 3: booleans; 4, 5: references), what they hold of ints, longs, references -/
def TT : List Cond := lw_tbl.filter goodWord
theorem tt_of {w : Cond} (i : Nat) (h : lw_tbl[i]? = some w) (g : goodWord w = true) : w ∈ TT := List.mem_filter.mpr ⟨List.mem_of_getElem? h, g⟩
theorem tt_good : ∀ w ∈ TT, goodWord w = true := fun _ h => (List.mem_filter.mp h).2
theorem tt_in : ∀ w ∈ TT, w ∈ lw_tbl := fun _ h => (List.mem_filter.mp h).1
abbrev AH : Type := List (Nat × Nat) × (Nat → Nat → Int32) × (Nat → Nat → Int64) × (Nat → Nat → Option Nat)
abbrev SH : Type := List (Nat × Nat) × (Nat → Option (Nat → Option Nat))
abbrev BB : Type := Nat × Nat × (Nat → Nat)
abbrev GG : Type := va_G × (Nat → ClassId) × (Nat → Nat) × (Nat → Nat)
abbrev MD : Type := MethodName × ByteArray × Nat × Option FieldType × (State → BB → Prop)
def KD (S : SH) (h : AH) (p : Nat) : Option (Nat × Nat) := (S.1 ++ h.1)[p]?
def RF (S : SH) (h : AH) (p k : Nat) : Option Nat := match S.2 p with
  | some f => f k
  | none => h.2.2.2 p k
def rfv (r : Option Nat) : Value := match r with
  | some p => .ref p
  | none => .null
def rn (B : BB) (v : Value) : Value := match v with
  | .ref p => .ref (B.1 + p)
  | .double _ => .ref B.2.1
  | .retAddr n => .ref (B.2.2 n)
  | v => v
def avl (S : SH) (h : AH) (p k : Nat) (ty : FieldType) : Value := match ty with
  | .long => .long (h.2.2.1 p k)
  | .object _ => rfv (RF S h p k)
  | .array _ => rfv (RF S h p k)
  | _ => .int (h.2.1 p k)
def u2 {α : Type} (f : Nat → Nat → α) (p k : Nat) (v : α) : Nat → Nat → α := fun q j => if q = p ∧ j = k then v else f q j
def stI (h : AH) (p k : Nat) (v : Int32) : AH := (h.1, u2 h.2.1 p k v, h.2.2.1, h.2.2.2)
def stJ (h : AH) (p k : Nat) (v : Int64) : AH := (h.1, h.2.1, u2 h.2.2.1 p k v, h.2.2.2)
def stR (h : AH) (p k : Nat) (v : Option Nat) : AH := (h.1, h.2.1, h.2.2.1, u2 h.2.2.2 p k v)
theorem u2_s {α : Type} (f : Nat → Nat → α) (p k : Nat) (v : α) : u2 f p k v p k = v := by simp [u2]
theorem u2_p {α : Type} (f : Nat → Nat → α) {p q : Nat} (k j : Nat) (v : α) (h : q ≠ p) : u2 f p k v q j = f q j := by simp [u2, h]
theorem u2_k {α : Type} (f : Nat → Nat → α) (p q : Nat) {k j : Nat} (v : α) (h : j ≠ k) : u2 f p k v q j = f q j := by simp [u2, h]
theorem u2_row {α : Type} (f : Nat → Nat → α) {p q : Nat} (k : Nat) (v : α) (h : q ≠ p) : u2 f p k v q = f q := by funext j; simp [u2, h]
theorem rn_rfv (B : BB) (r : Option Nat) : rn B (rfv r) = va_rf (r.map (B.1 + ·)) := by cases r <;> rfl
def vcell (S : SH) (G : GG) (B : BB) (h : AH) (p : Nat) (kk : Nat × Nat) : va_E := match kk.1 with
  | 0 => .inr (kk.2, (List.range (cN kk.2)).map (fun k => rn B (avl S h p k (cTy kk.2 k))))
  | 1 => .inl (G.2.1 0, kk.2, .inl (h.2.1 p))
  | 2 => .inl (G.2.1 1, kk.2, .inr (.inl (h.2.2.1 p)))
  | 3 => .inl (G.2.1 2, kk.2, .inl (h.2.1 p))
  | 4 => .inl (G.2.1 3, kk.2, .inr (.inr (.inr (.inr (fun j => (RF S h p j).map (B.1 + ·))))))
  | _ => .inl (G.2.1 4, kk.2, .inr (.inr (.inr (.inr (fun j => (RF S h p j).map (B.1 + ·))))))
def tysOf (G : GG) : List (ClassId × FieldType) := [(G.2.1 0, .int), (G.2.1 1, .long), (G.2.1 2, .boolean), (G.2.1 3, .object RX6), (G.2.1 4, .object RX8)]
def Wd (S : SH) (G : GG) (B : BB) (h : AH) (H : Heap) : Prop := H.size = B.1 + (S.1 ++ h.1).length ∧ ∀ (p : Nat) (kk : Nat × Nat), KD S h p = some kk → va_at G.1 vwCl (B.1 + p, vcell S G B h p kk) H
def strTx : String := "or and not if times by to sways takes bars move divide fly pass bird tree favour matter clauses rich clock night mood done latest present stands "
def strBy : List Int32 := strTx.toList.map fun ch => (Int32.ofNat ch.toNat)
/-- the private constructors that another class of the nest calls -/
def nestL : List (String × Nat × MethodName × String) := [(RX10, 15, yX6_init, RX10), (RX6, 11, yX7_init, RX10), (RX10, 26, yX5_init, RX10), (RX10, 36, yX7_init, RX10), (RX10, 46, yX2_init, RX10), (RX2, 11, yX7_init, RX10), (RX10, 53, yX4_init, RX10), (RX0, 11, yX7_init, RX10), (RX10, 78, yX3_init, RX10), (RX3, 11, yX9_init, RX10)]
/-- what stands of the JDK's own cells: the text constant, String's and Preconditions' statics; links of the nest; classes of reference arrays -/
def SX (G : GG) (B : BB) (U : State) : Prop := vk_S 1 [strBy.length] [strBy] G.2.2.1 G.2.2.2 (fun q => B.1 ≤ q) U U.heap ∧ vk_R RX9 46 strTx (G.2.2.1 0) U ∧ va_Z "java/lang/String" "COMPACT_STRINGS" "Z" (.int 1) (fun q => B.1 ≤ q) U U.heap ∧ (∀ q ∈ nestL, va_Nw (.methodLinkNest q.1 q.2.1 q.2.2.1 q.2.2.2) U) ∧ va_AO RX6 U ∧ va_AO RX8 U ∧ G.2.2.1 0 = B.2.2 0 ∧ G.2.2.2 0 = B.2.2 1 ∧ va_Z "jdk/internal/util/Preconditions" "SIOOBE_FORMATTER" "Ljava/util/function/BiFunction;" (.ref (B.2.2 2)) (fun q => B.1 ≤ q) U U.heap
theorem SX.to {G : GG} {B : BB} {s U : State} (h : SX G B s) (hW : s.WarmedH U.vm) (hq : ∀ a : Nat, a < s.heap.size → ¬ B.1 ≤ a → U.heap[a]? = s.heap[a]?) : SX G B U :=
  ⟨(h.1.kept hq).moved hW.alike, h.2.1.warm hW, (h.2.2.1.kept hq).moved hW.alike, fun q z => va_Nw.warmM hW (h.2.2.2.1 q z), h.2.2.2.2.1.moved hW.alike, h.2.2.2.2.2.1.moved hW.alike, h.2.2.2.2.2.2.1, h.2.2.2.2.2.2.2.1, (h.2.2.2.2.2.2.2.2.kept hq).moved hW.alike⟩
theorem SX.same {G : GG} {B : BB} {s U : State} (h : SX G B s) (hv : U.vm = s.vm) (hh : U.heap = s.heap) : SX G B U :=
  h.to (by rw [hv]; exact State.WarmedH.refl s) (fun a _ _ => by rw [hh])
/-! locals: a list by slot, .float 0 where nothing is known -/
def JK : Value := .float 0
def nj (v : Value) : Bool := match v with
  | .float _ => false
  | _ => true
def isL (o : Option Value) : Bool := match o with
  | some (.long _) => true
  | _ => false
def kl (L : List Value) (i : Nat) : List Value := match i with
  | 0 => L
  | j + 1 => if isL (L[j]?) = true then L.set j JK else L
def st1 (L : List Value) (i : Nat) (v : Value) : List Value := (kl L i).set i v
def st2 (L : List Value) (i : Nat) (v : Value) : List Value := ((kl L i).set i v).set (i + 1) JK
def asc (B : BB) (L : List Value) : List (Nat × Value) := (List.range L.length).filterMap fun i => (L[i]?).bind fun v => if nj v = true then some (i, rn B v) else none
theorem asc_mem {B : BB} {L : List Value} {q : Nat × Value} : q ∈ asc B L ↔ ∃ v, L[q.1]? = some v ∧ nj v = true ∧ rn B v = q.2 := by
  obtain ⟨i, w⟩ := q
  simp only [asc, List.mem_filterMap, List.mem_range]
  constructor
  · rintro ⟨a, ha, h⟩
    cases hv : L[a]? with
    | none => rw [hv] at h; cases h
    | some v =>
      rw [hv] at h
      simp only [Option.bind_some] at h
      by_cases hn : nj v = true
      · rw [if_pos hn] at h
        cases h
        exact ⟨v, hv, hn, rfl⟩
      · rw [if_neg hn] at h
        cases h
  · rintro ⟨v, hv, hn, rfl⟩
    refine ⟨i, (List.getElem?_eq_some_iff.mp hv).1, ?_⟩
    rw [show L[i]? = some v from hv]
    simp [hn]
def LH (ls : Array Slot) (nL : Nat) (B : BB) (L : List Value) : Prop := lv_has ls nL (asc B L)
theorem LH.get {ls : Array Slot} {nL : Nat} {B : BB} {L : List Value} (h : LH ls nL B L) {i : Nat} {v : Value} (hv : L[i]? = some v) (hn : nj v = true) : ls[i]? = some (.val (rn B v)) := h.2.2 (i, rn B v) (asc_mem.mpr ⟨v, hv, hn, rfl⟩)
theorem LH.weak {ls : Array Slot} {nL : Nat} {B : BB} {L L' : List Value} (h : LH ls nL B L) (hw : ∀ (i : Nat) (v : Value), L'[i]? = some v → nj v = true → L[i]? = some v) : LH ls nL B L' :=
  ⟨h.1, h.2.1, fun q hq => by
    obtain ⟨v, h1, h2, h3⟩ := asc_mem.mp hq
    exact h.2.2 q (asc_mem.mpr ⟨v, hw _ _ h1 h2, h2, h3⟩)⟩
theorem rn_cat2 {B : BB} {v : Value} (h : (rn B v).category = 2) : isL (some v) = true := by
  cases v <;> simp [rn, Value.category, isL] at h ⊢
theorem kl_get {L : List Value} {i j : Nat} {v : Value} (h : (kl L i)[j]? = some v) (hn : nj v = true) : L[j]? = some v ∧ ¬ (j + 1 = i ∧ isL (some v) = true) := by
  cases i with
  | zero => exact ⟨h, fun q => by omega⟩
  | succ k =>
    have h : (if isL (L[k]?) = true then L.set k JK else L)[j]? = some v := h
    by_cases hk : isL (L[k]?) = true
    · rw [if_pos hk] at h
      rw [List.getElem?_set] at h
      by_cases hj : k = j
      · subst hj
        simp only [if_true] at h
        split at h
        · cases h; cases hn
        · cases h
      · rw [if_neg hj] at h
        exact ⟨h, fun q => hj (by omega)⟩
    · rw [if_neg hk] at h
      refine ⟨h, fun q => ?_⟩
      obtain ⟨q1, q2⟩ := q
      have : j = k := by omega
      subst this
      exact hk (by rw [show L[j]? = some v by assumption]; exact q2)
theorem LH_st1 {ls' : Array Slot} {nL : Nat} {B : BB} {L : List Value} {i : Nat} {v : Value} (h : lv_has ls' nL ((i, rn B v) :: (asc B L).filter (fun q => !(q.1 == i) && !(q.1 + 1 == i && q.2.category == 2)))) : LH ls' nL B (st1 L i v) := by
  refine ⟨h.1, h.2.1, fun q hq => h.2.2 q ?_⟩
  obtain ⟨u, h1, h2, h3⟩ := asc_mem.mp hq
  unfold st1 at h1
  rw [List.getElem?_set] at h1
  by_cases hj : i = q.1
  · rw [if_pos hj] at h1
    split at h1
    · cases h1
      exact List.mem_cons.mpr (Or.inl (Prod.ext hj.symm h3.symm))
    · cases h1
  · rw [if_neg hj] at h1
    obtain ⟨h4, h5⟩ := kl_get h1 h2
    refine List.mem_cons_of_mem _ (List.mem_filter.mpr ⟨asc_mem.mpr ⟨u, h4, h2, h3⟩, ?_⟩)
    have a1 : (q.1 == i) = false := by simp; omega
    have a2 : (q.1 + 1 == i && q.2.category == 2) = false := by
      rw [Bool.and_eq_false_iff]
      by_cases hz : q.1 + 1 = i
      · right
        simp only [beq_eq_false_iff_ne]
        intro hc
        rw [← h3] at hc
        exact h5 ⟨hz, rn_cat2 hc⟩
      · left
        simp [hz]
    rw [a1, a2]
    rfl
theorem LH_st2 {ls' : Array Slot} {nL : Nat} {B : BB} {L : List Value} {i : Nat} {v : Value} (h : lv_has ls' nL ((i, rn B v) :: (asc B L).filter (fun q => !(q.1 == i) && (!(q.1 == i + 1) && !(q.1 + 1 == i && q.2.category == 2))))) : LH ls' nL B (st2 L i v) := by
  refine ⟨h.1, h.2.1, fun q hq => h.2.2 q ?_⟩
  obtain ⟨u, h1, h2, h3⟩ := asc_mem.mp hq
  unfold st2 at h1
  rw [List.getElem?_set] at h1
  by_cases hj0 : i + 1 = q.1
  · rw [if_pos hj0] at h1
    split at h1
    · cases h1; cases h2
    · cases h1
  rw [if_neg hj0, List.getElem?_set] at h1
  by_cases hj : i = q.1
  · rw [if_pos hj] at h1
    split at h1
    · cases h1
      exact List.mem_cons.mpr (Or.inl (Prod.ext hj.symm h3.symm))
    · cases h1
  · rw [if_neg hj] at h1
    obtain ⟨h4, h5⟩ := kl_get h1 h2
    refine List.mem_cons_of_mem _ (List.mem_filter.mpr ⟨asc_mem.mpr ⟨u, h4, h2, h3⟩, ?_⟩)
    have a1 : (q.1 == i) = false := by simp; omega
    have a0 : (q.1 == i + 1) = false := by simp; omega
    have a2 : (q.1 + 1 == i && q.2.category == 2) = false := by
      rw [Bool.and_eq_false_iff]
      by_cases hz : q.1 + 1 = i
      · right
        simp only [beq_eq_false_iff_ne]
        intro hc
        rw [← h3] at hc
        exact h5 ⟨hz, rn_cat2 hc⟩
      · left
        simp [hz]
    rw [a1, a0, a2]
    rfl
def enA : List Value → List Value
  | [] => []
  | v :: r => if isL (some v) = true then v :: JK :: enA r else v :: enA r
def enL (n : Nat) (a : List Value) : List Value := enA a ++ List.replicate (n - (enA a).length) JK
theorem rn_cat1 {B : BB} {v : Value} (h : isL (some v) = false) : ¬ (rn B v).category = 2 := fun q => by rw [rn_cat2 q] at h; cases h
theorem rn_catL {B : BB} {v : Value} (h : isL (some v) = true) : (rn B v).category = 2 := by
  cases v <;> simp [rn, Value.category, isL] at h ⊢
theorem enA_args {B : BB} (a : List Value) : ∀ (k j : Nat) (v : Value), (enA a)[j]? = some v → nj v = true → (k + j, rn B v) ∈ lv_args k (a.map (rn B)) := by
  induction a with
  | nil => intro k j v h; simp [enA] at h
  | cons x r ih =>
    intro k j v h hn
    by_cases hx : isL (some x) = true
    · simp only [enA, hx, if_true] at h
      simp only [List.map_cons, lv_args, rn_catL hx, if_true]
      match j, h with
      | 0, h => cases h; exact List.mem_cons_self
      | 1, h => cases h; cases hn
      | j + 2, h =>
        refine List.mem_cons_of_mem _ ?_
        have := ih (k + 2) j v (by simpa using h) hn
        rwa [show k + 2 + j = k + (j + 2) by omega] at this
    · have hx' : isL (some x) = false := by simpa using hx
      simp only [enA, hx] at h
      simp only [List.map_cons, lv_args, rn_cat1 hx', if_false]
      match j, h with
      | 0, h => cases h; exact List.mem_cons_self
      | j + 1, h =>
        refine List.mem_cons_of_mem _ ?_
        have := ih (k + 1) j v (by simpa using h) hn
        rwa [show k + 1 + j = k + (j + 1) by omega] at this
theorem LH.entry {ls : Array Slot} {nL : Nat} {B : BB} {a : List Value} (h : lv_has ls nL (lv_args 0 (a.map (rn B)))) : LH ls nL B (enL nL a) := by
  refine ⟨h.1, h.2.1, fun q hq => h.2.2 q ?_⟩
  obtain ⟨v, h1, h2, h3⟩ := asc_mem.mp hq
  unfold enL at h1
  by_cases hl : q.1 < (enA a).length
  · rw [List.getElem?_append_left hl] at h1
    have := enA_args (B := B) a 0 q.1 v h1 h2
    rw [Nat.zero_add, h3] at this
    exact this
  · rw [List.getElem?_append_right (by omega)] at h1
    have := List.eq_of_mem_replicate (List.mem_of_getElem? h1)
    subst this
    cases h2
/-! the judgements -/
def WS (M : MD) : List Cond := .code M.1 M.2.1 M.2.2.1 M.2.2.2.1 :: TT
def PQ (S : SH) (G : GG) (B : BB) (Q : Option Value → AH → Prop) : Array Value → State → Outcome → State → Prop := fun _ st oc t => ∃ (r : Option Value) (h : AH), oc = .returned (r.map (rn B)) ∧ Q r h ∧ Wd S G B h t.heap ∧ va_F (fun q => B.1 ≤ q) st t
def PC (S : SH) (G : GG) (B : BB) (as : List Value) (h : AH) : Array Value → State → Prop := va_Pc (as.map (rn B)) (fun U => Wd S G B h U.heap ∧ va_K G.1 vwCl (tysOf G) U ∧ SX G B U)
def RM (d mc ms : Nat) : Room := { frames := d, cells := mc, slots := ms, locals := 64 * d }
def CX (M : MD) (d : Nat) (p : Program) (R : Room) (s : State) (m : MethodId) (args : Array Value) (meth : Method) (c : Code) (G : GG) (B : BB) (mc ms : Nat) : Prop :=
  p.tables.exec = Jvm.exec ∧ c.code = M.2.1 ∧ meth.sig.returnType = M.2.2.2.1 ∧ c.maxLocals = M.2.2.1 ∧ (∀ w ∈ TT, w.before args s = true) ∧ s.vm.findClass M.1.cls = some m.cls ∧ meth.locks = false ∧ meth.name = M.1.name ∧ (d ≤ R.frames ∧ 64 * d ≤ R.locals) ∧ (mc ≤ R.cells ∧ ms ≤ R.slots) ∧ va_K G.1 vwCl (tysOf G) s ∧ SX G B s ∧ B.1 ≤ s.heap.size ∧ M.2.2.2.2 s B
/-- from here (the method M at pc, locals L, stack st, heap h), within cb new cells of sb slots, M returns, with Q -/
def WP (S : SH) (M : MD) (d cb sb : Nat) (Q : Option Value → AH → Prop) (pc : Nat) (L st : List Value) (h : AH) : Prop :=
  ∀ (p : Program) (l : Launch) (e : Env) (R : Room) (s : State) (m : MethodId) (args : Array Value) (below : List Frame) (meth : Method) (c : Code) (G : GG) (B : BB) (mc ms : Nat), CX M d p R s m args meth c G B mc ms →
    ∀ (ls : Array Slot) (H : Heap) (locs : List Loc) (cells slots : Nat), LH ls M.2.2.1 B L → Wd S G B h H → va_S (fun q => B.1 ≤ q) s.heap H locs → cells + cb = mc ∧ slots + sb = ms →
      W p l e R s m args below meth c H locs cells slots (MQ below (PQ S G B Q) args s mc ms (fun q => B.1 ≤ q)) (F0 m pc ls (st.map (rn B)))
/-- M, called with these in this heap, makes at most mc cells of ms slots, returns, with K -/
def CP (S : SH) (M : MD) (d mc ms : Nat) (as : List Value) (h : AH) (K : Option Value → AH → Prop) : Prop :=
  ∀ (l : Launch) (G : GG) (B : BB), Met l M.1 (WS M) (RM d mc ms) (PC S G B as h) (PQ S G B K) mc ms (fun q => B.1 ≤ q)
def wk : List Value → List Value → Prop
  | [], _ => True
  | v :: r, w :: t => (v = JK ∨ v = w) ∧ wk r t
  | _ :: _, [] => False
theorem wk_spec : ∀ (L' L : List Value), wk L' L → ∀ (i : Nat) (v : Value), L'[i]? = some v → nj v = true → L[i]? = some v
  | [], _, _, i, v, h, _ => by simp at h
  | a :: r, w :: t, hk, 0, v, h, hn => by
    cases h
    rcases hk.1 with rfl | rfl
    · cases hn
    · rfl
  | a :: r, w :: t, hk, i + 1, v, h, hn => by
    have := wk_spec r t hk.2 i v (by simpa using h) hn
    simpa using this
  | _ :: _, [], hk, _, _, _, _ => hk.elim
theorem wp_weak {S : SH} {M : MD} {d cb sb : Nat} {Q : Option Value → AH → Prop} {pc : Nat} {L L' st : List Value} {h : AH} (hw : ∀ (i : Nat) (v : Value), L'[i]? = some v → nj v = true → L[i]? = some v) (k : WP S M d cb sb Q pc L' st h) : WP S M d cb sb Q pc L st h :=
  fun p l e R s m args below meth c G B mc ms C ls H locs cells slots hl => k p l e R s m args below meth c G B mc ms C ls H locs cells slots (hl.weak hw)
theorem wp_wk {S : SH} {M : MD} {d cb sb : Nat} {Q : Option Value → AH → Prop} {pc : Nat} {L L' st : List Value} {h : AH} (hw : wk L' L) (k : WP S M d cb sb Q pc L' st h) : WP S M d cb sb Q pc L st h := wp_weak (wk_spec _ _ hw) k
theorem wp_mono {S : SH} {M : MD} {d cb sb : Nat} {Q Q' : Option Value → AH → Prop} {pc : Nat} {L st : List Value} {h : AH} (hq : ∀ r h', Q r h' → Q' r h') (k : WP S M d cb sb Q pc L st h) : WP S M d cb sb Q' pc L st h := by
  intro p l e R s m args below meth c G B mc ms C ls H locs cells slots hl hw hS hn T hT X
  obtain ⟨t, h1, o, h2, h3, ⟨r, h', e1, e2, e3⟩, h4⟩ := k p l e R s m args below meth c G B mc ms C ls H locs cells slots hl hw hS hn T hT X
  exact ⟨t, h1, o, h2, h3, ⟨r, h', e1, hq _ _ e2, e3⟩, h4⟩
set_option maxHeartbeats 1000000 in
/-- a method out of the walk of its body -/
theorem cp_of {S : SH} {M : MD} {d mc ms : Nat} {as : List Value} {h : AH} {K : Option Value → AH → Prop} (hp : plainName M.1.cls = true) (hE : ∀ s B, M.2.2.2.2 s B) (hlen : ∀ B : BB, (lg_sl (as.map (rn B))).length ≤ M.2.2.1) (k : WP S M d mc ms K 0 (enL M.2.2.1 as) [] h) : CP S M d mc ms as h K := by
  intro l G B
  refine Met.ofW (cc := M.2.1) (maxL := M.2.2.1) (ret := M.2.2.2.1) (ws' := TT) hp rfl ?_
  intro p e s m args below meth c s₁ X hml hv
  obtain ⟨rfl, hW, hK, hX⟩ := hv
  have hts : ∀ w ∈ TT, w.before (as.map (rn B)).toArray s = true := fun w h => atoms_spec (ws := WS M) X.pre w (List.mem_cons_of_mem _ h)
  rw [lg_entry_eq]
  refine k p l e _ s m _ below meth c G B mc ms ⟨X.exec, X.bytes, X.returns, hml, hts, findClass_of_methodNamed X.named, X.notSynchronized, (name_of_methodNamed X.named X.method).1, ⟨Nat.le_refl _, Nat.le_refl _⟩, ⟨Nat.le_refl _, Nat.le_refl _⟩, hK, hX, ?_, hE s B⟩ _ s.heap [] 0 0 (LH.entry (lv_entry _ (hlen B))) hW va_S.rf ⟨Nat.zero_add _, Nat.zero_add _⟩
  rw [hW.1]
  exact Nat.le_add_right _ _
theorem cp_mono {S : SH} {M : MD} {d mc ms : Nat} {as : List Value} {h : AH} {K K' : Option Value → AH → Prop} (hk : ∀ r h', K r h' → K' r h') (q : CP S M d mc ms as h K) : CP S M d mc ms as h K' := by
  intro l G B
  refine MetFree.mono (q l G B) (fun a s h => h) (fun _ _ _ _ _ h => h) (fun a st o t _ z => ?_)
  obtain ⟨⟨r, h', e1, e2, e3⟩, z2⟩ := z
  exact ⟨⟨r, h', e1, hk _ _ e2, e3⟩, z2⟩
end
section
theorem wp_iconst {S : SH} {M : MD} {d cb sb : Nat} {Q : Option Value → AH → Prop} {pc : Nat} {L st : List Value} {h : AH} {n : Int} {v : Int32} (hd : decode M.2.1 pc = .ok (.iconst n, 1)) (hv : Int32.ofInt n = v) (k : WP S M d cb sb Q (pc + 1) L (.int v :: st) h) : WP S M d cb sb Q pc L (st) h := by
  intro p l e R s m args below meth c G B mc ms C ls H locs cells slots hl hw hS hn
  exact lv_iconst C.1 C.2.1 hd hv (k p l e R s m args below meth c G B mc ms C ls H locs cells slots hl hw hS hn)
theorem wp_bipush {S : SH} {M : MD} {d cb sb : Nat} {Q : Option Value → AH → Prop} {pc : Nat} {L st : List Value} {h : AH} {n : Int} {v : Int32} (hd : decode M.2.1 pc = .ok (.bipush n, 2)) (hv : (Int8.ofInt n).toInt32 = v) (k : WP S M d cb sb Q (pc + 2) L (.int v :: st) h) : WP S M d cb sb Q pc L (st) h := by
  intro p l e R s m args below meth c G B mc ms C ls H locs cells slots hl hw hS hn
  exact lv_bipush C.1 C.2.1 hd hv (k p l e R s m args below meth c G B mc ms C ls H locs cells slots hl hw hS hn)
theorem wp_sipush {S : SH} {M : MD} {d cb sb : Nat} {Q : Option Value → AH → Prop} {pc : Nat} {L st : List Value} {h : AH} {n : Int} {v : Int32} (hd : decode M.2.1 pc = .ok (.sipush n, 3)) (hv : (Int16.ofInt n).toInt32 = v) (k : WP S M d cb sb Q (pc + 3) L (.int v :: st) h) : WP S M d cb sb Q pc L (st) h := by
  intro p l e R s m args below meth c G B mc ms C ls H locs cells slots hl hw hS hn
  exact lv_sipush C.1 C.2.1 hd hv (k p l e R s m args below meth c G B mc ms C ls H locs cells slots hl hw hS hn)
theorem wp_lconst {S : SH} {M : MD} {d cb sb : Nat} {Q : Option Value → AH → Prop} {pc : Nat} {L st : List Value} {h : AH} {n : Fin 2} {v : Int64} (hd : decode M.2.1 pc = .ok (.lconst n, 1)) (hv : Int64.ofNat (n : Nat) = v) (k : WP S M d cb sb Q (pc + 1) L (.long v :: st) h) : WP S M d cb sb Q pc L (st) h := by
  intro p l e R s m args below meth c G B mc ms C ls H locs cells slots hl hw hS hn
  exact lv_lconst C.1 C.2.1 hd hv (k p l e R s m args below meth c G B mc ms C ls H locs cells slots hl hw hS hn)
theorem wp_null {S : SH} {M : MD} {d cb sb : Nat} {Q : Option Value → AH → Prop} {pc : Nat} {L st : List Value} {h : AH}  (hd : decode M.2.1 pc = .ok (.aconst_null, 1))  (k : WP S M d cb sb Q (pc + 1) L (.null :: st) h) : WP S M d cb sb Q pc L (st) h := by
  intro p l e R s m args below meth c G B mc ms C ls H locs cells slots hl hw hS hn
  exact lv_null C.1 C.2.1 hd (k p l e R s m args below meth c G B mc ms C ls H locs cells slots hl hw hS hn)
theorem wp_iload_n {S : SH} {M : MD} {d cb sb : Nat} {Q : Option Value → AH → Prop} {pc : Nat} {L st : List Value} {h : AH} {k : Fin 4} {x : Int32} (hd : decode M.2.1 pc = .ok (.iload_n k, 1)) (hv : L[(k : Nat)]? = some (.int x)) (k : WP S M d cb sb Q (pc + 1) L (.int x :: st) h) : WP S M d cb sb Q pc L (st) h := by
  intro p l e R s m args below meth c G B mc ms C ls H locs cells slots hl hw hS hn
  exact lv_iload_n C.1 C.2.1 hd rfl (hl.get hv rfl) (k p l e R s m args below meth c G B mc ms C ls H locs cells slots hl hw hS hn)
theorem wp_iload {S : SH} {M : MD} {d cb sb : Nat} {Q : Option Value → AH → Prop} {pc : Nat} {L st : List Value} {h : AH} {i : Nat} {x : Int32} (hd : decode M.2.1 pc = .ok (.iload i, 2)) (hv : L[i]? = some (.int x)) (k : WP S M d cb sb Q (pc + 2) L (.int x :: st) h) : WP S M d cb sb Q pc L (st) h := by
  intro p l e R s m args below meth c G B mc ms C ls H locs cells slots hl hw hS hn
  exact lv_iload C.1 C.2.1 hd (hl.get hv rfl) (k p l e R s m args below meth c G B mc ms C ls H locs cells slots hl hw hS hn)
theorem wp_lload_n {S : SH} {M : MD} {d cb sb : Nat} {Q : Option Value → AH → Prop} {pc : Nat} {L st : List Value} {h : AH} {k : Fin 4} {x : Int64} (hd : decode M.2.1 pc = .ok (.lload_n k, 1)) (hv : L[(k : Nat)]? = some (.long x)) (k : WP S M d cb sb Q (pc + 1) L (.long x :: st) h) : WP S M d cb sb Q pc L (st) h := by
  intro p l e R s m args below meth c G B mc ms C ls H locs cells slots hl hw hS hn
  exact lv_lload_n C.1 C.2.1 hd rfl (hl.get hv rfl) (k p l e R s m args below meth c G B mc ms C ls H locs cells slots hl hw hS hn)
theorem wp_lload {S : SH} {M : MD} {d cb sb : Nat} {Q : Option Value → AH → Prop} {pc : Nat} {L st : List Value} {h : AH} {i : Nat} {x : Int64} (hd : decode M.2.1 pc = .ok (.lload i, 2)) (hv : L[i]? = some (.long x)) (k : WP S M d cb sb Q (pc + 2) L (.long x :: st) h) : WP S M d cb sb Q pc L (st) h := by
  intro p l e R s m args below meth c G B mc ms C ls H locs cells slots hl hw hS hn
  exact lv_lload C.1 C.2.1 hd (hl.get hv rfl) (k p l e R s m args below meth c G B mc ms C ls H locs cells slots hl hw hS hn)
theorem wp_aload_n {S : SH} {M : MD} {d cb sb : Nat} {Q : Option Value → AH → Prop} {pc : Nat} {L st : List Value} {h : AH} {k : Fin 4} {x : Nat} (hd : decode M.2.1 pc = .ok (.aload_n k, 1)) (hv : L[(k : Nat)]? = some (.ref x)) (k : WP S M d cb sb Q (pc + 1) L (.ref x :: st) h) : WP S M d cb sb Q pc L (st) h := by
  intro p l e R s m args below meth c G B mc ms C ls H locs cells slots hl hw hS hn
  exact lv_aload_n C.1 C.2.1 hd rfl (hl.get hv rfl) (k p l e R s m args below meth c G B mc ms C ls H locs cells slots hl hw hS hn)
theorem wp_aload {S : SH} {M : MD} {d cb sb : Nat} {Q : Option Value → AH → Prop} {pc : Nat} {L st : List Value} {h : AH} {i x : Nat} (hd : decode M.2.1 pc = .ok (.aload i, 2)) (hv : L[i]? = some (.ref x)) (k : WP S M d cb sb Q (pc + 2) L (.ref x :: st) h) : WP S M d cb sb Q pc L (st) h := by
  intro p l e R s m args below meth c G B mc ms C ls H locs cells slots hl hw hS hn
  exact lv_aload C.1 C.2.1 hd (hl.get hv rfl) (k p l e R s m args below meth c G B mc ms C ls H locs cells slots hl hw hS hn)
theorem wp_aloadN_n {S : SH} {M : MD} {d cb sb : Nat} {Q : Option Value → AH → Prop} {pc : Nat} {L st : List Value} {h : AH} {k : Fin 4} (hd : decode M.2.1 pc = .ok (.aload_n k, 1)) (hv : L[(k : Nat)]? = some .null) (k : WP S M d cb sb Q (pc + 1) L (.null :: st) h) : WP S M d cb sb Q pc L (st) h := by
  intro p l e R s m args below meth c G B mc ms C ls H locs cells slots hl hw hS hn
  exact lv_aload_nN C.1 C.2.1 hd rfl (hl.get hv rfl) (k p l e R s m args below meth c G B mc ms C ls H locs cells slots hl hw hS hn)
theorem wp_aloadN {S : SH} {M : MD} {d cb sb : Nat} {Q : Option Value → AH → Prop} {pc : Nat} {L st : List Value} {h : AH} {i : Nat} (hd : decode M.2.1 pc = .ok (.aload i, 2)) (hv : L[i]? = some .null) (k : WP S M d cb sb Q (pc + 2) L (.null :: st) h) : WP S M d cb sb Q pc L (st) h := by
  intro p l e R s m args below meth c G B mc ms C ls H locs cells slots hl hw hS hn
  exact lv_aloadN C.1 C.2.1 hd (hl.get hv rfl) (k p l e R s m args below meth c G B mc ms C ls H locs cells slots hl hw hS hn)
theorem wp_aloadS_n {S : SH} {M : MD} {d cb sb : Nat} {Q : Option Value → AH → Prop} {pc : Nat} {L st : List Value} {h : AH} {k : Fin 4} {z : UInt64} (hd : decode M.2.1 pc = .ok (.aload_n k, 1)) (hv : L[(k : Nat)]? = some (.double z)) (k : WP S M d cb sb Q (pc + 1) L (.double z :: st) h) : WP S M d cb sb Q pc L (st) h := by
  intro p l e R s m args below meth c G B mc ms C ls H locs cells slots hl hw hS hn
  exact lv_aload_n C.1 C.2.1 hd rfl (hl.get hv rfl) (k p l e R s m args below meth c G B mc ms C ls H locs cells slots hl hw hS hn)
theorem wp_iadd {S : SH} {M : MD} {d cb sb : Nat} {Q : Option Value → AH → Prop} {pc : Nat} {L st : List Value} {h : AH} {x y : Int32} (hd : decode M.2.1 pc = .ok (.iadd, 1))  (k : WP S M d cb sb Q (pc + 1) L (.int (x + y) :: st) h) : WP S M d cb sb Q pc L (.int y :: .int x :: st) h := by
  intro p l e R s m args below meth c G B mc ms C ls H locs cells slots hl hw hS hn
  exact lv_iadd C.1 C.2.1 hd (k p l e R s m args below meth c G B mc ms C ls H locs cells slots hl hw hS hn)
theorem wp_isub {S : SH} {M : MD} {d cb sb : Nat} {Q : Option Value → AH → Prop} {pc : Nat} {L st : List Value} {h : AH} {x y : Int32} (hd : decode M.2.1 pc = .ok (.isub, 1))  (k : WP S M d cb sb Q (pc + 1) L (.int (x - y) :: st) h) : WP S M d cb sb Q pc L (.int y :: .int x :: st) h := by
  intro p l e R s m args below meth c G B mc ms C ls H locs cells slots hl hw hS hn
  exact lv_isub C.1 C.2.1 hd (k p l e R s m args below meth c G B mc ms C ls H locs cells slots hl hw hS hn)
theorem wp_imul {S : SH} {M : MD} {d cb sb : Nat} {Q : Option Value → AH → Prop} {pc : Nat} {L st : List Value} {h : AH} {x y : Int32} (hd : decode M.2.1 pc = .ok (.imul, 1))  (k : WP S M d cb sb Q (pc + 1) L (.int (x * y) :: st) h) : WP S M d cb sb Q pc L (.int y :: .int x :: st) h := by
  intro p l e R s m args below meth c G B mc ms C ls H locs cells slots hl hw hS hn
  exact lv_imul C.1 C.2.1 hd (k p l e R s m args below meth c G B mc ms C ls H locs cells slots hl hw hS hn)
theorem wp_iand {S : SH} {M : MD} {d cb sb : Nat} {Q : Option Value → AH → Prop} {pc : Nat} {L st : List Value} {h : AH} {x y : Int32} (hd : decode M.2.1 pc = .ok (.iand, 1))  (k : WP S M d cb sb Q (pc + 1) L (.int (x &&& y) :: st) h) : WP S M d cb sb Q pc L (.int y :: .int x :: st) h := by
  intro p l e R s m args below meth c G B mc ms C ls H locs cells slots hl hw hS hn
  exact lv_iand C.1 C.2.1 hd (k p l e R s m args below meth c G B mc ms C ls H locs cells slots hl hw hS hn)
theorem wp_ior {S : SH} {M : MD} {d cb sb : Nat} {Q : Option Value → AH → Prop} {pc : Nat} {L st : List Value} {h : AH} {x y : Int32} (hd : decode M.2.1 pc = .ok (.ior, 1))  (k : WP S M d cb sb Q (pc + 1) L (.int (x ||| y) :: st) h) : WP S M d cb sb Q pc L (.int y :: .int x :: st) h := by
  intro p l e R s m args below meth c G B mc ms C ls H locs cells slots hl hw hS hn
  exact lv_ior C.1 C.2.1 hd (k p l e R s m args below meth c G B mc ms C ls H locs cells slots hl hw hS hn)
theorem wp_ixor {S : SH} {M : MD} {d cb sb : Nat} {Q : Option Value → AH → Prop} {pc : Nat} {L st : List Value} {h : AH} {x y : Int32} (hd : decode M.2.1 pc = .ok (.ixor, 1))  (k : WP S M d cb sb Q (pc + 1) L (.int (x ^^^ y) :: st) h) : WP S M d cb sb Q pc L (.int y :: .int x :: st) h := by
  intro p l e R s m args below meth c G B mc ms C ls H locs cells slots hl hw hS hn
  exact lv_ixor C.1 C.2.1 hd (k p l e R s m args below meth c G B mc ms C ls H locs cells slots hl hw hS hn)
theorem wp_ishl {S : SH} {M : MD} {d cb sb : Nat} {Q : Option Value → AH → Prop} {pc : Nat} {L st : List Value} {h : AH} {x y : Int32} (hd : decode M.2.1 pc = .ok (.ishl, 1))  (k : WP S M d cb sb Q (pc + 1) L (.int (x <<< (y &&& 31)) :: st) h) : WP S M d cb sb Q pc L (.int y :: .int x :: st) h := by
  intro p l e R s m args below meth c G B mc ms C ls H locs cells slots hl hw hS hn
  exact lv_ishl C.1 C.2.1 hd (k p l e R s m args below meth c G B mc ms C ls H locs cells slots hl hw hS hn)
theorem wp_ishr {S : SH} {M : MD} {d cb sb : Nat} {Q : Option Value → AH → Prop} {pc : Nat} {L st : List Value} {h : AH} {x y : Int32} (hd : decode M.2.1 pc = .ok (.ishr, 1))  (k : WP S M d cb sb Q (pc + 1) L (.int (x >>> (y &&& 31)) :: st) h) : WP S M d cb sb Q pc L (.int y :: .int x :: st) h := by
  intro p l e R s m args below meth c G B mc ms C ls H locs cells slots hl hw hS hn
  exact lv_ishr C.1 C.2.1 hd (k p l e R s m args below meth c G B mc ms C ls H locs cells slots hl hw hS hn)
theorem wp_irem {S : SH} {M : MD} {d cb sb : Nat} {Q : Option Value → AH → Prop} {pc : Nat} {L st : List Value} {h : AH} {x y : Int32} (hd : decode M.2.1 pc = .ok (.irem, 1)) (hne : ¬ y = 0) (k : WP S M d cb sb Q (pc + 1) L (.int (x - x / y * y) :: st) h) : WP S M d cb sb Q pc L (.int y :: .int x :: st) h := by
  intro p l e R s m args below meth c G B mc ms C ls H locs cells slots hl hw hS hn
  exact lv_irem C.1 C.2.1 hd hne (k p l e R s m args below meth c G B mc ms C ls H locs cells slots hl hw hS hn)
theorem wp_iushr {S : SH} {M : MD} {d cb sb : Nat} {Q : Option Value → AH → Prop} {pc : Nat} {L st : List Value} {h : AH} {x y : Int32} (hd : decode M.2.1 pc = .ok (.iushr, 1))  (k : WP S M d cb sb Q (pc + 1) L (.int ((x.toUInt32 >>> (y.toUInt32 &&& Int32.toUInt32 31)).toInt32) :: st) h) : WP S M d cb sb Q pc L (.int y :: .int x :: st) h := by
  intro p l e R s m args below meth c G B mc ms C ls H locs cells slots hl hw hS hn
  exact lv_iushr C.1 C.2.1 hd rfl (k p l e R s m args below meth c G B mc ms C ls H locs cells slots hl hw hS hn)
theorem wp_ineg {S : SH} {M : MD} {d cb sb : Nat} {Q : Option Value → AH → Prop} {pc : Nat} {L st : List Value} {h : AH} {x : Int32} (hd : decode M.2.1 pc = .ok (.ineg, 1))  (k : WP S M d cb sb Q (pc + 1) L (.int (-x) :: st) h) : WP S M d cb sb Q pc L (.int x :: st) h := by
  intro p l e R s m args below meth c G B mc ms C ls H locs cells slots hl hw hS hn
  exact lv_ineg C.1 C.2.1 hd (k p l e R s m args below meth c G B mc ms C ls H locs cells slots hl hw hS hn)
theorem wp_i2l {S : SH} {M : MD} {d cb sb : Nat} {Q : Option Value → AH → Prop} {pc : Nat} {L st : List Value} {h : AH} {x : Int32} (hd : decode M.2.1 pc = .ok (.i2l, 1))  (k : WP S M d cb sb Q (pc + 1) L (.long x.toInt64 :: st) h) : WP S M d cb sb Q pc L (.int x :: st) h := by
  intro p l e R s m args below meth c G B mc ms C ls H locs cells slots hl hw hS hn
  exact lv_i2l C.1 C.2.1 hd rfl (k p l e R s m args below meth c G B mc ms C ls H locs cells slots hl hw hS hn)
theorem wp_l2i {S : SH} {M : MD} {d cb sb : Nat} {Q : Option Value → AH → Prop} {pc : Nat} {L st : List Value} {h : AH} {x : Int64} (hd : decode M.2.1 pc = .ok (.l2i, 1))  (k : WP S M d cb sb Q (pc + 1) L (.int x.toInt32 :: st) h) : WP S M d cb sb Q pc L (.long x :: st) h := by
  intro p l e R s m args below meth c G B mc ms C ls H locs cells slots hl hw hS hn
  exact lv_l2i C.1 C.2.1 hd rfl (k p l e R s m args below meth c G B mc ms C ls H locs cells slots hl hw hS hn)
theorem wp_ladd {S : SH} {M : MD} {d cb sb : Nat} {Q : Option Value → AH → Prop} {pc : Nat} {L st : List Value} {h : AH} {x y : Int64} (hd : decode M.2.1 pc = .ok (.ladd, 1))  (k : WP S M d cb sb Q (pc + 1) L (.long (x + y) :: st) h) : WP S M d cb sb Q pc L (.long y :: .long x :: st) h := by
  intro p l e R s m args below meth c G B mc ms C ls H locs cells slots hl hw hS hn
  exact lv_ladd C.1 C.2.1 hd (k p l e R s m args below meth c G B mc ms C ls H locs cells slots hl hw hS hn)
theorem wp_lsub {S : SH} {M : MD} {d cb sb : Nat} {Q : Option Value → AH → Prop} {pc : Nat} {L st : List Value} {h : AH} {x y : Int64} (hd : decode M.2.1 pc = .ok (.lsub, 1))  (k : WP S M d cb sb Q (pc + 1) L (.long (x - y) :: st) h) : WP S M d cb sb Q pc L (.long y :: .long x :: st) h := by
  intro p l e R s m args below meth c G B mc ms C ls H locs cells slots hl hw hS hn
  exact lv_lsub C.1 C.2.1 hd (k p l e R s m args below meth c G B mc ms C ls H locs cells slots hl hw hS hn)
theorem wp_lmul {S : SH} {M : MD} {d cb sb : Nat} {Q : Option Value → AH → Prop} {pc : Nat} {L st : List Value} {h : AH} {x y : Int64} (hd : decode M.2.1 pc = .ok (.lmul, 1))  (k : WP S M d cb sb Q (pc + 1) L (.long (x * y) :: st) h) : WP S M d cb sb Q pc L (.long y :: .long x :: st) h := by
  intro p l e R s m args below meth c G B mc ms C ls H locs cells slots hl hw hS hn
  exact lv_lmul C.1 C.2.1 hd (k p l e R s m args below meth c G B mc ms C ls H locs cells slots hl hw hS hn)
theorem wp_ldiv {S : SH} {M : MD} {d cb sb : Nat} {Q : Option Value → AH → Prop} {pc : Nat} {L st : List Value} {h : AH} {x y : Int64} (hd : decode M.2.1 pc = .ok (.ldiv, 1)) (hne : ¬ y = 0) (k : WP S M d cb sb Q (pc + 1) L (.long (x / y) :: st) h) : WP S M d cb sb Q pc L (.long y :: .long x :: st) h := by
  intro p l e R s m args below meth c G B mc ms C ls H locs cells slots hl hw hS hn
  exact lv_ldiv C.1 C.2.1 hd hne (k p l e R s m args below meth c G B mc ms C ls H locs cells slots hl hw hS hn)
theorem wp_lrem {S : SH} {M : MD} {d cb sb : Nat} {Q : Option Value → AH → Prop} {pc : Nat} {L st : List Value} {h : AH} {x y : Int64} (hd : decode M.2.1 pc = .ok (.lrem, 1)) (hne : ¬ y = 0) (k : WP S M d cb sb Q (pc + 1) L (.long (x - x / y * y) :: st) h) : WP S M d cb sb Q pc L (.long y :: .long x :: st) h := by
  intro p l e R s m args below meth c G B mc ms C ls H locs cells slots hl hw hS hn
  exact lv_lrem C.1 C.2.1 hd hne (k p l e R s m args below meth c G B mc ms C ls H locs cells slots hl hw hS hn)
theorem wp_lcmp {S : SH} {M : MD} {d cb sb : Nat} {Q : Option Value → AH → Prop} {pc : Nat} {L st : List Value} {h : AH} {x y : Int64} (hd : decode M.2.1 pc = .ok (.lcmp, 1))  (k : WP S M d cb sb Q (pc + 1) L (.int (lg_cmp x y) :: st) h) : WP S M d cb sb Q pc L (.long y :: .long x :: st) h := by
  intro p l e R s m args below meth c G B mc ms C ls H locs cells slots hl hw hS hn
  exact W.lcmp C.1 C.2.1 hd (k p l e R s m args below meth c G B mc ms C ls H locs cells slots hl hw hS hn)
theorem wp_dupI {S : SH} {M : MD} {d cb sb : Nat} {Q : Option Value → AH → Prop} {pc : Nat} {L st : List Value} {h : AH} {x : Int32} (hd : decode M.2.1 pc = .ok (.dup, 1))  (k : WP S M d cb sb Q (pc + 1) L (.int x :: .int x :: st) h) : WP S M d cb sb Q pc L (.int x :: st) h := by
  intro p l e R s m args below meth c G B mc ms C ls H locs cells slots hl hw hS hn
  exact lv_dup C.1 C.2.1 hd rfl (k p l e R s m args below meth c G B mc ms C ls H locs cells slots hl hw hS hn)
theorem wp_dupR {S : SH} {M : MD} {d cb sb : Nat} {Q : Option Value → AH → Prop} {pc : Nat} {L st : List Value} {h : AH} {x : Nat} (hd : decode M.2.1 pc = .ok (.dup, 1))  (k : WP S M d cb sb Q (pc + 1) L (.ref x :: .ref x :: st) h) : WP S M d cb sb Q pc L (.ref x :: st) h := by
  intro p l e R s m args below meth c G B mc ms C ls H locs cells slots hl hw hS hn
  exact lv_dup C.1 C.2.1 hd rfl (k p l e R s m args below meth c G B mc ms C ls H locs cells slots hl hw hS hn)
theorem wp_dup2 {S : SH} {M : MD} {d cb sb : Nat} {Q : Option Value → AH → Prop} {pc : Nat} {L st : List Value} {h : AH} {x : Int32} {y : Nat} (hd : decode M.2.1 pc = .ok (.dup2, 1))  (k : WP S M d cb sb Q (pc + 1) L (.int x :: .ref y :: .int x :: .ref y :: st) h) : WP S M d cb sb Q pc L (.int x :: .ref y :: st) h := by
  intro p l e R s m args below meth c G B mc ms C ls H locs cells slots hl hw hS hn
  exact lv_dup2_11 C.1 C.2.1 hd rfl rfl (k p l e R s m args below meth c G B mc ms C ls H locs cells slots hl hw hS hn)
theorem wp_popI {S : SH} {M : MD} {d cb sb : Nat} {Q : Option Value → AH → Prop} {pc : Nat} {L st : List Value} {h : AH} {x : Int32} (hd : decode M.2.1 pc = .ok (.pop, 1))  (k : WP S M d cb sb Q (pc + 1) L (st) h) : WP S M d cb sb Q pc L (.int x :: st) h := by
  intro p l e R s m args below meth c G B mc ms C ls H locs cells slots hl hw hS hn
  exact lv_pop C.1 C.2.1 hd rfl (k p l e R s m args below meth c G B mc ms C ls H locs cells slots hl hw hS hn)
theorem wp_istore_n {S : SH} {M : MD} {d cb sb : Nat} {Q : Option Value → AH → Prop} {pc : Nat} {L st : List Value} {h : AH} {k : Fin 4} {x : Int32} (hd : decode M.2.1 pc = .ok (.istore_n k, 1)) (hb : (k : Nat) < M.2.2.1) {L1 : List Value} (hL : st1 L (k : Nat) (.int x) = L1) (k : WP S M d cb sb Q (pc + 1) L1 st h) : WP S M d cb sb Q pc L (.int x :: st) h := by
  intro p l e R s m args below meth c G B mc ms C ls H locs cells slots hl hw hS hn
  exact lv_istore_n C.1 C.2.1 hd rfl hl hb rfl (fun ls1 h1 => k p l e R s m args below meth c G B mc ms C ls1 H locs cells slots (by rw [← hL]; exact LH_st1 h1) hw hS hn)
theorem wp_istore {S : SH} {M : MD} {d cb sb : Nat} {Q : Option Value → AH → Prop} {pc : Nat} {L st : List Value} {h : AH} {i : Nat} {x : Int32} (hd : decode M.2.1 pc = .ok (.istore i, 2)) (hb : i < M.2.2.1) {L1 : List Value} (hL : st1 L i (.int x) = L1) (k : WP S M d cb sb Q (pc + 2) L1 st h) : WP S M d cb sb Q pc L (.int x :: st) h := by
  intro p l e R s m args below meth c G B mc ms C ls H locs cells slots hl hw hS hn
  exact lv_istore C.1 C.2.1 hd  hl hb rfl (fun ls1 h1 => k p l e R s m args below meth c G B mc ms C ls1 H locs cells slots (by rw [← hL]; exact LH_st1 h1) hw hS hn)
theorem wp_lstore_n {S : SH} {M : MD} {d cb sb : Nat} {Q : Option Value → AH → Prop} {pc : Nat} {L st : List Value} {h : AH} {k : Fin 4} {x : Int64} (hd : decode M.2.1 pc = .ok (.lstore_n k, 1)) (hb : (k : Nat) + 1 < M.2.2.1) {L1 : List Value} (hL : st2 L (k : Nat) (.long x) = L1) (k : WP S M d cb sb Q (pc + 1) L1 st h) : WP S M d cb sb Q pc L (.long x :: st) h := by
  intro p l e R s m args below meth c G B mc ms C ls H locs cells slots hl hw hS hn
  exact lv_lstore_n C.1 C.2.1 hd rfl hl hb rfl (fun ls1 h1 => k p l e R s m args below meth c G B mc ms C ls1 H locs cells slots (by rw [← hL]; exact LH_st2 h1) hw hS hn)
theorem wp_lstore {S : SH} {M : MD} {d cb sb : Nat} {Q : Option Value → AH → Prop} {pc : Nat} {L st : List Value} {h : AH} {i : Nat} {x : Int64} (hd : decode M.2.1 pc = .ok (.lstore i, 2)) (hb : i + 1 < M.2.2.1) {L1 : List Value} (hL : st2 L i (.long x) = L1) (k : WP S M d cb sb Q (pc + 2) L1 st h) : WP S M d cb sb Q pc L (.long x :: st) h := by
  intro p l e R s m args below meth c G B mc ms C ls H locs cells slots hl hw hS hn
  exact lv_lstore C.1 C.2.1 hd  hl hb rfl (fun ls1 h1 => k p l e R s m args below meth c G B mc ms C ls1 H locs cells slots (by rw [← hL]; exact LH_st2 h1) hw hS hn)
theorem wp_astore_n {S : SH} {M : MD} {d cb sb : Nat} {Q : Option Value → AH → Prop} {pc : Nat} {L st : List Value} {h : AH} {k : Fin 4} {x : Nat} (hd : decode M.2.1 pc = .ok (.astore_n k, 1)) (hb : (k : Nat) < M.2.2.1) {L1 : List Value} (hL : st1 L (k : Nat) (.ref x) = L1) (k : WP S M d cb sb Q (pc + 1) L1 st h) : WP S M d cb sb Q pc L (.ref x :: st) h := by
  intro p l e R s m args below meth c G B mc ms C ls H locs cells slots hl hw hS hn
  exact lv_astore_n C.1 C.2.1 hd rfl hl hb rfl (fun ls1 h1 => k p l e R s m args below meth c G B mc ms C ls1 H locs cells slots (by rw [← hL]; exact LH_st1 h1) hw hS hn)
theorem wp_astore {S : SH} {M : MD} {d cb sb : Nat} {Q : Option Value → AH → Prop} {pc : Nat} {L st : List Value} {h : AH} {i : Nat} {x : Nat} (hd : decode M.2.1 pc = .ok (.astore i, 2)) (hb : i < M.2.2.1) {L1 : List Value} (hL : st1 L i (.ref x) = L1) (k : WP S M d cb sb Q (pc + 2) L1 st h) : WP S M d cb sb Q pc L (.ref x :: st) h := by
  intro p l e R s m args below meth c G B mc ms C ls H locs cells slots hl hw hS hn
  exact lv_astore C.1 C.2.1 hd  hl hb rfl (fun ls1 h1 => k p l e R s m args below meth c G B mc ms C ls1 H locs cells slots (by rw [← hL]; exact LH_st1 h1) hw hS hn)
theorem wp_iinc {S : SH} {M : MD} {d cb sb : Nat} {Q : Option Value → AH → Prop} {pc : Nat} {L st : List Value} {h : AH} {i : Nat} {n : Int} {x v : Int32} (hd : decode M.2.1 pc = .ok (.iinc i n, 3)) (hv : L[i]? = some (.int x)) (hx : Int32.ofInt n = v) (hb : i < M.2.2.1) {L1 : List Value} (hL : st1 L i (.int (x + v)) = L1) (k : WP S M d cb sb Q (pc + 3) L1 st h) : WP S M d cb sb Q pc L st h := by
  intro p l e R s m args below meth c G B mc ms C ls H locs cells slots hl hw hS hn
  obtain ⟨j, hj⟩ := List.getElem?_of_mem (asc_mem (B := B) (q := (i, .int x)).mpr ⟨_, hv, rfl, rfl⟩)
  exact lv_iinc C.1 C.2.1 hd hl hj (by rw [hx]) hb rfl (fun ls1 h1 => k p l e R s m args below meth c G B mc ms C ls1 H locs cells slots (by rw [← hL]; exact LH_st1 h1) hw hS hn)
theorem wp_if_eq {S : SH} {M : MD} {d cb sb : Nat} {Q : Option Value → AH → Prop} {pc : Nat} {L st : List Value} {h : AH} {x : Int32} {off : Int} (tgt : Nat) (hd : decode M.2.1 pc = .ok (.ifCond .eq off, 3)) (ht : (pc : Int) + off = (tgt : Int)) (kt : x = 0 → WP S M d cb sb Q tgt L st h) (kf : ¬ x = 0 → WP S M d cb sb Q (pc + 3) L st h) : WP S M d cb sb Q pc L (.int x :: st) h := by
  intro p l e R s m args below meth c G B mc ms C ls H locs cells slots hl hw hS hn
  exact lv_if_eq C.1 C.2.1 hd ht (fun q => kt q p l e R s m args below meth c G B mc ms C ls H locs cells slots hl hw hS hn) (fun q => kf q p l e R s m args below meth c G B mc ms C ls H locs cells slots hl hw hS hn)
theorem wp_icmp_eq {S : SH} {M : MD} {d cb sb : Nat} {Q : Option Value → AH → Prop} {pc : Nat} {L st : List Value} {h : AH} {x y : Int32} {off : Int} (tgt : Nat) (hd : decode M.2.1 pc = .ok (.if_icmp .eq off, 3)) (ht : (pc : Int) + off = (tgt : Int)) (kt : x = y → WP S M d cb sb Q tgt L st h) (kf : ¬ x = y → WP S M d cb sb Q (pc + 3) L st h) : WP S M d cb sb Q pc L (.int y :: .int x :: st) h := by
  intro p l e R s m args below meth c G B mc ms C ls H locs cells slots hl hw hS hn
  exact lv_icmp_eq C.1 C.2.1 hd ht (fun q => kt q p l e R s m args below meth c G B mc ms C ls H locs cells slots hl hw hS hn) (fun q => kf q p l e R s m args below meth c G B mc ms C ls H locs cells slots hl hw hS hn)
theorem wp_if_ne {S : SH} {M : MD} {d cb sb : Nat} {Q : Option Value → AH → Prop} {pc : Nat} {L st : List Value} {h : AH} {x : Int32} {off : Int} (tgt : Nat) (hd : decode M.2.1 pc = .ok (.ifCond .ne off, 3)) (ht : (pc : Int) + off = (tgt : Int)) (kt : ¬ x = 0 → WP S M d cb sb Q tgt L st h) (kf : x = 0 → WP S M d cb sb Q (pc + 3) L st h) : WP S M d cb sb Q pc L (.int x :: st) h := by
  intro p l e R s m args below meth c G B mc ms C ls H locs cells slots hl hw hS hn
  exact lv_if_ne C.1 C.2.1 hd ht (fun q => kt q p l e R s m args below meth c G B mc ms C ls H locs cells slots hl hw hS hn) (fun q => kf q p l e R s m args below meth c G B mc ms C ls H locs cells slots hl hw hS hn)
theorem wp_icmp_ne {S : SH} {M : MD} {d cb sb : Nat} {Q : Option Value → AH → Prop} {pc : Nat} {L st : List Value} {h : AH} {x y : Int32} {off : Int} (tgt : Nat) (hd : decode M.2.1 pc = .ok (.if_icmp .ne off, 3)) (ht : (pc : Int) + off = (tgt : Int)) (kt : ¬ x = y → WP S M d cb sb Q tgt L st h) (kf : x = y → WP S M d cb sb Q (pc + 3) L st h) : WP S M d cb sb Q pc L (.int y :: .int x :: st) h := by
  intro p l e R s m args below meth c G B mc ms C ls H locs cells slots hl hw hS hn
  exact lv_icmp_ne C.1 C.2.1 hd ht (fun q => kt q p l e R s m args below meth c G B mc ms C ls H locs cells slots hl hw hS hn) (fun q => kf q p l e R s m args below meth c G B mc ms C ls H locs cells slots hl hw hS hn)
theorem wp_if_lt {S : SH} {M : MD} {d cb sb : Nat} {Q : Option Value → AH → Prop} {pc : Nat} {L st : List Value} {h : AH} {x : Int32} {off : Int} (tgt : Nat) (hd : decode M.2.1 pc = .ok (.ifCond .lt off, 3)) (ht : (pc : Int) + off = (tgt : Int)) (kt : x < 0 → WP S M d cb sb Q tgt L st h) (kf : ¬ x < 0 → WP S M d cb sb Q (pc + 3) L st h) : WP S M d cb sb Q pc L (.int x :: st) h := by
  intro p l e R s m args below meth c G B mc ms C ls H locs cells slots hl hw hS hn
  exact lv_if_lt C.1 C.2.1 hd ht (fun q => kt q p l e R s m args below meth c G B mc ms C ls H locs cells slots hl hw hS hn) (fun q => kf q p l e R s m args below meth c G B mc ms C ls H locs cells slots hl hw hS hn)
theorem wp_icmp_lt {S : SH} {M : MD} {d cb sb : Nat} {Q : Option Value → AH → Prop} {pc : Nat} {L st : List Value} {h : AH} {x y : Int32} {off : Int} (tgt : Nat) (hd : decode M.2.1 pc = .ok (.if_icmp .lt off, 3)) (ht : (pc : Int) + off = (tgt : Int)) (kt : x < y → WP S M d cb sb Q tgt L st h) (kf : ¬ x < y → WP S M d cb sb Q (pc + 3) L st h) : WP S M d cb sb Q pc L (.int y :: .int x :: st) h := by
  intro p l e R s m args below meth c G B mc ms C ls H locs cells slots hl hw hS hn
  exact lv_icmp_lt C.1 C.2.1 hd ht (fun q => kt q p l e R s m args below meth c G B mc ms C ls H locs cells slots hl hw hS hn) (fun q => kf q p l e R s m args below meth c G B mc ms C ls H locs cells slots hl hw hS hn)
theorem wp_if_ge {S : SH} {M : MD} {d cb sb : Nat} {Q : Option Value → AH → Prop} {pc : Nat} {L st : List Value} {h : AH} {x : Int32} {off : Int} (tgt : Nat) (hd : decode M.2.1 pc = .ok (.ifCond .ge off, 3)) (ht : (pc : Int) + off = (tgt : Int)) (kt : 0 ≤ x → WP S M d cb sb Q tgt L st h) (kf : ¬ 0 ≤ x → WP S M d cb sb Q (pc + 3) L st h) : WP S M d cb sb Q pc L (.int x :: st) h := by
  intro p l e R s m args below meth c G B mc ms C ls H locs cells slots hl hw hS hn
  exact lv_if_ge C.1 C.2.1 hd ht (fun q => kt q p l e R s m args below meth c G B mc ms C ls H locs cells slots hl hw hS hn) (fun q => kf q p l e R s m args below meth c G B mc ms C ls H locs cells slots hl hw hS hn)
theorem wp_icmp_ge {S : SH} {M : MD} {d cb sb : Nat} {Q : Option Value → AH → Prop} {pc : Nat} {L st : List Value} {h : AH} {x y : Int32} {off : Int} (tgt : Nat) (hd : decode M.2.1 pc = .ok (.if_icmp .ge off, 3)) (ht : (pc : Int) + off = (tgt : Int)) (kt : y ≤ x → WP S M d cb sb Q tgt L st h) (kf : ¬ y ≤ x → WP S M d cb sb Q (pc + 3) L st h) : WP S M d cb sb Q pc L (.int y :: .int x :: st) h := by
  intro p l e R s m args below meth c G B mc ms C ls H locs cells slots hl hw hS hn
  exact lv_icmp_ge C.1 C.2.1 hd ht (fun q => kt q p l e R s m args below meth c G B mc ms C ls H locs cells slots hl hw hS hn) (fun q => kf q p l e R s m args below meth c G B mc ms C ls H locs cells slots hl hw hS hn)
theorem wp_if_gt {S : SH} {M : MD} {d cb sb : Nat} {Q : Option Value → AH → Prop} {pc : Nat} {L st : List Value} {h : AH} {x : Int32} {off : Int} (tgt : Nat) (hd : decode M.2.1 pc = .ok (.ifCond .gt off, 3)) (ht : (pc : Int) + off = (tgt : Int)) (kt : 0 < x → WP S M d cb sb Q tgt L st h) (kf : ¬ 0 < x → WP S M d cb sb Q (pc + 3) L st h) : WP S M d cb sb Q pc L (.int x :: st) h := by
  intro p l e R s m args below meth c G B mc ms C ls H locs cells slots hl hw hS hn
  exact lv_if_gt C.1 C.2.1 hd ht (fun q => kt q p l e R s m args below meth c G B mc ms C ls H locs cells slots hl hw hS hn) (fun q => kf q p l e R s m args below meth c G B mc ms C ls H locs cells slots hl hw hS hn)
theorem wp_icmp_gt {S : SH} {M : MD} {d cb sb : Nat} {Q : Option Value → AH → Prop} {pc : Nat} {L st : List Value} {h : AH} {x y : Int32} {off : Int} (tgt : Nat) (hd : decode M.2.1 pc = .ok (.if_icmp .gt off, 3)) (ht : (pc : Int) + off = (tgt : Int)) (kt : y < x → WP S M d cb sb Q tgt L st h) (kf : ¬ y < x → WP S M d cb sb Q (pc + 3) L st h) : WP S M d cb sb Q pc L (.int y :: .int x :: st) h := by
  intro p l e R s m args below meth c G B mc ms C ls H locs cells slots hl hw hS hn
  exact lv_icmp_gt C.1 C.2.1 hd ht (fun q => kt q p l e R s m args below meth c G B mc ms C ls H locs cells slots hl hw hS hn) (fun q => kf q p l e R s m args below meth c G B mc ms C ls H locs cells slots hl hw hS hn)
theorem wp_if_le {S : SH} {M : MD} {d cb sb : Nat} {Q : Option Value → AH → Prop} {pc : Nat} {L st : List Value} {h : AH} {x : Int32} {off : Int} (tgt : Nat) (hd : decode M.2.1 pc = .ok (.ifCond .le off, 3)) (ht : (pc : Int) + off = (tgt : Int)) (kt : x ≤ 0 → WP S M d cb sb Q tgt L st h) (kf : ¬ x ≤ 0 → WP S M d cb sb Q (pc + 3) L st h) : WP S M d cb sb Q pc L (.int x :: st) h := by
  intro p l e R s m args below meth c G B mc ms C ls H locs cells slots hl hw hS hn
  exact lv_if_le C.1 C.2.1 hd ht (fun q => kt q p l e R s m args below meth c G B mc ms C ls H locs cells slots hl hw hS hn) (fun q => kf q p l e R s m args below meth c G B mc ms C ls H locs cells slots hl hw hS hn)
theorem wp_icmp_le {S : SH} {M : MD} {d cb sb : Nat} {Q : Option Value → AH → Prop} {pc : Nat} {L st : List Value} {h : AH} {x y : Int32} {off : Int} (tgt : Nat) (hd : decode M.2.1 pc = .ok (.if_icmp .le off, 3)) (ht : (pc : Int) + off = (tgt : Int)) (kt : x ≤ y → WP S M d cb sb Q tgt L st h) (kf : ¬ x ≤ y → WP S M d cb sb Q (pc + 3) L st h) : WP S M d cb sb Q pc L (.int y :: .int x :: st) h := by
  intro p l e R s m args below meth c G B mc ms C ls H locs cells slots hl hw hS hn
  exact lv_icmp_le C.1 C.2.1 hd ht (fun q => kt q p l e R s m args below meth c G B mc ms C ls H locs cells slots hl hw hS hn) (fun q => kf q p l e R s m args below meth c G B mc ms C ls H locs cells slots hl hw hS hn)
theorem wp_goto {S : SH} {M : MD} {d cb sb : Nat} {Q : Option Value → AH → Prop} {pc : Nat} {L st : List Value} {h : AH} {off : Int} (tgt : Nat) (hd : decode M.2.1 pc = .ok (.goto off, 3)) (ht : (pc : Int) + off = (tgt : Int)) (k : WP S M d cb sb Q tgt L st h) : WP S M d cb sb Q pc L st h := by
  intro p l e R s m args below meth c G B mc ms C ls H locs cells slots hl hw hS hn
  exact lv_goto C.1 C.2.1 hd ht (k p l e R s m args below meth c G B mc ms C ls H locs cells slots hl hw hS hn)
theorem wp_ifnonnull {S : SH} {M : MD} {d cb sb : Nat} {Q : Option Value → AH → Prop} {pc : Nat} {L st : List Value} {h : AH} {x : Nat} {off : Int} (tgt : Nat) (hd : decode M.2.1 pc = .ok (.ifnonnull off, 3)) (ht : (pc : Int) + off = (tgt : Int)) (k : WP S M d cb sb Q tgt L st h) : WP S M d cb sb Q pc L (.ref x :: st) h := by
  intro p l e R s m args below meth c G B mc ms C ls H locs cells slots hl hw hS hn
  exact lv_ifnonnull C.1 C.2.1 hd ht (k p l e R s m args below meth c G B mc ms C ls H locs cells slots hl hw hS hn)
theorem wp_ifnonnullN {S : SH} {M : MD} {d cb sb : Nat} {Q : Option Value → AH → Prop} {pc : Nat} {L st : List Value} {h : AH} {off : Int} (hd : decode M.2.1 pc = .ok (.ifnonnull off, 3)) (k : WP S M d cb sb Q (pc + 3) L st h) : WP S M d cb sb Q pc L (.null :: st) h := by
  intro p l e R s m args below meth c G B mc ms C ls H locs cells slots hl hw hS hn
  exact lv_ifnonnullN C.1 C.2.1 hd (k p l e R s m args below meth c G B mc ms C ls H locs cells slots hl hw hS hn)
theorem wp_tabIn {S : SH} {M : MD} {d cb sb : Nat} {Q : Option Value → AH → Prop} {pc : Nat} {L st : List Value} {h : AH} {dflt lo hi : Int} {offs : Array Int} {len : Nat} {x : Int32} {off : Int} (tgt : Nat) (hd : decode M.2.1 pc = .ok (.tableswitch dflt lo hi offs, len)) (h1 : ¬ x.toInt < lo) (h2 : ¬ hi < x.toInt) (ho : offs[(x.toInt - lo).toNat]? = some off) (ht : (pc : Int) + off = (tgt : Int)) (k : WP S M d cb sb Q tgt L st h) : WP S M d cb sb Q pc L (.int x :: st) h := by
  intro p l e R s m args below meth c G B mc ms C ls H locs cells slots hl hw hS hn
  exact lv_tableIn C.1 C.2.1 hd h1 h2 ho ht (k p l e R s m args below meth c G B mc ms C ls H locs cells slots hl hw hS hn)
theorem wp_tabOut {S : SH} {M : MD} {d cb sb : Nat} {Q : Option Value → AH → Prop} {pc : Nat} {L st : List Value} {h : AH} {dflt lo hi : Int} {offs : Array Int} {len : Nat} {x : Int32} (tgt : Nat) (hd : decode M.2.1 pc = .ok (.tableswitch dflt lo hi offs, len)) (h1 : x.toInt < lo ∨ hi < x.toInt) (ht : (pc : Int) + dflt = (tgt : Int)) (k : WP S M d cb sb Q tgt L st h) : WP S M d cb sb Q pc L (.int x :: st) h := by
  intro p l e R s m args below meth c G B mc ms C ls H locs cells slots hl hw hS hn
  exact lv_tableOut C.1 C.2.1 hd h1 ht (k p l e R s m args below meth c G B mc ms C ls H locs cells slots hl hw hS hn)
theorem wp_ldc {S : SH} {M : MD} {d cb sb : Nat} {Q : Option Value → AH → Prop} {pc : Nat} {L st : List Value} {h : AH} {index : Nat} {v : Int32} (hc : Cond.constant M.1.cls index v ∈ TT) (hd : decode M.2.1 pc = .ok (.ldc index, 2)) (k : WP S M d cb sb Q (pc + 2) L (.int v :: st) h) : WP S M d cb sb Q pc L st h := by
  intro p l e R s m args below meth c G B mc ms C ls H locs cells slots hl hw hS hn
  exact lv_ldc C.1 C.2.1 C.2.2.2.2.2.1 (C.2.2.2.2.1 _ hc) hd (k p l e R s m args below meth c G B mc ms C ls H locs cells slots hl hw hS hn)
theorem wp_ldcw {S : SH} {M : MD} {d cb sb : Nat} {Q : Option Value → AH → Prop} {pc : Nat} {L st : List Value} {h : AH} {index : Nat} {v : Int32} (hc : Cond.constant M.1.cls index v ∈ TT) (hd : decode M.2.1 pc = .ok (.ldc_w index, 3)) (k : WP S M d cb sb Q (pc + 3) L (.int v :: st) h) : WP S M d cb sb Q pc L st h := by
  intro p l e R s m args below meth c G B mc ms C ls H locs cells slots hl hw hS hn
  exact lv_ldcw C.1 C.2.1 C.2.2.2.2.2.1 (C.2.2.2.2.1 _ hc) hd (k p l e R s m args below meth c G B mc ms C ls H locs cells slots hl hw hS hn)
theorem wp_ldc2 {S : SH} {M : MD} {d cb sb : Nat} {Q : Option Value → AH → Prop} {pc : Nat} {L st : List Value} {h : AH} {index : Nat} {v : Int64} (hc : Cond.constantLong M.1.cls index v ∈ TT) (hd : decode M.2.1 pc = .ok (.ldc2_w index, 3)) (k : WP S M d cb sb Q (pc + 3) L (.long v :: st) h) : WP S M d cb sb Q pc L st h := by
  intro p l e R s m args below meth c G B mc ms C ls H locs cells slots hl hw hS hn
  exact lv_ldc2 C.1 C.2.1 C.2.2.2.2.2.1 (C.2.2.2.2.1 _ hc) hd (k p l e R s m args below meth c G B mc ms C ls H locs cells slots hl hw hS hn)
end
section
theorem vaP1 {D : va_G} {cl : List vw_C} {x : Nat × va_E} {H : Heap} (h : va_at D cl x H) : va_P D cl [x] H := fun k q hk => by
  cases k with
  | zero => cases hk; exact h
  | succ k => simp at hk
theorem vcell_congr {S : SH} {G : GG} {B : BB} {h h2 : AH} {q : Nat} (e1 : h2.2.1 q = h.2.1 q) (e2 : h2.2.2.1 q = h.2.2.1 q) (e3 : h2.2.2.2 q = h.2.2.2 q) (kk : Nat × Nat) : vcell S G B h2 q kk = vcell S G B h q kk := by
  have hr : RF S h2 q = RF S h q := by funext j; unfold RF; rw [e3]
  have ha : ∀ k ty, avl S h2 q k ty = avl S h q k ty := fun k ty => by unfold avl; rw [e1, e2, hr]
  unfold vcell
  rw [e1, e2, hr]
  simp only [ha]
theorem KD_eq {S : SH} {h h2 : AH} (e : h2.1 = h.1) (p : Nat) : KD S h2 p = KD S h p := by unfold KD; rw [e]
/-- a cell that was written -/
theorem Wd.upd {S : SH} {G : GG} {B : BB} {h h2 : AH} {H H1 : Heap} {p : Nat} {k0 : Nat × Nat} (hw : Wd S G B h H) (e : h2.1 = h.1) (hp : KD S h p = some k0) (hz : H1.size = H.size) (hq : ∀ q, q ≠ B.1 + p → H1[q]? = H[q]?) (hc : va_at G.1 vwCl (B.1 + p, vcell S G B h2 p k0) H1) (ho : ∀ q kk, q ≠ p → vcell S G B h2 q kk = vcell S G B h q kk) : Wd S G B h2 H1 := by
  refine ⟨by rw [hz, e]; exact hw.1, fun q kk hk => ?_⟩
  rw [KD_eq e] at hk
  by_cases hqp : q = p
  · subst hqp
    rw [hp] at hk
    cases hk
    exact hc
  · rw [ho q kk hqp]
    exact (hw.2 q kk hk).kept (hq _ (by show B.1 + q ≠ B.1 + p; omega))
/-- facts of a class by its number -/
def KF (ci : Nat) : Prop := ∃ (C : String) (T : u_T) (N : Nat), vwCl[ci]? = some (C, T, N) ∧ cN ci = N ∧ (∀ w ∈ u_ws C T N, w ∈ TT) ∧ (∀ j, j < N → parseFieldDescriptor (T j).2.2.1 = some (cTy ci j)) ∧ ∀ a, a < N → ∀ b, b < N → a ≠ b → (T a).2.1 ≠ (T b).2.1
/-- a field as a class's pool names it: class ci's field k -/
def FL (own : String) (index ci k : Nat) (fin : Bool) : Prop := ∃ (C : String) (T : u_T) (N : Nat), vwCl[ci]? = some (C, T, N) ∧ k < N ∧ Cond.fieldLink own index (T k).1 (T k).2.1 (T k).2.2.1 ∈ TT ∧ (T k).2.2.2 = fin ∧ KF ci
def fs_ (S : SH) (B : BB) (h : AH) (p ci : Nat) : List Value := (List.range (cN ci)).map (fun k => rn B (avl S h p k (cTy ci k)))
theorem fs_at {S : SH} {B : BB} {h : AH} {p ci k : Nat} (hk : k < cN ci) : (fs_ S B h p ci)[k]? = some (rn B (avl S h p k (cTy ci k))) := by
  unfold fs_
  simp [hk]
theorem FL.kf {own : String} {index ci k : Nat} {fin : Bool} (h : FL own index ci k fin) : ∃ (C : String) (T : u_T) (N : Nat), vwCl[ci]? = some (C, T, N) ∧ k < N ∧ Cond.fieldLink own index (T k).1 (T k).2.1 (T k).2.2.1 ∈ TT ∧ (T k).2.2.2 = fin ∧ cN ci = N ∧ (∀ w ∈ u_ws C T N, w ∈ TT) ∧ (∀ j, j < N → parseFieldDescriptor (T j).2.2.1 = some (cTy ci j)) ∧ ∀ a, a < N → ∀ b, b < N → a ≠ b → (T a).2.1 ≠ (T b).2.1 := by
  obtain ⟨C, T, N, h1, h2, h3, h4, C', T', N', g1, g2, g3, g4, g5⟩ := h
  have e := g1.symm.trans h1
  cases e
  exact ⟨C, T, N, h1, h2, h3, h4, g2, g3, g4, g5⟩
theorem wp_get {S : SH} {M : MD} {d cb sb : Nat} {Q : Option Value → AH → Prop} {pc : Nat} {L st : List Value} {h : AH} {index ci k p0 : Nat} {fin : Bool} {v : Value} (hF : FL M.1.cls index ci k fin) (hk : KD S h p0 = some (0, ci)) (hv : avl S h p0 k (cTy ci k) = v) (hd : decode M.2.1 pc = .ok (.getfield index, 3)) (kn : WP S M d cb sb Q (pc + 3) L (v :: st) h) : WP S M d cb sb Q pc L (.ref p0 :: st) h := by
  intro p l e R s m args below meth c G B mc ms C ls H locs cells slots hl hw hS hn
  obtain ⟨Cx, Cb, Cr, Cl, Ct, Co, Ck, Cn, Cf, Cm, CK, Cs, CB, CE⟩ := C
  have C : CX M d p R s m args meth c G B mc ms := ⟨Cx, Cb, Cr, Cl, Ct, Co, Ck, Cn, Cf, Cm, CK, Cs, CB, CE⟩
  obtain ⟨C', T, N, h1, h2, h3, h4, h5, h6, h7, h8⟩ := hF.kf
  have hP : va_at G.1 vwCl (B.1 + p0, .inr (ci, fs_ S B h p0 ci)) H := hw.2 p0 _ hk
  refine va_get (v := rn B v) Cx Cb Ct h6 Co CK (vaP1 hP) 0 rfl h1 k h2 (Ct _ h3) (fun _ z => z) ?_ hd (kn p l e R s m args below meth c G B mc ms C ls H locs cells slots hl hw hS hn)
  rw [fs_at (by rw [h5]; exact h2), hv]
/-- a field that is written: the machine's part -/
theorem xr_put {S : SH} {M : MD} {d : Nat} {p : Program} {l : Launch} {e : Env} {R : Room} {s : State} {m : MethodId} {args : Array Value} {below : List Frame} {meth : Method} {c : Code} {G : GG} {B : BB} {mc ms : Nat} {H : Heap} {locs : List Loc} {cells slots : Nat} {Z : State → Prop} {pc : Nat} {ls : Array Slot} {rest : List Value} {h : AH} (C : CX M d p R s m args meth c G B mc ms) (hS : va_S (fun q => B.1 ≤ q) s.heap H locs) (hw : Wd S G B h H)
    {index ci k p0 : Nat} {fin : Bool} {v : Value} (hF : FL M.1.cls index ci k fin) (hfin : fin = false ∨ M.1.name = "<init>" ∧ (∀ C T N, vwCl[ci]? = some (C, T, N) → (T k).1 = M.1.cls)) (hk : KD S h p0 = some (0, ci)) (hn : narrow (cTy ci k) v = v) (hfit : fits (cTy ci k) v = true) (hd : decode M.2.1 pc = .ok (.putfield index, 3))
    (kk : ∀ (H1 : Heap) (locs1 : List Loc), H1.size = H.size → (∀ q, q ≠ B.1 + p0 → H1[q]? = H[q]?) → va_at G.1 vwCl (B.1 + p0, .inr (ci, (fs_ S B h p0 ci).set k v)) H1 → va_S (fun q => B.1 ≤ q) s.heap H1 locs1 → W p l e R s m args below meth c H1 locs1 cells slots Z (F0 m (pc + 3) ls rest)) : W p l e R s m args below meth c H locs cells slots Z (F0 m pc ls (v :: .ref (B.1 + p0) :: rest)) := by
  obtain ⟨Cx, Cb, Cr, Cl, Ct, Co, Ck, Cn, Cf, Cm, CK, Cs, CB, CE⟩ := C
  obtain ⟨C', T, N, h1, h2, h3, h4, h5, h6, h7, h8⟩ := hF.kf
  have hl : k < (fs_ S B h p0 ci).length := by unfold fs_; simp; rw [h5]; exact h2
  obtain ⟨r, g1, cell, q1, q2, q3, q4⟩ : va_at G.1 vwCl (B.1 + p0, .inr (ci, fs_ S B h p0 ci)) H := hw.2 p0 _ hk
  cases g1.symm.trans h1
  have hap := va_apart (own := M.1.cls) Ct h6 (cTy ci) h7 h8 CK h1
  obtain ⟨f1, f2, kC, f3, f4⟩ := CK.1 ci _ h1
  obtain ⟨cf, kf, fi, fd, hi, hsl⟩ := f1 k h2
  have hst := (u_facts f2 f3 (u_lays Ct h6 h2) hi).1
  have fin1 : ∀ (H1 : Heap), H1[B.1 + p0]? = some (cell.setSlot (G.1.2 ci k) v) → va_at G.1 vwCl (B.1 + p0, .inr (ci, (fs_ S B h p0 ci).set k v)) H1 := fun H1 z => ⟨_, h1, t_OB.to (V := updV (vp_V (fs_ S B h p0 ci)) k v) ⟨_, z, q2, q3, t_set q4 hap h2 v⟩ (fun j _ => vp_updV_set hl v j)⟩
  have hlay := Ct _ (h6 _ (u_in_lay h2))
  unfold u_lay at hlay
  rw [h4] at hlay
  cases fin with
  | false =>
    rw [if_neg (by decide)] at hlay
    refine W.putK Cx Cb (f := fd) ⟨Co, Ct _ h3, ⟨_, _, _, hi⟩, hst⟩ (by rw [q2]; exact u_store f2 f3 f4 hlay hi (h7 k h2) hn hfit) q1 q3 (by rw [hsl]; exact k2_hasslot (q4 k h2)) rfl rfl hd fun H1 e1 e2 e3 => ?_
    rw [hsl] at e1 ⊢
    exact kk H1 _ e2 e3 (fin1 H1 e1) (hS.put e2 e3 (Nat.le_add_right _ _))
  | true =>
    rw [if_pos rfl] at hlay
    obtain ⟨hin, hdecl⟩ := hfin.resolve_left (by decide)
    have hcf : m.cls = cf := by
      obtain ⟨_, _, c', _, _, _, -, -, hf', -, -, -, hown2, -⟩ := Cond.laysFinal_spec hlay
      have e1 : c' = cf := by have := hi.symm.trans hf'; simp at this; exact this.1.symm
      rw [hdecl _ _ _ h1] at hown2
      rw [← e1]
      exact Option.some.inj (Co.symm.trans hown2)
    refine W.putFinK Cx Cb Co (Ct _ h3) hi hst hcf (Cn.trans hin) (by rw [q2]; exact u_fits f2 f3 f4 (Or.inr hlay) hi (h7 k h2) hn hfit) q1 q3 (by rw [hsl]; exact k2_hasslot (q4 k h2)) rfl rfl hd fun H1 e1 e2 e3 => ?_
    rw [hsl] at e1 ⊢
    exact kk H1 _ e2 e3 (fin1 H1 e1) (hS.put e2 e3 (Nat.le_add_right _ _))
theorem fs_set {S : SH} {B : BB} {h h2 : AH} {p ci k : Nat} {v : Value} (hk : k < cN ci) (e0 : rn B (avl S h2 p k (cTy ci k)) = v) (e1 : ∀ j, j ≠ k → avl S h2 p j (cTy ci j) = avl S h p j (cTy ci j)) : fs_ S B h2 p ci = (fs_ S B h p ci).set k v := by
  apply List.ext_getElem?
  intro j
  rw [List.getElem?_set]
  by_cases hj : k = j
  · subst hj
    rw [if_pos rfl, fs_at hk, e0, if_pos (by unfold fs_; simpa using hk)]
  · rw [if_neg hj]
    by_cases hl : j < cN ci
    · rw [fs_at hl, fs_at hl, e1 j (Ne.symm hj)]
    · unfold fs_
      simp [hl]
theorem wp_putI {S : SH} {M : MD} {d cb sb : Nat} {Q : Option Value → AH → Prop} {pc : Nat} {L st : List Value} {h : AH} {index ci k p0 : Nat} {fin : Bool} {x : Int32} (hF : FL M.1.cls index ci k fin) (hfin : fin = false ∨ M.1.name = "<init>" ∧ (∀ C T N, vwCl[ci]? = some (C, T, N) → (T k).1 = M.1.cls)) (hk : KD S h p0 = some (0, ci)) (hty : cTy ci k = .int ∨ cTy ci k = .boolean ∧ (x = 0 ∨ x = 1)) (hd : decode M.2.1 pc = .ok (.putfield index, 3)) {h1 : AH} (hh : stI h p0 k x = h1) (kn : WP S M d cb sb Q (pc + 3) L st h1) : WP S M d cb sb Q pc L (.int x :: .ref p0 :: st) h := by
  intro p l e R s m args below meth c G B mc ms C ls H locs cells slots hl hw hS hn
  obtain ⟨Cx, Cb, Cr, Cl, Ct, Co, Ck, Cn, Cf, Cm, CK, Cs, CB, CE⟩ := C
  have C : CX M d p R s m args meth c G B mc ms := ⟨Cx, Cb, Cr, Cl, Ct, Co, Ck, Cn, Cf, Cm, CK, Cs, CB, CE⟩
  subst hh
  have hkl : k < cN ci := by obtain ⟨C', T, N, h1, h2, h3, h4, h5, -⟩ := hF.kf; rw [h5]; exact h2
  have a0 : ∀ q, avl S (stI h p0 k x) p0 k (cTy ci k) = q → narrow (cTy ci k) q = q ∧ fits (cTy ci k) q = true ∧ q = .int x := by
    intro q hq
    subst hq
    rcases hty with hty | ⟨hty, rfl | rfl⟩ <;> simp [hty, avl, stI, u2, narrow, fits]
  have a1 : ∀ j, j ≠ k → avl S (stI h p0 k x) p0 j (cTy ci j) = avl S h p0 j (cTy ci j) := by
    intro j hj
    unfold avl stI RF
    cases cTy ci j <;> simp [u2, hj]
  have a2 := a0 _ rfl
  rw [a2.2.2] at a2
  refine xr_put C hS hw hF hfin hk (v := .int x) a2.1 a2.2.1 hd fun H1 locs1 e1 e2 e3 e4 => ?_
  refine kn p l e R s m args below meth c G B mc ms C ls H1 locs1 cells slots hl (hw.upd (h2 := stI h p0 k x) rfl hk e1 e2 ?_ (fun q kk hq => vcell_congr ?_ ?_ ?_ kk)) e4 hn
  · show va_at G.1 vwCl (B.1 + p0, .inr (ci, fs_ S B (stI h p0 k x) p0 ci)) H1
    rw [fs_set (h := h) (v := .int x) hkl (by rw [(a0 _ rfl).2.2]; rfl) a1]
    exact e3
  all_goals first | rfl | exact u2_row _ _ _ hq
theorem wp_putJ {S : SH} {M : MD} {d cb sb : Nat} {Q : Option Value → AH → Prop} {pc : Nat} {L st : List Value} {h : AH} {index ci k p0 : Nat} {fin : Bool} {x : Int64} (hF : FL M.1.cls index ci k fin) (hfin : fin = false ∨ M.1.name = "<init>" ∧ (∀ C T N, vwCl[ci]? = some (C, T, N) → (T k).1 = M.1.cls)) (hk : KD S h p0 = some (0, ci)) (hty : cTy ci k = .long) (hd : decode M.2.1 pc = .ok (.putfield index, 3)) {h1 : AH} (hh : stJ h p0 k x = h1) (kn : WP S M d cb sb Q (pc + 3) L st h1) : WP S M d cb sb Q pc L (.long x :: .ref p0 :: st) h := by
  intro p l e R s m args below meth c G B mc ms C ls H locs cells slots hl hw hS hn
  obtain ⟨Cx, Cb, Cr, Cl, Ct, Co, Ck, Cn, Cf, Cm, CK, Cs, CB, CE⟩ := C
  have C : CX M d p R s m args meth c G B mc ms := ⟨Cx, Cb, Cr, Cl, Ct, Co, Ck, Cn, Cf, Cm, CK, Cs, CB, CE⟩
  subst hh
  have hkl : k < cN ci := by obtain ⟨C', T, N, h1, h2, h3, h4, h5, -⟩ := hF.kf; rw [h5]; exact h2
  have a0 : ∀ q, avl S (stJ h p0 k x) p0 k (cTy ci k) = q → narrow (cTy ci k) q = q ∧ fits (cTy ci k) q = true ∧ q = .long x := by
    intro q hq
    subst hq
    have hty := hty <;> simp [hty, avl, stJ, u2, narrow, fits]
  have a1 : ∀ j, j ≠ k → avl S (stJ h p0 k x) p0 j (cTy ci j) = avl S h p0 j (cTy ci j) := by
    intro j hj
    unfold avl stJ RF
    cases cTy ci j <;> simp [u2, hj]
  have a2 := a0 _ rfl
  rw [a2.2.2] at a2
  refine xr_put C hS hw hF hfin hk (v := .long x) a2.1 a2.2.1 hd fun H1 locs1 e1 e2 e3 e4 => ?_
  refine kn p l e R s m args below meth c G B mc ms C ls H1 locs1 cells slots hl (hw.upd (h2 := stJ h p0 k x) rfl hk e1 e2 ?_ (fun q kk hq => vcell_congr ?_ ?_ ?_ kk)) e4 hn
  · show va_at G.1 vwCl (B.1 + p0, .inr (ci, fs_ S B (stJ h p0 k x) p0 ci)) H1
    rw [fs_set (h := h) (v := .long x) hkl (by rw [(a0 _ rfl).2.2]; rfl) a1]
    exact e3
  all_goals first | rfl | exact u2_row _ _ _ hq
theorem wp_putR {S : SH} {M : MD} {d cb sb : Nat} {Q : Option Value → AH → Prop} {pc : Nat} {L st : List Value} {h : AH} {index ci k p0 : Nat} {fin : Bool} {x : Option Nat} (hF : FL M.1.cls index ci k fin) (hfin : fin = false ∨ M.1.name = "<init>" ∧ (∀ C T N, vwCl[ci]? = some (C, T, N) → (T k).1 = M.1.cls)) (hk : KD S h p0 = some (0, ci)) (hty : (∃ C, cTy ci k = .object C) ∨ ∃ t, cTy ci k = .array t) (hs : S.2 p0 = none) (hd : decode M.2.1 pc = .ok (.putfield index, 3)) {h1 : AH} (hh : stR h p0 k x = h1) {v : Value} (hv : rfv x = v) (kn : WP S M d cb sb Q (pc + 3) L st h1) : WP S M d cb sb Q pc L (v :: .ref p0 :: st) h := by
  intro p l e R s m args below meth c G B mc ms C ls H locs cells slots hl hw hS hn
  obtain ⟨Cx, Cb, Cr, Cl, Ct, Co, Ck, Cn, Cf, Cm, CK, Cs, CB, CE⟩ := C
  have C : CX M d p R s m args meth c G B mc ms := ⟨Cx, Cb, Cr, Cl, Ct, Co, Ck, Cn, Cf, Cm, CK, Cs, CB, CE⟩
  subst hh
  subst hv
  have hkl : k < cN ci := by obtain ⟨C', T, N, h1, h2, h3, h4, h5, -⟩ := hF.kf; rw [h5]; exact h2
  have a0 : avl S (stR h p0 k x) p0 k (cTy ci k) = rfv x := by
    rcases hty with ⟨_, hty⟩ | ⟨_, hty⟩ <;> simp [hty, avl, RF, hs, stR, u2]
  have a2 : narrow (cTy ci k) (rn B (rfv x)) = rn B (rfv x) ∧ fits (cTy ci k) (rn B (rfv x)) = true := by
    rcases hty with ⟨_, hty⟩ | ⟨_, hty⟩ <;> rw [hty] <;> cases x <;> exact ⟨rfl, rfl⟩
  have a1 : ∀ j, j ≠ k → avl S (stR h p0 k x) p0 j (cTy ci j) = avl S h p0 j (cTy ci j) := by
    intro j hj
    unfold avl stR RF
    rw [hs]
    cases cTy ci j <;> simp [u2, hj]
  refine xr_put C hS hw hF hfin hk (v := rn B (rfv x)) a2.1 a2.2 hd fun H1 locs1 e1 e2 e3 e4 => ?_
  refine kn p l e R s m args below meth c G B mc ms C ls H1 locs1 cells slots hl (hw.upd (h2 := stR h p0 k x) rfl hk e1 e2 ?_ (fun q kk hq => vcell_congr ?_ ?_ ?_ kk)) e4 hn
  · show va_at G.1 vwCl (B.1 + p0, .inr (ci, fs_ S B (stR h p0 k x) p0 ci)) H1
    rw [fs_set (h := h) (v := rn B (rfv x)) hkl (by rw [a0]) a1]
    exact e3
  all_goals first | rfl | exact u2_row _ _ _ hq
theorem wp_iald {S : SH} {M : MD} {d cb sb : Nat} {Q : Option Value → AH → Prop} {pc : Nat} {L st : List Value} {h : AH} {p0 n : Nat} {i : Int32} (hk : KD S h p0 = some (1, n)) (hin : vp_in i n) (hd : decode M.2.1 pc = .ok (.iaload, 1)) (kn : WP S M d cb sb Q (pc + 1) L (.int (h.2.1 p0 i.toNatClampNeg) :: st) h) : WP S M d cb sb Q pc L (.int i :: .ref p0 :: st) h := by
  intro p l e R s m args below meth c G B mc ms C ls H locs cells slots hl hw hS hn
  obtain ⟨Cx, Cb, Cr, Cl, Ct, Co, Ck, Cn, Cf, Cm, CK, Cs, CB, CE⟩ := C
  have C : CX M d p R s m args meth c G B mc ms := ⟨Cx, Cb, Cr, Cl, Ct, Co, Ck, Cn, Cf, Cm, CK, Cs, CB, CE⟩
  exact va_iald Cx Cb CK (vaP1 (hw.2 p0 _ hk)) 0 0 rfl rfl hin hd (kn p l e R s m args below meth c G B mc ms C ls H locs cells slots hl hw hS hn)
theorem wp_lald {S : SH} {M : MD} {d cb sb : Nat} {Q : Option Value → AH → Prop} {pc : Nat} {L st : List Value} {h : AH} {p0 n : Nat} {i : Int32} (hk : KD S h p0 = some (2, n)) (hin : vp_in i n) (hd : decode M.2.1 pc = .ok (.laload, 1)) (kn : WP S M d cb sb Q (pc + 1) L (.long (h.2.2.1 p0 i.toNatClampNeg) :: st) h) : WP S M d cb sb Q pc L (.int i :: .ref p0 :: st) h := by
  intro p l e R s m args below meth c G B mc ms C ls H locs cells slots hl hw hS hn
  obtain ⟨Cx, Cb, Cr, Cl, Ct, Co, Ck, Cn, Cf, Cm, CK, Cs, CB, CE⟩ := C
  have C : CX M d p R s m args meth c G B mc ms := ⟨Cx, Cb, Cr, Cl, Ct, Co, Ck, Cn, Cf, Cm, CK, Cs, CB, CE⟩
  exact va_lald Cx Cb CK (vaP1 (hw.2 p0 _ hk)) 0 1 rfl rfl hin hd (kn p l e R s m args below meth c G B mc ms C ls H locs cells slots hl hw hS hn)
theorem wp_zald {S : SH} {M : MD} {d cb sb : Nat} {Q : Option Value → AH → Prop} {pc : Nat} {L st : List Value} {h : AH} {p0 n : Nat} {i : Int32} (hk : KD S h p0 = some (3, n)) (hin : vp_in i n) (hd : decode M.2.1 pc = .ok (.baload, 1)) (kn : WP S M d cb sb Q (pc + 1) L (.int (h.2.1 p0 i.toNatClampNeg) :: st) h) : WP S M d cb sb Q pc L (.int i :: .ref p0 :: st) h := by
  intro p l e R s m args below meth c G B mc ms C ls H locs cells slots hl hw hS hn
  obtain ⟨Cx, Cb, Cr, Cl, Ct, Co, Ck, Cn, Cf, Cm, CK, Cs, CB, CE⟩ := C
  have C : CX M d p R s m args meth c G B mc ms := ⟨Cx, Cb, Cr, Cl, Ct, Co, Ck, Cn, Cf, Cm, CK, Cs, CB, CE⟩
  exact va_zald Cx Cb CK (vaP1 (hw.2 p0 _ hk)) 0 2 rfl rfl hin hd (kn p l e R s m args below meth c G B mc ms C ls H locs cells slots hl hw hS hn)
theorem wp_aaldA {S : SH} {M : MD} {d cb sb : Nat} {Q : Option Value → AH → Prop} {pc : Nat} {L st : List Value} {h : AH} {p0 n : Nat} {i : Int32} (hk : KD S h p0 = some (4, n)) (hin : vp_in i n) (hd : decode M.2.1 pc = .ok (.aaload, 1)) {v : Value} (hv : rfv (RF S h p0 i.toNatClampNeg) = v) (kn : WP S M d cb sb Q (pc + 1) L (v :: st) h) : WP S M d cb sb Q pc L (.int i :: .ref p0 :: st) h := by
  intro p l e R s m args below meth c G B mc ms C ls H locs cells slots hl hw hS hn
  obtain ⟨Cx, Cb, Cr, Cl, Ct, Co, Ck, Cn, Cf, Cm, CK, Cs, CB, CE⟩ := C
  have C : CX M d p R s m args meth c G B mc ms := ⟨Cx, Cb, Cr, Cl, Ct, Co, Ck, Cn, Cf, Cm, CK, Cs, CB, CE⟩
  subst hv
  refine va_aldq Cx Cb CK (vaP1 (hw.2 p0 _ hk)) 0 3 rfl rfl hin hd ?_
  rw [← rn_rfv]
  exact kn p l e R s m args below meth c G B mc ms C ls H locs cells slots hl hw hS hn
theorem wp_aaldB {S : SH} {M : MD} {d cb sb : Nat} {Q : Option Value → AH → Prop} {pc : Nat} {L st : List Value} {h : AH} {p0 n : Nat} {i : Int32} (hk : KD S h p0 = some (5, n)) (hin : vp_in i n) (hd : decode M.2.1 pc = .ok (.aaload, 1)) {v : Value} (hv : rfv (RF S h p0 i.toNatClampNeg) = v) (kn : WP S M d cb sb Q (pc + 1) L (v :: st) h) : WP S M d cb sb Q pc L (.int i :: .ref p0 :: st) h := by
  intro p l e R s m args below meth c G B mc ms C ls H locs cells slots hl hw hS hn
  obtain ⟨Cx, Cb, Cr, Cl, Ct, Co, Ck, Cn, Cf, Cm, CK, Cs, CB, CE⟩ := C
  have C : CX M d p R s m args meth c G B mc ms := ⟨Cx, Cb, Cr, Cl, Ct, Co, Ck, Cn, Cf, Cm, CK, Cs, CB, CE⟩
  subst hv
  refine va_aldq Cx Cb CK (vaP1 (hw.2 p0 _ hk)) 0 4 rfl rfl hin hd ?_
  rw [← rn_rfv]
  exact kn p l e R s m args below meth c G B mc ms C ls H locs cells slots hl hw hS hn
theorem wp_alen {S : SH} {M : MD} {d cb sb : Nat} {Q : Option Value → AH → Prop} {pc : Nat} {L st : List Value} {h : AH} {p0 n t : Nat} (hk : KD S h p0 = some (t, n)) (ht : 1 ≤ t ∧ t ≤ 5) (hd : decode M.2.1 pc = .ok (.arraylength, 1)) (kn : WP S M d cb sb Q (pc + 1) L (.int (nI n) :: st) h) : WP S M d cb sb Q pc L (.ref p0 :: st) h := by
  intro p l e R s m args below meth c G B mc ms C ls H locs cells slots hl hw hS hn
  obtain ⟨Cx, Cb, Cr, Cl, Ct, Co, Ck, Cn, Cf, Cm, CK, Cs, CB, CE⟩ := C
  have C : CX M d p R s m args meth c G B mc ms := ⟨Cx, Cb, Cr, Cl, Ct, Co, Ck, Cn, Cf, Cm, CK, Cs, CB, CE⟩
  have hP := vaP1 (hw.2 p0 _ hk)
  have kn := kn p l e R s m args below meth c G B mc ms C ls H locs cells slots hl hw hS hn
  match t, ht, hP with
  | 1, _, hP => exact va_alen Cx Cb CK hP 0 0 rfl (ty := .int) rfl rfl hd kn
  | 2, _, hP => exact va_alen Cx Cb CK hP 0 1 rfl (ty := .long) rfl rfl hd kn
  | 3, _, hP => exact va_alen Cx Cb CK hP 0 2 rfl (ty := .boolean) rfl rfl hd kn
  | 4, _, hP => exact va_alen Cx Cb CK hP 0 3 rfl (ty := .object RX6) rfl rfl hd kn
  | 5, _, hP => exact va_alen Cx Cb CK hP 0 4 rfl (ty := .object RX8) rfl rfl hd kn
theorem wp_iast {S : SH} {M : MD} {d cb sb : Nat} {Q : Option Value → AH → Prop} {pc : Nat} {L st : List Value} {h : AH} {p0 n : Nat} {i : Int32} {x : Int32} (hk : KD S h p0 = some (1, n)) (hin : vp_in i n) (hd : decode M.2.1 pc = .ok (.iastore, 1)) {h1 : AH} (hh : stI h p0 i.toNatClampNeg x = h1) (kn : WP S M d cb sb Q (pc + 1) L st h1) : WP S M d cb sb Q pc L (.int x :: .int i :: .ref p0 :: st) h := by
  intro p l e R s m args below meth c G B mc ms C ls H locs cells slots hl hw hS hn
  obtain ⟨Cx, Cb, Cr, Cl, Ct, Co, Ck, Cn, Cf, Cm, CK, Cs, CB, CE⟩ := C
  have C : CX M d p R s m args meth c G B mc ms := ⟨Cx, Cb, Cr, Cl, Ct, Co, Ck, Cn, Cf, Cm, CK, Cs, CB, CE⟩
  subst hh
  refine W.iast Cx Cb (hw.2 p0 _ hk) ((CK.2 0 _ rfl).1 n (fun j => .int (h.2.1 p0 j))) (fun q => by cases q) (by show ¬ (i < 0 ∨ (arrV _ _ _).slots.size ≤ _); rw [arrV_size]; exact hin) rfl rfl hd fun H1 ez z oq => ?_
  refine kn p l e R s m args below meth c G B mc ms C ls H1 _ cells slots hl (hw.upd (h2 := stI h p0 i.toNatClampNeg x) rfl hk z oq ?_ (fun q kk hq => vcell_congr ?_ ?_ ?_ kk)) (hS.put z oq (Nat.le_add_right _ _)) hn
  · show H1[B.1 + p0]? = some (vp_cell _ _)
    rw [ez]
    show some ((vp_cell (G.2.1 0) (n, .inl (h.2.1 p0))).setSlot _ _) = _
    rw [vp_cell_i, vp_cell_i, arrV_store]
    congr 2
    funext q
    by_cases hq : q = i.toNatClampNeg
    · subst hq
      simp [updV, u2, stI]
    · simp [updV, u2, hq, stI]
  all_goals first | rfl | exact u2_row _ _ _ hq
theorem wp_last {S : SH} {M : MD} {d cb sb : Nat} {Q : Option Value → AH → Prop} {pc : Nat} {L st : List Value} {h : AH} {p0 n : Nat} {i : Int32} {x : Int64} (hk : KD S h p0 = some (2, n)) (hin : vp_in i n) (hd : decode M.2.1 pc = .ok (.lastore, 1)) {h1 : AH} (hh : stJ h p0 i.toNatClampNeg x = h1) (kn : WP S M d cb sb Q (pc + 1) L st h1) : WP S M d cb sb Q pc L (.long x :: .int i :: .ref p0 :: st) h := by
  intro p l e R s m args below meth c G B mc ms C ls H locs cells slots hl hw hS hn
  obtain ⟨Cx, Cb, Cr, Cl, Ct, Co, Ck, Cn, Cf, Cm, CK, Cs, CB, CE⟩ := C
  have C : CX M d p R s m args meth c G B mc ms := ⟨Cx, Cb, Cr, Cl, Ct, Co, Ck, Cn, Cf, Cm, CK, Cs, CB, CE⟩
  subst hh
  refine W.last Cx Cb (hw.2 p0 _ hk) ((CK.2 1 _ rfl).1 n (fun j => .long (h.2.2.1 p0 j))) (fun q => by cases q) (by show ¬ (i < 0 ∨ (arrV _ _ _).slots.size ≤ _); rw [arrV_size]; exact hin) rfl rfl hd fun H1 ez z oq => ?_
  refine kn p l e R s m args below meth c G B mc ms C ls H1 _ cells slots hl (hw.upd (h2 := stJ h p0 i.toNatClampNeg x) rfl hk z oq ?_ (fun q kk hq => vcell_congr ?_ ?_ ?_ kk)) (hS.put z oq (Nat.le_add_right _ _)) hn
  · show H1[B.1 + p0]? = some (vp_cell _ _)
    rw [ez]
    show some ((vp_cell (G.2.1 1) (n, .inr (.inl (h.2.2.1 p0)))).setSlot _ _) = _
    rw [vp_cell_l, vp_cell_l, arrV_store]
    congr 2
    funext q
    by_cases hq : q = i.toNatClampNeg
    · subst hq
      simp [updV, u2, stJ]
    · simp [updV, u2, hq, stJ]
  all_goals first | rfl | exact u2_row _ _ _ hq
theorem wp_zast {S : SH} {M : MD} {d cb sb : Nat} {Q : Option Value → AH → Prop} {pc : Nat} {L st : List Value} {h : AH} {p0 n : Nat} {i : Int32} {x : Int32} (hk : KD S h p0 = some (3, n)) (hin : vp_in i n) (hx : x = 0 ∨ x = 1) (hd : decode M.2.1 pc = .ok (.bastore, 1)) {h1 : AH} (hh : stI h p0 i.toNatClampNeg x = h1) (kn : WP S M d cb sb Q (pc + 1) L st h1) : WP S M d cb sb Q pc L (.int x :: .int i :: .ref p0 :: st) h := by
  intro p l e R s m args below meth c G B mc ms C ls H locs cells slots hl hw hS hn
  obtain ⟨Cx, Cb, Cr, Cl, Ct, Co, Ck, Cn, Cf, Cm, CK, Cs, CB, CE⟩ := C
  have C : CX M d p R s m args meth c G B mc ms := ⟨Cx, Cb, Cr, Cl, Ct, Co, Ck, Cn, Cf, Cm, CK, Cs, CB, CE⟩
  subst hh
  refine W.zast Cx Cb (hw.2 p0 _ hk) ((CK.2 2 _ rfl).1 n (fun j => .int (h.2.1 p0 j))) (fun q => by cases q) (by show ¬ (i < 0 ∨ (arrV _ _ _).slots.size ≤ _); rw [arrV_size]; exact hin) rfl rfl hd fun H1 ez z oq => ?_
  refine kn p l e R s m args below meth c G B mc ms C ls H1 _ cells slots hl (hw.upd (h2 := stI h p0 i.toNatClampNeg x) rfl hk z oq ?_ (fun q kk hq => vcell_congr ?_ ?_ ?_ kk)) (hS.put z oq (Nat.le_add_right _ _)) hn
  · show H1[B.1 + p0]? = some (vp_cell _ _)
    rw [ez]
    show some ((vp_cell (G.2.1 2) (n, .inl (h.2.1 p0))).setSlot _ _) = _
    rw [vp_cell_i, vp_cell_i, arrV_store]
    congr 2
    funext q
    by_cases hq : q = i.toNatClampNeg
    · subst hq
      rcases hx with rfl | rfl <;> simp [updV, u2, narrow, stI]
    · simp [updV, u2, hq, stI]
  all_goals first | rfl | exact u2_row _ _ _ hq
end
section
theorem cat_rn (B : BB) (v : Value) : (rn B v).category ≤ v.category := by cases v <;> simp [rn, Value.category]
theorem catsum (B : BB) (st : List Value) : ((st.map (rn B)).map fun v => v.category).sum ≤ (st.map fun v => v.category).sum := by
  induction st with
  | nil => exact Nat.le_refl _
  | cons v r ih => simp only [List.map_cons, List.sum_cons]; have := cat_rn B v; omega
def nwH (S : SH) (h : AH) (kk : Nat × Nat) : AH := (h.1 ++ [kk], (fun q j => if q = (S.1 ++ h.1).length then 0 else h.2.1 q j), (fun q j => if q = (S.1 ++ h.1).length then 0 else h.2.2.1 q j), fun q j => if q = (S.1 ++ h.1).length then none else h.2.2.2 q j)
theorem KD_nw {S : SH} {h : AH} {kk : Nat × Nat} {q : Nat} {z : Nat × Nat} (hz : KD S (nwH S h kk) q = some z) : (q < (S.1 ++ h.1).length ∧ KD S h q = some z) ∨ (q = (S.1 ++ h.1).length ∧ z = kk) := by
  unfold KD nwH at hz
  rw [← List.append_assoc] at hz
  by_cases hq : q < (S.1 ++ h.1).length
  · rw [List.getElem?_append_left hq] at hz
    exact Or.inl ⟨hq, hz⟩
  · rw [List.getElem?_append_right (by omega)] at hz
    have h1 : q - (S.1 ++ h.1).length < 1 := (List.getElem?_eq_some_iff.mp hz).1
    have h2 : q = (S.1 ++ h.1).length := by omega
    rw [h2, Nat.sub_self] at hz
    cases hz
    exact Or.inr ⟨h2, rfl⟩
theorem Wd.nw {S : SH} {G : GG} {B : BB} {h : AH} {H H1 : Heap} {kk : Nat × Nat} (hw : Wd S G B h H) (hz : H1.size = H.size + 1) (hq : ∀ q, q < H.size → H1[q]? = H[q]?) (hc : va_at G.1 vwCl (H.size, vcell S G B (nwH S h kk) (S.1 ++ h.1).length kk) H1) : Wd S G B (nwH S h kk) H1 := by
  refine ⟨by rw [hz, hw.1]; simp [nwH]; omega, fun q z hk => ?_⟩
  rcases KD_nw hk with ⟨h1, h2⟩ | ⟨h1, rfl⟩
  · have hne : q ≠ (S.1 ++ h.1).length := by omega
    rw [vcell_congr (h := h) (by funext j; simp only [nwH, if_neg hne]) (by funext j; simp only [nwH, if_neg hne]) (by funext j; simp only [nwH, if_neg hne])]
    exact (hw.2 q z h2).kept (hq _ (by show B.1 + q < H.size; rw [hw.1]; omega))
  · subst h1
    rw [← hw.1]
    exact hc
def okTy : FieldType → Bool
  | .int => true
  | .long => true
  | .boolean => true
  | .object _ => true
  | .array _ => true
  | _ => false
/-- a class as another's pool names it, for new -/
def NW (own : String) (index ci : Nat) : Prop := ∃ (C : String) (T : u_T) (N : Nat), vwCl[ci]? = some (C, T, N) ∧ Cond.classLink own index C ∈ TT ∧ Cond.instantiable C N ∈ TT ∧ Cond.initialized C ∈ TT ∧ KF ci ∧ ∀ k, k < N → okTy (cTy ci k) = true
theorem wp_new {S : SH} {M : MD} {d cb sb : Nat} {Q : Option Value → AH → Prop} {pc : Nat} {L st : List Value} {h : AH} {index ci n : Nat} (hF : NW M.1.cls index ci) (hn0 : cN ci = n) (hs : S.2 (S.1 ++ h.1).length = none) (hd : decode M.2.1 pc = .ok (.new index, 3)) (kn : WP S M d cb sb Q (pc + 3) L (.ref (S.1 ++ h.1).length :: st) (nwH S h (0, ci))) : WP S M d (cb + 1) (sb + n) Q pc L st h := by
  intro p l e R s m args below meth c G B mc ms C ls H locs cells slots hl hw hS hn
  obtain ⟨Cx, Cb, Cr, Cl, Ct, Co, Ck, Cn, Cf, Cm, CK, Cs, CB, CE⟩ := C
  have C : CX M d p R s m args meth c G B mc ms := ⟨Cx, Cb, Cr, Cl, Ct, Co, Ck, Cn, Cf, Cm, CK, Cs, CB, CE⟩
  subst hn0
  obtain ⟨C', T, N, h1, h2, h3, h4, ⟨C'', T'', N'', g1, g2, g3, g4, g5⟩, h6⟩ := hF
  cases g1.symm.trans h1
  have hKn := CK.1 ci _ h1
  have hs' := hs
  rw [List.length_append] at hs'
  rw [g2] at hn
  refine W.newcK Cx Cb Co (Ct _ h2) (Ct _ h3) (Ct _ h4) rfl hd (by omega) (by omega) hKn.2.1 rfl fun H1 kC hkC e1 z1 o1 => ?_
  have hb := u_born (cTy ci) Ct g3 hKn hkC e1 g4
  have hc : va_at G.1 vwCl (H.size, vcell S G B (nwH S h (0, ci)) (S.1 ++ h.1).length (0, ci)) H1 := by
    refine ⟨_, h1, hb.to (fun k hk => ?_)⟩
    show _ = vp_V (fs_ S B (nwH S h (0, ci)) (S.1 ++ h.1).length ci) k
    unfold vp_V
    rw [List.getD_eq_getElem?_getD, fs_at (by rw [g2]; exact hk)]
    have h7 := h6 k hk
    cases hty : cTy ci k <;> rw [hty] at h7 <;> first | (cases h7; done) | skip
    all_goals simp [defaultValue, avl, nwH, rn, RF, hs', rfv]
  have kk := kn p l e R s m args below meth c G B mc ms C ls H1 locs (cells + 1) (slots + N) hl (hw.nw z1 o1 hc) ⟨Nat.le_trans hS.1 (by omega), fun x q1 q2 => (o1 x (Nat.lt_of_lt_of_le q1 hS.1)).trans (hS.2.1 x q1 q2), hS.2.2⟩ (by omega)
  have e0 : rn B (.ref (S.1 ++ h.1).length) = .ref H.size := by show Value.ref _ = _; rw [hw.1]
  rw [List.map_cons, e0] at kk
  exact kk
theorem wp_newaI {S : SH} {M : MD} {d cb sb : Nat} {Q : Option Value → AH → Prop} {pc : Nat} {L st : List Value} {h : AH} {n : Int32} {N : Nat} (hc : Cond.arrayClass .int ∈ TT) (hn0 : ¬ n < 0) (hN : n.toNatClampNeg = N) (hN2 : N ≤ 1000000) (hs : S.2 (S.1 ++ h.1).length = none) (hd : decode M.2.1 pc = .ok (.newarray .int, 2)) (kn : WP S M d cb sb Q (pc + 2) L (.ref (S.1 ++ h.1).length :: st) (nwH S h (1, N))) : WP S M d (cb + 1) (sb + N) Q pc L (.int n :: st) h := by
  intro p l e R s m args below meth c G B mc ms C ls H locs cells slots hl hw hS hn
  obtain ⟨Cx, Cb, Cr, Cl, Ct, Co, Ck, Cn, Cf, Cm, CK, Cs, CB, CE⟩ := C
  have C : CX M d p R s m args meth c G B mc ms := ⟨Cx, Cb, Cr, Cl, Ct, Co, Ck, Cn, Cf, Cm, CK, Cs, CB, CE⟩
  refine va_newaK (atype := .int) Cx Cb (Ct _ hc) rfl hd rfl hn0 hN (by show N * _ ≤ _; simp [newarray.typeOf, componentBytes]; omega) (by omega) (by omega) rfl fun H1 cA e1 z1 o1 hAr hNm => ?_
  have hA : cA = G.2.1 0 := Option.some.inj (hNm.symm.trans (CK.2 0 _ rfl).2)
  subst hA
  have hcl : va_at G.1 vwCl (H.size, vcell S G B (nwH S h (1, N)) (S.1 ++ h.1).length (1, N)) H1 := by
    show H1[H.size]? = some (vp_cell _ _)
    rw [e1]
    unfold vp_cell
    simp [nwH, newarray.typeOf, defaultValue]
  have kk := kn p l e R s m args below meth c G B mc ms C ls H1 locs (cells + 1) (slots + N) hl (hw.nw z1 o1 hcl) ⟨Nat.le_trans hS.1 (by omega), fun x q1 q2 => (o1 x (Nat.lt_of_lt_of_le q1 hS.1)).trans (hS.2.1 x q1 q2), hS.2.2⟩ (by omega)
  have e0 : rn B (.ref (S.1 ++ h.1).length) = .ref H.size := by show Value.ref _ = _; rw [hw.1]
  rw [List.map_cons, e0] at kk
  exact kk
theorem wp_newaJ {S : SH} {M : MD} {d cb sb : Nat} {Q : Option Value → AH → Prop} {pc : Nat} {L st : List Value} {h : AH} {n : Int32} {N : Nat} (hc : Cond.arrayClass .long ∈ TT) (hn0 : ¬ n < 0) (hN : n.toNatClampNeg = N) (hN2 : N ≤ 1000000) (hs : S.2 (S.1 ++ h.1).length = none) (hd : decode M.2.1 pc = .ok (.newarray .long, 2)) (kn : WP S M d cb sb Q (pc + 2) L (.ref (S.1 ++ h.1).length :: st) (nwH S h (2, N))) : WP S M d (cb + 1) (sb + N) Q pc L (.int n :: st) h := by
  intro p l e R s m args below meth c G B mc ms C ls H locs cells slots hl hw hS hn
  obtain ⟨Cx, Cb, Cr, Cl, Ct, Co, Ck, Cn, Cf, Cm, CK, Cs, CB, CE⟩ := C
  have C : CX M d p R s m args meth c G B mc ms := ⟨Cx, Cb, Cr, Cl, Ct, Co, Ck, Cn, Cf, Cm, CK, Cs, CB, CE⟩
  refine va_newaK (atype := .long) Cx Cb (Ct _ hc) rfl hd rfl hn0 hN (by show N * _ ≤ _; simp [newarray.typeOf, componentBytes]; omega) (by omega) (by omega) rfl fun H1 cA e1 z1 o1 hAr hNm => ?_
  have hA : cA = G.2.1 1 := Option.some.inj (hNm.symm.trans (CK.2 1 _ rfl).2)
  subst hA
  have hcl : va_at G.1 vwCl (H.size, vcell S G B (nwH S h (2, N)) (S.1 ++ h.1).length (2, N)) H1 := by
    show H1[H.size]? = some (vp_cell _ _)
    rw [e1]
    unfold vp_cell
    simp [nwH, newarray.typeOf, defaultValue]
  have kk := kn p l e R s m args below meth c G B mc ms C ls H1 locs (cells + 1) (slots + N) hl (hw.nw z1 o1 hcl) ⟨Nat.le_trans hS.1 (by omega), fun x q1 q2 => (o1 x (Nat.lt_of_lt_of_le q1 hS.1)).trans (hS.2.1 x q1 q2), hS.2.2⟩ (by omega)
  have e0 : rn B (.ref (S.1 ++ h.1).length) = .ref H.size := by show Value.ref _ = _; rw [hw.1]
  rw [List.map_cons, e0] at kk
  exact kk
theorem wp_newaZ {S : SH} {M : MD} {d cb sb : Nat} {Q : Option Value → AH → Prop} {pc : Nat} {L st : List Value} {h : AH} {n : Int32} {N : Nat} (hc : Cond.arrayClass .boolean ∈ TT) (hn0 : ¬ n < 0) (hN : n.toNatClampNeg = N) (hN2 : N ≤ 1000000) (hs : S.2 (S.1 ++ h.1).length = none) (hd : decode M.2.1 pc = .ok (.newarray .boolean, 2)) (kn : WP S M d cb sb Q (pc + 2) L (.ref (S.1 ++ h.1).length :: st) (nwH S h (3, N))) : WP S M d (cb + 1) (sb + N) Q pc L (.int n :: st) h := by
  intro p l e R s m args below meth c G B mc ms C ls H locs cells slots hl hw hS hn
  obtain ⟨Cx, Cb, Cr, Cl, Ct, Co, Ck, Cn, Cf, Cm, CK, Cs, CB, CE⟩ := C
  have C : CX M d p R s m args meth c G B mc ms := ⟨Cx, Cb, Cr, Cl, Ct, Co, Ck, Cn, Cf, Cm, CK, Cs, CB, CE⟩
  refine va_newaK (atype := .boolean) Cx Cb (Ct _ hc) rfl hd rfl hn0 hN (by show N * _ ≤ _; simp [newarray.typeOf, componentBytes]; omega) (by omega) (by omega) rfl fun H1 cA e1 z1 o1 hAr hNm => ?_
  have hA : cA = G.2.1 2 := Option.some.inj (hNm.symm.trans (CK.2 2 _ rfl).2)
  subst hA
  have hcl : va_at G.1 vwCl (H.size, vcell S G B (nwH S h (3, N)) (S.1 ++ h.1).length (3, N)) H1 := by
    show H1[H.size]? = some (vp_cell _ _)
    rw [e1]
    unfold vp_cell
    simp [nwH, newarray.typeOf, defaultValue]
  have kk := kn p l e R s m args below meth c G B mc ms C ls H1 locs (cells + 1) (slots + N) hl (hw.nw z1 o1 hcl) ⟨Nat.le_trans hS.1 (by omega), fun x q1 q2 => (o1 x (Nat.lt_of_lt_of_le q1 hS.1)).trans (hS.2.1 x q1 q2), hS.2.2⟩ (by omega)
  have e0 : rn B (.ref (S.1 ++ h.1).length) = .ref H.size := by show Value.ref _ = _; rw [hw.1]
  rw [List.map_cons, e0] at kk
  exact kk
theorem wp_anewA {S : SH} {M : MD} {d cb sb : Nat} {Q : Option Value → AH → Prop} {pc : Nat} {L st : List Value} {h : AH} {n : Int32} {N index : Nat} (hc : Cond.classLink M.1.cls index RX6 ∈ TT) (hn0 : ¬ n < 0) (hN : n.toNatClampNeg = N) (hN2 : N ≤ 1000000) (hs : S.2 (S.1 ++ h.1).length = none) (hd : decode M.2.1 pc = .ok (.anewarray index, 3)) (kn : WP S M d cb sb Q (pc + 3) L (.ref (S.1 ++ h.1).length :: st) (nwH S h (4, N))) : WP S M d (cb + 1) (sb + N) Q pc L (.int n :: st) h := by
  intro p l e R s m args below meth c G B mc ms C ls H locs cells slots hl hw hS hn
  obtain ⟨Cx, Cb, Cr, Cl, Ct, Co, Ck, Cn, Cf, Cm, CK, Cs, CB, CE⟩ := C
  have C : CX M d p R s m args meth c G B mc ms := ⟨Cx, Cb, Cr, Cl, Ct, Co, Ck, Cn, Cf, Cm, CK, Cs, CB, CE⟩
  subst hN
  refine W.anew Cx Cb Co (Ct _ hc) (va_AO.use Cs.2.2.2.2.1) rfl hd rfl hn0 (by omega) (by omega) (by omega) fun cA kA comp f1 f2 f3 f4 => ?_
  have hA : cA = G.2.1 3 := by
    obtain ⟨kA', comp', r1, r2, r3, r4⟩ : va_RA s (G.2.1 3) (.object RX6) := (CK.2 3 _ rfl).2
    exact Option.some.inj (f1.symm.trans r4)
  subst hA
  have z1 : (H.push ({ cls := G.2.1 3, slots := Array.replicate n.toNatClampNeg .null, vm := .none } : Cell)).size = H.size + 1 := Array.size_push _
  have o1 : ∀ q : Nat, q < H.size → (H.push ({ cls := G.2.1 3, slots := Array.replicate n.toNatClampNeg .null, vm := .none } : Cell))[q]? = H[q]? := fun q hq => by rw [Array.getElem?_push, if_neg (Nat.ne_of_lt hq)]
  have hcl : va_at G.1 vwCl (H.size, vcell S G B (nwH S h (4, n.toNatClampNeg)) (S.1 ++ h.1).length (4, n.toNatClampNeg)) (H.push ({ cls := G.2.1 3, slots := Array.replicate n.toNatClampNeg .null, vm := .none } : Cell)) := by
    show (H.push _)[H.size]? = some (vp_cell _ _)
    rw [Array.getElem?_push_size, arrV_new, vp_cell_q]
    congr 2
    funext j
    have hs' := hs
    rw [List.length_append] at hs'
    simp [RF, nwH, hs', va_rf]
  have kk := kn p l e R s m args below meth c G B mc ms C ls _ locs (cells + 1) (slots + n.toNatClampNeg) hl (hw.nw z1 o1 hcl) ⟨Nat.le_trans hS.1 (by omega), fun x q1 q2 => (o1 x (Nat.lt_of_lt_of_le q1 hS.1)).trans (hS.2.1 x q1 q2), hS.2.2⟩ (by omega)
  have e0 : rn B (.ref (S.1 ++ h.1).length) = .ref H.size := by show Value.ref _ = _; rw [hw.1]
  rw [List.map_cons, e0] at kk
  exact kk
theorem wp_aastA {S : SH} {M : MD} {d cb sb : Nat} {Q : Option Value → AH → Prop} {pc : Nat} {L st : List Value} {h : AH} {p0 n v : Nat} {i : Int32} (hk : KD S h p0 = some (4, n)) (hv : KD S h v = some (0, 6)) (hs : S.2 p0 = none) (hin : vp_in i n) (hd : decode M.2.1 pc = .ok (.aastore, 1)) {h1 : AH} (hh : stR h p0 i.toNatClampNeg (some v) = h1) (kn : WP S M d cb sb Q (pc + 1) L st h1) : WP S M d cb sb Q pc L (.ref v :: .int i :: .ref p0 :: st) h := by
  intro p l e R s m args below meth c G B mc ms C ls H locs cells slots hl hw hS hn
  obtain ⟨Cx, Cb, Cr, Cl, Ct, Co, Ck, Cn, Cf, Cm, CK, Cs, CB, CE⟩ := C
  have C : CX M d p R s m args meth c G B mc ms := ⟨Cx, Cb, Cr, Cl, Ct, Co, Ck, Cn, Cf, Cm, CK, Cs, CB, CE⟩
  subst hh
  have hlt : i.toNatClampNeg < n := Nat.not_le.mp fun q => hin (Or.inr q)
  have h0 : ¬ i < 0 := fun q => hin (Or.inl q)
  have hrow : va_at G.1 vwCl (B.1 + p0, .inl (G.2.1 3, n, .inr (.inr (.inr (.inr (fun j => (RF S h p0 j).map (B.1 + ·))))))) H := hw.2 p0 _ hk
  obtain ⟨r', hr', cellV, g1, g2, g3, -⟩ : va_at G.1 vwCl (B.1 + v, .inr (6, fs_ S B h v 6)) H := hw.2 v _ hv
  have hcls := (CK.1 6 _ rfl).2
  obtain ⟨kA, comp, k1, k2, k3, -⟩ : va_RA s (G.2.1 3) (.object RX6) := (CK.2 3 _ rfl).2
  have hcomp : comp = G.1.1 6 := Option.some.inj (k3.symm.trans hcls.1)
  subst hcomp
  obtain ⟨kC, hkC, -⟩ := hcls.2
  refine W.aast Cx Cb (show H[B.1 + p0]? = some (vp_cell _ _) from hrow) (fun q h => by cases h) (fun h => by cases h) k1 k2 rfl hkC ⟨h0, by show _ < (arrV _ _ _).slots.size; rw [arrV_size]; exact hlt⟩ g1 (fun q h => by rw [g3] at h; cases h) (by rw [g2]; exact hkC) (by rw [g2]; exact va_assign hcls) rfl rfl hd fun H1 ez z oq => ?_
  refine kn p l e R s m args below meth c G B mc ms C ls H1 _ cells slots hl (hw.upd (h2 := stR h p0 i.toNatClampNeg (some v)) rfl hk z oq ?_ (fun q kk hq => vcell_congr ?_ ?_ ?_ kk)) (hS.put z oq (Nat.le_add_right _ _)) hn
  · show H1[B.1 + p0]? = some (vp_cell _ _)
    rw [ez]
    rw [vp_cell_q, vp_cell_q, arrV_store]
    congr 2
    funext q
    by_cases hq : q = i.toNatClampNeg
    · subst hq
      simp [updV, stR, u2, RF, hs, va_rf]
    · simp [updV, stR, u2, hq, RF, hs]
  all_goals first | rfl | exact u2_row _ _ _ hq
theorem wp_anewB {S : SH} {M : MD} {d cb sb : Nat} {Q : Option Value → AH → Prop} {pc : Nat} {L st : List Value} {h : AH} {n : Int32} {N index : Nat} (hc : Cond.classLink M.1.cls index RX8 ∈ TT) (hn0 : ¬ n < 0) (hN : n.toNatClampNeg = N) (hN2 : N ≤ 1000000) (hs : S.2 (S.1 ++ h.1).length = none) (hd : decode M.2.1 pc = .ok (.anewarray index, 3)) (kn : WP S M d cb sb Q (pc + 3) L (.ref (S.1 ++ h.1).length :: st) (nwH S h (5, N))) : WP S M d (cb + 1) (sb + N) Q pc L (.int n :: st) h := by
  intro p l e R s m args below meth c G B mc ms C ls H locs cells slots hl hw hS hn
  obtain ⟨Cx, Cb, Cr, Cl, Ct, Co, Ck, Cn, Cf, Cm, CK, Cs, CB, CE⟩ := C
  have C : CX M d p R s m args meth c G B mc ms := ⟨Cx, Cb, Cr, Cl, Ct, Co, Ck, Cn, Cf, Cm, CK, Cs, CB, CE⟩
  subst hN
  refine W.anew Cx Cb Co (Ct _ hc) (va_AO.use Cs.2.2.2.2.2.1) rfl hd rfl hn0 (by omega) (by omega) (by omega) fun cA kA comp f1 f2 f3 f4 => ?_
  have hA : cA = G.2.1 4 := by
    obtain ⟨kA', comp', r1, r2, r3, r4⟩ : va_RA s (G.2.1 4) (.object RX8) := (CK.2 4 _ rfl).2
    exact Option.some.inj (f1.symm.trans r4)
  subst hA
  have z1 : (H.push ({ cls := G.2.1 4, slots := Array.replicate n.toNatClampNeg .null, vm := .none } : Cell)).size = H.size + 1 := Array.size_push _
  have o1 : ∀ q : Nat, q < H.size → (H.push ({ cls := G.2.1 4, slots := Array.replicate n.toNatClampNeg .null, vm := .none } : Cell))[q]? = H[q]? := fun q hq => by rw [Array.getElem?_push, if_neg (Nat.ne_of_lt hq)]
  have hcl : va_at G.1 vwCl (H.size, vcell S G B (nwH S h (5, n.toNatClampNeg)) (S.1 ++ h.1).length (5, n.toNatClampNeg)) (H.push ({ cls := G.2.1 4, slots := Array.replicate n.toNatClampNeg .null, vm := .none } : Cell)) := by
    show (H.push _)[H.size]? = some (vp_cell _ _)
    rw [Array.getElem?_push_size, arrV_new, vp_cell_q]
    congr 2
    funext j
    have hs' := hs
    rw [List.length_append] at hs'
    simp [RF, nwH, hs', va_rf]
  have kk := kn p l e R s m args below meth c G B mc ms C ls _ locs (cells + 1) (slots + n.toNatClampNeg) hl (hw.nw z1 o1 hcl) ⟨Nat.le_trans hS.1 (by omega), fun x q1 q2 => (o1 x (Nat.lt_of_lt_of_le q1 hS.1)).trans (hS.2.1 x q1 q2), hS.2.2⟩ (by omega)
  have e0 : rn B (.ref (S.1 ++ h.1).length) = .ref H.size := by show Value.ref _ = _; rw [hw.1]
  rw [List.map_cons, e0] at kk
  exact kk
theorem wp_aastB {S : SH} {M : MD} {d cb sb : Nat} {Q : Option Value → AH → Prop} {pc : Nat} {L st : List Value} {h : AH} {p0 n v : Nat} {i : Int32} (hk : KD S h p0 = some (5, n)) (hv : KD S h v = some (0, 8)) (hs : S.2 p0 = none) (hin : vp_in i n) (hd : decode M.2.1 pc = .ok (.aastore, 1)) {h1 : AH} (hh : stR h p0 i.toNatClampNeg (some v) = h1) (kn : WP S M d cb sb Q (pc + 1) L st h1) : WP S M d cb sb Q pc L (.ref v :: .int i :: .ref p0 :: st) h := by
  intro p l e R s m args below meth c G B mc ms C ls H locs cells slots hl hw hS hn
  obtain ⟨Cx, Cb, Cr, Cl, Ct, Co, Ck, Cn, Cf, Cm, CK, Cs, CB, CE⟩ := C
  have C : CX M d p R s m args meth c G B mc ms := ⟨Cx, Cb, Cr, Cl, Ct, Co, Ck, Cn, Cf, Cm, CK, Cs, CB, CE⟩
  subst hh
  have hlt : i.toNatClampNeg < n := Nat.not_le.mp fun q => hin (Or.inr q)
  have h0 : ¬ i < 0 := fun q => hin (Or.inl q)
  have hrow : va_at G.1 vwCl (B.1 + p0, .inl (G.2.1 4, n, .inr (.inr (.inr (.inr (fun j => (RF S h p0 j).map (B.1 + ·))))))) H := hw.2 p0 _ hk
  obtain ⟨r', hr', cellV, g1, g2, g3, -⟩ : va_at G.1 vwCl (B.1 + v, .inr (8, fs_ S B h v 8)) H := hw.2 v _ hv
  have hcls := (CK.1 8 _ rfl).2
  obtain ⟨kA, comp, k1, k2, k3, -⟩ : va_RA s (G.2.1 4) (.object RX8) := (CK.2 4 _ rfl).2
  have hcomp : comp = G.1.1 8 := Option.some.inj (k3.symm.trans hcls.1)
  subst hcomp
  obtain ⟨kC, hkC, -⟩ := hcls.2
  refine W.aast Cx Cb (show H[B.1 + p0]? = some (vp_cell _ _) from hrow) (fun q h => by cases h) (fun h => by cases h) k1 k2 rfl hkC ⟨h0, by show _ < (arrV _ _ _).slots.size; rw [arrV_size]; exact hlt⟩ g1 (fun q h => by rw [g3] at h; cases h) (by rw [g2]; exact hkC) (by rw [g2]; exact va_assign hcls) rfl rfl hd fun H1 ez z oq => ?_
  refine kn p l e R s m args below meth c G B mc ms C ls H1 _ cells slots hl (hw.upd (h2 := stR h p0 i.toNatClampNeg (some v)) rfl hk z oq ?_ (fun q kk hq => vcell_congr ?_ ?_ ?_ kk)) (hS.put z oq (Nat.le_add_right _ _)) hn
  · show H1[B.1 + p0]? = some (vp_cell _ _)
    rw [ez]
    rw [vp_cell_q, vp_cell_q, arrV_store]
    congr 2
    funext q
    by_cases hq : q = i.toNatClampNeg
    · subst hq
      simp [updV, stR, u2, RF, hs, va_rf]
    · simp [updV, stR, u2, hq, RF, hs]
  all_goals first | rfl | exact u2_row _ _ _ hq
theorem wp_mmax {S : SH} {M : MD} {d cb sb : Nat} {Q : Option Value → AH → Prop} {pc : Nat} {L st : List Value} {h : AH} {index : Nat} {x y : Int32} (hlk : Cond.methodLink M.1.cls index Lib.Math.max.name ∈ TT) (hst : Cond.static Lib.Math.max.name ∈ TT) (hini : Cond.initialized "java/lang/Math" ∈ TT) (hco : Cond.code Lib.Math.max.name Lib.Math.max.code 2 (some .int) ∈ TT) (hr : (st.map fun v => v.category).sum ≤ 8) (hd : decode M.2.1 pc = .ok (.invokestatic index, 3)) (kn : WP S M (d + 1) cb sb Q (pc + 3) L (.int (if x < y then y else x) :: st) h) : WP S M (d + 1) cb sb Q pc L (.int y :: .int x :: st) h := by
  intro p l e R s m args below meth c G B mc ms C ls H locs cells slots hl hw hS hn
  obtain ⟨Cx, Cb, Cr, Cl, Ct, Co, Ck, Cn, Cf, Cm, CK, Cs, CB, CE⟩ := C
  have C : CX M (d + 1) p R s m args meth c G B mc ms := ⟨Cx, Cb, Cr, Cl, Ct, Co, Ck, Cn, Cf, Cm, CK, Cs, CB, CE⟩
  have hr2 := catsum B st
  exact va_mmax Cx Cb (Cl.trans hl.1.symm) Co (Ct _ hlk) (Ct _ hst) (Ct _ hini) (Ct _ hco) (by omega) (by omega) (by omega) (by omega) hd (kn p l e R s m args below meth c G B mc ms C ls H locs cells slots hl hw hS hn)
theorem wp_mmin {S : SH} {M : MD} {d cb sb : Nat} {Q : Option Value → AH → Prop} {pc : Nat} {L st : List Value} {h : AH} {index : Nat} {x y : Int32} (hlk : Cond.methodLink M.1.cls index Lib.Math.min.name ∈ TT) (hst : Cond.static Lib.Math.min.name ∈ TT) (hini : Cond.initialized "java/lang/Math" ∈ TT) (hco : Cond.code Lib.Math.min.name Lib.Math.min.code 2 (some .int) ∈ TT) (hr : (st.map fun v => v.category).sum ≤ 8) (hd : decode M.2.1 pc = .ok (.invokestatic index, 3)) (kn : WP S M (d + 1) cb sb Q (pc + 3) L (.int (if y < x then y else x) :: st) h) : WP S M (d + 1) cb sb Q pc L (.int y :: .int x :: st) h := by
  intro p l e R s m args below meth c G B mc ms C ls H locs cells slots hl hw hS hn
  obtain ⟨Cx, Cb, Cr, Cl, Ct, Co, Ck, Cn, Cf, Cm, CK, Cs, CB, CE⟩ := C
  have C : CX M (d + 1) p R s m args meth c G B mc ms := ⟨Cx, Cb, Cr, Cl, Ct, Co, Ck, Cn, Cf, Cm, CK, Cs, CB, CE⟩
  have hr2 := catsum B st
  exact va_mmin Cx Cb (Cl.trans hl.1.symm) Co (Ct _ hlk) (Ct _ hst) (Ct _ hini) (Ct _ hco) (by omega) (by omega) (by omega) (by omega) hd (kn p l e R s m args below meth c G B mc ms C ls H locs cells slots hl hw hS hn)
theorem wp_mabs {S : SH} {M : MD} {d cb sb : Nat} {Q : Option Value → AH → Prop} {pc : Nat} {L st : List Value} {h : AH} {index : Nat} {x : Int32} (hlk : Cond.methodLink M.1.cls index Lib.Math.abs.name ∈ TT) (hst : Cond.static Lib.Math.abs.name ∈ TT) (hini : Cond.initialized "java/lang/Math" ∈ TT) (hco : Cond.code Lib.Math.abs.name Lib.Math.abs.code 1 (some .int) ∈ TT) (hr : (st.map fun v => v.category).sum ≤ 8) (hd : decode M.2.1 pc = .ok (.invokestatic index, 3)) (kn : WP S M (d + 1) cb sb Q (pc + 3) L (.int (if 0 ≤ x then x else 0 - x) :: st) h) : WP S M (d + 1) cb sb Q pc L (.int x :: st) h := by
  intro p l e R s m args below meth c G B mc ms C ls H locs cells slots hl hw hS hn
  obtain ⟨Cx, Cb, Cr, Cl, Ct, Co, Ck, Cn, Cf, Cm, CK, Cs, CB, CE⟩ := C
  have C : CX M (d + 1) p R s m args meth c G B mc ms := ⟨Cx, Cb, Cr, Cl, Ct, Co, Ck, Cn, Cf, Cm, CK, Cs, CB, CE⟩
  have hr2 := catsum B st
  exact va_mabs Cx Cb (Cl.trans hl.1.symm) Co (Ct _ hlk) (Ct _ hst) (Ct _ hini) (Ct _ hco) (by omega) (by omega) (by omega) (by omega) hd (kn p l e R s m args below meth c G B mc ms C ls H locs cells slots hl hw hS hn)
theorem wp_objInit {S : SH} {M : MD} {d cb sb : Nat} {Q : Option Value → AH → Prop} {pc : Nat} {L st : List Value} {h : AH} {index p0 : Nat} (hlk : Cond.methodLink M.1.cls index objectInit ∈ TT) (hi : Cond.instanceMethod objectInit ∈ TT) (hco : Cond.code objectInit ⟨#[0xb1]⟩ 1 none ∈ TT) (hr : (st.map fun v => v.category).sum ≤ 8) (hd : decode M.2.1 pc = .ok (.invokespecial index, 3)) (kn : WP S M (d + 1) cb sb Q (pc + 3) L st h) : WP S M (d + 1) cb sb Q pc L (.ref p0 :: st) h := by
  intro p l e R s m args below meth c G B mc ms C ls H locs cells slots hl hw hS hn
  obtain ⟨Cx, Cb, Cr, Cl, Ct, Co, Ck, Cn, Cf, Cm, CK, Cs, CB, CE⟩ := C
  have C : CX M (d + 1) p R s m args meth c G B mc ms := ⟨Cx, Cb, Cr, Cl, Ct, Co, Ck, Cn, Cf, Cm, CK, Cs, CB, CE⟩
  have hr2 := catsum B st
  exact W.objInit Cx Cb Co (Ct _ hlk) (Ct _ hi) (Ct _ hco) rfl (hl.1.trans Cl.symm) rfl hd (by omega) (by show 2 * 0 + _ + 12 ≤ _; omega) (kn p l e R s m args below meth c G B mc ms C ls H locs cells slots hl hw hS hn)
theorem wp_iret {S : SH} {M : MD} {d cb sb : Nat} {Q : Option Value → AH → Prop} {pc : Nat} {L : List Value} {h : AH} {x : Int32} {ty : FieldType} (hr : M.2.2.2.1 = some ty) (hna : narrow ty (.int x) = .int x) (hd : decode M.2.1 pc = .ok (.ireturn, 1)) (kn : Q (some (.int x)) h) : WP S M d cb sb Q pc L [.int x] h := by
  intro p l e R s m args below meth c G B mc ms C ls H locs cells slots hl hw hS hn
  obtain ⟨Cx, Cb, Cr, Cl, Ct, Co, Ck, Cn, Cf, Cm, CK, Cs, CB, CE⟩ := C
  have C : CX M d p R s m args meth c G B mc ms := ⟨Cx, Cb, Cr, Cl, Ct, Co, Ck, Cn, Cf, Cm, CK, Cs, CB, CE⟩
  refine W.widen (k := mc) (n := ms) (by omega) (by omega) ?_
  exact W.zret Cx Cb (Cr.trans hr) hna (fun t ht hW => ⟨some (.int x), h, rfl, kn, by rw [ht]; exact hw, hS.F ht⟩) hS.2.2 hd
theorem wp_lret {S : SH} {M : MD} {d cb sb : Nat} {Q : Option Value → AH → Prop} {pc : Nat} {L : List Value} {h : AH} {x : Int64} (hr : M.2.2.2.1 = some .long) (hd : decode M.2.1 pc = .ok (.lreturn, 1)) (kn : Q (some (.long x)) h) : WP S M d cb sb Q pc L [.long x] h := by
  intro p l e R s m args below meth c G B mc ms C ls H locs cells slots hl hw hS hn
  obtain ⟨Cx, Cb, Cr, Cl, Ct, Co, Ck, Cn, Cf, Cm, CK, Cs, CB, CE⟩ := C
  have C : CX M d p R s m args meth c G B mc ms := ⟨Cx, Cb, Cr, Cl, Ct, Co, Ck, Cn, Cf, Cm, CK, Cs, CB, CE⟩
  refine W.widen (k := mc) (n := ms) (by omega) (by omega) ?_
  exact W.lret Cx Cb (Cr.trans hr) (fun t ht hW => ⟨some (.long x), h, rfl, kn, by rw [ht]; exact hw, hS.F ht⟩) hS.2.2 hd
theorem wp_vret {S : SH} {M : MD} {d cb sb : Nat} {Q : Option Value → AH → Prop} {pc : Nat} {L : List Value} {h : AH} (hr : M.2.2.2.1 = none) (hd : decode M.2.1 pc = .ok (.return_, 1)) (kn : Q none h) : WP S M d cb sb Q pc L [] h := by
  intro p l e R s m args below meth c G B mc ms C ls H locs cells slots hl hw hS hn
  obtain ⟨Cx, Cb, Cr, Cl, Ct, Co, Ck, Cn, Cf, Cm, CK, Cs, CB, CE⟩ := C
  have C : CX M d p R s m args meth c G B mc ms := ⟨Cx, Cb, Cr, Cl, Ct, Co, Ck, Cn, Cf, Cm, CK, Cs, CB, CE⟩
  refine W.widen (k := mc) (n := ms) (by omega) (by omega) ?_
  exact W.vret Cx Cb (Cr.trans hr) (fun t ht hW => ⟨none, h, rfl, kn, by rw [ht]; exact hw, hS.F ht⟩) hS.2.2 hd
theorem wp_aret {S : SH} {M : MD} {d cb sb : Nat} {Q : Option Value → AH → Prop} {pc : Nat} {L : List Value} {h : AH} {x : Nat} {ty : FieldType} (hr : M.2.2.2.1 = some ty) (hty : (∃ n, ty = .object n) ∨ ∃ t, ty = .array t) (hd : decode M.2.1 pc = .ok (.areturn, 1)) (kn : Q (some (.ref x)) h) : WP S M d cb sb Q pc L [.ref x] h := by
  intro p l e R s m args below meth c G B mc ms C ls H locs cells slots hl hw hS hn
  obtain ⟨Cx, Cb, Cr, Cl, Ct, Co, Ck, Cn, Cf, Cm, CK, Cs, CB, CE⟩ := C
  have C : CX M d p R s m args meth c G B mc ms := ⟨Cx, Cb, Cr, Cl, Ct, Co, Ck, Cn, Cf, Cm, CK, Cs, CB, CE⟩
  refine W.widen (k := mc) (n := ms) (by omega) (by omega) ?_
  exact W.aret Cx Cb (Cr.trans hr) hty (Or.inr ⟨_, rfl⟩) (fun t ht hW => ⟨some (.ref x), h, rfl, kn, by rw [ht]; exact hw, hS.F ht⟩) hS.2.2 hd
theorem goodTT : GoodIn TT TT := fun w h => ⟨h, good_of_word (tt_good w h)⟩
/-- a method that the tables know: its code, how many arguments its text has -/
def MF (N : MD) (n : Nat) : Prop := Cond.code N.1 N.2.1 N.2.2.1 N.2.2.2.1 ∈ TT ∧ Cond.initialized N.1.cls ∈ TT ∧ (N.1.cls ≠ "java/lang/invoke/MethodHandle" ∧ N.1.cls ≠ "java/lang/invoke/VarHandle" ∧ (parseMethodDescriptor N.1.desc).map (fun d => d.parameters.length) = some n) ∧ N.2.2.1 ≤ 45
theorem goodWS {N : MD} {n : Nat} (h : MF N n) : GoodIn TT (WS N) := fun w hw => by
  rcases List.mem_cons.mp hw with rfl | hw
  · exact ⟨h.1, good_of_word (tt_good _ h.1)⟩
  · exact goodTT w hw
theorem blindPC {S : SH} {G : GG} {B : BB} {as : List Value} {h : AH} : FrameBlind (PC S G B as h) := fun a U g mk q => by
  obtain ⟨q0, q1, q2, q3⟩ := q
  exact ⟨q0, q1, va_K.moved (u := U) (U := U.calling g mk a) (Vm.Alike.refl U.vm) q2, q3.same rfl rfl⟩
/-- behind a call -/
theorem back_to {S : SH} {M : MD} {d : Nat} {p : Program} {l : Launch} {e : Env} {R : Room} {s : State} {m : MethodId} {args : Array Value} {below : List Frame} {meth : Method} {c : Code} {G : GG} {B : BB} {mc ms : Nat} {H : Heap} {locs : List Loc} {cells slots : Nat} {pc : Nat} {ls : Array Slot} {L st0 rest : List Value} {Q : Option Value → AH → Prop} {cb sb mcN msN : Nat} {a : Array Value}
    (C : CX M d p R s m args meth c G B mc ms) (hl : LH ls M.2.2.1 B L) (hS : va_S (fun q => B.1 ≤ q) s.heap H locs) (hn : cells + (cb + mcN) = mc ∧ slots + (sb + msN) = ms)
    (hr : va_Run p l e R s m args below meth c H locs cells slots mcN msN (F0 m pc ls st0) (rest.map (rn B)) (PQ S G B (fun r h' => WP S M d cb sb Q (pc + 3) L (r.toList ++ rest) h') a) (fun q => B.1 ≤ q)) : W p l e R s m args below meth c H locs cells slots (MQ below (PQ S G B Q) args s mc ms (fun q => B.1 ≤ q)) (F0 m pc ls st0) := by
  intro T hT X
  obtain ⟨v, st₀, t, T', L', h0, X', hL, e1, e2, ⟨r, h', hv, hk, hb, hF⟩, stp⟩ := hr T hT X
  have hv' : v = r.map (rn B) := Outcome.returned.inj hv
  subst hv'
  have hz : H.size ≤ t.heap.size := by have := hF.1; rw [h0] at this; exact this
  obtain ⟨t2, a1, b1⟩ := hk p l e R s m args below meth c G B mc ms C ls t.heap (locs ++ L') (cells + mcN) (slots + msN) hl hb
    ⟨Nat.le_trans hS.1 hz, fun q h1 h2 => by rw [hF.2 q (by rw [h0]; exact Nat.lt_of_lt_of_le h1 hS.1) h2, h0]; exact hS.2.1 q h1 h2, fun q hq => by
      rcases List.mem_append.mp hq with z | z
      · exact hS.2.2 q z
      · exact hL q z⟩ (by omega) T' e1 X'
  refine ⟨t2, stp t2 ?_, b1⟩
  rw [List.map_append] at a1
  have e3 : (r.map (rn B)).toList = r.toList.map (rn B) := by cases r <;> rfl
  rw [e3]
  exact a1
theorem wp_callV {S : SH} {M : MD} {d cb sb : Nat} {Q : Option Value → AH → Prop} {pc : Nat} {L rest as : List Value} {h : AH} {N : MD} {index n cb1 sb1 mcN msN : Nat} {b ci : Nat} (hM : MF N n) (hi : Cond.instanceMethod N.1 ∈ TT) (hse : Cond.selects N.1.cls N.1 N.1 ∈ TT) (hlk : Cond.methodLink M.1.cls index N.1 ∈ TT) (hd : decode M.2.1 pc = .ok (.invokevirtual index, 3)) (hrv : KD S h b = some (0, ci)) (hcl : ∃ T k, vwCl[ci]? = some (N.1.cls, T, k)) (has : as.length = n) (hr : (rest.map fun v => v.category).sum ≤ 8) (hc : cb = cb1 + mcN ∧ sb = sb1 + msN) (hcp : CP S N d mcN msN (.ref b :: as) h (fun r h' => WP S M (d + 1) cb1 sb1 Q (pc + 3) L (r.toList ++ rest) h')) : WP S M (d + 1) cb sb Q pc L (as.reverse ++ .ref b :: rest) h := by
  intro p l e R s m args below meth c G B mc ms C ls H locs cells slots hl hw hS hn
  obtain ⟨Cx, Cb, Cr, Cl, Ct, Co, Ck, Cn, Cf, Cm, CK, Cs, CB, CE⟩ := C
  have C : CX M (d + 1) p R s m args meth c G B mc ms := ⟨Cx, Cb, Cr, Cl, Ct, Co, Ck, Cn, Cf, Cm, CK, Cs, CB, CE⟩
  obtain ⟨rfl, rfl⟩ := hc
  obtain ⟨T, k, hcl⟩ := hcl
  have hr2 := catsum B rest
  have PK : ∀ U : State, U.heap = H → s.WarmedH U.vm → PC S G B (.ref b :: as) h (Value.ref (B.1 + b) :: as.map (rn B)).toArray U := fun U hU hW => ⟨rfl, by rw [hU]; exact hw, CK.moved hW.alike, Cs.to hW (fun a q1 q2 => by rw [hU]; exact hS.2.1 a q1 q2)⟩
  have hv := va_recv CK (vaP1 (hw.2 b _ hrv)) hcl (q0 := 0) (a := B.1 + b) (ci := ci) (fs := fs_ S B h b ci) rfl
  refine back_to C hl hS hn (va_runV (As := as.map (rn B)) (b := B.1 + b) ⟨Cx, Cb, Cl, Co, Ct⟩ (hcp l G B) ⟨callB_of n Ct (goodWS hM) rfl rfl rfl (Ct _ hM.2.1) (Ct _ hlk) hM.2.2.1 ⟨by have := hM.2.2.2; show d + 1 ≤ R.frames; omega, by have := hM.2.2.2; show 8 + (N.2.2.1 + 11) + 64 * d ≤ R.locals; omega⟩, Ct _ hi, Ct _ hse⟩ ⟨blindPC, hv, PK⟩ rfl (by rw [List.length_map]; exact has) hl.1 (by simp [rn]) (lv_room (Nat.le_trans hr2 hr)) hd ⟨by omega, by omega⟩)
theorem wp_callS {S : SH} {M : MD} {d cb sb : Nat} {Q : Option Value → AH → Prop} {pc : Nat} {L rest as : List Value} {h : AH} {N : MD} {index n cb1 sb1 mcN msN : Nat} (hM : MF N n) (hi : Cond.static N.1 ∈ TT) (hlk : Cond.methodLink M.1.cls index N.1 ∈ TT) (hd : decode M.2.1 pc = .ok (.invokestatic index, 3)) (has : as.length = n) (hr : (rest.map fun v => v.category).sum ≤ 8) (hc : cb = cb1 + mcN ∧ sb = sb1 + msN) (hcp : CP S N d mcN msN as h (fun r h' => WP S M (d + 1) cb1 sb1 Q (pc + 3) L (r.toList ++ rest) h')) : WP S M (d + 1) cb sb Q pc L (as.reverse ++ rest) h := by
  intro p l e R s m args below meth c G B mc ms C ls H locs cells slots hl hw hS hn
  obtain ⟨Cx, Cb, Cr, Cl, Ct, Co, Ck, Cn, Cf, Cm, CK, Cs, CB, CE⟩ := C
  have C : CX M (d + 1) p R s m args meth c G B mc ms := ⟨Cx, Cb, Cr, Cl, Ct, Co, Ck, Cn, Cf, Cm, CK, Cs, CB, CE⟩
  obtain ⟨rfl, rfl⟩ := hc
  have hr2 := catsum B rest
  have PK : ∀ U : State, U.heap = H → s.WarmedH U.vm → PC S G B as h (as.map (rn B)).toArray U := fun U hU hW => ⟨rfl, by rw [hU]; exact hw, CK.moved hW.alike, Cs.to hW (fun a q1 q2 => by rw [hU]; exact hS.2.1 a q1 q2)⟩
  refine back_to C hl hS hn (va_runS (As := as.map (rn B)) ⟨Cx, Cb, Cl, Co, Ct⟩ (hcp l G B) ⟨callB_of n Ct (goodWS hM) rfl rfl rfl (Ct _ hM.2.1) (Ct _ hlk) hM.2.2.1 ⟨by have := hM.2.2.2; show d + 1 ≤ R.frames; omega, by have := hM.2.2.2; show 8 + (N.2.2.1 + 11) + 64 * d ≤ R.locals; omega⟩, Ct _ hi⟩ ⟨blindPC, PK⟩ rfl (by rw [List.length_map]; exact has) hl.1 (by simp) (lv_room (Nat.le_trans hr2 hr)) hd ⟨by omega, by omega⟩)
theorem wp_callI {S : SH} {M : MD} {d cb sb : Nat} {Q : Option Value → AH → Prop} {pc : Nat} {L rest as : List Value} {h : AH} {N : MD} {index n cb1 sb1 mcN msN : Nat} {b : Nat} (hM : MF N n) (hnone : N.2.2.2.1 = none) (hi : Cond.instanceMethod N.1 ∈ TT) (hy : N.1.name = "<init>") (hlk : Cond.methodLink M.1.cls index N.1 ∈ TT) (hd : decode M.2.1 pc = .ok (.invokespecial index, 3)) (has : as.length = n) (hr : (rest.map fun v => v.category).sum ≤ 8) (hc : cb = cb1 + mcN ∧ sb = sb1 + msN) (hcp : CP S N d mcN msN (.ref b :: as) h (fun r h' => WP S M (d + 1) cb1 sb1 Q (pc + 3) L (r.toList ++ rest) h')) : WP S M (d + 1) cb sb Q pc L (as.reverse ++ .ref b :: rest) h := by
  intro p l e R s m args below meth c G B mc ms C ls H locs cells slots hl hw hS hn
  obtain ⟨Cx, Cb, Cr, Cl, Ct, Co, Ck, Cn, Cf, Cm, CK, Cs, CB, CE⟩ := C
  have C : CX M (d + 1) p R s m args meth c G B mc ms := ⟨Cx, Cb, Cr, Cl, Ct, Co, Ck, Cn, Cf, Cm, CK, Cs, CB, CE⟩
  obtain ⟨rfl, rfl⟩ := hc
  have hr2 := catsum B rest
  have PK : ∀ U : State, U.heap = H → s.WarmedH U.vm → PC S G B (.ref b :: as) h (Value.ref (B.1 + b) :: as.map (rn B)).toArray U := fun U hU hW => ⟨rfl, by rw [hU]; exact hw, CK.moved hW.alike, Cs.to hW (fun a q1 q2 => by rw [hU]; exact hS.2.1 a q1 q2)⟩
  have cw := callB_of (rm := RM d mcN msN) (R := R) (own := M.1.cls) (index := index) (s := s) (args := args) n Ct (goodWS hM) rfl rfl rfl (Ct _ hM.2.1) (Ct _ hlk) hM.2.2.1 ⟨by have := hM.2.2.2; show d + 1 ≤ R.frames; omega, by have := hM.2.2.2; show 8 + (N.2.2.1 + 11) + 64 * d ≤ R.locals; omega⟩
  rw [hnone] at cw
  refine back_to C hl hS hn (va_runI (As := as.map (rn B)) (b := B.1 + b) ⟨Cx, Cb, Cl, Co, Ct⟩ (hcp l G B) ⟨cw, hy, Ct _ hi⟩ ⟨blindPC, PK⟩ rfl (by rw [List.length_map]; exact has) hl.1 (by simp [rn]) (lv_room (Nat.le_trans hr2 hr)) hd ⟨by omega, by omega⟩)
theorem wp_callIN {S : SH} {M : MD} {d cb sb : Nat} {Q : Option Value → AH → Prop} {pc : Nat} {L rest as : List Value} {h : AH} {N : MD} {index n cb1 sb1 mcN msN : Nat} {b : Nat} {host : String} (hM : MF N n) (hnone : N.2.2.2.1 = none) (hi : Cond.instanceMethod N.1 ∈ TT) (hy : N.1.name = "<init>") (hlk : (M.1.cls, index, N.1, host) ∈ nestL) (hd : decode M.2.1 pc = .ok (.invokespecial index, 3)) (has : as.length = n) (hr : (rest.map fun v => v.category).sum ≤ 8) (hc : cb = cb1 + mcN ∧ sb = sb1 + msN) (hcp : CP S N d mcN msN (.ref b :: as) h (fun r h' => WP S M (d + 1) cb1 sb1 Q (pc + 3) L (r.toList ++ rest) h')) : WP S M (d + 1) cb sb Q pc L (as.reverse ++ .ref b :: rest) h := by
  intro p l e R s m args below meth c G B mc ms C ls H locs cells slots hl hw hS hn
  obtain ⟨Cx, Cb, Cr, Cl, Ct, Co, Ck, Cn, Cf, Cm, CK, Cs, CB, CE⟩ := C
  have C : CX M (d + 1) p R s m args meth c G B mc ms := ⟨Cx, Cb, Cr, Cl, Ct, Co, Ck, Cn, Cf, Cm, CK, Cs, CB, CE⟩
  obtain ⟨rfl, rfl⟩ := hc
  have hr2 := catsum B rest
  have PK : ∀ U : State, U.heap = H → s.WarmedH U.vm → PC S G B (.ref b :: as) h (Value.ref (B.1 + b) :: as.map (rn B)).toArray U := fun U hU hW => ⟨rfl, by rw [hU]; exact hw, CK.moved hW.alike, Cs.to hW (fun a q1 q2 => by rw [hU]; exact hS.2.1 a q1 q2)⟩
  have cw := va_cnB (own := M.1.cls) (host := host) (index := index) (R := R) (s := s) (args := args) n Ct (goodWS hM) rfl (rm := RM d mcN msN) rfl rfl (Cs.2.2.2.1 _ hlk) (Ct _ hM.2.1) hM.2.2.1 ⟨by have := hM.2.2.2; show d + 1 ≤ R.frames; omega, by have := hM.2.2.2; show 8 + (N.2.2.1 + 11) + 64 * d ≤ R.locals; omega⟩
  rw [hnone] at cw
  refine back_to C hl hS hn (va_runIN (As := as.map (rn B)) (b := B.1 + b) ⟨Cx, Cb, Cl, Co, Ct⟩ (hcp l G B) ⟨cw, hy, Ct _ hi⟩ ⟨blindPC, PK⟩ rfl (by rw [List.length_map]; exact has) hl.1 (by simp [rn]) (lv_room (Nat.le_trans hr2 hr)) hd ⟨by omega, by omega⟩)
end
section
def ok {α : Type} (x : Option (α × AH)) (K : α → AH → Prop) : Prop := ∃ r h, x = some (r, h) ∧ K r h
theorem ok_t {α : Type} {c : Prop} [Decidable c] {x y : Option (α × AH)} {K : α → AH → Prop} (hc : c) (k : ok (if c then x else y) K) : ok x K := by rwa [if_pos hc] at k
theorem ok_f {α : Type} {c : Prop} [Decidable c] {x y : Option (α × AH)} {K : α → AH → Prop} (hc : ¬ c) (k : ok (if c then x else y) K) : ok y K := by rwa [if_neg hc] at k
theorem ok_bind {α β : Type} {x : Option β} {f : β → Option (α × AH)} {K : α → AH → Prop} (k : ok (x.bind f) K) : ∃ v, x = some v ∧ ok (f v) K := by
  cases x with
  | none => obtain ⟨r, h, e, -⟩ := k; cases e
  | some v => exact ⟨v, rfl, k⟩
theorem ok_bind2 {α β : Type} {x : Option (β × AH)} {f : β × AH → Option (α × AH)} {K : α → AH → Prop} (k : ok (x.bind f) K) : ok x (fun w h => ok (f (w, h)) K) := by
  obtain ⟨v, e, k⟩ := ok_bind k
  exact ⟨v.1, v.2, e, k⟩
theorem ok_some {α : Type} {r : α} {h : AH} {K : α → AH → Prop} (k : ok (some (r, h)) K) : K r h := by
  obtain ⟨r', h', e, k⟩ := k
  cases e
  exact k
theorem ok_none {α : Type} {K : α → AH → Prop} {C : Prop} (k : ok none K) : C := by
  obtain ⟨r', h', e, k⟩ := k
  cases e
theorem ok_mono {α : Type} {x : Option (α × AH)} {K K' : α → AH → Prop} (k : ok x K) (hk : ∀ r h, K r h → K' r h) : ok x K' := by
  obtain ⟨r, h, e, k⟩ := k
  exact ⟨r, h, e, hk _ _ k⟩
theorem ok_ret {α : Type} {r : α} {h : AH} {K : α → AH → Prop} (k : K r h) : ok (some (r, h)) K := ⟨r, h, rfl, k⟩
def lt {α β : Type} (e : α) (f : α → β) : β := f e
theorem ok_lt {α β : Type} {e : β} {f : β → Option (α × AH)} {K : α → AH → Prop} (k : ok (lt e f) K) : ok (f e) K := k
def FU : Nat := 1000000
/-! reads and writes, none where the machine would throw -/
def gI (S : SH) (h : AH) (p ci k : Nat) : Option Int32 := if KD S h p = some (0, ci) then some (h.2.1 p k) else none
def gJ (S : SH) (h : AH) (p ci k : Nat) : Option Int64 := if KD S h p = some (0, ci) then some (h.2.2.1 p k) else none
def gR (S : SH) (h : AH) (p ci k : Nat) : Option Nat := if KD S h p = some (0, ci) then RF S h p k else none
def pI (S : SH) (h : AH) (p ci k : Nat) (v : Int32) : Option AH := if KD S h p = some (0, ci) then some (stI h p k v) else none
def pZ (S : SH) (h : AH) (p ci k : Nat) (v : Int32) : Option AH := if KD S h p = some (0, ci) ∧ (v = 0 ∨ v = 1) then some (stI h p k v) else none
def pJ (S : SH) (h : AH) (p ci k : Nat) (v : Int64) : Option AH := if KD S h p = some (0, ci) then some (stJ h p k v) else none
def ckO (S : SH) (h : AH) (p ci : Nat) : Option Unit := if KD S h p = some (0, ci) then some () else none
def aI (S : SH) (h : AH) (p : Nat) (i : Int32) : Option Int32 := match KD S h p with
  | some (1, n) => if i < 0 ∨ n ≤ i.toNatClampNeg then none else some (h.2.1 p i.toNatClampNeg)
  | _ => none
def aJ (S : SH) (h : AH) (p : Nat) (i : Int32) : Option Int64 := match KD S h p with
  | some (2, n) => if i < 0 ∨ n ≤ i.toNatClampNeg then none else some (h.2.2.1 p i.toNatClampNeg)
  | _ => none
def aZ (S : SH) (h : AH) (p : Nat) (i : Int32) : Option Int32 := match KD S h p with
  | some (3, n) => if i < 0 ∨ n ≤ i.toNatClampNeg then none else some (h.2.1 p i.toNatClampNeg)
  | _ => none
def aR (S : SH) (h : AH) (p : Nat) (i : Int32) : Option (Option Nat) := match KD S h p with
  | some (4, n) => if i < 0 ∨ n ≤ i.toNatClampNeg then none else some (RF S h p i.toNatClampNeg)
  | some (5, n) => if i < 0 ∨ n ≤ i.toNatClampNeg then none else some (RF S h p i.toNatClampNeg)
  | _ => none
def sI (S : SH) (h : AH) (p : Nat) (i : Int32) (x : Int32) : Option AH := match KD S h p with
  | some (1, n) => if i < 0 ∨ n ≤ i.toNatClampNeg then none else some (stI h p i.toNatClampNeg x)
  | _ => none
def sJ (S : SH) (h : AH) (p : Nat) (i : Int32) (x : Int64) : Option AH := match KD S h p with
  | some (2, n) => if i < 0 ∨ n ≤ i.toNatClampNeg then none else some (stJ h p i.toNatClampNeg x)
  | _ => none
def sZ (S : SH) (h : AH) (p : Nat) (i : Int32) (x : Int32) : Option AH := match KD S h p with
  | some (3, n) => if i < 0 ∨ n ≤ i.toNatClampNeg ∨ ¬ (x = 0 ∨ x = 1) then none else some (stI h p i.toNatClampNeg x)
  | _ => none
def lnA (S : SH) (h : AH) (p : Nat) : Option Int32 := match KD S h p with
  | some (t, n) => if 1 ≤ t ∧ t ≤ 5 then some (nI n) else none
  | none => none
def rmI (x y : Int32) : Int32 := x - x / y * y
def rmJ (x y : Int64) : Int64 := x - x / y * y
def mxI (x y : Int32) : Int32 := if x < y then y else x
def mnI (x y : Int32) : Int32 := if y < x then y else x
def abI (x : Int32) : Int32 := if 0 ≤ x then x else 0 - x
def shrU (x y : Int32) : Int32 := (x.toUInt32 >>> (y.toUInt32 &&& Int32.toUInt32 31)).toInt32
def nz (x : Int32) : Option Unit := if x = 0 then none else some ()
def nzJ (x : Int64) : Option Unit := if x = 0 then none else some ()
def isZ (x : Int32) : Option Unit := if x = 0 ∨ x = 1 then some () else none
theorem nz_e {x : Int32} {u : Unit} (h : nz x = some u) : ¬ x = 0 := fun q => by simp [nz, q] at h
theorem nzJ_e {x : Int64} {u : Unit} (h : nzJ x = some u) : ¬ x = 0 := fun q => by simp [nzJ, q] at h
theorem isZ_e {x : Int32} {u : Unit} (h : isZ x = some u) : x = 0 ∨ x = 1 := by
  unfold isZ at h
  split at h
  · assumption
  · cases h
theorem isZ_n {x : Int32} {u : Unit} (h : isZ x = some u) : narrow .boolean (.int x) = .int x := by
  rcases isZ_e h with rfl | rfl <;> rfl
theorem if_some {α : Type} {c : Prop} [Decidable c] {x y : α} (h : (if c then some x else none) = some y) : c ∧ x = y := by
  split at h
  · cases h; exact ⟨by assumption, rfl⟩
  · cases h
theorem if_none {α : Type} {c : Prop} [Decidable c] {x y : α} (h : (if c then none else some x) = some y) : ¬ c ∧ x = y := by
  split at h
  · cases h
  · cases h; exact ⟨by assumption, rfl⟩
def cpyI (h : AH) (a sp b dp n : Nat) : AH := (h.1, (fun q j => if q = b then va_cpy (h.2.1 a) (h.2.1 b) sp dp n j else h.2.1 q j), h.2.2.1, h.2.2.2)
def cpyR (S : SH) (h : AH) (a sp b dp n : Nat) : AH := (h.1, h.2.1, h.2.2.1, fun q j => if q = b then va_cpy (RF S h a) (RF S h b) sp dp n j else h.2.2.2 q j)
def cpI (S : SH) (h : AH) (a : Nat) (sp : Int32) (b : Nat) (dp n : Int32) : Option AH := match KD S h a, KD S h b with
  | some (1, n0), some (1, n1) => if sp < 0 ∨ dp < 0 ∨ n < 0 ∨ n0 < sp.toNatClampNeg + n.toNatClampNeg ∨ n1 < dp.toNatClampNeg + n.toNatClampNeg then none else some (cpyI h a sp.toNatClampNeg b dp.toNatClampNeg n.toNatClampNeg)
  | _, _ => none
def cpR (S : SH) (h : AH) (a : Nat) (sp : Int32) (b : Nat) (dp n : Int32) : Option AH := match KD S h a, KD S h b with
  | some (5, n0), some (5, n1) => if (sp < 0 ∨ dp < 0 ∨ n < 0 ∨ n0 < sp.toNatClampNeg + n.toNatClampNeg ∨ n1 < dp.toNatClampNeg + n.toNatClampNeg) ∨ (S.2 b).isSome = true ∨ ¬ ((List.range n.toNatClampNeg).all (fun i => (RF S h a (sp.toNatClampNeg + i)).all fun y => decide (KD S h y = some (0, 8)))) = true then none else some (cpyR S h a sp.toNatClampNeg b dp.toNatClampNeg n.toNatClampNeg)
  | _, _ => none
theorem wq_getI {S : SH} {M : MD} {d cb sb : Nat} {Q : Option Value → AH → Prop} {pc : Nat} {L st : List Value} {h : AH} {index ci k p0 : Nat} {fin : Bool} {x : Int32} (hF : FL M.1.cls index ci k fin) (hty : cTy ci k = .int ∨ cTy ci k = .boolean) (hd : decode M.2.1 pc = .ok (.getfield index, 3)) (hv : gI S h p0 ci k = some x) (kn : WP S M d cb sb Q (pc + 3) L (.int x :: st) h) : WP S M d cb sb Q pc L (.ref p0 :: st) h := by
  obtain ⟨h1, rfl⟩ := if_some hv
  exact wp_get hF h1 (by rcases hty with hty | hty <;> simp [hty, avl]) hd kn
theorem wq_getJ {S : SH} {M : MD} {d cb sb : Nat} {Q : Option Value → AH → Prop} {pc : Nat} {L st : List Value} {h : AH} {index ci k p0 : Nat} {fin : Bool} {x : Int64} (hF : FL M.1.cls index ci k fin) (hty : cTy ci k = .long) (hd : decode M.2.1 pc = .ok (.getfield index, 3)) (hv : gJ S h p0 ci k = some x) (kn : WP S M d cb sb Q (pc + 3) L (.long x :: st) h) : WP S M d cb sb Q pc L (.ref p0 :: st) h := by
  obtain ⟨h1, rfl⟩ := if_some hv
  exact wp_get hF h1 (by simp [hty, avl]) hd kn
theorem wq_getR {S : SH} {M : MD} {d cb sb : Nat} {Q : Option Value → AH → Prop} {pc : Nat} {L st : List Value} {h : AH} {index ci k p0 : Nat} {fin : Bool} {x : Nat} (hF : FL M.1.cls index ci k fin) (hty : (∃ C, cTy ci k = .object C) ∨ ∃ t, cTy ci k = .array t) (hd : decode M.2.1 pc = .ok (.getfield index, 3)) (hv : gR S h p0 ci k = some x) (kn : WP S M d cb sb Q (pc + 3) L (.ref x :: st) h) : WP S M d cb sb Q pc L (.ref p0 :: st) h := by
  unfold gR at hv
  split at hv
  · refine wp_get hF (by assumption) ?_ hd kn
    rcases hty with ⟨_, hty⟩ | ⟨_, hty⟩ <;> simp [hty, avl, hv, rfv]
  · cases hv
theorem wq_putI {S : SH} {M : MD} {d cb sb : Nat} {Q : Option Value → AH → Prop} {pc : Nat} {L st : List Value} {h : AH} {index ci k p0 : Nat} {fin : Bool} {x : Int32} {h2 : AH} (hF : FL M.1.cls index ci k fin) (hfin : fin = false) (hty : cTy ci k = .int) (hd : decode M.2.1 pc = .ok (.putfield index, 3)) (hv : pI S h p0 ci k x = some h2) (kn : WP S M d cb sb Q (pc + 3) L st h2) : WP S M d cb sb Q pc L (.int x :: .ref p0 :: st) h := by
  obtain ⟨h1, rfl⟩ := if_some hv
  exact wp_putI hF (Or.inl hfin) h1 (Or.inl hty) hd rfl kn
theorem wq_putJ {S : SH} {M : MD} {d cb sb : Nat} {Q : Option Value → AH → Prop} {pc : Nat} {L st : List Value} {h : AH} {index ci k p0 : Nat} {fin : Bool} {x : Int64} {h2 : AH} (hF : FL M.1.cls index ci k fin) (hfin : fin = false) (hty : cTy ci k = .long) (hd : decode M.2.1 pc = .ok (.putfield index, 3)) (hv : pJ S h p0 ci k x = some h2) (kn : WP S M d cb sb Q (pc + 3) L st h2) : WP S M d cb sb Q pc L (.long x :: .ref p0 :: st) h := by
  obtain ⟨h1, rfl⟩ := if_some hv
  exact wp_putJ hF (Or.inl hfin) h1 hty hd rfl kn
theorem wq_putZ {S : SH} {M : MD} {d cb sb : Nat} {Q : Option Value → AH → Prop} {pc : Nat} {L st : List Value} {h : AH} {index ci k p0 : Nat} {fin : Bool} {x : Int32} {h2 : AH} (hF : FL M.1.cls index ci k fin) (hfin : fin = false) (hty : cTy ci k = .boolean) (hd : decode M.2.1 pc = .ok (.putfield index, 3)) (hv : pZ S h p0 ci k x = some h2) (kn : WP S M d cb sb Q (pc + 3) L st h2) : WP S M d cb sb Q pc L (.int x :: .ref p0 :: st) h := by
  obtain ⟨h1, rfl⟩ := if_some hv
  exact wp_putI hF (Or.inl hfin) h1.1 (Or.inr ⟨hty, h1.2⟩) hd rfl kn
theorem wq_aI {S : SH} {M : MD} {d cb sb : Nat} {Q : Option Value → AH → Prop} {pc : Nat} {L st : List Value} {h : AH} {p0 : Nat} {i : Int32} {x : Int32} (hd : decode M.2.1 pc = .ok (.iaload, 1)) (hv : aI S h p0 i = some x) (kn : WP S M d cb sb Q (pc + 1) L (.int x :: st) h) : WP S M d cb sb Q pc L (.int i :: .ref p0 :: st) h := by
  unfold aI at hv
  split at hv
  · obtain ⟨h1, rfl⟩ := if_none hv
    exact wp_iald (by assumption) h1 hd kn
  · cases hv
theorem wq_aJ {S : SH} {M : MD} {d cb sb : Nat} {Q : Option Value → AH → Prop} {pc : Nat} {L st : List Value} {h : AH} {p0 : Nat} {i : Int32} {x : Int64} (hd : decode M.2.1 pc = .ok (.laload, 1)) (hv : aJ S h p0 i = some x) (kn : WP S M d cb sb Q (pc + 1) L (.long x :: st) h) : WP S M d cb sb Q pc L (.int i :: .ref p0 :: st) h := by
  unfold aJ at hv
  split at hv
  · obtain ⟨h1, rfl⟩ := if_none hv
    exact wp_lald (by assumption) h1 hd kn
  · cases hv
theorem wq_aZ {S : SH} {M : MD} {d cb sb : Nat} {Q : Option Value → AH → Prop} {pc : Nat} {L st : List Value} {h : AH} {p0 : Nat} {i : Int32} {x : Int32} (hd : decode M.2.1 pc = .ok (.baload, 1)) (hv : aZ S h p0 i = some x) (kn : WP S M d cb sb Q (pc + 1) L (.int x :: st) h) : WP S M d cb sb Q pc L (.int i :: .ref p0 :: st) h := by
  unfold aZ at hv
  split at hv
  · obtain ⟨h1, rfl⟩ := if_none hv
    exact wp_zald (by assumption) h1 hd kn
  · cases hv
theorem wq_aR {S : SH} {M : MD} {d cb sb : Nat} {Q : Option Value → AH → Prop} {pc : Nat} {L st : List Value} {h : AH} {p0 : Nat} {i : Int32} {x : Option Nat} (hd : decode M.2.1 pc = .ok (.aaload, 1)) (hv : aR S h p0 i = some x) (kn : WP S M d cb sb Q (pc + 1) L (rfv x :: st) h) : WP S M d cb sb Q pc L (.int i :: .ref p0 :: st) h := by
  unfold aR at hv
  split at hv
  · obtain ⟨h1, rfl⟩ := if_none hv
    exact wp_aaldA (by assumption) h1 hd rfl kn
  · obtain ⟨h1, rfl⟩ := if_none hv
    exact wp_aaldB (by assumption) h1 hd rfl kn
  · cases hv
theorem wq_sI {S : SH} {M : MD} {d cb sb : Nat} {Q : Option Value → AH → Prop} {pc : Nat} {L st : List Value} {h : AH} {p0 : Nat} {i : Int32} {x : Int32} {h2 : AH} (hd : decode M.2.1 pc = .ok (.iastore, 1)) (hv : sI S h p0 i x = some h2) (kn : WP S M d cb sb Q (pc + 1) L st h2) : WP S M d cb sb Q pc L (.int x :: .int i :: .ref p0 :: st) h := by
  unfold sI at hv
  split at hv
  · obtain ⟨h1, rfl⟩ := if_none hv
    exact wp_iast (by assumption) h1 hd rfl kn
  · cases hv
theorem wq_sJ {S : SH} {M : MD} {d cb sb : Nat} {Q : Option Value → AH → Prop} {pc : Nat} {L st : List Value} {h : AH} {p0 : Nat} {i : Int32} {x : Int64} {h2 : AH} (hd : decode M.2.1 pc = .ok (.lastore, 1)) (hv : sJ S h p0 i x = some h2) (kn : WP S M d cb sb Q (pc + 1) L st h2) : WP S M d cb sb Q pc L (.long x :: .int i :: .ref p0 :: st) h := by
  unfold sJ at hv
  split at hv
  · obtain ⟨h1, rfl⟩ := if_none hv
    exact wp_last (by assumption) h1 hd rfl kn
  · cases hv
theorem wq_sZ {S : SH} {M : MD} {d cb sb : Nat} {Q : Option Value → AH → Prop} {pc : Nat} {L st : List Value} {h : AH} {p0 : Nat} {i : Int32} {x : Int32} {h2 : AH} (hd : decode M.2.1 pc = .ok (.bastore, 1)) (hv : sZ S h p0 i x = some h2) (kn : WP S M d cb sb Q (pc + 1) L st h2) : WP S M d cb sb Q pc L (.int x :: .int i :: .ref p0 :: st) h := by
  unfold sZ at hv
  split at hv
  · obtain ⟨h1, rfl⟩ := if_none hv
    exact wp_zast (by assumption) (fun q => h1 (q.elim Or.inl (fun q => Or.inr (Or.inl q)))) (by apply Decidable.byContradiction; intro q; exact h1 (Or.inr (Or.inr q))) hd rfl kn
  · cases hv
theorem wq_len {S : SH} {M : MD} {d cb sb : Nat} {Q : Option Value → AH → Prop} {pc : Nat} {L st : List Value} {h : AH} {p0 : Nat} {x : Int32} (hd : decode M.2.1 pc = .ok (.arraylength, 1)) (hv : lnA S h p0 = some x) (kn : WP S M d cb sb Q (pc + 1) L (.int x :: st) h) : WP S M d cb sb Q pc L (.ref p0 :: st) h := by
  unfold lnA at hv
  split at hv
  · obtain ⟨h1, rfl⟩ := if_some hv
    exact wp_alen (by assumption) h1 hd kn
  · cases hv
theorem ckO_e {S : SH} {h : AH} {p ci : Nat} {u : Unit} (hv : ckO S h p ci = some u) : KD S h p = some (0, ci) := (if_some hv).1
theorem wq_ifnn {S : SH} {M : MD} {d cb sb : Nat} {Q : Option Value → AH → Prop} {pc : Nat} {L st : List Value} {h : AH} {x : Option Nat} {off : Int} (tgt : Nat) (hd : decode M.2.1 pc = .ok (.ifnonnull off, 3)) (ht : (pc : Int) + off = (tgt : Int)) (kt : ∀ q, x = some q → WP S M d cb sb Q tgt L st h) (kf : x = none → WP S M d cb sb Q (pc + 3) L st h) : WP S M d cb sb Q pc L (rfv x :: st) h := by
  cases x with
  | none => exact wp_ifnonnullN hd (kf rfl)
  | some q => exact wp_ifnonnull tgt hd ht (kt q rfl)
theorem tab_out {x : Int32} {lo : Int} {n : Nat} (h : ∀ i : Nat, i < n → ¬ x.toInt = lo + i) : x.toInt < lo ∨ lo + (n : Int) - 1 < x.toInt := by
  by_cases h1 : x.toInt < lo
  · exact Or.inl h1
  · by_cases h2 : lo + (n : Int) - 1 < x.toInt
    · exact Or.inr h2
    · exact absurd (show x.toInt = lo + ((x.toInt - lo).toNat : Nat) by omega) (h _ (by omega))
theorem ti_ne {x c : Int32} {z : Int} (h : ¬ x = c) (hc : c.toInt = z) : ¬ x.toInt = z := fun q => h (Int32.toInt_inj.mp (q.trans hc.symm))
theorem wp_copyI {S : SH} {M : MD} {d cb sb : Nat} {Q : Option Value → AH → Prop} {pc : Nat} {L st : List Value} {h : AH} {index a b n0 n1 : Nat} {sp dp n : Int32} (hlk : Cond.methodLink M.1.cls index arraycopyName ∈ TT) (hna : Cond.native arraycopyName ∈ TT) (hst : Cond.static arraycopyName ∈ TT) (hini : Cond.initialized "java/lang/System" ∈ TT) (hr : (st.map fun v => v.category).sum ≤ 8) (hd : decode M.2.1 pc = .ok (.invokestatic index, 3)) (ha : KD S h a = some (1, n0)) (hb : KD S h b = some (1, n1)) (h1 : ¬ sp < 0) (h2 : ¬ dp < 0) (h3 : ¬ n < 0) (h4 : sp.toNatClampNeg + n.toNatClampNeg ≤ n0) (h5 : dp.toNatClampNeg + n.toNatClampNeg ≤ n1) (kn : WP S M (d + 1) cb sb Q (pc + 3) L st (cpyI h a sp.toNatClampNeg b dp.toNatClampNeg n.toNatClampNeg)) : WP S M (d + 1) cb sb Q pc L (.int n :: .int dp :: .ref b :: .int sp :: .ref a :: st) h := by
  intro p l e R s m args below meth c G B mc ms C ls H locs cells slots hl hw hS hn
  obtain ⟨Cx, Cb, Cr, Cl, Ct, Co, Ck, Cn, Cf, Cm, CK, Cs, CB, CE⟩ := C
  have C : CX M (d + 1) p R s m args meth c G B mc ms := ⟨Cx, Cb, Cr, Cl, Ct, Co, Ck, Cn, Cf, Cm, CK, Cs, CB, CE⟩
  have hr2 := catsum B st
  have nn : ∀ z : Int32, ¬ z < 0 → z.toInt = (z.toNatClampNeg : Int) := by
    intro z hz
    have h0 : (0 : Int) ≤ z.toInt := by simpa using Int32.le_iff_toInt_le.mp (Int32.not_lt.mp hz)
    show z.toInt = ((z.toInt.toNat : Nat) : Int)
    omega
  intro T hT X
  have hc0 : H[B.1 + a]? = some (vp_cell (G.2.1 0) (n0, .inl (h.2.1 a))) := hw.2 a _ ha
  have hc1 : H[B.1 + b]? = some (vp_cell (G.2.1 0) (n1, .inl (h.2.1 b))) := hw.2 b _ hb
  obtain ⟨-, k0, hk0, cm0, hkk0⟩ := (CK.2 0 _ rfl).1 n0 (fun j => .int (h.2.1 a j))
  obtain ⟨-, k1, hk1, cm1, hkk1⟩ := (CK.2 0 _ rfl).1 n1 (fun j => .int (h.2.1 b j))
  obtain ⟨vm', X', step⟩ := X.arraycopy Cx Co (Ct _ hlk) (Ct _ hna) (Ct _ hst) (Ct _ hini) (src := B.1 + a) (dst := B.1 + b) (cs := (vp_cell (G.2.1 0) (n0, .inl (h.2.1 a)))) (cd := (vp_cell (G.2.1 0) (n1, .inl (h.2.1 b)))) (srcPos := sp) (destPos := dp) (n := n) (by rw [hT]; exact hc0) (by rw [hT]; exact hc1)
    (fun _ h => by cases h) (fun _ h => by cases h) (fun h => by cases h) (fun h => by cases h) hk0 hk1 hkk0 hkk1 (by simp [refKind]) h1 h2 h3
    (by rw [nn sp h1, nn n h3]; show ¬ _ > ((arrV _ n0 (fun j => .int (h.2.1 a j))).slots.size : Int); rw [arrV_size]; omega)
    (by rw [nn dp h2, nn n h3]; show ¬ _ > ((arrV _ n1 (fun j => .int (h.2.1 b j))).slots.size : Int); rw [arrV_size]; omega)
    (fun vm₁ hal i hi => by
      have ee : ((vp_cell (G.2.1 0) (n0, .inl (h.2.1 a)))).slots.getD (sp.toNatClampNeg + i) .null = (fun j => .int (h.2.1 a j)) (sp.toNatClampNeg + i) := by
        show (arrV _ n0 (fun j => .int (h.2.1 a j))).slots.getD _ _ = _
        rw [Array.getD_eq_getD_getElem?, arrV_read _ _ (by omega)]
        rfl
      rw [ee]
      exact ⟨rfl, trivial⟩)
    (g := F0 m pc ls (.int n :: .int dp :: .ref (B.1 + b) :: .int sp :: .ref (B.1 + a) :: st.map (rn B))) rfl (by rw [Cl]; exact hl.1) (rest := st.map (rn B)) rfl (by rw [Cb]; exact hd) (by omega) (by show 2 * 0 + _ + (nativeFrameWords "java/lang/System" "arraycopy" 5 + 11) ≤ _; have h77 : nativeFrameWords "java/lang/System" "arraycopy" 5 ≤ 30 := (by decide); omega)
  have e1 : copied (vp_cell (G.2.1 0) (n0, .inl (h.2.1 a))) (vp_cell (G.2.1 0) (n1, .inl (h.2.1 b))) sp dp n = vp_cell (G.2.1 0) (n1, .inl (va_cpy (h.2.1 a) (h.2.1 b) sp.toNatClampNeg dp.toNatClampNeg n.toNatClampNeg)) := by
    exact va_copied (fun z => .int z) _ _ (h.2.1 a) (h.2.1 b) h4
  rw [e1] at X' step
  have hlt : B.1 + b < H.size := (Array.getElem?_eq_some_iff.mp hc1).1
  generalize hH1 : H.setIfInBounds (B.1 + b) (vp_cell (G.2.1 0) (n1, .inl (va_cpy (h.2.1 a) (h.2.1 b) sp.toNatClampNeg dp.toNatClampNeg n.toNatClampNeg))) = H1
  have hheap : ((T.setVm vm').setCell (B.1 + b) (vp_cell (G.2.1 0) (n1, .inl (va_cpy (h.2.1 a) (h.2.1 b) sp.toNatClampNeg dp.toNatClampNeg n.toNatClampNeg)))).heap = H1 := by rw [← hH1, ← hT]; rfl
  have oq : ∀ q : Nat, q ≠ B.1 + b → H1[q]? = H[q]? := fun q hq => by rw [← hH1]; simp [Array.getElem?_setIfInBounds, Ne.symm hq]
  have hz : H1.size = H.size := by rw [← hH1]; simp
  have hW2 : Wd S G B (cpyI h a sp.toNatClampNeg b dp.toNatClampNeg n.toNatClampNeg) H1 := by
    refine hw.upd rfl hb hz oq ?_ (fun q kk hq => vcell_congr ?_ ?_ ?_ kk)
    · show H1[B.1 + b]? = some (vp_cell _ _)
      rw [← hH1]
      simp [Array.getElem?_setIfInBounds, hlt, cpyI]
    all_goals first | rfl | (funext j; simp [cpyI, hq])
  obtain ⟨t, a1, b1⟩ := kn p l e R s m args below meth c G B mc ms C ls H1 _ cells slots hl hW2 ⟨by rw [hz]; exact hS.1, fun q g1 g2 => by
      rw [oq q (fun z => g2 (by rw [z]; exact Nat.le_add_right _ _))]
      exact hS.2.1 q g1 g2, fun q hq => by
      rcases List.mem_append.mp hq with z | z
      · exact hS.2.2 q z
      · obtain ⟨y, -, hy⟩ := List.mem_map.mp z
        rw [← hy]
        exact Nat.le_add_right _ _⟩ hn _ hheap X'
  exact ⟨t, step t a1, b1⟩
theorem wp_copyR {S : SH} {M : MD} {d cb sb : Nat} {Q : Option Value → AH → Prop} {pc : Nat} {L st : List Value} {h : AH} {index a b n0 n1 : Nat} {sp dp n : Int32} (hlk : Cond.methodLink M.1.cls index arraycopyName ∈ TT) (hna : Cond.native arraycopyName ∈ TT) (hst : Cond.static arraycopyName ∈ TT) (hini : Cond.initialized "java/lang/System" ∈ TT) (hr : (st.map fun v => v.category).sum ≤ 8) (hd : decode M.2.1 pc = .ok (.invokestatic index, 3)) (ha : KD S h a = some (5, n0)) (hb : KD S h b = some (5, n1)) (hs : S.2 b = none) (hel : ∀ i : Nat, i < n.toNatClampNeg → ∀ y : Nat, RF S h a (sp.toNatClampNeg + i) = some y → KD S h y = some (0, 8)) (h1 : ¬ sp < 0) (h2 : ¬ dp < 0) (h3 : ¬ n < 0) (h4 : sp.toNatClampNeg + n.toNatClampNeg ≤ n0) (h5 : dp.toNatClampNeg + n.toNatClampNeg ≤ n1) (kn : WP S M (d + 1) cb sb Q (pc + 3) L st (cpyR S h a sp.toNatClampNeg b dp.toNatClampNeg n.toNatClampNeg)) : WP S M (d + 1) cb sb Q pc L (.int n :: .int dp :: .ref b :: .int sp :: .ref a :: st) h := by
  intro p l e R s m args below meth c G B mc ms C ls H locs cells slots hl hw hS hn
  obtain ⟨Cx, Cb, Cr, Cl, Ct, Co, Ck, Cn, Cf, Cm, CK, Cs, CB, CE⟩ := C
  have C : CX M (d + 1) p R s m args meth c G B mc ms := ⟨Cx, Cb, Cr, Cl, Ct, Co, Ck, Cn, Cf, Cm, CK, Cs, CB, CE⟩
  have hr2 := catsum B st
  have nn : ∀ z : Int32, ¬ z < 0 → z.toInt = (z.toNatClampNeg : Int) := by
    intro z hz
    have h0 : (0 : Int) ≤ z.toInt := by simpa using Int32.le_iff_toInt_le.mp (Int32.not_lt.mp hz)
    show z.toInt = ((z.toInt.toNat : Nat) : Int)
    omega
  intro T hT X
  have hc0 : H[B.1 + a]? = some (vp_cell (G.2.1 4) (n0, .inr (.inr (.inr (.inr (fun j => (RF S h a j).map (B.1 + ·))))))) := hw.2 a _ ha
  have hc1 : H[B.1 + b]? = some (vp_cell (G.2.1 4) (n1, .inr (.inr (.inr (.inr (fun j => (RF S h b j).map (B.1 + ·))))))) := hw.2 b _ hb
  obtain ⟨-, k0, hk0, cm0, hkk0⟩ := (CK.2 4 _ rfl).1 n0 (fun j => va_rf ((RF S h a j).map (B.1 + ·)))
  obtain ⟨-, k1, hk1, cm1, hkk1⟩ := (CK.2 4 _ rfl).1 n1 (fun j => va_rf ((RF S h b j).map (B.1 + ·)))
  obtain ⟨vm', X', step⟩ := X.arraycopy Cx Co (Ct _ hlk) (Ct _ hna) (Ct _ hst) (Ct _ hini) (src := B.1 + a) (dst := B.1 + b) (cs := (vp_cell (G.2.1 4) (n0, .inr (.inr (.inr (.inr (fun j => (RF S h a j).map (B.1 + ·)))))))) (cd := (vp_cell (G.2.1 4) (n1, .inr (.inr (.inr (.inr (fun j => (RF S h b j).map (B.1 + ·)))))))) (srcPos := sp) (destPos := dp) (n := n) (by rw [hT]; exact hc0) (by rw [hT]; exact hc1)
    (fun _ h => by cases h) (fun _ h => by cases h) (fun h => by cases h) (fun h => by cases h) hk0 hk1 hkk0 hkk1 rfl h1 h2 h3
    (by rw [nn sp h1, nn n h3]; show ¬ _ > ((arrV _ n0 (fun j => va_rf ((RF S h a j).map (B.1 + ·)))).slots.size : Int); rw [arrV_size]; omega)
    (by rw [nn dp h2, nn n h3]; show ¬ _ > ((arrV _ n1 (fun j => va_rf ((RF S h b j).map (B.1 + ·)))).slots.size : Int); rw [arrV_size]; omega)
    (fun vm₁ hal i hi => by
      have ee : ((vp_cell (G.2.1 4) (n0, .inr (.inr (.inr (.inr (fun j => (RF S h a j).map (B.1 + ·)))))))).slots.getD (sp.toNatClampNeg + i) .null = (fun j => va_rf ((RF S h a j).map (B.1 + ·))) (sp.toNatClampNeg + i) := by
        show (arrV _ n0 (fun j => va_rf ((RF S h a j).map (B.1 + ·)))).slots.getD _ _ = _
        rw [Array.getD_eq_getD_getElem?, arrV_read _ _ (by omega)]
        rfl
      rw [ee]
      dsimp only
      cases hy : RF S h a (sp.toNatClampNeg + i) with
      | none => exact ⟨rfl, trivial⟩
      | some y =>
        obtain ⟨cellV, g1, g2, g3⟩ := va_recv CK (vaP1 (hw.2 y _ (hel i hi y hy))) (q := (RX8, TX8, 4)) (ci := 8) (fs := fs_ S B h y 8) rfl (q0 := 0) (a := B.1 + y) rfl
        obtain ⟨kA, comp, r1, r2, r3, -⟩ : va_RA s (G.2.1 4) (.object RX8) := (CK.2 4 _ rfl).2
        cases hk1.symm.trans r1
        cases hkk1.symm.trans r2
        obtain ⟨kC, hkC, -⟩ := Vm.findClass_spec g3
        obtain ⟨kC', hkC', -⟩ := hal.2.2 _ _ hkC
        cases r3.symm.trans g3
        refine ⟨rfl, cellV, (show T.heap[B.1 + y]? = some cellV by rw [hT]; exact g1), (fun q h => by rw [h] at g2; cases g2), ⟨kC', hkC'⟩, ⟨kC', hkC'⟩, ?_⟩
        show vm₁.assignable _ _ = true
        rw [hal.assignable]
        exact va_assign (CK.1 8 _ rfl).2 |> fun z => by rwa [Option.some.inj ((CK.1 8 _ rfl).2.1.symm.trans g3)] at z)
    (g := F0 m pc ls (.int n :: .int dp :: .ref (B.1 + b) :: .int sp :: .ref (B.1 + a) :: st.map (rn B))) rfl (by rw [Cl]; exact hl.1) (rest := st.map (rn B)) rfl (by rw [Cb]; exact hd) (by omega) (by show 2 * 0 + _ + (nativeFrameWords "java/lang/System" "arraycopy" 5 + 11) ≤ _; have h77 : nativeFrameWords "java/lang/System" "arraycopy" 5 ≤ 30 := (by decide); omega)
  have e1 : copied (vp_cell (G.2.1 4) (n0, .inr (.inr (.inr (.inr (fun j => (RF S h a j).map (B.1 + ·))))))) (vp_cell (G.2.1 4) (n1, .inr (.inr (.inr (.inr (fun j => (RF S h b j).map (B.1 + ·))))))) sp dp n = vp_cell (G.2.1 4) (n1, .inr (.inr (.inr (.inr (va_cpy (fun j => (RF S h a j).map (B.1 + ·)) (fun j => (RF S h b j).map (B.1 + ·)) sp.toNatClampNeg dp.toNatClampNeg n.toNatClampNeg))))) := by
    exact va_copied (fun z => va_rf z) _ _ (fun j => (RF S h a j).map (B.1 + ·)) (fun j => (RF S h b j).map (B.1 + ·)) h4
  rw [e1] at X' step
  have hlt : B.1 + b < H.size := (Array.getElem?_eq_some_iff.mp hc1).1
  generalize hH1 : H.setIfInBounds (B.1 + b) (vp_cell (G.2.1 4) (n1, .inr (.inr (.inr (.inr (va_cpy (fun j => (RF S h a j).map (B.1 + ·)) (fun j => (RF S h b j).map (B.1 + ·)) sp.toNatClampNeg dp.toNatClampNeg n.toNatClampNeg)))))) = H1
  have hheap : ((T.setVm vm').setCell (B.1 + b) (vp_cell (G.2.1 4) (n1, .inr (.inr (.inr (.inr (va_cpy (fun j => (RF S h a j).map (B.1 + ·)) (fun j => (RF S h b j).map (B.1 + ·)) sp.toNatClampNeg dp.toNatClampNeg n.toNatClampNeg))))))).heap = H1 := by rw [← hH1, ← hT]; rfl
  have oq : ∀ q : Nat, q ≠ B.1 + b → H1[q]? = H[q]? := fun q hq => by rw [← hH1]; simp [Array.getElem?_setIfInBounds, Ne.symm hq]
  have hz : H1.size = H.size := by rw [← hH1]; simp
  have hW2 : Wd S G B (cpyR S h a sp.toNatClampNeg b dp.toNatClampNeg n.toNatClampNeg) H1 := by
    refine hw.upd rfl hb hz oq ?_ (fun q kk hq => vcell_congr ?_ ?_ ?_ kk)
    · show H1[B.1 + b]? = some (vp_cell _ _)
      rw [← hH1]
      have hz2 : (fun j => (RF S (cpyR S h a sp.toNatClampNeg b dp.toNatClampNeg n.toNatClampNeg) b j).map (B.1 + ·)) = va_cpy (fun j => (RF S h a j).map (B.1 + ·)) (fun j => (RF S h b j).map (B.1 + ·)) sp.toNatClampNeg dp.toNatClampNeg n.toNatClampNeg := by
        funext j
        simp only [RF, hs, cpyR, va_cpy, if_true]
        split <;> rfl
      rw [hz2]
      simp [Array.getElem?_setIfInBounds, hlt]
    all_goals first | rfl | (funext j; simp [cpyR, hq])
  obtain ⟨t, a1, b1⟩ := kn p l e R s m args below meth c G B mc ms C ls H1 _ cells slots hl hW2 ⟨by rw [hz]; exact hS.1, fun q g1 g2 => by
      rw [oq q (fun z => g2 (by rw [z]; exact Nat.le_add_right _ _))]
      exact hS.2.1 q g1 g2, fun q hq => by
      rcases List.mem_append.mp hq with z | z
      · exact hS.2.2 q z
      · obtain ⟨y, -, hy⟩ := List.mem_map.mp z
        rw [← hy]
        exact Nat.le_add_right _ _⟩ hn _ hheap X'
  exact ⟨t, step t a1, b1⟩
theorem wq_cpI {S : SH} {M : MD} {d cb sb : Nat} {Q : Option Value → AH → Prop} {pc : Nat} {L st : List Value} {h : AH} {index a b : Nat} {sp dp n : Int32} {h2 : AH} (hlk : Cond.methodLink M.1.cls index arraycopyName ∈ TT) (hna : Cond.native arraycopyName ∈ TT) (hst : Cond.static arraycopyName ∈ TT) (hini : Cond.initialized "java/lang/System" ∈ TT) (hr : (st.map fun v => v.category).sum ≤ 8) (hd : decode M.2.1 pc = .ok (.invokestatic index, 3)) (hv : cpI S h a sp b dp n = some h2) (kn : WP S M (d + 1) cb sb Q (pc + 3) L st h2) : WP S M (d + 1) cb sb Q pc L (.int n :: .int dp :: .ref b :: .int sp :: .ref a :: st) h := by
  unfold cpI at hv
  split at hv
  · obtain ⟨h1, rfl⟩ := if_none hv
    simp only [not_or] at h1
    exact wp_copyI hlk hna hst hini hr hd (by assumption) (by assumption) h1.1 h1.2.1 h1.2.2.1 (Nat.not_lt.mp h1.2.2.2.1) (Nat.not_lt.mp h1.2.2.2.2) kn
  · cases hv
theorem wq_cpR {S : SH} {M : MD} {d cb sb : Nat} {Q : Option Value → AH → Prop} {pc : Nat} {L st : List Value} {h : AH} {index a b : Nat} {sp dp n : Int32} {h2 : AH} (hlk : Cond.methodLink M.1.cls index arraycopyName ∈ TT) (hna : Cond.native arraycopyName ∈ TT) (hst : Cond.static arraycopyName ∈ TT) (hini : Cond.initialized "java/lang/System" ∈ TT) (hr : (st.map fun v => v.category).sum ≤ 8) (hd : decode M.2.1 pc = .ok (.invokestatic index, 3)) (hv : cpR S h a sp b dp n = some h2) (kn : WP S M (d + 1) cb sb Q (pc + 3) L st h2) : WP S M (d + 1) cb sb Q pc L (.int n :: .int dp :: .ref b :: .int sp :: .ref a :: st) h := by
  unfold cpR at hv
  split at hv
  · obtain ⟨h0, rfl⟩ := if_none hv
    have h1 : ¬ (sp < 0 ∨ dp < 0 ∨ n < 0 ∨ _ ∨ _) := fun q => h0 (Or.inl q)
    simp only [not_or] at h1
    have hs : S.2 b = none := by
      cases hz : S.2 b with
      | none => rfl
      | some f => exact absurd (Or.inr (Or.inl (by rw [hz]; rfl))) h0
    have hel := Decidable.byContradiction fun q => h0 (Or.inr (Or.inr q))
    refine wp_copyR hlk hna hst hini hr hd (by assumption) (by assumption) hs (fun i hi y hy => ?_) h1.1 h1.2.1 h1.2.2.1 (Nat.not_lt.mp h1.2.2.2.1) (Nat.not_lt.mp h1.2.2.2.2) kn
    have := List.all_eq_true.mp hel i (List.mem_range.mpr hi)
    rw [hy] at this
    simpa using this
  · cases hv
end
