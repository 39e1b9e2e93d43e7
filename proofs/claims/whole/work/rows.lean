section
-- ===== PART A: goes FIRST, ahead of the names: the tables' words, and 'selects' of the private methods out of them =====
/-- a private method of a class that the tables say can be made, by its rows of tables_1 -/
def lw_okq (q : MethodName × Nat) : Prop := (q.1.cls ≠ "java/lang/invoke/MethodHandle" ∧ q.1.cls ≠ "java/lang/invoke/VarHandle") ∧ Cond.instantiable q.1.cls q.2 ∈ tables_1 ∧ Cond.privateMethod q.1 ∈ tables_1 ∧ Cond.instanceMethod q.1 ∈ tables_1
theorem lw_p0 : lw_okq (⟨"DarkCommittee", "refuse", "(I)I"⟩, 20) := ⟨⟨by decide +kernel, by decide +kernel⟩, List.mem_of_getElem? (i := 21) (by decide +kernel), List.mem_of_getElem? (i := 417) (by decide +kernel), List.mem_of_getElem? (i := 418) (by decide +kernel)⟩
theorem lw_p1 : lw_okq (⟨"DarkCommittee", "accept", "(I)I"⟩, 20) := ⟨⟨by decide +kernel, by decide +kernel⟩, List.mem_of_getElem? (i := 21) (by decide +kernel), List.mem_of_getElem? (i := 432) (by decide +kernel), List.mem_of_getElem? (i := 433) (by decide +kernel)⟩
theorem lw_p2 : lw_okq (⟨"DarkCommittee$Council", "tellBird", "(LDarkCommittee$Stand;II)V"⟩, 6) := ⟨⟨by decide +kernel, by decide +kernel⟩, List.mem_of_getElem? (i := 243) (by decide +kernel), List.mem_of_getElem? (i := 467) (by decide +kernel), List.mem_of_getElem? (i := 468) (by decide +kernel)⟩
theorem lw_p3 : lw_okq (⟨"DarkCommittee$Council", "tellLaw", "(LDarkCommittee$Stand;IIII)V"⟩, 6) := ⟨⟨by decide +kernel, by decide +kernel⟩, List.mem_of_getElem? (i := 243) (by decide +kernel), List.mem_of_getElem? (i := 471) (by decide +kernel), List.mem_of_getElem? (i := 472) (by decide +kernel)⟩
theorem lw_p4 : lw_okq (⟨"DarkCommittee$Council", "wouldCarry", "(II)Z"⟩, 6) := ⟨⟨by decide +kernel, by decide +kernel⟩, List.mem_of_getElem? (i := 243) (by decide +kernel), List.mem_of_getElem? (i := 553) (by decide +kernel), List.mem_of_getElem? (i := 554) (by decide +kernel)⟩
theorem lw_p5 : lw_okq (⟨"DarkCommittee", "term", "(I)I"⟩, 20) := ⟨⟨by decide +kernel, by decide +kernel⟩, List.mem_of_getElem? (i := 21) (by decide +kernel), List.mem_of_getElem? (i := 564) (by decide +kernel), List.mem_of_getElem? (i := 565) (by decide +kernel)⟩
theorem lw_p6 : lw_okq (⟨"DarkCommittee", "feedFour", "(I)V"⟩, 20) := ⟨⟨by decide +kernel, by decide +kernel⟩, List.mem_of_getElem? (i := 21) (by decide +kernel), List.mem_of_getElem? (i := 572) (by decide +kernel), List.mem_of_getElem? (i := 573) (by decide +kernel)⟩
theorem lw_p7 : lw_okq (⟨"DarkCommittee", "canBeBird", "(I)Z"⟩, 20) := ⟨⟨by decide +kernel, by decide +kernel⟩, List.mem_of_getElem? (i := 21) (by decide +kernel), List.mem_of_getElem? (i := 584) (by decide +kernel), List.mem_of_getElem? (i := 585) (by decide +kernel)⟩
theorem lw_p8 : lw_okq (⟨"DarkCommittee", "addBirdOfRow", "(I)V"⟩, 20) := ⟨⟨by decide +kernel, by decide +kernel⟩, List.mem_of_getElem? (i := 21) (by decide +kernel), List.mem_of_getElem? (i := 588) (by decide +kernel), List.mem_of_getElem? (i := 589) (by decide +kernel)⟩
theorem lw_p9 : lw_okq (⟨"DarkCommittee$Tokens", "add", "(III)V"⟩, 4) := ⟨⟨by decide +kernel, by decide +kernel⟩, List.mem_of_getElem? (i := 310) (by decide +kernel), List.mem_of_getElem? (i := 674) (by decide +kernel), List.mem_of_getElem? (i := 675) (by decide +kernel)⟩
theorem lw_p10 : lw_okq (⟨"DarkCommittee$Reader", "kind", "()I"⟩, 5) := ⟨⟨by decide +kernel, by decide +kernel⟩, List.mem_of_getElem? (i := 304) (by decide +kernel), List.mem_of_getElem? (i := 678) (by decide +kernel), List.mem_of_getElem? (i := 679) (by decide +kernel)⟩
theorem lw_p11 : lw_okq (⟨"DarkCommittee$Reader", "setHead", "(II)V"⟩, 5) := ⟨⟨by decide +kernel, by decide +kernel⟩, List.mem_of_getElem? (i := 304) (by decide +kernel), List.mem_of_getElem? (i := 682) (by decide +kernel), List.mem_of_getElem? (i := 683) (by decide +kernel)⟩
theorem lw_p12 : lw_okq (⟨"DarkCommittee$Reader", "lawClause", "()Z"⟩, 5) := ⟨⟨by decide +kernel, by decide +kernel⟩, List.mem_of_getElem? (i := 304) (by decide +kernel), List.mem_of_getElem? (i := 690) (by decide +kernel), List.mem_of_getElem? (i := 691) (by decide +kernel)⟩
theorem lw_p13 : lw_okq (⟨"DarkCommittee$Reader", "next", "()V"⟩, 5) := ⟨⟨by decide +kernel, by decide +kernel⟩, List.mem_of_getElem? (i := 304) (by decide +kernel), List.mem_of_getElem? (i := 694) (by decide +kernel), List.mem_of_getElem? (i := 695) (by decide +kernel)⟩
theorem lw_p14 : lw_okq (⟨"DarkCommittee$Reader", "sum", "(I)Z"⟩, 5) := ⟨⟨by decide +kernel, by decide +kernel⟩, List.mem_of_getElem? (i := 304) (by decide +kernel), List.mem_of_getElem? (i := 698) (by decide +kernel), List.mem_of_getElem? (i := 699) (by decide +kernel)⟩
theorem lw_p15 : lw_okq (⟨"DarkCommittee$Reader", "part", "(I)Z"⟩, 5) := ⟨⟨by decide +kernel, by decide +kernel⟩, List.mem_of_getElem? (i := 304) (by decide +kernel), List.mem_of_getElem? (i := 702) (by decide +kernel), List.mem_of_getElem? (i := 703) (by decide +kernel)⟩
def lw_privs_1 : List (MethodName × Nat) := [(⟨"DarkCommittee", "refuse", "(I)I"⟩, 20), (⟨"DarkCommittee", "accept", "(I)I"⟩, 20), (⟨"DarkCommittee$Council", "tellBird", "(LDarkCommittee$Stand;II)V"⟩, 6), (⟨"DarkCommittee$Council", "tellLaw", "(LDarkCommittee$Stand;IIII)V"⟩, 6), (⟨"DarkCommittee$Council", "wouldCarry", "(II)Z"⟩, 6), (⟨"DarkCommittee", "term", "(I)I"⟩, 20), (⟨"DarkCommittee", "feedFour", "(I)V"⟩, 20), (⟨"DarkCommittee", "canBeBird", "(I)Z"⟩, 20), (⟨"DarkCommittee", "addBirdOfRow", "(I)V"⟩, 20), (⟨"DarkCommittee$Tokens", "add", "(III)V"⟩, 4), (⟨"DarkCommittee$Reader", "kind", "()I"⟩, 5), (⟨"DarkCommittee$Reader", "setHead", "(II)V"⟩, 5), (⟨"DarkCommittee$Reader", "lawClause", "()Z"⟩, 5), (⟨"DarkCommittee$Reader", "next", "()V"⟩, 5), (⟨"DarkCommittee$Reader", "sum", "(I)Z"⟩, 5), (⟨"DarkCommittee$Reader", "part", "(I)Z"⟩, 5)]
theorem lw_r1 : ∀ q ∈ lw_privs_1, lw_okq q := List.forall_mem_cons.mpr ⟨lw_p0, List.forall_mem_cons.mpr ⟨lw_p1, List.forall_mem_cons.mpr ⟨lw_p2, List.forall_mem_cons.mpr ⟨lw_p3, List.forall_mem_cons.mpr ⟨lw_p4, List.forall_mem_cons.mpr ⟨lw_p5, List.forall_mem_cons.mpr ⟨lw_p6, List.forall_mem_cons.mpr ⟨lw_p7, List.forall_mem_cons.mpr ⟨lw_p8, List.forall_mem_cons.mpr ⟨lw_p9, List.forall_mem_cons.mpr ⟨lw_p10, List.forall_mem_cons.mpr ⟨lw_p11, List.forall_mem_cons.mpr ⟨lw_p12, List.forall_mem_cons.mpr ⟨lw_p13, List.forall_mem_cons.mpr ⟨lw_p14, List.forall_mem_cons.mpr ⟨lw_p15, fun _ h => absurd h List.not_mem_nil⟩⟩⟩⟩⟩⟩⟩⟩⟩⟩⟩⟩⟩⟩⟩⟩
theorem lw_p16 : lw_okq (⟨"DarkCommittee$Reader", "sumInBrackets", "(I)Z"⟩, 5) := ⟨⟨by decide +kernel, by decide +kernel⟩, List.mem_of_getElem? (i := 304) (by decide +kernel), List.mem_of_getElem? (i := 706) (by decide +kernel), List.mem_of_getElem? (i := 707) (by decide +kernel)⟩
theorem lw_p17 : lw_okq (⟨"DarkCommittee$Reader", "isNumber", "(II)Z"⟩, 5) := ⟨⟨by decide +kernel, by decide +kernel⟩, List.mem_of_getElem? (i := 304) (by decide +kernel), List.mem_of_getElem? (i := 710) (by decide +kernel), List.mem_of_getElem? (i := 711) (by decide +kernel)⟩
theorem lw_p18 : lw_okq (⟨"DarkCommittee$Reader", "number", "()I"⟩, 5) := ⟨⟨by decide +kernel, by decide +kernel⟩, List.mem_of_getElem? (i := 304) (by decide +kernel), List.mem_of_getElem? (i := 714) (by decide +kernel), List.mem_of_getElem? (i := 715) (by decide +kernel)⟩
theorem lw_p19 : lw_okq (⟨"DarkCommittee$Reader", "emit", "(II)V"⟩, 5) := ⟨⟨by decide +kernel, by decide +kernel⟩, List.mem_of_getElem? (i := 304) (by decide +kernel), List.mem_of_getElem? (i := 718) (by decide +kernel), List.mem_of_getElem? (i := 719) (by decide +kernel)⟩
theorem lw_p20 : lw_okq (⟨"DarkCommittee$Reader", "lawWord", "()Z"⟩, 5) := ⟨⟨by decide +kernel, by decide +kernel⟩, List.mem_of_getElem? (i := 304) (by decide +kernel), List.mem_of_getElem? (i := 722) (by decide +kernel), List.mem_of_getElem? (i := 723) (by decide +kernel)⟩
theorem lw_p21 : lw_okq (⟨"DarkCommittee$Reader", "orderWord", "()Z"⟩, 5) := ⟨⟨by decide +kernel, by decide +kernel⟩, List.mem_of_getElem? (i := 304) (by decide +kernel), List.mem_of_getElem? (i := 726) (by decide +kernel), List.mem_of_getElem? (i := 727) (by decide +kernel)⟩
theorem lw_p22 : lw_okq (⟨"DarkCommittee$Reader", "orderClause", "()Z"⟩, 5) := ⟨⟨by decide +kernel, by decide +kernel⟩, List.mem_of_getElem? (i := 304) (by decide +kernel), List.mem_of_getElem? (i := 730) (by decide +kernel), List.mem_of_getElem? (i := 731) (by decide +kernel)⟩
theorem lw_p23 : lw_okq (⟨"DarkCommittee$Reader", "times", "()Z"⟩, 5) := ⟨⟨by decide +kernel, by decide +kernel⟩, List.mem_of_getElem? (i := 304) (by decide +kernel), List.mem_of_getElem? (i := 734) (by decide +kernel), List.mem_of_getElem? (i := 735) (by decide +kernel)⟩
theorem lw_p24 : lw_okq (⟨"DarkCommittee$Reader", "test", "(I)Z"⟩, 5) := ⟨⟨by decide +kernel, by decide +kernel⟩, List.mem_of_getElem? (i := 304) (by decide +kernel), List.mem_of_getElem? (i := 738) (by decide +kernel), List.mem_of_getElem? (i := 739) (by decide +kernel)⟩
theorem lw_p25 : lw_okq (⟨"DarkCommittee$Reader", "plain", "(I)Z"⟩, 5) := ⟨⟨by decide +kernel, by decide +kernel⟩, List.mem_of_getElem? (i := 304) (by decide +kernel), List.mem_of_getElem? (i := 742) (by decide +kernel), List.mem_of_getElem? (i := 743) (by decide +kernel)⟩
theorem lw_p26 : lw_okq (⟨"DarkCommittee$Reader", "testInBrackets", "(I)Z"⟩, 5) := ⟨⟨by decide +kernel, by decide +kernel⟩, List.mem_of_getElem? (i := 304) (by decide +kernel), List.mem_of_getElem? (i := 746) (by decide +kernel), List.mem_of_getElem? (i := 747) (by decide +kernel)⟩
theorem lw_p27 : lw_okq (⟨"DarkCommittee$Reader", "leapHere", "(I)V"⟩, 5) := ⟨⟨by decide +kernel, by decide +kernel⟩, List.mem_of_getElem? (i := 304) (by decide +kernel), List.mem_of_getElem? (i := 750) (by decide +kernel), List.mem_of_getElem? (i := 751) (by decide +kernel)⟩
theorem lw_p28 : lw_okq (⟨"DarkCommittee", "runClause", "(LDarkCommittee$Text;I)Z"⟩, 20) := ⟨⟨by decide +kernel, by decide +kernel⟩, List.mem_of_getElem? (i := 21) (by decide +kernel), List.mem_of_getElem? (i := 775) (by decide +kernel), List.mem_of_getElem? (i := 776) (by decide +kernel)⟩
theorem lw_p29 : lw_okq (⟨"DarkCommittee", "tellOrders", "()V"⟩, 20) := ⟨⟨by decide +kernel, by decide +kernel⟩, List.mem_of_getElem? (i := 21) (by decide +kernel), List.mem_of_getElem? (i := 780) (by decide +kernel), List.mem_of_getElem? (i := 781) (by decide +kernel)⟩
theorem lw_p30 : lw_okq (⟨"DarkCommittee", "act", "(III)I"⟩, 20) := ⟨⟨by decide +kernel, by decide +kernel⟩, List.mem_of_getElem? (i := 21) (by decide +kernel), List.mem_of_getElem? (i := 790) (by decide +kernel), List.mem_of_getElem? (i := 791) (by decide +kernel)⟩
theorem lw_p31 : lw_okq (⟨"DarkCommittee", "answer", "(I)I"⟩, 20) := ⟨⟨by decide +kernel, by decide +kernel⟩, List.mem_of_getElem? (i := 21) (by decide +kernel), List.mem_of_getElem? (i := 841) (by decide +kernel), List.mem_of_getElem? (i := 842) (by decide +kernel)⟩
def lw_privs_2 : List (MethodName × Nat) := [(⟨"DarkCommittee$Reader", "sumInBrackets", "(I)Z"⟩, 5), (⟨"DarkCommittee$Reader", "isNumber", "(II)Z"⟩, 5), (⟨"DarkCommittee$Reader", "number", "()I"⟩, 5), (⟨"DarkCommittee$Reader", "emit", "(II)V"⟩, 5), (⟨"DarkCommittee$Reader", "lawWord", "()Z"⟩, 5), (⟨"DarkCommittee$Reader", "orderWord", "()Z"⟩, 5), (⟨"DarkCommittee$Reader", "orderClause", "()Z"⟩, 5), (⟨"DarkCommittee$Reader", "times", "()Z"⟩, 5), (⟨"DarkCommittee$Reader", "test", "(I)Z"⟩, 5), (⟨"DarkCommittee$Reader", "plain", "(I)Z"⟩, 5), (⟨"DarkCommittee$Reader", "testInBrackets", "(I)Z"⟩, 5), (⟨"DarkCommittee$Reader", "leapHere", "(I)V"⟩, 5), (⟨"DarkCommittee", "runClause", "(LDarkCommittee$Text;I)Z"⟩, 20), (⟨"DarkCommittee", "tellOrders", "()V"⟩, 20), (⟨"DarkCommittee", "act", "(III)I"⟩, 20), (⟨"DarkCommittee", "answer", "(I)I"⟩, 20)]
theorem lw_r2 : ∀ q ∈ lw_privs_2, lw_okq q := List.forall_mem_cons.mpr ⟨lw_p16, List.forall_mem_cons.mpr ⟨lw_p17, List.forall_mem_cons.mpr ⟨lw_p18, List.forall_mem_cons.mpr ⟨lw_p19, List.forall_mem_cons.mpr ⟨lw_p20, List.forall_mem_cons.mpr ⟨lw_p21, List.forall_mem_cons.mpr ⟨lw_p22, List.forall_mem_cons.mpr ⟨lw_p23, List.forall_mem_cons.mpr ⟨lw_p24, List.forall_mem_cons.mpr ⟨lw_p25, List.forall_mem_cons.mpr ⟨lw_p26, List.forall_mem_cons.mpr ⟨lw_p27, List.forall_mem_cons.mpr ⟨lw_p28, List.forall_mem_cons.mpr ⟨lw_p29, List.forall_mem_cons.mpr ⟨lw_p30, List.forall_mem_cons.mpr ⟨lw_p31, fun _ h => absurd h List.not_mem_nil⟩⟩⟩⟩⟩⟩⟩⟩⟩⟩⟩⟩⟩⟩⟩⟩
theorem lw_p32 : lw_okq (⟨"DarkCommittee$Best", "divisionAt", "(II)I"⟩, 7) := ⟨⟨by decide +kernel, by decide +kernel⟩, List.mem_of_getElem? (i := 271) (by decide +kernel), List.mem_of_getElem? (i := 892) (by decide +kernel), List.mem_of_getElem? (i := 893) (by decide +kernel)⟩
theorem lw_p33 : lw_okq (⟨"DarkCommittee$Council", "nextInChain", "(LDarkCommittee$Stand;II)I"⟩, 6) := ⟨⟨by decide +kernel, by decide +kernel⟩, List.mem_of_getElem? (i := 243) (by decide +kernel), List.mem_of_getElem? (i := 925) (by decide +kernel), List.mem_of_getElem? (i := 926) (by decide +kernel)⟩
theorem lw_p34 : lw_okq (⟨"DarkCommittee$Council", "hearAll", "(II)Z"⟩, 6) := ⟨⟨by decide +kernel, by decide +kernel⟩, List.mem_of_getElem? (i := 243) (by decide +kernel), List.mem_of_getElem? (i := 946) (by decide +kernel), List.mem_of_getElem? (i := 947) (by decide +kernel)⟩
theorem lw_p35 : lw_okq (⟨"DarkCommittee$May", "draw", "(I)I"⟩, 4) := ⟨⟨by decide +kernel, by decide +kernel⟩, List.mem_of_getElem? (i := 198) (by decide +kernel), List.mem_of_getElem? (i := 1020) (by decide +kernel), List.mem_of_getElem? (i := 1021) (by decide +kernel)⟩
theorem lw_p36 : lw_okq (⟨"DarkCommitteeModel", "tell", "(I)I"⟩, 58) := ⟨⟨by decide +kernel, by decide +kernel⟩, List.mem_of_getElem? (i := 1055) (by decide +kernel), List.mem_of_getElem? (i := 1261) (by decide +kernel), List.mem_of_getElem? (i := 1262) (by decide +kernel)⟩
theorem lw_p37 : lw_okq (⟨"DarkCommitteeModel", "putBack", "(I)V"⟩, 58) := ⟨⟨by decide +kernel, by decide +kernel⟩, List.mem_of_getElem? (i := 1055) (by decide +kernel), List.mem_of_getElem? (i := 1265) (by decide +kernel), List.mem_of_getElem? (i := 1266) (by decide +kernel)⟩
theorem lw_p38 : lw_okq (⟨"DarkCommitteeModel", "lasting", "(I)I"⟩, 58) := ⟨⟨by decide +kernel, by decide +kernel⟩, List.mem_of_getElem? (i := 1055) (by decide +kernel), List.mem_of_getElem? (i := 1280) (by decide +kernel), List.mem_of_getElem? (i := 1281) (by decide +kernel)⟩
theorem lw_p39 : lw_okq (⟨"DarkCommitteeModel", "comes", "(II)I"⟩, 58) := ⟨⟨by decide +kernel, by decide +kernel⟩, List.mem_of_getElem? (i := 1055) (by decide +kernel), List.mem_of_getElem? (i := 1288) (by decide +kernel), List.mem_of_getElem? (i := 1289) (by decide +kernel)⟩
theorem lw_p40 : lw_okq (⟨"DarkCommitteeModel", "isBird", "(I)Z"⟩, 58) := ⟨⟨by decide +kernel, by decide +kernel⟩, List.mem_of_getElem? (i := 1055) (by decide +kernel), List.mem_of_getElem? (i := 1303) (by decide +kernel), List.mem_of_getElem? (i := 1304) (by decide +kernel)⟩
theorem lw_p41 : lw_okq (⟨"DarkCommitteeModel", "change", "(II)I"⟩, 58) := ⟨⟨by decide +kernel, by decide +kernel⟩, List.mem_of_getElem? (i := 1055) (by decide +kernel), List.mem_of_getElem? (i := 1307) (by decide +kernel), List.mem_of_getElem? (i := 1308) (by decide +kernel)⟩
theorem lw_p42 : lw_okq (⟨"DarkCommitteeModel", "hearsAll", "(I)I"⟩, 58) := ⟨⟨by decide +kernel, by decide +kernel⟩, List.mem_of_getElem? (i := 1055) (by decide +kernel), List.mem_of_getElem? (i := 1316) (by decide +kernel), List.mem_of_getElem? (i := 1317) (by decide +kernel)⟩
theorem lw_p43 : lw_okq (⟨"DarkCommitteeModel", "hears", "(II)Z"⟩, 58) := ⟨⟨by decide +kernel, by decide +kernel⟩, List.mem_of_getElem? (i := 1055) (by decide +kernel), List.mem_of_getElem? (i := 1320) (by decide +kernel), List.mem_of_getElem? (i := 1321) (by decide +kernel)⟩
theorem lw_p44 : lw_okq (⟨"DarkCommitteeModel", "isAway", "(I)Z"⟩, 58) := ⟨⟨by decide +kernel, by decide +kernel⟩, List.mem_of_getElem? (i := 1055) (by decide +kernel), List.mem_of_getElem? (i := 1324) (by decide +kernel), List.mem_of_getElem? (i := 1325) (by decide +kernel)⟩
theorem lw_p45 : lw_okq (⟨"DarkCommitteeModel", "isMatter", "(I)Z"⟩, 58) := ⟨⟨by decide +kernel, by decide +kernel⟩, List.mem_of_getElem? (i := 1055) (by decide +kernel), List.mem_of_getElem? (i := 1328) (by decide +kernel), List.mem_of_getElem? (i := 1329) (by decide +kernel)⟩
theorem lw_p46 : lw_okq (⟨"DarkCommitteeModel", "swayOf", "(II)I"⟩, 58) := ⟨⟨by decide +kernel, by decide +kernel⟩, List.mem_of_getElem? (i := 1055) (by decide +kernel), List.mem_of_getElem? (i := 1332) (by decide +kernel), List.mem_of_getElem? (i := 1333) (by decide +kernel)⟩
theorem lw_p47 : lw_okq (⟨"DarkCommitteeModel", "tells", "(IIIJ)J"⟩, 58) := ⟨⟨by decide +kernel, by decide +kernel⟩, List.mem_of_getElem? (i := 1055) (by decide +kernel), List.mem_of_getElem? (i := 1336) (by decide +kernel), List.mem_of_getElem? (i := 1337) (by decide +kernel)⟩
def lw_privs_3 : List (MethodName × Nat) := [(⟨"DarkCommittee$Best", "divisionAt", "(II)I"⟩, 7), (⟨"DarkCommittee$Council", "nextInChain", "(LDarkCommittee$Stand;II)I"⟩, 6), (⟨"DarkCommittee$Council", "hearAll", "(II)Z"⟩, 6), (⟨"DarkCommittee$May", "draw", "(I)I"⟩, 4), (⟨"DarkCommitteeModel", "tell", "(I)I"⟩, 58), (⟨"DarkCommitteeModel", "putBack", "(I)V"⟩, 58), (⟨"DarkCommitteeModel", "lasting", "(I)I"⟩, 58), (⟨"DarkCommitteeModel", "comes", "(II)I"⟩, 58), (⟨"DarkCommitteeModel", "isBird", "(I)Z"⟩, 58), (⟨"DarkCommitteeModel", "change", "(II)I"⟩, 58), (⟨"DarkCommitteeModel", "hearsAll", "(I)I"⟩, 58), (⟨"DarkCommitteeModel", "hears", "(II)Z"⟩, 58), (⟨"DarkCommitteeModel", "isAway", "(I)Z"⟩, 58), (⟨"DarkCommitteeModel", "isMatter", "(I)Z"⟩, 58), (⟨"DarkCommitteeModel", "swayOf", "(II)I"⟩, 58), (⟨"DarkCommitteeModel", "tells", "(IIIJ)J"⟩, 58)]
theorem lw_r3 : ∀ q ∈ lw_privs_3, lw_okq q := List.forall_mem_cons.mpr ⟨lw_p32, List.forall_mem_cons.mpr ⟨lw_p33, List.forall_mem_cons.mpr ⟨lw_p34, List.forall_mem_cons.mpr ⟨lw_p35, List.forall_mem_cons.mpr ⟨lw_p36, List.forall_mem_cons.mpr ⟨lw_p37, List.forall_mem_cons.mpr ⟨lw_p38, List.forall_mem_cons.mpr ⟨lw_p39, List.forall_mem_cons.mpr ⟨lw_p40, List.forall_mem_cons.mpr ⟨lw_p41, List.forall_mem_cons.mpr ⟨lw_p42, List.forall_mem_cons.mpr ⟨lw_p43, List.forall_mem_cons.mpr ⟨lw_p44, List.forall_mem_cons.mpr ⟨lw_p45, List.forall_mem_cons.mpr ⟨lw_p46, List.forall_mem_cons.mpr ⟨lw_p47, fun _ h => absurd h List.not_mem_nil⟩⟩⟩⟩⟩⟩⟩⟩⟩⟩⟩⟩⟩⟩⟩⟩
theorem lw_p48 : lw_okq (⟨"DarkCommitteeModel", "isSo", "(I)Z"⟩, 58) := ⟨⟨by decide +kernel, by decide +kernel⟩, List.mem_of_getElem? (i := 1055) (by decide +kernel), List.mem_of_getElem? (i := 1340) (by decide +kernel), List.mem_of_getElem? (i := 1341) (by decide +kernel)⟩
theorem lw_p49 : lw_okq (⟨"DarkCommitteeModel", "reckonAll", "(II)V"⟩, 58) := ⟨⟨by decide +kernel, by decide +kernel⟩, List.mem_of_getElem? (i := 1055) (by decide +kernel), List.mem_of_getElem? (i := 1344) (by decide +kernel), List.mem_of_getElem? (i := 1345) (by decide +kernel)⟩
theorem lw_p50 : lw_okq (⟨"DarkCommitteeModel", "reckon", "(IJJ)J"⟩, 58) := ⟨⟨by decide +kernel, by decide +kernel⟩, List.mem_of_getElem? (i := 1055) (by decide +kernel), List.mem_of_getElem? (i := 1348) (by decide +kernel), List.mem_of_getElem? (i := 1349) (by decide +kernel)⟩
theorem lw_p51 : lw_okq (⟨"DarkCommitteeModel", "sits", "(II)Z"⟩, 58) := ⟨⟨by decide +kernel, by decide +kernel⟩, List.mem_of_getElem? (i := 1055) (by decide +kernel), List.mem_of_getElem? (i := 1357) (by decide +kernel), List.mem_of_getElem? (i := 1358) (by decide +kernel)⟩
theorem lw_p52 : lw_okq (⟨"DarkCommitteeModel", "isAye", "(II)Z"⟩, 58) := ⟨⟨by decide +kernel, by decide +kernel⟩, List.mem_of_getElem? (i := 1055) (by decide +kernel), List.mem_of_getElem? (i := 1361) (by decide +kernel), List.mem_of_getElem? (i := 1362) (by decide +kernel)⟩
theorem lw_p53 : lw_okq (⟨"DarkCommitteeModel", "takesOf", "(I)I"⟩, 58) := ⟨⟨by decide +kernel, by decide +kernel⟩, List.mem_of_getElem? (i := 1055) (by decide +kernel), List.mem_of_getElem? (i := 1373) (by decide +kernel), List.mem_of_getElem? (i := 1374) (by decide +kernel)⟩
theorem lw_p54 : lw_okq (⟨"DarkCommitteeModel", "sitting", "(I)I"⟩, 58) := ⟨⟨by decide +kernel, by decide +kernel⟩, List.mem_of_getElem? (i := 1055) (by decide +kernel), List.mem_of_getElem? (i := 1377) (by decide +kernel), List.mem_of_getElem? (i := 1378) (by decide +kernel)⟩
theorem lw_p55 : lw_okq (⟨"DarkCommitteeModel", "ayes", "(I)I"⟩, 58) := ⟨⟨by decide +kernel, by decide +kernel⟩, List.mem_of_getElem? (i := 1055) (by decide +kernel), List.mem_of_getElem? (i := 1381) (by decide +kernel), List.mem_of_getElem? (i := 1382) (by decide +kernel)⟩
theorem lw_p56 : lw_okq (⟨"DarkCommitteeModel", "canDivide", "(I)Z"⟩, 58) := ⟨⟨by decide +kernel, by decide +kernel⟩, List.mem_of_getElem? (i := 1055) (by decide +kernel), List.mem_of_getElem? (i := 1385) (by decide +kernel), List.mem_of_getElem? (i := 1386) (by decide +kernel)⟩
theorem lw_p57 : lw_okq (⟨"DarkCommitteeModel", "isRow", "(II)Z"⟩, 58) := ⟨⟨by decide +kernel, by decide +kernel⟩, List.mem_of_getElem? (i := 1055) (by decide +kernel), List.mem_of_getElem? (i := 1403) (by decide +kernel), List.mem_of_getElem? (i := 1404) (by decide +kernel)⟩
theorem lw_p58 : lw_okq (⟨"DarkCommitteeModel", "four", "(I)V"⟩, 58) := ⟨⟨by decide +kernel, by decide +kernel⟩, List.mem_of_getElem? (i := 1055) (by decide +kernel), List.mem_of_getElem? (i := 1415) (by decide +kernel), List.mem_of_getElem? (i := 1416) (by decide +kernel)⟩
theorem lw_p59 : lw_okq (⟨"DarkCommitteeModel", "beginText", "(Z)V"⟩, 58) := ⟨⟨by decide +kernel, by decide +kernel⟩, List.mem_of_getElem? (i := 1055) (by decide +kernel), List.mem_of_getElem? (i := 1431) (by decide +kernel), List.mem_of_getElem? (i := 1432) (by decide +kernel)⟩
theorem lw_p60 : lw_okq (⟨"DarkCommitteeModel", "begin", "()V"⟩, 58) := ⟨⟨by decide +kernel, by decide +kernel⟩, List.mem_of_getElem? (i := 1055) (by decide +kernel), List.mem_of_getElem? (i := 1435) (by decide +kernel), List.mem_of_getElem? (i := 1436) (by decide +kernel)⟩
theorem lw_p61 : lw_okq (⟨"DarkCommitteeModel", "next", "()V"⟩, 58) := ⟨⟨by decide +kernel, by decide +kernel⟩, List.mem_of_getElem? (i := 1055) (by decide +kernel), List.mem_of_getElem? (i := 1439) (by decide +kernel), List.mem_of_getElem? (i := 1440) (by decide +kernel)⟩
theorem lw_p62 : lw_okq (⟨"DarkCommitteeModel", "readLaw", "()V"⟩, 58) := ⟨⟨by decide +kernel, by decide +kernel⟩, List.mem_of_getElem? (i := 1055) (by decide +kernel), List.mem_of_getElem? (i := 1453) (by decide +kernel), List.mem_of_getElem? (i := 1454) (by decide +kernel)⟩
theorem lw_p63 : lw_okq (⟨"DarkCommitteeModel", "isWord", "(J)Z"⟩, 58) := ⟨⟨by decide +kernel, by decide +kernel⟩, List.mem_of_getElem? (i := 1055) (by decide +kernel), List.mem_of_getElem? (i := 1457) (by decide +kernel), List.mem_of_getElem? (i := 1458) (by decide +kernel)⟩
def lw_privs_4 : List (MethodName × Nat) := [(⟨"DarkCommitteeModel", "isSo", "(I)Z"⟩, 58), (⟨"DarkCommitteeModel", "reckonAll", "(II)V"⟩, 58), (⟨"DarkCommitteeModel", "reckon", "(IJJ)J"⟩, 58), (⟨"DarkCommitteeModel", "sits", "(II)Z"⟩, 58), (⟨"DarkCommitteeModel", "isAye", "(II)Z"⟩, 58), (⟨"DarkCommitteeModel", "takesOf", "(I)I"⟩, 58), (⟨"DarkCommitteeModel", "sitting", "(I)I"⟩, 58), (⟨"DarkCommitteeModel", "ayes", "(I)I"⟩, 58), (⟨"DarkCommitteeModel", "canDivide", "(I)Z"⟩, 58), (⟨"DarkCommitteeModel", "isRow", "(II)Z"⟩, 58), (⟨"DarkCommitteeModel", "four", "(I)V"⟩, 58), (⟨"DarkCommitteeModel", "beginText", "(Z)V"⟩, 58), (⟨"DarkCommitteeModel", "begin", "()V"⟩, 58), (⟨"DarkCommitteeModel", "next", "()V"⟩, 58), (⟨"DarkCommitteeModel", "readLaw", "()V"⟩, 58), (⟨"DarkCommitteeModel", "isWord", "(J)Z"⟩, 58)]
theorem lw_r4 : ∀ q ∈ lw_privs_4, lw_okq q := List.forall_mem_cons.mpr ⟨lw_p48, List.forall_mem_cons.mpr ⟨lw_p49, List.forall_mem_cons.mpr ⟨lw_p50, List.forall_mem_cons.mpr ⟨lw_p51, List.forall_mem_cons.mpr ⟨lw_p52, List.forall_mem_cons.mpr ⟨lw_p53, List.forall_mem_cons.mpr ⟨lw_p54, List.forall_mem_cons.mpr ⟨lw_p55, List.forall_mem_cons.mpr ⟨lw_p56, List.forall_mem_cons.mpr ⟨lw_p57, List.forall_mem_cons.mpr ⟨lw_p58, List.forall_mem_cons.mpr ⟨lw_p59, List.forall_mem_cons.mpr ⟨lw_p60, List.forall_mem_cons.mpr ⟨lw_p61, List.forall_mem_cons.mpr ⟨lw_p62, List.forall_mem_cons.mpr ⟨lw_p63, fun _ h => absurd h List.not_mem_nil⟩⟩⟩⟩⟩⟩⟩⟩⟩⟩⟩⟩⟩⟩⟩⟩
theorem lw_p64 : lw_okq (⟨"DarkCommitteeModel", "must", "(Z)V"⟩, 58) := ⟨⟨by decide +kernel, by decide +kernel⟩, List.mem_of_getElem? (i := 1055) (by decide +kernel), List.mem_of_getElem? (i := 1461) (by decide +kernel), List.mem_of_getElem? (i := 1462) (by decide +kernel)⟩
theorem lw_p65 : lw_okq (⟨"DarkCommitteeModel", "readExpression", "(Z)V"⟩, 58) := ⟨⟨by decide +kernel, by decide +kernel⟩, List.mem_of_getElem? (i := 1055) (by decide +kernel), List.mem_of_getElem? (i := 1465) (by decide +kernel), List.mem_of_getElem? (i := 1466) (by decide +kernel)⟩
theorem lw_p66 : lw_okq (⟨"DarkCommitteeModel", "readPlain", "()I"⟩, 58) := ⟨⟨by decide +kernel, by decide +kernel⟩, List.mem_of_getElem? (i := 1055) (by decide +kernel), List.mem_of_getElem? (i := 1469) (by decide +kernel), List.mem_of_getElem? (i := 1470) (by decide +kernel)⟩
theorem lw_p67 : lw_okq (⟨"DarkCommitteeModel", "push", "(II)V"⟩, 58) := ⟨⟨by decide +kernel, by decide +kernel⟩, List.mem_of_getElem? (i := 1055) (by decide +kernel), List.mem_of_getElem? (i := 1474) (by decide +kernel), List.mem_of_getElem? (i := 1475) (by decide +kernel)⟩
theorem lw_p68 : lw_okq (⟨"DarkCommitteeModel", "isSign", "(I)Z"⟩, 58) := ⟨⟨by decide +kernel, by decide +kernel⟩, List.mem_of_getElem? (i := 1055) (by decide +kernel), List.mem_of_getElem? (i := 1478) (by decide +kernel), List.mem_of_getElem? (i := 1479) (by decide +kernel)⟩
theorem lw_p69 : lw_okq (⟨"DarkCommitteeModel", "openBracket", "(I)V"⟩, 58) := ⟨⟨by decide +kernel, by decide +kernel⟩, List.mem_of_getElem? (i := 1055) (by decide +kernel), List.mem_of_getElem? (i := 1482) (by decide +kernel), List.mem_of_getElem? (i := 1483) (by decide +kernel)⟩
theorem lw_p70 : lw_okq (⟨"DarkCommitteeModel", "readPart", "()I"⟩, 58) := ⟨⟨by decide +kernel, by decide +kernel⟩, List.mem_of_getElem? (i := 1055) (by decide +kernel), List.mem_of_getElem? (i := 1486) (by decide +kernel), List.mem_of_getElem? (i := 1487) (by decide +kernel)⟩
theorem lw_p71 : lw_okq (⟨"DarkCommitteeModel", "orderPartAt", "()I"⟩, 58) := ⟨⟨by decide +kernel, by decide +kernel⟩, List.mem_of_getElem? (i := 1055) (by decide +kernel), List.mem_of_getElem? (i := 1490) (by decide +kernel), List.mem_of_getElem? (i := 1491) (by decide +kernel)⟩
theorem lw_p72 : lw_okq (⟨"DarkCommitteeModel", "partAt", "()I"⟩, 58) := ⟨⟨by decide +kernel, by decide +kernel⟩, List.mem_of_getElem? (i := 1055) (by decide +kernel), List.mem_of_getElem? (i := 1494) (by decide +kernel), List.mem_of_getElem? (i := 1495) (by decide +kernel)⟩
theorem lw_p73 : lw_okq (⟨"DarkCommitteeModel", "leaf", "(ZII)V"⟩, 58) := ⟨⟨by decide +kernel, by decide +kernel⟩, List.mem_of_getElem? (i := 1055) (by decide +kernel), List.mem_of_getElem? (i := 1499) (by decide +kernel), List.mem_of_getElem? (i := 1500) (by decide +kernel)⟩
theorem lw_p74 : lw_okq (⟨"DarkCommitteeModel", "emit", "(II)V"⟩, 58) := ⟨⟨by decide +kernel, by decide +kernel⟩, List.mem_of_getElem? (i := 1055) (by decide +kernel), List.mem_of_getElem? (i := 1503) (by decide +kernel), List.mem_of_getElem? (i := 1504) (by decide +kernel)⟩
theorem lw_p75 : lw_okq (⟨"DarkCommitteeModel", "number", "(JJ)I"⟩, 58) := ⟨⟨by decide +kernel, by decide +kernel⟩, List.mem_of_getElem? (i := 1055) (by decide +kernel), List.mem_of_getElem? (i := 1508) (by decide +kernel), List.mem_of_getElem? (i := 1509) (by decide +kernel)⟩
theorem lw_p76 : lw_okq (⟨"DarkCommitteeModel", "behindSum", "(Z)I"⟩, 58) := ⟨⟨by decide +kernel, by decide +kernel⟩, List.mem_of_getElem? (i := 1055) (by decide +kernel), List.mem_of_getElem? (i := 1512) (by decide +kernel), List.mem_of_getElem? (i := 1513) (by decide +kernel)⟩
theorem lw_p77 : lw_okq (⟨"DarkCommitteeModel", "settle", "(I)V"⟩, 58) := ⟨⟨by decide +kernel, by decide +kernel⟩, List.mem_of_getElem? (i := 1055) (by decide +kernel), List.mem_of_getElem? (i := 1519) (by decide +kernel), List.mem_of_getElem? (i := 1520) (by decide +kernel)⟩
theorem lw_p78 : lw_okq (⟨"DarkCommitteeModel", "inner", "()I"⟩, 58) := ⟨⟨by decide +kernel, by decide +kernel⟩, List.mem_of_getElem? (i := 1055) (by decide +kernel), List.mem_of_getElem? (i := 1523) (by decide +kernel), List.mem_of_getElem? (i := 1524) (by decide +kernel)⟩
theorem lw_p79 : lw_okq (⟨"DarkCommitteeModel", "isCompared", "()Z"⟩, 58) := ⟨⟨by decide +kernel, by decide +kernel⟩, List.mem_of_getElem? (i := 1055) (by decide +kernel), List.mem_of_getElem? (i := 1527) (by decide +kernel), List.mem_of_getElem? (i := 1528) (by decide +kernel)⟩
def lw_privs_5 : List (MethodName × Nat) := [(⟨"DarkCommitteeModel", "must", "(Z)V"⟩, 58), (⟨"DarkCommitteeModel", "readExpression", "(Z)V"⟩, 58), (⟨"DarkCommitteeModel", "readPlain", "()I"⟩, 58), (⟨"DarkCommitteeModel", "push", "(II)V"⟩, 58), (⟨"DarkCommitteeModel", "isSign", "(I)Z"⟩, 58), (⟨"DarkCommitteeModel", "openBracket", "(I)V"⟩, 58), (⟨"DarkCommitteeModel", "readPart", "()I"⟩, 58), (⟨"DarkCommitteeModel", "orderPartAt", "()I"⟩, 58), (⟨"DarkCommitteeModel", "partAt", "()I"⟩, 58), (⟨"DarkCommitteeModel", "leaf", "(ZII)V"⟩, 58), (⟨"DarkCommitteeModel", "emit", "(II)V"⟩, 58), (⟨"DarkCommitteeModel", "number", "(JJ)I"⟩, 58), (⟨"DarkCommitteeModel", "behindSum", "(Z)I"⟩, 58), (⟨"DarkCommitteeModel", "settle", "(I)V"⟩, 58), (⟨"DarkCommitteeModel", "inner", "()I"⟩, 58), (⟨"DarkCommitteeModel", "isCompared", "()Z"⟩, 58)]
theorem lw_r5 : ∀ q ∈ lw_privs_5, lw_okq q := List.forall_mem_cons.mpr ⟨lw_p64, List.forall_mem_cons.mpr ⟨lw_p65, List.forall_mem_cons.mpr ⟨lw_p66, List.forall_mem_cons.mpr ⟨lw_p67, List.forall_mem_cons.mpr ⟨lw_p68, List.forall_mem_cons.mpr ⟨lw_p69, List.forall_mem_cons.mpr ⟨lw_p70, List.forall_mem_cons.mpr ⟨lw_p71, List.forall_mem_cons.mpr ⟨lw_p72, List.forall_mem_cons.mpr ⟨lw_p73, List.forall_mem_cons.mpr ⟨lw_p74, List.forall_mem_cons.mpr ⟨lw_p75, List.forall_mem_cons.mpr ⟨lw_p76, List.forall_mem_cons.mpr ⟨lw_p77, List.forall_mem_cons.mpr ⟨lw_p78, List.forall_mem_cons.mpr ⟨lw_p79, fun _ h => absurd h List.not_mem_nil⟩⟩⟩⟩⟩⟩⟩⟩⟩⟩⟩⟩⟩⟩⟩⟩
theorem lw_p80 : lw_okq (⟨"DarkCommitteeModel", "behindTest", "()I"⟩, 58) := ⟨⟨by decide +kernel, by decide +kernel⟩, List.mem_of_getElem? (i := 1055) (by decide +kernel), List.mem_of_getElem? (i := 1534) (by decide +kernel), List.mem_of_getElem? (i := 1535) (by decide +kernel)⟩
theorem lw_p81 : lw_okq (⟨"DarkCommitteeModel", "endText", "()V"⟩, 58) := ⟨⟨by decide +kernel, by decide +kernel⟩, List.mem_of_getElem? (i := 1055) (by decide +kernel), List.mem_of_getElem? (i := 1541) (by decide +kernel), List.mem_of_getElem? (i := 1542) (by decide +kernel)⟩
theorem lw_p82 : lw_okq (⟨"DarkCommitteeModel", "isLaw", "(I)Z"⟩, 58) := ⟨⟨by decide +kernel, by decide +kernel⟩, List.mem_of_getElem? (i := 1055) (by decide +kernel), List.mem_of_getElem? (i := 1549) (by decide +kernel), List.mem_of_getElem? (i := 1550) (by decide +kernel)⟩
theorem lw_p83 : lw_okq (⟨"DarkCommitteeModel", "moveNow", "(II)I"⟩, 58) := ⟨⟨by decide +kernel, by decide +kernel⟩, List.mem_of_getElem? (i := 1055) (by decide +kernel), List.mem_of_getElem? (i := 1557) (by decide +kernel), List.mem_of_getElem? (i := 1558) (by decide +kernel)⟩
theorem lw_p84 : lw_okq (⟨"DarkCommitteeModel", "canMove", "(II)Z"⟩, 58) := ⟨⟨by decide +kernel, by decide +kernel⟩, List.mem_of_getElem? (i := 1055) (by decide +kernel), List.mem_of_getElem? (i := 1561) (by decide +kernel), List.mem_of_getElem? (i := 1562) (by decide +kernel)⟩
theorem lw_p85 : lw_okq (⟨"DarkCommitteeModel", "seconder", "(II)I"⟩, 58) := ⟨⟨by decide +kernel, by decide +kernel⟩, List.mem_of_getElem? (i := 1055) (by decide +kernel), List.mem_of_getElem? (i := 1565) (by decide +kernel), List.mem_of_getElem? (i := 1566) (by decide +kernel)⟩
theorem lw_p86 : lw_okq (⟨"DarkCommitteeModel", "remember", "(I)V"⟩, 58) := ⟨⟨by decide +kernel, by decide +kernel⟩, List.mem_of_getElem? (i := 1055) (by decide +kernel), List.mem_of_getElem? (i := 1569) (by decide +kernel), List.mem_of_getElem? (i := 1570) (by decide +kernel)⟩
theorem lw_p87 : lw_okq (⟨"DarkCommitteeModel", "keepAll", "(I)V"⟩, 58) := ⟨⟨by decide +kernel, by decide +kernel⟩, List.mem_of_getElem? (i := 1055) (by decide +kernel), List.mem_of_getElem? (i := 1573) (by decide +kernel), List.mem_of_getElem? (i := 1574) (by decide +kernel)⟩
theorem lw_p88 : lw_okq (⟨"DarkCommitteeModel", "divideNow", "(I)I"⟩, 58) := ⟨⟨by decide +kernel, by decide +kernel⟩, List.mem_of_getElem? (i := 1055) (by decide +kernel), List.mem_of_getElem? (i := 1581) (by decide +kernel), List.mem_of_getElem? (i := 1582) (by decide +kernel)⟩
theorem lw_p89 : lw_okq (⟨"DarkCommitteeModel", "divideIt", "(I)V"⟩, 58) := ⟨⟨by decide +kernel, by decide +kernel⟩, List.mem_of_getElem? (i := 1055) (by decide +kernel), List.mem_of_getElem? (i := 1585) (by decide +kernel), List.mem_of_getElem? (i := 1586) (by decide +kernel)⟩
theorem lw_p90 : lw_okq (⟨"DarkCommitteeModel", "carries", "(II)Z"⟩, 58) := ⟨⟨by decide +kernel, by decide +kernel⟩, List.mem_of_getElem? (i := 1055) (by decide +kernel), List.mem_of_getElem? (i := 1589) (by decide +kernel), List.mem_of_getElem? (i := 1590) (by decide +kernel)⟩
theorem lw_p91 : lw_okq (⟨"DarkCommitteeModel", "flyNow", "(II)I"⟩, 58) := ⟨⟨by decide +kernel, by decide +kernel⟩, List.mem_of_getElem? (i := 1055) (by decide +kernel), List.mem_of_getElem? (i := 1597) (by decide +kernel), List.mem_of_getElem? (i := 1598) (by decide +kernel)⟩
theorem lw_p92 : lw_okq (⟨"DarkCommitteeModel", "passNow", "()I"⟩, 58) := ⟨⟨by decide +kernel, by decide +kernel⟩, List.mem_of_getElem? (i := 1055) (by decide +kernel), List.mem_of_getElem? (i := 1605) (by decide +kernel), List.mem_of_getElem? (i := 1606) (by decide +kernel)⟩
theorem lw_p93 : lw_okq (⟨"DarkCommitteeModel", "passIt", "()I"⟩, 58) := ⟨⟨by decide +kernel, by decide +kernel⟩, List.mem_of_getElem? (i := 1055) (by decide +kernel), List.mem_of_getElem? (i := 1609) (by decide +kernel), List.mem_of_getElem? (i := 1610) (by decide +kernel)⟩
theorem lw_p94 : lw_okq (⟨"DarkCommitteeModel", "findRichest", "()I"⟩, 58) := ⟨⟨by decide +kernel, by decide +kernel⟩, List.mem_of_getElem? (i := 1055) (by decide +kernel), List.mem_of_getElem? (i := 1621) (by decide +kernel), List.mem_of_getElem? (i := 1622) (by decide +kernel)⟩
theorem lw_p95 : lw_okq (⟨"DarkCommitteeModel", "isNew", "(I)Z"⟩, 58) := ⟨⟨by decide +kernel, by decide +kernel⟩, List.mem_of_getElem? (i := 1055) (by decide +kernel), List.mem_of_getElem? (i := 1625) (by decide +kernel), List.mem_of_getElem? (i := 1626) (by decide +kernel)⟩
def lw_privs_6 : List (MethodName × Nat) := [(⟨"DarkCommitteeModel", "behindTest", "()I"⟩, 58), (⟨"DarkCommitteeModel", "endText", "()V"⟩, 58), (⟨"DarkCommitteeModel", "isLaw", "(I)Z"⟩, 58), (⟨"DarkCommitteeModel", "moveNow", "(II)I"⟩, 58), (⟨"DarkCommitteeModel", "canMove", "(II)Z"⟩, 58), (⟨"DarkCommitteeModel", "seconder", "(II)I"⟩, 58), (⟨"DarkCommitteeModel", "remember", "(I)V"⟩, 58), (⟨"DarkCommitteeModel", "keepAll", "(I)V"⟩, 58), (⟨"DarkCommitteeModel", "divideNow", "(I)I"⟩, 58), (⟨"DarkCommitteeModel", "divideIt", "(I)V"⟩, 58), (⟨"DarkCommitteeModel", "carries", "(II)Z"⟩, 58), (⟨"DarkCommitteeModel", "flyNow", "(II)I"⟩, 58), (⟨"DarkCommitteeModel", "passNow", "()I"⟩, 58), (⟨"DarkCommitteeModel", "passIt", "()I"⟩, 58), (⟨"DarkCommitteeModel", "findRichest", "()I"⟩, 58), (⟨"DarkCommitteeModel", "isNew", "(I)Z"⟩, 58)]
theorem lw_r6 : ∀ q ∈ lw_privs_6, lw_okq q := List.forall_mem_cons.mpr ⟨lw_p80, List.forall_mem_cons.mpr ⟨lw_p81, List.forall_mem_cons.mpr ⟨lw_p82, List.forall_mem_cons.mpr ⟨lw_p83, List.forall_mem_cons.mpr ⟨lw_p84, List.forall_mem_cons.mpr ⟨lw_p85, List.forall_mem_cons.mpr ⟨lw_p86, List.forall_mem_cons.mpr ⟨lw_p87, List.forall_mem_cons.mpr ⟨lw_p88, List.forall_mem_cons.mpr ⟨lw_p89, List.forall_mem_cons.mpr ⟨lw_p90, List.forall_mem_cons.mpr ⟨lw_p91, List.forall_mem_cons.mpr ⟨lw_p92, List.forall_mem_cons.mpr ⟨lw_p93, List.forall_mem_cons.mpr ⟨lw_p94, List.forall_mem_cons.mpr ⟨lw_p95, fun _ h => absurd h List.not_mem_nil⟩⟩⟩⟩⟩⟩⟩⟩⟩⟩⟩⟩⟩⟩⟩⟩
theorem lw_p96 : lw_okq (⟨"DarkCommitteeModel", "layLeft", "(I)V"⟩, 58) := ⟨⟨by decide +kernel, by decide +kernel⟩, List.mem_of_getElem? (i := 1055) (by decide +kernel), List.mem_of_getElem? (i := 1646) (by decide +kernel), List.mem_of_getElem? (i := 1647) (by decide +kernel)⟩
theorem lw_p97 : lw_okq (⟨"DarkCommitteeModel", "present", "()I"⟩, 58) := ⟨⟨by decide +kernel, by decide +kernel⟩, List.mem_of_getElem? (i := 1055) (by decide +kernel), List.mem_of_getElem? (i := 1654) (by decide +kernel), List.mem_of_getElem? (i := 1655) (by decide +kernel)⟩
theorem lw_p98 : lw_okq (⟨"DarkCommitteeModel", "hearAll", "(I)Z"⟩, 58) := ⟨⟨by decide +kernel, by decide +kernel⟩, List.mem_of_getElem? (i := 1055) (by decide +kernel), List.mem_of_getElem? (i := 1658) (by decide +kernel), List.mem_of_getElem? (i := 1659) (by decide +kernel)⟩
theorem lw_p99 : lw_okq (⟨"DarkCommitteeModel", "heardBy", "(I)I"⟩, 58) := ⟨⟨by decide +kernel, by decide +kernel⟩, List.mem_of_getElem? (i := 1055) (by decide +kernel), List.mem_of_getElem? (i := 1669) (by decide +kernel), List.mem_of_getElem? (i := 1670) (by decide +kernel)⟩
theorem lw_p100 : lw_okq (⟨"DarkCommitteeModel", "thatCanBe", "()I"⟩, 58) := ⟨⟨by decide +kernel, by decide +kernel⟩, List.mem_of_getElem? (i := 1055) (by decide +kernel), List.mem_of_getElem? (i := 1689) (by decide +kernel), List.mem_of_getElem? (i := 1690) (by decide +kernel)⟩
theorem lw_p101 : lw_okq (⟨"DarkCommitteeModel", "readOrder", "()V"⟩, 58) := ⟨⟨by decide +kernel, by decide +kernel⟩, List.mem_of_getElem? (i := 1055) (by decide +kernel), List.mem_of_getElem? (i := 1711) (by decide +kernel), List.mem_of_getElem? (i := 1712) (by decide +kernel)⟩
theorem lw_p102 : lw_okq (⟨"DarkCommitteeModel", "readSum", "(I)V"⟩, 58) := ⟨⟨by decide +kernel, by decide +kernel⟩, List.mem_of_getElem? (i := 1055) (by decide +kernel), List.mem_of_getElem? (i := 1715) (by decide +kernel), List.mem_of_getElem? (i := 1716) (by decide +kernel)⟩
theorem lw_p103 : lw_okq (⟨"DarkCommitteeModel", "run", "(I)I"⟩, 58) := ⟨⟨by decide +kernel, by decide +kernel⟩, List.mem_of_getElem? (i := 1055) (by decide +kernel), List.mem_of_getElem? (i := 1722) (by decide +kernel), List.mem_of_getElem? (i := 1723) (by decide +kernel)⟩
theorem lw_p104 : lw_okq (⟨"DarkCommitteeModel", "sumOf", "(I)I"⟩, 58) := ⟨⟨by decide +kernel, by decide +kernel⟩, List.mem_of_getElem? (i := 1055) (by decide +kernel), List.mem_of_getElem? (i := 1726) (by decide +kernel), List.mem_of_getElem? (i := 1727) (by decide +kernel)⟩
theorem lw_p105 : lw_okq (⟨"DarkCommitteeModel", "act", "(III)I"⟩, 58) := ⟨⟨by decide +kernel, by decide +kernel⟩, List.mem_of_getElem? (i := 1055) (by decide +kernel), List.mem_of_getElem? (i := 1730) (by decide +kernel), List.mem_of_getElem? (i := 1731) (by decide +kernel)⟩
theorem lw_p106 : lw_okq (⟨"DarkCommitteeModel", "giveBack", "(I)V"⟩, 58) := ⟨⟨by decide +kernel, by decide +kernel⟩, List.mem_of_getElem? (i := 1055) (by decide +kernel), List.mem_of_getElem? (i := 1734) (by decide +kernel), List.mem_of_getElem? (i := 1735) (by decide +kernel)⟩
theorem lw_p107 : lw_okq (⟨"DarkCommitteeModel", "draw", "(I)I"⟩, 58) := ⟨⟨by decide +kernel, by decide +kernel⟩, List.mem_of_getElem? (i := 1055) (by decide +kernel), List.mem_of_getElem? (i := 1747) (by decide +kernel), List.mem_of_getElem? (i := 1748) (by decide +kernel)⟩
def lw_privs_7 : List (MethodName × Nat) := [(⟨"DarkCommitteeModel", "layLeft", "(I)V"⟩, 58), (⟨"DarkCommitteeModel", "present", "()I"⟩, 58), (⟨"DarkCommitteeModel", "hearAll", "(I)Z"⟩, 58), (⟨"DarkCommitteeModel", "heardBy", "(I)I"⟩, 58), (⟨"DarkCommitteeModel", "thatCanBe", "()I"⟩, 58), (⟨"DarkCommitteeModel", "readOrder", "()V"⟩, 58), (⟨"DarkCommitteeModel", "readSum", "(I)V"⟩, 58), (⟨"DarkCommitteeModel", "run", "(I)I"⟩, 58), (⟨"DarkCommitteeModel", "sumOf", "(I)I"⟩, 58), (⟨"DarkCommitteeModel", "act", "(III)I"⟩, 58), (⟨"DarkCommitteeModel", "giveBack", "(I)V"⟩, 58), (⟨"DarkCommitteeModel", "draw", "(I)I"⟩, 58)]
theorem lw_r7 : ∀ q ∈ lw_privs_7, lw_okq q := List.forall_mem_cons.mpr ⟨lw_p96, List.forall_mem_cons.mpr ⟨lw_p97, List.forall_mem_cons.mpr ⟨lw_p98, List.forall_mem_cons.mpr ⟨lw_p99, List.forall_mem_cons.mpr ⟨lw_p100, List.forall_mem_cons.mpr ⟨lw_p101, List.forall_mem_cons.mpr ⟨lw_p102, List.forall_mem_cons.mpr ⟨lw_p103, List.forall_mem_cons.mpr ⟨lw_p104, List.forall_mem_cons.mpr ⟨lw_p105, List.forall_mem_cons.mpr ⟨lw_p106, List.forall_mem_cons.mpr ⟨lw_p107, fun _ h => absurd h List.not_mem_nil⟩⟩⟩⟩⟩⟩⟩⟩⟩⟩⟩⟩
def lw_privs : List (MethodName × Nat) := lw_privs_1 ++ (lw_privs_2 ++ (lw_privs_3 ++ (lw_privs_4 ++ (lw_privs_5 ++ (lw_privs_6 ++ (lw_privs_7))))))
def lw_tbl : List Cond := k2_sels lw_privs ++ tables_1
theorem lw_privs_ok : ∀ q ∈ lw_privs, lw_okq q := by
  show ∀ q ∈ lw_privs_1 ++ (lw_privs_2 ++ (lw_privs_3 ++ (lw_privs_4 ++ (lw_privs_5 ++ (lw_privs_6 ++ (lw_privs_7)))))), lw_okq q
  exact List.forall_mem_append.mpr ⟨lw_r1, List.forall_mem_append.mpr ⟨lw_r2, List.forall_mem_append.mpr ⟨lw_r3, List.forall_mem_append.mpr ⟨lw_r4, List.forall_mem_append.mpr ⟨lw_r5, List.forall_mem_append.mpr ⟨lw_r6, lw_r7⟩⟩⟩⟩⟩⟩
-- ===== end of PART A; then your names; then what follows =====
end
section
def RX0 : String := "DarkCommittee$Best"
def TX0 : u_T := fun k => match k with
  | 0 => ("DarkCommittee$Best", "council", "LDarkCommittee$Council;", true)
  | 1 => ("DarkCommittee$Best", "paper", "LDarkCommittee$Stand;", true)
  | 2 => ("DarkCommittee$Best", "told", "[I", true)
  | 3 => ("DarkCommittee$Best", "row", "[I", true)
  | 4 => ("DarkCommittee$Best", "bestRow", "[I", true)
  | 5 => ("DarkCommittee$Best", "bestLength", "I", false)
  | _ => ("DarkCommittee$Best", "bestRich", "I", false)
def tyX0 : Nat → FieldType := fun k => match k with
  | 0 => .object "DarkCommittee$Council"
  | 1 => .object "DarkCommittee$Stand"
  | 2 => .array .int
  | 3 => .array .int
  | 4 => .array .int
  | 5 => .int
  | _ => .int
theorem nmX0 : ∀ a, a < 7 → ∀ b, b < 7 → a ≠ b → (TX0 a).2.1 ≠ (TX0 b).2.1 := by decide +kernel
theorem tyX0_ok : ∀ k, k < 7 → parseFieldDescriptor (TX0 k).2.2.1 = some (tyX0 k) := by decide +kernel
abbrev cX0_init : ByteArray := prog_2_method_1_code
def yX0_init : MethodName := ⟨RX0, "<init>", "(LDarkCommittee$Council;)V"⟩
abbrev cX0_begin : ByteArray := prog_2_method_2_code
def yX0_begin : MethodName := ⟨RX0, "begin", "(LDarkCommittee$Stand;)V"⟩
abbrev cX0_goOn : ByteArray := prog_2_method_3_code
def yX0_goOn : MethodName := ⟨RX0, "goOn", "(IIII)V"⟩
abbrev cX0_divisionAt : ByteArray := prog_2_method_4_code
def yX0_divisionAt : MethodName := ⟨RX0, "divisionAt", "(II)I"⟩
def RX1 : String := "DarkCommittee$Council"
def TX1 : u_T := fun k => match k with
  | 0 => ("DarkCommittee$Council", "roll", "LDarkCommittee$Roll;", true)
  | 1 => ("DarkCommittee$Council", "reckoner", "LDarkCommittee$Reckoner;", true)
  | 2 => ("DarkCommittee$Council", "sitting", "I", false)
  | 3 => ("DarkCommittee$Council", "ayes", "I", false)
  | 4 => ("DarkCommittee$Council", "hopsTo", "[I", true)
  | _ => ("DarkCommittee$Council", "hearersOf", "[I", true)
def tyX1 : Nat → FieldType := fun k => match k with
  | 0 => .object "DarkCommittee$Roll"
  | 1 => .object "DarkCommittee$Reckoner"
  | 2 => .int
  | 3 => .int
  | 4 => .array .int
  | _ => .array .int
theorem nmX1 : ∀ a, a < 6 → ∀ b, b < 6 → a ≠ b → (TX1 a).2.1 ≠ (TX1 b).2.1 := by decide +kernel
theorem tyX1_ok : ∀ k, k < 6 → parseFieldDescriptor (TX1 k).2.2.1 = some (tyX1 k) := by decide +kernel
abbrev cX1_init : ByteArray := prog_3_method_1_code
def yX1_init : MethodName := ⟨RX1, "<init>", "(LDarkCommittee$Roll;LDarkCommittee$Reckoner;)V"⟩
abbrev cX1_tellLaw : ByteArray := prog_3_method_2_code
def yX1_tellLaw : MethodName := ⟨RX1, "tellLaw", "(LDarkCommittee$Stand;IIII)V"⟩
abbrev cX1_tellBird : ByteArray := prog_3_method_3_code
def yX1_tellBird : MethodName := ⟨RX1, "tellBird", "(LDarkCommittee$Stand;II)V"⟩
abbrev cX1_within : ByteArray := prog_3_method_4_code
def yX1_within : MethodName := ⟨RX1, "within", "(III)I"⟩
abbrev cX1_swayed : ByteArray := prog_3_method_5_code
def yX1_swayed : MethodName := ⟨RX1, "swayed", "(LDarkCommittee$Stand;II)I"⟩
abbrev cX1_timeTaken : ByteArray := prog_3_method_6_code
def yX1_timeTaken : MethodName := ⟨RX1, "timeTaken", "(LDarkCommittee$Stand;I)I"⟩
abbrev cX1_vote : ByteArray := prog_3_method_7_code
def yX1_vote : MethodName := ⟨RX1, "vote", "(LDarkCommittee$Stand;IILDarkCommittee$Text;)I"⟩
abbrev cX1_poll : ByteArray := prog_3_method_8_code
def yX1_poll : MethodName := ⟨RX1, "poll", "(LDarkCommittee$Stand;ILDarkCommittee$Text;)V"⟩
abbrev cX1_present : ByteArray := prog_3_method_9_code
def yX1_present : MethodName := ⟨RX1, "present", "(LDarkCommittee$Stand;)I"⟩
abbrev cX1_moved : ByteArray := prog_3_method_10_code
def yX1_moved : MethodName := ⟨RX1, "moved", "(LDarkCommittee$Stand;)I"⟩
abbrev cX1_hears : ByteArray := prog_3_method_11_code
def yX1_hears : MethodName := ⟨RX1, "hears", "(LDarkCommittee$Stand;II)Z"⟩
abbrev cX1_whomHears : ByteArray := prog_3_method_12_code
def yX1_whomHears : MethodName := ⟨RX1, "whomHears", "(LDarkCommittee$Stand;I)I"⟩
abbrev cX1_hearers : ByteArray := prog_3_method_13_code
def yX1_hearers : MethodName := ⟨RX1, "hearers", "(LDarkCommittee$Stand;I)I"⟩
abbrev cX1_seconder : ByteArray := prog_3_method_14_code
def yX1_seconder : MethodName := ⟨RX1, "seconder", "(LDarkCommittee$Stand;II)I"⟩
abbrev cX1_moving : ByteArray := prog_3_method_15_code
def yX1_moving : MethodName := ⟨RX1, "moving", "(LDarkCommittee$Stand;II)I"⟩
abbrev cX1_dividing : ByteArray := prog_3_method_16_code
def yX1_dividing : MethodName := ⟨RX1, "dividing", "(LDarkCommittee$Stand;I)I"⟩
abbrev cX1_flying : ByteArray := prog_3_method_17_code
def yX1_flying : MethodName := ⟨RX1, "flying", "(LDarkCommittee$Stand;II)I"⟩
abbrev cX1_passing : ByteArray := prog_3_method_18_code
def yX1_passing : MethodName := ⟨RX1, "passing", "(LDarkCommittee$Stand;)I"⟩
abbrev cX1_wouldCarry : ByteArray := prog_3_method_19_code
def yX1_wouldCarry : MethodName := ⟨RX1, "wouldCarry", "(II)Z"⟩
abbrev cX1_fewest : ByteArray := prog_3_method_20_code
def yX1_fewest : MethodName := ⟨RX1, "fewest", "(IIZ)I"⟩
abbrev cX1_hops : ByteArray := prog_3_method_21_code
def yX1_hops : MethodName := ⟨RX1, "hops", "(LDarkCommittee$Stand;II)I"⟩
abbrev cX1_nextInChain : ByteArray := prog_3_method_22_code
def yX1_nextInChain : MethodName := ⟨RX1, "nextInChain", "(LDarkCommittee$Stand;II)I"⟩
abbrev cX1_chainBird : ByteArray := prog_3_method_23_code
def yX1_chainBird : MethodName := ⟨RX1, "chainBird", "(LDarkCommittee$Stand;II)I"⟩
abbrev cX1_fewestEars : ByteArray := prog_3_method_24_code
def yX1_fewestEars : MethodName := ⟨RX1, "fewestEars", "(LDarkCommittee$Stand;)I"⟩
abbrev cX1_hearAll : ByteArray := prog_3_method_25_code
def yX1_hearAll : MethodName := ⟨RX1, "hearAll", "(II)Z"⟩
abbrev cX1_mattersAsHeard : ByteArray := prog_3_method_26_code
def yX1_mattersAsHeard : MethodName := ⟨RX1, "mattersAsHeard", "(LDarkCommittee$Stand;)I"⟩
abbrev cX1_mattersAyeOn : ByteArray := prog_3_method_27_code
def yX1_mattersAyeOn : MethodName := ⟨RX1, "mattersAyeOn", "(LDarkCommittee$Stand;I)I"⟩
def RX2 : String := "DarkCommittee$May"
def TX2 : u_T := fun k => match k with
  | 0 => ("DarkCommittee$May", "stand", "LDarkCommittee$Stand;", true)
  | 1 => ("DarkCommittee$May", "birds", "I", false)
  | 2 => ("DarkCommittee$May", "matters", "I", false)
  | _ => ("DarkCommittee$May", "seed", "I", false)
def tyX2 : Nat → FieldType := fun k => match k with
  | 0 => .object "DarkCommittee$Stand"
  | 1 => .int
  | 2 => .int
  | _ => .int
theorem nmX2 : ∀ a, a < 4 → ∀ b, b < 4 → a ≠ b → (TX2 a).2.1 ≠ (TX2 b).2.1 := by decide +kernel
theorem tyX2_ok : ∀ k, k < 4 → parseFieldDescriptor (TX2 k).2.2.1 = some (tyX2 k) := by decide +kernel
abbrev cX2_init : ByteArray := prog_4_method_1_code
def yX2_init : MethodName := ⟨RX2, "<init>", "()V"⟩
abbrev cX2_begin : ByteArray := prog_4_method_2_code
def yX2_begin : MethodName := ⟨RX2, "begin", "(LDarkCommittee$Roll;I)V"⟩
abbrev cX2_draw : ByteArray := prog_4_method_3_code
def yX2_draw : MethodName := ⟨RX2, "draw", "(I)I"⟩
abbrev cX2_step : ByteArray := prog_4_method_4_code
def yX2_step : MethodName := ⟨RX2, "step", "(LDarkCommittee$Council;)V"⟩
def RX3 : String := "DarkCommittee$Reader"
def TX3 : u_T := fun k => match k with
  | 0 => ("DarkCommittee$Reader", "tokens", "LDarkCommittee$Tokens;", true)
  | 1 => ("DarkCommittee$Reader", "text", "LDarkCommittee$Text;", true)
  | 2 => ("DarkCommittee$Reader", "asLaw", "Z", false)
  | 3 => ("DarkCommittee$Reader", "present", "I", false)
  | _ => ("DarkCommittee$Reader", "partCount", "I", false)
def tyX3 : Nat → FieldType := fun k => match k with
  | 0 => .object "DarkCommittee$Tokens"
  | 1 => .object "DarkCommittee$Text"
  | 2 => .boolean
  | 3 => .int
  | _ => .int
theorem nmX3 : ∀ a, a < 5 → ∀ b, b < 5 → a ≠ b → (TX3 a).2.1 ≠ (TX3 b).2.1 := by decide +kernel
theorem tyX3_ok : ∀ k, k < 5 → parseFieldDescriptor (TX3 k).2.2.1 = some (tyX3 k) := by decide +kernel
abbrev cX3_init : ByteArray := prog_5_method_1_code
def yX3_init : MethodName := ⟨RX3, "<init>", "()V"⟩
abbrev cX3_read : ByteArray := prog_5_method_2_code
def yX3_read : MethodName := ⟨RX3, "read", "([IIZ)Z"⟩
abbrev cX3_place : ByteArray := prog_5_method_3_code
def yX3_place : MethodName := ⟨RX3, "place", "()I"⟩
abbrev cX3_kind : ByteArray := prog_5_method_4_code
def yX3_kind : MethodName := ⟨RX3, "kind", "()I"⟩
abbrev cX3_number : ByteArray := prog_5_method_5_code
def yX3_number : MethodName := ⟨RX3, "number", "()I"⟩
abbrev cX3_next : ByteArray := prog_5_method_6_code
def yX3_next : MethodName := ⟨RX3, "next", "()V"⟩
abbrev cX3_isNumber : ByteArray := prog_5_method_7_code
def yX3_isNumber : MethodName := ⟨RX3, "isNumber", "(II)Z"⟩
abbrev cX3_setHead : ByteArray := prog_5_method_8_code
def yX3_setHead : MethodName := ⟨RX3, "setHead", "(II)V"⟩
abbrev cX3_emit : ByteArray := prog_5_method_9_code
def yX3_emit : MethodName := ⟨RX3, "emit", "(II)V"⟩
abbrev cX3_lawClause : ByteArray := prog_5_method_10_code
def yX3_lawClause : MethodName := ⟨RX3, "lawClause", "()Z"⟩
abbrev cX3_orderClause : ByteArray := prog_5_method_11_code
def yX3_orderClause : MethodName := ⟨RX3, "orderClause", "()Z"⟩
abbrev cX3_times : ByteArray := prog_5_method_12_code
def yX3_times : MethodName := ⟨RX3, "times", "()Z"⟩
abbrev cX3_test : ByteArray := prog_5_method_13_code
def yX3_test : MethodName := ⟨RX3, "test", "(I)Z"⟩
abbrev cX3_leapHere : ByteArray := prog_5_method_14_code
def yX3_leapHere : MethodName := ⟨RX3, "leapHere", "(I)V"⟩
abbrev cX3_plain : ByteArray := prog_5_method_15_code
def yX3_plain : MethodName := ⟨RX3, "plain", "(I)Z"⟩
abbrev cX3_testInBrackets : ByteArray := prog_5_method_16_code
def yX3_testInBrackets : MethodName := ⟨RX3, "testInBrackets", "(I)Z"⟩
abbrev cX3_sum : ByteArray := prog_5_method_17_code
def yX3_sum : MethodName := ⟨RX3, "sum", "(I)Z"⟩
abbrev cX3_part : ByteArray := prog_5_method_18_code
def yX3_part : MethodName := ⟨RX3, "part", "(I)Z"⟩
abbrev cX3_sumInBrackets : ByteArray := prog_5_method_19_code
def yX3_sumInBrackets : MethodName := ⟨RX3, "sumInBrackets", "(I)Z"⟩
abbrev cX3_lawWord : ByteArray := prog_5_method_20_code
def yX3_lawWord : MethodName := ⟨RX3, "lawWord", "()Z"⟩
abbrev cX3_orderWord : ByteArray := prog_5_method_21_code
def yX3_orderWord : MethodName := ⟨RX3, "orderWord", "()Z"⟩
def RX4 : String := "DarkCommittee$Reckoner"
def TX4 : u_T := fun k => match k with
  | 0 => ("DarkCommittee$Reckoner", "values", "[I", true)
  | 1 => ("DarkCommittee$Reckoner", "stack", "[J", true)
  | _ => ("DarkCommittee$Reckoner", "value", "I", false)
def tyX4 : Nat → FieldType := fun k => match k with
  | 0 => .array .int
  | 1 => .array .long
  | _ => .int
theorem nmX4 : ∀ a, a < 3 → ∀ b, b < 3 → a ≠ b → (TX4 a).2.1 ≠ (TX4 b).2.1 := by decide +kernel
theorem tyX4_ok : ∀ k, k < 3 → parseFieldDescriptor (TX4 k).2.2.1 = some (tyX4 k) := by decide +kernel
abbrev cX4_init : ByteArray := prog_6_method_1_code
def yX4_init : MethodName := ⟨RX4, "<init>", "()V"⟩
abbrev cX4_holds : ByteArray := prog_6_method_2_code
def yX4_holds : MethodName := ⟨RX4, "holds", "(LDarkCommittee$Text;I)Z"⟩
abbrev cX4_reckon : ByteArray := prog_6_method_3_code
def yX4_reckon : MethodName := ⟨RX4, "reckon", "([III)Z"⟩
def RX5 : String := "DarkCommittee$Ring"
def TX5 : u_T := fun k => match k with
  | 0 => ("DarkCommittee$Ring", "cells", "[I", true)
  | 1 => ("DarkCommittee$Ring", "acts", "[I", true)
  | 2 => ("DarkCommittee$Ring", "next", "I", false)
  | _ => ("DarkCommittee$Ring", "size", "I", false)
def tyX5 : Nat → FieldType := fun k => match k with
  | 0 => .array .int
  | 1 => .array .int
  | 2 => .int
  | _ => .int
theorem nmX5 : ∀ a, a < 4 → ∀ b, b < 4 → a ≠ b → (TX5 a).2.1 ≠ (TX5 b).2.1 := by decide +kernel
theorem tyX5_ok : ∀ k, k < 4 → parseFieldDescriptor (TX5 k).2.2.1 = some (tyX5 k) := by decide +kernel
abbrev cX5_init : ByteArray := prog_7_method_1_code
def yX5_init : MethodName := ⟨RX5, "<init>", "()V"⟩
abbrev cX5_note : ByteArray := prog_7_method_2_code
def yX5_note : MethodName := ⟨RX5, "note", "(LDarkCommittee$Stand;)V"⟩
abbrev cX5_keep : ByteArray := prog_7_method_3_code
def yX5_keep : MethodName := ⟨RX5, "keep", "(I)V"⟩
abbrev cX5_takeBack : ByteArray := prog_7_method_4_code
def yX5_takeBack : MethodName := ⟨RX5, "takeBack", "(LDarkCommittee$Stand;)I"⟩
abbrev cX5_clear : ByteArray := prog_7_method_5_code
def yX5_clear : MethodName := ⟨RX5, "clear", "()V"⟩
abbrev cX5_become : ByteArray := prog_7_method_6_code
def yX5_become : MethodName := ⟨RX5, "become", "(LDarkCommittee$Ring;)V"⟩
def RX6 : String := "DarkCommittee$Roll"
def TX6 : u_T := fun k => match k with
  | 0 => ("DarkCommittee$Roll", "stand", "LDarkCommittee$Stand;", true)
  | 1 => ("DarkCommittee$Roll", "birds", "I", false)
  | 2 => ("DarkCommittee$Roll", "ranges", "[I", true)
  | 3 => ("DarkCommittee$Roll", "favours", "[I", true)
  | 4 => ("DarkCommittee$Roll", "matters", "I", false)
  | 5 => ("DarkCommittee$Roll", "clauses", "[I", true)
  | 6 => ("DarkCommittee$Roll", "rich", "[I", true)
  | 7 => ("DarkCommittee$Roll", "dumb", "I", false)
  | 8 => ("DarkCommittee$Roll", "mood", "I", false)
  | 9 => ("DarkCommittee$Roll", "quorum", "I", false)
  | 10 => ("DarkCommittee$Roll", "timesHeard", "I", false)
  | 11 => ("DarkCommittee$Roll", "ayesHeard", "[I", true)
  | 12 => ("DarkCommittee$Roll", "lawCount", "I", false)
  | 13 => ("DarkCommittee$Roll", "laws", "[LDarkCommittee$Text;", true)
  | 14 => ("DarkCommittee$Roll", "noLaw", "LDarkCommittee$Text;", true)
  | 15 => ("DarkCommittee$Roll", "inForce", "I", false)
  | _ => ("DarkCommittee$Roll", "kept", "Z", false)
def tyX6 : Nat → FieldType := fun k => match k with
  | 0 => .object "DarkCommittee$Stand"
  | 1 => .int
  | 2 => .array .int
  | 3 => .array .int
  | 4 => .int
  | 5 => .array .int
  | 6 => .array .int
  | 7 => .int
  | 8 => .int
  | 9 => .int
  | 10 => .int
  | 11 => .array .int
  | 12 => .int
  | 13 => .array (.object "DarkCommittee$Text")
  | 14 => .object "DarkCommittee$Text"
  | 15 => .int
  | _ => .boolean
theorem nmX6 : ∀ a, a < 17 → ∀ b, b < 17 → a ≠ b → (TX6 a).2.1 ≠ (TX6 b).2.1 := by decide +kernel
theorem tyX6_ok : ∀ k, k < 17 → parseFieldDescriptor (TX6 k).2.2.1 = some (tyX6 k) := by decide +kernel
abbrev cX6_init : ByteArray := prog_8_method_1_code
def yX6_init : MethodName := ⟨RX6, "<init>", "()V"⟩
abbrev cX6_become : ByteArray := prog_8_method_2_code
def yX6_become : MethodName := ⟨RX6, "become", "(LDarkCommittee$Roll;)V"⟩
abbrev cX6_hasBird : ByteArray := prog_8_method_3_code
def yX6_hasBird : MethodName := ⟨RX6, "hasBird", "(I)Z"⟩
abbrev cX6_hasMatter : ByteArray := prog_8_method_4_code
def yX6_hasMatter : MethodName := ⟨RX6, "hasMatter", "(I)Z"⟩
abbrev cX6_hasLaw : ByteArray := prog_8_method_5_code
def yX6_hasLaw : MethodName := ⟨RX6, "hasLaw", "(I)Z"⟩
abbrev cX6_addBird : ByteArray := prog_8_method_6_code
def yX6_addBird : MethodName := ⟨RX6, "addBird", "(II)I"⟩
abbrev cX6_addMatter : ByteArray := prog_8_method_7_code
def yX6_addMatter : MethodName := ⟨RX6, "addMatter", "(II)I"⟩
abbrev cX6_hear : ByteArray := prog_8_method_8_code
def yX6_hear : MethodName := ⟨RX6, "hear", "(I)V"⟩
abbrev cX6_fitsAllHeard : ByteArray := prog_8_method_9_code
def yX6_fitsAllHeard : MethodName := ⟨RX6, "fitsAllHeard", "(I)Z"⟩
abbrev cX6_lawInForce : ByteArray := prog_8_method_10_code
def yX6_lawInForce : MethodName := ⟨RX6, "lawInForce", "()LDarkCommittee$Text;"⟩
abbrev cX6_lawOf : ByteArray := prog_8_method_11_code
def yX6_lawOf : MethodName := ⟨RX6, "lawOf", "(I)LDarkCommittee$Text;"⟩
def RX7 : String := "DarkCommittee$Stand"
def TX7 : u_T := fun k => match k with
  | 0 => ("DarkCommittee$Stand", "trees", "[I", true)
  | 1 => ("DarkCommittee$Stand", "stands", "[I", true)
  | 2 => ("DarkCommittee$Stand", "clock", "I", false)
  | _ => ("DarkCommittee$Stand", "night", "I", false)
def tyX7 : Nat → FieldType := fun k => match k with
  | 0 => .array .int
  | 1 => .array .int
  | 2 => .int
  | _ => .int
theorem nmX7 : ∀ a, a < 4 → ∀ b, b < 4 → a ≠ b → (TX7 a).2.1 ≠ (TX7 b).2.1 := by decide +kernel
theorem tyX7_ok : ∀ k, k < 4 → parseFieldDescriptor (TX7 k).2.2.1 = some (tyX7 k) := by decide +kernel
abbrev cX7_init : ByteArray := prog_9_method_1_code
def yX7_init : MethodName := ⟨RX7, "<init>", "()V"⟩
abbrev cX7_become : ByteArray := prog_9_method_2_code
def yX7_become : MethodName := ⟨RX7, "become", "(LDarkCommittee$Stand;)V"⟩
abbrev cX7_writeTo : ByteArray := prog_9_method_3_code
def yX7_writeTo : MethodName := ⟨RX7, "writeTo", "([II)V"⟩
abbrev cX7_readFrom : ByteArray := prog_9_method_4_code
def yX7_readFrom : MethodName := ⟨RX7, "readFrom", "([II)V"⟩
def RX8 : String := "DarkCommittee$Text"
def TX8 : u_T := fun k => match k with
  | 0 => ("DarkCommittee$Text", "code", "[I", true)
  | 1 => ("DarkCommittee$Text", "heads", "[I", true)
  | 2 => ("DarkCommittee$Text", "codeLength", "I", false)
  | _ => ("DarkCommittee$Text", "clauseCount", "I", false)
def tyX8 : Nat → FieldType := fun k => match k with
  | 0 => .array .int
  | 1 => .array .int
  | 2 => .int
  | _ => .int
theorem nmX8 : ∀ a, a < 4 → ∀ b, b < 4 → a ≠ b → (TX8 a).2.1 ≠ (TX8 b).2.1 := by decide +kernel
theorem tyX8_ok : ∀ k, k < 4 → parseFieldDescriptor (TX8 k).2.2.1 = some (tyX8 k) := by decide +kernel
abbrev cX8_init : ByteArray := prog_10_method_1_code
def yX8_init : MethodName := ⟨RX8, "<init>", "(II)V"⟩
abbrev cX8_copied : ByteArray := prog_10_method_2_code
def yX8_copied : MethodName := ⟨RX8, "copied", "()LDarkCommittee$Text;"⟩
abbrev cX8_head : ByteArray := prog_10_method_3_code
def yX8_head : MethodName := ⟨RX8, "head", "(II)I"⟩
abbrev cX8_setHead : ByteArray := prog_10_method_4_code
def yX8_setHead : MethodName := ⟨RX8, "setHead", "(III)V"⟩
def RX9 : String := "DarkCommittee$Tokens"
def TX9 : u_T := fun k => match k with
  | 0 => ("DarkCommittee$Tokens", "kinds", "[I", true)
  | 1 => ("DarkCommittee$Tokens", "places", "[I", true)
  | 2 => ("DarkCommittee$Tokens", "numbers", "[I", true)
  | _ => ("DarkCommittee$Tokens", "size", "I", false)
def tyX9 : Nat → FieldType := fun k => match k with
  | 0 => .array .int
  | 1 => .array .int
  | 2 => .array .int
  | _ => .int
theorem nmX9 : ∀ a, a < 4 → ∀ b, b < 4 → a ≠ b → (TX9 a).2.1 ≠ (TX9 b).2.1 := by decide +kernel
theorem tyX9_ok : ∀ k, k < 4 → parseFieldDescriptor (TX9 k).2.2.1 = some (tyX9 k) := by decide +kernel
abbrev cX9_init : ByteArray := prog_11_method_1_code
def yX9_init : MethodName := ⟨RX9, "<init>", "()V"⟩
abbrev cX9_cut : ByteArray := prog_11_method_2_code
def yX9_cut : MethodName := ⟨RX9, "cut", "([II)V"⟩
abbrev cX9_add : ByteArray := prog_11_method_3_code
def yX9_add : MethodName := ⟨RX9, "add", "(III)V"⟩
abbrev cX9_sortOf : ByteArray := prog_11_method_4_code
def yX9_sortOf : MethodName := ⟨RX9, "sortOf", "(I)I"⟩
abbrev cX9_endOf : ByteArray := prog_11_method_5_code
def yX9_endOf : MethodName := ⟨RX9, "endOf", "([III)I"⟩
abbrev cX9_kindOf : ByteArray := prog_11_method_6_code
def yX9_kindOf : MethodName := ⟨RX9, "kindOf", "([III)I"⟩
abbrev cX9_wordOf : ByteArray := prog_11_method_7_code
def yX9_wordOf : MethodName := ⟨RX9, "wordOf", "([III)I"⟩
abbrev cX9_numberOf : ByteArray := prog_11_method_8_code
def yX9_numberOf : MethodName := ⟨RX9, "numberOf", "([III)I"⟩
def RX10 : String := "DarkCommittee"
def TX10 : u_T := fun k => match k with
  | 0 => ("DarkCommittee", "tape", "[I", true)
  | 1 => ("DarkCommittee", "fed", "I", false)
  | 2 => ("DarkCommittee", "roll", "LDarkCommittee$Roll;", true)
  | 3 => ("DarkCommittee", "images", "[LDarkCommittee$Roll;", true)
  | 4 => ("DarkCommittee", "ring", "LDarkCommittee$Ring;", true)
  | 5 => ("DarkCommittee", "ringAhead", "LDarkCommittee$Ring;", true)
  | 6 => ("DarkCommittee", "ahead", "LDarkCommittee$Stand;", true)
  | 7 => ("DarkCommittee", "paper", "LDarkCommittee$Stand;", true)
  | 8 => ("DarkCommittee", "latestMay", "LDarkCommittee$May;", true)
  | 9 => ("DarkCommittee", "reckoner", "LDarkCommittee$Reckoner;", true)
  | 10 => ("DarkCommittee", "council", "LDarkCommittee$Council;", true)
  | 11 => ("DarkCommittee", "best", "LDarkCommittee$Best;", true)
  | 12 => ("DarkCommittee", "reader", "LDarkCommittee$Reader;", true)
  | 13 => ("DarkCommittee", "refusals", "[I", true)
  | 14 => ("DarkCommittee", "latestRefusal", "I", false)
  | 15 => ("DarkCommittee", "faultAt", "I", false)
  | 16 => ("DarkCommittee", "catsOfRow", "I", false)
  | 17 => ("DarkCommittee", "stoppedAt", "I", false)
  | 18 => ("DarkCommittee", "done", "I", false)
  | _ => ("DarkCommittee", "latest", "I", false)
def tyX10 : Nat → FieldType := fun k => match k with
  | 0 => .array .int
  | 1 => .int
  | 2 => .object "DarkCommittee$Roll"
  | 3 => .array (.object "DarkCommittee$Roll")
  | 4 => .object "DarkCommittee$Ring"
  | 5 => .object "DarkCommittee$Ring"
  | 6 => .object "DarkCommittee$Stand"
  | 7 => .object "DarkCommittee$Stand"
  | 8 => .object "DarkCommittee$May"
  | 9 => .object "DarkCommittee$Reckoner"
  | 10 => .object "DarkCommittee$Council"
  | 11 => .object "DarkCommittee$Best"
  | 12 => .object "DarkCommittee$Reader"
  | 13 => .array .int
  | 14 => .int
  | 15 => .int
  | 16 => .int
  | 17 => .int
  | 18 => .int
  | _ => .int
theorem nmX10 : ∀ a, a < 20 → ∀ b, b < 20 → a ≠ b → (TX10 a).2.1 ≠ (TX10 b).2.1 := by decide +kernel
theorem tyX10_ok : ∀ k, k < 20 → parseFieldDescriptor (TX10 k).2.2.1 = some (tyX10 k) := by decide +kernel
abbrev cX10_init : ByteArray := prog_1_method_1_code
def yX10_init : MethodName := ⟨RX10, "<init>", "()V"⟩
abbrev cX10_bird : ByteArray := prog_1_method_2_code
def yX10_bird : MethodName := ⟨RX10, "bird", "(II)I"⟩
abbrev cX10_favour : ByteArray := prog_1_method_3_code
def yX10_favour : MethodName := ⟨RX10, "favour", "(III)I"⟩
abbrev cX10_of : ByteArray := prog_1_method_4_code
def yX10_of : MethodName := ⟨RX10, "of", "(II)I"⟩
abbrev cX10_matter : ByteArray := prog_1_method_5_code
def yX10_matter : MethodName := ⟨RX10, "matter", "(II)I"⟩
abbrev cX10_at : ByteArray := prog_1_method_6_code
def yX10_at : MethodName := ⟨RX10, "at", "(II)I"⟩
abbrev cX10_terms : ByteArray := prog_1_method_7_code
def yX10_terms : MethodName := ⟨RX10, "terms", "(II)I"⟩
abbrev cX10_largestTerm : ByteArray := prog_1_method_8_code
def yX10_largestTerm : MethodName := ⟨RX10, "largestTerm", "(I)I"⟩
abbrev cX10_term : ByteArray := prog_1_method_9_code
def yX10_term : MethodName := ⟨RX10, "term", "(I)I"⟩
abbrev cX10_feed : ByteArray := prog_1_method_10_code
def yX10_feed : MethodName := ⟨RX10, "feed", "(IIIII)I"⟩
abbrev cX10_feedFour : ByteArray := prog_1_method_11_code
def yX10_feedFour : MethodName := ⟨RX10, "feedFour", "(I)V"⟩
abbrev cX10_end : ByteArray := prog_1_method_12_code
def yX10_end : MethodName := ⟨RX10, "end", "(I)I"⟩
abbrev cX10_row : ByteArray := prog_1_method_13_code
def yX10_row : MethodName := ⟨RX10, "row", "()I"⟩
abbrev cX10_canBeBird : ByteArray := prog_1_method_14_code
def yX10_canBeBird : MethodName := ⟨RX10, "canBeBird", "(I)Z"⟩
abbrev cX10_addBirdOfRow : ByteArray := prog_1_method_15_code
def yX10_addBirdOfRow : MethodName := ⟨RX10, "addBirdOfRow", "(I)V"⟩
abbrev cX10_cats : ByteArray := prog_1_method_16_code
def yX10_cats : MethodName := ⟨RX10, "cats", "()I"⟩
abbrev cX10_law : ByteArray := prog_1_method_17_code
def yX10_law : MethodName := ⟨RX10, "law", "()I"⟩
abbrev cX10_orders : ByteArray := prog_1_method_18_code
def yX10_orders : MethodName := ⟨RX10, "orders", "()I"⟩
abbrev cX10_runClause : ByteArray := prog_1_method_19_code
def yX10_runClause : MethodName := ⟨RX10, "runClause", "(LDarkCommittee$Text;I)Z"⟩
abbrev cX10_tellOrders : ByteArray := prog_1_method_20_code
def yX10_tellOrders : MethodName := ⟨RX10, "tellOrders", "()V"⟩
abbrev cX10_fault : ByteArray := prog_1_method_21_code
def yX10_fault : MethodName := ⟨RX10, "fault", "()I"⟩
abbrev cX10_stopped : ByteArray := prog_1_method_22_code
def yX10_stopped : MethodName := ⟨RX10, "stopped", "()I"⟩
abbrev cX10_force : ByteArray := prog_1_method_23_code
def yX10_force : MethodName := ⟨RX10, "force", "(I)I"⟩
abbrev cX10_act : ByteArray := prog_1_method_24_code
def yX10_act : MethodName := ⟨RX10, "act", "(III)I"⟩
abbrev cX10_move : ByteArray := prog_1_method_25_code
def yX10_move : MethodName := ⟨RX10, "move", "(II)I"⟩
abbrev cX10_divide : ByteArray := prog_1_method_26_code
def yX10_divide : MethodName := ⟨RX10, "divide", "(I)I"⟩
abbrev cX10_fly : ByteArray := prog_1_method_27_code
def yX10_fly : MethodName := ⟨RX10, "fly", "(II)I"⟩
abbrev cX10_pass : ByteArray := prog_1_method_28_code
def yX10_pass : MethodName := ⟨RX10, "pass", "()I"⟩
abbrev cX10_undo : ByteArray := prog_1_method_29_code
def yX10_undo : MethodName := ⟨RX10, "undo", "()I"⟩
abbrev cX10_second : ByteArray := prog_1_method_30_code
def yX10_second : MethodName := ⟨RX10, "second", "(II)I"⟩
abbrev cX10_richest : ByteArray := prog_1_method_31_code
def yX10_richest : MethodName := ⟨RX10, "richest", "(I)I"⟩
abbrev cX10_byClock : ByteArray := prog_1_method_32_code
def yX10_byClock : MethodName := ⟨RX10, "byClock", "(I)I"⟩
abbrev cX10_spoilt : ByteArray := prog_1_method_33_code
def yX10_spoilt : MethodName := ⟨RX10, "spoilt", "(II)I"⟩
abbrev cX10_come : ByteArray := prog_1_method_34_code
def yX10_come : MethodName := ⟨RX10, "come", "(II)I"⟩
abbrev cX10_howManyOrWho : ByteArray := prog_1_method_35_code
def yX10_howManyOrWho : MethodName := ⟨RX10, "howManyOrWho", "(II)I"⟩
abbrev cX10_chain : ByteArray := prog_1_method_36_code
def yX10_chain : MethodName := ⟨RX10, "chain", "(III)I"⟩
abbrev cX10_ears : ByteArray := prog_1_method_37_code
def yX10_ears : MethodName := ⟨RX10, "ears", "(I)I"⟩
abbrev cX10_loudest : ByteArray := prog_1_method_38_code
def yX10_loudest : MethodName := ⟨RX10, "loudest", "(I)I"⟩
abbrev cX10_nearest : ByteArray := prog_1_method_39_code
def yX10_nearest : MethodName := ⟨RX10, "nearest", "(II)I"⟩
abbrev cX10_heard : ByteArray := prog_1_method_40_code
def yX10_heard : MethodName := ⟨RX10, "heard", "(I)I"⟩
abbrev cX10_forget : ByteArray := prog_1_method_41_code
def yX10_forget : MethodName := ⟨RX10, "forget", "()I"⟩
abbrev cX10_canBe : ByteArray := prog_1_method_42_code
def yX10_canBe : MethodName := ⟨RX10, "canBe", "()I"⟩
abbrev cX10_listen : ByteArray := prog_1_method_43_code
def yX10_listen : MethodName := ⟨RX10, "listen", "(I)I"⟩
abbrev cX10_few : ByteArray := prog_1_method_44_code
def yX10_few : MethodName := ⟨RX10, "few", "(II)J"⟩
abbrev cX10_compare : ByteArray := prog_1_method_45_code
def yX10_compare : MethodName := ⟨RX10, "compare", "(II)I"⟩
abbrev cX10_mays : ByteArray := prog_1_method_46_code
def yX10_mays : MethodName := ⟨RX10, "mays", "(II)I"⟩
abbrev cX10_drawn : ByteArray := prog_1_method_47_code
def yX10_drawn : MethodName := ⟨RX10, "drawn", "(II)I"⟩
abbrev cX10_image : ByteArray := prog_1_method_48_code
def yX10_image : MethodName := ⟨RX10, "image", "(I)I"⟩
abbrev cX10_back : ByteArray := prog_1_method_49_code
def yX10_back : MethodName := ⟨RX10, "back", "(I)I"⟩
abbrev cX10_count : ByteArray := prog_1_method_50_code
def yX10_count : MethodName := ⟨RX10, "count", "(I)I"⟩
abbrev cX10_status : ByteArray := prog_1_method_51_code
def yX10_status : MethodName := ⟨RX10, "status", "()I"⟩
abbrev cX10_accept : ByteArray := prog_1_method_52_code
def yX10_accept : MethodName := ⟨RX10, "accept", "(I)I"⟩
abbrev cX10_refuse : ByteArray := prog_1_method_53_code
def yX10_refuse : MethodName := ⟨RX10, "refuse", "(I)I"⟩
abbrev cX10_answer : ByteArray := prog_1_method_54_code
def yX10_answer : MethodName := ⟨RX10, "answer", "(I)I"⟩
def RX11 : String := "DarkCommitteeModel"
def TX11 : u_T := fun k => match k with
  | 0 => ("DarkCommitteeModel", "thrown", "I", false)
  | 1 => ("DarkCommitteeModel", "status", "I", false)
  | 2 => ("DarkCommitteeModel", "refusals", "[I", true)
  | 3 => ("DarkCommitteeModel", "row", "[I", true)
  | 4 => ("DarkCommitteeModel", "images", "[I", true)
  | 5 => ("DarkCommitteeModel", "isKept", "[Z", true)
  | 6 => ("DarkCommitteeModel", "undos", "[I", true)
  | 7 => ("DarkCommitteeModel", "sorts", "[I", true)
  | 8 => ("DarkCommitteeModel", "nUndo", "I", false)
  | 9 => ("DarkCommitteeModel", "undosBefore", "[I", true)
  | 10 => ("DarkCommitteeModel", "sortsBefore", "[I", true)
  | 11 => ("DarkCommitteeModel", "cats", "I", false)
  | 12 => ("DarkCommitteeModel", "tape", "[I", true)
  | 13 => ("DarkCommitteeModel", "taped", "I", false)
  | 14 => ("DarkCommitteeModel", "from", "I", false)
  | 15 => ("DarkCommitteeModel", "to", "I", false)
  | 16 => ("DarkCommitteeModel", "sort", "I", false)
  | 17 => ("DarkCommitteeModel", "worth", "J", false)
  | 18 => ("DarkCommitteeModel", "fault", "I", false)
  | 19 => ("DarkCommitteeModel", "bad", "Z", false)
  | 20 => ("DarkCommitteeModel", "ordered", "Z", false)
  | 21 => ("DarkCommitteeModel", "nClauses", "I", false)
  | 22 => ("DarkCommitteeModel", "nClause", "[I", true)
  | 23 => ("DarkCommitteeModel", "nCode", "I", false)
  | 24 => ("DarkCommitteeModel", "nOp", "[I", true)
  | 25 => ("DarkCommitteeModel", "nArg", "[I", true)
  | 26 => ("DarkCommitteeModel", "nLeaves", "I", false)
  | 27 => ("DarkCommitteeModel", "pile", "[I", true)
  | 28 => ("DarkCommitteeModel", "pileAt", "[I", true)
  | 29 => ("DarkCommitteeModel", "piled", "I", false)
  | 30 => ("DarkCommitteeModel", "opened", "I", false)
  | 31 => ("DarkCommitteeModel", "words", "[J", true)
  | 32 => ("DarkCommitteeModel", "orderWords", "[J", true)
  | 33 => ("DarkCommitteeModel", "heads", "[J", true)
  | 34 => ("DarkCommitteeModel", "law", "I", false)
  | 35 => ("DarkCommitteeModel", "set", "[J", true)
  | 36 => ("DarkCommitteeModel", "now", "[J", true)
  | 37 => ("DarkCommitteeModel", "rest", "[J", true)
  | 38 => ("DarkCommitteeModel", "broken", "Z", false)
  | 39 => ("DarkCommitteeModel", "value", "J", false)
  | 40 => ("DarkCommitteeModel", "sum", "J", false)
  | 41 => ("DarkCommitteeModel", "tried", "[I", true)
  | 42 => ("DarkCommitteeModel", "clocks", "[I", true)
  | 43 => ("DarkCommitteeModel", "worths", "[I", true)
  | 44 => ("DarkCommitteeModel", "best", "[I", true)
  | 45 => ("DarkCommitteeModel", "bestLength", "I", false)
  | 46 => ("DarkCommitteeModel", "left1", "[I", true)
  | 47 => ("DarkCommitteeModel", "parts", "[J", true)
  | 48 => ("DarkCommitteeModel", "acts", "[J", true)
  | 49 => ("DarkCommitteeModel", "nOrder", "[I", true)
  | 50 => ("DarkCommitteeModel", "done", "I", false)
  | 51 => ("DarkCommitteeModel", "latest", "I", false)
  | 52 => ("DarkCommitteeModel", "stopped", "I", false)
  | 53 => ("DarkCommitteeModel", "off", "Z", false)
  | 54 => ("DarkCommitteeModel", "state", "J", false)
  | 55 => ("DarkCommitteeModel", "drawn", "[I", true)
  | 56 => ("DarkCommitteeModel", "drawnBirds", "I", false)
  | _ => ("DarkCommitteeModel", "drawnMatters", "I", false)
def tyX11 : Nat → FieldType := fun k => match k with
  | 0 => .int
  | 1 => .int
  | 2 => .array .int
  | 3 => .array .int
  | 4 => .array .int
  | 5 => .array .boolean
  | 6 => .array .int
  | 7 => .array .int
  | 8 => .int
  | 9 => .array .int
  | 10 => .array .int
  | 11 => .int
  | 12 => .array .int
  | 13 => .int
  | 14 => .int
  | 15 => .int
  | 16 => .int
  | 17 => .long
  | 18 => .int
  | 19 => .boolean
  | 20 => .boolean
  | 21 => .int
  | 22 => .array .int
  | 23 => .int
  | 24 => .array .int
  | 25 => .array .int
  | 26 => .int
  | 27 => .array .int
  | 28 => .array .int
  | 29 => .int
  | 30 => .int
  | 31 => .array .long
  | 32 => .array .long
  | 33 => .array .long
  | 34 => .int
  | 35 => .array .long
  | 36 => .array .long
  | 37 => .array .long
  | 38 => .boolean
  | 39 => .long
  | 40 => .long
  | 41 => .array .int
  | 42 => .array .int
  | 43 => .array .int
  | 44 => .array .int
  | 45 => .int
  | 46 => .array .int
  | 47 => .array .long
  | 48 => .array .long
  | 49 => .array .int
  | 50 => .int
  | 51 => .int
  | 52 => .int
  | 53 => .boolean
  | 54 => .long
  | 55 => .array .int
  | 56 => .int
  | _ => .int
theorem nmX11 : ∀ a, a < 58 → ∀ b, b < 58 → a ≠ b → (TX11 a).2.1 ≠ (TX11 b).2.1 := by decide +kernel
theorem tyX11_ok : ∀ k, k < 58 → parseFieldDescriptor (TX11 k).2.2.1 = some (tyX11 k) := by decide +kernel
abbrev cX11_init : ByteArray := prog_13_method_1_code
def yX11_init : MethodName := ⟨RX11, "<init>", "()V"⟩
abbrev cX11_in : ByteArray := prog_13_method_3_code
def yX11_in : MethodName := ⟨RX11, "in", "(JJJ)Z"⟩
abbrev cX11_is : ByteArray := prog_13_method_4_code
def yX11_is : MethodName := ⟨RX11, "is", "(II)Z"⟩
abbrev cX11_ones : ByteArray := prog_13_method_5_code
def yX11_ones : MethodName := ⟨RX11, "ones", "(I)I"⟩
abbrev cX11_bounded : ByteArray := prog_13_method_6_code
def yX11_bounded : MethodName := ⟨RX11, "bounded", "(JII)I"⟩
abbrev cX11_tell : ByteArray := prog_13_method_7_code
def yX11_tell : MethodName := ⟨RX11, "tell", "(I)I"⟩
abbrev cX11_change : ByteArray := prog_13_method_8_code
def yX11_change : MethodName := ⟨RX11, "change", "(II)I"⟩
abbrev cX11_lasting : ByteArray := prog_13_method_9_code
def yX11_lasting : MethodName := ⟨RX11, "lasting", "(I)I"⟩
abbrev cX11_keepAll : ByteArray := prog_13_method_10_code
def yX11_keepAll : MethodName := ⟨RX11, "keepAll", "(I)V"⟩
abbrev cX11_putBack : ByteArray := prog_13_method_11_code
def yX11_putBack : MethodName := ⟨RX11, "putBack", "(I)V"⟩
abbrev cX11_remember : ByteArray := prog_13_method_12_code
def yX11_remember : MethodName := ⟨RX11, "remember", "(I)V"⟩
abbrev cX11_undo : ByteArray := prog_13_method_13_code
def yX11_undo : MethodName := ⟨RX11, "undo", "()I"⟩
abbrev cX11_image : ByteArray := prog_13_method_14_code
def yX11_image : MethodName := ⟨RX11, "image", "(I)I"⟩
abbrev cX11_back : ByteArray := prog_13_method_15_code
def yX11_back : MethodName := ⟨RX11, "back", "(I)I"⟩
abbrev cX11_isBird : ByteArray := prog_13_method_16_code
def yX11_isBird : MethodName := ⟨RX11, "isBird", "(I)Z"⟩
abbrev cX11_isMatter : ByteArray := prog_13_method_17_code
def yX11_isMatter : MethodName := ⟨RX11, "isMatter", "(I)Z"⟩
abbrev cX11_isTree : ByteArray := prog_13_method_18_code
def yX11_isTree : MethodName := ⟨RX11, "isTree", "(I)Z"⟩
abbrev cX11_isAway : ByteArray := prog_13_method_19_code
def yX11_isAway : MethodName := ⟨RX11, "isAway", "(I)Z"⟩
abbrev cX11_present : ByteArray := prog_13_method_20_code
def yX11_present : MethodName := ⟨RX11, "present", "()I"⟩
abbrev cX11_hears : ByteArray := prog_13_method_21_code
def yX11_hears : MethodName := ⟨RX11, "hears", "(II)Z"⟩
abbrev cX11_comes : ByteArray := prog_13_method_22_code
def yX11_comes : MethodName := ⟨RX11, "comes", "(II)I"⟩
abbrev cX11_bird : ByteArray := prog_13_method_23_code
def yX11_bird : MethodName := ⟨RX11, "bird", "(II)I"⟩
abbrev cX11_favour : ByteArray := prog_13_method_24_code
def yX11_favour : MethodName := ⟨RX11, "favour", "(III)I"⟩
abbrev cX11_hearsAll : ByteArray := prog_13_method_25_code
def yX11_hearsAll : MethodName := ⟨RX11, "hearsAll", "(I)I"⟩
abbrev cX11_of : ByteArray := prog_13_method_26_code
def yX11_of : MethodName := ⟨RX11, "of", "(II)I"⟩
abbrev cX11_matter : ByteArray := prog_13_method_27_code
def yX11_matter : MethodName := ⟨RX11, "matter", "(II)I"⟩
abbrev cX11_at : ByteArray := prog_13_method_28_code
def yX11_at : MethodName := ⟨RX11, "at", "(II)I"⟩
abbrev cX11_terms : ByteArray := prog_13_method_29_code
def yX11_terms : MethodName := ⟨RX11, "terms", "(II)I"⟩
abbrev cX11_isRow : ByteArray := prog_13_method_30_code
def yX11_isRow : MethodName := ⟨RX11, "isRow", "(II)Z"⟩
abbrev cX11_row : ByteArray := prog_13_method_31_code
def yX11_row : MethodName := ⟨RX11, "row", "()I"⟩
abbrev cX11_cats : ByteArray := prog_13_method_32_code
def yX11_cats : MethodName := ⟨RX11, "cats", "()I"⟩
abbrev cX11_four : ByteArray := prog_13_method_33_code
def yX11_four : MethodName := ⟨RX11, "four", "(I)V"⟩
abbrev cX11_feed : ByteArray := prog_13_method_34_code
def yX11_feed : MethodName := ⟨RX11, "feed", "(IIIII)I"⟩
abbrev cX11_end : ByteArray := prog_13_method_35_code
def yX11_end : MethodName := ⟨RX11, "end", "(I)I"⟩
abbrev cX11_isSmall : ByteArray := prog_13_method_36_code
def yX11_isSmall : MethodName := ⟨RX11, "isSmall", "(I)Z"⟩
abbrev cX11_isDigit : ByteArray := prog_13_method_37_code
def yX11_isDigit : MethodName := ⟨RX11, "isDigit", "(I)Z"⟩
abbrev cX11_begin : ByteArray := prog_13_method_38_code
def yX11_begin : MethodName := ⟨RX11, "begin", "()V"⟩
abbrev cX11_next : ByteArray := prog_13_method_39_code
def yX11_next : MethodName := ⟨RX11, "next", "()V"⟩
abbrev cX11_isWord : ByteArray := prog_13_method_40_code
def yX11_isWord : MethodName := ⟨RX11, "isWord", "(J)Z"⟩
abbrev cX11_isSign : ByteArray := prog_13_method_41_code
def yX11_isSign : MethodName := ⟨RX11, "isSign", "(I)Z"⟩
abbrev cX11_must : ByteArray := prog_13_method_42_code
def yX11_must : MethodName := ⟨RX11, "must", "(Z)V"⟩
abbrev cX11_number : ByteArray := prog_13_method_43_code
def yX11_number : MethodName := ⟨RX11, "number", "(JJ)I"⟩
abbrev cX11_fault : ByteArray := prog_13_method_44_code
def yX11_fault : MethodName := ⟨RX11, "fault", "()I"⟩
abbrev cX11_emit : ByteArray := prog_13_method_45_code
def yX11_emit : MethodName := ⟨RX11, "emit", "(II)V"⟩
abbrev cX11_push : ByteArray := prog_13_method_46_code
def yX11_push : MethodName := ⟨RX11, "push", "(II)V"⟩
abbrev cX11_binds : ByteArray := prog_13_method_47_code
def yX11_binds : MethodName := ⟨RX11, "binds", "(I)I"⟩
abbrev cX11_settle : ByteArray := prog_13_method_48_code
def yX11_settle : MethodName := ⟨RX11, "settle", "(I)V"⟩
abbrev cX11_inner : ByteArray := prog_13_method_49_code
def yX11_inner : MethodName := ⟨RX11, "inner", "()I"⟩
abbrev cX11_isCompared : ByteArray := prog_13_method_50_code
def yX11_isCompared : MethodName := ⟨RX11, "isCompared", "()Z"⟩
abbrev cX11_partAt : ByteArray := prog_13_method_51_code
def yX11_partAt : MethodName := ⟨RX11, "partAt", "()I"⟩
abbrev cX11_orderPartAt : ByteArray := prog_13_method_52_code
def yX11_orderPartAt : MethodName := ⟨RX11, "orderPartAt", "()I"⟩
abbrev cX11_openBracket : ByteArray := prog_13_method_53_code
def yX11_openBracket : MethodName := ⟨RX11, "openBracket", "(I)V"⟩
abbrev cX11_leaf : ByteArray := prog_13_method_54_code
def yX11_leaf : MethodName := ⟨RX11, "leaf", "(ZII)V"⟩
abbrev cX11_readPart : ByteArray := prog_13_method_55_code
def yX11_readPart : MethodName := ⟨RX11, "readPart", "()I"⟩
abbrev cX11_readPlain : ByteArray := prog_13_method_56_code
def yX11_readPlain : MethodName := ⟨RX11, "readPlain", "()I"⟩
abbrev cX11_behindSum : ByteArray := prog_13_method_57_code
def yX11_behindSum : MethodName := ⟨RX11, "behindSum", "(Z)I"⟩
abbrev cX11_behindTest : ByteArray := prog_13_method_58_code
def yX11_behindTest : MethodName := ⟨RX11, "behindTest", "()I"⟩
abbrev cX11_readExpression : ByteArray := prog_13_method_59_code
def yX11_readExpression : MethodName := ⟨RX11, "readExpression", "(Z)V"⟩
abbrev cX11_beginText : ByteArray := prog_13_method_60_code
def yX11_beginText : MethodName := ⟨RX11, "beginText", "(Z)V"⟩
abbrev cX11_endText : ByteArray := prog_13_method_61_code
def yX11_endText : MethodName := ⟨RX11, "endText", "()V"⟩
abbrev cX11_readLaw : ByteArray := prog_13_method_62_code
def yX11_readLaw : MethodName := ⟨RX11, "readLaw", "()V"⟩
abbrev cX11_law : ByteArray := prog_13_method_63_code
def yX11_law : MethodName := ⟨RX11, "law", "()I"⟩
abbrev cX11_isLaw : ByteArray := prog_13_method_64_code
def yX11_isLaw : MethodName := ⟨RX11, "isLaw", "(I)Z"⟩
abbrev cX11_force : ByteArray := prog_13_method_65_code
def yX11_force : MethodName := ⟨RX11, "force", "(I)I"⟩
abbrev cX11_reckon : ByteArray := prog_13_method_66_code
def yX11_reckon : MethodName := ⟨RX11, "reckon", "(IJJ)J"⟩
abbrev cX11_reckonAll : ByteArray := prog_13_method_67_code
def yX11_reckonAll : MethodName := ⟨RX11, "reckonAll", "(II)V"⟩
abbrev cX11_isSo : ByteArray := prog_13_method_68_code
def yX11_isSo : MethodName := ⟨RX11, "isSo", "(I)Z"⟩
abbrev cX11_tells : ByteArray := prog_13_method_69_code
def yX11_tells : MethodName := ⟨RX11, "tells", "(IIIJ)J"⟩
abbrev cX11_swayOf : ByteArray := prog_13_method_70_code
def yX11_swayOf : MethodName := ⟨RX11, "swayOf", "(II)I"⟩
abbrev cX11_takesOf : ByteArray := prog_13_method_71_code
def yX11_takesOf : MethodName := ⟨RX11, "takesOf", "(I)I"⟩
abbrev cX11_sits : ByteArray := prog_13_method_72_code
def yX11_sits : MethodName := ⟨RX11, "sits", "(II)Z"⟩
abbrev cX11_isAye : ByteArray := prog_13_method_73_code
def yX11_isAye : MethodName := ⟨RX11, "isAye", "(II)Z"⟩
abbrev cX11_sitting : ByteArray := prog_13_method_74_code
def yX11_sitting : MethodName := ⟨RX11, "sitting", "(I)I"⟩
abbrev cX11_ayes : ByteArray := prog_13_method_75_code
def yX11_ayes : MethodName := ⟨RX11, "ayes", "(I)I"⟩
abbrev cX11_carries : ByteArray := prog_13_method_76_code
def yX11_carries : MethodName := ⟨RX11, "carries", "(II)Z"⟩
abbrev cX11_seconder : ByteArray := prog_13_method_77_code
def yX11_seconder : MethodName := ⟨RX11, "seconder", "(II)I"⟩
abbrev cX11_canDivide : ByteArray := prog_13_method_78_code
def yX11_canDivide : MethodName := ⟨RX11, "canDivide", "(I)Z"⟩
abbrev cX11_divideIt : ByteArray := prog_13_method_79_code
def yX11_divideIt : MethodName := ⟨RX11, "divideIt", "(I)V"⟩
abbrev cX11_canMove : ByteArray := prog_13_method_80_code
def yX11_canMove : MethodName := ⟨RX11, "canMove", "(II)Z"⟩
abbrev cX11_moveNow : ByteArray := prog_13_method_81_code
def yX11_moveNow : MethodName := ⟨RX11, "moveNow", "(II)I"⟩
abbrev cX11_move : ByteArray := prog_13_method_82_code
def yX11_move : MethodName := ⟨RX11, "move", "(II)I"⟩
abbrev cX11_divideNow : ByteArray := prog_13_method_83_code
def yX11_divideNow : MethodName := ⟨RX11, "divideNow", "(I)I"⟩
abbrev cX11_divide : ByteArray := prog_13_method_84_code
def yX11_divide : MethodName := ⟨RX11, "divide", "(I)I"⟩
abbrev cX11_flyNow : ByteArray := prog_13_method_85_code
def yX11_flyNow : MethodName := ⟨RX11, "flyNow", "(II)I"⟩
abbrev cX11_fly : ByteArray := prog_13_method_86_code
def yX11_fly : MethodName := ⟨RX11, "fly", "(II)I"⟩
abbrev cX11_passIt : ByteArray := prog_13_method_87_code
def yX11_passIt : MethodName := ⟨RX11, "passIt", "()I"⟩
abbrev cX11_passNow : ByteArray := prog_13_method_88_code
def yX11_passNow : MethodName := ⟨RX11, "passNow", "()I"⟩
abbrev cX11_pass : ByteArray := prog_13_method_89_code
def yX11_pass : MethodName := ⟨RX11, "pass", "()I"⟩
abbrev cX11_second : ByteArray := prog_13_method_90_code
def yX11_second : MethodName := ⟨RX11, "second", "(II)I"⟩
abbrev cX11_isNew : ByteArray := prog_13_method_91_code
def yX11_isNew : MethodName := ⟨RX11, "isNew", "(I)Z"⟩
abbrev cX11_findRichest : ByteArray := prog_13_method_92_code
def yX11_findRichest : MethodName := ⟨RX11, "findRichest", "()I"⟩
abbrev cX11_richest : ByteArray := prog_13_method_93_code
def yX11_richest : MethodName := ⟨RX11, "richest", "(I)I"⟩
abbrev cX11_byClock : ByteArray := prog_13_method_94_code
def yX11_byClock : MethodName := ⟨RX11, "byClock", "(I)I"⟩
abbrev cX11_spoilt : ByteArray := prog_13_method_95_code
def yX11_spoilt : MethodName := ⟨RX11, "spoilt", "(II)I"⟩
abbrev cX11_come : ByteArray := prog_13_method_96_code
def yX11_come : MethodName := ⟨RX11, "come", "(II)I"⟩
abbrev cX11_layLeft : ByteArray := prog_13_method_97_code
def yX11_layLeft : MethodName := ⟨RX11, "layLeft", "(I)V"⟩
abbrev cX11_chain : ByteArray := prog_13_method_98_code
def yX11_chain : MethodName := ⟨RX11, "chain", "(III)I"⟩
abbrev cX11_hearAll : ByteArray := prog_13_method_99_code
def yX11_hearAll : MethodName := ⟨RX11, "hearAll", "(I)Z"⟩
abbrev cX11_ears : ByteArray := prog_13_method_100_code
def yX11_ears : MethodName := ⟨RX11, "ears", "(I)I"⟩
abbrev cX11_heardBy : ByteArray := prog_13_method_101_code
def yX11_heardBy : MethodName := ⟨RX11, "heardBy", "(I)I"⟩
abbrev cX11_loudest : ByteArray := prog_13_method_102_code
def yX11_loudest : MethodName := ⟨RX11, "loudest", "(I)I"⟩
abbrev cX11_nearest : ByteArray := prog_13_method_103_code
def yX11_nearest : MethodName := ⟨RX11, "nearest", "(II)I"⟩
abbrev cX11_heard : ByteArray := prog_13_method_104_code
def yX11_heard : MethodName := ⟨RX11, "heard", "(I)I"⟩
abbrev cX11_forget : ByteArray := prog_13_method_105_code
def yX11_forget : MethodName := ⟨RX11, "forget", "()I"⟩
abbrev cX11_thatCanBe : ByteArray := prog_13_method_106_code
def yX11_thatCanBe : MethodName := ⟨RX11, "thatCanBe", "()I"⟩
abbrev cX11_canBe : ByteArray := prog_13_method_107_code
def yX11_canBe : MethodName := ⟨RX11, "canBe", "()I"⟩
abbrev cX11_listen : ByteArray := prog_13_method_108_code
def yX11_listen : MethodName := ⟨RX11, "listen", "(I)I"⟩
abbrev cX11_few : ByteArray := prog_13_method_109_code
def yX11_few : MethodName := ⟨RX11, "few", "(II)J"⟩
abbrev cX11_compare : ByteArray := prog_13_method_110_code
def yX11_compare : MethodName := ⟨RX11, "compare", "(II)I"⟩
abbrev cX11_readSum : ByteArray := prog_13_method_111_code
def yX11_readSum : MethodName := ⟨RX11, "readSum", "(I)V"⟩
abbrev cX11_readOrder : ByteArray := prog_13_method_112_code
def yX11_readOrder : MethodName := ⟨RX11, "readOrder", "()V"⟩
abbrev cX11_sumOf : ByteArray := prog_13_method_113_code
def yX11_sumOf : MethodName := ⟨RX11, "sumOf", "(I)I"⟩
abbrev cX11_act : ByteArray := prog_13_method_114_code
def yX11_act : MethodName := ⟨RX11, "act", "(III)I"⟩
abbrev cX11_run : ByteArray := prog_13_method_115_code
def yX11_run : MethodName := ⟨RX11, "run", "(I)I"⟩
abbrev cX11_orders : ByteArray := prog_13_method_116_code
def yX11_orders : MethodName := ⟨RX11, "orders", "()I"⟩
abbrev cX11_giveBack : ByteArray := prog_13_method_117_code
def yX11_giveBack : MethodName := ⟨RX11, "giveBack", "(I)V"⟩
abbrev cX11_stopped : ByteArray := prog_13_method_118_code
def yX11_stopped : MethodName := ⟨RX11, "stopped", "()I"⟩
abbrev cX11_draw : ByteArray := prog_13_method_119_code
def yX11_draw : MethodName := ⟨RX11, "draw", "(I)I"⟩
abbrev cX11_mays : ByteArray := prog_13_method_120_code
def yX11_mays : MethodName := ⟨RX11, "mays", "(II)I"⟩
abbrev cX11_drawn : ByteArray := prog_13_method_121_code
def yX11_drawn : MethodName := ⟨RX11, "drawn", "(II)I"⟩
abbrev cX11_count : ByteArray := prog_13_method_122_code
def yX11_count : MethodName := ⟨RX11, "count", "(I)I"⟩
abbrev cX11_status : ByteArray := prog_13_method_123_code
def yX11_status : MethodName := ⟨RX11, "status", "()I"⟩
def RJ6 : String := "java/lang/Integer"
def TJ6 : u_T := fun k => match k with
  | _ => ("", "", "", false)
def tyJ6 : Nat → FieldType := fun k => match k with
  | _ => .int
theorem nmJ6 : ∀ a, a < 0 → ∀ b, b < 0 → a ≠ b → (TJ6 a).2.1 ≠ (TJ6 b).2.1 := by decide +kernel
theorem tyJ6_ok : ∀ k, k < 0 → parseFieldDescriptor (TJ6 k).2.2.1 = some (tyJ6 k) := by decide +kernel
abbrev cJ6_bitCount_0f7a4 : ByteArray := prog_14_method_49_code
def yJ6_bitCount_0f7a4 : MethodName := ⟨RJ6, "bitCount", "(I)I"⟩
def RJ9 : String := "java/lang/Math"
def TJ9 : u_T := fun k => match k with
  | _ => ("", "", "", false)
def tyJ9 : Nat → FieldType := fun k => match k with
  | _ => .int
theorem nmJ9 : ∀ a, a < 0 → ∀ b, b < 0 → a ≠ b → (TJ9 a).2.1 ≠ (TJ9 b).2.1 := by decide +kernel
theorem tyJ9_ok : ∀ k, k < 0 → parseFieldDescriptor (TJ9 k).2.2.1 = some (tyJ9 k) := by decide +kernel
abbrev cJ9_abs_0f7a4 : ByteArray := prog_15_method_59_code
def yJ9_abs_0f7a4 : MethodName := ⟨RJ9, "abs", "(I)I"⟩
abbrev cJ9_max_7cf53 : ByteArray := prog_15_method_65_code
def yJ9_max_7cf53 : MethodName := ⟨RJ9, "max", "(II)I"⟩
abbrev cJ9_min_7cf53 : ByteArray := prog_15_method_69_code
def yJ9_min_7cf53 : MethodName := ⟨RJ9, "min", "(II)I"⟩
def RJ0 : String := "java/lang/String"
def TJ0 : u_T := fun k => match k with
  | _ => ("", "", "", false)
def tyJ0 : Nat → FieldType := fun k => match k with
  | _ => .int
theorem nmJ0 : ∀ a, a < 0 → ∀ b, b < 0 → a ≠ b → (TJ0 a).2.1 ≠ (TJ0 b).2.1 := by decide +kernel
theorem tyJ0_ok : ∀ k, k < 0 → parseFieldDescriptor (TJ0 k).2.2.1 = some (tyJ0 k) := by decide +kernel
abbrev cJ0_length_8abf5 : ByteArray := prog_16_method_54_code
def yJ0_length_8abf5 : MethodName := ⟨RJ0, "length", "()I"⟩
abbrev cJ0_charAt_5068e : ByteArray := prog_16_method_56_code
def yJ0_charAt_5068e : MethodName := ⟨RJ0, "charAt", "(I)C"⟩
abbrev cJ0_coder_7d493 : ByteArray := prog_16_method_152_code
def yJ0_coder_7d493 : MethodName := ⟨RJ0, "coder", "()B"⟩
abbrev cJ0_isLatin1_aae02 : ByteArray := prog_16_method_154_code
def yJ0_isLatin1_aae02 : MethodName := ⟨RJ0, "isLatin1", "()Z"⟩
abbrev cJ0_checkIndex_df160 : ByteArray := prog_16_method_155_code
def yJ0_checkIndex_df160 : MethodName := ⟨RJ0, "checkIndex", "(II)V"⟩
def RJ1 : String := "java/lang/StringLatin1"
def TJ1 : u_T := fun k => match k with
  | _ => ("", "", "", false)
def tyJ1 : Nat → FieldType := fun k => match k with
  | _ => .int
theorem nmJ1 : ∀ a, a < 0 → ∀ b, b < 0 → a ≠ b → (TJ1 a).2.1 ≠ (TJ1 b).2.1 := by decide +kernel
theorem tyJ1_ok : ∀ k, k < 0 → parseFieldDescriptor (TJ1 k).2.2.1 = some (tyJ1 k) := by decide +kernel
abbrev cJ1_charAt_3b067 : ByteArray := prog_17_method_2_code
def yJ1_charAt_3b067 : MethodName := ⟨RJ1, "charAt", "([BI)C"⟩
def RJ2 : String := "java/lang/StringUTF16"
def TJ2 : u_T := fun k => match k with
  | _ => ("", "", "", false)
def tyJ2 : Nat → FieldType := fun k => match k with
  | _ => .int
theorem nmJ2 : ∀ a, a < 0 → ∀ b, b < 0 → a ≠ b → (TJ2 a).2.1 ≠ (TJ2 b).2.1 := by decide +kernel
theorem tyJ2_ok : ∀ k, k < 0 → parseFieldDescriptor (TJ2 k).2.2.1 = some (tyJ2 k) := by decide +kernel
abbrev cJ2_getChar_3b067 : ByteArray := prog_18_method_5_code
def yJ2_getChar_3b067 : MethodName := ⟨RJ2, "getChar", "([BI)C"⟩
abbrev cJ2_length_9d52b : ByteArray := prog_18_method_6_code
def yJ2_length_9d52b : MethodName := ⟨RJ2, "length", "([B)I"⟩
abbrev cJ2_charAt_3b067 : ByteArray := prog_18_method_83_code
def yJ2_charAt_3b067 : MethodName := ⟨RJ2, "charAt", "([BI)C"⟩
abbrev cJ2_checkIndex_2214a : ByteArray := prog_18_method_91_code
def yJ2_checkIndex_2214a : MethodName := ⟨RJ2, "checkIndex", "(I[B)V"⟩
def RJ10 : String := "java/lang/System"
def TJ10 : u_T := fun k => match k with
  | _ => ("", "", "", false)
def tyJ10 : Nat → FieldType := fun k => match k with
  | _ => .int
theorem nmJ10 : ∀ a, a < 0 → ∀ b, b < 0 → a ≠ b → (TJ10 a).2.1 ≠ (TJ10 b).2.1 := by decide +kernel
theorem tyJ10_ok : ∀ k, k < 0 → parseFieldDescriptor (TJ10 k).2.2.1 = some (tyJ10 k) := by decide +kernel
def RJ3 : String := "jdk/internal/util/Preconditions"
def TJ3 : u_T := fun k => match k with
  | _ => ("", "", "", false)
def tyJ3 : Nat → FieldType := fun k => match k with
  | _ => .int
theorem nmJ3 : ∀ a, a < 0 → ∀ b, b < 0 → a ≠ b → (TJ3 a).2.1 ≠ (TJ3 b).2.1 := by decide +kernel
theorem tyJ3_ok : ∀ k, k < 0 → parseFieldDescriptor (TJ3 k).2.2.1 = some (tyJ3 k) := by decide +kernel
abbrev cJ3_checkIndex_8e157 : ByteArray := prog_20_method_11_code
def yJ3_checkIndex_8e157 : MethodName := ⟨RJ3, "checkIndex", "(IILjava/util/function/BiFunction;)I"⟩
def RL : String := "DarkCommitteeLaw"
abbrev cL_law : ByteArray := code
def yL_law : MethodName := ⟨RL, "law", "([I)Z"⟩
abbrev vwCl : List vw_C := [(RX0, TX0, 7), (RX1, TX1, 6), (RX2, TX2, 4), (RX3, TX3, 5), (RX4, TX4, 3), (RX5, TX5, 4), (RX6, TX6, 17), (RX7, TX7, 4), (RX8, TX8, 4), (RX9, TX9, 4), (RX10, TX10, 20), (RX11, TX11, 58)]
def cTy : Nat → Nat → FieldType := fun c => match c with
  | 0 => tyX0
  | 1 => tyX1
  | 2 => tyX2
  | 3 => tyX3
  | 4 => tyX4
  | 5 => tyX5
  | 6 => tyX6
  | 7 => tyX7
  | 8 => tyX8
  | 9 => tyX9
  | 10 => tyX10
  | _ => tyX11
def cN : Nat → Nat := fun c => match c with
  | 0 => 7
  | 1 => 6
  | 2 => 4
  | 3 => 5
  | 4 => 3
  | 5 => 4
  | 6 => 17
  | 7 => 4
  | 8 => 4
  | 9 => 4
  | 10 => 20
  | _ => 58
end
section
/-! THE ABSTRACT MACHINE: places instead of addresses. A heap: the kinds of its places (0: an object of a class; 1: ints; 2: longs; 3: booleans; 4, 5: references), what they hold of ints, longs, references -/
def TT : List Cond := lw_tbl.filter goodWord
theorem tt_of {w : Cond} (i : Nat) (h : lw_tbl[i]? = some w) (g : goodWord w = true) : w ∈ TT := List.mem_filter.mpr ⟨List.mem_of_getElem? h, g⟩
theorem tt_good : ∀ w ∈ TT, goodWord w = true := fun _ h => (List.mem_filter.mp h).2
theorem tt_in : ∀ w ∈ TT, w ∈ lw_tbl := fun _ h => (List.mem_filter.mp h).1
abbrev AH : Type := List (Nat × Nat) × (Nat → Nat → Int32) × (Nat → Nat → Int64) × (Nat → Nat → Option Nat)
abbrev SH : Type := List (Nat × Nat) × (Nat → Option (Nat → Option Nat))
abbrev BB : Type := Nat × Nat × (Nat → Nat)
abbrev GG : Type := va_G × (Nat → ClassId) × (Nat → Nat) × (Nat → Nat)
abbrev MD : Type := MethodName × ByteArray × Nat × Option FieldType × (State → BB → Prop)
def KD (S : SH) (h : AH) (p : Nat) : Option (Nat × Nat) := (S.1 ++ h.1)[p]?
def RF (S : SH) (h : AH) (p k : Nat) : Option Nat := match S.2 p with
  | some f => f k
  | none => h.2.2.2 p k
def rfv (r : Option Nat) : Value := match r with
  | some p => .ref p
  | none => .null
def rn (B : BB) (v : Value) : Value := match v with
  | .ref p => .ref (B.1 + p)
  | .double _ => .ref B.2.1
  | .retAddr n => .ref (B.2.2 n)
  | v => v
def avl (S : SH) (h : AH) (p k : Nat) (ty : FieldType) : Value := match ty with
  | .long => .long (h.2.2.1 p k)
  | .object _ => rfv (RF S h p k)
  | .array _ => rfv (RF S h p k)
  | _ => .int (h.2.1 p k)
def u2 {α : Type} (f : Nat → Nat → α) (p k : Nat) (v : α) : Nat → Nat → α := fun q j => if q = p ∧ j = k then v else f q j
def stI (h : AH) (p k : Nat) (v : Int32) : AH := (h.1, u2 h.2.1 p k v, h.2.2.1, h.2.2.2)
def stJ (h : AH) (p k : Nat) (v : Int64) : AH := (h.1, h.2.1, u2 h.2.2.1 p k v, h.2.2.2)
def stR (h : AH) (p k : Nat) (v : Option Nat) : AH := (h.1, h.2.1, h.2.2.1, u2 h.2.2.2 p k v)
theorem u2_s {α : Type} (f : Nat → Nat → α) (p k : Nat) (v : α) : u2 f p k v p k = v := by simp [u2]
theorem u2_p {α : Type} (f : Nat → Nat → α) {p q : Nat} (k j : Nat) (v : α) (h : q ≠ p) : u2 f p k v q j = f q j := by simp [u2, h]
theorem u2_k {α : Type} (f : Nat → Nat → α) (p q : Nat) {k j : Nat} (v : α) (h : j ≠ k) : u2 f p k v q j = f q j := by simp [u2, h]
theorem u2_row {α : Type} (f : Nat → Nat → α) {p q : Nat} (k : Nat) (v : α) (h : q ≠ p) : u2 f p k v q = f q := by funext j; simp [u2, h]
theorem rn_rfv (B : BB) (r : Option Nat) : rn B (rfv r) = va_rf (r.map (B.1 + ·)) := by cases r <;> rfl
def vcell (S : SH) (G : GG) (B : BB) (h : AH) (p : Nat) (kk : Nat × Nat) : va_E := match kk.1 with
  | 0 => .inr (kk.2, (List.range (cN kk.2)).map (fun k => rn B (avl S h p k (cTy kk.2 k))))
  | 1 => .inl (G.2.1 0, kk.2, .inl (h.2.1 p))
  | 2 => .inl (G.2.1 1, kk.2, .inr (.inl (h.2.2.1 p)))
  | 3 => .inl (G.2.1 2, kk.2, .inl (h.2.1 p))
  | 4 => .inl (G.2.1 3, kk.2, .inr (.inr (.inr (.inr (fun j => (RF S h p j).map (B.1 + ·))))))
  | _ => .inl (G.2.1 4, kk.2, .inr (.inr (.inr (.inr (fun j => (RF S h p j).map (B.1 + ·))))))
def tysOf (G : GG) : List (ClassId × FieldType) := [(G.2.1 0, .int), (G.2.1 1, .long), (G.2.1 2, .boolean), (G.2.1 3, .object RX6), (G.2.1 4, .object RX8)]
def Wd (S : SH) (G : GG) (B : BB) (h : AH) (H : Heap) : Prop := H.size = B.1 + (S.1 ++ h.1).length ∧ ∀ (p : Nat) (kk : Nat × Nat), KD S h p = some kk → va_at G.1 vwCl (B.1 + p, vcell S G B h p kk) H
def strTx : String := "or and not if times by to sways takes bars move divide fly pass bird tree favour matter clauses rich clock night mood done latest present stands "
def strBy : List Int32 := strTx.toList.map fun ch => (Int32.ofNat ch.toNat)
/-- the private constructors that another class of the nest calls -/
def nestL : List (String × Nat × MethodName × String) := [(RX10, 15, yX6_init, RX10), (RX6, 11, yX7_init, RX10), (RX10, 26, yX5_init, RX10), (RX10, 36, yX7_init, RX10), (RX10, 46, yX2_init, RX10), (RX2, 11, yX7_init, RX10), (RX10, 53, yX4_init, RX10), (RX0, 11, yX7_init, RX10), (RX10, 78, yX3_init, RX10), (RX3, 11, yX9_init, RX10)]
/-- what stands of the JDK's own cells: the text constant, String's and Preconditions' statics; links of the nest; classes of reference arrays -/
def SX (G : GG) (B : BB) (U : State) : Prop := vk_S 1 [strBy.length] [strBy] G.2.2.1 G.2.2.2 (fun q => B.1 ≤ q) U U.heap ∧ vk_R RX9 46 strTx (G.2.2.1 0) U ∧ va_Z "java/lang/String" "COMPACT_STRINGS" "Z" (.int 1) (fun q => B.1 ≤ q) U U.heap ∧ (∀ q ∈ nestL, va_Nw (.methodLinkNest q.1 q.2.1 q.2.2.1 q.2.2.2) U) ∧ va_AO RX6 U ∧ va_AO RX8 U ∧ G.2.2.1 0 = B.2.2 0 ∧ G.2.2.2 0 = B.2.2 1 ∧ va_Z "jdk/internal/util/Preconditions" "SIOOBE_FORMATTER" "Ljava/util/function/BiFunction;" (.ref (B.2.2 2)) (fun q => B.1 ≤ q) U U.heap
theorem SX.to {G : GG} {B : BB} {s U : State} (h : SX G B s) (hW : s.WarmedH U.vm) (hq : ∀ a : Nat, a < s.heap.size → ¬ B.1 ≤ a → U.heap[a]? = s.heap[a]?) : SX G B U :=
  ⟨(h.1.kept hq).moved hW.alike, h.2.1.warm hW, (h.2.2.1.kept hq).moved hW.alike, fun q z => va_Nw.warmM hW (h.2.2.2.1 q z), h.2.2.2.2.1.moved hW.alike, h.2.2.2.2.2.1.moved hW.alike, h.2.2.2.2.2.2.1, h.2.2.2.2.2.2.2.1, (h.2.2.2.2.2.2.2.2.kept hq).moved hW.alike⟩
theorem SX.same {G : GG} {B : BB} {s U : State} (h : SX G B s) (hv : U.vm = s.vm) (hh : U.heap = s.heap) : SX G B U :=
  h.to (by rw [hv]; exact State.WarmedH.refl s) (fun a _ _ => by rw [hh])
/-! locals: a list by slot, .float 0 where nothing is known -/
def JK : Value := .float 0
def nj (v : Value) : Bool := match v with
  | .float _ => false
  | _ => true
def isL (o : Option Value) : Bool := match o with
  | some (.long _) => true
  | _ => false
def kl (L : List Value) (i : Nat) : List Value := match i with
  | 0 => L
  | j + 1 => if isL (L[j]?) = true then L.set j JK else L
def st1 (L : List Value) (i : Nat) (v : Value) : List Value := (kl L i).set i v
def st2 (L : List Value) (i : Nat) (v : Value) : List Value := ((kl L i).set i v).set (i + 1) JK
def asc (B : BB) (L : List Value) : List (Nat × Value) := (List.range L.length).filterMap fun i => (L[i]?).bind fun v => if nj v = true then some (i, rn B v) else none
theorem asc_mem {B : BB} {L : List Value} {q : Nat × Value} : q ∈ asc B L ↔ ∃ v, L[q.1]? = some v ∧ nj v = true ∧ rn B v = q.2 := by
  obtain ⟨i, w⟩ := q
  simp only [asc, List.mem_filterMap, List.mem_range]
  constructor
  · rintro ⟨a, ha, h⟩
    cases hv : L[a]? with
    | none => rw [hv] at h; cases h
    | some v =>
      rw [hv] at h
      simp only [Option.bind_some] at h
      by_cases hn : nj v = true
      · rw [if_pos hn] at h
        cases h
        exact ⟨v, hv, hn, rfl⟩
      · rw [if_neg hn] at h
        cases h
  · rintro ⟨v, hv, hn, rfl⟩
    refine ⟨i, (List.getElem?_eq_some_iff.mp hv).1, ?_⟩
    rw [show L[i]? = some v from hv]
    simp [hn]
def LH (ls : Array Slot) (nL : Nat) (B : BB) (L : List Value) : Prop := lv_has ls nL (asc B L)
theorem LH.get {ls : Array Slot} {nL : Nat} {B : BB} {L : List Value} (h : LH ls nL B L) {i : Nat} {v : Value} (hv : L[i]? = some v) (hn : nj v = true) : ls[i]? = some (.val (rn B v)) := h.2.2 (i, rn B v) (asc_mem.mpr ⟨v, hv, hn, rfl⟩)
theorem LH.weak {ls : Array Slot} {nL : Nat} {B : BB} {L L' : List Value} (h : LH ls nL B L) (hw : ∀ (i : Nat) (v : Value), L'[i]? = some v → nj v = true → L[i]? = some v) : LH ls nL B L' :=
  ⟨h.1, h.2.1, fun q hq => by
    obtain ⟨v, h1, h2, h3⟩ := asc_mem.mp hq
    exact h.2.2 q (asc_mem.mpr ⟨v, hw _ _ h1 h2, h2, h3⟩)⟩
theorem rn_cat2 {B : BB} {v : Value} (h : (rn B v).category = 2) : isL (some v) = true := by
  cases v <;> simp [rn, Value.category, isL] at h ⊢
theorem kl_get {L : List Value} {i j : Nat} {v : Value} (h : (kl L i)[j]? = some v) (hn : nj v = true) : L[j]? = some v ∧ ¬ (j + 1 = i ∧ isL (some v) = true) := by
  cases i with
  | zero => exact ⟨h, fun q => by omega⟩
  | succ k =>
    have h : (if isL (L[k]?) = true then L.set k JK else L)[j]? = some v := h
    by_cases hk : isL (L[k]?) = true
    · rw [if_pos hk] at h
      rw [List.getElem?_set] at h
      by_cases hj : k = j
      · subst hj
        simp only [if_true] at h
        split at h
        · cases h; cases hn
        · cases h
      · rw [if_neg hj] at h
        exact ⟨h, fun q => hj (by omega)⟩
    · rw [if_neg hk] at h
      refine ⟨h, fun q => ?_⟩
      obtain ⟨q1, q2⟩ := q
      have : j = k := by omega
      subst this
      exact hk (by rw [show L[j]? = some v by assumption]; exact q2)
theorem LH_st1 {ls' : Array Slot} {nL : Nat} {B : BB} {L : List Value} {i : Nat} {v : Value} (h : lv_has ls' nL ((i, rn B v) :: (asc B L).filter (fun q => !(q.1 == i) && !(q.1 + 1 == i && q.2.category == 2)))) : LH ls' nL B (st1 L i v) := by
  refine ⟨h.1, h.2.1, fun q hq => h.2.2 q ?_⟩
  obtain ⟨u, h1, h2, h3⟩ := asc_mem.mp hq
  unfold st1 at h1
  rw [List.getElem?_set] at h1
  by_cases hj : i = q.1
  · rw [if_pos hj] at h1
    split at h1
    · cases h1
      exact List.mem_cons.mpr (Or.inl (Prod.ext hj.symm h3.symm))
    · cases h1
  · rw [if_neg hj] at h1
    obtain ⟨h4, h5⟩ := kl_get h1 h2
    refine List.mem_cons_of_mem _ (List.mem_filter.mpr ⟨asc_mem.mpr ⟨u, h4, h2, h3⟩, ?_⟩)
    have a1 : (q.1 == i) = false := by simp; omega
    have a2 : (q.1 + 1 == i && q.2.category == 2) = false := by
      rw [Bool.and_eq_false_iff]
      by_cases hz : q.1 + 1 = i
      · right
        simp only [beq_eq_false_iff_ne]
        intro hc
        rw [← h3] at hc
        exact h5 ⟨hz, rn_cat2 hc⟩
      · left
        simp [hz]
    rw [a1, a2]
    rfl
theorem LH_st2 {ls' : Array Slot} {nL : Nat} {B : BB} {L : List Value} {i : Nat} {v : Value} (h : lv_has ls' nL ((i, rn B v) :: (asc B L).filter (fun q => !(q.1 == i) && (!(q.1 == i + 1) && !(q.1 + 1 == i && q.2.category == 2))))) : LH ls' nL B (st2 L i v) := by
  refine ⟨h.1, h.2.1, fun q hq => h.2.2 q ?_⟩
  obtain ⟨u, h1, h2, h3⟩ := asc_mem.mp hq
  unfold st2 at h1
  rw [List.getElem?_set] at h1
  by_cases hj0 : i + 1 = q.1
  · rw [if_pos hj0] at h1
    split at h1
    · cases h1; cases h2
    · cases h1
  rw [if_neg hj0, List.getElem?_set] at h1
  by_cases hj : i = q.1
  · rw [if_pos hj] at h1
    split at h1
    · cases h1
      exact List.mem_cons.mpr (Or.inl (Prod.ext hj.symm h3.symm))
    · cases h1
  · rw [if_neg hj] at h1
    obtain ⟨h4, h5⟩ := kl_get h1 h2
    refine List.mem_cons_of_mem _ (List.mem_filter.mpr ⟨asc_mem.mpr ⟨u, h4, h2, h3⟩, ?_⟩)
    have a1 : (q.1 == i) = false := by simp; omega
    have a0 : (q.1 == i + 1) = false := by simp; omega
    have a2 : (q.1 + 1 == i && q.2.category == 2) = false := by
      rw [Bool.and_eq_false_iff]
      by_cases hz : q.1 + 1 = i
      · right
        simp only [beq_eq_false_iff_ne]
        intro hc
        rw [← h3] at hc
        exact h5 ⟨hz, rn_cat2 hc⟩
      · left
        simp [hz]
    rw [a1, a0, a2]
    rfl
def enA : List Value → List Value
  | [] => []
  | v :: r => if isL (some v) = true then v :: JK :: enA r else v :: enA r
def enL (n : Nat) (a : List Value) : List Value := enA a ++ List.replicate (n - (enA a).length) JK
theorem rn_cat1 {B : BB} {v : Value} (h : isL (some v) = false) : ¬ (rn B v).category = 2 := fun q => by rw [rn_cat2 q] at h; cases h
theorem rn_catL {B : BB} {v : Value} (h : isL (some v) = true) : (rn B v).category = 2 := by
  cases v <;> simp [rn, Value.category, isL] at h ⊢
theorem enA_args {B : BB} (a : List Value) : ∀ (k j : Nat) (v : Value), (enA a)[j]? = some v → nj v = true → (k + j, rn B v) ∈ lv_args k (a.map (rn B)) := by
  induction a with
  | nil => intro k j v h; simp [enA] at h
  | cons x r ih =>
    intro k j v h hn
    by_cases hx : isL (some x) = true
    · simp only [enA, hx, if_true] at h
      simp only [List.map_cons, lv_args, rn_catL hx, if_true]
      match j, h with
      | 0, h => cases h; exact List.mem_cons_self
      | 1, h => cases h; cases hn
      | j + 2, h =>
        refine List.mem_cons_of_mem _ ?_
        have := ih (k + 2) j v (by simpa using h) hn
        rwa [show k + 2 + j = k + (j + 2) by omega] at this
    · have hx' : isL (some x) = false := by simpa using hx
      simp only [enA, hx] at h
      simp only [List.map_cons, lv_args, rn_cat1 hx', if_false]
      match j, h with
      | 0, h => cases h; exact List.mem_cons_self
      | j + 1, h =>
        refine List.mem_cons_of_mem _ ?_
        have := ih (k + 1) j v (by simpa using h) hn
        rwa [show k + 1 + j = k + (j + 1) by omega] at this
theorem LH.entry {ls : Array Slot} {nL : Nat} {B : BB} {a : List Value} (h : lv_has ls nL (lv_args 0 (a.map (rn B)))) : LH ls nL B (enL nL a) := by
  refine ⟨h.1, h.2.1, fun q hq => h.2.2 q ?_⟩
  obtain ⟨v, h1, h2, h3⟩ := asc_mem.mp hq
  unfold enL at h1
  by_cases hl : q.1 < (enA a).length
  · rw [List.getElem?_append_left hl] at h1
    have := enA_args (B := B) a 0 q.1 v h1 h2
    rw [Nat.zero_add, h3] at this
    exact this
  · rw [List.getElem?_append_right (by omega)] at h1
    have := List.eq_of_mem_replicate (List.mem_of_getElem? h1)
    subst this
    cases h2
/-! the judgements -/
def WS (M : MD) : List Cond := .code M.1 M.2.1 M.2.2.1 M.2.2.2.1 :: TT
def PQ (S : SH) (G : GG) (B : BB) (Q : Option Value → AH → Prop) : Array Value → State → Outcome → State → Prop := fun _ st oc t => ∃ (r : Option Value) (h : AH), oc = .returned (r.map (rn B)) ∧ Q r h ∧ Wd S G B h t.heap ∧ va_F (fun q => B.1 ≤ q) st t
def PC (S : SH) (G : GG) (B : BB) (as : List Value) (h : AH) : Array Value → State → Prop := va_Pc (as.map (rn B)) (fun U => Wd S G B h U.heap ∧ va_K G.1 vwCl (tysOf G) U ∧ SX G B U)
def RM (d mc ms : Nat) : Room := { frames := d, cells := mc, slots := ms, locals := 64 * d }
def CX (M : MD) (d : Nat) (p : Program) (R : Room) (s : State) (m : MethodId) (args : Array Value) (meth : Method) (c : Code) (G : GG) (B : BB) (mc ms : Nat) : Prop :=
  p.tables.exec = Jvm.exec ∧ c.code = M.2.1 ∧ meth.sig.returnType = M.2.2.2.1 ∧ c.maxLocals = M.2.2.1 ∧ (∀ w ∈ TT, w.before args s = true) ∧ s.vm.findClass M.1.cls = some m.cls ∧ meth.locks = false ∧ meth.name = M.1.name ∧ (d ≤ R.frames ∧ 64 * d ≤ R.locals) ∧ (mc ≤ R.cells ∧ ms ≤ R.slots) ∧ va_K G.1 vwCl (tysOf G) s ∧ SX G B s ∧ B.1 ≤ s.heap.size ∧ M.2.2.2.2 s B
/-- from here (the method M at pc, locals L, stack st, heap h), within cb new cells of sb slots, M returns, with Q -/
def WP (S : SH) (M : MD) (d cb sb : Nat) (Q : Option Value → AH → Prop) (pc : Nat) (L st : List Value) (h : AH) : Prop :=
  ∀ (p : Program) (l : Launch) (e : Env) (R : Room) (s : State) (m : MethodId) (args : Array Value) (below : List Frame) (meth : Method) (c : Code) (G : GG) (B : BB) (mc ms : Nat), CX M d p R s m args meth c G B mc ms →
    ∀ (ls : Array Slot) (H : Heap) (locs : List Loc) (cells slots : Nat), LH ls M.2.2.1 B L → Wd S G B h H → va_S (fun q => B.1 ≤ q) s.heap H locs → cells + cb = mc ∧ slots + sb = ms →
      W p l e R s m args below meth c H locs cells slots (MQ below (PQ S G B Q) args s mc ms (fun q => B.1 ≤ q)) (F0 m pc ls (st.map (rn B)))
/-- M, called with these in this heap, makes at most mc cells of ms slots, returns, with K -/
def CP (S : SH) (M : MD) (d mc ms : Nat) (as : List Value) (h : AH) (K : Option Value → AH → Prop) : Prop :=
  ∀ (l : Launch) (G : GG) (B : BB), Met l M.1 (WS M) (RM d mc ms) (PC S G B as h) (PQ S G B K) mc ms (fun q => B.1 ≤ q)
def wk : List Value → List Value → Prop
  | [], _ => True
  | v :: r, w :: t => (v = JK ∨ v = w) ∧ wk r t
  | _ :: _, [] => False
theorem wk_spec : ∀ (L' L : List Value), wk L' L → ∀ (i : Nat) (v : Value), L'[i]? = some v → nj v = true → L[i]? = some v
  | [], _, _, i, v, h, _ => by simp at h
  | a :: r, w :: t, hk, 0, v, h, hn => by
    cases h
    rcases hk.1 with rfl | rfl
    · cases hn
    · rfl
  | a :: r, w :: t, hk, i + 1, v, h, hn => by
    have := wk_spec r t hk.2 i v (by simpa using h) hn
    simpa using this
  | _ :: _, [], hk, _, _, _, _ => hk.elim
theorem wp_weak {S : SH} {M : MD} {d cb sb : Nat} {Q : Option Value → AH → Prop} {pc : Nat} {L L' st : List Value} {h : AH} (hw : ∀ (i : Nat) (v : Value), L'[i]? = some v → nj v = true → L[i]? = some v) (k : WP S M d cb sb Q pc L' st h) : WP S M d cb sb Q pc L st h :=
  fun p l e R s m args below meth c G B mc ms C ls H locs cells slots hl => k p l e R s m args below meth c G B mc ms C ls H locs cells slots (hl.weak hw)
theorem wp_wk {S : SH} {M : MD} {d cb sb : Nat} {Q : Option Value → AH → Prop} {pc : Nat} {L L' st : List Value} {h : AH} (hw : wk L' L) (k : WP S M d cb sb Q pc L' st h) : WP S M d cb sb Q pc L st h := wp_weak (wk_spec _ _ hw) k
theorem wp_mono {S : SH} {M : MD} {d cb sb : Nat} {Q Q' : Option Value → AH → Prop} {pc : Nat} {L st : List Value} {h : AH} (hq : ∀ r h', Q r h' → Q' r h') (k : WP S M d cb sb Q pc L st h) : WP S M d cb sb Q' pc L st h := by
  intro p l e R s m args below meth c G B mc ms C ls H locs cells slots hl hw hS hn T hT X
  obtain ⟨t, h1, o, h2, h3, ⟨r, h', e1, e2, e3⟩, h4⟩ := k p l e R s m args below meth c G B mc ms C ls H locs cells slots hl hw hS hn T hT X
  exact ⟨t, h1, o, h2, h3, ⟨r, h', e1, hq _ _ e2, e3⟩, h4⟩
set_option maxHeartbeats 1000000 in
/-- a method out of the walk of its body -/
theorem cp_of {S : SH} {M : MD} {d mc ms : Nat} {as : List Value} {h : AH} {K : Option Value → AH → Prop} (hp : plainName M.1.cls = true) (hE : ∀ s B, M.2.2.2.2 s B) (hlen : ∀ B : BB, (lg_sl (as.map (rn B))).length ≤ M.2.2.1) (k : WP S M d mc ms K 0 (enL M.2.2.1 as) [] h) : CP S M d mc ms as h K := by
  intro l G B
  refine Met.ofW (cc := M.2.1) (maxL := M.2.2.1) (ret := M.2.2.2.1) (ws' := TT) hp rfl ?_
  intro p e s m args below meth c s₁ X hml hv
  obtain ⟨rfl, hW, hK, hX⟩ := hv
  have hts : ∀ w ∈ TT, w.before (as.map (rn B)).toArray s = true := fun w h => atoms_spec (ws := WS M) X.pre w (List.mem_cons_of_mem _ h)
  rw [lg_entry_eq]
  refine k p l e _ s m _ below meth c G B mc ms ⟨X.exec, X.bytes, X.returns, hml, hts, findClass_of_methodNamed X.named, X.notSynchronized, (name_of_methodNamed X.named X.method).1, ⟨Nat.le_refl _, Nat.le_refl _⟩, ⟨Nat.le_refl _, Nat.le_refl _⟩, hK, hX, ?_, hE s B⟩ _ s.heap [] 0 0 (LH.entry (lv_entry _ (hlen B))) hW va_S.rf ⟨Nat.zero_add _, Nat.zero_add _⟩
  rw [hW.1]
  exact Nat.le_add_right _ _
theorem cp_mono {S : SH} {M : MD} {d mc ms : Nat} {as : List Value} {h : AH} {K K' : Option Value → AH → Prop} (hk : ∀ r h', K r h' → K' r h') (q : CP S M d mc ms as h K) : CP S M d mc ms as h K' := by
  intro l G B
  refine MetFree.mono (q l G B) (fun a s h => h) (fun _ _ _ _ _ h => h) (fun a st o t _ z => ?_)
  obtain ⟨⟨r, h', e1, e2, e3⟩, z2⟩ := z
  exact ⟨⟨r, h', e1, hk _ _ e2, e3⟩, z2⟩
end
section
theorem wp_iconst {S : SH} {M : MD} {d cb sb : Nat} {Q : Option Value → AH → Prop} {pc : Nat} {L st : List Value} {h : AH} {n : Int} {v : Int32} (hd : decode M.2.1 pc = .ok (.iconst n, 1)) (hv : Int32.ofInt n = v) (k : WP S M d cb sb Q (pc + 1) L (.int v :: st) h) : WP S M d cb sb Q pc L (st) h := by
  intro p l e R s m args below meth c G B mc ms C ls H locs cells slots hl hw hS hn
  exact lv_iconst C.1 C.2.1 hd hv (k p l e R s m args below meth c G B mc ms C ls H locs cells slots hl hw hS hn)
theorem wp_bipush {S : SH} {M : MD} {d cb sb : Nat} {Q : Option Value → AH → Prop} {pc : Nat} {L st : List Value} {h : AH} {n : Int} {v : Int32} (hd : decode M.2.1 pc = .ok (.bipush n, 2)) (hv : (Int8.ofInt n).toInt32 = v) (k : WP S M d cb sb Q (pc + 2) L (.int v :: st) h) : WP S M d cb sb Q pc L (st) h := by
  intro p l e R s m args below meth c G B mc ms C ls H locs cells slots hl hw hS hn
  exact lv_bipush C.1 C.2.1 hd hv (k p l e R s m args below meth c G B mc ms C ls H locs cells slots hl hw hS hn)
theorem wp_sipush {S : SH} {M : MD} {d cb sb : Nat} {Q : Option Value → AH → Prop} {pc : Nat} {L st : List Value} {h : AH} {n : Int} {v : Int32} (hd : decode M.2.1 pc = .ok (.sipush n, 3)) (hv : (Int16.ofInt n).toInt32 = v) (k : WP S M d cb sb Q (pc + 3) L (.int v :: st) h) : WP S M d cb sb Q pc L (st) h := by
  intro p l e R s m args below meth c G B mc ms C ls H locs cells slots hl hw hS hn
  exact lv_sipush C.1 C.2.1 hd hv (k p l e R s m args below meth c G B mc ms C ls H locs cells slots hl hw hS hn)
theorem wp_lconst {S : SH} {M : MD} {d cb sb : Nat} {Q : Option Value → AH → Prop} {pc : Nat} {L st : List Value} {h : AH} {n : Fin 2} {v : Int64} (hd : decode M.2.1 pc = .ok (.lconst n, 1)) (hv : Int64.ofNat (n : Nat) = v) (k : WP S M d cb sb Q (pc + 1) L (.long v :: st) h) : WP S M d cb sb Q pc L (st) h := by
  intro p l e R s m args below meth c G B mc ms C ls H locs cells slots hl hw hS hn
  exact lv_lconst C.1 C.2.1 hd hv (k p l e R s m args below meth c G B mc ms C ls H locs cells slots hl hw hS hn)
theorem wp_null {S : SH} {M : MD} {d cb sb : Nat} {Q : Option Value → AH → Prop} {pc : Nat} {L st : List Value} {h : AH}  (hd : decode M.2.1 pc = .ok (.aconst_null, 1))  (k : WP S M d cb sb Q (pc + 1) L (.null :: st) h) : WP S M d cb sb Q pc L (st) h := by
  intro p l e R s m args below meth c G B mc ms C ls H locs cells slots hl hw hS hn
  exact lv_null C.1 C.2.1 hd (k p l e R s m args below meth c G B mc ms C ls H locs cells slots hl hw hS hn)
theorem wp_iload_n {S : SH} {M : MD} {d cb sb : Nat} {Q : Option Value → AH → Prop} {pc : Nat} {L st : List Value} {h : AH} {k : Fin 4} {x : Int32} (hd : decode M.2.1 pc = .ok (.iload_n k, 1)) (hv : L[(k : Nat)]? = some (.int x)) (k : WP S M d cb sb Q (pc + 1) L (.int x :: st) h) : WP S M d cb sb Q pc L (st) h := by
  intro p l e R s m args below meth c G B mc ms C ls H locs cells slots hl hw hS hn
  exact lv_iload_n C.1 C.2.1 hd rfl (hl.get hv rfl) (k p l e R s m args below meth c G B mc ms C ls H locs cells slots hl hw hS hn)
theorem wp_iload {S : SH} {M : MD} {d cb sb : Nat} {Q : Option Value → AH → Prop} {pc : Nat} {L st : List Value} {h : AH} {i : Nat} {x : Int32} (hd : decode M.2.1 pc = .ok (.iload i, 2)) (hv : L[i]? = some (.int x)) (k : WP S M d cb sb Q (pc + 2) L (.int x :: st) h) : WP S M d cb sb Q pc L (st) h := by
  intro p l e R s m args below meth c G B mc ms C ls H locs cells slots hl hw hS hn
  exact lv_iload C.1 C.2.1 hd (hl.get hv rfl) (k p l e R s m args below meth c G B mc ms C ls H locs cells slots hl hw hS hn)
theorem wp_lload_n {S : SH} {M : MD} {d cb sb : Nat} {Q : Option Value → AH → Prop} {pc : Nat} {L st : List Value} {h : AH} {k : Fin 4} {x : Int64} (hd : decode M.2.1 pc = .ok (.lload_n k, 1)) (hv : L[(k : Nat)]? = some (.long x)) (k : WP S M d cb sb Q (pc + 1) L (.long x :: st) h) : WP S M d cb sb Q pc L (st) h := by
  intro p l e R s m args below meth c G B mc ms C ls H locs cells slots hl hw hS hn
  exact lv_lload_n C.1 C.2.1 hd rfl (hl.get hv rfl) (k p l e R s m args below meth c G B mc ms C ls H locs cells slots hl hw hS hn)
theorem wp_lload {S : SH} {M : MD} {d cb sb : Nat} {Q : Option Value → AH → Prop} {pc : Nat} {L st : List Value} {h : AH} {i : Nat} {x : Int64} (hd : decode M.2.1 pc = .ok (.lload i, 2)) (hv : L[i]? = some (.long x)) (k : WP S M d cb sb Q (pc + 2) L (.long x :: st) h) : WP S M d cb sb Q pc L (st) h := by
  intro p l e R s m args below meth c G B mc ms C ls H locs cells slots hl hw hS hn
  exact lv_lload C.1 C.2.1 hd (hl.get hv rfl) (k p l e R s m args below meth c G B mc ms C ls H locs cells slots hl hw hS hn)
theorem wp_aload_n {S : SH} {M : MD} {d cb sb : Nat} {Q : Option Value → AH → Prop} {pc : Nat} {L st : List Value} {h : AH} {k : Fin 4} {x : Nat} (hd : decode M.2.1 pc = .ok (.aload_n k, 1)) (hv : L[(k : Nat)]? = some (.ref x)) (k : WP S M d cb sb Q (pc + 1) L (.ref x :: st) h) : WP S M d cb sb Q pc L (st) h := by
  intro p l e R s m args below meth c G B mc ms C ls H locs cells slots hl hw hS hn
  exact lv_aload_n C.1 C.2.1 hd rfl (hl.get hv rfl) (k p l e R s m args below meth c G B mc ms C ls H locs cells slots hl hw hS hn)
theorem wp_aload {S : SH} {M : MD} {d cb sb : Nat} {Q : Option Value → AH → Prop} {pc : Nat} {L st : List Value} {h : AH} {i x : Nat} (hd : decode M.2.1 pc = .ok (.aload i, 2)) (hv : L[i]? = some (.ref x)) (k : WP S M d cb sb Q (pc + 2) L (.ref x :: st) h) : WP S M d cb sb Q pc L (st) h := by
  intro p l e R s m args below meth c G B mc ms C ls H locs cells slots hl hw hS hn
  exact lv_aload C.1 C.2.1 hd (hl.get hv rfl) (k p l e R s m args below meth c G B mc ms C ls H locs cells slots hl hw hS hn)
theorem wp_aloadN_n {S : SH} {M : MD} {d cb sb : Nat} {Q : Option Value → AH → Prop} {pc : Nat} {L st : List Value} {h : AH} {k : Fin 4} (hd : decode M.2.1 pc = .ok (.aload_n k, 1)) (hv : L[(k : Nat)]? = some .null) (k : WP S M d cb sb Q (pc + 1) L (.null :: st) h) : WP S M d cb sb Q pc L (st) h := by
  intro p l e R s m args below meth c G B mc ms C ls H locs cells slots hl hw hS hn
  exact lv_aload_nN C.1 C.2.1 hd rfl (hl.get hv rfl) (k p l e R s m args below meth c G B mc ms C ls H locs cells slots hl hw hS hn)
theorem wp_aloadN {S : SH} {M : MD} {d cb sb : Nat} {Q : Option Value → AH → Prop} {pc : Nat} {L st : List Value} {h : AH} {i : Nat} (hd : decode M.2.1 pc = .ok (.aload i, 2)) (hv : L[i]? = some .null) (k : WP S M d cb sb Q (pc + 2) L (.null :: st) h) : WP S M d cb sb Q pc L (st) h := by
  intro p l e R s m args below meth c G B mc ms C ls H locs cells slots hl hw hS hn
  exact lv_aloadN C.1 C.2.1 hd (hl.get hv rfl) (k p l e R s m args below meth c G B mc ms C ls H locs cells slots hl hw hS hn)
theorem wp_aloadS_n {S : SH} {M : MD} {d cb sb : Nat} {Q : Option Value → AH → Prop} {pc : Nat} {L st : List Value} {h : AH} {k : Fin 4} {z : UInt64} (hd : decode M.2.1 pc = .ok (.aload_n k, 1)) (hv : L[(k : Nat)]? = some (.double z)) (k : WP S M d cb sb Q (pc + 1) L (.double z :: st) h) : WP S M d cb sb Q pc L (st) h := by
  intro p l e R s m args below meth c G B mc ms C ls H locs cells slots hl hw hS hn
  exact lv_aload_n C.1 C.2.1 hd rfl (hl.get hv rfl) (k p l e R s m args below meth c G B mc ms C ls H locs cells slots hl hw hS hn)
theorem wp_iadd {S : SH} {M : MD} {d cb sb : Nat} {Q : Option Value → AH → Prop} {pc : Nat} {L st : List Value} {h : AH} {x y : Int32} (hd : decode M.2.1 pc = .ok (.iadd, 1))  (k : WP S M d cb sb Q (pc + 1) L (.int (x + y) :: st) h) : WP S M d cb sb Q pc L (.int y :: .int x :: st) h := by
  intro p l e R s m args below meth c G B mc ms C ls H locs cells slots hl hw hS hn
  exact lv_iadd C.1 C.2.1 hd (k p l e R s m args below meth c G B mc ms C ls H locs cells slots hl hw hS hn)
theorem wp_isub {S : SH} {M : MD} {d cb sb : Nat} {Q : Option Value → AH → Prop} {pc : Nat} {L st : List Value} {h : AH} {x y : Int32} (hd : decode M.2.1 pc = .ok (.isub, 1))  (k : WP S M d cb sb Q (pc + 1) L (.int (x - y) :: st) h) : WP S M d cb sb Q pc L (.int y :: .int x :: st) h := by
  intro p l e R s m args below meth c G B mc ms C ls H locs cells slots hl hw hS hn
  exact lv_isub C.1 C.2.1 hd (k p l e R s m args below meth c G B mc ms C ls H locs cells slots hl hw hS hn)
theorem wp_imul {S : SH} {M : MD} {d cb sb : Nat} {Q : Option Value → AH → Prop} {pc : Nat} {L st : List Value} {h : AH} {x y : Int32} (hd : decode M.2.1 pc = .ok (.imul, 1))  (k : WP S M d cb sb Q (pc + 1) L (.int (x * y) :: st) h) : WP S M d cb sb Q pc L (.int y :: .int x :: st) h := by
  intro p l e R s m args below meth c G B mc ms C ls H locs cells slots hl hw hS hn
  exact lv_imul C.1 C.2.1 hd (k p l e R s m args below meth c G B mc ms C ls H locs cells slots hl hw hS hn)
theorem wp_iand {S : SH} {M : MD} {d cb sb : Nat} {Q : Option Value → AH → Prop} {pc : Nat} {L st : List Value} {h : AH} {x y : Int32} (hd : decode M.2.1 pc = .ok (.iand, 1))  (k : WP S M d cb sb Q (pc + 1) L (.int (x &&& y) :: st) h) : WP S M d cb sb Q pc L (.int y :: .int x :: st) h := by
  intro p l e R s m args below meth c G B mc ms C ls H locs cells slots hl hw hS hn
  exact lv_iand C.1 C.2.1 hd (k p l e R s m args below meth c G B mc ms C ls H locs cells slots hl hw hS hn)
theorem wp_ior {S : SH} {M : MD} {d cb sb : Nat} {Q : Option Value → AH → Prop} {pc : Nat} {L st : List Value} {h : AH} {x y : Int32} (hd : decode M.2.1 pc = .ok (.ior, 1))  (k : WP S M d cb sb Q (pc + 1) L (.int (x ||| y) :: st) h) : WP S M d cb sb Q pc L (.int y :: .int x :: st) h := by
  intro p l e R s m args below meth c G B mc ms C ls H locs cells slots hl hw hS hn
  exact lv_ior C.1 C.2.1 hd (k p l e R s m args below meth c G B mc ms C ls H locs cells slots hl hw hS hn)
theorem wp_ixor {S : SH} {M : MD} {d cb sb : Nat} {Q : Option Value → AH → Prop} {pc : Nat} {L st : List Value} {h : AH} {x y : Int32} (hd : decode M.2.1 pc = .ok (.ixor, 1))  (k : WP S M d cb sb Q (pc + 1) L (.int (x ^^^ y) :: st) h) : WP S M d cb sb Q pc L (.int y :: .int x :: st) h := by
  intro p l e R s m args below meth c G B mc ms C ls H locs cells slots hl hw hS hn
  exact lv_ixor C.1 C.2.1 hd (k p l e R s m args below meth c G B mc ms C ls H locs cells slots hl hw hS hn)
theorem wp_ishl {S : SH} {M : MD} {d cb sb : Nat} {Q : Option Value → AH → Prop} {pc : Nat} {L st : List Value} {h : AH} {x y : Int32} (hd : decode M.2.1 pc = .ok (.ishl, 1))  (k : WP S M d cb sb Q (pc + 1) L (.int (x <<< (y &&& 31)) :: st) h) : WP S M d cb sb Q pc L (.int y :: .int x :: st) h := by
  intro p l e R s m args below meth c G B mc ms C ls H locs cells slots hl hw hS hn
  exact lv_ishl C.1 C.2.1 hd (k p l e R s m args below meth c G B mc ms C ls H locs cells slots hl hw hS hn)
theorem wp_ishr {S : SH} {M : MD} {d cb sb : Nat} {Q : Option Value → AH → Prop} {pc : Nat} {L st : List Value} {h : AH} {x y : Int32} (hd : decode M.2.1 pc = .ok (.ishr, 1))  (k : WP S M d cb sb Q (pc + 1) L (.int (x >>> (y &&& 31)) :: st) h) : WP S M d cb sb Q pc L (.int y :: .int x :: st) h := by
  intro p l e R s m args below meth c G B mc ms C ls H locs cells slots hl hw hS hn
  exact lv_ishr C.1 C.2.1 hd (k p l e R s m args below meth c G B mc ms C ls H locs cells slots hl hw hS hn)
theorem wp_irem {S : SH} {M : MD} {d cb sb : Nat} {Q : Option Value → AH → Prop} {pc : Nat} {L st : List Value} {h : AH} {x y : Int32} (hd : decode M.2.1 pc = .ok (.irem, 1)) (hne : ¬ y = 0) (k : WP S M d cb sb Q (pc + 1) L (.int (x - x / y * y) :: st) h) : WP S M d cb sb Q pc L (.int y :: .int x :: st) h := by
  intro p l e R s m args below meth c G B mc ms C ls H locs cells slots hl hw hS hn
  exact lv_irem C.1 C.2.1 hd hne (k p l e R s m args below meth c G B mc ms C ls H locs cells slots hl hw hS hn)
theorem wp_iushr {S : SH} {M : MD} {d cb sb : Nat} {Q : Option Value → AH → Prop} {pc : Nat} {L st : List Value} {h : AH} {x y : Int32} (hd : decode M.2.1 pc = .ok (.iushr, 1))  (k : WP S M d cb sb Q (pc + 1) L (.int ((x.toUInt32 >>> (y.toUInt32 &&& Int32.toUInt32 31)).toInt32) :: st) h) : WP S M d cb sb Q pc L (.int y :: .int x :: st) h := by
  intro p l e R s m args below meth c G B mc ms C ls H locs cells slots hl hw hS hn
  exact lv_iushr C.1 C.2.1 hd rfl (k p l e R s m args below meth c G B mc ms C ls H locs cells slots hl hw hS hn)
theorem wp_ineg {S : SH} {M : MD} {d cb sb : Nat} {Q : Option Value → AH → Prop} {pc : Nat} {L st : List Value} {h : AH} {x : Int32} (hd : decode M.2.1 pc = .ok (.ineg, 1))  (k : WP S M d cb sb Q (pc + 1) L (.int (-x) :: st) h) : WP S M d cb sb Q pc L (.int x :: st) h := by
  intro p l e R s m args below meth c G B mc ms C ls H locs cells slots hl hw hS hn
  exact lv_ineg C.1 C.2.1 hd (k p l e R s m args below meth c G B mc ms C ls H locs cells slots hl hw hS hn)
theorem wp_i2l {S : SH} {M : MD} {d cb sb : Nat} {Q : Option Value → AH → Prop} {pc : Nat} {L st : List Value} {h : AH} {x : Int32} (hd : decode M.2.1 pc = .ok (.i2l, 1))  (k : WP S M d cb sb Q (pc + 1) L (.long x.toInt64 :: st) h) : WP S M d cb sb Q pc L (.int x :: st) h := by
  intro p l e R s m args below meth c G B mc ms C ls H locs cells slots hl hw hS hn
  exact lv_i2l C.1 C.2.1 hd rfl (k p l e R s m args below meth c G B mc ms C ls H locs cells slots hl hw hS hn)
theorem wp_l2i {S : SH} {M : MD} {d cb sb : Nat} {Q : Option Value → AH → Prop} {pc : Nat} {L st : List Value} {h : AH} {x : Int64} (hd : decode M.2.1 pc = .ok (.l2i, 1))  (k : WP S M d cb sb Q (pc + 1) L (.int x.toInt32 :: st) h) : WP S M d cb sb Q pc L (.long x :: st) h := by
  intro p l e R s m args below meth c G B mc ms C ls H locs cells slots hl hw hS hn
  exact lv_l2i C.1 C.2.1 hd rfl (k p l e R s m args below meth c G B mc ms C ls H locs cells slots hl hw hS hn)
theorem wp_ladd {S : SH} {M : MD} {d cb sb : Nat} {Q : Option Value → AH → Prop} {pc : Nat} {L st : List Value} {h : AH} {x y : Int64} (hd : decode M.2.1 pc = .ok (.ladd, 1))  (k : WP S M d cb sb Q (pc + 1) L (.long (x + y) :: st) h) : WP S M d cb sb Q pc L (.long y :: .long x :: st) h := by
  intro p l e R s m args below meth c G B mc ms C ls H locs cells slots hl hw hS hn
  exact lv_ladd C.1 C.2.1 hd (k p l e R s m args below meth c G B mc ms C ls H locs cells slots hl hw hS hn)
theorem wp_lsub {S : SH} {M : MD} {d cb sb : Nat} {Q : Option Value → AH → Prop} {pc : Nat} {L st : List Value} {h : AH} {x y : Int64} (hd : decode M.2.1 pc = .ok (.lsub, 1))  (k : WP S M d cb sb Q (pc + 1) L (.long (x - y) :: st) h) : WP S M d cb sb Q pc L (.long y :: .long x :: st) h := by
  intro p l e R s m args below meth c G B mc ms C ls H locs cells slots hl hw hS hn
  exact lv_lsub C.1 C.2.1 hd (k p l e R s m args below meth c G B mc ms C ls H locs cells slots hl hw hS hn)
theorem wp_lmul {S : SH} {M : MD} {d cb sb : Nat} {Q : Option Value → AH → Prop} {pc : Nat} {L st : List Value} {h : AH} {x y : Int64} (hd : decode M.2.1 pc = .ok (.lmul, 1))  (k : WP S M d cb sb Q (pc + 1) L (.long (x * y) :: st) h) : WP S M d cb sb Q pc L (.long y :: .long x :: st) h := by
  intro p l e R s m args below meth c G B mc ms C ls H locs cells slots hl hw hS hn
  exact lv_lmul C.1 C.2.1 hd (k p l e R s m args below meth c G B mc ms C ls H locs cells slots hl hw hS hn)
theorem wp_ldiv {S : SH} {M : MD} {d cb sb : Nat} {Q : Option Value → AH → Prop} {pc : Nat} {L st : List Value} {h : AH} {x y : Int64} (hd : decode M.2.1 pc = .ok (.ldiv, 1)) (hne : ¬ y = 0) (k : WP S M d cb sb Q (pc + 1) L (.long (x / y) :: st) h) : WP S M d cb sb Q pc L (.long y :: .long x :: st) h := by
  intro p l e R s m args below meth c G B mc ms C ls H locs cells slots hl hw hS hn
  exact lv_ldiv C.1 C.2.1 hd hne (k p l e R s m args below meth c G B mc ms C ls H locs cells slots hl hw hS hn)
theorem wp_lrem {S : SH} {M : MD} {d cb sb : Nat} {Q : Option Value → AH → Prop} {pc : Nat} {L st : List Value} {h : AH} {x y : Int64} (hd : decode M.2.1 pc = .ok (.lrem, 1)) (hne : ¬ y = 0) (k : WP S M d cb sb Q (pc + 1) L (.long (x - x / y * y) :: st) h) : WP S M d cb sb Q pc L (.long y :: .long x :: st) h := by
  intro p l e R s m args below meth c G B mc ms C ls H locs cells slots hl hw hS hn
  exact lv_lrem C.1 C.2.1 hd hne (k p l e R s m args below meth c G B mc ms C ls H locs cells slots hl hw hS hn)
theorem wp_lcmp {S : SH} {M : MD} {d cb sb : Nat} {Q : Option Value → AH → Prop} {pc : Nat} {L st : List Value} {h : AH} {x y : Int64} (hd : decode M.2.1 pc = .ok (.lcmp, 1))  (k : WP S M d cb sb Q (pc + 1) L (.int (lg_cmp x y) :: st) h) : WP S M d cb sb Q pc L (.long y :: .long x :: st) h := by
  intro p l e R s m args below meth c G B mc ms C ls H locs cells slots hl hw hS hn
  exact W.lcmp C.1 C.2.1 hd (k p l e R s m args below meth c G B mc ms C ls H locs cells slots hl hw hS hn)
theorem wp_dupI {S : SH} {M : MD} {d cb sb : Nat} {Q : Option Value → AH → Prop} {pc : Nat} {L st : List Value} {h : AH} {x : Int32} (hd : decode M.2.1 pc = .ok (.dup, 1))  (k : WP S M d cb sb Q (pc + 1) L (.int x :: .int x :: st) h) : WP S M d cb sb Q pc L (.int x :: st) h := by
  intro p l e R s m args below meth c G B mc ms C ls H locs cells slots hl hw hS hn
  exact lv_dup C.1 C.2.1 hd rfl (k p l e R s m args below meth c G B mc ms C ls H locs cells slots hl hw hS hn)
theorem wp_dupR {S : SH} {M : MD} {d cb sb : Nat} {Q : Option Value → AH → Prop} {pc : Nat} {L st : List Value} {h : AH} {x : Nat} (hd : decode M.2.1 pc = .ok (.dup, 1))  (k : WP S M d cb sb Q (pc + 1) L (.ref x :: .ref x :: st) h) : WP S M d cb sb Q pc L (.ref x :: st) h := by
  intro p l e R s m args below meth c G B mc ms C ls H locs cells slots hl hw hS hn
  exact lv_dup C.1 C.2.1 hd rfl (k p l e R s m args below meth c G B mc ms C ls H locs cells slots hl hw hS hn)
theorem wp_dup2 {S : SH} {M : MD} {d cb sb : Nat} {Q : Option Value → AH → Prop} {pc : Nat} {L st : List Value} {h : AH} {x : Int32} {y : Nat} (hd : decode M.2.1 pc = .ok (.dup2, 1))  (k : WP S M d cb sb Q (pc + 1) L (.int x :: .ref y :: .int x :: .ref y :: st) h) : WP S M d cb sb Q pc L (.int x :: .ref y :: st) h := by
  intro p l e R s m args below meth c G B mc ms C ls H locs cells slots hl hw hS hn
  exact lv_dup2_11 C.1 C.2.1 hd rfl rfl (k p l e R s m args below meth c G B mc ms C ls H locs cells slots hl hw hS hn)
theorem wp_popI {S : SH} {M : MD} {d cb sb : Nat} {Q : Option Value → AH → Prop} {pc : Nat} {L st : List Value} {h : AH} {x : Int32} (hd : decode M.2.1 pc = .ok (.pop, 1))  (k : WP S M d cb sb Q (pc + 1) L (st) h) : WP S M d cb sb Q pc L (.int x :: st) h := by
  intro p l e R s m args below meth c G B mc ms C ls H locs cells slots hl hw hS hn
  exact lv_pop C.1 C.2.1 hd rfl (k p l e R s m args below meth c G B mc ms C ls H locs cells slots hl hw hS hn)
theorem wp_istore_n {S : SH} {M : MD} {d cb sb : Nat} {Q : Option Value → AH → Prop} {pc : Nat} {L st : List Value} {h : AH} {k : Fin 4} {x : Int32} (hd : decode M.2.1 pc = .ok (.istore_n k, 1)) (hb : (k : Nat) < M.2.2.1) {L1 : List Value} (hL : st1 L (k : Nat) (.int x) = L1) (k : WP S M d cb sb Q (pc + 1) L1 st h) : WP S M d cb sb Q pc L (.int x :: st) h := by
  intro p l e R s m args below meth c G B mc ms C ls H locs cells slots hl hw hS hn
  exact lv_istore_n C.1 C.2.1 hd rfl hl hb rfl (fun ls1 h1 => k p l e R s m args below meth c G B mc ms C ls1 H locs cells slots (by rw [← hL]; exact LH_st1 h1) hw hS hn)
theorem wp_istore {S : SH} {M : MD} {d cb sb : Nat} {Q : Option Value → AH → Prop} {pc : Nat} {L st : List Value} {h : AH} {i : Nat} {x : Int32} (hd : decode M.2.1 pc = .ok (.istore i, 2)) (hb : i < M.2.2.1) {L1 : List Value} (hL : st1 L i (.int x) = L1) (k : WP S M d cb sb Q (pc + 2) L1 st h) : WP S M d cb sb Q pc L (.int x :: st) h := by
  intro p l e R s m args below meth c G B mc ms C ls H locs cells slots hl hw hS hn
  exact lv_istore C.1 C.2.1 hd  hl hb rfl (fun ls1 h1 => k p l e R s m args below meth c G B mc ms C ls1 H locs cells slots (by rw [← hL]; exact LH_st1 h1) hw hS hn)
theorem wp_lstore_n {S : SH} {M : MD} {d cb sb : Nat} {Q : Option Value → AH → Prop} {pc : Nat} {L st : List Value} {h : AH} {k : Fin 4} {x : Int64} (hd : decode M.2.1 pc = .ok (.lstore_n k, 1)) (hb : (k : Nat) + 1 < M.2.2.1) {L1 : List Value} (hL : st2 L (k : Nat) (.long x) = L1) (k : WP S M d cb sb Q (pc + 1) L1 st h) : WP S M d cb sb Q pc L (.long x :: st) h := by
  intro p l e R s m args below meth c G B mc ms C ls H locs cells slots hl hw hS hn
  exact lv_lstore_n C.1 C.2.1 hd rfl hl hb rfl (fun ls1 h1 => k p l e R s m args below meth c G B mc ms C ls1 H locs cells slots (by rw [← hL]; exact LH_st2 h1) hw hS hn)
theorem wp_lstore {S : SH} {M : MD} {d cb sb : Nat} {Q : Option Value → AH → Prop} {pc : Nat} {L st : List Value} {h : AH} {i : Nat} {x : Int64} (hd : decode M.2.1 pc = .ok (.lstore i, 2)) (hb : i + 1 < M.2.2.1) {L1 : List Value} (hL : st2 L i (.long x) = L1) (k : WP S M d cb sb Q (pc + 2) L1 st h) : WP S M d cb sb Q pc L (.long x :: st) h := by
  intro p l e R s m args below meth c G B mc ms C ls H locs cells slots hl hw hS hn
  exact lv_lstore C.1 C.2.1 hd  hl hb rfl (fun ls1 h1 => k p l e R s m args below meth c G B mc ms C ls1 H locs cells slots (by rw [← hL]; exact LH_st2 h1) hw hS hn)
theorem wp_astore_n {S : SH} {M : MD} {d cb sb : Nat} {Q : Option Value → AH → Prop} {pc : Nat} {L st : List Value} {h : AH} {k : Fin 4} {x : Nat} (hd : decode M.2.1 pc = .ok (.astore_n k, 1)) (hb : (k : Nat) < M.2.2.1) {L1 : List Value} (hL : st1 L (k : Nat) (.ref x) = L1) (k : WP S M d cb sb Q (pc + 1) L1 st h) : WP S M d cb sb Q pc L (.ref x :: st) h := by
  intro p l e R s m args below meth c G B mc ms C ls H locs cells slots hl hw hS hn
  exact lv_astore_n C.1 C.2.1 hd rfl hl hb rfl (fun ls1 h1 => k p l e R s m args below meth c G B mc ms C ls1 H locs cells slots (by rw [← hL]; exact LH_st1 h1) hw hS hn)
theorem wp_astore {S : SH} {M : MD} {d cb sb : Nat} {Q : Option Value → AH → Prop} {pc : Nat} {L st : List Value} {h : AH} {i : Nat} {x : Nat} (hd : decode M.2.1 pc = .ok (.astore i, 2)) (hb : i < M.2.2.1) {L1 : List Value} (hL : st1 L i (.ref x) = L1) (k : WP S M d cb sb Q (pc + 2) L1 st h) : WP S M d cb sb Q pc L (.ref x :: st) h := by
  intro p l e R s m args below meth c G B mc ms C ls H locs cells slots hl hw hS hn
  exact lv_astore C.1 C.2.1 hd  hl hb rfl (fun ls1 h1 => k p l e R s m args below meth c G B mc ms C ls1 H locs cells slots (by rw [← hL]; exact LH_st1 h1) hw hS hn)
theorem wp_iinc {S : SH} {M : MD} {d cb sb : Nat} {Q : Option Value → AH → Prop} {pc : Nat} {L st : List Value} {h : AH} {i : Nat} {n : Int} {x v : Int32} (hd : decode M.2.1 pc = .ok (.iinc i n, 3)) (hv : L[i]? = some (.int x)) (hx : Int32.ofInt n = v) (hb : i < M.2.2.1) {L1 : List Value} (hL : st1 L i (.int (x + v)) = L1) (k : WP S M d cb sb Q (pc + 3) L1 st h) : WP S M d cb sb Q pc L st h := by
  intro p l e R s m args below meth c G B mc ms C ls H locs cells slots hl hw hS hn
  obtain ⟨j, hj⟩ := List.getElem?_of_mem (asc_mem (B := B) (q := (i, .int x)).mpr ⟨_, hv, rfl, rfl⟩)
  exact lv_iinc C.1 C.2.1 hd hl hj (by rw [hx]) hb rfl (fun ls1 h1 => k p l e R s m args below meth c G B mc ms C ls1 H locs cells slots (by rw [← hL]; exact LH_st1 h1) hw hS hn)
theorem wp_if_eq {S : SH} {M : MD} {d cb sb : Nat} {Q : Option Value → AH → Prop} {pc : Nat} {L st : List Value} {h : AH} {x : Int32} {off : Int} (tgt : Nat) (hd : decode M.2.1 pc = .ok (.ifCond .eq off, 3)) (ht : (pc : Int) + off = (tgt : Int)) (kt : x = 0 → WP S M d cb sb Q tgt L st h) (kf : ¬ x = 0 → WP S M d cb sb Q (pc + 3) L st h) : WP S M d cb sb Q pc L (.int x :: st) h := by
  intro p l e R s m args below meth c G B mc ms C ls H locs cells slots hl hw hS hn
  exact lv_if_eq C.1 C.2.1 hd ht (fun q => kt q p l e R s m args below meth c G B mc ms C ls H locs cells slots hl hw hS hn) (fun q => kf q p l e R s m args below meth c G B mc ms C ls H locs cells slots hl hw hS hn)
theorem wp_icmp_eq {S : SH} {M : MD} {d cb sb : Nat} {Q : Option Value → AH → Prop} {pc : Nat} {L st : List Value} {h : AH} {x y : Int32} {off : Int} (tgt : Nat) (hd : decode M.2.1 pc = .ok (.if_icmp .eq off, 3)) (ht : (pc : Int) + off = (tgt : Int)) (kt : x = y → WP S M d cb sb Q tgt L st h) (kf : ¬ x = y → WP S M d cb sb Q (pc + 3) L st h) : WP S M d cb sb Q pc L (.int y :: .int x :: st) h := by
  intro p l e R s m args below meth c G B mc ms C ls H locs cells slots hl hw hS hn
  exact lv_icmp_eq C.1 C.2.1 hd ht (fun q => kt q p l e R s m args below meth c G B mc ms C ls H locs cells slots hl hw hS hn) (fun q => kf q p l e R s m args below meth c G B mc ms C ls H locs cells slots hl hw hS hn)
theorem wp_if_ne {S : SH} {M : MD} {d cb sb : Nat} {Q : Option Value → AH → Prop} {pc : Nat} {L st : List Value} {h : AH} {x : Int32} {off : Int} (tgt : Nat) (hd : decode M.2.1 pc = .ok (.ifCond .ne off, 3)) (ht : (pc : Int) + off = (tgt : Int)) (kt : ¬ x = 0 → WP S M d cb sb Q tgt L st h) (kf : x = 0 → WP S M d cb sb Q (pc + 3) L st h) : WP S M d cb sb Q pc L (.int x :: st) h := by
  intro p l e R s m args below meth c G B mc ms C ls H locs cells slots hl hw hS hn
  exact lv_if_ne C.1 C.2.1 hd ht (fun q => kt q p l e R s m args below meth c G B mc ms C ls H locs cells slots hl hw hS hn) (fun q => kf q p l e R s m args below meth c G B mc ms C ls H locs cells slots hl hw hS hn)
theorem wp_icmp_ne {S : SH} {M : MD} {d cb sb : Nat} {Q : Option Value → AH → Prop} {pc : Nat} {L st : List Value} {h : AH} {x y : Int32} {off : Int} (tgt : Nat) (hd : decode M.2.1 pc = .ok (.if_icmp .ne off, 3)) (ht : (pc : Int) + off = (tgt : Int)) (kt : ¬ x = y → WP S M d cb sb Q tgt L st h) (kf : x = y → WP S M d cb sb Q (pc + 3) L st h) : WP S M d cb sb Q pc L (.int y :: .int x :: st) h := by
  intro p l e R s m args below meth c G B mc ms C ls H locs cells slots hl hw hS hn
  exact lv_icmp_ne C.1 C.2.1 hd ht (fun q => kt q p l e R s m args below meth c G B mc ms C ls H locs cells slots hl hw hS hn) (fun q => kf q p l e R s m args below meth c G B mc ms C ls H locs cells slots hl hw hS hn)
theorem wp_if_lt {S : SH} {M : MD} {d cb sb : Nat} {Q : Option Value → AH → Prop} {pc : Nat} {L st : List Value} {h : AH} {x : Int32} {off : Int} (tgt : Nat) (hd : decode M.2.1 pc = .ok (.ifCond .lt off, 3)) (ht : (pc : Int) + off = (tgt : Int)) (kt : x < 0 → WP S M d cb sb Q tgt L st h) (kf : ¬ x < 0 → WP S M d cb sb Q (pc + 3) L st h) : WP S M d cb sb Q pc L (.int x :: st) h := by
  intro p l e R s m args below meth c G B mc ms C ls H locs cells slots hl hw hS hn
  exact lv_if_lt C.1 C.2.1 hd ht (fun q => kt q p l e R s m args below meth c G B mc ms C ls H locs cells slots hl hw hS hn) (fun q => kf q p l e R s m args below meth c G B mc ms C ls H locs cells slots hl hw hS hn)
theorem wp_icmp_lt {S : SH} {M : MD} {d cb sb : Nat} {Q : Option Value → AH → Prop} {pc : Nat} {L st : List Value} {h : AH} {x y : Int32} {off : Int} (tgt : Nat) (hd : decode M.2.1 pc = .ok (.if_icmp .lt off, 3)) (ht : (pc : Int) + off = (tgt : Int)) (kt : x < y → WP S M d cb sb Q tgt L st h) (kf : ¬ x < y → WP S M d cb sb Q (pc + 3) L st h) : WP S M d cb sb Q pc L (.int y :: .int x :: st) h := by
  intro p l e R s m args below meth c G B mc ms C ls H locs cells slots hl hw hS hn
  exact lv_icmp_lt C.1 C.2.1 hd ht (fun q => kt q p l e R s m args below meth c G B mc ms C ls H locs cells slots hl hw hS hn) (fun q => kf q p l e R s m args below meth c G B mc ms C ls H locs cells slots hl hw hS hn)
theorem wp_if_ge {S : SH} {M : MD} {d cb sb : Nat} {Q : Option Value → AH → Prop} {pc : Nat} {L st : List Value} {h : AH} {x : Int32} {off : Int} (tgt : Nat) (hd : decode M.2.1 pc = .ok (.ifCond .ge off, 3)) (ht : (pc : Int) + off = (tgt : Int)) (kt : 0 ≤ x → WP S M d cb sb Q tgt L st h) (kf : ¬ 0 ≤ x → WP S M d cb sb Q (pc + 3) L st h) : WP S M d cb sb Q pc L (.int x :: st) h := by
  intro p l e R s m args below meth c G B mc ms C ls H locs cells slots hl hw hS hn
  exact lv_if_ge C.1 C.2.1 hd ht (fun q => kt q p l e R s m args below meth c G B mc ms C ls H locs cells slots hl hw hS hn) (fun q => kf q p l e R s m args below meth c G B mc ms C ls H locs cells slots hl hw hS hn)
theorem wp_icmp_ge {S : SH} {M : MD} {d cb sb : Nat} {Q : Option Value → AH → Prop} {pc : Nat} {L st : List Value} {h : AH} {x y : Int32} {off : Int} (tgt : Nat) (hd : decode M.2.1 pc = .ok (.if_icmp .ge off, 3)) (ht : (pc : Int) + off = (tgt : Int)) (kt : y ≤ x → WP S M d cb sb Q tgt L st h) (kf : ¬ y ≤ x → WP S M d cb sb Q (pc + 3) L st h) : WP S M d cb sb Q pc L (.int y :: .int x :: st) h := by
  intro p l e R s m args below meth c G B mc ms C ls H locs cells slots hl hw hS hn
  exact lv_icmp_ge C.1 C.2.1 hd ht (fun q => kt q p l e R s m args below meth c G B mc ms C ls H locs cells slots hl hw hS hn) (fun q => kf q p l e R s m args below meth c G B mc ms C ls H locs cells slots hl hw hS hn)
theorem wp_if_gt {S : SH} {M : MD} {d cb sb : Nat} {Q : Option Value → AH → Prop} {pc : Nat} {L st : List Value} {h : AH} {x : Int32} {off : Int} (tgt : Nat) (hd : decode M.2.1 pc = .ok (.ifCond .gt off, 3)) (ht : (pc : Int) + off = (tgt : Int)) (kt : 0 < x → WP S M d cb sb Q tgt L st h) (kf : ¬ 0 < x → WP S M d cb sb Q (pc + 3) L st h) : WP S M d cb sb Q pc L (.int x :: st) h := by
  intro p l e R s m args below meth c G B mc ms C ls H locs cells slots hl hw hS hn
  exact lv_if_gt C.1 C.2.1 hd ht (fun q => kt q p l e R s m args below meth c G B mc ms C ls H locs cells slots hl hw hS hn) (fun q => kf q p l e R s m args below meth c G B mc ms C ls H locs cells slots hl hw hS hn)
theorem wp_icmp_gt {S : SH} {M : MD} {d cb sb : Nat} {Q : Option Value → AH → Prop} {pc : Nat} {L st : List Value} {h : AH} {x y : Int32} {off : Int} (tgt : Nat) (hd : decode M.2.1 pc = .ok (.if_icmp .gt off, 3)) (ht : (pc : Int) + off = (tgt : Int)) (kt : y < x → WP S M d cb sb Q tgt L st h) (kf : ¬ y < x → WP S M d cb sb Q (pc + 3) L st h) : WP S M d cb sb Q pc L (.int y :: .int x :: st) h := by
  intro p l e R s m args below meth c G B mc ms C ls H locs cells slots hl hw hS hn
  exact lv_icmp_gt C.1 C.2.1 hd ht (fun q => kt q p l e R s m args below meth c G B mc ms C ls H locs cells slots hl hw hS hn) (fun q => kf q p l e R s m args below meth c G B mc ms C ls H locs cells slots hl hw hS hn)
theorem wp_if_le {S : SH} {M : MD} {d cb sb : Nat} {Q : Option Value → AH → Prop} {pc : Nat} {L st : List Value} {h : AH} {x : Int32} {off : Int} (tgt : Nat) (hd : decode M.2.1 pc = .ok (.ifCond .le off, 3)) (ht : (pc : Int) + off = (tgt : Int)) (kt : x ≤ 0 → WP S M d cb sb Q tgt L st h) (kf : ¬ x ≤ 0 → WP S M d cb sb Q (pc + 3) L st h) : WP S M d cb sb Q pc L (.int x :: st) h := by
  intro p l e R s m args below meth c G B mc ms C ls H locs cells slots hl hw hS hn
  exact lv_if_le C.1 C.2.1 hd ht (fun q => kt q p l e R s m args below meth c G B mc ms C ls H locs cells slots hl hw hS hn) (fun q => kf q p l e R s m args below meth c G B mc ms C ls H locs cells slots hl hw hS hn)
theorem wp_icmp_le {S : SH} {M : MD} {d cb sb : Nat} {Q : Option Value → AH → Prop} {pc : Nat} {L st : List Value} {h : AH} {x y : Int32} {off : Int} (tgt : Nat) (hd : decode M.2.1 pc = .ok (.if_icmp .le off, 3)) (ht : (pc : Int) + off = (tgt : Int)) (kt : x ≤ y → WP S M d cb sb Q tgt L st h) (kf : ¬ x ≤ y → WP S M d cb sb Q (pc + 3) L st h) : WP S M d cb sb Q pc L (.int y :: .int x :: st) h := by
  intro p l e R s m args below meth c G B mc ms C ls H locs cells slots hl hw hS hn
  exact lv_icmp_le C.1 C.2.1 hd ht (fun q => kt q p l e R s m args below meth c G B mc ms C ls H locs cells slots hl hw hS hn) (fun q => kf q p l e R s m args below meth c G B mc ms C ls H locs cells slots hl hw hS hn)
theorem wp_goto {S : SH} {M : MD} {d cb sb : Nat} {Q : Option Value → AH → Prop} {pc : Nat} {L st : List Value} {h : AH} {off : Int} (tgt : Nat) (hd : decode M.2.1 pc = .ok (.goto off, 3)) (ht : (pc : Int) + off = (tgt : Int)) (k : WP S M d cb sb Q tgt L st h) : WP S M d cb sb Q pc L st h := by
  intro p l e R s m args below meth c G B mc ms C ls H locs cells slots hl hw hS hn
  exact lv_goto C.1 C.2.1 hd ht (k p l e R s m args below meth c G B mc ms C ls H locs cells slots hl hw hS hn)
theorem wp_ifnonnull {S : SH} {M : MD} {d cb sb : Nat} {Q : Option Value → AH → Prop} {pc : Nat} {L st : List Value} {h : AH} {x : Nat} {off : Int} (tgt : Nat) (hd : decode M.2.1 pc = .ok (.ifnonnull off, 3)) (ht : (pc : Int) + off = (tgt : Int)) (k : WP S M d cb sb Q tgt L st h) : WP S M d cb sb Q pc L (.ref x :: st) h := by
  intro p l e R s m args below meth c G B mc ms C ls H locs cells slots hl hw hS hn
  exact lv_ifnonnull C.1 C.2.1 hd ht (k p l e R s m args below meth c G B mc ms C ls H locs cells slots hl hw hS hn)
theorem wp_ifnonnullN {S : SH} {M : MD} {d cb sb : Nat} {Q : Option Value → AH → Prop} {pc : Nat} {L st : List Value} {h : AH} {off : Int} (hd : decode M.2.1 pc = .ok (.ifnonnull off, 3)) (k : WP S M d cb sb Q (pc + 3) L st h) : WP S M d cb sb Q pc L (.null :: st) h := by
  intro p l e R s m args below meth c G B mc ms C ls H locs cells slots hl hw hS hn
  exact lv_ifnonnullN C.1 C.2.1 hd (k p l e R s m args below meth c G B mc ms C ls H locs cells slots hl hw hS hn)
theorem wp_tabIn {S : SH} {M : MD} {d cb sb : Nat} {Q : Option Value → AH → Prop} {pc : Nat} {L st : List Value} {h : AH} {dflt lo hi : Int} {offs : Array Int} {len : Nat} {x : Int32} {off : Int} (tgt : Nat) (hd : decode M.2.1 pc = .ok (.tableswitch dflt lo hi offs, len)) (h1 : ¬ x.toInt < lo) (h2 : ¬ hi < x.toInt) (ho : offs[(x.toInt - lo).toNat]? = some off) (ht : (pc : Int) + off = (tgt : Int)) (k : WP S M d cb sb Q tgt L st h) : WP S M d cb sb Q pc L (.int x :: st) h := by
  intro p l e R s m args below meth c G B mc ms C ls H locs cells slots hl hw hS hn
  exact lv_tableIn C.1 C.2.1 hd h1 h2 ho ht (k p l e R s m args below meth c G B mc ms C ls H locs cells slots hl hw hS hn)
theorem wp_tabOut {S : SH} {M : MD} {d cb sb : Nat} {Q : Option Value → AH → Prop} {pc : Nat} {L st : List Value} {h : AH} {dflt lo hi : Int} {offs : Array Int} {len : Nat} {x : Int32} (tgt : Nat) (hd : decode M.2.1 pc = .ok (.tableswitch dflt lo hi offs, len)) (h1 : x.toInt < lo ∨ hi < x.toInt) (ht : (pc : Int) + dflt = (tgt : Int)) (k : WP S M d cb sb Q tgt L st h) : WP S M d cb sb Q pc L (.int x :: st) h := by
  intro p l e R s m args below meth c G B mc ms C ls H locs cells slots hl hw hS hn
  exact lv_tableOut C.1 C.2.1 hd h1 ht (k p l e R s m args below meth c G B mc ms C ls H locs cells slots hl hw hS hn)
theorem wp_ldc {S : SH} {M : MD} {d cb sb : Nat} {Q : Option Value → AH → Prop} {pc : Nat} {L st : List Value} {h : AH} {index : Nat} {v : Int32} (hc : Cond.constant M.1.cls index v ∈ TT) (hd : decode M.2.1 pc = .ok (.ldc index, 2)) (k : WP S M d cb sb Q (pc + 2) L (.int v :: st) h) : WP S M d cb sb Q pc L st h := by
  intro p l e R s m args below meth c G B mc ms C ls H locs cells slots hl hw hS hn
  exact lv_ldc C.1 C.2.1 C.2.2.2.2.2.1 (C.2.2.2.2.1 _ hc) hd (k p l e R s m args below meth c G B mc ms C ls H locs cells slots hl hw hS hn)
theorem wp_ldcw {S : SH} {M : MD} {d cb sb : Nat} {Q : Option Value → AH → Prop} {pc : Nat} {L st : List Value} {h : AH} {index : Nat} {v : Int32} (hc : Cond.constant M.1.cls index v ∈ TT) (hd : decode M.2.1 pc = .ok (.ldc_w index, 3)) (k : WP S M d cb sb Q (pc + 3) L (.int v :: st) h) : WP S M d cb sb Q pc L st h := by
  intro p l e R s m args below meth c G B mc ms C ls H locs cells slots hl hw hS hn
  exact lv_ldcw C.1 C.2.1 C.2.2.2.2.2.1 (C.2.2.2.2.1 _ hc) hd (k p l e R s m args below meth c G B mc ms C ls H locs cells slots hl hw hS hn)
theorem wp_ldc2 {S : SH} {M : MD} {d cb sb : Nat} {Q : Option Value → AH → Prop} {pc : Nat} {L st : List Value} {h : AH} {index : Nat} {v : Int64} (hc : Cond.constantLong M.1.cls index v ∈ TT) (hd : decode M.2.1 pc = .ok (.ldc2_w index, 3)) (k : WP S M d cb sb Q (pc + 3) L (.long v :: st) h) : WP S M d cb sb Q pc L st h := by
  intro p l e R s m args below meth c G B mc ms C ls H locs cells slots hl hw hS hn
  exact lv_ldc2 C.1 C.2.1 C.2.2.2.2.2.1 (C.2.2.2.2.1 _ hc) hd (k p l e R s m args below meth c G B mc ms C ls H locs cells slots hl hw hS hn)
end
section
theorem vaP1 {D : va_G} {cl : List vw_C} {x : Nat × va_E} {H : Heap} (h : va_at D cl x H) : va_P D cl [x] H := fun k q hk => by
  cases k with
  | zero => cases hk; exact h
  | succ k => simp at hk
theorem vcell_congr {S : SH} {G : GG} {B : BB} {h h2 : AH} {q : Nat} (e1 : h2.2.1 q = h.2.1 q) (e2 : h2.2.2.1 q = h.2.2.1 q) (e3 : h2.2.2.2 q = h.2.2.2 q) (kk : Nat × Nat) : vcell S G B h2 q kk = vcell S G B h q kk := by
  have hr : RF S h2 q = RF S h q := by funext j; unfold RF; rw [e3]
  have ha : ∀ k ty, avl S h2 q k ty = avl S h q k ty := fun k ty => by unfold avl; rw [e1, e2, hr]
  unfold vcell
  rw [e1, e2, hr]
  simp only [ha]
theorem KD_eq {S : SH} {h h2 : AH} (e : h2.1 = h.1) (p : Nat) : KD S h2 p = KD S h p := by unfold KD; rw [e]
/-- a cell that was written -/
theorem Wd.upd {S : SH} {G : GG} {B : BB} {h h2 : AH} {H H1 : Heap} {p : Nat} {k0 : Nat × Nat} (hw : Wd S G B h H) (e : h2.1 = h.1) (hp : KD S h p = some k0) (hz : H1.size = H.size) (hq : ∀ q, q ≠ B.1 + p → H1[q]? = H[q]?) (hc : va_at G.1 vwCl (B.1 + p, vcell S G B h2 p k0) H1) (ho : ∀ q kk, q ≠ p → vcell S G B h2 q kk = vcell S G B h q kk) : Wd S G B h2 H1 := by
  refine ⟨by rw [hz, e]; exact hw.1, fun q kk hk => ?_⟩
  rw [KD_eq e] at hk
  by_cases hqp : q = p
  · subst hqp
    rw [hp] at hk
    cases hk
    exact hc
  · rw [ho q kk hqp]
    exact (hw.2 q kk hk).kept (hq _ (by show B.1 + q ≠ B.1 + p; omega))
/-- facts of a class by its number -/
def KF (ci : Nat) : Prop := ∃ (C : String) (T : u_T) (N : Nat), vwCl[ci]? = some (C, T, N) ∧ cN ci = N ∧ (∀ w ∈ u_ws C T N, w ∈ TT) ∧ (∀ j, j < N → parseFieldDescriptor (T j).2.2.1 = some (cTy ci j)) ∧ ∀ a, a < N → ∀ b, b < N → a ≠ b → (T a).2.1 ≠ (T b).2.1
/-- a field as a class's pool names it: class ci's field k -/
def FL (own : String) (index ci k : Nat) (fin : Bool) : Prop := ∃ (C : String) (T : u_T) (N : Nat), vwCl[ci]? = some (C, T, N) ∧ k < N ∧ Cond.fieldLink own index (T k).1 (T k).2.1 (T k).2.2.1 ∈ TT ∧ (T k).2.2.2 = fin ∧ KF ci
def fs_ (S : SH) (B : BB) (h : AH) (p ci : Nat) : List Value := (List.range (cN ci)).map (fun k => rn B (avl S h p k (cTy ci k)))
theorem fs_at {S : SH} {B : BB} {h : AH} {p ci k : Nat} (hk : k < cN ci) : (fs_ S B h p ci)[k]? = some (rn B (avl S h p k (cTy ci k))) := by
  unfold fs_
  simp [hk]
theorem FL.kf {own : String} {index ci k : Nat} {fin : Bool} (h : FL own index ci k fin) : ∃ (C : String) (T : u_T) (N : Nat), vwCl[ci]? = some (C, T, N) ∧ k < N ∧ Cond.fieldLink own index (T k).1 (T k).2.1 (T k).2.2.1 ∈ TT ∧ (T k).2.2.2 = fin ∧ cN ci = N ∧ (∀ w ∈ u_ws C T N, w ∈ TT) ∧ (∀ j, j < N → parseFieldDescriptor (T j).2.2.1 = some (cTy ci j)) ∧ ∀ a, a < N → ∀ b, b < N → a ≠ b → (T a).2.1 ≠ (T b).2.1 := by
  obtain ⟨C, T, N, h1, h2, h3, h4, C', T', N', g1, g2, g3, g4, g5⟩ := h
  have e := g1.symm.trans h1
  cases e
  exact ⟨C, T, N, h1, h2, h3, h4, g2, g3, g4, g5⟩
theorem wp_get {S : SH} {M : MD} {d cb sb : Nat} {Q : Option Value → AH → Prop} {pc : Nat} {L st : List Value} {h : AH} {index ci k p0 : Nat} {fin : Bool} {v : Value} (hF : FL M.1.cls index ci k fin) (hk : KD S h p0 = some (0, ci)) (hv : avl S h p0 k (cTy ci k) = v) (hd : decode M.2.1 pc = .ok (.getfield index, 3)) (kn : WP S M d cb sb Q (pc + 3) L (v :: st) h) : WP S M d cb sb Q pc L (.ref p0 :: st) h := by
  intro p l e R s m args below meth c G B mc ms C ls H locs cells slots hl hw hS hn
  obtain ⟨Cx, Cb, Cr, Cl, Ct, Co, Ck, Cn, Cf, Cm, CK, Cs, CB, CE⟩ := C
  have C : CX M d p R s m args meth c G B mc ms := ⟨Cx, Cb, Cr, Cl, Ct, Co, Ck, Cn, Cf, Cm, CK, Cs, CB, CE⟩
  obtain ⟨C', T, N, h1, h2, h3, h4, h5, h6, h7, h8⟩ := hF.kf
  have hP : va_at G.1 vwCl (B.1 + p0, .inr (ci, fs_ S B h p0 ci)) H := hw.2 p0 _ hk
  refine va_get (v := rn B v) Cx Cb Ct h6 Co CK (vaP1 hP) 0 rfl h1 k h2 (Ct _ h3) (fun _ z => z) ?_ hd (kn p l e R s m args below meth c G B mc ms C ls H locs cells slots hl hw hS hn)
  rw [fs_at (by rw [h5]; exact h2), hv]
/-- a field that is written: the machine's part -/
theorem xr_put {S : SH} {M : MD} {d : Nat} {p : Program} {l : Launch} {e : Env} {R : Room} {s : State} {m : MethodId} {args : Array Value} {below : List Frame} {meth : Method} {c : Code} {G : GG} {B : BB} {mc ms : Nat} {H : Heap} {locs : List Loc} {cells slots : Nat} {Z : State → Prop} {pc : Nat} {ls : Array Slot} {rest : List Value} {h : AH} (C : CX M d p R s m args meth c G B mc ms) (hS : va_S (fun q => B.1 ≤ q) s.heap H locs) (hw : Wd S G B h H)
    {index ci k p0 : Nat} {fin : Bool} {v : Value} (hF : FL M.1.cls index ci k fin) (hfin : fin = false ∨ M.1.name = "<init>" ∧ (∀ C T N, vwCl[ci]? = some (C, T, N) → (T k).1 = M.1.cls)) (hk : KD S h p0 = some (0, ci)) (hn : narrow (cTy ci k) v = v) (hfit : fits (cTy ci k) v = true) (hd : decode M.2.1 pc = .ok (.putfield index, 3))
    (kk : ∀ (H1 : Heap) (locs1 : List Loc), H1.size = H.size → (∀ q, q ≠ B.1 + p0 → H1[q]? = H[q]?) → va_at G.1 vwCl (B.1 + p0, .inr (ci, (fs_ S B h p0 ci).set k v)) H1 → va_S (fun q => B.1 ≤ q) s.heap H1 locs1 → W p l e R s m args below meth c H1 locs1 cells slots Z (F0 m (pc + 3) ls rest)) : W p l e R s m args below meth c H locs cells slots Z (F0 m pc ls (v :: .ref (B.1 + p0) :: rest)) := by
  obtain ⟨Cx, Cb, Cr, Cl, Ct, Co, Ck, Cn, Cf, Cm, CK, Cs, CB, CE⟩ := C
  obtain ⟨C', T, N, h1, h2, h3, h4, h5, h6, h7, h8⟩ := hF.kf
  have hl : k < (fs_ S B h p0 ci).length := by unfold fs_; simp; rw [h5]; exact h2
  obtain ⟨r, g1, cell, q1, q2, q3, q4⟩ : va_at G.1 vwCl (B.1 + p0, .inr (ci, fs_ S B h p0 ci)) H := hw.2 p0 _ hk
  cases g1.symm.trans h1
  have hap := va_apart (own := M.1.cls) Ct h6 (cTy ci) h7 h8 CK h1
  obtain ⟨f1, f2, kC, f3, f4⟩ := CK.1 ci _ h1
  obtain ⟨cf, kf, fi, fd, hi, hsl⟩ := f1 k h2
  have hst := (u_facts f2 f3 (u_lays Ct h6 h2) hi).1
  have fin1 : ∀ (H1 : Heap), H1[B.1 + p0]? = some (cell.setSlot (G.1.2 ci k) v) → va_at G.1 vwCl (B.1 + p0, .inr (ci, (fs_ S B h p0 ci).set k v)) H1 := fun H1 z => ⟨_, h1, t_OB.to (V := updV (vp_V (fs_ S B h p0 ci)) k v) ⟨_, z, q2, q3, t_set q4 hap h2 v⟩ (fun j _ => vp_updV_set hl v j)⟩
  have hlay := Ct _ (h6 _ (u_in_lay h2))
  unfold u_lay at hlay
  rw [h4] at hlay
  cases fin with
  | false =>
    rw [if_neg (by decide)] at hlay
    refine W.putK Cx Cb (f := fd) ⟨Co, Ct _ h3, ⟨_, _, _, hi⟩, hst⟩ (by rw [q2]; exact u_store f2 f3 f4 hlay hi (h7 k h2) hn hfit) q1 q3 (by rw [hsl]; exact k2_hasslot (q4 k h2)) rfl rfl hd fun H1 e1 e2 e3 => ?_
    rw [hsl] at e1 ⊢
    exact kk H1 _ e2 e3 (fin1 H1 e1) (hS.put e2 e3 (Nat.le_add_right _ _))
  | true =>
    rw [if_pos rfl] at hlay
    obtain ⟨hin, hdecl⟩ := hfin.resolve_left (by decide)
    have hcf : m.cls = cf := by
      obtain ⟨_, _, c', _, _, _, -, -, hf', -, -, -, hown2, -⟩ := Cond.laysFinal_spec hlay
      have e1 : c' = cf := by have := hi.symm.trans hf'; simp at this; exact this.1.symm
      rw [hdecl _ _ _ h1] at hown2
      rw [← e1]
      exact Option.some.inj (Co.symm.trans hown2)
    refine W.putFinK Cx Cb Co (Ct _ h3) hi hst hcf (Cn.trans hin) (by rw [q2]; exact u_fits f2 f3 f4 (Or.inr hlay) hi (h7 k h2) hn hfit) q1 q3 (by rw [hsl]; exact k2_hasslot (q4 k h2)) rfl rfl hd fun H1 e1 e2 e3 => ?_
    rw [hsl] at e1 ⊢
    exact kk H1 _ e2 e3 (fin1 H1 e1) (hS.put e2 e3 (Nat.le_add_right _ _))
theorem fs_set {S : SH} {B : BB} {h h2 : AH} {p ci k : Nat} {v : Value} (hk : k < cN ci) (e0 : rn B (avl S h2 p k (cTy ci k)) = v) (e1 : ∀ j, j ≠ k → avl S h2 p j (cTy ci j) = avl S h p j (cTy ci j)) : fs_ S B h2 p ci = (fs_ S B h p ci).set k v := by
  apply List.ext_getElem?
  intro j
  rw [List.getElem?_set]
  by_cases hj : k = j
  · subst hj
    rw [if_pos rfl, fs_at hk, e0, if_pos (by unfold fs_; simpa using hk)]
  · rw [if_neg hj]
    by_cases hl : j < cN ci
    · rw [fs_at hl, fs_at hl, e1 j (Ne.symm hj)]
    · unfold fs_
      simp [hl]
theorem wp_putI {S : SH} {M : MD} {d cb sb : Nat} {Q : Option Value → AH → Prop} {pc : Nat} {L st : List Value} {h : AH} {index ci k p0 : Nat} {fin : Bool} {x : Int32} (hF : FL M.1.cls index ci k fin) (hfin : fin = false ∨ M.1.name = "<init>" ∧ (∀ C T N, vwCl[ci]? = some (C, T, N) → (T k).1 = M.1.cls)) (hk : KD S h p0 = some (0, ci)) (hty : cTy ci k = .int ∨ cTy ci k = .boolean ∧ (x = 0 ∨ x = 1)) (hd : decode M.2.1 pc = .ok (.putfield index, 3)) {h1 : AH} (hh : stI h p0 k x = h1) (kn : WP S M d cb sb Q (pc + 3) L st h1) : WP S M d cb sb Q pc L (.int x :: .ref p0 :: st) h := by
  intro p l e R s m args below meth c G B mc ms C ls H locs cells slots hl hw hS hn
  obtain ⟨Cx, Cb, Cr, Cl, Ct, Co, Ck, Cn, Cf, Cm, CK, Cs, CB, CE⟩ := C
  have C : CX M d p R s m args meth c G B mc ms := ⟨Cx, Cb, Cr, Cl, Ct, Co, Ck, Cn, Cf, Cm, CK, Cs, CB, CE⟩
  subst hh
  have hkl : k < cN ci := by obtain ⟨C', T, N, h1, h2, h3, h4, h5, -⟩ := hF.kf; rw [h5]; exact h2
  have a0 : ∀ q, avl S (stI h p0 k x) p0 k (cTy ci k) = q → narrow (cTy ci k) q = q ∧ fits (cTy ci k) q = true ∧ q = .int x := by
    intro q hq
    subst hq
    rcases hty with hty | ⟨hty, rfl | rfl⟩ <;> simp [hty, avl, stI, u2, narrow, fits]
  have a1 : ∀ j, j ≠ k → avl S (stI h p0 k x) p0 j (cTy ci j) = avl S h p0 j (cTy ci j) := by
    intro j hj
    unfold avl stI RF
    cases cTy ci j <;> simp [u2, hj]
  have a2 := a0 _ rfl
  rw [a2.2.2] at a2
  refine xr_put C hS hw hF hfin hk (v := .int x) a2.1 a2.2.1 hd fun H1 locs1 e1 e2 e3 e4 => ?_
  refine kn p l e R s m args below meth c G B mc ms C ls H1 locs1 cells slots hl (hw.upd (h2 := stI h p0 k x) rfl hk e1 e2 ?_ (fun q kk hq => vcell_congr ?_ ?_ ?_ kk)) e4 hn
  · show va_at G.1 vwCl (B.1 + p0, .inr (ci, fs_ S B (stI h p0 k x) p0 ci)) H1
    rw [fs_set (h := h) (v := .int x) hkl (by rw [(a0 _ rfl).2.2]; rfl) a1]
    exact e3
  all_goals first | rfl | exact u2_row _ _ _ hq
theorem wp_putJ {S : SH} {M : MD} {d cb sb : Nat} {Q : Option Value → AH → Prop} {pc : Nat} {L st : List Value} {h : AH} {index ci k p0 : Nat} {fin : Bool} {x : Int64} (hF : FL M.1.cls index ci k fin) (hfin : fin = false ∨ M.1.name = "<init>" ∧ (∀ C T N, vwCl[ci]? = some (C, T, N) → (T k).1 = M.1.cls)) (hk : KD S h p0 = some (0, ci)) (hty : cTy ci k = .long) (hd : decode M.2.1 pc = .ok (.putfield index, 3)) {h1 : AH} (hh : stJ h p0 k x = h1) (kn : WP S M d cb sb Q (pc + 3) L st h1) : WP S M d cb sb Q pc L (.long x :: .ref p0 :: st) h := by
  intro p l e R s m args below meth c G B mc ms C ls H locs cells slots hl hw hS hn
  obtain ⟨Cx, Cb, Cr, Cl, Ct, Co, Ck, Cn, Cf, Cm, CK, Cs, CB, CE⟩ := C
  have C : CX M d p R s m args meth c G B mc ms := ⟨Cx, Cb, Cr, Cl, Ct, Co, Ck, Cn, Cf, Cm, CK, Cs, CB, CE⟩
  subst hh
  have hkl : k < cN ci := by obtain ⟨C', T, N, h1, h2, h3, h4, h5, -⟩ := hF.kf; rw [h5]; exact h2
  have a0 : ∀ q, avl S (stJ h p0 k x) p0 k (cTy ci k) = q → narrow (cTy ci k) q = q ∧ fits (cTy ci k) q = true ∧ q = .long x := by
    intro q hq
    subst hq
    have hty := hty <;> simp [hty, avl, stJ, u2, narrow, fits]
  have a1 : ∀ j, j ≠ k → avl S (stJ h p0 k x) p0 j (cTy ci j) = avl S h p0 j (cTy ci j) := by
    intro j hj
    unfold avl stJ RF
    cases cTy ci j <;> simp [u2, hj]
  have a2 := a0 _ rfl
  rw [a2.2.2] at a2
  refine xr_put C hS hw hF hfin hk (v := .long x) a2.1 a2.2.1 hd fun H1 locs1 e1 e2 e3 e4 => ?_
  refine kn p l e R s m args below meth c G B mc ms C ls H1 locs1 cells slots hl (hw.upd (h2 := stJ h p0 k x) rfl hk e1 e2 ?_ (fun q kk hq => vcell_congr ?_ ?_ ?_ kk)) e4 hn
  · show va_at G.1 vwCl (B.1 + p0, .inr (ci, fs_ S B (stJ h p0 k x) p0 ci)) H1
    rw [fs_set (h := h) (v := .long x) hkl (by rw [(a0 _ rfl).2.2]; rfl) a1]
    exact e3
  all_goals first | rfl | exact u2_row _ _ _ hq
theorem wp_putR {S : SH} {M : MD} {d cb sb : Nat} {Q : Option Value → AH → Prop} {pc : Nat} {L st : List Value} {h : AH} {index ci k p0 : Nat} {fin : Bool} {x : Option Nat} (hF : FL M.1.cls index ci k fin) (hfin : fin = false ∨ M.1.name = "<init>" ∧ (∀ C T N, vwCl[ci]? = some (C, T, N) → (T k).1 = M.1.cls)) (hk : KD S h p0 = some (0, ci)) (hty : (∃ C, cTy ci k = .object C) ∨ ∃ t, cTy ci k = .array t) (hs : S.2 p0 = none) (hd : decode M.2.1 pc = .ok (.putfield index, 3)) {h1 : AH} (hh : stR h p0 k x = h1) {v : Value} (hv : rfv x = v) (kn : WP S M d cb sb Q (pc + 3) L st h1) : WP S M d cb sb Q pc L (v :: .ref p0 :: st) h := by
  intro p l e R s m args below meth c G B mc ms C ls H locs cells slots hl hw hS hn
  obtain ⟨Cx, Cb, Cr, Cl, Ct, Co, Ck, Cn, Cf, Cm, CK, Cs, CB, CE⟩ := C
  have C : CX M d p R s m args meth c G B mc ms := ⟨Cx, Cb, Cr, Cl, Ct, Co, Ck, Cn, Cf, Cm, CK, Cs, CB, CE⟩
  subst hh
  subst hv
  have hkl : k < cN ci := by obtain ⟨C', T, N, h1, h2, h3, h4, h5, -⟩ := hF.kf; rw [h5]; exact h2
  have a0 : avl S (stR h p0 k x) p0 k (cTy ci k) = rfv x := by
    rcases hty with ⟨_, hty⟩ | ⟨_, hty⟩ <;> simp [hty, avl, RF, hs, stR, u2]
  have a2 : narrow (cTy ci k) (rn B (rfv x)) = rn B (rfv x) ∧ fits (cTy ci k) (rn B (rfv x)) = true := by
    rcases hty with ⟨_, hty⟩ | ⟨_, hty⟩ <;> rw [hty] <;> cases x <;> exact ⟨rfl, rfl⟩
  have a1 : ∀ j, j ≠ k → avl S (stR h p0 k x) p0 j (cTy ci j) = avl S h p0 j (cTy ci j) := by
    intro j hj
    unfold avl stR RF
    rw [hs]
    cases cTy ci j <;> simp [u2, hj]
  refine xr_put C hS hw hF hfin hk (v := rn B (rfv x)) a2.1 a2.2 hd fun H1 locs1 e1 e2 e3 e4 => ?_
  refine kn p l e R s m args below meth c G B mc ms C ls H1 locs1 cells slots hl (hw.upd (h2 := stR h p0 k x) rfl hk e1 e2 ?_ (fun q kk hq => vcell_congr ?_ ?_ ?_ kk)) e4 hn
  · show va_at G.1 vwCl (B.1 + p0, .inr (ci, fs_ S B (stR h p0 k x) p0 ci)) H1
    rw [fs_set (h := h) (v := rn B (rfv x)) hkl (by rw [a0]) a1]
    exact e3
  all_goals first | rfl | exact u2_row _ _ _ hq
theorem wp_iald {S : SH} {M : MD} {d cb sb : Nat} {Q : Option Value → AH → Prop} {pc : Nat} {L st : List Value} {h : AH} {p0 n : Nat} {i : Int32} (hk : KD S h p0 = some (1, n)) (hin : vp_in i n) (hd : decode M.2.1 pc = .ok (.iaload, 1)) (kn : WP S M d cb sb Q (pc + 1) L (.int (h.2.1 p0 i.toNatClampNeg) :: st) h) : WP S M d cb sb Q pc L (.int i :: .ref p0 :: st) h := by
  intro p l e R s m args below meth c G B mc ms C ls H locs cells slots hl hw hS hn
  obtain ⟨Cx, Cb, Cr, Cl, Ct, Co, Ck, Cn, Cf, Cm, CK, Cs, CB, CE⟩ := C
  have C : CX M d p R s m args meth c G B mc ms := ⟨Cx, Cb, Cr, Cl, Ct, Co, Ck, Cn, Cf, Cm, CK, Cs, CB, CE⟩
  exact va_iald Cx Cb CK (vaP1 (hw.2 p0 _ hk)) 0 0 rfl rfl hin hd (kn p l e R s m args below meth c G B mc ms C ls H locs cells slots hl hw hS hn)
theorem wp_lald {S : SH} {M : MD} {d cb sb : Nat} {Q : Option Value → AH → Prop} {pc : Nat} {L st : List Value} {h : AH} {p0 n : Nat} {i : Int32} (hk : KD S h p0 = some (2, n)) (hin : vp_in i n) (hd : decode M.2.1 pc = .ok (.laload, 1)) (kn : WP S M d cb sb Q (pc + 1) L (.long (h.2.2.1 p0 i.toNatClampNeg) :: st) h) : WP S M d cb sb Q pc L (.int i :: .ref p0 :: st) h := by
  intro p l e R s m args below meth c G B mc ms C ls H locs cells slots hl hw hS hn
  obtain ⟨Cx, Cb, Cr, Cl, Ct, Co, Ck, Cn, Cf, Cm, CK, Cs, CB, CE⟩ := C
  have C : CX M d p R s m args meth c G B mc ms := ⟨Cx, Cb, Cr, Cl, Ct, Co, Ck, Cn, Cf, Cm, CK, Cs, CB, CE⟩
  exact va_lald Cx Cb CK (vaP1 (hw.2 p0 _ hk)) 0 1 rfl rfl hin hd (kn p l e R s m args below meth c G B mc ms C ls H locs cells slots hl hw hS hn)
theorem wp_zald {S : SH} {M : MD} {d cb sb : Nat} {Q : Option Value → AH → Prop} {pc : Nat} {L st : List Value} {h : AH} {p0 n : Nat} {i : Int32} (hk : KD S h p0 = some (3, n)) (hin : vp_in i n) (hd : decode M.2.1 pc = .ok (.baload, 1)) (kn : WP S M d cb sb Q (pc + 1) L (.int (h.2.1 p0 i.toNatClampNeg) :: st) h) : WP S M d cb sb Q pc L (.int i :: .ref p0 :: st) h := by
  intro p l e R s m args below meth c G B mc ms C ls H locs cells slots hl hw hS hn
  obtain ⟨Cx, Cb, Cr, Cl, Ct, Co, Ck, Cn, Cf, Cm, CK, Cs, CB, CE⟩ := C
  have C : CX M d p R s m args meth c G B mc ms := ⟨Cx, Cb, Cr, Cl, Ct, Co, Ck, Cn, Cf, Cm, CK, Cs, CB, CE⟩
  exact va_zald Cx Cb CK (vaP1 (hw.2 p0 _ hk)) 0 2 rfl rfl hin hd (kn p l e R s m args below meth c G B mc ms C ls H locs cells slots hl hw hS hn)
theorem wp_aaldA {S : SH} {M : MD} {d cb sb : Nat} {Q : Option Value → AH → Prop} {pc : Nat} {L st : List Value} {h : AH} {p0 n : Nat} {i : Int32} (hk : KD S h p0 = some (4, n)) (hin : vp_in i n) (hd : decode M.2.1 pc = .ok (.aaload, 1)) {v : Value} (hv : rfv (RF S h p0 i.toNatClampNeg) = v) (kn : WP S M d cb sb Q (pc + 1) L (v :: st) h) : WP S M d cb sb Q pc L (.int i :: .ref p0 :: st) h := by
  intro p l e R s m args below meth c G B mc ms C ls H locs cells slots hl hw hS hn
  obtain ⟨Cx, Cb, Cr, Cl, Ct, Co, Ck, Cn, Cf, Cm, CK, Cs, CB, CE⟩ := C
  have C : CX M d p R s m args meth c G B mc ms := ⟨Cx, Cb, Cr, Cl, Ct, Co, Ck, Cn, Cf, Cm, CK, Cs, CB, CE⟩
  subst hv
  refine va_aldq Cx Cb CK (vaP1 (hw.2 p0 _ hk)) 0 3 rfl rfl hin hd ?_
  rw [← rn_rfv]
  exact kn p l e R s m args below meth c G B mc ms C ls H locs cells slots hl hw hS hn
theorem wp_aaldB {S : SH} {M : MD} {d cb sb : Nat} {Q : Option Value → AH → Prop} {pc : Nat} {L st : List Value} {h : AH} {p0 n : Nat} {i : Int32} (hk : KD S h p0 = some (5, n)) (hin : vp_in i n) (hd : decode M.2.1 pc = .ok (.aaload, 1)) {v : Value} (hv : rfv (RF S h p0 i.toNatClampNeg) = v) (kn : WP S M d cb sb Q (pc + 1) L (v :: st) h) : WP S M d cb sb Q pc L (.int i :: .ref p0 :: st) h := by
  intro p l e R s m args below meth c G B mc ms C ls H locs cells slots hl hw hS hn
  obtain ⟨Cx, Cb, Cr, Cl, Ct, Co, Ck, Cn, Cf, Cm, CK, Cs, CB, CE⟩ := C
  have C : CX M d p R s m args meth c G B mc ms := ⟨Cx, Cb, Cr, Cl, Ct, Co, Ck, Cn, Cf, Cm, CK, Cs, CB, CE⟩
  subst hv
  refine va_aldq Cx Cb CK (vaP1 (hw.2 p0 _ hk)) 0 4 rfl rfl hin hd ?_
  rw [← rn_rfv]
  exact kn p l e R s m args below meth c G B mc ms C ls H locs cells slots hl hw hS hn
theorem wp_alen {S : SH} {M : MD} {d cb sb : Nat} {Q : Option Value → AH → Prop} {pc : Nat} {L st : List Value} {h : AH} {p0 n t : Nat} (hk : KD S h p0 = some (t, n)) (ht : 1 ≤ t ∧ t ≤ 5) (hd : decode M.2.1 pc = .ok (.arraylength, 1)) (kn : WP S M d cb sb Q (pc + 1) L (.int (nI n) :: st) h) : WP S M d cb sb Q pc L (.ref p0 :: st) h := by
  intro p l e R s m args below meth c G B mc ms C ls H locs cells slots hl hw hS hn
  obtain ⟨Cx, Cb, Cr, Cl, Ct, Co, Ck, Cn, Cf, Cm, CK, Cs, CB, CE⟩ := C
  have C : CX M d p R s m args meth c G B mc ms := ⟨Cx, Cb, Cr, Cl, Ct, Co, Ck, Cn, Cf, Cm, CK, Cs, CB, CE⟩
  have hP := vaP1 (hw.2 p0 _ hk)
  have kn := kn p l e R s m args below meth c G B mc ms C ls H locs cells slots hl hw hS hn
  match t, ht, hP with
  | 1, _, hP => exact va_alen Cx Cb CK hP 0 0 rfl (ty := .int) rfl rfl hd kn
  | 2, _, hP => exact va_alen Cx Cb CK hP 0 1 rfl (ty := .long) rfl rfl hd kn
  | 3, _, hP => exact va_alen Cx Cb CK hP 0 2 rfl (ty := .boolean) rfl rfl hd kn
  | 4, _, hP => exact va_alen Cx Cb CK hP 0 3 rfl (ty := .object RX6) rfl rfl hd kn
  | 5, _, hP => exact va_alen Cx Cb CK hP 0 4 rfl (ty := .object RX8) rfl rfl hd kn
theorem wp_iast {S : SH} {M : MD} {d cb sb : Nat} {Q : Option Value → AH → Prop} {pc : Nat} {L st : List Value} {h : AH} {p0 n : Nat} {i : Int32} {x : Int32} (hk : KD S h p0 = some (1, n)) (hin : vp_in i n) (hd : decode M.2.1 pc = .ok (.iastore, 1)) {h1 : AH} (hh : stI h p0 i.toNatClampNeg x = h1) (kn : WP S M d cb sb Q (pc + 1) L st h1) : WP S M d cb sb Q pc L (.int x :: .int i :: .ref p0 :: st) h := by
  intro p l e R s m args below meth c G B mc ms C ls H locs cells slots hl hw hS hn
  obtain ⟨Cx, Cb, Cr, Cl, Ct, Co, Ck, Cn, Cf, Cm, CK, Cs, CB, CE⟩ := C
  have C : CX M d p R s m args meth c G B mc ms := ⟨Cx, Cb, Cr, Cl, Ct, Co, Ck, Cn, Cf, Cm, CK, Cs, CB, CE⟩
  subst hh
  refine W.iast Cx Cb (hw.2 p0 _ hk) ((CK.2 0 _ rfl).1 n (fun j => .int (h.2.1 p0 j))) (fun q => by cases q) (by show ¬ (i < 0 ∨ (arrV _ _ _).slots.size ≤ _); rw [arrV_size]; exact hin) rfl rfl hd fun H1 ez z oq => ?_
  refine kn p l e R s m args below meth c G B mc ms C ls H1 _ cells slots hl (hw.upd (h2 := stI h p0 i.toNatClampNeg x) rfl hk z oq ?_ (fun q kk hq => vcell_congr ?_ ?_ ?_ kk)) (hS.put z oq (Nat.le_add_right _ _)) hn
  · show H1[B.1 + p0]? = some (vp_cell _ _)
    rw [ez]
    show some ((vp_cell (G.2.1 0) (n, .inl (h.2.1 p0))).setSlot _ _) = _
    rw [vp_cell_i, vp_cell_i, arrV_store]
    congr 2
    funext q
    by_cases hq : q = i.toNatClampNeg
    · subst hq
      simp [updV, u2, stI]
    · simp [updV, u2, hq, stI]
  all_goals first | rfl | exact u2_row _ _ _ hq
theorem wp_last {S : SH} {M : MD} {d cb sb : Nat} {Q : Option Value → AH → Prop} {pc : Nat} {L st : List Value} {h : AH} {p0 n : Nat} {i : Int32} {x : Int64} (hk : KD S h p0 = some (2, n)) (hin : vp_in i n) (hd : decode M.2.1 pc = .ok (.lastore, 1)) {h1 : AH} (hh : stJ h p0 i.toNatClampNeg x = h1) (kn : WP S M d cb sb Q (pc + 1) L st h1) : WP S M d cb sb Q pc L (.long x :: .int i :: .ref p0 :: st) h := by
  intro p l e R s m args below meth c G B mc ms C ls H locs cells slots hl hw hS hn
  obtain ⟨Cx, Cb, Cr, Cl, Ct, Co, Ck, Cn, Cf, Cm, CK, Cs, CB, CE⟩ := C
  have C : CX M d p R s m args meth c G B mc ms := ⟨Cx, Cb, Cr, Cl, Ct, Co, Ck, Cn, Cf, Cm, CK, Cs, CB, CE⟩
  subst hh
  refine W.last Cx Cb (hw.2 p0 _ hk) ((CK.2 1 _ rfl).1 n (fun j => .long (h.2.2.1 p0 j))) (fun q => by cases q) (by show ¬ (i < 0 ∨ (arrV _ _ _).slots.size ≤ _); rw [arrV_size]; exact hin) rfl rfl hd fun H1 ez z oq => ?_
  refine kn p l e R s m args below meth c G B mc ms C ls H1 _ cells slots hl (hw.upd (h2 := stJ h p0 i.toNatClampNeg x) rfl hk z oq ?_ (fun q kk hq => vcell_congr ?_ ?_ ?_ kk)) (hS.put z oq (Nat.le_add_right _ _)) hn
  · show H1[B.1 + p0]? = some (vp_cell _ _)
    rw [ez]
    show some ((vp_cell (G.2.1 1) (n, .inr (.inl (h.2.2.1 p0)))).setSlot _ _) = _
    rw [vp_cell_l, vp_cell_l, arrV_store]
    congr 2
    funext q
    by_cases hq : q = i.toNatClampNeg
    · subst hq
      simp [updV, u2, stJ]
    · simp [updV, u2, hq, stJ]
  all_goals first | rfl | exact u2_row _ _ _ hq
theorem wp_zast {S : SH} {M : MD} {d cb sb : Nat} {Q : Option Value → AH → Prop} {pc : Nat} {L st : List Value} {h : AH} {p0 n : Nat} {i : Int32} {x : Int32} (hk : KD S h p0 = some (3, n)) (hin : vp_in i n) (hx : x = 0 ∨ x = 1) (hd : decode M.2.1 pc = .ok (.bastore, 1)) {h1 : AH} (hh : stI h p0 i.toNatClampNeg x = h1) (kn : WP S M d cb sb Q (pc + 1) L st h1) : WP S M d cb sb Q pc L (.int x :: .int i :: .ref p0 :: st) h := by
  intro p l e R s m args below meth c G B mc ms C ls H locs cells slots hl hw hS hn
  obtain ⟨Cx, Cb, Cr, Cl, Ct, Co, Ck, Cn, Cf, Cm, CK, Cs, CB, CE⟩ := C
  have C : CX M d p R s m args meth c G B mc ms := ⟨Cx, Cb, Cr, Cl, Ct, Co, Ck, Cn, Cf, Cm, CK, Cs, CB, CE⟩
  subst hh
  refine W.zast Cx Cb (hw.2 p0 _ hk) ((CK.2 2 _ rfl).1 n (fun j => .int (h.2.1 p0 j))) (fun q => by cases q) (by show ¬ (i < 0 ∨ (arrV _ _ _).slots.size ≤ _); rw [arrV_size]; exact hin) rfl rfl hd fun H1 ez z oq => ?_
  refine kn p l e R s m args below meth c G B mc ms C ls H1 _ cells slots hl (hw.upd (h2 := stI h p0 i.toNatClampNeg x) rfl hk z oq ?_ (fun q kk hq => vcell_congr ?_ ?_ ?_ kk)) (hS.put z oq (Nat.le_add_right _ _)) hn
  · show H1[B.1 + p0]? = some (vp_cell _ _)
    rw [ez]
    show some ((vp_cell (G.2.1 2) (n, .inl (h.2.1 p0))).setSlot _ _) = _
    rw [vp_cell_i, vp_cell_i, arrV_store]
    congr 2
    funext q
    by_cases hq : q = i.toNatClampNeg
    · subst hq
      rcases hx with rfl | rfl <;> simp [updV, u2, narrow, stI]
    · simp [updV, u2, hq, stI]
  all_goals first | rfl | exact u2_row _ _ _ hq
end
section
theorem cat_rn (B : BB) (v : Value) : (rn B v).category ≤ v.category := by cases v <;> simp [rn, Value.category]
theorem catsum (B : BB) (st : List Value) : ((st.map (rn B)).map fun v => v.category).sum ≤ (st.map fun v => v.category).sum := by
  induction st with
  | nil => exact Nat.le_refl _
  | cons v r ih => simp only [List.map_cons, List.sum_cons]; have := cat_rn B v; omega
def nwH (S : SH) (h : AH) (kk : Nat × Nat) : AH := (h.1 ++ [kk], (fun q j => if q = (S.1 ++ h.1).length then 0 else h.2.1 q j), (fun q j => if q = (S.1 ++ h.1).length then 0 else h.2.2.1 q j), fun q j => if q = (S.1 ++ h.1).length then none else h.2.2.2 q j)
theorem KD_nw {S : SH} {h : AH} {kk : Nat × Nat} {q : Nat} {z : Nat × Nat} (hz : KD S (nwH S h kk) q = some z) : (q < (S.1 ++ h.1).length ∧ KD S h q = some z) ∨ (q = (S.1 ++ h.1).length ∧ z = kk) := by
  unfold KD nwH at hz
  rw [← List.append_assoc] at hz
  by_cases hq : q < (S.1 ++ h.1).length
  · rw [List.getElem?_append_left hq] at hz
    exact Or.inl ⟨hq, hz⟩
  · rw [List.getElem?_append_right (by omega)] at hz
    have h1 : q - (S.1 ++ h.1).length < 1 := (List.getElem?_eq_some_iff.mp hz).1
    have h2 : q = (S.1 ++ h.1).length := by omega
    rw [h2, Nat.sub_self] at hz
    cases hz
    exact Or.inr ⟨h2, rfl⟩
theorem Wd.nw {S : SH} {G : GG} {B : BB} {h : AH} {H H1 : Heap} {kk : Nat × Nat} (hw : Wd S G B h H) (hz : H1.size = H.size + 1) (hq : ∀ q, q < H.size → H1[q]? = H[q]?) (hc : va_at G.1 vwCl (H.size, vcell S G B (nwH S h kk) (S.1 ++ h.1).length kk) H1) : Wd S G B (nwH S h kk) H1 := by
  refine ⟨by rw [hz, hw.1]; simp [nwH]; omega, fun q z hk => ?_⟩
  rcases KD_nw hk with ⟨h1, h2⟩ | ⟨h1, rfl⟩
  · have hne : q ≠ (S.1 ++ h.1).length := by omega
    rw [vcell_congr (h := h) (by funext j; simp only [nwH, if_neg hne]) (by funext j; simp only [nwH, if_neg hne]) (by funext j; simp only [nwH, if_neg hne])]
    exact (hw.2 q z h2).kept (hq _ (by show B.1 + q < H.size; rw [hw.1]; omega))
  · subst h1
    rw [← hw.1]
    exact hc
def okTy : FieldType → Bool
  | .int => true
  | .long => true
  | .boolean => true
  | .object _ => true
  | .array _ => true
  | _ => false
/-- a class as another's pool names it, for new -/
def NW (own : String) (index ci : Nat) : Prop := ∃ (C : String) (T : u_T) (N : Nat), vwCl[ci]? = some (C, T, N) ∧ Cond.classLink own index C ∈ TT ∧ Cond.instantiable C N ∈ TT ∧ Cond.initialized C ∈ TT ∧ KF ci ∧ ∀ k, k < N → okTy (cTy ci k) = true
theorem wp_new {S : SH} {M : MD} {d cb sb : Nat} {Q : Option Value → AH → Prop} {pc : Nat} {L st : List Value} {h : AH} {index ci n : Nat} (hF : NW M.1.cls index ci) (hn0 : cN ci = n) (hs : S.2 (S.1 ++ h.1).length = none) (hd : decode M.2.1 pc = .ok (.new index, 3)) (kn : WP S M d cb sb Q (pc + 3) L (.ref (S.1 ++ h.1).length :: st) (nwH S h (0, ci))) : WP S M d (cb + 1) (sb + n) Q pc L st h := by
  intro p l e R s m args below meth c G B mc ms C ls H locs cells slots hl hw hS hn
  obtain ⟨Cx, Cb, Cr, Cl, Ct, Co, Ck, Cn, Cf, Cm, CK, Cs, CB, CE⟩ := C
  have C : CX M d p R s m args meth c G B mc ms := ⟨Cx, Cb, Cr, Cl, Ct, Co, Ck, Cn, Cf, Cm, CK, Cs, CB, CE⟩
  subst hn0
  obtain ⟨C', T, N, h1, h2, h3, h4, ⟨C'', T'', N'', g1, g2, g3, g4, g5⟩, h6⟩ := hF
  cases g1.symm.trans h1
  have hKn := CK.1 ci _ h1
  have hs' := hs
  rw [List.length_append] at hs'
  rw [g2] at hn
  refine W.newcK Cx Cb Co (Ct _ h2) (Ct _ h3) (Ct _ h4) rfl hd (by omega) (by omega) hKn.2.1 rfl fun H1 kC hkC e1 z1 o1 => ?_
  have hb := u_born (cTy ci) Ct g3 hKn hkC e1 g4
  have hc : va_at G.1 vwCl (H.size, vcell S G B (nwH S h (0, ci)) (S.1 ++ h.1).length (0, ci)) H1 := by
    refine ⟨_, h1, hb.to (fun k hk => ?_)⟩
    show _ = vp_V (fs_ S B (nwH S h (0, ci)) (S.1 ++ h.1).length ci) k
    unfold vp_V
    rw [List.getD_eq_getElem?_getD, fs_at (by rw [g2]; exact hk)]
    have h7 := h6 k hk
    cases hty : cTy ci k <;> rw [hty] at h7 <;> first | (cases h7; done) | skip
    all_goals simp [defaultValue, avl, nwH, rn, RF, hs', rfv]
  have kk := kn p l e R s m args below meth c G B mc ms C ls H1 locs (cells + 1) (slots + N) hl (hw.nw z1 o1 hc) ⟨Nat.le_trans hS.1 (by omega), fun x q1 q2 => (o1 x (Nat.lt_of_lt_of_le q1 hS.1)).trans (hS.2.1 x q1 q2), hS.2.2⟩ (by omega)
  have e0 : rn B (.ref (S.1 ++ h.1).length) = .ref H.size := by show Value.ref _ = _; rw [hw.1]
  rw [List.map_cons, e0] at kk
  exact kk
theorem wp_newaI {S : SH} {M : MD} {d cb sb : Nat} {Q : Option Value → AH → Prop} {pc : Nat} {L st : List Value} {h : AH} {n : Int32} {N : Nat} (hc : Cond.arrayClass .int ∈ TT) (hn0 : ¬ n < 0) (hN : n.toNatClampNeg = N) (hN2 : N ≤ 1000000) (hs : S.2 (S.1 ++ h.1).length = none) (hd : decode M.2.1 pc = .ok (.newarray .int, 2)) (kn : WP S M d cb sb Q (pc + 2) L (.ref (S.1 ++ h.1).length :: st) (nwH S h (1, N))) : WP S M d (cb + 1) (sb + N) Q pc L (.int n :: st) h := by
  intro p l e R s m args below meth c G B mc ms C ls H locs cells slots hl hw hS hn
  obtain ⟨Cx, Cb, Cr, Cl, Ct, Co, Ck, Cn, Cf, Cm, CK, Cs, CB, CE⟩ := C
  have C : CX M d p R s m args meth c G B mc ms := ⟨Cx, Cb, Cr, Cl, Ct, Co, Ck, Cn, Cf, Cm, CK, Cs, CB, CE⟩
  refine va_newaK (atype := .int) Cx Cb (Ct _ hc) rfl hd rfl hn0 hN (by show N * _ ≤ _; simp [newarray.typeOf, componentBytes]; omega) (by omega) (by omega) rfl fun H1 cA e1 z1 o1 hAr hNm => ?_
  have hA : cA = G.2.1 0 := Option.some.inj (hNm.symm.trans (CK.2 0 _ rfl).2)
  subst hA
  have hcl : va_at G.1 vwCl (H.size, vcell S G B (nwH S h (1, N)) (S.1 ++ h.1).length (1, N)) H1 := by
    show H1[H.size]? = some (vp_cell _ _)
    rw [e1]
    unfold vp_cell
    simp [nwH, newarray.typeOf, defaultValue]
  have kk := kn p l e R s m args below meth c G B mc ms C ls H1 locs (cells + 1) (slots + N) hl (hw.nw z1 o1 hcl) ⟨Nat.le_trans hS.1 (by omega), fun x q1 q2 => (o1 x (Nat.lt_of_lt_of_le q1 hS.1)).trans (hS.2.1 x q1 q2), hS.2.2⟩ (by omega)
  have e0 : rn B (.ref (S.1 ++ h.1).length) = .ref H.size := by show Value.ref _ = _; rw [hw.1]
  rw [List.map_cons, e0] at kk
  exact kk
theorem wp_newaJ {S : SH} {M : MD} {d cb sb : Nat} {Q : Option Value → AH → Prop} {pc : Nat} {L st : List Value} {h : AH} {n : Int32} {N : Nat} (hc : Cond.arrayClass .long ∈ TT) (hn0 : ¬ n < 0) (hN : n.toNatClampNeg = N) (hN2 : N ≤ 1000000) (hs : S.2 (S.1 ++ h.1).length = none) (hd : decode M.2.1 pc = .ok (.newarray .long, 2)) (kn : WP S M d cb sb Q (pc + 2) L (.ref (S.1 ++ h.1).length :: st) (nwH S h (2, N))) : WP S M d (cb + 1) (sb + N) Q pc L (.int n :: st) h := by
  intro p l e R s m args below meth c G B mc ms C ls H locs cells slots hl hw hS hn
  obtain ⟨Cx, Cb, Cr, Cl, Ct, Co, Ck, Cn, Cf, Cm, CK, Cs, CB, CE⟩ := C
  have C : CX M d p R s m args meth c G B mc ms := ⟨Cx, Cb, Cr, Cl, Ct, Co, Ck, Cn, Cf, Cm, CK, Cs, CB, CE⟩
  refine va_newaK (atype := .long) Cx Cb (Ct _ hc) rfl hd rfl hn0 hN (by show N * _ ≤ _; simp [newarray.typeOf, componentBytes]; omega) (by omega) (by omega) rfl fun H1 cA e1 z1 o1 hAr hNm => ?_
  have hA : cA = G.2.1 1 := Option.some.inj (hNm.symm.trans (CK.2 1 _ rfl).2)
  subst hA
  have hcl : va_at G.1 vwCl (H.size, vcell S G B (nwH S h (2, N)) (S.1 ++ h.1).length (2, N)) H1 := by
    show H1[H.size]? = some (vp_cell _ _)
    rw [e1]
    unfold vp_cell
    simp [nwH, newarray.typeOf, defaultValue]
  have kk := kn p l e R s m args below meth c G B mc ms C ls H1 locs (cells + 1) (slots + N) hl (hw.nw z1 o1 hcl) ⟨Nat.le_trans hS.1 (by omega), fun x q1 q2 => (o1 x (Nat.lt_of_lt_of_le q1 hS.1)).trans (hS.2.1 x q1 q2), hS.2.2⟩ (by omega)
  have e0 : rn B (.ref (S.1 ++ h.1).length) = .ref H.size := by show Value.ref _ = _; rw [hw.1]
  rw [List.map_cons, e0] at kk
  exact kk
theorem wp_newaZ {S : SH} {M : MD} {d cb sb : Nat} {Q : Option Value → AH → Prop} {pc : Nat} {L st : List Value} {h : AH} {n : Int32} {N : Nat} (hc : Cond.arrayClass .boolean ∈ TT) (hn0 : ¬ n < 0) (hN : n.toNatClampNeg = N) (hN2 : N ≤ 1000000) (hs : S.2 (S.1 ++ h.1).length = none) (hd : decode M.2.1 pc = .ok (.newarray .boolean, 2)) (kn : WP S M d cb sb Q (pc + 2) L (.ref (S.1 ++ h.1).length :: st) (nwH S h (3, N))) : WP S M d (cb + 1) (sb + N) Q pc L (.int n :: st) h := by
  intro p l e R s m args below meth c G B mc ms C ls H locs cells slots hl hw hS hn
  obtain ⟨Cx, Cb, Cr, Cl, Ct, Co, Ck, Cn, Cf, Cm, CK, Cs, CB, CE⟩ := C
  have C : CX M d p R s m args meth c G B mc ms := ⟨Cx, Cb, Cr, Cl, Ct, Co, Ck, Cn, Cf, Cm, CK, Cs, CB, CE⟩
  refine va_newaK (atype := .boolean) Cx Cb (Ct _ hc) rfl hd rfl hn0 hN (by show N * _ ≤ _; simp [newarray.typeOf, componentBytes]; omega) (by omega) (by omega) rfl fun H1 cA e1 z1 o1 hAr hNm => ?_
  have hA : cA = G.2.1 2 := Option.some.inj (hNm.symm.trans (CK.2 2 _ rfl).2)
  subst hA
  have hcl : va_at G.1 vwCl (H.size, vcell S G B (nwH S h (3, N)) (S.1 ++ h.1).length (3, N)) H1 := by
    show H1[H.size]? = some (vp_cell _ _)
    rw [e1]
    unfold vp_cell
    simp [nwH, newarray.typeOf, defaultValue]
  have kk := kn p l e R s m args below meth c G B mc ms C ls H1 locs (cells + 1) (slots + N) hl (hw.nw z1 o1 hcl) ⟨Nat.le_trans hS.1 (by omega), fun x q1 q2 => (o1 x (Nat.lt_of_lt_of_le q1 hS.1)).trans (hS.2.1 x q1 q2), hS.2.2⟩ (by omega)
  have e0 : rn B (.ref (S.1 ++ h.1).length) = .ref H.size := by show Value.ref _ = _; rw [hw.1]
  rw [List.map_cons, e0] at kk
  exact kk
theorem wp_anewA {S : SH} {M : MD} {d cb sb : Nat} {Q : Option Value → AH → Prop} {pc : Nat} {L st : List Value} {h : AH} {n : Int32} {N index : Nat} (hc : Cond.classLink M.1.cls index RX6 ∈ TT) (hn0 : ¬ n < 0) (hN : n.toNatClampNeg = N) (hN2 : N ≤ 1000000) (hs : S.2 (S.1 ++ h.1).length = none) (hd : decode M.2.1 pc = .ok (.anewarray index, 3)) (kn : WP S M d cb sb Q (pc + 3) L (.ref (S.1 ++ h.1).length :: st) (nwH S h (4, N))) : WP S M d (cb + 1) (sb + N) Q pc L (.int n :: st) h := by
  intro p l e R s m args below meth c G B mc ms C ls H locs cells slots hl hw hS hn
  obtain ⟨Cx, Cb, Cr, Cl, Ct, Co, Ck, Cn, Cf, Cm, CK, Cs, CB, CE⟩ := C
  have C : CX M d p R s m args meth c G B mc ms := ⟨Cx, Cb, Cr, Cl, Ct, Co, Ck, Cn, Cf, Cm, CK, Cs, CB, CE⟩
  subst hN
  refine W.anew Cx Cb Co (Ct _ hc) (va_AO.use Cs.2.2.2.2.1) rfl hd rfl hn0 (by omega) (by omega) (by omega) fun cA kA comp f1 f2 f3 f4 => ?_
  have hA : cA = G.2.1 3 := by
    obtain ⟨kA', comp', r1, r2, r3, r4⟩ : va_RA s (G.2.1 3) (.object RX6) := (CK.2 3 _ rfl).2
    exact Option.some.inj (f1.symm.trans r4)
  subst hA
  have z1 : (H.push ({ cls := G.2.1 3, slots := Array.replicate n.toNatClampNeg .null, vm := .none } : Cell)).size = H.size + 1 := Array.size_push _
  have o1 : ∀ q : Nat, q < H.size → (H.push ({ cls := G.2.1 3, slots := Array.replicate n.toNatClampNeg .null, vm := .none } : Cell))[q]? = H[q]? := fun q hq => by rw [Array.getElem?_push, if_neg (Nat.ne_of_lt hq)]
  have hcl : va_at G.1 vwCl (H.size, vcell S G B (nwH S h (4, n.toNatClampNeg)) (S.1 ++ h.1).length (4, n.toNatClampNeg)) (H.push ({ cls := G.2.1 3, slots := Array.replicate n.toNatClampNeg .null, vm := .none } : Cell)) := by
    show (H.push _)[H.size]? = some (vp_cell _ _)
    rw [Array.getElem?_push_size, arrV_new, vp_cell_q]
    congr 2
    funext j
    have hs' := hs
    rw [List.length_append] at hs'
    simp [RF, nwH, hs', va_rf]
  have kk := kn p l e R s m args below meth c G B mc ms C ls _ locs (cells + 1) (slots + n.toNatClampNeg) hl (hw.nw z1 o1 hcl) ⟨Nat.le_trans hS.1 (by omega), fun x q1 q2 => (o1 x (Nat.lt_of_lt_of_le q1 hS.1)).trans (hS.2.1 x q1 q2), hS.2.2⟩ (by omega)
  have e0 : rn B (.ref (S.1 ++ h.1).length) = .ref H.size := by show Value.ref _ = _; rw [hw.1]
  rw [List.map_cons, e0] at kk
  exact kk
theorem wp_aastA {S : SH} {M : MD} {d cb sb : Nat} {Q : Option Value → AH → Prop} {pc : Nat} {L st : List Value} {h : AH} {p0 n v : Nat} {i : Int32} (hk : KD S h p0 = some (4, n)) (hv : KD S h v = some (0, 6)) (hs : S.2 p0 = none) (hin : vp_in i n) (hd : decode M.2.1 pc = .ok (.aastore, 1)) {h1 : AH} (hh : stR h p0 i.toNatClampNeg (some v) = h1) (kn : WP S M d cb sb Q (pc + 1) L st h1) : WP S M d cb sb Q pc L (.ref v :: .int i :: .ref p0 :: st) h := by
  intro p l e R s m args below meth c G B mc ms C ls H locs cells slots hl hw hS hn
  obtain ⟨Cx, Cb, Cr, Cl, Ct, Co, Ck, Cn, Cf, Cm, CK, Cs, CB, CE⟩ := C
  have C : CX M d p R s m args meth c G B mc ms := ⟨Cx, Cb, Cr, Cl, Ct, Co, Ck, Cn, Cf, Cm, CK, Cs, CB, CE⟩
  subst hh
  have hlt : i.toNatClampNeg < n := Nat.not_le.mp fun q => hin (Or.inr q)
  have h0 : ¬ i < 0 := fun q => hin (Or.inl q)
  have hrow : va_at G.1 vwCl (B.1 + p0, .inl (G.2.1 3, n, .inr (.inr (.inr (.inr (fun j => (RF S h p0 j).map (B.1 + ·))))))) H := hw.2 p0 _ hk
  obtain ⟨r', hr', cellV, g1, g2, g3, -⟩ : va_at G.1 vwCl (B.1 + v, .inr (6, fs_ S B h v 6)) H := hw.2 v _ hv
  have hcls := (CK.1 6 _ rfl).2
  obtain ⟨kA, comp, k1, k2, k3, -⟩ : va_RA s (G.2.1 3) (.object RX6) := (CK.2 3 _ rfl).2
  have hcomp : comp = G.1.1 6 := Option.some.inj (k3.symm.trans hcls.1)
  subst hcomp
  obtain ⟨kC, hkC, -⟩ := hcls.2
  refine W.aast Cx Cb (show H[B.1 + p0]? = some (vp_cell _ _) from hrow) (fun q h => by cases h) (fun h => by cases h) k1 k2 rfl hkC ⟨h0, by show _ < (arrV _ _ _).slots.size; rw [arrV_size]; exact hlt⟩ g1 (fun q h => by rw [g3] at h; cases h) (by rw [g2]; exact hkC) (by rw [g2]; exact va_assign hcls) rfl rfl hd fun H1 ez z oq => ?_
  refine kn p l e R s m args below meth c G B mc ms C ls H1 _ cells slots hl (hw.upd (h2 := stR h p0 i.toNatClampNeg (some v)) rfl hk z oq ?_ (fun q kk hq => vcell_congr ?_ ?_ ?_ kk)) (hS.put z oq (Nat.le_add_right _ _)) hn
  · show H1[B.1 + p0]? = some (vp_cell _ _)
    rw [ez]
    rw [vp_cell_q, vp_cell_q, arrV_store]
    congr 2
    funext q
    by_cases hq : q = i.toNatClampNeg
    · subst hq
      simp [updV, stR, u2, RF, hs, va_rf]
    · simp [updV, stR, u2, hq, RF, hs]
  all_goals first | rfl | exact u2_row _ _ _ hq
theorem wp_anewB {S : SH} {M : MD} {d cb sb : Nat} {Q : Option Value → AH → Prop} {pc : Nat} {L st : List Value} {h : AH} {n : Int32} {N index : Nat} (hc : Cond.classLink M.1.cls index RX8 ∈ TT) (hn0 : ¬ n < 0) (hN : n.toNatClampNeg = N) (hN2 : N ≤ 1000000) (hs : S.2 (S.1 ++ h.1).length = none) (hd : decode M.2.1 pc = .ok (.anewarray index, 3)) (kn : WP S M d cb sb Q (pc + 3) L (.ref (S.1 ++ h.1).length :: st) (nwH S h (5, N))) : WP S M d (cb + 1) (sb + N) Q pc L (.int n :: st) h := by
  intro p l e R s m args below meth c G B mc ms C ls H locs cells slots hl hw hS hn
  obtain ⟨Cx, Cb, Cr, Cl, Ct, Co, Ck, Cn, Cf, Cm, CK, Cs, CB, CE⟩ := C
  have C : CX M d p R s m args meth c G B mc ms := ⟨Cx, Cb, Cr, Cl, Ct, Co, Ck, Cn, Cf, Cm, CK, Cs, CB, CE⟩
  subst hN
  refine W.anew Cx Cb Co (Ct _ hc) (va_AO.use Cs.2.2.2.2.2.1) rfl hd rfl hn0 (by omega) (by omega) (by omega) fun cA kA comp f1 f2 f3 f4 => ?_
  have hA : cA = G.2.1 4 := by
    obtain ⟨kA', comp', r1, r2, r3, r4⟩ : va_RA s (G.2.1 4) (.object RX8) := (CK.2 4 _ rfl).2
    exact Option.some.inj (f1.symm.trans r4)
  subst hA
  have z1 : (H.push ({ cls := G.2.1 4, slots := Array.replicate n.toNatClampNeg .null, vm := .none } : Cell)).size = H.size + 1 := Array.size_push _
  have o1 : ∀ q : Nat, q < H.size → (H.push ({ cls := G.2.1 4, slots := Array.replicate n.toNatClampNeg .null, vm := .none } : Cell))[q]? = H[q]? := fun q hq => by rw [Array.getElem?_push, if_neg (Nat.ne_of_lt hq)]
  have hcl : va_at G.1 vwCl (H.size, vcell S G B (nwH S h (5, n.toNatClampNeg)) (S.1 ++ h.1).length (5, n.toNatClampNeg)) (H.push ({ cls := G.2.1 4, slots := Array.replicate n.toNatClampNeg .null, vm := .none } : Cell)) := by
    show (H.push _)[H.size]? = some (vp_cell _ _)
    rw [Array.getElem?_push_size, arrV_new, vp_cell_q]
    congr 2
    funext j
    have hs' := hs
    rw [List.length_append] at hs'
    simp [RF, nwH, hs', va_rf]
  have kk := kn p l e R s m args below meth c G B mc ms C ls _ locs (cells + 1) (slots + n.toNatClampNeg) hl (hw.nw z1 o1 hcl) ⟨Nat.le_trans hS.1 (by omega), fun x q1 q2 => (o1 x (Nat.lt_of_lt_of_le q1 hS.1)).trans (hS.2.1 x q1 q2), hS.2.2⟩ (by omega)
  have e0 : rn B (.ref (S.1 ++ h.1).length) = .ref H.size := by show Value.ref _ = _; rw [hw.1]
  rw [List.map_cons, e0] at kk
  exact kk
theorem wp_aastB {S : SH} {M : MD} {d cb sb : Nat} {Q : Option Value → AH → Prop} {pc : Nat} {L st : List Value} {h : AH} {p0 n v : Nat} {i : Int32} (hk : KD S h p0 = some (5, n)) (hv : KD S h v = some (0, 8)) (hs : S.2 p0 = none) (hin : vp_in i n) (hd : decode M.2.1 pc = .ok (.aastore, 1)) {h1 : AH} (hh : stR h p0 i.toNatClampNeg (some v) = h1) (kn : WP S M d cb sb Q (pc + 1) L st h1) : WP S M d cb sb Q pc L (.ref v :: .int i :: .ref p0 :: st) h := by
  intro p l e R s m args below meth c G B mc ms C ls H locs cells slots hl hw hS hn
  obtain ⟨Cx, Cb, Cr, Cl, Ct, Co, Ck, Cn, Cf, Cm, CK, Cs, CB, CE⟩ := C
  have C : CX M d p R s m args meth c G B mc ms := ⟨Cx, Cb, Cr, Cl, Ct, Co, Ck, Cn, Cf, Cm, CK, Cs, CB, CE⟩
  subst hh
  have hlt : i.toNatClampNeg < n := Nat.not_le.mp fun q => hin (Or.inr q)
  have h0 : ¬ i < 0 := fun q => hin (Or.inl q)
  have hrow : va_at G.1 vwCl (B.1 + p0, .inl (G.2.1 4, n, .inr (.inr (.inr (.inr (fun j => (RF S h p0 j).map (B.1 + ·))))))) H := hw.2 p0 _ hk
  obtain ⟨r', hr', cellV, g1, g2, g3, -⟩ : va_at G.1 vwCl (B.1 + v, .inr (8, fs_ S B h v 8)) H := hw.2 v _ hv
  have hcls := (CK.1 8 _ rfl).2
  obtain ⟨kA, comp, k1, k2, k3, -⟩ : va_RA s (G.2.1 4) (.object RX8) := (CK.2 4 _ rfl).2
  have hcomp : comp = G.1.1 8 := Option.some.inj (k3.symm.trans hcls.1)
  subst hcomp
  obtain ⟨kC, hkC, -⟩ := hcls.2
  refine W.aast Cx Cb (show H[B.1 + p0]? = some (vp_cell _ _) from hrow) (fun q h => by cases h) (fun h => by cases h) k1 k2 rfl hkC ⟨h0, by show _ < (arrV _ _ _).slots.size; rw [arrV_size]; exact hlt⟩ g1 (fun q h => by rw [g3] at h; cases h) (by rw [g2]; exact hkC) (by rw [g2]; exact va_assign hcls) rfl rfl hd fun H1 ez z oq => ?_
  refine kn p l e R s m args below meth c G B mc ms C ls H1 _ cells slots hl (hw.upd (h2 := stR h p0 i.toNatClampNeg (some v)) rfl hk z oq ?_ (fun q kk hq => vcell_congr ?_ ?_ ?_ kk)) (hS.put z oq (Nat.le_add_right _ _)) hn
  · show H1[B.1 + p0]? = some (vp_cell _ _)
    rw [ez]
    rw [vp_cell_q, vp_cell_q, arrV_store]
    congr 2
    funext q
    by_cases hq : q = i.toNatClampNeg
    · subst hq
      simp [updV, stR, u2, RF, hs, va_rf]
    · simp [updV, stR, u2, hq, RF, hs]
  all_goals first | rfl | exact u2_row _ _ _ hq
theorem wp_mmax {S : SH} {M : MD} {d cb sb : Nat} {Q : Option Value → AH → Prop} {pc : Nat} {L st : List Value} {h : AH} {index : Nat} {x y : Int32} (hlk : Cond.methodLink M.1.cls index Lib.Math.max.name ∈ TT) (hst : Cond.static Lib.Math.max.name ∈ TT) (hini : Cond.initialized "java/lang/Math" ∈ TT) (hco : Cond.code Lib.Math.max.name Lib.Math.max.code 2 (some .int) ∈ TT) (hr : (st.map fun v => v.category).sum ≤ 8) (hd : decode M.2.1 pc = .ok (.invokestatic index, 3)) (kn : WP S M (d + 1) cb sb Q (pc + 3) L (.int (if x < y then y else x) :: st) h) : WP S M (d + 1) cb sb Q pc L (.int y :: .int x :: st) h := by
  intro p l e R s m args below meth c G B mc ms C ls H locs cells slots hl hw hS hn
  obtain ⟨Cx, Cb, Cr, Cl, Ct, Co, Ck, Cn, Cf, Cm, CK, Cs, CB, CE⟩ := C
  have C : CX M (d + 1) p R s m args meth c G B mc ms := ⟨Cx, Cb, Cr, Cl, Ct, Co, Ck, Cn, Cf, Cm, CK, Cs, CB, CE⟩
  have hr2 := catsum B st
  exact va_mmax Cx Cb (Cl.trans hl.1.symm) Co (Ct _ hlk) (Ct _ hst) (Ct _ hini) (Ct _ hco) (by omega) (by omega) (by omega) (by omega) hd (kn p l e R s m args below meth c G B mc ms C ls H locs cells slots hl hw hS hn)
theorem wp_mmin {S : SH} {M : MD} {d cb sb : Nat} {Q : Option Value → AH → Prop} {pc : Nat} {L st : List Value} {h : AH} {index : Nat} {x y : Int32} (hlk : Cond.methodLink M.1.cls index Lib.Math.min.name ∈ TT) (hst : Cond.static Lib.Math.min.name ∈ TT) (hini : Cond.initialized "java/lang/Math" ∈ TT) (hco : Cond.code Lib.Math.min.name Lib.Math.min.code 2 (some .int) ∈ TT) (hr : (st.map fun v => v.category).sum ≤ 8) (hd : decode M.2.1 pc = .ok (.invokestatic index, 3)) (kn : WP S M (d + 1) cb sb Q (pc + 3) L (.int (if y < x then y else x) :: st) h) : WP S M (d + 1) cb sb Q pc L (.int y :: .int x :: st) h := by
  intro p l e R s m args below meth c G B mc ms C ls H locs cells slots hl hw hS hn
  obtain ⟨Cx, Cb, Cr, Cl, Ct, Co, Ck, Cn, Cf, Cm, CK, Cs, CB, CE⟩ := C
  have C : CX M (d + 1) p R s m args meth c G B mc ms := ⟨Cx, Cb, Cr, Cl, Ct, Co, Ck, Cn, Cf, Cm, CK, Cs, CB, CE⟩
  have hr2 := catsum B st
  exact va_mmin Cx Cb (Cl.trans hl.1.symm) Co (Ct _ hlk) (Ct _ hst) (Ct _ hini) (Ct _ hco) (by omega) (by omega) (by omega) (by omega) hd (kn p l e R s m args below meth c G B mc ms C ls H locs cells slots hl hw hS hn)
theorem wp_mabs {S : SH} {M : MD} {d cb sb : Nat} {Q : Option Value → AH → Prop} {pc : Nat} {L st : List Value} {h : AH} {index : Nat} {x : Int32} (hlk : Cond.methodLink M.1.cls index Lib.Math.abs.name ∈ TT) (hst : Cond.static Lib.Math.abs.name ∈ TT) (hini : Cond.initialized "java/lang/Math" ∈ TT) (hco : Cond.code Lib.Math.abs.name Lib.Math.abs.code 1 (some .int) ∈ TT) (hr : (st.map fun v => v.category).sum ≤ 8) (hd : decode M.2.1 pc = .ok (.invokestatic index, 3)) (kn : WP S M (d + 1) cb sb Q (pc + 3) L (.int (if 0 ≤ x then x else 0 - x) :: st) h) : WP S M (d + 1) cb sb Q pc L (.int x :: st) h := by
  intro p l e R s m args below meth c G B mc ms C ls H locs cells slots hl hw hS hn
  obtain ⟨Cx, Cb, Cr, Cl, Ct, Co, Ck, Cn, Cf, Cm, CK, Cs, CB, CE⟩ := C
  have C : CX M (d + 1) p R s m args meth c G B mc ms := ⟨Cx, Cb, Cr, Cl, Ct, Co, Ck, Cn, Cf, Cm, CK, Cs, CB, CE⟩
  have hr2 := catsum B st
  exact va_mabs Cx Cb (Cl.trans hl.1.symm) Co (Ct _ hlk) (Ct _ hst) (Ct _ hini) (Ct _ hco) (by omega) (by omega) (by omega) (by omega) hd (kn p l e R s m args below meth c G B mc ms C ls H locs cells slots hl hw hS hn)
theorem wp_objInit {S : SH} {M : MD} {d cb sb : Nat} {Q : Option Value → AH → Prop} {pc : Nat} {L st : List Value} {h : AH} {index p0 : Nat} (hlk : Cond.methodLink M.1.cls index objectInit ∈ TT) (hi : Cond.instanceMethod objectInit ∈ TT) (hco : Cond.code objectInit ⟨#[0xb1]⟩ 1 none ∈ TT) (hr : (st.map fun v => v.category).sum ≤ 8) (hd : decode M.2.1 pc = .ok (.invokespecial index, 3)) (kn : WP S M (d + 1) cb sb Q (pc + 3) L st h) : WP S M (d + 1) cb sb Q pc L (.ref p0 :: st) h := by
  intro p l e R s m args below meth c G B mc ms C ls H locs cells slots hl hw hS hn
  obtain ⟨Cx, Cb, Cr, Cl, Ct, Co, Ck, Cn, Cf, Cm, CK, Cs, CB, CE⟩ := C
  have C : CX M (d + 1) p R s m args meth c G B mc ms := ⟨Cx, Cb, Cr, Cl, Ct, Co, Ck, Cn, Cf, Cm, CK, Cs, CB, CE⟩
  have hr2 := catsum B st
  exact W.objInit Cx Cb Co (Ct _ hlk) (Ct _ hi) (Ct _ hco) rfl (hl.1.trans Cl.symm) rfl hd (by omega) (by show 2 * 0 + _ + 12 ≤ _; omega) (kn p l e R s m args below meth c G B mc ms C ls H locs cells slots hl hw hS hn)
theorem wp_iret {S : SH} {M : MD} {d cb sb : Nat} {Q : Option Value → AH → Prop} {pc : Nat} {L : List Value} {h : AH} {x : Int32} {ty : FieldType} (hr : M.2.2.2.1 = some ty) (hna : narrow ty (.int x) = .int x) (hd : decode M.2.1 pc = .ok (.ireturn, 1)) (kn : Q (some (.int x)) h) : WP S M d cb sb Q pc L [.int x] h := by
  intro p l e R s m args below meth c G B mc ms C ls H locs cells slots hl hw hS hn
  obtain ⟨Cx, Cb, Cr, Cl, Ct, Co, Ck, Cn, Cf, Cm, CK, Cs, CB, CE⟩ := C
  have C : CX M d p R s m args meth c G B mc ms := ⟨Cx, Cb, Cr, Cl, Ct, Co, Ck, Cn, Cf, Cm, CK, Cs, CB, CE⟩
  refine W.widen (k := mc) (n := ms) (by omega) (by omega) ?_
  exact W.zret Cx Cb (Cr.trans hr) hna (fun t ht hW => ⟨some (.int x), h, rfl, kn, by rw [ht]; exact hw, hS.F ht⟩) hS.2.2 hd
theorem wp_lret {S : SH} {M : MD} {d cb sb : Nat} {Q : Option Value → AH → Prop} {pc : Nat} {L : List Value} {h : AH} {x : Int64} (hr : M.2.2.2.1 = some .long) (hd : decode M.2.1 pc = .ok (.lreturn, 1)) (kn : Q (some (.long x)) h) : WP S M d cb sb Q pc L [.long x] h := by
  intro p l e R s m args below meth c G B mc ms C ls H locs cells slots hl hw hS hn
  obtain ⟨Cx, Cb, Cr, Cl, Ct, Co, Ck, Cn, Cf, Cm, CK, Cs, CB, CE⟩ := C
  have C : CX M d p R s m args meth c G B mc ms := ⟨Cx, Cb, Cr, Cl, Ct, Co, Ck, Cn, Cf, Cm, CK, Cs, CB, CE⟩
  refine W.widen (k := mc) (n := ms) (by omega) (by omega) ?_
  exact W.lret Cx Cb (Cr.trans hr) (fun t ht hW => ⟨some (.long x), h, rfl, kn, by rw [ht]; exact hw, hS.F ht⟩) hS.2.2 hd
theorem wp_vret {S : SH} {M : MD} {d cb sb : Nat} {Q : Option Value → AH → Prop} {pc : Nat} {L : List Value} {h : AH} (hr : M.2.2.2.1 = none) (hd : decode M.2.1 pc = .ok (.return_, 1)) (kn : Q none h) : WP S M d cb sb Q pc L [] h := by
  intro p l e R s m args below meth c G B mc ms C ls H locs cells slots hl hw hS hn
  obtain ⟨Cx, Cb, Cr, Cl, Ct, Co, Ck, Cn, Cf, Cm, CK, Cs, CB, CE⟩ := C
  have C : CX M d p R s m args meth c G B mc ms := ⟨Cx, Cb, Cr, Cl, Ct, Co, Ck, Cn, Cf, Cm, CK, Cs, CB, CE⟩
  refine W.widen (k := mc) (n := ms) (by omega) (by omega) ?_
  exact W.vret Cx Cb (Cr.trans hr) (fun t ht hW => ⟨none, h, rfl, kn, by rw [ht]; exact hw, hS.F ht⟩) hS.2.2 hd
theorem wp_aret {S : SH} {M : MD} {d cb sb : Nat} {Q : Option Value → AH → Prop} {pc : Nat} {L : List Value} {h : AH} {x : Nat} {ty : FieldType} (hr : M.2.2.2.1 = some ty) (hty : (∃ n, ty = .object n) ∨ ∃ t, ty = .array t) (hd : decode M.2.1 pc = .ok (.areturn, 1)) (kn : Q (some (.ref x)) h) : WP S M d cb sb Q pc L [.ref x] h := by
  intro p l e R s m args below meth c G B mc ms C ls H locs cells slots hl hw hS hn
  obtain ⟨Cx, Cb, Cr, Cl, Ct, Co, Ck, Cn, Cf, Cm, CK, Cs, CB, CE⟩ := C
  have C : CX M d p R s m args meth c G B mc ms := ⟨Cx, Cb, Cr, Cl, Ct, Co, Ck, Cn, Cf, Cm, CK, Cs, CB, CE⟩
  refine W.widen (k := mc) (n := ms) (by omega) (by omega) ?_
  exact W.aret Cx Cb (Cr.trans hr) hty (Or.inr ⟨_, rfl⟩) (fun t ht hW => ⟨some (.ref x), h, rfl, kn, by rw [ht]; exact hw, hS.F ht⟩) hS.2.2 hd
theorem goodTT : GoodIn TT TT := fun w h => ⟨h, good_of_word (tt_good w h)⟩
/-- a method that the tables know: its code, how many arguments its text has -/
def MF (N : MD) (n : Nat) : Prop := Cond.code N.1 N.2.1 N.2.2.1 N.2.2.2.1 ∈ TT ∧ Cond.initialized N.1.cls ∈ TT ∧ (N.1.cls ≠ "java/lang/invoke/MethodHandle" ∧ N.1.cls ≠ "java/lang/invoke/VarHandle" ∧ (parseMethodDescriptor N.1.desc).map (fun d => d.parameters.length) = some n) ∧ N.2.2.1 ≤ 45
theorem goodWS {N : MD} {n : Nat} (h : MF N n) : GoodIn TT (WS N) := fun w hw => by
  rcases List.mem_cons.mp hw with rfl | hw
  · exact ⟨h.1, good_of_word (tt_good _ h.1)⟩
  · exact goodTT w hw
theorem blindPC {S : SH} {G : GG} {B : BB} {as : List Value} {h : AH} : FrameBlind (PC S G B as h) := fun a U g mk q => by
  obtain ⟨q0, q1, q2, q3⟩ := q
  exact ⟨q0, q1, va_K.moved (u := U) (U := U.calling g mk a) (Vm.Alike.refl U.vm) q2, q3.same rfl rfl⟩
/-- behind a call -/
theorem back_to {S : SH} {M : MD} {d : Nat} {p : Program} {l : Launch} {e : Env} {R : Room} {s : State} {m : MethodId} {args : Array Value} {below : List Frame} {meth : Method} {c : Code} {G : GG} {B : BB} {mc ms : Nat} {H : Heap} {locs : List Loc} {cells slots : Nat} {pc : Nat} {ls : Array Slot} {L st0 rest : List Value} {Q : Option Value → AH → Prop} {cb sb mcN msN : Nat} {a : Array Value}
    (C : CX M d p R s m args meth c G B mc ms) (hl : LH ls M.2.2.1 B L) (hS : va_S (fun q => B.1 ≤ q) s.heap H locs) (hn : cells + (cb + mcN) = mc ∧ slots + (sb + msN) = ms)
    (hr : va_Run p l e R s m args below meth c H locs cells slots mcN msN (F0 m pc ls st0) (rest.map (rn B)) (PQ S G B (fun r h' => WP S M d cb sb Q (pc + 3) L (r.toList ++ rest) h') a) (fun q => B.1 ≤ q)) : W p l e R s m args below meth c H locs cells slots (MQ below (PQ S G B Q) args s mc ms (fun q => B.1 ≤ q)) (F0 m pc ls st0) := by
  intro T hT X
  obtain ⟨v, st₀, t, T', L', h0, X', hL, e1, e2, ⟨r, h', hv, hk, hb, hF⟩, stp⟩ := hr T hT X
  have hv' : v = r.map (rn B) := Outcome.returned.inj hv
  subst hv'
  have hz : H.size ≤ t.heap.size := by have := hF.1; rw [h0] at this; exact this
  obtain ⟨t2, a1, b1⟩ := hk p l e R s m args below meth c G B mc ms C ls t.heap (locs ++ L') (cells + mcN) (slots + msN) hl hb
    ⟨Nat.le_trans hS.1 hz, fun q h1 h2 => by rw [hF.2 q (by rw [h0]; exact Nat.lt_of_lt_of_le h1 hS.1) h2, h0]; exact hS.2.1 q h1 h2, fun q hq => by
      rcases List.mem_append.mp hq with z | z
      · exact hS.2.2 q z
      · exact hL q z⟩ (by omega) T' e1 X'
  refine ⟨t2, stp t2 ?_, b1⟩
  rw [List.map_append] at a1
  have e3 : (r.map (rn B)).toList = r.toList.map (rn B) := by cases r <;> rfl
  rw [e3]
  exact a1
theorem wp_callV {S : SH} {M : MD} {d cb sb : Nat} {Q : Option Value → AH → Prop} {pc : Nat} {L rest as : List Value} {h : AH} {N : MD} {index n cb1 sb1 mcN msN : Nat} {b ci : Nat} (hM : MF N n) (hi : Cond.instanceMethod N.1 ∈ TT) (hse : Cond.selects N.1.cls N.1 N.1 ∈ TT) (hlk : Cond.methodLink M.1.cls index N.1 ∈ TT) (hd : decode M.2.1 pc = .ok (.invokevirtual index, 3)) (hrv : KD S h b = some (0, ci)) (hcl : ∃ T k, vwCl[ci]? = some (N.1.cls, T, k)) (has : as.length = n) (hr : (rest.map fun v => v.category).sum ≤ 8) (hc : cb = cb1 + mcN ∧ sb = sb1 + msN) (hcp : CP S N d mcN msN (.ref b :: as) h (fun r h' => WP S M (d + 1) cb1 sb1 Q (pc + 3) L (r.toList ++ rest) h')) : WP S M (d + 1) cb sb Q pc L (as.reverse ++ .ref b :: rest) h := by
  intro p l e R s m args below meth c G B mc ms C ls H locs cells slots hl hw hS hn
  obtain ⟨Cx, Cb, Cr, Cl, Ct, Co, Ck, Cn, Cf, Cm, CK, Cs, CB, CE⟩ := C
  have C : CX M (d + 1) p R s m args meth c G B mc ms := ⟨Cx, Cb, Cr, Cl, Ct, Co, Ck, Cn, Cf, Cm, CK, Cs, CB, CE⟩
  obtain ⟨rfl, rfl⟩ := hc
  obtain ⟨T, k, hcl⟩ := hcl
  have hr2 := catsum B rest
  have PK : ∀ U : State, U.heap = H → s.WarmedH U.vm → PC S G B (.ref b :: as) h (Value.ref (B.1 + b) :: as.map (rn B)).toArray U := fun U hU hW => ⟨rfl, by rw [hU]; exact hw, CK.moved hW.alike, Cs.to hW (fun a q1 q2 => by rw [hU]; exact hS.2.1 a q1 q2)⟩
  have hv := va_recv CK (vaP1 (hw.2 b _ hrv)) hcl (q0 := 0) (a := B.1 + b) (ci := ci) (fs := fs_ S B h b ci) rfl
  refine back_to C hl hS hn (va_runV (As := as.map (rn B)) (b := B.1 + b) ⟨Cx, Cb, Cl, Co, Ct⟩ (hcp l G B) ⟨callB_of n Ct (goodWS hM) rfl rfl rfl (Ct _ hM.2.1) (Ct _ hlk) hM.2.2.1 ⟨by have := hM.2.2.2; show d + 1 ≤ R.frames; omega, by have := hM.2.2.2; show 8 + (N.2.2.1 + 11) + 64 * d ≤ R.locals; omega⟩, Ct _ hi, Ct _ hse⟩ ⟨blindPC, hv, PK⟩ rfl (by rw [List.length_map]; exact has) hl.1 (by simp [rn]) (lv_room (Nat.le_trans hr2 hr)) hd ⟨by omega, by omega⟩)
theorem wp_callS {S : SH} {M : MD} {d cb sb : Nat} {Q : Option Value → AH → Prop} {pc : Nat} {L rest as : List Value} {h : AH} {N : MD} {index n cb1 sb1 mcN msN : Nat} (hM : MF N n) (hi : Cond.static N.1 ∈ TT) (hlk : Cond.methodLink M.1.cls index N.1 ∈ TT) (hd : decode M.2.1 pc = .ok (.invokestatic index, 3)) (has : as.length = n) (hr : (rest.map fun v => v.category).sum ≤ 8) (hc : cb = cb1 + mcN ∧ sb = sb1 + msN) (hcp : CP S N d mcN msN as h (fun r h' => WP S M (d + 1) cb1 sb1 Q (pc + 3) L (r.toList ++ rest) h')) : WP S M (d + 1) cb sb Q pc L (as.reverse ++ rest) h := by
  intro p l e R s m args below meth c G B mc ms C ls H locs cells slots hl hw hS hn
  obtain ⟨Cx, Cb, Cr, Cl, Ct, Co, Ck, Cn, Cf, Cm, CK, Cs, CB, CE⟩ := C
  have C : CX M (d + 1) p R s m args meth c G B mc ms := ⟨Cx, Cb, Cr, Cl, Ct, Co, Ck, Cn, Cf, Cm, CK, Cs, CB, CE⟩
  obtain ⟨rfl, rfl⟩ := hc
  have hr2 := catsum B rest
  have PK : ∀ U : State, U.heap = H → s.WarmedH U.vm → PC S G B as h (as.map (rn B)).toArray U := fun U hU hW => ⟨rfl, by rw [hU]; exact hw, CK.moved hW.alike, Cs.to hW (fun a q1 q2 => by rw [hU]; exact hS.2.1 a q1 q2)⟩
  refine back_to C hl hS hn (va_runS (As := as.map (rn B)) ⟨Cx, Cb, Cl, Co, Ct⟩ (hcp l G B) ⟨callB_of n Ct (goodWS hM) rfl rfl rfl (Ct _ hM.2.1) (Ct _ hlk) hM.2.2.1 ⟨by have := hM.2.2.2; show d + 1 ≤ R.frames; omega, by have := hM.2.2.2; show 8 + (N.2.2.1 + 11) + 64 * d ≤ R.locals; omega⟩, Ct _ hi⟩ ⟨blindPC, PK⟩ rfl (by rw [List.length_map]; exact has) hl.1 (by simp) (lv_room (Nat.le_trans hr2 hr)) hd ⟨by omega, by omega⟩)
theorem wp_callI {S : SH} {M : MD} {d cb sb : Nat} {Q : Option Value → AH → Prop} {pc : Nat} {L rest as : List Value} {h : AH} {N : MD} {index n cb1 sb1 mcN msN : Nat} {b : Nat} (hM : MF N n) (hnone : N.2.2.2.1 = none) (hi : Cond.instanceMethod N.1 ∈ TT) (hy : N.1.name = "<init>") (hlk : Cond.methodLink M.1.cls index N.1 ∈ TT) (hd : decode M.2.1 pc = .ok (.invokespecial index, 3)) (has : as.length = n) (hr : (rest.map fun v => v.category).sum ≤ 8) (hc : cb = cb1 + mcN ∧ sb = sb1 + msN) (hcp : CP S N d mcN msN (.ref b :: as) h (fun r h' => WP S M (d + 1) cb1 sb1 Q (pc + 3) L (r.toList ++ rest) h')) : WP S M (d + 1) cb sb Q pc L (as.reverse ++ .ref b :: rest) h := by
  intro p l e R s m args below meth c G B mc ms C ls H locs cells slots hl hw hS hn
  obtain ⟨Cx, Cb, Cr, Cl, Ct, Co, Ck, Cn, Cf, Cm, CK, Cs, CB, CE⟩ := C
  have C : CX M (d + 1) p R s m args meth c G B mc ms := ⟨Cx, Cb, Cr, Cl, Ct, Co, Ck, Cn, Cf, Cm, CK, Cs, CB, CE⟩
  obtain ⟨rfl, rfl⟩ := hc
  have hr2 := catsum B rest
  have PK : ∀ U : State, U.heap = H → s.WarmedH U.vm → PC S G B (.ref b :: as) h (Value.ref (B.1 + b) :: as.map (rn B)).toArray U := fun U hU hW => ⟨rfl, by rw [hU]; exact hw, CK.moved hW.alike, Cs.to hW (fun a q1 q2 => by rw [hU]; exact hS.2.1 a q1 q2)⟩
  have cw := callB_of (rm := RM d mcN msN) (R := R) (own := M.1.cls) (index := index) (s := s) (args := args) n Ct (goodWS hM) rfl rfl rfl (Ct _ hM.2.1) (Ct _ hlk) hM.2.2.1 ⟨by have := hM.2.2.2; show d + 1 ≤ R.frames; omega, by have := hM.2.2.2; show 8 + (N.2.2.1 + 11) + 64 * d ≤ R.locals; omega⟩
  rw [hnone] at cw
  refine back_to C hl hS hn (va_runI (As := as.map (rn B)) (b := B.1 + b) ⟨Cx, Cb, Cl, Co, Ct⟩ (hcp l G B) ⟨cw, hy, Ct _ hi⟩ ⟨blindPC, PK⟩ rfl (by rw [List.length_map]; exact has) hl.1 (by simp [rn]) (lv_room (Nat.le_trans hr2 hr)) hd ⟨by omega, by omega⟩)
theorem wp_callIN {S : SH} {M : MD} {d cb sb : Nat} {Q : Option Value → AH → Prop} {pc : Nat} {L rest as : List Value} {h : AH} {N : MD} {index n cb1 sb1 mcN msN : Nat} {b : Nat} {host : String} (hM : MF N n) (hnone : N.2.2.2.1 = none) (hi : Cond.instanceMethod N.1 ∈ TT) (hy : N.1.name = "<init>") (hlk : (M.1.cls, index, N.1, host) ∈ nestL) (hd : decode M.2.1 pc = .ok (.invokespecial index, 3)) (has : as.length = n) (hr : (rest.map fun v => v.category).sum ≤ 8) (hc : cb = cb1 + mcN ∧ sb = sb1 + msN) (hcp : CP S N d mcN msN (.ref b :: as) h (fun r h' => WP S M (d + 1) cb1 sb1 Q (pc + 3) L (r.toList ++ rest) h')) : WP S M (d + 1) cb sb Q pc L (as.reverse ++ .ref b :: rest) h := by
  intro p l e R s m args below meth c G B mc ms C ls H locs cells slots hl hw hS hn
  obtain ⟨Cx, Cb, Cr, Cl, Ct, Co, Ck, Cn, Cf, Cm, CK, Cs, CB, CE⟩ := C
  have C : CX M (d + 1) p R s m args meth c G B mc ms := ⟨Cx, Cb, Cr, Cl, Ct, Co, Ck, Cn, Cf, Cm, CK, Cs, CB, CE⟩
  obtain ⟨rfl, rfl⟩ := hc
  have hr2 := catsum B rest
  have PK : ∀ U : State, U.heap = H → s.WarmedH U.vm → PC S G B (.ref b :: as) h (Value.ref (B.1 + b) :: as.map (rn B)).toArray U := fun U hU hW => ⟨rfl, by rw [hU]; exact hw, CK.moved hW.alike, Cs.to hW (fun a q1 q2 => by rw [hU]; exact hS.2.1 a q1 q2)⟩
  have cw := va_cnB (own := M.1.cls) (host := host) (index := index) (R := R) (s := s) (args := args) n Ct (goodWS hM) rfl (rm := RM d mcN msN) rfl rfl (Cs.2.2.2.1 _ hlk) (Ct _ hM.2.1) hM.2.2.1 ⟨by have := hM.2.2.2; show d + 1 ≤ R.frames; omega, by have := hM.2.2.2; show 8 + (N.2.2.1 + 11) + 64 * d ≤ R.locals; omega⟩
  rw [hnone] at cw
  refine back_to C hl hS hn (va_runIN (As := as.map (rn B)) (b := B.1 + b) ⟨Cx, Cb, Cl, Co, Ct⟩ (hcp l G B) ⟨cw, hy, Ct _ hi⟩ ⟨blindPC, PK⟩ rfl (by rw [List.length_map]; exact has) hl.1 (by simp [rn]) (lv_room (Nat.le_trans hr2 hr)) hd ⟨by omega, by omega⟩)
end
section
def ok {α : Type} (x : Option (α × AH)) (K : α → AH → Prop) : Prop := ∃ r h, x = some (r, h) ∧ K r h
theorem ok_t {α : Type} {c : Prop} [Decidable c] {x y : Option (α × AH)} {K : α → AH → Prop} (hc : c) (k : ok (if c then x else y) K) : ok x K := by rwa [if_pos hc] at k
theorem ok_f {α : Type} {c : Prop} [Decidable c] {x y : Option (α × AH)} {K : α → AH → Prop} (hc : ¬ c) (k : ok (if c then x else y) K) : ok y K := by rwa [if_neg hc] at k
theorem ok_bind {α β : Type} {x : Option β} {f : β → Option (α × AH)} {K : α → AH → Prop} (k : ok (x.bind f) K) : ∃ v, x = some v ∧ ok (f v) K := by
  cases x with
  | none => obtain ⟨r, h, e, -⟩ := k; cases e
  | some v => exact ⟨v, rfl, k⟩
theorem ok_bind2 {α β : Type} {x : Option (β × AH)} {f : β × AH → Option (α × AH)} {K : α → AH → Prop} (k : ok (x.bind f) K) : ok x (fun w h => ok (f (w, h)) K) := by
  obtain ⟨v, e, k⟩ := ok_bind k
  exact ⟨v.1, v.2, e, k⟩
theorem ok_some {α : Type} {r : α} {h : AH} {K : α → AH → Prop} (k : ok (some (r, h)) K) : K r h := by
  obtain ⟨r', h', e, k⟩ := k
  cases e
  exact k
theorem ok_none {α : Type} {K : α → AH → Prop} {C : Prop} (k : ok none K) : C := by
  obtain ⟨r', h', e, k⟩ := k
  cases e
theorem ok_mono {α : Type} {x : Option (α × AH)} {K K' : α → AH → Prop} (k : ok x K) (hk : ∀ r h, K r h → K' r h) : ok x K' := by
  obtain ⟨r, h, e, k⟩ := k
  exact ⟨r, h, e, hk _ _ k⟩
theorem ok_ret {α : Type} {r : α} {h : AH} {K : α → AH → Prop} (k : K r h) : ok (some (r, h)) K := ⟨r, h, rfl, k⟩
def lt {α β : Type} (e : α) (f : α → β) : β := f e
theorem ok_lt {α β : Type} {e : β} {f : β → Option (α × AH)} {K : α → AH → Prop} (k : ok (lt e f) K) : ok (f e) K := k
def FU : Nat := 1000000
/-! reads and writes, none where the machine would throw -/
def gI (S : SH) (h : AH) (p ci k : Nat) : Option Int32 := if KD S h p = some (0, ci) then some (h.2.1 p k) else none
def gJ (S : SH) (h : AH) (p ci k : Nat) : Option Int64 := if KD S h p = some (0, ci) then some (h.2.2.1 p k) else none
def gR (S : SH) (h : AH) (p ci k : Nat) : Option Nat := if KD S h p = some (0, ci) then RF S h p k else none
def pI (S : SH) (h : AH) (p ci k : Nat) (v : Int32) : Option AH := if KD S h p = some (0, ci) then some (stI h p k v) else none
def pZ (S : SH) (h : AH) (p ci k : Nat) (v : Int32) : Option AH := if KD S h p = some (0, ci) ∧ (v = 0 ∨ v = 1) then some (stI h p k v) else none
def pJ (S : SH) (h : AH) (p ci k : Nat) (v : Int64) : Option AH := if KD S h p = some (0, ci) then some (stJ h p k v) else none
def ckO (S : SH) (h : AH) (p ci : Nat) : Option Unit := if KD S h p = some (0, ci) then some () else none
def aI (S : SH) (h : AH) (p : Nat) (i : Int32) : Option Int32 := match KD S h p with
  | some (1, n) => if i < 0 ∨ n ≤ i.toNatClampNeg then none else some (h.2.1 p i.toNatClampNeg)
  | _ => none
def aJ (S : SH) (h : AH) (p : Nat) (i : Int32) : Option Int64 := match KD S h p with
  | some (2, n) => if i < 0 ∨ n ≤ i.toNatClampNeg then none else some (h.2.2.1 p i.toNatClampNeg)
  | _ => none
def aZ (S : SH) (h : AH) (p : Nat) (i : Int32) : Option Int32 := match KD S h p with
  | some (3, n) => if i < 0 ∨ n ≤ i.toNatClampNeg then none else some (h.2.1 p i.toNatClampNeg)
  | _ => none
def aR (S : SH) (h : AH) (p : Nat) (i : Int32) : Option (Option Nat) := match KD S h p with
  | some (4, n) => if i < 0 ∨ n ≤ i.toNatClampNeg then none else some (RF S h p i.toNatClampNeg)
  | some (5, n) => if i < 0 ∨ n ≤ i.toNatClampNeg then none else some (RF S h p i.toNatClampNeg)
  | _ => none
def sI (S : SH) (h : AH) (p : Nat) (i : Int32) (x : Int32) : Option AH := match KD S h p with
  | some (1, n) => if i < 0 ∨ n ≤ i.toNatClampNeg then none else some (stI h p i.toNatClampNeg x)
  | _ => none
def sJ (S : SH) (h : AH) (p : Nat) (i : Int32) (x : Int64) : Option AH := match KD S h p with
  | some (2, n) => if i < 0 ∨ n ≤ i.toNatClampNeg then none else some (stJ h p i.toNatClampNeg x)
  | _ => none
def sZ (S : SH) (h : AH) (p : Nat) (i : Int32) (x : Int32) : Option AH := match KD S h p with
  | some (3, n) => if i < 0 ∨ n ≤ i.toNatClampNeg ∨ ¬ (x = 0 ∨ x = 1) then none else some (stI h p i.toNatClampNeg x)
  | _ => none
def lnA (S : SH) (h : AH) (p : Nat) : Option Int32 := match KD S h p with
  | some (t, n) => if 1 ≤ t ∧ t ≤ 5 then some (nI n) else none
  | none => none
def rmI (x y : Int32) : Int32 := x - x / y * y
def rmJ (x y : Int64) : Int64 := x - x / y * y
def mxI (x y : Int32) : Int32 := if x < y then y else x
def mnI (x y : Int32) : Int32 := if y < x then y else x
def abI (x : Int32) : Int32 := if 0 ≤ x then x else 0 - x
def shrU (x y : Int32) : Int32 := (x.toUInt32 >>> (y.toUInt32 &&& Int32.toUInt32 31)).toInt32
def nz (x : Int32) : Option Unit := if x = 0 then none else some ()
def nzJ (x : Int64) : Option Unit := if x = 0 then none else some ()
def isZ (x : Int32) : Option Unit := if x = 0 ∨ x = 1 then some () else none
theorem nz_e {x : Int32} {u : Unit} (h : nz x = some u) : ¬ x = 0 := fun q => by simp [nz, q] at h
theorem nzJ_e {x : Int64} {u : Unit} (h : nzJ x = some u) : ¬ x = 0 := fun q => by simp [nzJ, q] at h
theorem isZ_e {x : Int32} {u : Unit} (h : isZ x = some u) : x = 0 ∨ x = 1 := by
  unfold isZ at h
  split at h
  · assumption
  · cases h
theorem isZ_n {x : Int32} {u : Unit} (h : isZ x = some u) : narrow .boolean (.int x) = .int x := by
  rcases isZ_e h with rfl | rfl <;> rfl
theorem if_some {α : Type} {c : Prop} [Decidable c] {x y : α} (h : (if c then some x else none) = some y) : c ∧ x = y := by
  split at h
  · cases h; exact ⟨by assumption, rfl⟩
  · cases h
theorem if_none {α : Type} {c : Prop} [Decidable c] {x y : α} (h : (if c then none else some x) = some y) : ¬ c ∧ x = y := by
  split at h
  · cases h
  · cases h; exact ⟨by assumption, rfl⟩
def cpyI (h : AH) (a sp b dp n : Nat) : AH := (h.1, (fun q j => if q = b then va_cpy (h.2.1 a) (h.2.1 b) sp dp n j else h.2.1 q j), h.2.2.1, h.2.2.2)
def cpyR (S : SH) (h : AH) (a sp b dp n : Nat) : AH := (h.1, h.2.1, h.2.2.1, fun q j => if q = b then va_cpy (RF S h a) (RF S h b) sp dp n j else h.2.2.2 q j)
def cpI (S : SH) (h : AH) (a : Nat) (sp : Int32) (b : Nat) (dp n : Int32) : Option AH := match KD S h a, KD S h b with
  | some (1, n0), some (1, n1) => if sp < 0 ∨ dp < 0 ∨ n < 0 ∨ n0 < sp.toNatClampNeg + n.toNatClampNeg ∨ n1 < dp.toNatClampNeg + n.toNatClampNeg then none else some (cpyI h a sp.toNatClampNeg b dp.toNatClampNeg n.toNatClampNeg)
  | _, _ => none
def cpR (S : SH) (h : AH) (a : Nat) (sp : Int32) (b : Nat) (dp n : Int32) : Option AH := match KD S h a, KD S h b with
  | some (5, n0), some (5, n1) => if (sp < 0 ∨ dp < 0 ∨ n < 0 ∨ n0 < sp.toNatClampNeg + n.toNatClampNeg ∨ n1 < dp.toNatClampNeg + n.toNatClampNeg) ∨ (S.2 b).isSome = true ∨ ¬ ((List.range n.toNatClampNeg).all (fun i => (RF S h a (sp.toNatClampNeg + i)).all fun y => decide (KD S h y = some (0, 8)))) = true then none else some (cpyR S h a sp.toNatClampNeg b dp.toNatClampNeg n.toNatClampNeg)
  | _, _ => none
theorem wq_getI {S : SH} {M : MD} {d cb sb : Nat} {Q : Option Value → AH → Prop} {pc : Nat} {L st : List Value} {h : AH} {index ci k p0 : Nat} {fin : Bool} {x : Int32} (hF : FL M.1.cls index ci k fin) (hty : cTy ci k = .int ∨ cTy ci k = .boolean) (hd : decode M.2.1 pc = .ok (.getfield index, 3)) (hv : gI S h p0 ci k = some x) (kn : WP S M d cb sb Q (pc + 3) L (.int x :: st) h) : WP S M d cb sb Q pc L (.ref p0 :: st) h := by
  obtain ⟨h1, rfl⟩ := if_some hv
  exact wp_get hF h1 (by rcases hty with hty | hty <;> simp [hty, avl]) hd kn
theorem wq_getJ {S : SH} {M : MD} {d cb sb : Nat} {Q : Option Value → AH → Prop} {pc : Nat} {L st : List Value} {h : AH} {index ci k p0 : Nat} {fin : Bool} {x : Int64} (hF : FL M.1.cls index ci k fin) (hty : cTy ci k = .long) (hd : decode M.2.1 pc = .ok (.getfield index, 3)) (hv : gJ S h p0 ci k = some x) (kn : WP S M d cb sb Q (pc + 3) L (.long x :: st) h) : WP S M d cb sb Q pc L (.ref p0 :: st) h := by
  obtain ⟨h1, rfl⟩ := if_some hv
  exact wp_get hF h1 (by simp [hty, avl]) hd kn
theorem wq_getR {S : SH} {M : MD} {d cb sb : Nat} {Q : Option Value → AH → Prop} {pc : Nat} {L st : List Value} {h : AH} {index ci k p0 : Nat} {fin : Bool} {x : Nat} (hF : FL M.1.cls index ci k fin) (hty : (∃ C, cTy ci k = .object C) ∨ ∃ t, cTy ci k = .array t) (hd : decode M.2.1 pc = .ok (.getfield index, 3)) (hv : gR S h p0 ci k = some x) (kn : WP S M d cb sb Q (pc + 3) L (.ref x :: st) h) : WP S M d cb sb Q pc L (.ref p0 :: st) h := by
  unfold gR at hv
  split at hv
  · refine wp_get hF (by assumption) ?_ hd kn
    rcases hty with ⟨_, hty⟩ | ⟨_, hty⟩ <;> simp [hty, avl, hv, rfv]
  · cases hv
theorem wq_putI {S : SH} {M : MD} {d cb sb : Nat} {Q : Option Value → AH → Prop} {pc : Nat} {L st : List Value} {h : AH} {index ci k p0 : Nat} {fin : Bool} {x : Int32} {h2 : AH} (hF : FL M.1.cls index ci k fin) (hfin : fin = false) (hty : cTy ci k = .int) (hd : decode M.2.1 pc = .ok (.putfield index, 3)) (hv : pI S h p0 ci k x = some h2) (kn : WP S M d cb sb Q (pc + 3) L st h2) : WP S M d cb sb Q pc L (.int x :: .ref p0 :: st) h := by
  obtain ⟨h1, rfl⟩ := if_some hv
  exact wp_putI hF (Or.inl hfin) h1 (Or.inl hty) hd rfl kn
theorem wq_putJ {S : SH} {M : MD} {d cb sb : Nat} {Q : Option Value → AH → Prop} {pc : Nat} {L st : List Value} {h : AH} {index ci k p0 : Nat} {fin : Bool} {x : Int64} {h2 : AH} (hF : FL M.1.cls index ci k fin) (hfin : fin = false) (hty : cTy ci k = .long) (hd : decode M.2.1 pc = .ok (.putfield index, 3)) (hv : pJ S h p0 ci k x = some h2) (kn : WP S M d cb sb Q (pc + 3) L st h2) : WP S M d cb sb Q pc L (.long x :: .ref p0 :: st) h := by
  obtain ⟨h1, rfl⟩ := if_some hv
  exact wp_putJ hF (Or.inl hfin) h1 hty hd rfl kn
theorem wq_putZ {S : SH} {M : MD} {d cb sb : Nat} {Q : Option Value → AH → Prop} {pc : Nat} {L st : List Value} {h : AH} {index ci k p0 : Nat} {fin : Bool} {x : Int32} {h2 : AH} (hF : FL M.1.cls index ci k fin) (hfin : fin = false) (hty : cTy ci k = .boolean) (hd : decode M.2.1 pc = .ok (.putfield index, 3)) (hv : pZ S h p0 ci k x = some h2) (kn : WP S M d cb sb Q (pc + 3) L st h2) : WP S M d cb sb Q pc L (.int x :: .ref p0 :: st) h := by
  obtain ⟨h1, rfl⟩ := if_some hv
  exact wp_putI hF (Or.inl hfin) h1.1 (Or.inr ⟨hty, h1.2⟩) hd rfl kn
theorem wq_aI {S : SH} {M : MD} {d cb sb : Nat} {Q : Option Value → AH → Prop} {pc : Nat} {L st : List Value} {h : AH} {p0 : Nat} {i : Int32} {x : Int32} (hd : decode M.2.1 pc = .ok (.iaload, 1)) (hv : aI S h p0 i = some x) (kn : WP S M d cb sb Q (pc + 1) L (.int x :: st) h) : WP S M d cb sb Q pc L (.int i :: .ref p0 :: st) h := by
  unfold aI at hv
  split at hv
  · obtain ⟨h1, rfl⟩ := if_none hv
    exact wp_iald (by assumption) h1 hd kn
  · cases hv
theorem wq_aJ {S : SH} {M : MD} {d cb sb : Nat} {Q : Option Value → AH → Prop} {pc : Nat} {L st : List Value} {h : AH} {p0 : Nat} {i : Int32} {x : Int64} (hd : decode M.2.1 pc = .ok (.laload, 1)) (hv : aJ S h p0 i = some x) (kn : WP S M d cb sb Q (pc + 1) L (.long x :: st) h) : WP S M d cb sb Q pc L (.int i :: .ref p0 :: st) h := by
  unfold aJ at hv
  split at hv
  · obtain ⟨h1, rfl⟩ := if_none hv
    exact wp_lald (by assumption) h1 hd kn
  · cases hv
theorem wq_aZ {S : SH} {M : MD} {d cb sb : Nat} {Q : Option Value → AH → Prop} {pc : Nat} {L st : List Value} {h : AH} {p0 : Nat} {i : Int32} {x : Int32} (hd : decode M.2.1 pc = .ok (.baload, 1)) (hv : aZ S h p0 i = some x) (kn : WP S M d cb sb Q (pc + 1) L (.int x :: st) h) : WP S M d cb sb Q pc L (.int i :: .ref p0 :: st) h := by
  unfold aZ at hv
  split at hv
  · obtain ⟨h1, rfl⟩ := if_none hv
    exact wp_zald (by assumption) h1 hd kn
  · cases hv
theorem wq_aR {S : SH} {M : MD} {d cb sb : Nat} {Q : Option Value → AH → Prop} {pc : Nat} {L st : List Value} {h : AH} {p0 : Nat} {i : Int32} {x : Option Nat} (hd : decode M.2.1 pc = .ok (.aaload, 1)) (hv : aR S h p0 i = some x) (kn : WP S M d cb sb Q (pc + 1) L (rfv x :: st) h) : WP S M d cb sb Q pc L (.int i :: .ref p0 :: st) h := by
  unfold aR at hv
  split at hv
  · obtain ⟨h1, rfl⟩ := if_none hv
    exact wp_aaldA (by assumption) h1 hd rfl kn
  · obtain ⟨h1, rfl⟩ := if_none hv
    exact wp_aaldB (by assumption) h1 hd rfl kn
  · cases hv
theorem wq_sI {S : SH} {M : MD} {d cb sb : Nat} {Q : Option Value → AH → Prop} {pc : Nat} {L st : List Value} {h : AH} {p0 : Nat} {i : Int32} {x : Int32} {h2 : AH} (hd : decode M.2.1 pc = .ok (.iastore, 1)) (hv : sI S h p0 i x = some h2) (kn : WP S M d cb sb Q (pc + 1) L st h2) : WP S M d cb sb Q pc L (.int x :: .int i :: .ref p0 :: st) h := by
  unfold sI at hv
  split at hv
  · obtain ⟨h1, rfl⟩ := if_none hv
    exact wp_iast (by assumption) h1 hd rfl kn
  · cases hv
theorem wq_sJ {S : SH} {M : MD} {d cb sb : Nat} {Q : Option Value → AH → Prop} {pc : Nat} {L st : List Value} {h : AH} {p0 : Nat} {i : Int32} {x : Int64} {h2 : AH} (hd : decode M.2.1 pc = .ok (.lastore, 1)) (hv : sJ S h p0 i x = some h2) (kn : WP S M d cb sb Q (pc + 1) L st h2) : WP S M d cb sb Q pc L (.long x :: .int i :: .ref p0 :: st) h := by
  unfold sJ at hv
  split at hv
  · obtain ⟨h1, rfl⟩ := if_none hv
    exact wp_last (by assumption) h1 hd rfl kn
  · cases hv
theorem wq_sZ {S : SH} {M : MD} {d cb sb : Nat} {Q : Option Value → AH → Prop} {pc : Nat} {L st : List Value} {h : AH} {p0 : Nat} {i : Int32} {x : Int32} {h2 : AH} (hd : decode M.2.1 pc = .ok (.bastore, 1)) (hv : sZ S h p0 i x = some h2) (kn : WP S M d cb sb Q (pc + 1) L st h2) : WP S M d cb sb Q pc L (.int x :: .int i :: .ref p0 :: st) h := by
  unfold sZ at hv
  split at hv
  · obtain ⟨h1, rfl⟩ := if_none hv
    exact wp_zast (by assumption) (fun q => h1 (q.elim Or.inl (fun q => Or.inr (Or.inl q)))) (by apply Decidable.byContradiction; intro q; exact h1 (Or.inr (Or.inr q))) hd rfl kn
  · cases hv
theorem wq_len {S : SH} {M : MD} {d cb sb : Nat} {Q : Option Value → AH → Prop} {pc : Nat} {L st : List Value} {h : AH} {p0 : Nat} {x : Int32} (hd : decode M.2.1 pc = .ok (.arraylength, 1)) (hv : lnA S h p0 = some x) (kn : WP S M d cb sb Q (pc + 1) L (.int x :: st) h) : WP S M d cb sb Q pc L (.ref p0 :: st) h := by
  unfold lnA at hv
  split at hv
  · obtain ⟨h1, rfl⟩ := if_some hv
    exact wp_alen (by assumption) h1 hd kn
  · cases hv
theorem ckO_e {S : SH} {h : AH} {p ci : Nat} {u : Unit} (hv : ckO S h p ci = some u) : KD S h p = some (0, ci) := (if_some hv).1
theorem wq_ifnn {S : SH} {M : MD} {d cb sb : Nat} {Q : Option Value → AH → Prop} {pc : Nat} {L st : List Value} {h : AH} {x : Option Nat} {off : Int} (tgt : Nat) (hd : decode M.2.1 pc = .ok (.ifnonnull off, 3)) (ht : (pc : Int) + off = (tgt : Int)) (kt : ∀ q, x = some q → WP S M d cb sb Q tgt L st h) (kf : x = none → WP S M d cb sb Q (pc + 3) L st h) : WP S M d cb sb Q pc L (rfv x :: st) h := by
  cases x with
  | none => exact wp_ifnonnullN hd (kf rfl)
  | some q => exact wp_ifnonnull tgt hd ht (kt q rfl)
theorem tab_out {x : Int32} {lo : Int} {n : Nat} (h : ∀ i : Nat, i < n → ¬ x.toInt = lo + i) : x.toInt < lo ∨ lo + (n : Int) - 1 < x.toInt := by
  by_cases h1 : x.toInt < lo
  · exact Or.inl h1
  · by_cases h2 : lo + (n : Int) - 1 < x.toInt
    · exact Or.inr h2
    · exact absurd (show x.toInt = lo + ((x.toInt - lo).toNat : Nat) by omega) (h _ (by omega))
theorem ti_ne {x c : Int32} {z : Int} (h : ¬ x = c) (hc : c.toInt = z) : ¬ x.toInt = z := fun q => h (Int32.toInt_inj.mp (q.trans hc.symm))
theorem wp_copyI {S : SH} {M : MD} {d cb sb : Nat} {Q : Option Value → AH → Prop} {pc : Nat} {L st : List Value} {h : AH} {index a b n0 n1 : Nat} {sp dp n : Int32} (hlk : Cond.methodLink M.1.cls index arraycopyName ∈ TT) (hna : Cond.native arraycopyName ∈ TT) (hst : Cond.static arraycopyName ∈ TT) (hini : Cond.initialized "java/lang/System" ∈ TT) (hr : (st.map fun v => v.category).sum ≤ 8) (hd : decode M.2.1 pc = .ok (.invokestatic index, 3)) (ha : KD S h a = some (1, n0)) (hb : KD S h b = some (1, n1)) (h1 : ¬ sp < 0) (h2 : ¬ dp < 0) (h3 : ¬ n < 0) (h4 : sp.toNatClampNeg + n.toNatClampNeg ≤ n0) (h5 : dp.toNatClampNeg + n.toNatClampNeg ≤ n1) (kn : WP S M (d + 1) cb sb Q (pc + 3) L st (cpyI h a sp.toNatClampNeg b dp.toNatClampNeg n.toNatClampNeg)) : WP S M (d + 1) cb sb Q pc L (.int n :: .int dp :: .ref b :: .int sp :: .ref a :: st) h := by
  intro p l e R s m args below meth c G B mc ms C ls H locs cells slots hl hw hS hn
  obtain ⟨Cx, Cb, Cr, Cl, Ct, Co, Ck, Cn, Cf, Cm, CK, Cs, CB, CE⟩ := C
  have C : CX M (d + 1) p R s m args meth c G B mc ms := ⟨Cx, Cb, Cr, Cl, Ct, Co, Ck, Cn, Cf, Cm, CK, Cs, CB, CE⟩
  have hr2 := catsum B st
  have nn : ∀ z : Int32, ¬ z < 0 → z.toInt = (z.toNatClampNeg : Int) := by
    intro z hz
    have h0 : (0 : Int) ≤ z.toInt := by simpa using Int32.le_iff_toInt_le.mp (Int32.not_lt.mp hz)
    show z.toInt = ((z.toInt.toNat : Nat) : Int)
    omega
  intro T hT X
  have hc0 : H[B.1 + a]? = some (vp_cell (G.2.1 0) (n0, .inl (h.2.1 a))) := hw.2 a _ ha
  have hc1 : H[B.1 + b]? = some (vp_cell (G.2.1 0) (n1, .inl (h.2.1 b))) := hw.2 b _ hb
  obtain ⟨-, k0, hk0, cm0, hkk0⟩ := (CK.2 0 _ rfl).1 n0 (fun j => .int (h.2.1 a j))
  obtain ⟨-, k1, hk1, cm1, hkk1⟩ := (CK.2 0 _ rfl).1 n1 (fun j => .int (h.2.1 b j))
  obtain ⟨vm', X', step⟩ := X.arraycopy Cx Co (Ct _ hlk) (Ct _ hna) (Ct _ hst) (Ct _ hini) (src := B.1 + a) (dst := B.1 + b) (cs := (vp_cell (G.2.1 0) (n0, .inl (h.2.1 a)))) (cd := (vp_cell (G.2.1 0) (n1, .inl (h.2.1 b)))) (srcPos := sp) (destPos := dp) (n := n) (by rw [hT]; exact hc0) (by rw [hT]; exact hc1)
    (fun _ h => by cases h) (fun _ h => by cases h) (fun h => by cases h) (fun h => by cases h) hk0 hk1 hkk0 hkk1 (by simp [refKind]) h1 h2 h3
    (by rw [nn sp h1, nn n h3]; show ¬ _ > ((arrV _ n0 (fun j => .int (h.2.1 a j))).slots.size : Int); rw [arrV_size]; omega)
    (by rw [nn dp h2, nn n h3]; show ¬ _ > ((arrV _ n1 (fun j => .int (h.2.1 b j))).slots.size : Int); rw [arrV_size]; omega)
    (fun vm₁ hal i hi => by
      have ee : ((vp_cell (G.2.1 0) (n0, .inl (h.2.1 a)))).slots.getD (sp.toNatClampNeg + i) .null = (fun j => .int (h.2.1 a j)) (sp.toNatClampNeg + i) := by
        show (arrV _ n0 (fun j => .int (h.2.1 a j))).slots.getD _ _ = _
        rw [Array.getD_eq_getD_getElem?, arrV_read _ _ (by omega)]
        rfl
      rw [ee]
      exact ⟨rfl, trivial⟩)
    (g := F0 m pc ls (.int n :: .int dp :: .ref (B.1 + b) :: .int sp :: .ref (B.1 + a) :: st.map (rn B))) rfl (by rw [Cl]; exact hl.1) (rest := st.map (rn B)) rfl (by rw [Cb]; exact hd) (by omega) (by show 2 * 0 + _ + (nativeFrameWords "java/lang/System" "arraycopy" 5 + 11) ≤ _; have h77 : nativeFrameWords "java/lang/System" "arraycopy" 5 ≤ 30 := (by decide); omega)
  have e1 : copied (vp_cell (G.2.1 0) (n0, .inl (h.2.1 a))) (vp_cell (G.2.1 0) (n1, .inl (h.2.1 b))) sp dp n = vp_cell (G.2.1 0) (n1, .inl (va_cpy (h.2.1 a) (h.2.1 b) sp.toNatClampNeg dp.toNatClampNeg n.toNatClampNeg)) := by
    exact va_copied (fun z => .int z) _ _ (h.2.1 a) (h.2.1 b) h4
  rw [e1] at X' step
  have hlt : B.1 + b < H.size := (Array.getElem?_eq_some_iff.mp hc1).1
  generalize hH1 : H.setIfInBounds (B.1 + b) (vp_cell (G.2.1 0) (n1, .inl (va_cpy (h.2.1 a) (h.2.1 b) sp.toNatClampNeg dp.toNatClampNeg n.toNatClampNeg))) = H1
  have hheap : ((T.setVm vm').setCell (B.1 + b) (vp_cell (G.2.1 0) (n1, .inl (va_cpy (h.2.1 a) (h.2.1 b) sp.toNatClampNeg dp.toNatClampNeg n.toNatClampNeg)))).heap = H1 := by rw [← hH1, ← hT]; rfl
  have oq : ∀ q : Nat, q ≠ B.1 + b → H1[q]? = H[q]? := fun q hq => by rw [← hH1]; simp [Array.getElem?_setIfInBounds, Ne.symm hq]
  have hz : H1.size = H.size := by rw [← hH1]; simp
  have hW2 : Wd S G B (cpyI h a sp.toNatClampNeg b dp.toNatClampNeg n.toNatClampNeg) H1 := by
    refine hw.upd rfl hb hz oq ?_ (fun q kk hq => vcell_congr ?_ ?_ ?_ kk)
    · show H1[B.1 + b]? = some (vp_cell _ _)
      rw [← hH1]
      simp [Array.getElem?_setIfInBounds, hlt, cpyI]
    all_goals first | rfl | (funext j; simp [cpyI, hq])
  obtain ⟨t, a1, b1⟩ := kn p l e R s m args below meth c G B mc ms C ls H1 _ cells slots hl hW2 ⟨by rw [hz]; exact hS.1, fun q g1 g2 => by
      rw [oq q (fun z => g2 (by rw [z]; exact Nat.le_add_right _ _))]
      exact hS.2.1 q g1 g2, fun q hq => by
      rcases List.mem_append.mp hq with z | z
      · exact hS.2.2 q z
      · obtain ⟨y, -, hy⟩ := List.mem_map.mp z
        rw [← hy]
        exact Nat.le_add_right _ _⟩ hn _ hheap X'
  exact ⟨t, step t a1, b1⟩
theorem wp_copyR {S : SH} {M : MD} {d cb sb : Nat} {Q : Option Value → AH → Prop} {pc : Nat} {L st : List Value} {h : AH} {index a b n0 n1 : Nat} {sp dp n : Int32} (hlk : Cond.methodLink M.1.cls index arraycopyName ∈ TT) (hna : Cond.native arraycopyName ∈ TT) (hst : Cond.static arraycopyName ∈ TT) (hini : Cond.initialized "java/lang/System" ∈ TT) (hr : (st.map fun v => v.category).sum ≤ 8) (hd : decode M.2.1 pc = .ok (.invokestatic index, 3)) (ha : KD S h a = some (5, n0)) (hb : KD S h b = some (5, n1)) (hs : S.2 b = none) (hel : ∀ i : Nat, i < n.toNatClampNeg → ∀ y : Nat, RF S h a (sp.toNatClampNeg + i) = some y → KD S h y = some (0, 8)) (h1 : ¬ sp < 0) (h2 : ¬ dp < 0) (h3 : ¬ n < 0) (h4 : sp.toNatClampNeg + n.toNatClampNeg ≤ n0) (h5 : dp.toNatClampNeg + n.toNatClampNeg ≤ n1) (kn : WP S M (d + 1) cb sb Q (pc + 3) L st (cpyR S h a sp.toNatClampNeg b dp.toNatClampNeg n.toNatClampNeg)) : WP S M (d + 1) cb sb Q pc L (.int n :: .int dp :: .ref b :: .int sp :: .ref a :: st) h := by
  intro p l e R s m args below meth c G B mc ms C ls H locs cells slots hl hw hS hn
  obtain ⟨Cx, Cb, Cr, Cl, Ct, Co, Ck, Cn, Cf, Cm, CK, Cs, CB, CE⟩ := C
  have C : CX M (d + 1) p R s m args meth c G B mc ms := ⟨Cx, Cb, Cr, Cl, Ct, Co, Ck, Cn, Cf, Cm, CK, Cs, CB, CE⟩
  have hr2 := catsum B st
  have nn : ∀ z : Int32, ¬ z < 0 → z.toInt = (z.toNatClampNeg : Int) := by
    intro z hz
    have h0 : (0 : Int) ≤ z.toInt := by simpa using Int32.le_iff_toInt_le.mp (Int32.not_lt.mp hz)
    show z.toInt = ((z.toInt.toNat : Nat) : Int)
    omega
  intro T hT X
  have hc0 : H[B.1 + a]? = some (vp_cell (G.2.1 4) (n0, .inr (.inr (.inr (.inr (fun j => (RF S h a j).map (B.1 + ·))))))) := hw.2 a _ ha
  have hc1 : H[B.1 + b]? = some (vp_cell (G.2.1 4) (n1, .inr (.inr (.inr (.inr (fun j => (RF S h b j).map (B.1 + ·))))))) := hw.2 b _ hb
  obtain ⟨-, k0, hk0, cm0, hkk0⟩ := (CK.2 4 _ rfl).1 n0 (fun j => va_rf ((RF S h a j).map (B.1 + ·)))
  obtain ⟨-, k1, hk1, cm1, hkk1⟩ := (CK.2 4 _ rfl).1 n1 (fun j => va_rf ((RF S h b j).map (B.1 + ·)))
  obtain ⟨vm', X', step⟩ := X.arraycopy Cx Co (Ct _ hlk) (Ct _ hna) (Ct _ hst) (Ct _ hini) (src := B.1 + a) (dst := B.1 + b) (cs := (vp_cell (G.2.1 4) (n0, .inr (.inr (.inr (.inr (fun j => (RF S h a j).map (B.1 + ·)))))))) (cd := (vp_cell (G.2.1 4) (n1, .inr (.inr (.inr (.inr (fun j => (RF S h b j).map (B.1 + ·)))))))) (srcPos := sp) (destPos := dp) (n := n) (by rw [hT]; exact hc0) (by rw [hT]; exact hc1)
    (fun _ h => by cases h) (fun _ h => by cases h) (fun h => by cases h) (fun h => by cases h) hk0 hk1 hkk0 hkk1 rfl h1 h2 h3
    (by rw [nn sp h1, nn n h3]; show ¬ _ > ((arrV _ n0 (fun j => va_rf ((RF S h a j).map (B.1 + ·)))).slots.size : Int); rw [arrV_size]; omega)
    (by rw [nn dp h2, nn n h3]; show ¬ _ > ((arrV _ n1 (fun j => va_rf ((RF S h b j).map (B.1 + ·)))).slots.size : Int); rw [arrV_size]; omega)
    (fun vm₁ hal i hi => by
      have ee : ((vp_cell (G.2.1 4) (n0, .inr (.inr (.inr (.inr (fun j => (RF S h a j).map (B.1 + ·)))))))).slots.getD (sp.toNatClampNeg + i) .null = (fun j => va_rf ((RF S h a j).map (B.1 + ·))) (sp.toNatClampNeg + i) := by
        show (arrV _ n0 (fun j => va_rf ((RF S h a j).map (B.1 + ·)))).slots.getD _ _ = _
        rw [Array.getD_eq_getD_getElem?, arrV_read _ _ (by omega)]
        rfl
      rw [ee]
      dsimp only
      cases hy : RF S h a (sp.toNatClampNeg + i) with
      | none => exact ⟨rfl, trivial⟩
      | some y =>
        obtain ⟨cellV, g1, g2, g3⟩ := va_recv CK (vaP1 (hw.2 y _ (hel i hi y hy))) (q := (RX8, TX8, 4)) (ci := 8) (fs := fs_ S B h y 8) rfl (q0 := 0) (a := B.1 + y) rfl
        obtain ⟨kA, comp, r1, r2, r3, -⟩ : va_RA s (G.2.1 4) (.object RX8) := (CK.2 4 _ rfl).2
        cases hk1.symm.trans r1
        cases hkk1.symm.trans r2
        obtain ⟨kC, hkC, -⟩ := Vm.findClass_spec g3
        obtain ⟨kC', hkC', -⟩ := hal.2.2 _ _ hkC
        cases r3.symm.trans g3
        refine ⟨rfl, cellV, (show T.heap[B.1 + y]? = some cellV by rw [hT]; exact g1), (fun q h => by rw [h] at g2; cases g2), ⟨kC', hkC'⟩, ⟨kC', hkC'⟩, ?_⟩
        show vm₁.assignable _ _ = true
        rw [hal.assignable]
        exact va_assign (CK.1 8 _ rfl).2 |> fun z => by rwa [Option.some.inj ((CK.1 8 _ rfl).2.1.symm.trans g3)] at z)
    (g := F0 m pc ls (.int n :: .int dp :: .ref (B.1 + b) :: .int sp :: .ref (B.1 + a) :: st.map (rn B))) rfl (by rw [Cl]; exact hl.1) (rest := st.map (rn B)) rfl (by rw [Cb]; exact hd) (by omega) (by show 2 * 0 + _ + (nativeFrameWords "java/lang/System" "arraycopy" 5 + 11) ≤ _; have h77 : nativeFrameWords "java/lang/System" "arraycopy" 5 ≤ 30 := (by decide); omega)
  have e1 : copied (vp_cell (G.2.1 4) (n0, .inr (.inr (.inr (.inr (fun j => (RF S h a j).map (B.1 + ·))))))) (vp_cell (G.2.1 4) (n1, .inr (.inr (.inr (.inr (fun j => (RF S h b j).map (B.1 + ·))))))) sp dp n = vp_cell (G.2.1 4) (n1, .inr (.inr (.inr (.inr (va_cpy (fun j => (RF S h a j).map (B.1 + ·)) (fun j => (RF S h b j).map (B.1 + ·)) sp.toNatClampNeg dp.toNatClampNeg n.toNatClampNeg))))) := by
    exact va_copied (fun z => va_rf z) _ _ (fun j => (RF S h a j).map (B.1 + ·)) (fun j => (RF S h b j).map (B.1 + ·)) h4
  rw [e1] at X' step
  have hlt : B.1 + b < H.size := (Array.getElem?_eq_some_iff.mp hc1).1
  generalize hH1 : H.setIfInBounds (B.1 + b) (vp_cell (G.2.1 4) (n1, .inr (.inr (.inr (.inr (va_cpy (fun j => (RF S h a j).map (B.1 + ·)) (fun j => (RF S h b j).map (B.1 + ·)) sp.toNatClampNeg dp.toNatClampNeg n.toNatClampNeg)))))) = H1
  have hheap : ((T.setVm vm').setCell (B.1 + b) (vp_cell (G.2.1 4) (n1, .inr (.inr (.inr (.inr (va_cpy (fun j => (RF S h a j).map (B.1 + ·)) (fun j => (RF S h b j).map (B.1 + ·)) sp.toNatClampNeg dp.toNatClampNeg n.toNatClampNeg))))))).heap = H1 := by rw [← hH1, ← hT]; rfl
  have oq : ∀ q : Nat, q ≠ B.1 + b → H1[q]? = H[q]? := fun q hq => by rw [← hH1]; simp [Array.getElem?_setIfInBounds, Ne.symm hq]
  have hz : H1.size = H.size := by rw [← hH1]; simp
  have hW2 : Wd S G B (cpyR S h a sp.toNatClampNeg b dp.toNatClampNeg n.toNatClampNeg) H1 := by
    refine hw.upd rfl hb hz oq ?_ (fun q kk hq => vcell_congr ?_ ?_ ?_ kk)
    · show H1[B.1 + b]? = some (vp_cell _ _)
      rw [← hH1]
      have hz2 : (fun j => (RF S (cpyR S h a sp.toNatClampNeg b dp.toNatClampNeg n.toNatClampNeg) b j).map (B.1 + ·)) = va_cpy (fun j => (RF S h a j).map (B.1 + ·)) (fun j => (RF S h b j).map (B.1 + ·)) sp.toNatClampNeg dp.toNatClampNeg n.toNatClampNeg := by
        funext j
        simp only [RF, hs, cpyR, va_cpy, if_true]
        split <;> rfl
      rw [hz2]
      simp [Array.getElem?_setIfInBounds, hlt]
    all_goals first | rfl | (funext j; simp [cpyR, hq])
  obtain ⟨t, a1, b1⟩ := kn p l e R s m args below meth c G B mc ms C ls H1 _ cells slots hl hW2 ⟨by rw [hz]; exact hS.1, fun q g1 g2 => by
      rw [oq q (fun z => g2 (by rw [z]; exact Nat.le_add_right _ _))]
      exact hS.2.1 q g1 g2, fun q hq => by
      rcases List.mem_append.mp hq with z | z
      · exact hS.2.2 q z
      · obtain ⟨y, -, hy⟩ := List.mem_map.mp z
        rw [← hy]
        exact Nat.le_add_right _ _⟩ hn _ hheap X'
  exact ⟨t, step t a1, b1⟩
theorem wq_cpI {S : SH} {M : MD} {d cb sb : Nat} {Q : Option Value → AH → Prop} {pc : Nat} {L st : List Value} {h : AH} {index a b : Nat} {sp dp n : Int32} {h2 : AH} (hlk : Cond.methodLink M.1.cls index arraycopyName ∈ TT) (hna : Cond.native arraycopyName ∈ TT) (hst : Cond.static arraycopyName ∈ TT) (hini : Cond.initialized "java/lang/System" ∈ TT) (hr : (st.map fun v => v.category).sum ≤ 8) (hd : decode M.2.1 pc = .ok (.invokestatic index, 3)) (hv : cpI S h a sp b dp n = some h2) (kn : WP S M (d + 1) cb sb Q (pc + 3) L st h2) : WP S M (d + 1) cb sb Q pc L (.int n :: .int dp :: .ref b :: .int sp :: .ref a :: st) h := by
  unfold cpI at hv
  split at hv
  · obtain ⟨h1, rfl⟩ := if_none hv
    simp only [not_or] at h1
    exact wp_copyI hlk hna hst hini hr hd (by assumption) (by assumption) h1.1 h1.2.1 h1.2.2.1 (Nat.not_lt.mp h1.2.2.2.1) (Nat.not_lt.mp h1.2.2.2.2) kn
  · cases hv
theorem wq_cpR {S : SH} {M : MD} {d cb sb : Nat} {Q : Option Value → AH → Prop} {pc : Nat} {L st : List Value} {h : AH} {index a b : Nat} {sp dp n : Int32} {h2 : AH} (hlk : Cond.methodLink M.1.cls index arraycopyName ∈ TT) (hna : Cond.native arraycopyName ∈ TT) (hst : Cond.static arraycopyName ∈ TT) (hini : Cond.initialized "java/lang/System" ∈ TT) (hr : (st.map fun v => v.category).sum ≤ 8) (hd : decode M.2.1 pc = .ok (.invokestatic index, 3)) (hv : cpR S h a sp b dp n = some h2) (kn : WP S M (d + 1) cb sb Q (pc + 3) L st h2) : WP S M (d + 1) cb sb Q pc L (.int n :: .int dp :: .ref b :: .int sp :: .ref a :: st) h := by
  unfold cpR at hv
  split at hv
  · obtain ⟨h0, rfl⟩ := if_none hv
    have h1 : ¬ (sp < 0 ∨ dp < 0 ∨ n < 0 ∨ _ ∨ _) := fun q => h0 (Or.inl q)
    simp only [not_or] at h1
    have hs : S.2 b = none := by
      cases hz : S.2 b with
      | none => rfl
      | some f => exact absurd (Or.inr (Or.inl (by rw [hz]; rfl))) h0
    have hel := Decidable.byContradiction fun q => h0 (Or.inr (Or.inr q))
    refine wp_copyR hlk hna hst hini hr hd (by assumption) (by assumption) hs (fun i hi y hy => ?_) h1.1 h1.2.1 h1.2.2.1 (Nat.not_lt.mp h1.2.2.2.1) (Nat.not_lt.mp h1.2.2.2.2) kn
    have := List.all_eq_true.mp hel i (List.mem_range.mpr hi)
    rw [hy] at this
    simpa using this
  · cases hv
end
section
theorem kw_of {C : String} {T : u_T} {N : Nat} (ps : List Nat) (h : (List.range N).all (fun k => decide (lw_tbl[ps.getD k 0]? = some (u_lay C T k)) && goodWord (u_lay C T k)) = true) : ∀ w ∈ u_ws C T N, w ∈ TT := by
  intro w hw
  obtain ⟨k, hk, rfl⟩ := List.mem_map.mp hw
  have h1 := List.all_eq_true.mp h k hk
  simp only [Bool.and_eq_true, decide_eq_true_eq] at h1
  exact tt_of _ h1.1 h1.2
theorem kf_0 : KF 0 := ⟨RX0, TX0, 7, rfl, rfl, kw_of [396, 398, 400, 402, 404, 406, 408] (by decide +kernel), tyX0_ok, nmX0⟩
theorem kf_1 : KF 1 := ⟨RX1, TX1, 6, rfl, rfl, kw_of [365, 367, 369, 371, 373, 375] (by decide +kernel), tyX1_ok, nmX1⟩
theorem kf_2 : KF 2 := ⟨RX2, TX2, 4, rfl, rfl, kw_of [320, 322, 324, 326] (by decide +kernel), tyX2_ok, nmX2⟩
theorem kf_3 : KF 3 := ⟨RX3, TX3, 5, rfl, rfl, kw_of [448, 450, 452, 454, 456] (by decide +kernel), tyX3_ok, nmX3⟩
theorem kf_4 : KF 4 := ⟨RX4, TX4, 3, rfl, rfl, kw_of [342, 344, 346] (by decide +kernel), tyX4_ok, nmX4⟩
theorem kf_5 : KF 5 := ⟨RX5, TX5, 4, rfl, rfl, kw_of [294, 296, 298, 300] (by decide +kernel), tyX5_ok, nmX5⟩
theorem kf_6 : KF 6 := ⟨RX6, TX6, 17, rfl, rfl, kw_of [247, 249, 251, 253, 255, 257, 259, 261, 263, 265, 267, 269, 271, 273, 275, 277, 279] (by decide +kernel), tyX6_ok, nmX6⟩
theorem kf_7 : KF 7 := ⟨RX7, TX7, 4, rfl, rfl, kw_of [164, 166, 168, 170] (by decide +kernel), tyX7_ok, nmX7⟩
theorem kf_8 : KF 8 := ⟨RX8, TX8, 4, rfl, rfl, kw_of [195, 197, 199, 201] (by decide +kernel), tyX8_ok, nmX8⟩
theorem kf_9 : KF 9 := ⟨RX9, TX9, 4, rfl, rfl, kw_of [431, 433, 435, 437] (by decide +kernel), tyX9_ok, nmX9⟩
theorem kf_10 : KF 10 := ⟨RX10, TX10, 20, rfl, rfl, kw_of [479, 481, 483, 485, 487, 489, 491, 493, 495, 497, 499, 501, 503, 505, 507, 509, 511, 513, 515, 517] (by decide +kernel), tyX10_ok, nmX10⟩
theorem kf_11 : KF 11 := ⟨RX11, TX11, 58, rfl, rfl, kw_of [1246, 1248, 1250, 1252, 1254, 1256, 1258, 1260, 1262, 1264, 1266, 1268, 1270, 1272, 1274, 1276, 1278, 1280, 1282, 1284, 1286, 1288, 1290, 1292, 1294, 1296, 1298, 1300, 1302, 1304, 1306, 1308, 1310, 1312, 1314, 1316, 1318, 1320, 1322, 1324, 1326, 1328, 1330, 1332, 1334, 1336, 1338, 1340, 1342, 1344, 1346, 1348, 1350, 1352, 1354, 1356, 1358, 1360] (by decide +kernel), tyX11_ok, nmX11⟩
theorem fl_X10_9 : FL RX10 9 10 0 true := ⟨RX10, TX10, 20, rfl, by decide, tt_of 459 (by decide +kernel) (by decide +kernel), rfl, kf_10⟩
theorem fl_X10_16 : FL RX10 16 10 2 true := ⟨RX10, TX10, 20, rfl, by decide, tt_of 461 (by decide +kernel) (by decide +kernel), rfl, kf_10⟩
theorem fl_X10_20 : FL RX10 20 10 3 true := ⟨RX10, TX10, 20, rfl, by decide, tt_of 462 (by decide +kernel) (by decide +kernel), rfl, kf_10⟩
theorem fl_X10_27 : FL RX10 27 10 4 true := ⟨RX10, TX10, 20, rfl, by decide, tt_of 463 (by decide +kernel) (by decide +kernel), rfl, kf_10⟩
theorem fl_X10_31 : FL RX10 31 10 5 true := ⟨RX10, TX10, 20, rfl, by decide, tt_of 464 (by decide +kernel) (by decide +kernel), rfl, kf_10⟩
theorem fl_X10_37 : FL RX10 37 10 6 true := ⟨RX10, TX10, 20, rfl, by decide, tt_of 465 (by decide +kernel) (by decide +kernel), rfl, kf_10⟩
theorem fl_X10_41 : FL RX10 41 10 7 true := ⟨RX10, TX10, 20, rfl, by decide, tt_of 466 (by decide +kernel) (by decide +kernel), rfl, kf_10⟩
theorem fl_X10_47 : FL RX10 47 10 8 true := ⟨RX10, TX10, 20, rfl, by decide, tt_of 467 (by decide +kernel) (by decide +kernel), rfl, kf_10⟩
theorem fl_X10_54 : FL RX10 54 10 9 true := ⟨RX10, TX10, 20, rfl, by decide, tt_of 468 (by decide +kernel) (by decide +kernel), rfl, kf_10⟩
theorem fl_X10_63 : FL RX10 63 10 10 true := ⟨RX10, TX10, 20, rfl, by decide, tt_of 469 (by decide +kernel) (by decide +kernel), rfl, kf_10⟩
theorem fl_X10_72 : FL RX10 72 10 11 true := ⟨RX10, TX10, 20, rfl, by decide, tt_of 470 (by decide +kernel) (by decide +kernel), rfl, kf_10⟩
theorem fl_X10_79 : FL RX10 79 10 12 true := ⟨RX10, TX10, 20, rfl, by decide, tt_of 471 (by decide +kernel) (by decide +kernel), rfl, kf_10⟩
theorem fl_X10_83 : FL RX10 83 10 13 true := ⟨RX10, TX10, 20, rfl, by decide, tt_of 472 (by decide +kernel) (by decide +kernel), rfl, kf_10⟩
theorem fl_X10_86 : FL RX10 86 10 15 false := ⟨RX10, TX10, 20, rfl, by decide, tt_of 474 (by decide +kernel) (by decide +kernel), rfl, kf_10⟩
theorem fl_X10_90 : FL RX10 90 10 17 false := ⟨RX10, TX10, 20, rfl, by decide, tt_of 476 (by decide +kernel) (by decide +kernel), rfl, kf_10⟩
theorem fl_X10_93 : FL RX10 93 10 19 false := ⟨RX10, TX10, 20, rfl, by decide, tt_of 478 (by decide +kernel) (by decide +kernel), rfl, kf_10⟩
theorem fl_X10_100 : FL RX10 100 6 1 false := ⟨RX6, TX6, 17, rfl, by decide, tt_of 209 (by decide +kernel) (by decide +kernel), rfl, kf_6⟩
theorem fl_X10_117 : FL RX10 117 6 3 true := ⟨RX6, TX6, 17, rfl, by decide, tt_of 216 (by decide +kernel) (by decide +kernel), rfl, kf_6⟩
theorem fl_X10_120 : FL RX10 120 6 0 true := ⟨RX6, TX6, 17, rfl, by decide, tt_of 206 (by decide +kernel) (by decide +kernel), rfl, kf_6⟩
theorem fl_X10_123 : FL RX10 123 7 0 true := ⟨RX7, TX7, 4, rfl, by decide, tt_of 150 (by decide +kernel) (by decide +kernel), rfl, kf_7⟩
theorem fl_X10_126 : FL RX10 126 6 2 true := ⟨RX6, TX6, 17, rfl, by decide, tt_of 212 (by decide +kernel) (by decide +kernel), rfl, kf_6⟩
theorem fl_X10_148 : FL RX10 148 6 4 false := ⟨RX6, TX6, 17, rfl, by decide, tt_of 219 (by decide +kernel) (by decide +kernel), rfl, kf_6⟩
theorem fl_X10_154 : FL RX10 154 6 5 true := ⟨RX6, TX6, 17, rfl, by decide, tt_of 223 (by decide +kernel) (by decide +kernel), rfl, kf_6⟩
theorem fl_X10_157 : FL RX10 157 6 6 true := ⟨RX6, TX6, 17, rfl, by decide, tt_of 227 (by decide +kernel) (by decide +kernel), rfl, kf_6⟩
theorem fl_X10_160 : FL RX10 160 7 1 true := ⟨RX7, TX7, 4, rfl, by decide, tt_of 154 (by decide +kernel) (by decide +kernel), rfl, kf_7⟩
theorem fl_X10_170 : FL RX10 170 1 2 false := ⟨RX1, TX1, 6, rfl, by decide, tt_of 359 (by decide +kernel) (by decide +kernel), rfl, kf_1⟩
theorem fl_X10_173 : FL RX10 173 1 3 false := ⟨RX1, TX1, 6, rfl, by decide, tt_of 361 (by decide +kernel) (by decide +kernel), rfl, kf_1⟩
theorem fl_X10_189 : FL RX10 189 7 3 false := ⟨RX7, TX7, 4, rfl, by decide, tt_of 163 (by decide +kernel) (by decide +kernel), rfl, kf_7⟩
theorem fl_X10_192 : FL RX10 192 6 7 false := ⟨RX6, TX6, 17, rfl, by decide, tt_of 229 (by decide +kernel) (by decide +kernel), rfl, kf_6⟩
theorem fl_X10_195 : FL RX10 195 6 8 false := ⟨RX6, TX6, 17, rfl, by decide, tt_of 232 (by decide +kernel) (by decide +kernel), rfl, kf_6⟩
theorem fl_X10_198 : FL RX10 198 6 9 false := ⟨RX6, TX6, 17, rfl, by decide, tt_of 234 (by decide +kernel) (by decide +kernel), rfl, kf_6⟩
theorem fl_X10_201 : FL RX10 201 10 1 false := ⟨RX10, TX10, 20, rfl, by decide, tt_of 460 (by decide +kernel) (by decide +kernel), rfl, kf_10⟩
theorem fl_X10_214 : FL RX10 214 10 16 false := ⟨RX10, TX10, 20, rfl, by decide, tt_of 475 (by decide +kernel) (by decide +kernel), rfl, kf_10⟩
theorem fl_X10_217 : FL RX10 217 6 12 false := ⟨RX6, TX6, 17, rfl, by decide, tt_of 240 (by decide +kernel) (by decide +kernel), rfl, kf_6⟩
theorem fl_X10_228 : FL RX10 228 6 13 true := ⟨RX6, TX6, 17, rfl, by decide, tt_of 242 (by decide +kernel) (by decide +kernel), rfl, kf_6⟩
theorem fl_X10_232 : FL RX10 232 3 1 true := ⟨RX3, TX3, 5, rfl, by decide, tt_of 444 (by decide +kernel) (by decide +kernel), rfl, kf_3⟩
theorem fl_X10_244 : FL RX10 244 10 18 false := ⟨RX10, TX10, 20, rfl, by decide, tt_of 477 (by decide +kernel) (by decide +kernel), rfl, kf_10⟩
theorem fl_X10_247 : FL RX10 247 8 3 false := ⟨RX8, TX8, 4, rfl, by decide, tt_of 194 (by decide +kernel) (by decide +kernel), rfl, kf_8⟩
theorem fl_X10_260 : FL RX10 260 8 0 true := ⟨RX8, TX8, 4, rfl, by decide, tt_of 187 (by decide +kernel) (by decide +kernel), rfl, kf_8⟩
theorem fl_X10_267 : FL RX10 267 4 2 false := ⟨RX4, TX4, 3, rfl, by decide, tt_of 341 (by decide +kernel) (by decide +kernel), rfl, kf_4⟩
theorem fl_X10_274 : FL RX10 274 4 0 true := ⟨RX4, TX4, 3, rfl, by decide, tt_of 337 (by decide +kernel) (by decide +kernel), rfl, kf_4⟩
theorem fl_X10_277 : FL RX10 277 7 2 false := ⟨RX7, TX7, 4, rfl, by decide, tt_of 160 (by decide +kernel) (by decide +kernel), rfl, kf_7⟩
theorem fl_X10_292 : FL RX10 292 6 15 false := ⟨RX6, TX6, 17, rfl, by decide, tt_of 245 (by decide +kernel) (by decide +kernel), rfl, kf_6⟩
theorem fl_X10_329 : FL RX10 329 0 6 false := ⟨RX0, TX0, 7, rfl, by decide, tt_of 395 (by decide +kernel) (by decide +kernel), rfl, kf_0⟩
theorem fl_X10_332 : FL RX10 332 0 5 false := ⟨RX0, TX0, 7, rfl, by decide, tt_of 393 (by decide +kernel) (by decide +kernel), rfl, kf_0⟩
theorem fl_X10_335 : FL RX10 335 0 4 true := ⟨RX0, TX0, 7, rfl, by decide, tt_of 391 (by decide +kernel) (by decide +kernel), rfl, kf_0⟩
theorem fl_X10_365 : FL RX10 365 6 10 false := ⟨RX6, TX6, 17, rfl, by decide, tt_of 237 (by decide +kernel) (by decide +kernel), rfl, kf_6⟩
theorem fl_X10_394 : FL RX10 394 2 0 true := ⟨RX2, TX2, 4, rfl, by decide, tt_of 314 (by decide +kernel) (by decide +kernel), rfl, kf_2⟩
theorem fl_X10_398 : FL RX10 398 2 2 false := ⟨RX2, TX2, 4, rfl, by decide, tt_of 318 (by decide +kernel) (by decide +kernel), rfl, kf_2⟩
theorem fl_X10_399 : FL RX10 399 2 1 false := ⟨RX2, TX2, 4, rfl, by decide, tt_of 316 (by decide +kernel) (by decide +kernel), rfl, kf_2⟩
theorem fl_X10_403 : FL RX10 403 6 16 false := ⟨RX6, TX6, 17, rfl, by decide, tt_of 246 (by decide +kernel) (by decide +kernel), rfl, kf_6⟩
theorem fl_X10_407 : FL RX10 407 5 3 false := ⟨RX5, TX5, 4, rfl, by decide, tt_of 293 (by decide +kernel) (by decide +kernel), rfl, kf_5⟩
theorem fl_X10_410 : FL RX10 410 10 14 false := ⟨RX10, TX10, 20, rfl, by decide, tt_of 473 (by decide +kernel) (by decide +kernel), rfl, kf_10⟩
theorem fl_X0_12 : FL RX0 12 0 1 true := ⟨RX0, TX0, 7, rfl, by decide, tt_of 387 (by decide +kernel) (by decide +kernel), rfl, kf_0⟩
theorem fl_X0_18 : FL RX0 18 0 2 true := ⟨RX0, TX0, 7, rfl, by decide, tt_of 388 (by decide +kernel) (by decide +kernel), rfl, kf_0⟩
theorem fl_X0_22 : FL RX0 22 0 3 true := ⟨RX0, TX0, 7, rfl, by decide, tt_of 389 (by decide +kernel) (by decide +kernel), rfl, kf_0⟩
theorem fl_X0_25 : FL RX0 25 0 4 true := ⟨RX0, TX0, 7, rfl, by decide, tt_of 390 (by decide +kernel) (by decide +kernel), rfl, kf_0⟩
theorem fl_X0_28 : FL RX0 28 0 0 true := ⟨RX0, TX0, 7, rfl, by decide, tt_of 386 (by decide +kernel) (by decide +kernel), rfl, kf_0⟩
theorem fl_X0_36 : FL RX0 36 0 5 false := ⟨RX0, TX0, 7, rfl, by decide, tt_of 392 (by decide +kernel) (by decide +kernel), rfl, kf_0⟩
theorem fl_X0_40 : FL RX0 40 0 6 false := ⟨RX0, TX0, 7, rfl, by decide, tt_of 394 (by decide +kernel) (by decide +kernel), rfl, kf_0⟩
theorem fl_X0_53 : FL RX0 53 1 0 true := ⟨RX1, TX1, 6, rfl, by decide, tt_of 357 (by decide +kernel) (by decide +kernel), rfl, kf_1⟩
theorem fl_X0_59 : FL RX0 59 6 6 true := ⟨RX6, TX6, 17, rfl, by decide, tt_of 226 (by decide +kernel) (by decide +kernel), rfl, kf_6⟩
theorem fl_X0_68 : FL RX0 68 7 2 false := ⟨RX7, TX7, 4, rfl, by decide, tt_of 159 (by decide +kernel) (by decide +kernel), rfl, kf_7⟩
theorem fl_X0_71 : FL RX0 71 7 1 true := ⟨RX7, TX7, 4, rfl, by decide, tt_of 153 (by decide +kernel) (by decide +kernel), rfl, kf_7⟩
theorem fl_X1_9 : FL RX1 9 1 4 true := ⟨RX1, TX1, 6, rfl, by decide, tt_of 363 (by decide +kernel) (by decide +kernel), rfl, kf_1⟩
theorem fl_X1_15 : FL RX1 15 1 5 true := ⟨RX1, TX1, 6, rfl, by decide, tt_of 364 (by decide +kernel) (by decide +kernel), rfl, kf_1⟩
theorem fl_X1_18 : FL RX1 18 1 0 true := ⟨RX1, TX1, 6, rfl, by decide, tt_of 356 (by decide +kernel) (by decide +kernel), rfl, kf_1⟩
theorem fl_X1_22 : FL RX1 22 1 1 true := ⟨RX1, TX1, 6, rfl, by decide, tt_of 358 (by decide +kernel) (by decide +kernel), rfl, kf_1⟩
theorem fl_X1_26 : FL RX1 26 4 0 true := ⟨RX4, TX4, 3, rfl, by decide, tt_of 336 (by decide +kernel) (by decide +kernel), rfl, kf_4⟩
theorem fl_X1_31 : FL RX1 31 6 5 true := ⟨RX6, TX6, 17, rfl, by decide, tt_of 222 (by decide +kernel) (by decide +kernel), rfl, kf_6⟩
theorem fl_X1_36 : FL RX1 36 6 6 true := ⟨RX6, TX6, 17, rfl, by decide, tt_of 225 (by decide +kernel) (by decide +kernel), rfl, kf_6⟩
theorem fl_X1_39 : FL RX1 39 7 2 false := ⟨RX7, TX7, 4, rfl, by decide, tt_of 158 (by decide +kernel) (by decide +kernel), rfl, kf_7⟩
theorem fl_X1_45 : FL RX1 45 7 3 false := ⟨RX7, TX7, 4, rfl, by decide, tt_of 162 (by decide +kernel) (by decide +kernel), rfl, kf_7⟩
theorem fl_X1_48 : FL RX1 48 6 8 false := ⟨RX6, TX6, 17, rfl, by decide, tt_of 230 (by decide +kernel) (by decide +kernel), rfl, kf_6⟩
theorem fl_X1_51 : FL RX1 51 7 0 true := ⟨RX7, TX7, 4, rfl, by decide, tt_of 149 (by decide +kernel) (by decide +kernel), rfl, kf_7⟩
theorem fl_X1_54 : FL RX1 54 6 3 true := ⟨RX6, TX6, 17, rfl, by decide, tt_of 215 (by decide +kernel) (by decide +kernel), rfl, kf_6⟩
theorem fl_X1_82 : FL RX1 82 4 2 false := ⟨RX4, TX4, 3, rfl, by decide, tt_of 340 (by decide +kernel) (by decide +kernel), rfl, kf_4⟩
theorem fl_X1_89 : FL RX1 89 1 2 false := ⟨RX1, TX1, 6, rfl, by decide, tt_of 360 (by decide +kernel) (by decide +kernel), rfl, kf_1⟩
theorem fl_X1_92 : FL RX1 92 1 3 false := ⟨RX1, TX1, 6, rfl, by decide, tt_of 362 (by decide +kernel) (by decide +kernel), rfl, kf_1⟩
theorem fl_X1_95 : FL RX1 95 6 1 false := ⟨RX6, TX6, 17, rfl, by decide, tt_of 210 (by decide +kernel) (by decide +kernel), rfl, kf_6⟩
theorem fl_X1_102 : FL RX1 102 6 4 false := ⟨RX6, TX6, 17, rfl, by decide, tt_of 220 (by decide +kernel) (by decide +kernel), rfl, kf_6⟩
theorem fl_X1_105 : FL RX1 105 7 1 true := ⟨RX7, TX7, 4, rfl, by decide, tt_of 156 (by decide +kernel) (by decide +kernel), rfl, kf_7⟩
theorem fl_X1_112 : FL RX1 112 6 2 true := ⟨RX6, TX6, 17, rfl, by decide, tt_of 213 (by decide +kernel) (by decide +kernel), rfl, kf_6⟩
theorem fl_X1_143 : FL RX1 143 6 9 false := ⟨RX6, TX6, 17, rfl, by decide, tt_of 235 (by decide +kernel) (by decide +kernel), rfl, kf_6⟩
theorem fl_X2_12 : FL RX2 12 2 0 true := ⟨RX2, TX2, 4, rfl, by decide, tt_of 313 (by decide +kernel) (by decide +kernel), rfl, kf_2⟩
theorem fl_X2_18 : FL RX2 18 6 0 true := ⟨RX6, TX6, 17, rfl, by decide, tt_of 205 (by decide +kernel) (by decide +kernel), rfl, kf_6⟩
theorem fl_X2_25 : FL RX2 25 6 1 false := ⟨RX6, TX6, 17, rfl, by decide, tt_of 207 (by decide +kernel) (by decide +kernel), rfl, kf_6⟩
theorem fl_X2_29 : FL RX2 29 2 1 false := ⟨RX2, TX2, 4, rfl, by decide, tt_of 315 (by decide +kernel) (by decide +kernel), rfl, kf_2⟩
theorem fl_X2_30 : FL RX2 30 6 4 false := ⟨RX6, TX6, 17, rfl, by decide, tt_of 217 (by decide +kernel) (by decide +kernel), rfl, kf_6⟩
theorem fl_X2_33 : FL RX2 33 2 2 false := ⟨RX2, TX2, 4, rfl, by decide, tt_of 317 (by decide +kernel) (by decide +kernel), rfl, kf_2⟩
theorem fl_X2_34 : FL RX2 34 2 3 false := ⟨RX2, TX2, 4, rfl, by decide, tt_of 319 (by decide +kernel) (by decide +kernel), rfl, kf_2⟩
theorem fl_X3_12 : FL RX3 12 3 0 true := ⟨RX3, TX3, 5, rfl, by decide, tt_of 442 (by decide +kernel) (by decide +kernel), rfl, kf_3⟩
theorem fl_X3_23 : FL RX3 23 3 1 true := ⟨RX3, TX3, 5, rfl, by decide, tt_of 443 (by decide +kernel) (by decide +kernel), rfl, kf_3⟩
theorem fl_X3_31 : FL RX3 31 3 2 false := ⟨RX3, TX3, 5, rfl, by decide, tt_of 445 (by decide +kernel) (by decide +kernel), rfl, kf_3⟩
theorem fl_X3_35 : FL RX3 35 3 3 false := ⟨RX3, TX3, 5, rfl, by decide, tt_of 446 (by decide +kernel) (by decide +kernel), rfl, kf_3⟩
theorem fl_X3_39 : FL RX3 39 3 4 false := ⟨RX3, TX3, 5, rfl, by decide, tt_of 447 (by decide +kernel) (by decide +kernel), rfl, kf_3⟩
theorem fl_X3_42 : FL RX3 42 8 2 false := ⟨RX8, TX8, 4, rfl, by decide, tt_of 190 (by decide +kernel) (by decide +kernel), rfl, kf_8⟩
theorem fl_X3_45 : FL RX3 45 8 3 false := ⟨RX8, TX8, 4, rfl, by decide, tt_of 193 (by decide +kernel) (by decide +kernel), rfl, kf_8⟩
theorem fl_X3_69 : FL RX3 69 9 3 false := ⟨RX9, TX9, 4, rfl, by decide, tt_of 430 (by decide +kernel) (by decide +kernel), rfl, kf_9⟩
theorem fl_X3_72 : FL RX3 72 9 1 true := ⟨RX9, TX9, 4, rfl, by decide, tt_of 426 (by decide +kernel) (by decide +kernel), rfl, kf_9⟩
theorem fl_X3_76 : FL RX3 76 9 0 true := ⟨RX9, TX9, 4, rfl, by decide, tt_of 424 (by decide +kernel) (by decide +kernel), rfl, kf_9⟩
theorem fl_X3_79 : FL RX3 79 9 2 true := ⟨RX9, TX9, 4, rfl, by decide, tt_of 428 (by decide +kernel) (by decide +kernel), rfl, kf_9⟩
theorem fl_X3_85 : FL RX3 85 8 0 true := ⟨RX8, TX8, 4, rfl, by decide, tt_of 186 (by decide +kernel) (by decide +kernel), rfl, kf_8⟩
theorem fl_X4_9 : FL RX4 9 4 0 true := ⟨RX4, TX4, 3, rfl, by decide, tt_of 335 (by decide +kernel) (by decide +kernel), rfl, kf_4⟩
theorem fl_X4_15 : FL RX4 15 4 1 true := ⟨RX4, TX4, 3, rfl, by decide, tt_of 338 (by decide +kernel) (by decide +kernel), rfl, kf_4⟩
theorem fl_X4_19 : FL RX4 19 8 3 false := ⟨RX8, TX8, 4, rfl, by decide, tt_of 191 (by decide +kernel) (by decide +kernel), rfl, kf_8⟩
theorem fl_X4_29 : FL RX4 29 8 0 true := ⟨RX8, TX8, 4, rfl, by decide, tt_of 185 (by decide +kernel) (by decide +kernel), rfl, kf_8⟩
theorem fl_X4_36 : FL RX4 36 4 2 false := ⟨RX4, TX4, 3, rfl, by decide, tt_of 339 (by decide +kernel) (by decide +kernel), rfl, kf_4⟩
theorem fl_X5_13 : FL RX5 13 5 0 true := ⟨RX5, TX5, 4, rfl, by decide, tt_of 289 (by decide +kernel) (by decide +kernel), rfl, kf_5⟩
theorem fl_X5_17 : FL RX5 17 5 1 true := ⟨RX5, TX5, 4, rfl, by decide, tt_of 290 (by decide +kernel) (by decide +kernel), rfl, kf_5⟩
theorem fl_X5_20 : FL RX5 20 5 2 false := ⟨RX5, TX5, 4, rfl, by decide, tt_of 291 (by decide +kernel) (by decide +kernel), rfl, kf_5⟩
theorem fl_X5_28 : FL RX5 28 5 3 false := ⟨RX5, TX5, 4, rfl, by decide, tt_of 292 (by decide +kernel) (by decide +kernel), rfl, kf_5⟩
theorem fl_X6_12 : FL RX6 12 6 0 true := ⟨RX6, TX6, 17, rfl, by decide, tt_of 204 (by decide +kernel) (by decide +kernel), rfl, kf_6⟩
theorem fl_X6_18 : FL RX6 18 6 2 true := ⟨RX6, TX6, 17, rfl, by decide, tt_of 211 (by decide +kernel) (by decide +kernel), rfl, kf_6⟩
theorem fl_X6_22 : FL RX6 22 6 3 true := ⟨RX6, TX6, 17, rfl, by decide, tt_of 214 (by decide +kernel) (by decide +kernel), rfl, kf_6⟩
theorem fl_X6_25 : FL RX6 25 6 5 true := ⟨RX6, TX6, 17, rfl, by decide, tt_of 221 (by decide +kernel) (by decide +kernel), rfl, kf_6⟩
theorem fl_X6_28 : FL RX6 28 6 6 true := ⟨RX6, TX6, 17, rfl, by decide, tt_of 224 (by decide +kernel) (by decide +kernel), rfl, kf_6⟩
theorem fl_X6_31 : FL RX6 31 6 7 false := ⟨RX6, TX6, 17, rfl, by decide, tt_of 228 (by decide +kernel) (by decide +kernel), rfl, kf_6⟩
theorem fl_X6_35 : FL RX6 35 6 9 false := ⟨RX6, TX6, 17, rfl, by decide, tt_of 233 (by decide +kernel) (by decide +kernel), rfl, kf_6⟩
theorem fl_X6_38 : FL RX6 38 6 11 true := ⟨RX6, TX6, 17, rfl, by decide, tt_of 238 (by decide +kernel) (by decide +kernel), rfl, kf_6⟩
theorem fl_X6_43 : FL RX6 43 6 13 true := ⟨RX6, TX6, 17, rfl, by decide, tt_of 241 (by decide +kernel) (by decide +kernel), rfl, kf_6⟩
theorem fl_X6_50 : FL RX6 50 6 14 true := ⟨RX6, TX6, 17, rfl, by decide, tt_of 243 (by decide +kernel) (by decide +kernel), rfl, kf_6⟩
theorem fl_X6_54 : FL RX6 54 6 15 false := ⟨RX6, TX6, 17, rfl, by decide, tt_of 244 (by decide +kernel) (by decide +kernel), rfl, kf_6⟩
theorem fl_X6_61 : FL RX6 61 6 1 false := ⟨RX6, TX6, 17, rfl, by decide, tt_of 208 (by decide +kernel) (by decide +kernel), rfl, kf_6⟩
theorem fl_X6_70 : FL RX6 70 6 4 false := ⟨RX6, TX6, 17, rfl, by decide, tt_of 218 (by decide +kernel) (by decide +kernel), rfl, kf_6⟩
theorem fl_X6_73 : FL RX6 73 6 8 false := ⟨RX6, TX6, 17, rfl, by decide, tt_of 231 (by decide +kernel) (by decide +kernel), rfl, kf_6⟩
theorem fl_X6_76 : FL RX6 76 6 10 false := ⟨RX6, TX6, 17, rfl, by decide, tt_of 236 (by decide +kernel) (by decide +kernel), rfl, kf_6⟩
theorem fl_X6_79 : FL RX6 79 6 12 false := ⟨RX6, TX6, 17, rfl, by decide, tt_of 239 (by decide +kernel) (by decide +kernel), rfl, kf_6⟩
theorem fl_X6_88 : FL RX6 88 7 0 true := ⟨RX7, TX7, 4, rfl, by decide, tt_of 151 (by decide +kernel) (by decide +kernel), rfl, kf_7⟩
theorem fl_X6_91 : FL RX6 91 7 1 true := ⟨RX7, TX7, 4, rfl, by decide, tt_of 155 (by decide +kernel) (by decide +kernel), rfl, kf_7⟩
theorem fl_X7_9 : FL RX7 9 7 0 true := ⟨RX7, TX7, 4, rfl, by decide, tt_of 148 (by decide +kernel) (by decide +kernel), rfl, kf_7⟩
theorem fl_X7_15 : FL RX7 15 7 1 true := ⟨RX7, TX7, 4, rfl, by decide, tt_of 152 (by decide +kernel) (by decide +kernel), rfl, kf_7⟩
theorem fl_X7_24 : FL RX7 24 7 2 false := ⟨RX7, TX7, 4, rfl, by decide, tt_of 157 (by decide +kernel) (by decide +kernel), rfl, kf_7⟩
theorem fl_X7_28 : FL RX7 28 7 3 false := ⟨RX7, TX7, 4, rfl, by decide, tt_of 161 (by decide +kernel) (by decide +kernel), rfl, kf_7⟩
theorem fl_X8_15 : FL RX8 15 8 0 true := ⟨RX8, TX8, 4, rfl, by decide, tt_of 184 (by decide +kernel) (by decide +kernel), rfl, kf_8⟩
theorem fl_X8_21 : FL RX8 21 8 1 true := ⟨RX8, TX8, 4, rfl, by decide, tt_of 188 (by decide +kernel) (by decide +kernel), rfl, kf_8⟩
theorem fl_X8_24 : FL RX8 24 8 2 false := ⟨RX8, TX8, 4, rfl, by decide, tt_of 189 (by decide +kernel) (by decide +kernel), rfl, kf_8⟩
theorem fl_X8_28 : FL RX8 28 8 3 false := ⟨RX8, TX8, 4, rfl, by decide, tt_of 192 (by decide +kernel) (by decide +kernel), rfl, kf_8⟩
theorem fl_X9_9 : FL RX9 9 9 0 true := ⟨RX9, TX9, 4, rfl, by decide, tt_of 423 (by decide +kernel) (by decide +kernel), rfl, kf_9⟩
theorem fl_X9_15 : FL RX9 15 9 1 true := ⟨RX9, TX9, 4, rfl, by decide, tt_of 425 (by decide +kernel) (by decide +kernel), rfl, kf_9⟩
theorem fl_X9_18 : FL RX9 18 9 2 true := ⟨RX9, TX9, 4, rfl, by decide, tt_of 427 (by decide +kernel) (by decide +kernel), rfl, kf_9⟩
theorem fl_X9_21 : FL RX9 21 9 3 false := ⟨RX9, TX9, 4, rfl, by decide, tt_of 429 (by decide +kernel) (by decide +kernel), rfl, kf_9⟩
theorem fl_X11_7 : FL RX11 7 11 2 true := ⟨RX11, TX11, 58, rfl, by decide, tt_of 1190 (by decide +kernel) (by decide +kernel), rfl, kf_11⟩
theorem fl_X11_13 : FL RX11 13 11 3 true := ⟨RX11, TX11, 58, rfl, by decide, tt_of 1191 (by decide +kernel) (by decide +kernel), rfl, kf_11⟩
theorem fl_X11_16 : FL RX11 16 11 4 true := ⟨RX11, TX11, 58, rfl, by decide, tt_of 1192 (by decide +kernel) (by decide +kernel), rfl, kf_11⟩
theorem fl_X11_19 : FL RX11 19 11 5 true := ⟨RX11, TX11, 58, rfl, by decide, tt_of 1193 (by decide +kernel) (by decide +kernel), rfl, kf_11⟩
theorem fl_X11_23 : FL RX11 23 11 6 true := ⟨RX11, TX11, 58, rfl, by decide, tt_of 1194 (by decide +kernel) (by decide +kernel), rfl, kf_11⟩
theorem fl_X11_26 : FL RX11 26 11 7 true := ⟨RX11, TX11, 58, rfl, by decide, tt_of 1195 (by decide +kernel) (by decide +kernel), rfl, kf_11⟩
theorem fl_X11_29 : FL RX11 29 11 9 true := ⟨RX11, TX11, 58, rfl, by decide, tt_of 1197 (by decide +kernel) (by decide +kernel), rfl, kf_11⟩
theorem fl_X11_32 : FL RX11 32 11 10 true := ⟨RX11, TX11, 58, rfl, by decide, tt_of 1198 (by decide +kernel) (by decide +kernel), rfl, kf_11⟩
theorem fl_X11_35 : FL RX11 35 11 12 true := ⟨RX11, TX11, 58, rfl, by decide, tt_of 1200 (by decide +kernel) (by decide +kernel), rfl, kf_11⟩
theorem fl_X11_38 : FL RX11 38 11 18 false := ⟨RX11, TX11, 58, rfl, by decide, tt_of 1206 (by decide +kernel) (by decide +kernel), rfl, kf_11⟩
theorem fl_X11_42 : FL RX11 42 11 22 true := ⟨RX11, TX11, 58, rfl, by decide, tt_of 1210 (by decide +kernel) (by decide +kernel), rfl, kf_11⟩
theorem fl_X11_45 : FL RX11 45 11 24 true := ⟨RX11, TX11, 58, rfl, by decide, tt_of 1212 (by decide +kernel) (by decide +kernel), rfl, kf_11⟩
theorem fl_X11_48 : FL RX11 48 11 25 true := ⟨RX11, TX11, 58, rfl, by decide, tt_of 1213 (by decide +kernel) (by decide +kernel), rfl, kf_11⟩
theorem fl_X11_51 : FL RX11 51 11 27 true := ⟨RX11, TX11, 58, rfl, by decide, tt_of 1215 (by decide +kernel) (by decide +kernel), rfl, kf_11⟩
theorem fl_X11_54 : FL RX11 54 11 28 true := ⟨RX11, TX11, 58, rfl, by decide, tt_of 1216 (by decide +kernel) (by decide +kernel), rfl, kf_11⟩
theorem fl_X11_75 : FL RX11 75 11 31 true := ⟨RX11, TX11, 58, rfl, by decide, tt_of 1219 (by decide +kernel) (by decide +kernel), rfl, kf_11⟩
theorem fl_X11_87 : FL RX11 87 11 32 true := ⟨RX11, TX11, 58, rfl, by decide, tt_of 1220 (by decide +kernel) (by decide +kernel), rfl, kf_11⟩
theorem fl_X11_96 : FL RX11 96 11 33 true := ⟨RX11, TX11, 58, rfl, by decide, tt_of 1221 (by decide +kernel) (by decide +kernel), rfl, kf_11⟩
theorem fl_X11_99 : FL RX11 99 11 35 true := ⟨RX11, TX11, 58, rfl, by decide, tt_of 1223 (by decide +kernel) (by decide +kernel), rfl, kf_11⟩
theorem fl_X11_102 : FL RX11 102 11 36 true := ⟨RX11, TX11, 58, rfl, by decide, tt_of 1224 (by decide +kernel) (by decide +kernel), rfl, kf_11⟩
theorem fl_X11_105 : FL RX11 105 11 37 true := ⟨RX11, TX11, 58, rfl, by decide, tt_of 1225 (by decide +kernel) (by decide +kernel), rfl, kf_11⟩
theorem fl_X11_108 : FL RX11 108 11 41 true := ⟨RX11, TX11, 58, rfl, by decide, tt_of 1229 (by decide +kernel) (by decide +kernel), rfl, kf_11⟩
theorem fl_X11_111 : FL RX11 111 11 42 true := ⟨RX11, TX11, 58, rfl, by decide, tt_of 1230 (by decide +kernel) (by decide +kernel), rfl, kf_11⟩
theorem fl_X11_114 : FL RX11 114 11 43 true := ⟨RX11, TX11, 58, rfl, by decide, tt_of 1231 (by decide +kernel) (by decide +kernel), rfl, kf_11⟩
theorem fl_X11_117 : FL RX11 117 11 44 true := ⟨RX11, TX11, 58, rfl, by decide, tt_of 1232 (by decide +kernel) (by decide +kernel), rfl, kf_11⟩
theorem fl_X11_120 : FL RX11 120 11 46 true := ⟨RX11, TX11, 58, rfl, by decide, tt_of 1234 (by decide +kernel) (by decide +kernel), rfl, kf_11⟩
theorem fl_X11_123 : FL RX11 123 11 47 true := ⟨RX11, TX11, 58, rfl, by decide, tt_of 1235 (by decide +kernel) (by decide +kernel), rfl, kf_11⟩
theorem fl_X11_134 : FL RX11 134 11 48 true := ⟨RX11, TX11, 58, rfl, by decide, tt_of 1236 (by decide +kernel) (by decide +kernel), rfl, kf_11⟩
theorem fl_X11_137 : FL RX11 137 11 49 true := ⟨RX11, TX11, 58, rfl, by decide, tt_of 1237 (by decide +kernel) (by decide +kernel), rfl, kf_11⟩
theorem fl_X11_140 : FL RX11 140 11 52 false := ⟨RX11, TX11, 58, rfl, by decide, tt_of 1240 (by decide +kernel) (by decide +kernel), rfl, kf_11⟩
theorem fl_X11_143 : FL RX11 143 11 55 true := ⟨RX11, TX11, 58, rfl, by decide, tt_of 1243 (by decide +kernel) (by decide +kernel), rfl, kf_11⟩
theorem fl_X11_146 : FL RX11 146 11 56 false := ⟨RX11, TX11, 58, rfl, by decide, tt_of 1244 (by decide +kernel) (by decide +kernel), rfl, kf_11⟩
theorem fl_X11_149 : FL RX11 149 11 57 false := ⟨RX11, TX11, 58, rfl, by decide, tt_of 1245 (by decide +kernel) (by decide +kernel), rfl, kf_11⟩
theorem fl_X11_152 : FL RX11 152 11 0 false := ⟨RX11, TX11, 58, rfl, by decide, tt_of 1188 (by decide +kernel) (by decide +kernel), rfl, kf_11⟩
theorem fl_X11_155 : FL RX11 155 11 1 false := ⟨RX11, TX11, 58, rfl, by decide, tt_of 1189 (by decide +kernel) (by decide +kernel), rfl, kf_11⟩
theorem fl_X11_158 : FL RX11 158 11 8 false := ⟨RX11, TX11, 58, rfl, by decide, tt_of 1196 (by decide +kernel) (by decide +kernel), rfl, kf_11⟩
theorem fl_X11_243 : FL RX11 243 11 13 false := ⟨RX11, TX11, 58, rfl, by decide, tt_of 1201 (by decide +kernel) (by decide +kernel), rfl, kf_11⟩
theorem fl_X11_246 : FL RX11 246 11 11 false := ⟨RX11, TX11, 58, rfl, by decide, tt_of 1199 (by decide +kernel) (by decide +kernel), rfl, kf_11⟩
theorem fl_X11_255 : FL RX11 255 11 15 false := ⟨RX11, TX11, 58, rfl, by decide, tt_of 1203 (by decide +kernel) (by decide +kernel), rfl, kf_11⟩
theorem fl_X11_258 : FL RX11 258 11 19 false := ⟨RX11, TX11, 58, rfl, by decide, tt_of 1207 (by decide +kernel) (by decide +kernel), rfl, kf_11⟩
theorem fl_X11_265 : FL RX11 265 11 14 false := ⟨RX11, TX11, 58, rfl, by decide, tt_of 1202 (by decide +kernel) (by decide +kernel), rfl, kf_11⟩
theorem fl_X11_268 : FL RX11 268 11 17 false := ⟨RX11, TX11, 58, rfl, by decide, tt_of 1205 (by decide +kernel) (by decide +kernel), rfl, kf_11⟩
theorem fl_X11_278 : FL RX11 278 11 16 false := ⟨RX11, TX11, 58, rfl, by decide, tt_of 1204 (by decide +kernel) (by decide +kernel), rfl, kf_11⟩
theorem fl_X11_293 : FL RX11 293 11 23 false := ⟨RX11, TX11, 58, rfl, by decide, tt_of 1211 (by decide +kernel) (by decide +kernel), rfl, kf_11⟩
theorem fl_X11_296 : FL RX11 296 11 29 false := ⟨RX11, TX11, 58, rfl, by decide, tt_of 1217 (by decide +kernel) (by decide +kernel), rfl, kf_11⟩
theorem fl_X11_316 : FL RX11 316 11 30 false := ⟨RX11, TX11, 58, rfl, by decide, tt_of 1218 (by decide +kernel) (by decide +kernel), rfl, kf_11⟩
theorem fl_X11_322 : FL RX11 322 11 26 false := ⟨RX11, TX11, 58, rfl, by decide, tt_of 1214 (by decide +kernel) (by decide +kernel), rfl, kf_11⟩
theorem fl_X11_331 : FL RX11 331 11 20 false := ⟨RX11, TX11, 58, rfl, by decide, tt_of 1208 (by decide +kernel) (by decide +kernel), rfl, kf_11⟩
theorem fl_X11_385 : FL RX11 385 11 21 false := ⟨RX11, TX11, 58, rfl, by decide, tt_of 1209 (by decide +kernel) (by decide +kernel), rfl, kf_11⟩
theorem fl_X11_405 : FL RX11 405 11 38 false := ⟨RX11, TX11, 58, rfl, by decide, tt_of 1226 (by decide +kernel) (by decide +kernel), rfl, kf_11⟩
theorem fl_X11_408 : FL RX11 408 11 34 false := ⟨RX11, TX11, 58, rfl, by decide, tt_of 1222 (by decide +kernel) (by decide +kernel), rfl, kf_11⟩
theorem fl_X11_419 : FL RX11 419 11 39 false := ⟨RX11, TX11, 58, rfl, by decide, tt_of 1227 (by decide +kernel) (by decide +kernel), rfl, kf_11⟩
theorem fl_X11_425 : FL RX11 425 11 40 false := ⟨RX11, TX11, 58, rfl, by decide, tt_of 1228 (by decide +kernel) (by decide +kernel), rfl, kf_11⟩
theorem fl_X11_472 : FL RX11 472 11 45 false := ⟨RX11, TX11, 58, rfl, by decide, tt_of 1233 (by decide +kernel) (by decide +kernel), rfl, kf_11⟩
theorem fl_X11_513 : FL RX11 513 11 53 false := ⟨RX11, TX11, 58, rfl, by decide, tt_of 1241 (by decide +kernel) (by decide +kernel), rfl, kf_11⟩
theorem fl_X11_516 : FL RX11 516 11 50 false := ⟨RX11, TX11, 58, rfl, by decide, tt_of 1238 (by decide +kernel) (by decide +kernel), rfl, kf_11⟩
theorem fl_X11_519 : FL RX11 519 11 51 false := ⟨RX11, TX11, 58, rfl, by decide, tt_of 1239 (by decide +kernel) (by decide +kernel), rfl, kf_11⟩
theorem fl_X11_538 : FL RX11 538 11 54 false := ⟨RX11, TX11, 58, rfl, by decide, tt_of 1242 (by decide +kernel) (by decide +kernel), rfl, kf_11⟩
theorem ml_X10_3 : Cond.methodLink RX10 3 objectInit ∈ TT := tt_of 133 (by decide +kernel) (by decide +kernel)
theorem ml_X10_60 : Cond.methodLink RX10 60 yX1_init ∈ TT := tt_of 352 (by decide +kernel) (by decide +kernel)
theorem ml_X10_69 : Cond.methodLink RX10 69 yX0_init ∈ TT := tt_of 380 (by decide +kernel) (by decide +kernel)
theorem ml_X10_96 : Cond.methodLink RX10 96 yX10_refuse ∈ TT := tt_of 524 (by decide +kernel) (by decide +kernel)
theorem ml_X10_103 : Cond.methodLink RX10 103 yX5_clear ∈ TT := tt_of 528 (by decide +kernel) (by decide +kernel)
theorem ml_X10_106 : Cond.methodLink RX10 106 yX6_addBird ∈ TT := tt_of 532 (by decide +kernel) (by decide +kernel)
theorem ml_X10_110 : Cond.methodLink RX10 110 yX10_accept ∈ TT := tt_of 539 (by decide +kernel) (by decide +kernel)
theorem ml_X10_113 : Cond.methodLink RX10 113 yX6_hasBird ∈ TT := tt_of 547 (by decide +kernel) (by decide +kernel)
theorem ml_X10_129 : Cond.methodLink RX10 129 yX1_whomHears ∈ TT := tt_of 555 (by decide +kernel) (by decide +kernel)
theorem ml_X10_133 : Cond.methodLink RX10 133 yX6_hasMatter ∈ TT := tt_of 566 (by decide +kernel) (by decide +kernel)
theorem ml_X10_136 : Cond.methodLink RX10 136 yX1_swayed ∈ TT := tt_of 570 (by decide +kernel) (by decide +kernel)
theorem ml_X10_140 : Cond.methodLink RX10 140 yX6_lawInForce ∈ TT := tt_of 614 (by decide +kernel) (by decide +kernel)
theorem ml_X10_144 : Cond.methodLink RX10 144 yX1_vote ∈ TT := tt_of 615 (by decide +kernel) (by decide +kernel)
theorem ml_X10_151 : Cond.methodLink RX10 151 yX6_addMatter ∈ TT := tt_of 623 (by decide +kernel) (by decide +kernel)
theorem ml_X10_163 : Cond.methodLink RX10 163 yX1_timeTaken ∈ TT := tt_of 631 (by decide +kernel) (by decide +kernel)
theorem ml_X10_166 : Cond.methodLink RX10 166 yX1_poll ∈ TT := tt_of 635 (by decide +kernel) (by decide +kernel)
theorem ml_X10_176 : Cond.methodLink RX10 176 yX7_become ∈ TT := tt_of 640 (by decide +kernel) (by decide +kernel)
theorem ml_X10_180 : Cond.methodLink RX10 180 yX1_dividing ∈ TT := tt_of 647 (by decide +kernel) (by decide +kernel)
theorem ml_X10_183 : Cond.methodLink RX10 183 yX10_largestTerm ∈ TT := tt_of 668 (by decide +kernel) (by decide +kernel)
theorem ml_X10_186 : Cond.methodLink RX10 186 yX10_term ∈ TT := tt_of 671 (by decide +kernel) (by decide +kernel)
theorem ml_X10_204 : Cond.methodLink RX10 204 yX10_feedFour ∈ TT := tt_of 679 (by decide +kernel) (by decide +kernel)
theorem ml_X10_208 : Cond.methodLink RX10 208 yX10_canBeBird ∈ TT := tt_of 691 (by decide +kernel) (by decide +kernel)
theorem ml_X10_211 : Cond.methodLink RX10 211 yX10_addBirdOfRow ∈ TT := tt_of 695 (by decide +kernel) (by decide +kernel)
theorem ml_X10_220 : Cond.methodLink RX10 220 yX3_read ∈ TT := tt_of 707 (by decide +kernel) (by decide +kernel)
theorem ml_X10_224 : Cond.methodLink RX10 224 yX3_place ∈ TT := tt_of 861 (by decide +kernel) (by decide +kernel)
theorem ml_X10_236 : Cond.methodLink RX10 236 yX8_copied ∈ TT := tt_of 865 (by decide +kernel) (by decide +kernel)
theorem ml_X10_241 : Cond.methodLink RX10 241 yX5_become ∈ TT := tt_of 877 (by decide +kernel) (by decide +kernel)
theorem ml_X10_250 : Cond.methodLink RX10 250 yX10_runClause ∈ TT := tt_of 882 (by decide +kernel) (by decide +kernel)
theorem ml_X10_254 : Cond.methodLink RX10 254 yX8_head ∈ TT := tt_of 886 (by decide +kernel) (by decide +kernel)
theorem ml_X10_257 : Cond.methodLink RX10 257 yX10_tellOrders ∈ TT := tt_of 887 (by decide +kernel) (by decide +kernel)
theorem ml_X10_263 : Cond.methodLink RX10 263 yX4_reckon ∈ TT := tt_of 896 (by decide +kernel) (by decide +kernel)
theorem ml_X10_270 : Cond.methodLink RX10 270 yX10_act ∈ TT := tt_of 897 (by decide +kernel) (by decide +kernel)
theorem ml_X10_280 : Cond.methodLink RX10 280 yX1_present ∈ TT := tt_of 891 (by decide +kernel) (by decide +kernel)
theorem ml_X10_284 : Cond.methodLink RX10 284 yJ6_bitCount_0f7a4 ∈ TT := tt_of 895 (by decide +kernel) (by decide +kernel)
theorem ml_X10_289 : Cond.methodLink RX10 289 yX6_hasLaw ∈ TT := tt_of 943 (by decide +kernel) (by decide +kernel)
theorem ml_X10_295 : Cond.methodLink RX10 295 yX5_note ∈ TT := tt_of 901 (by decide +kernel) (by decide +kernel)
theorem ml_X10_298 : Cond.methodLink RX10 298 yX1_moving ∈ TT := tt_of 909 (by decide +kernel) (by decide +kernel)
theorem ml_X10_301 : Cond.methodLink RX10 301 yX1_flying ∈ TT := tt_of 918 (by decide +kernel) (by decide +kernel)
theorem ml_X10_304 : Cond.methodLink RX10 304 yX1_passing ∈ TT := tt_of 922 (by decide +kernel) (by decide +kernel)
theorem ml_X10_307 : Cond.methodLink RX10 307 yX5_keep ∈ TT := tt_of 926 (by decide +kernel) (by decide +kernel)
theorem ml_X10_310 : Cond.methodLink RX10 310 yX10_answer ∈ TT := tt_of 948 (by decide +kernel) (by decide +kernel)
theorem ml_X10_313 : Cond.methodLink RX10 313 yX5_takeBack ∈ TT := tt_of 968 (by decide +kernel) (by decide +kernel)
theorem ml_X10_316 : Cond.methodLink RX10 316 yX1_seconder ∈ TT := tt_of 980 (by decide +kernel) (by decide +kernel)
theorem ml_X10_319 : Cond.methodLink RX10 319 yX0_begin ∈ TT := tt_of 985 (by decide +kernel) (by decide +kernel)
theorem ml_X10_322 : Cond.methodLink RX10 322 yX1_moved ∈ TT := tt_of 990 (by decide +kernel) (by decide +kernel)
theorem ml_X10_325 : Cond.methodLink RX10 325 yX0_goOn ∈ TT := tt_of 994 (by decide +kernel) (by decide +kernel)
theorem ml_X10_338 : Cond.methodLink RX10 338 yX1_fewest ∈ TT := tt_of 1013 (by decide +kernel) (by decide +kernel)
theorem ml_X10_342 : Cond.methodLink RX10 342 yX10_howManyOrWho ∈ TT := tt_of 1017 (by decide +kernel) (by decide +kernel)
theorem ml_X10_345 : Cond.methodLink RX10 345 yX1_hops ∈ TT := tt_of 1028 (by decide +kernel) (by decide +kernel)
theorem ml_X10_348 : Cond.methodLink RX10 348 yX1_chainBird ∈ TT := tt_of 1036 (by decide +kernel) (by decide +kernel)
theorem ml_X10_351 : Cond.methodLink RX10 351 yX1_fewestEars ∈ TT := tt_of 1044 (by decide +kernel) (by decide +kernel)
theorem ml_X10_354 : Cond.methodLink RX10 354 yX1_hearers ∈ TT := tt_of 1061 (by decide +kernel) (by decide +kernel)
theorem ml_X10_357 : Cond.methodLink RX10 357 Lib.Math.max.name ∈ TT := tt_of 1066 (by decide +kernel) (by decide +kernel)
theorem ml_X10_362 : Cond.methodLink RX10 362 Lib.Math.abs.name ∈ TT := tt_of 1067 (by decide +kernel) (by decide +kernel)
theorem ml_X10_368 : Cond.methodLink RX10 368 yX6_hear ∈ TT := tt_of 1072 (by decide +kernel) (by decide +kernel)
theorem ml_X10_371 : Cond.methodLink RX10 371 yX1_mattersAsHeard ∈ TT := tt_of 1084 (by decide +kernel) (by decide +kernel)
theorem ml_X10_374 : Cond.methodLink RX10 374 yX10_canBe ∈ TT := tt_of 1096 (by decide +kernel) (by decide +kernel)
theorem ml_X10_377 : Cond.methodLink RX10 377 yX1_mattersAyeOn ∈ TT := tt_of 1097 (by decide +kernel) (by decide +kernel)
theorem ml_X10_386 : Cond.methodLink RX10 386 yX6_lawOf ∈ TT := tt_of 1112 (by decide +kernel) (by decide +kernel)
theorem ml_X10_391 : Cond.methodLink RX10 391 yX2_begin ∈ TT := tt_of 1118 (by decide +kernel) (by decide +kernel)
theorem ml_X10_395 : Cond.methodLink RX10 395 yX2_step ∈ TT := tt_of 1123 (by decide +kernel) (by decide +kernel)
theorem ml_X10_400 : Cond.methodLink RX10 400 yX6_become ∈ TT := tt_of 1144 (by decide +kernel) (by decide +kernel)
theorem ml_X0_3 : Cond.methodLink RX0 3 objectInit ∈ TT := tt_of 383 (by decide +kernel) (by decide +kernel)
theorem ml_X0_32 : Cond.methodLink RX0 32 yX7_become ∈ TT := tt_of 989 (by decide +kernel) (by decide +kernel)
theorem ml_X0_43 : Cond.methodLink RX0 43 arraycopyName ∈ TT := tt_of 998 (by decide +kernel) (by decide +kernel)
theorem ml_X0_49 : Cond.methodLink RX0 49 yX0_divisionAt ∈ TT := tt_of 999 (by decide +kernel) (by decide +kernel)
theorem ml_X0_64 : Cond.methodLink RX0 64 yX0_goOn ∈ TT := tt_of 1004 (by decide +kernel) (by decide +kernel)
theorem ml_X0_74 : Cond.methodLink RX0 74 yX1_dividing ∈ TT := tt_of 1003 (by decide +kernel) (by decide +kernel)
theorem ml_X1_3 : Cond.methodLink RX1 3 objectInit ∈ TT := tt_of 355 (by decide +kernel) (by decide +kernel)
theorem ml_X1_57 : Cond.methodLink RX1 57 yX1_tellLaw ∈ TT := tt_of 578 (by decide +kernel) (by decide +kernel)
theorem ml_X1_61 : Cond.methodLink RX1 61 Lib.Math.min.name ∈ TT := tt_of 612 (by decide +kernel) (by decide +kernel)
theorem ml_X1_67 : Cond.methodLink RX1 67 Lib.Math.max.name ∈ TT := tt_of 613 (by decide +kernel) (by decide +kernel)
theorem ml_X1_70 : Cond.methodLink RX1 70 yX1_tellBird ∈ TT := tt_of 574 (by decide +kernel) (by decide +kernel)
theorem ml_X1_74 : Cond.methodLink RX1 74 yX6_lawInForce ∈ TT := tt_of 582 (by decide +kernel) (by decide +kernel)
theorem ml_X1_78 : Cond.methodLink RX1 78 yX4_holds ∈ TT := tt_of 594 (by decide +kernel) (by decide +kernel)
theorem ml_X1_85 : Cond.methodLink RX1 85 yX1_within ∈ TT := tt_of 609 (by decide +kernel) (by decide +kernel)
theorem ml_X1_98 : Cond.methodLink RX1 98 yX1_vote ∈ TT := tt_of 639 (by decide +kernel) (by decide +kernel)
theorem ml_X1_108 : Cond.methodLink RX1 108 Lib.Math.abs.name ∈ TT := tt_of 563 (by decide +kernel) (by decide +kernel)
theorem ml_X1_115 : Cond.methodLink RX1 115 yX1_hears ∈ TT := tt_of 559 (by decide +kernel) (by decide +kernel)
theorem ml_X1_119 : Cond.methodLink RX1 119 yX6_hasMatter ∈ TT := tt_of 651 (by decide +kernel) (by decide +kernel)
theorem ml_X1_123 : Cond.methodLink RX1 123 yX6_hasBird ∈ TT := tt_of 913 (by decide +kernel) (by decide +kernel)
theorem ml_X1_126 : Cond.methodLink RX1 126 yX1_seconder ∈ TT := tt_of 914 (by decide +kernel) (by decide +kernel)
theorem ml_X1_130 : Cond.methodLink RX1 130 yX1_poll ∈ TT := tt_of 652 (by decide +kernel) (by decide +kernel)
theorem ml_X1_134 : Cond.methodLink RX1 134 yX1_timeTaken ∈ TT := tt_of 653 (by decide +kernel) (by decide +kernel)
theorem ml_X1_138 : Cond.methodLink RX1 138 yJ6_bitCount_0f7a4 ∈ TT := tt_of 654 (by decide +kernel) (by decide +kernel)
theorem ml_X1_146 : Cond.methodLink RX1 146 yX1_wouldCarry ∈ TT := tt_of 660 (by decide +kernel) (by decide +kernel)
theorem ml_X1_150 : Cond.methodLink RX1 150 yX1_nextInChain ∈ TT := tt_of 1032 (by decide +kernel) (by decide +kernel)
theorem ml_X1_153 : Cond.methodLink RX1 153 yX1_present ∈ TT := tt_of 1048 (by decide +kernel) (by decide +kernel)
theorem ml_X1_157 : Cond.methodLink RX1 157 yX1_hearers ∈ TT := tt_of 1049 (by decide +kernel) (by decide +kernel)
theorem ml_X1_160 : Cond.methodLink RX1 160 yX1_hearAll ∈ TT := tt_of 1053 (by decide +kernel) (by decide +kernel)
theorem ml_X1_163 : Cond.methodLink RX1 163 yX6_fitsAllHeard ∈ TT := tt_of 1088 (by decide +kernel) (by decide +kernel)
theorem ml_X2_3 : Cond.methodLink RX2 3 objectInit ∈ TT := tt_of 310 (by decide +kernel) (by decide +kernel)
theorem ml_X2_21 : Cond.methodLink RX2 21 yX7_become ∈ TT := tt_of 1122 (by decide +kernel) (by decide +kernel)
theorem ml_X2_38 : Cond.methodLink RX2 38 yX2_draw ∈ TT := tt_of 1127 (by decide +kernel) (by decide +kernel)
theorem ml_X2_42 : Cond.methodLink RX2 42 yX1_moving ∈ TT := tt_of 1132 (by decide +kernel) (by decide +kernel)
theorem ml_X2_48 : Cond.methodLink RX2 48 yX1_dividing ∈ TT := tt_of 1133 (by decide +kernel) (by decide +kernel)
theorem ml_X2_52 : Cond.methodLink RX2 52 yX1_flying ∈ TT := tt_of 1134 (by decide +kernel) (by decide +kernel)
theorem ml_X2_55 : Cond.methodLink RX2 55 yX1_passing ∈ TT := tt_of 1135 (by decide +kernel) (by decide +kernel)
theorem ml_X3_3 : Cond.methodLink RX3 3 objectInit ∈ TT := tt_of 416 (by decide +kernel) (by decide +kernel)
theorem ml_X3_20 : Cond.methodLink RX3 20 yX8_init ∈ TT := tt_of 441 (by decide +kernel) (by decide +kernel)
theorem ml_X3_27 : Cond.methodLink RX3 27 yX9_cut ∈ TT := tt_of 711 (by decide +kernel) (by decide +kernel)
theorem ml_X3_48 : Cond.methodLink RX3 48 yX3_kind ∈ TT := tt_of 785 (by decide +kernel) (by decide +kernel)
theorem ml_X3_52 : Cond.methodLink RX3 52 yX3_setHead ∈ TT := tt_of 789 (by decide +kernel) (by decide +kernel)
theorem ml_X3_55 : Cond.methodLink RX3 55 yX3_lawClause ∈ TT := tt_of 797 (by decide +kernel) (by decide +kernel)
theorem ml_X3_59 : Cond.methodLink RX3 59 yX3_orderClause ∈ TT := tt_of 837 (by decide +kernel) (by decide +kernel)
theorem ml_X3_62 : Cond.methodLink RX3 62 yX3_next ∈ TT := tt_of 801 (by decide +kernel) (by decide +kernel)
theorem ml_X3_65 : Cond.methodLink RX3 65 yX3_test ∈ TT := tt_of 845 (by decide +kernel) (by decide +kernel)
theorem ml_X3_82 : Cond.methodLink RX3 82 yX8_setHead ∈ TT := tt_of 793 (by decide +kernel) (by decide +kernel)
theorem ml_X3_88 : Cond.methodLink RX3 88 yX3_sum ∈ TT := tt_of 805 (by decide +kernel) (by decide +kernel)
theorem ml_X3_91 : Cond.methodLink RX3 91 yX3_times ∈ TT := tt_of 841 (by decide +kernel) (by decide +kernel)
theorem ml_X3_94 : Cond.methodLink RX3 94 yX3_isNumber ∈ TT := tt_of 817 (by decide +kernel) (by decide +kernel)
theorem ml_X3_98 : Cond.methodLink RX3 98 yX3_number ∈ TT := tt_of 821 (by decide +kernel) (by decide +kernel)
theorem ml_X3_101 : Cond.methodLink RX3 101 yX3_plain ∈ TT := tt_of 849 (by decide +kernel) (by decide +kernel)
theorem ml_X3_104 : Cond.methodLink RX3 104 yX3_leapHere ∈ TT := tt_of 857 (by decide +kernel) (by decide +kernel)
theorem ml_X3_108 : Cond.methodLink RX3 108 yX3_emit ∈ TT := tt_of 825 (by decide +kernel) (by decide +kernel)
theorem ml_X3_111 : Cond.methodLink RX3 111 yX3_testInBrackets ∈ TT := tt_of 853 (by decide +kernel) (by decide +kernel)
theorem ml_X3_114 : Cond.methodLink RX3 114 yX3_part ∈ TT := tt_of 809 (by decide +kernel) (by decide +kernel)
theorem ml_X3_117 : Cond.methodLink RX3 117 yX3_sumInBrackets ∈ TT := tt_of 813 (by decide +kernel) (by decide +kernel)
theorem ml_X3_120 : Cond.methodLink RX3 120 yX3_lawWord ∈ TT := tt_of 829 (by decide +kernel) (by decide +kernel)
theorem ml_X3_123 : Cond.methodLink RX3 123 yX3_orderWord ∈ TT := tt_of 833 (by decide +kernel) (by decide +kernel)
theorem ml_X4_3 : Cond.methodLink RX4 3 objectInit ∈ TT := tt_of 334 (by decide +kernel) (by decide +kernel)
theorem ml_X4_25 : Cond.methodLink RX4 25 yX8_head ∈ TT := tt_of 598 (by decide +kernel) (by decide +kernel)
theorem ml_X4_32 : Cond.methodLink RX4 32 yX4_reckon ∈ TT := tt_of 602 (by decide +kernel) (by decide +kernel)
theorem ml_X5_5 : Cond.methodLink RX5 5 objectInit ∈ TT := tt_of 288 (by decide +kernel) (by decide +kernel)
theorem ml_X5_24 : Cond.methodLink RX5 24 yX7_writeTo ∈ TT := tt_of 905 (by decide +kernel) (by decide +kernel)
theorem ml_X5_31 : Cond.methodLink RX5 31 Lib.Math.min.name ∈ TT := tt_of 930 (by decide +kernel) (by decide +kernel)
theorem ml_X5_37 : Cond.methodLink RX5 37 yX7_readFrom ∈ TT := tt_of 972 (by decide +kernel) (by decide +kernel)
theorem ml_X5_40 : Cond.methodLink RX5 40 arraycopyName ∈ TT := tt_of 881 (by decide +kernel) (by decide +kernel)
theorem ml_X6_3 : Cond.methodLink RX6 3 objectInit ∈ TT := tt_of 141 (by decide +kernel) (by decide +kernel)
theorem ml_X6_47 : Cond.methodLink RX6 47 yX8_init ∈ TT := tt_of 177 (by decide +kernel) (by decide +kernel)
theorem ml_X6_57 : Cond.methodLink RX6 57 yX7_become ∈ TT := tt_of 1148 (by decide +kernel) (by decide +kernel)
theorem ml_X6_64 : Cond.methodLink RX6 64 arraycopyName ∈ TT := tt_of 1149 (by decide +kernel) (by decide +kernel)
theorem ml_X6_82 : Cond.methodLink RX6 82 Lib.Math.min.name ∈ TT := tt_of 536 (by decide +kernel) (by decide +kernel)
theorem ml_X6_94 : Cond.methodLink RX6 94 yX6_lawOf ∈ TT := tt_of 586 (by decide +kernel) (by decide +kernel)
theorem ml_X6_98 : Cond.methodLink RX6 98 yX6_hasLaw ∈ TT := tt_of 590 (by decide +kernel) (by decide +kernel)
theorem ml_X7_3 : Cond.methodLink RX7 3 objectInit ∈ TT := tt_of 147 (by decide +kernel) (by decide +kernel)
theorem ml_X7_18 : Cond.methodLink RX7 18 arraycopyName ∈ TT := tt_of 644 (by decide +kernel) (by decide +kernel)
theorem ml_X8_3 : Cond.methodLink RX8 3 objectInit ∈ TT := tt_of 180 (by decide +kernel) (by decide +kernel)
theorem ml_X8_9 : Cond.methodLink RX8 9 Lib.Math.max.name ∈ TT := tt_of 181 (by decide +kernel) (by decide +kernel)
theorem ml_X8_31 : Cond.methodLink RX8 31 yX8_init ∈ TT := tt_of 870 (by decide +kernel) (by decide +kernel)
theorem ml_X8_34 : Cond.methodLink RX8 34 arraycopyName ∈ TT := tt_of 871 (by decide +kernel) (by decide +kernel)
theorem ml_X9_3 : Cond.methodLink RX9 3 objectInit ∈ TT := tt_of 422 (by decide +kernel) (by decide +kernel)
theorem ml_X9_25 : Cond.methodLink RX9 25 yX9_endOf ∈ TT := tt_of 715 (by decide +kernel) (by decide +kernel)
theorem ml_X9_29 : Cond.methodLink RX9 29 yX9_kindOf ∈ TT := tt_of 721 (by decide +kernel) (by decide +kernel)
theorem ml_X9_32 : Cond.methodLink RX9 32 yX9_numberOf ∈ TT := tt_of 776 (by decide +kernel) (by decide +kernel)
theorem ml_X9_35 : Cond.methodLink RX9 35 yX9_add ∈ TT := tt_of 781 (by decide +kernel) (by decide +kernel)
theorem ml_X9_39 : Cond.methodLink RX9 39 yX9_sortOf ∈ TT := tt_of 718 (by decide +kernel) (by decide +kernel)
theorem ml_X9_43 : Cond.methodLink RX9 43 yX9_wordOf ∈ TT := tt_of 724 (by decide +kernel) (by decide +kernel)
theorem ml_X9_48 : Cond.methodLink RX9 48 yJ0_length_8abf5 ∈ TT := tt_of 728 (by decide +kernel) (by decide +kernel)
theorem ml_X9_54 : Cond.methodLink RX9 54 yJ0_charAt_5068e ∈ TT := tt_of 738 (by decide +kernel) (by decide +kernel)
theorem ml_X9_58 : Cond.methodLink RX9 58 Lib.Math.max.name ∈ TT := tt_of 779 (by decide +kernel) (by decide +kernel)
theorem ml_X9_64 : Cond.methodLink RX9 64 Lib.Math.min.name ∈ TT := tt_of 780 (by decide +kernel) (by decide +kernel)
theorem ml_L_9 : Cond.methodLink RL 9 yX10_init ∈ TT := tt_of 130 (by decide +kernel) (by decide +kernel)
theorem ml_L_12 : Cond.methodLink RL 12 yX11_init ∈ TT := tt_of 1164 (by decide +kernel) (by decide +kernel)
theorem ml_L_13 : Cond.methodLink RL 13 yX10_bird ∈ TT := tt_of 520 (by decide +kernel) (by decide +kernel)
theorem ml_L_17 : Cond.methodLink RL 17 yX11_bird ∈ TT := tt_of 1391 (by decide +kernel) (by decide +kernel)
theorem ml_L_18 : Cond.methodLink RL 18 yX10_favour ∈ TT := tt_of 543 (by decide +kernel) (by decide +kernel)
theorem ml_L_22 : Cond.methodLink RL 22 yX11_favour ∈ TT := tt_of 1405 (by decide +kernel) (by decide +kernel)
theorem ml_L_23 : Cond.methodLink RL 23 yX10_of ∈ TT := tt_of 551 (by decide +kernel) (by decide +kernel)
theorem ml_L_26 : Cond.methodLink RL 26 yX11_of ∈ TT := tt_of 1418 (by decide +kernel) (by decide +kernel)
theorem ml_L_27 : Cond.methodLink RL 27 yX10_matter ∈ TT := tt_of 619 (by decide +kernel) (by decide +kernel)
theorem ml_L_30 : Cond.methodLink RL 30 yX11_matter ∈ TT := tt_of 1472 (by decide +kernel) (by decide +kernel)
theorem ml_L_31 : Cond.methodLink RL 31 yX10_at ∈ TT := tt_of 627 (by decide +kernel) (by decide +kernel)
theorem ml_L_34 : Cond.methodLink RL 34 yX11_at ∈ TT := tt_of 1476 (by decide +kernel) (by decide +kernel)
theorem ml_L_35 : Cond.methodLink RL 35 yX10_terms ∈ TT := tt_of 664 (by decide +kernel) (by decide +kernel)
theorem ml_L_38 : Cond.methodLink RL 38 yX11_terms ∈ TT := tt_of 1499 (by decide +kernel) (by decide +kernel)
theorem ml_L_39 : Cond.methodLink RL 39 yX10_feed ∈ TT := tt_of 675 (by decide +kernel) (by decide +kernel)
theorem ml_L_43 : Cond.methodLink RL 43 yX11_feed ∈ TT := tt_of 1518 (by decide +kernel) (by decide +kernel)
theorem ml_L_44 : Cond.methodLink RL 44 yX10_end ∈ TT := tt_of 683 (by decide +kernel) (by decide +kernel)
theorem ml_L_48 : Cond.methodLink RL 48 yX11_end ∈ TT := tt_of 1526 (by decide +kernel) (by decide +kernel)
theorem ml_L_49 : Cond.methodLink RL 49 yX10_row ∈ TT := tt_of 687 (by decide +kernel) (by decide +kernel)
theorem ml_L_53 : Cond.methodLink RL 53 yX11_row ∈ TT := tt_of 1506 (by decide +kernel) (by decide +kernel)
theorem ml_L_54 : Cond.methodLink RL 54 yX10_cats ∈ TT := tt_of 699 (by decide +kernel) (by decide +kernel)
theorem ml_L_57 : Cond.methodLink RL 57 yX11_cats ∈ TT := tt_of 1514 (by decide +kernel) (by decide +kernel)
theorem ml_L_58 : Cond.methodLink RL 58 yX10_law ∈ TT := tt_of 703 (by decide +kernel) (by decide +kernel)
theorem ml_L_61 : Cond.methodLink RL 61 yX11_law ∈ TT := tt_of 1534 (by decide +kernel) (by decide +kernel)
theorem ml_L_62 : Cond.methodLink RL 62 yX10_orders ∈ TT := tt_of 873 (by decide +kernel) (by decide +kernel)
theorem ml_L_65 : Cond.methodLink RL 65 yX11_orders ∈ TT := tt_of 1814 (by decide +kernel) (by decide +kernel)
theorem ml_L_66 : Cond.methodLink RL 66 yX10_fault ∈ TT := tt_of 931 (by decide +kernel) (by decide +kernel)
theorem ml_L_69 : Cond.methodLink RL 69 yX11_fault ∈ TT := tt_of 1530 (by decide +kernel) (by decide +kernel)
theorem ml_L_70 : Cond.methodLink RL 70 yX10_stopped ∈ TT := tt_of 935 (by decide +kernel) (by decide +kernel)
theorem ml_L_73 : Cond.methodLink RL 73 yX11_stopped ∈ TT := tt_of 1845 (by decide +kernel) (by decide +kernel)
theorem ml_L_74 : Cond.methodLink RL 74 yX10_force ∈ TT := tt_of 939 (by decide +kernel) (by decide +kernel)
theorem ml_L_77 : Cond.methodLink RL 77 yX11_force ∈ TT := tt_of 1652 (by decide +kernel) (by decide +kernel)
theorem ml_L_78 : Cond.methodLink RL 78 yX10_move ∈ TT := tt_of 944 (by decide +kernel) (by decide +kernel)
theorem ml_L_81 : Cond.methodLink RL 81 yX11_move ∈ TT := tt_of 1660 (by decide +kernel) (by decide +kernel)
theorem ml_L_82 : Cond.methodLink RL 82 yX10_divide ∈ TT := tt_of 952 (by decide +kernel) (by decide +kernel)
theorem ml_L_85 : Cond.methodLink RL 85 yX11_divide ∈ TT := tt_of 1684 (by decide +kernel) (by decide +kernel)
theorem ml_L_86 : Cond.methodLink RL 86 yX10_fly ∈ TT := tt_of 956 (by decide +kernel) (by decide +kernel)
theorem ml_L_89 : Cond.methodLink RL 89 yX11_fly ∈ TT := tt_of 1700 (by decide +kernel) (by decide +kernel)
theorem ml_L_90 : Cond.methodLink RL 90 yX10_pass ∈ TT := tt_of 960 (by decide +kernel) (by decide +kernel)
theorem ml_L_93 : Cond.methodLink RL 93 yX11_pass ∈ TT := tt_of 1708 (by decide +kernel) (by decide +kernel)
theorem ml_L_94 : Cond.methodLink RL 94 yX10_undo ∈ TT := tt_of 964 (by decide +kernel) (by decide +kernel)
theorem ml_L_97 : Cond.methodLink RL 97 yX11_undo ∈ TT := tt_of 1364 (by decide +kernel) (by decide +kernel)
theorem ml_L_98 : Cond.methodLink RL 98 yX10_second ∈ TT := tt_of 976 (by decide +kernel) (by decide +kernel)
theorem ml_L_101 : Cond.methodLink RL 101 yX11_second ∈ TT := tt_of 1720 (by decide +kernel) (by decide +kernel)
theorem ml_L_102 : Cond.methodLink RL 102 yX10_richest ∈ TT := tt_of 981 (by decide +kernel) (by decide +kernel)
theorem ml_L_105 : Cond.methodLink RL 105 yX11_richest ∈ TT := tt_of 1724 (by decide +kernel) (by decide +kernel)
theorem ml_L_106 : Cond.methodLink RL 106 yX10_byClock ∈ TT := tt_of 1005 (by decide +kernel) (by decide +kernel)
theorem ml_L_109 : Cond.methodLink RL 109 yX11_byClock ∈ TT := tt_of 1736 (by decide +kernel) (by decide +kernel)
theorem ml_L_110 : Cond.methodLink RL 110 yX10_spoilt ∈ TT := tt_of 1009 (by decide +kernel) (by decide +kernel)
theorem ml_L_113 : Cond.methodLink RL 113 yX11_spoilt ∈ TT := tt_of 1740 (by decide +kernel) (by decide +kernel)
theorem ml_L_114 : Cond.methodLink RL 114 yX10_come ∈ TT := tt_of 1020 (by decide +kernel) (by decide +kernel)
theorem ml_L_117 : Cond.methodLink RL 117 yX11_come ∈ TT := tt_of 1745 (by decide +kernel) (by decide +kernel)
theorem ml_L_118 : Cond.methodLink RL 118 yX10_chain ∈ TT := tt_of 1024 (by decide +kernel) (by decide +kernel)
theorem ml_L_121 : Cond.methodLink RL 121 yX11_chain ∈ TT := tt_of 1749 (by decide +kernel) (by decide +kernel)
theorem ml_L_122 : Cond.methodLink RL 122 yX10_ears ∈ TT := tt_of 1040 (by decide +kernel) (by decide +kernel)
theorem ml_L_125 : Cond.methodLink RL 125 yX11_ears ∈ TT := tt_of 1757 (by decide +kernel) (by decide +kernel)
theorem ml_L_126 : Cond.methodLink RL 126 yX10_loudest ∈ TT := tt_of 1057 (by decide +kernel) (by decide +kernel)
theorem ml_L_129 : Cond.methodLink RL 129 yX11_loudest ∈ TT := tt_of 1772 (by decide +kernel) (by decide +kernel)
theorem ml_L_130 : Cond.methodLink RL 130 yX10_nearest ∈ TT := tt_of 1062 (by decide +kernel) (by decide +kernel)
theorem ml_L_133 : Cond.methodLink RL 133 yX11_nearest ∈ TT := tt_of 1780 (by decide +kernel) (by decide +kernel)
theorem ml_L_134 : Cond.methodLink RL 134 yX10_heard ∈ TT := tt_of 1068 (by decide +kernel) (by decide +kernel)
theorem ml_L_137 : Cond.methodLink RL 137 yX11_heard ∈ TT := tt_of 1784 (by decide +kernel) (by decide +kernel)
theorem ml_L_138 : Cond.methodLink RL 138 yX10_forget ∈ TT := tt_of 1076 (by decide +kernel) (by decide +kernel)
theorem ml_L_141 : Cond.methodLink RL 141 yX11_forget ∈ TT := tt_of 1788 (by decide +kernel) (by decide +kernel)
theorem ml_L_142 : Cond.methodLink RL 142 yX10_canBe ∈ TT := tt_of 1080 (by decide +kernel) (by decide +kernel)
theorem ml_L_145 : Cond.methodLink RL 145 yX11_canBe ∈ TT := tt_of 1792 (by decide +kernel) (by decide +kernel)
theorem ml_L_146 : Cond.methodLink RL 146 yX10_listen ∈ TT := tt_of 1092 (by decide +kernel) (by decide +kernel)
theorem ml_L_149 : Cond.methodLink RL 149 yX11_listen ∈ TT := tt_of 1800 (by decide +kernel) (by decide +kernel)
theorem ml_L_150 : Cond.methodLink RL 150 yX10_few ∈ TT := tt_of 1101 (by decide +kernel) (by decide +kernel)
theorem ml_L_154 : Cond.methodLink RL 154 yX11_few ∈ TT := tt_of 1804 (by decide +kernel) (by decide +kernel)
theorem ml_L_155 : Cond.methodLink RL 155 yX10_compare ∈ TT := tt_of 1108 (by decide +kernel) (by decide +kernel)
theorem ml_L_158 : Cond.methodLink RL 158 yX11_compare ∈ TT := tt_of 1810 (by decide +kernel) (by decide +kernel)
theorem ml_L_159 : Cond.methodLink RL 159 yX10_mays ∈ TT := tt_of 1113 (by decide +kernel) (by decide +kernel)
theorem ml_L_162 : Cond.methodLink RL 162 yX11_mays ∈ TT := tt_of 1849 (by decide +kernel) (by decide +kernel)
theorem ml_L_163 : Cond.methodLink RL 163 yX10_drawn ∈ TT := tt_of 1136 (by decide +kernel) (by decide +kernel)
theorem ml_L_166 : Cond.methodLink RL 166 yX11_drawn ∈ TT := tt_of 1861 (by decide +kernel) (by decide +kernel)
theorem ml_L_167 : Cond.methodLink RL 167 yX10_image ∈ TT := tt_of 1140 (by decide +kernel) (by decide +kernel)
theorem ml_L_170 : Cond.methodLink RL 170 yX11_image ∈ TT := tt_of 1376 (by decide +kernel) (by decide +kernel)
theorem ml_L_171 : Cond.methodLink RL 171 yX10_back ∈ TT := tt_of 1150 (by decide +kernel) (by decide +kernel)
theorem ml_L_174 : Cond.methodLink RL 174 yX11_back ∈ TT := tt_of 1383 (by decide +kernel) (by decide +kernel)
theorem ml_L_175 : Cond.methodLink RL 175 yX10_count ∈ TT := tt_of 1154 (by decide +kernel) (by decide +kernel)
theorem ml_L_178 : Cond.methodLink RL 178 yX11_count ∈ TT := tt_of 1865 (by decide +kernel) (by decide +kernel)
theorem ml_L_179 : Cond.methodLink RL 179 yX10_status ∈ TT := tt_of 1158 (by decide +kernel) (by decide +kernel)
theorem ml_L_182 : Cond.methodLink RL 182 yX11_status ∈ TT := tt_of 1871 (by decide +kernel) (by decide +kernel)
theorem ml_X11_1 : Cond.methodLink RX11 1 objectInit ∈ TT := tt_of 1167 (by decide +kernel) (by decide +kernel)
theorem ml_X11_161 : Cond.methodLink RX11 161 yX11_tell ∈ TT := tt_of 1368 (by decide +kernel) (by decide +kernel)
theorem ml_X11_165 : Cond.methodLink RX11 165 yX11_keepAll ∈ TT := tt_of 1680 (by decide +kernel) (by decide +kernel)
theorem ml_X11_169 : Cond.methodLink RX11 169 yX11_putBack ∈ TT := tt_of 1372 (by decide +kernel) (by decide +kernel)
theorem ml_X11_172 : Cond.methodLink RX11 172 yX11_in ∈ TT := tt_of 1380 (by decide +kernel) (by decide +kernel)
theorem ml_X11_176 : Cond.methodLink RX11 176 yX11_lasting ∈ TT := tt_of 1387 (by decide +kernel) (by decide +kernel)
theorem ml_X11_183 : Cond.methodLink RX11 183 yX11_isAway ∈ TT := tt_of 1431 (by decide +kernel) (by decide +kernel)
theorem ml_X11_187 : Cond.methodLink RX11 187 yX11_isTree ∈ TT := tt_of 1399 (by decide +kernel) (by decide +kernel)
theorem ml_X11_192 : Cond.methodLink RX11 192 yX11_comes ∈ TT := tt_of 1395 (by decide +kernel) (by decide +kernel)
theorem ml_X11_198 : Cond.methodLink RX11 198 yX11_isBird ∈ TT := tt_of 1410 (by decide +kernel) (by decide +kernel)
theorem ml_X11_201 : Cond.methodLink RX11 201 yX11_change ∈ TT := tt_of 1414 (by decide +kernel) (by decide +kernel)
theorem ml_X11_204 : Cond.methodLink RX11 204 yX11_hears ∈ TT := tt_of 1427 (by decide +kernel) (by decide +kernel)
theorem ml_X11_210 : Cond.methodLink RX11 210 yX11_hearsAll ∈ TT := tt_of 1423 (by decide +kernel) (by decide +kernel)
theorem ml_X11_213 : Cond.methodLink RX11 213 yX11_isMatter ∈ TT := tt_of 1435 (by decide +kernel) (by decide +kernel)
theorem ml_X11_216 : Cond.methodLink RX11 216 yX11_swayOf ∈ TT := tt_of 1439 (by decide +kernel) (by decide +kernel)
theorem ml_X11_219 : Cond.methodLink RX11 219 yX11_sits ∈ TT := tt_of 1464 (by decide +kernel) (by decide +kernel)
theorem ml_X11_222 : Cond.methodLink RX11 222 yX11_isAye ∈ TT := tt_of 1468 (by decide +kernel) (by decide +kernel)
theorem ml_X11_225 : Cond.methodLink RX11 225 yX11_takesOf ∈ TT := tt_of 1480 (by decide +kernel) (by decide +kernel)
theorem ml_X11_228 : Cond.methodLink RX11 228 yX11_sitting ∈ TT := tt_of 1484 (by decide +kernel) (by decide +kernel)
theorem ml_X11_231 : Cond.methodLink RX11 231 yX11_ayes ∈ TT := tt_of 1488 (by decide +kernel) (by decide +kernel)
theorem ml_X11_234 : Cond.methodLink RX11 234 yX11_canDivide ∈ TT := tt_of 1492 (by decide +kernel) (by decide +kernel)
theorem ml_X11_249 : Cond.methodLink RX11 249 yX11_isRow ∈ TT := tt_of 1510 (by decide +kernel) (by decide +kernel)
theorem ml_X11_252 : Cond.methodLink RX11 252 yX11_four ∈ TT := tt_of 1522 (by decide +kernel) (by decide +kernel)
theorem ml_X11_262 : Cond.methodLink RX11 262 yX11_next ∈ TT := tt_of 1546 (by decide +kernel) (by decide +kernel)
theorem ml_X11_272 : Cond.methodLink RX11 272 yX11_isSmall ∈ TT := tt_of 1550 (by decide +kernel) (by decide +kernel)
theorem ml_X11_275 : Cond.methodLink RX11 275 yX11_isDigit ∈ TT := tt_of 1553 (by decide +kernel) (by decide +kernel)
theorem ml_X11_289 : Cond.methodLink RX11 289 yX11_must ∈ TT := tt_of 1568 (by decide +kernel) (by decide +kernel)
theorem ml_X11_299 : Cond.methodLink RX11 299 yX11_binds ∈ TT := tt_of 1623 (by decide +kernel) (by decide +kernel)
theorem ml_X11_302 : Cond.methodLink RX11 302 yX11_emit ∈ TT := tt_of 1610 (by decide +kernel) (by decide +kernel)
theorem ml_X11_312 : Cond.methodLink RX11 312 yX11_isWord ∈ TT := tt_of 1564 (by decide +kernel) (by decide +kernel)
theorem ml_X11_319 : Cond.methodLink RX11 319 yX11_push ∈ TT := tt_of 1581 (by decide +kernel) (by decide +kernel)
theorem ml_X11_325 : Cond.methodLink RX11 325 yX11_isSign ∈ TT := tt_of 1585 (by decide +kernel) (by decide +kernel)
theorem ml_X11_328 : Cond.methodLink RX11 328 yX11_openBracket ∈ TT := tt_of 1589 (by decide +kernel) (by decide +kernel)
theorem ml_X11_334 : Cond.methodLink RX11 334 yX11_orderPartAt ∈ TT := tt_of 1597 (by decide +kernel) (by decide +kernel)
theorem ml_X11_338 : Cond.methodLink RX11 338 yX11_partAt ∈ TT := tt_of 1601 (by decide +kernel) (by decide +kernel)
theorem ml_X11_343 : Cond.methodLink RX11 343 yX11_leaf ∈ TT := tt_of 1606 (by decide +kernel) (by decide +kernel)
theorem ml_X11_349 : Cond.methodLink RX11 349 yX11_number ∈ TT := tt_of 1615 (by decide +kernel) (by decide +kernel)
theorem ml_X11_355 : Cond.methodLink RX11 355 yX11_readPart ∈ TT := tt_of 1593 (by decide +kernel) (by decide +kernel)
theorem ml_X11_358 : Cond.methodLink RX11 358 yX11_settle ∈ TT := tt_of 1626 (by decide +kernel) (by decide +kernel)
theorem ml_X11_361 : Cond.methodLink RX11 361 yX11_inner ∈ TT := tt_of 1630 (by decide +kernel) (by decide +kernel)
theorem ml_X11_364 : Cond.methodLink RX11 364 yX11_isCompared ∈ TT := tt_of 1634 (by decide +kernel) (by decide +kernel)
theorem ml_X11_372 : Cond.methodLink RX11 372 yX11_readPlain ∈ TT := tt_of 1576 (by decide +kernel) (by decide +kernel)
theorem ml_X11_375 : Cond.methodLink RX11 375 yX11_behindSum ∈ TT := tt_of 1619 (by decide +kernel) (by decide +kernel)
theorem ml_X11_379 : Cond.methodLink RX11 379 yX11_behindTest ∈ TT := tt_of 1641 (by decide +kernel) (by decide +kernel)
theorem ml_X11_382 : Cond.methodLink RX11 382 yX11_begin ∈ TT := tt_of 1542 (by decide +kernel) (by decide +kernel)
theorem ml_X11_388 : Cond.methodLink RX11 388 yX11_readExpression ∈ TT := tt_of 1572 (by decide +kernel) (by decide +kernel)
theorem ml_X11_393 : Cond.methodLink RX11 393 yX11_beginText ∈ TT := tt_of 1538 (by decide +kernel) (by decide +kernel)
theorem ml_X11_396 : Cond.methodLink RX11 396 yX11_readLaw ∈ TT := tt_of 1560 (by decide +kernel) (by decide +kernel)
theorem ml_X11_399 : Cond.methodLink RX11 399 yX11_endText ∈ TT := tt_of 1648 (by decide +kernel) (by decide +kernel)
theorem ml_X11_402 : Cond.methodLink RX11 402 yX11_isLaw ∈ TT := tt_of 1656 (by decide +kernel) (by decide +kernel)
theorem ml_X11_411 : Cond.methodLink RX11 411 yX11_reckon ∈ TT := tt_of 1455 (by decide +kernel) (by decide +kernel)
theorem ml_X11_422 : Cond.methodLink RX11 422 yX11_reckonAll ∈ TT := tt_of 1451 (by decide +kernel) (by decide +kernel)
theorem ml_X11_428 : Cond.methodLink RX11 428 yX11_isSo ∈ TT := tt_of 1447 (by decide +kernel) (by decide +kernel)
theorem ml_X11_431 : Cond.methodLink RX11 431 yX11_tells ∈ TT := tt_of 1443 (by decide +kernel) (by decide +kernel)
theorem ml_X11_435 : Cond.methodLink RX11 435 yX11_bounded ∈ TT := tt_of 1461 (by decide +kernel) (by decide +kernel)
theorem ml_X11_439 : Cond.methodLink RX11 439 yX11_ones ∈ TT := tt_of 1496 (by decide +kernel) (by decide +kernel)
theorem ml_X11_442 : Cond.methodLink RX11 442 yX11_carries ∈ TT := tt_of 1696 (by decide +kernel) (by decide +kernel)
theorem ml_X11_445 : Cond.methodLink RX11 445 yX11_seconder ∈ TT := tt_of 1672 (by decide +kernel) (by decide +kernel)
theorem ml_X11_448 : Cond.methodLink RX11 448 yX11_canMove ∈ TT := tt_of 1668 (by decide +kernel) (by decide +kernel)
theorem ml_X11_451 : Cond.methodLink RX11 451 yX11_remember ∈ TT := tt_of 1676 (by decide +kernel) (by decide +kernel)
theorem ml_X11_454 : Cond.methodLink RX11 454 yX11_moveNow ∈ TT := tt_of 1664 (by decide +kernel) (by decide +kernel)
theorem ml_X11_457 : Cond.methodLink RX11 457 yX11_divideIt ∈ TT := tt_of 1692 (by decide +kernel) (by decide +kernel)
theorem ml_X11_460 : Cond.methodLink RX11 460 yX11_divideNow ∈ TT := tt_of 1688 (by decide +kernel) (by decide +kernel)
theorem ml_X11_463 : Cond.methodLink RX11 463 yX11_flyNow ∈ TT := tt_of 1704 (by decide +kernel) (by decide +kernel)
theorem ml_X11_466 : Cond.methodLink RX11 466 yX11_passIt ∈ TT := tt_of 1716 (by decide +kernel) (by decide +kernel)
theorem ml_X11_469 : Cond.methodLink RX11 469 yX11_passNow ∈ TT := tt_of 1712 (by decide +kernel) (by decide +kernel)
theorem ml_X11_475 : Cond.methodLink RX11 475 yX11_isNew ∈ TT := tt_of 1732 (by decide +kernel) (by decide +kernel)
theorem ml_X11_478 : Cond.methodLink RX11 478 yX11_findRichest ∈ TT := tt_of 1728 (by decide +kernel) (by decide +kernel)
theorem ml_X11_482 : Cond.methodLink RX11 482 yX11_layLeft ∈ TT := tt_of 1753 (by decide +kernel) (by decide +kernel)
theorem ml_X11_485 : Cond.methodLink RX11 485 yX11_is ∈ TT := tt_of 1769 (by decide +kernel) (by decide +kernel)
theorem ml_X11_488 : Cond.methodLink RX11 488 yX11_present ∈ TT := tt_of 1761 (by decide +kernel) (by decide +kernel)
theorem ml_X11_491 : Cond.methodLink RX11 491 yX11_hearAll ∈ TT := tt_of 1765 (by decide +kernel) (by decide +kernel)
theorem ml_X11_494 : Cond.methodLink RX11 494 yX11_heardBy ∈ TT := tt_of 1776 (by decide +kernel) (by decide +kernel)
theorem ml_X11_497 : Cond.methodLink RX11 497 yX11_thatCanBe ∈ TT := tt_of 1796 (by decide +kernel) (by decide +kernel)
theorem ml_X11_504 : Cond.methodLink RX11 504 yX11_readSum ∈ TT := tt_of 1822 (by decide +kernel) (by decide +kernel)
theorem ml_X11_522 : Cond.methodLink RX11 522 yX11_sumOf ∈ TT := tt_of 1833 (by decide +kernel) (by decide +kernel)
theorem ml_X11_525 : Cond.methodLink RX11 525 yX11_act ∈ TT := tt_of 1837 (by decide +kernel) (by decide +kernel)
theorem ml_X11_529 : Cond.methodLink RX11 529 yX11_readOrder ∈ TT := tt_of 1818 (by decide +kernel) (by decide +kernel)
theorem ml_X11_532 : Cond.methodLink RX11 532 yX11_run ∈ TT := tt_of 1829 (by decide +kernel) (by decide +kernel)
theorem ml_X11_535 : Cond.methodLink RX11 535 yX11_giveBack ∈ TT := tt_of 1841 (by decide +kernel) (by decide +kernel)
theorem ml_X11_549 : Cond.methodLink RX11 549 yX11_draw ∈ TT := tt_of 1854 (by decide +kernel) (by decide +kernel)
theorem cl_X10_13 : Cond.classLink RX10 13 RX6 ∈ TT := tt_of 136 (by decide +kernel) (by decide +kernel)
theorem cl_X6_41 : Cond.classLink RX6 41 RX8 ∈ TT := tt_of 174 (by decide +kernel) (by decide +kernel)
theorem nw_X10_13 : NW RX10 13 6 := ⟨RX6, TX6, 17, rfl, tt_of 136 (by decide +kernel) (by decide +kernel), tt_of 137 (by decide +kernel) (by decide +kernel), tt_of 110 (by decide +kernel) (by decide +kernel), kf_6, by decide⟩
theorem nw_X10_24 : NW RX10 24 5 := ⟨RX5, TX5, 4, rfl, tt_of 283 (by decide +kernel) (by decide +kernel), tt_of 284 (by decide +kernel) (by decide +kernel), tt_of 114 (by decide +kernel) (by decide +kernel), kf_5, by decide⟩
theorem nw_X10_34 : NW RX10 34 7 := ⟨RX7, TX7, 4, rfl, tt_of 303 (by decide +kernel) (by decide +kernel), tt_of 143 (by decide +kernel) (by decide +kernel), tt_of 111 (by decide +kernel) (by decide +kernel), kf_7, by decide⟩
theorem nw_X10_44 : NW RX10 44 2 := ⟨RX2, TX2, 4, rfl, tt_of 305 (by decide +kernel) (by decide +kernel), tt_of 306 (by decide +kernel) (by decide +kernel), tt_of 115 (by decide +kernel) (by decide +kernel), kf_2, by decide⟩
theorem nw_X10_51 : NW RX10 51 4 := ⟨RX4, TX4, 3, rfl, tt_of 329 (by decide +kernel) (by decide +kernel), tt_of 330 (by decide +kernel) (by decide +kernel), tt_of 116 (by decide +kernel) (by decide +kernel), kf_4, by decide⟩
theorem nw_X10_58 : NW RX10 58 1 := ⟨RX1, TX1, 6, rfl, tt_of 350 (by decide +kernel) (by decide +kernel), tt_of 351 (by decide +kernel) (by decide +kernel), tt_of 117 (by decide +kernel) (by decide +kernel), kf_1, by decide⟩
theorem nw_X10_67 : NW RX10 67 0 := ⟨RX0, TX0, 7, rfl, tt_of 378 (by decide +kernel) (by decide +kernel), tt_of 379 (by decide +kernel) (by decide +kernel), tt_of 118 (by decide +kernel) (by decide +kernel), kf_0, by decide⟩
theorem nw_X10_76 : NW RX10 76 3 := ⟨RX3, TX3, 5, rfl, tt_of 411 (by decide +kernel) (by decide +kernel), tt_of 412 (by decide +kernel) (by decide +kernel), tt_of 119 (by decide +kernel) (by decide +kernel), kf_3, by decide⟩
theorem nw_X0_9 : NW RX0 9 7 := ⟨RX7, TX7, 4, rfl, tt_of 384 (by decide +kernel) (by decide +kernel), tt_of 143 (by decide +kernel) (by decide +kernel), tt_of 111 (by decide +kernel) (by decide +kernel), kf_7, by decide⟩
theorem nw_X2_9 : NW RX2 9 7 := ⟨RX7, TX7, 4, rfl, tt_of 311 (by decide +kernel) (by decide +kernel), tt_of 143 (by decide +kernel) (by decide +kernel), tt_of 111 (by decide +kernel) (by decide +kernel), kf_7, by decide⟩
theorem nw_X3_9 : NW RX3 9 9 := ⟨RX9, TX9, 4, rfl, tt_of 417 (by decide +kernel) (by decide +kernel), tt_of 418 (by decide +kernel) (by decide +kernel), tt_of 120 (by decide +kernel) (by decide +kernel), kf_9, by decide⟩
theorem nw_X3_18 : NW RX3 18 8 := ⟨RX8, TX8, 4, rfl, tt_of 440 (by decide +kernel) (by decide +kernel), tt_of 176 (by decide +kernel) (by decide +kernel), tt_of 112 (by decide +kernel) (by decide +kernel), kf_8, by decide⟩
theorem nw_X6_9 : NW RX6 9 7 := ⟨RX7, TX7, 4, rfl, tt_of 142 (by decide +kernel) (by decide +kernel), tt_of 143 (by decide +kernel) (by decide +kernel), tt_of 111 (by decide +kernel) (by decide +kernel), kf_7, by decide⟩
theorem nw_X6_41 : NW RX6 41 8 := ⟨RX8, TX8, 4, rfl, tt_of 174 (by decide +kernel) (by decide +kernel), tt_of 176 (by decide +kernel) (by decide +kernel), tt_of 112 (by decide +kernel) (by decide +kernel), kf_8, by decide⟩
theorem nw_X8_16 : NW RX8 16 8 := ⟨RX8, TX8, 4, rfl, tt_of 869 (by decide +kernel) (by decide +kernel), tt_of 176 (by decide +kernel) (by decide +kernel), tt_of 112 (by decide +kernel) (by decide +kernel), kf_8, by decide⟩
theorem nw_L_7 : NW RL 7 10 := ⟨RX10, TX10, 20, rfl, tt_of 128 (by decide +kernel) (by decide +kernel), tt_of 129 (by decide +kernel) (by decide +kernel), tt_of 109 (by decide +kernel) (by decide +kernel), kf_10, by decide⟩
theorem nw_L_10 : NW RL 10 11 := ⟨RX11, TX11, 58, rfl, tt_of 1162 (by decide +kernel) (by decide +kernel), tt_of 1163 (by decide +kernel) (by decide +kernel), tt_of 121 (by decide +kernel) (by decide +kernel), kf_11, by decide⟩
theorem ct_X2_37 : Cond.constant RX2 37 (1000003) ∈ TT := tt_of 1131 (by decide +kernel) (by decide +kernel)
theorem ct_X4_39 : Cond.constantLong RX4 39 (-1) ∈ TT := tt_of 606 (by decide +kernel) (by decide +kernel)
theorem ct_X4_41 : Cond.constantLong RX4 41 (1000000000) ∈ TT := tt_of 607 (by decide +kernel) (by decide +kernel)
theorem ct_X4_43 : Cond.constantLong RX4 43 (-1000000000) ∈ TT := tt_of 608 (by decide +kernel) (by decide +kernel)
theorem ct_X10_380 : Cond.constantLong RX10 380 (-1) ∈ TT := tt_of 1105 (by decide +kernel) (by decide +kernel)
theorem ct_X10_382 : Cond.constantLong RX10 382 (1000000000000) ∈ TT := tt_of 1106 (by decide +kernel) (by decide +kernel)
theorem ct_X10_384 : Cond.constantLong RX10 384 (10) ∈ TT := tt_of 1107 (by decide +kernel) (by decide +kernel)
theorem ct_X10_390 : Cond.constant RX10 390 (1000000) ∈ TT := tt_of 1117 (by decide +kernel) (by decide +kernel)
theorem ct_X11_126 : Cond.constantLong RX11 126 (442053) ∈ TT := tt_of 1184 (by decide +kernel) (by decide +kernel)
theorem ct_X11_128 : Cond.constantLong RX11 128 (144385157) ∈ TT := tt_of 1185 (by decide +kernel) (by decide +kernel)
theorem ct_X11_130 : Cond.constantLong RX11 130 (6553) ∈ TT := tt_of 1186 (by decide +kernel) (by decide +kernel)
theorem ct_X11_132 : Cond.constantLong RX11 132 (525939) ∈ TT := tt_of 1187 (by decide +kernel) (by decide +kernel)
theorem ct_X11_179 : Cond.constantLong RX11 179 (-1) ∈ TT := tt_of 1402 (by decide +kernel) (by decide +kernel)
theorem ct_X11_181 : Cond.constantLong RX11 181 (19) ∈ TT := tt_of 1403 (by decide +kernel) (by decide +kernel)
theorem ct_X11_190 : Cond.constantLong RX11 190 (9) ∈ TT := tt_of 1404 (by decide +kernel) (by decide +kernel)
theorem ct_X11_196 : Cond.constantLong RX11 196 (5) ∈ TT := tt_of 1409 (by decide +kernel) (by decide +kernel)
theorem ct_X11_208 : Cond.constantLong RX11 208 (20) ∈ TT := tt_of 1422 (by decide +kernel) (by decide +kernel)
theorem ct_X11_237 : Cond.constantLong RX11 237 (999) ∈ TT := tt_of 1503 (by decide +kernel) (by decide +kernel)
theorem ct_X11_239 : Cond.constantLong RX11 239 (10) ∈ TT := tt_of 1504 (by decide +kernel) (by decide +kernel)
theorem ct_X11_241 : Cond.constantLong RX11 241 (7) ∈ TT := tt_of 1505 (by decide +kernel) (by decide +kernel)
theorem ct_X11_281 : Cond.constantLong RX11 281 (32) ∈ TT := tt_of 1556 (by decide +kernel) (by decide +kernel)
theorem ct_X11_283 : Cond.constantLong RX11 283 (96) ∈ TT := tt_of 1557 (by decide +kernel) (by decide +kernel)
theorem ct_X11_285 : Cond.constantLong RX11 285 (1000000) ∈ TT := tt_of 1558 (by decide +kernel) (by decide +kernel)
theorem ct_X11_287 : Cond.constantLong RX11 287 (48) ∈ TT := tt_of 1559 (by decide +kernel) (by decide +kernel)
theorem ct_X11_306 : Cond.constantLong RX11 306 (24) ∈ TT := tt_of 1638 (by decide +kernel) (by decide +kernel)
theorem ct_X11_308 : Cond.constantLong RX11 308 (25) ∈ TT := tt_of 1639 (by decide +kernel) (by decide +kernel)
theorem ct_X11_310 : Cond.constantLong RX11 310 (27) ∈ TT := tt_of 1640 (by decide +kernel) (by decide +kernel)
theorem ct_X11_341 : Cond.constantLong RX11 341 (1000) ∈ TT := tt_of 1605 (by decide +kernel) (by decide +kernel)
theorem ct_X11_347 : Cond.constantLong RX11 347 (6) ∈ TT := tt_of 1614 (by decide +kernel) (by decide +kernel)
theorem ct_X11_353 : Cond.constantLong RX11 353 (14836) ∈ TT := tt_of 1580 (by decide +kernel) (by decide +kernel)
theorem ct_X11_368 : Cond.constantLong RX11 368 (1476) ∈ TT := tt_of 1645 (by decide +kernel) (by decide +kernel)
theorem ct_X11_370 : Cond.constantLong RX11 370 (498) ∈ TT := tt_of 1646 (by decide +kernel) (by decide +kernel)
theorem ct_X11_391 : Cond.constantLong RX11 391 (294) ∈ TT := tt_of 1647 (by decide +kernel) (by decide +kernel)
theorem ct_X11_415 : Cond.constantLong RX11 415 (-1000000000) ∈ TT := tt_of 1459 (by decide +kernel) (by decide +kernel)
theorem ct_X11_417 : Cond.constantLong RX11 417 (1000000000) ∈ TT := tt_of 1460 (by decide +kernel) (by decide +kernel)
theorem ct_X11_481 : Cond.constant RX11 481 (100000000) ∈ TT := tt_of 1744 (by decide +kernel) (by decide +kernel)
theorem ct_X11_500 : Cond.constantLong RX11 500 (99) ∈ TT := tt_of 1808 (by decide +kernel) (by decide +kernel)
theorem ct_X11_502 : Cond.constantLong RX11 502 (1000000000000) ∈ TT := tt_of 1809 (by decide +kernel) (by decide +kernel)
theorem ct_X11_507 : Cond.constantLong RX11 507 (89) ∈ TT := tt_of 1826 (by decide +kernel) (by decide +kernel)
theorem ct_X11_509 : Cond.constantLong RX11 509 (655) ∈ TT := tt_of 1827 (by decide +kernel) (by decide +kernel)
theorem ct_X11_511 : Cond.constantLong RX11 511 (21279923) ∈ TT := tt_of 1828 (by decide +kernel) (by decide +kernel)
theorem ct_X11_541 : Cond.constantLong RX11 541 (1103) ∈ TT := tt_of 1858 (by decide +kernel) (by decide +kernel)
theorem ct_X11_543 : Cond.constantLong RX11 543 (12345) ∈ TT := tt_of 1859 (by decide +kernel) (by decide +kernel)
theorem ct_X11_545 : Cond.constantLong RX11 545 (1000003) ∈ TT := tt_of 1860 (by decide +kernel) (by decide +kernel)
theorem ct_X11_547 : Cond.constantLong RX11 547 (60) ∈ TT := tt_of 1853 (by decide +kernel) (by decide +kernel)
theorem ct_X11_552 : Cond.constantLong RX11 552 (14) ∈ TT := tt_of 1869 (by decide +kernel) (by decide +kernel)
theorem ct_X11_554 : Cond.constantLong RX11 554 (17) ∈ TT := tt_of 1870 (by decide +kernel) (by decide +kernel)
theorem ct_X11_57 : Cond.constantLong RX11 57 (75332) ∈ TT := tt_of 1168 (by decide +kernel) (by decide +kernel)
theorem ct_X11_59 : Cond.constantLong RX11 59 (673957) ∈ TT := tt_of 1169 (by decide +kernel) (by decide +kernel)
theorem ct_X11_61 : Cond.constantLong RX11 61 (203112114) ∈ TT := tt_of 1170 (by decide +kernel) (by decide +kernel)
theorem ct_X11_63 : Cond.constantLong RX11 63 (437932210) ∈ TT := tt_of 1171 (by decide +kernel) (by decide +kernel)
theorem ct_X11_65 : Cond.constantLong RX11 65 (3625634995) ∈ TT := tt_of 1172 (by decide +kernel) (by decide +kernel)
theorem ct_X11_67 : Cond.constantLong RX11 67 (599144) ∈ TT := tt_of 1173 (by decide +kernel) (by decide +kernel)
theorem ct_X11_69 : Cond.constantLong RX11 69 (3554411) ∈ TT := tt_of 1174 (by decide +kernel) (by decide +kernel)
theorem ct_X11_71 : Cond.constantLong RX11 71 (14982420) ∈ TT := tt_of 1175 (by decide +kernel) (by decide +kernel)
theorem ct_X11_73 : Cond.constantLong RX11 73 (441828) ∈ TT := tt_of 1176 (by decide +kernel) (by decide +kernel)
theorem ct_X11_79 : Cond.constantLong RX11 79 (146885) ∈ TT := tt_of 1177 (by decide +kernel) (by decide +kernel)
theorem ct_X11_81 : Cond.constantLong RX11 81 (404362868) ∈ TT := tt_of 1178 (by decide +kernel) (by decide +kernel)
theorem ct_X11_83 : Cond.constantLong RX11 83 (17789720020) ∈ TT := tt_of 1179 (by decide +kernel) (by decide +kernel)
theorem ct_X11_85 : Cond.constantLong RX11 85 (658552979) ∈ TT := tt_of 1180 (by decide +kernel) (by decide +kernel)
theorem ct_X11_90 : Cond.constantLong RX11 90 (20678451) ∈ TT := tt_of 1181 (by decide +kernel) (by decide +kernel)
theorem ct_X11_92 : Cond.constantLong RX11 92 (21015731) ∈ TT := tt_of 1182 (by decide +kernel) (by decide +kernel)
theorem ct_X11_94 : Cond.constantLong RX11 94 (67155) ∈ TT := tt_of 1183 (by decide +kernel) (by decide +kernel)
theorem ct_J6_265 : Cond.constant RJ6 265 (1431655765) ∈ TT := tt_of 657 (by decide +kernel) (by decide +kernel)
theorem ct_J6_266 : Cond.constant RJ6 266 (858993459) ∈ TT := tt_of 658 (by decide +kernel) (by decide +kernel)
theorem ct_J6_267 : Cond.constant RJ6 267 (252645135) ∈ TT := tt_of 659 (by decide +kernel) (by decide +kernel)
abbrev M_X0_init : MD := (yX0_init, cX0_init, 2, none, fun _ _ => True)
theorem mf_X0_init : MF M_X0_init 1 := ⟨tt_of 382 (by decide +kernel) (by decide +kernel), tt_of 118 (by decide +kernel) (by decide +kernel), ⟨by decide, by decide, by decide +kernel⟩, by decide⟩
theorem mi_X0_init : Cond.instanceMethod M_X0_init.1 ∈ TT := tt_of 381 (by decide +kernel) (by decide +kernel)
abbrev M_X0_begin : MD := (yX0_begin, cX0_begin, 3, none, fun _ _ => True)
theorem mf_X0_begin : MF M_X0_begin 1 := ⟨tt_of 988 (by decide +kernel) (by decide +kernel), tt_of 118 (by decide +kernel) (by decide +kernel), ⟨by decide, by decide, by decide +kernel⟩, by decide⟩
theorem mi_X0_begin : Cond.instanceMethod M_X0_begin.1 ∈ TT := tt_of 986 (by decide +kernel) (by decide +kernel)
theorem me_X0_begin : Cond.selects M_X0_begin.1.cls M_X0_begin.1 M_X0_begin.1 ∈ TT := tt_of 987 (by decide +kernel) (by decide +kernel)
abbrev M_X0_goOn : MD := (yX0_goOn, cX0_goOn, 8, none, fun _ _ => True)
theorem mf_X0_goOn : MF M_X0_goOn 4 := ⟨tt_of 997 (by decide +kernel) (by decide +kernel), tt_of 118 (by decide +kernel) (by decide +kernel), ⟨by decide, by decide, by decide +kernel⟩, by decide⟩
theorem mi_X0_goOn : Cond.instanceMethod M_X0_goOn.1 ∈ TT := tt_of 995 (by decide +kernel) (by decide +kernel)
theorem me_X0_goOn : Cond.selects M_X0_goOn.1.cls M_X0_goOn.1 M_X0_goOn.1 ∈ TT := tt_of 996 (by decide +kernel) (by decide +kernel)
abbrev M_X0_divisionAt : MD := (yX0_divisionAt, cX0_divisionAt, 6, (some .int), fun _ _ => True)
theorem mf_X0_divisionAt : MF M_X0_divisionAt 2 := ⟨tt_of 1002 (by decide +kernel) (by decide +kernel), tt_of 118 (by decide +kernel) (by decide +kernel), ⟨by decide, by decide, by decide +kernel⟩, by decide⟩
theorem mi_X0_divisionAt : Cond.instanceMethod M_X0_divisionAt.1 ∈ TT := tt_of 1001 (by decide +kernel) (by decide +kernel)
theorem me_X0_divisionAt : Cond.selects M_X0_divisionAt.1.cls M_X0_divisionAt.1 M_X0_divisionAt.1 ∈ TT := tt_of 32 (by decide +kernel) (by decide +kernel)
abbrev M_X1_init : MD := (yX1_init, cX1_init, 3, none, fun _ _ => True)
theorem mf_X1_init : MF M_X1_init 2 := ⟨tt_of 354 (by decide +kernel) (by decide +kernel), tt_of 117 (by decide +kernel) (by decide +kernel), ⟨by decide, by decide, by decide +kernel⟩, by decide⟩
theorem mi_X1_init : Cond.instanceMethod M_X1_init.1 ∈ TT := tt_of 353 (by decide +kernel) (by decide +kernel)
abbrev M_X1_tellLaw : MD := (yX1_tellLaw, cX1_tellLaw, 7, none, fun _ _ => True)
theorem mf_X1_tellLaw : MF M_X1_tellLaw 5 := ⟨tt_of 581 (by decide +kernel) (by decide +kernel), tt_of 117 (by decide +kernel) (by decide +kernel), ⟨by decide, by decide, by decide +kernel⟩, by decide⟩
theorem mi_X1_tellLaw : Cond.instanceMethod M_X1_tellLaw.1 ∈ TT := tt_of 580 (by decide +kernel) (by decide +kernel)
theorem me_X1_tellLaw : Cond.selects M_X1_tellLaw.1.cls M_X1_tellLaw.1 M_X1_tellLaw.1 ∈ TT := tt_of 3 (by decide +kernel) (by decide +kernel)
abbrev M_X1_tellBird : MD := (yX1_tellBird, cX1_tellBird, 4, none, fun _ _ => True)
theorem mf_X1_tellBird : MF M_X1_tellBird 3 := ⟨tt_of 577 (by decide +kernel) (by decide +kernel), tt_of 117 (by decide +kernel) (by decide +kernel), ⟨by decide, by decide, by decide +kernel⟩, by decide⟩
theorem mi_X1_tellBird : Cond.instanceMethod M_X1_tellBird.1 ∈ TT := tt_of 576 (by decide +kernel) (by decide +kernel)
theorem me_X1_tellBird : Cond.selects M_X1_tellBird.1.cls M_X1_tellBird.1 M_X1_tellBird.1 ∈ TT := tt_of 2 (by decide +kernel) (by decide +kernel)
abbrev M_X1_within : MD := (yX1_within, cX1_within, 3, (some .int), fun _ _ => True)
theorem mf_X1_within : MF M_X1_within 3 := ⟨tt_of 611 (by decide +kernel) (by decide +kernel), tt_of 117 (by decide +kernel) (by decide +kernel), ⟨by decide, by decide, by decide +kernel⟩, by decide⟩
theorem ms_X1_within : Cond.static M_X1_within.1 ∈ TT := tt_of 610 (by decide +kernel) (by decide +kernel)
abbrev M_X1_swayed : MD := (yX1_swayed, cX1_swayed, 5, (some .int), fun _ _ => True)
theorem mf_X1_swayed : MF M_X1_swayed 3 := ⟨tt_of 573 (by decide +kernel) (by decide +kernel), tt_of 117 (by decide +kernel) (by decide +kernel), ⟨by decide, by decide, by decide +kernel⟩, by decide⟩
theorem mi_X1_swayed : Cond.instanceMethod M_X1_swayed.1 ∈ TT := tt_of 571 (by decide +kernel) (by decide +kernel)
theorem me_X1_swayed : Cond.selects M_X1_swayed.1.cls M_X1_swayed.1 M_X1_swayed.1 ∈ TT := tt_of 572 (by decide +kernel) (by decide +kernel)
abbrev M_X1_timeTaken : MD := (yX1_timeTaken, cX1_timeTaken, 4, (some .int), fun _ _ => True)
theorem mf_X1_timeTaken : MF M_X1_timeTaken 2 := ⟨tt_of 634 (by decide +kernel) (by decide +kernel), tt_of 117 (by decide +kernel) (by decide +kernel), ⟨by decide, by decide, by decide +kernel⟩, by decide⟩
theorem mi_X1_timeTaken : Cond.instanceMethod M_X1_timeTaken.1 ∈ TT := tt_of 632 (by decide +kernel) (by decide +kernel)
theorem me_X1_timeTaken : Cond.selects M_X1_timeTaken.1.cls M_X1_timeTaken.1 M_X1_timeTaken.1 ∈ TT := tt_of 633 (by decide +kernel) (by decide +kernel)
abbrev M_X1_vote : MD := (yX1_vote, cX1_vote, 7, (some .int), fun _ _ => True)
theorem mf_X1_vote : MF M_X1_vote 4 := ⟨tt_of 618 (by decide +kernel) (by decide +kernel), tt_of 117 (by decide +kernel) (by decide +kernel), ⟨by decide, by decide, by decide +kernel⟩, by decide⟩
theorem mi_X1_vote : Cond.instanceMethod M_X1_vote.1 ∈ TT := tt_of 616 (by decide +kernel) (by decide +kernel)
theorem me_X1_vote : Cond.selects M_X1_vote.1.cls M_X1_vote.1 M_X1_vote.1 ∈ TT := tt_of 617 (by decide +kernel) (by decide +kernel)
abbrev M_X1_poll : MD := (yX1_poll, cX1_poll, 6, none, fun _ _ => True)
theorem mf_X1_poll : MF M_X1_poll 3 := ⟨tt_of 638 (by decide +kernel) (by decide +kernel), tt_of 117 (by decide +kernel) (by decide +kernel), ⟨by decide, by decide, by decide +kernel⟩, by decide⟩
theorem mi_X1_poll : Cond.instanceMethod M_X1_poll.1 ∈ TT := tt_of 636 (by decide +kernel) (by decide +kernel)
theorem me_X1_poll : Cond.selects M_X1_poll.1.cls M_X1_poll.1 M_X1_poll.1 ∈ TT := tt_of 637 (by decide +kernel) (by decide +kernel)
abbrev M_X1_present : MD := (yX1_present, cX1_present, 4, (some .int), fun _ _ => True)
theorem mf_X1_present : MF M_X1_present 1 := ⟨tt_of 894 (by decide +kernel) (by decide +kernel), tt_of 117 (by decide +kernel) (by decide +kernel), ⟨by decide, by decide, by decide +kernel⟩, by decide⟩
theorem mi_X1_present : Cond.instanceMethod M_X1_present.1 ∈ TT := tt_of 892 (by decide +kernel) (by decide +kernel)
theorem me_X1_present : Cond.selects M_X1_present.1.cls M_X1_present.1 M_X1_present.1 ∈ TT := tt_of 893 (by decide +kernel) (by decide +kernel)
abbrev M_X1_moved : MD := (yX1_moved, cX1_moved, 4, (some .int), fun _ _ => True)
theorem mf_X1_moved : MF M_X1_moved 1 := ⟨tt_of 993 (by decide +kernel) (by decide +kernel), tt_of 117 (by decide +kernel) (by decide +kernel), ⟨by decide, by decide, by decide +kernel⟩, by decide⟩
theorem mi_X1_moved : Cond.instanceMethod M_X1_moved.1 ∈ TT := tt_of 991 (by decide +kernel) (by decide +kernel)
theorem me_X1_moved : Cond.selects M_X1_moved.1.cls M_X1_moved.1 M_X1_moved.1 ∈ TT := tt_of 992 (by decide +kernel) (by decide +kernel)
abbrev M_X1_hears : MD := (yX1_hears, cX1_hears, 4, (some .boolean), fun _ _ => True)
theorem mf_X1_hears : MF M_X1_hears 3 := ⟨tt_of 562 (by decide +kernel) (by decide +kernel), tt_of 117 (by decide +kernel) (by decide +kernel), ⟨by decide, by decide, by decide +kernel⟩, by decide⟩
theorem mi_X1_hears : Cond.instanceMethod M_X1_hears.1 ∈ TT := tt_of 560 (by decide +kernel) (by decide +kernel)
theorem me_X1_hears : Cond.selects M_X1_hears.1.cls M_X1_hears.1 M_X1_hears.1 ∈ TT := tt_of 561 (by decide +kernel) (by decide +kernel)
abbrev M_X1_whomHears : MD := (yX1_whomHears, cX1_whomHears, 5, (some .int), fun _ _ => True)
theorem mf_X1_whomHears : MF M_X1_whomHears 2 := ⟨tt_of 558 (by decide +kernel) (by decide +kernel), tt_of 117 (by decide +kernel) (by decide +kernel), ⟨by decide, by decide, by decide +kernel⟩, by decide⟩
theorem mi_X1_whomHears : Cond.instanceMethod M_X1_whomHears.1 ∈ TT := tt_of 556 (by decide +kernel) (by decide +kernel)
theorem me_X1_whomHears : Cond.selects M_X1_whomHears.1.cls M_X1_whomHears.1 M_X1_whomHears.1 ∈ TT := tt_of 557 (by decide +kernel) (by decide +kernel)
abbrev M_X1_hearers : MD := (yX1_hearers, cX1_hearers, 5, (some .int), fun _ _ => True)
theorem mf_X1_hearers : MF M_X1_hearers 2 := ⟨tt_of 1052 (by decide +kernel) (by decide +kernel), tt_of 117 (by decide +kernel) (by decide +kernel), ⟨by decide, by decide, by decide +kernel⟩, by decide⟩
theorem mi_X1_hearers : Cond.instanceMethod M_X1_hearers.1 ∈ TT := tt_of 1050 (by decide +kernel) (by decide +kernel)
theorem me_X1_hearers : Cond.selects M_X1_hearers.1.cls M_X1_hearers.1 M_X1_hearers.1 ∈ TT := tt_of 1051 (by decide +kernel) (by decide +kernel)
abbrev M_X1_seconder : MD := (yX1_seconder, cX1_seconder, 5, (some .int), fun _ _ => True)
theorem mf_X1_seconder : MF M_X1_seconder 3 := ⟨tt_of 917 (by decide +kernel) (by decide +kernel), tt_of 117 (by decide +kernel) (by decide +kernel), ⟨by decide, by decide, by decide +kernel⟩, by decide⟩
theorem mi_X1_seconder : Cond.instanceMethod M_X1_seconder.1 ∈ TT := tt_of 915 (by decide +kernel) (by decide +kernel)
theorem me_X1_seconder : Cond.selects M_X1_seconder.1.cls M_X1_seconder.1 M_X1_seconder.1 ∈ TT := tt_of 916 (by decide +kernel) (by decide +kernel)
abbrev M_X1_moving : MD := (yX1_moving, cX1_moving, 5, (some .int), fun _ _ => True)
theorem mf_X1_moving : MF M_X1_moving 3 := ⟨tt_of 912 (by decide +kernel) (by decide +kernel), tt_of 117 (by decide +kernel) (by decide +kernel), ⟨by decide, by decide, by decide +kernel⟩, by decide⟩
theorem mi_X1_moving : Cond.instanceMethod M_X1_moving.1 ∈ TT := tt_of 910 (by decide +kernel) (by decide +kernel)
theorem me_X1_moving : Cond.selects M_X1_moving.1.cls M_X1_moving.1 M_X1_moving.1 ∈ TT := tt_of 911 (by decide +kernel) (by decide +kernel)
abbrev M_X1_dividing : MD := (yX1_dividing, cX1_dividing, 4, (some .int), fun _ _ => True)
theorem mf_X1_dividing : MF M_X1_dividing 2 := ⟨tt_of 650 (by decide +kernel) (by decide +kernel), tt_of 117 (by decide +kernel) (by decide +kernel), ⟨by decide, by decide, by decide +kernel⟩, by decide⟩
theorem mi_X1_dividing : Cond.instanceMethod M_X1_dividing.1 ∈ TT := tt_of 648 (by decide +kernel) (by decide +kernel)
theorem me_X1_dividing : Cond.selects M_X1_dividing.1.cls M_X1_dividing.1 M_X1_dividing.1 ∈ TT := tt_of 649 (by decide +kernel) (by decide +kernel)
abbrev M_X1_flying : MD := (yX1_flying, cX1_flying, 5, (some .int), fun _ _ => True)
theorem mf_X1_flying : MF M_X1_flying 3 := ⟨tt_of 921 (by decide +kernel) (by decide +kernel), tt_of 117 (by decide +kernel) (by decide +kernel), ⟨by decide, by decide, by decide +kernel⟩, by decide⟩
theorem mi_X1_flying : Cond.instanceMethod M_X1_flying.1 ∈ TT := tt_of 919 (by decide +kernel) (by decide +kernel)
theorem me_X1_flying : Cond.selects M_X1_flying.1.cls M_X1_flying.1 M_X1_flying.1 ∈ TT := tt_of 920 (by decide +kernel) (by decide +kernel)
abbrev M_X1_passing : MD := (yX1_passing, cX1_passing, 4, (some .int), fun _ _ => True)
theorem mf_X1_passing : MF M_X1_passing 1 := ⟨tt_of 925 (by decide +kernel) (by decide +kernel), tt_of 117 (by decide +kernel) (by decide +kernel), ⟨by decide, by decide, by decide +kernel⟩, by decide⟩
theorem mi_X1_passing : Cond.instanceMethod M_X1_passing.1 ∈ TT := tt_of 923 (by decide +kernel) (by decide +kernel)
theorem me_X1_passing : Cond.selects M_X1_passing.1.cls M_X1_passing.1 M_X1_passing.1 ∈ TT := tt_of 924 (by decide +kernel) (by decide +kernel)
abbrev M_X1_wouldCarry : MD := (yX1_wouldCarry, cX1_wouldCarry, 4, (some .boolean), fun _ _ => True)
theorem mf_X1_wouldCarry : MF M_X1_wouldCarry 2 := ⟨tt_of 663 (by decide +kernel) (by decide +kernel), tt_of 117 (by decide +kernel) (by decide +kernel), ⟨by decide, by decide, by decide +kernel⟩, by decide⟩
theorem mi_X1_wouldCarry : Cond.instanceMethod M_X1_wouldCarry.1 ∈ TT := tt_of 662 (by decide +kernel) (by decide +kernel)
theorem me_X1_wouldCarry : Cond.selects M_X1_wouldCarry.1.cls M_X1_wouldCarry.1 M_X1_wouldCarry.1 ∈ TT := tt_of 4 (by decide +kernel) (by decide +kernel)
abbrev M_X1_fewest : MD := (yX1_fewest, cX1_fewest, 7, (some .int), fun _ _ => True)
theorem mf_X1_fewest : MF M_X1_fewest 3 := ⟨tt_of 1016 (by decide +kernel) (by decide +kernel), tt_of 117 (by decide +kernel) (by decide +kernel), ⟨by decide, by decide, by decide +kernel⟩, by decide⟩
theorem mi_X1_fewest : Cond.instanceMethod M_X1_fewest.1 ∈ TT := tt_of 1014 (by decide +kernel) (by decide +kernel)
theorem me_X1_fewest : Cond.selects M_X1_fewest.1.cls M_X1_fewest.1 M_X1_fewest.1 ∈ TT := tt_of 1015 (by decide +kernel) (by decide +kernel)
abbrev M_X1_hops : MD := (yX1_hops, cX1_hops, 6, (some .int), fun _ _ => True)
theorem mf_X1_hops : MF M_X1_hops 3 := ⟨tt_of 1031 (by decide +kernel) (by decide +kernel), tt_of 117 (by decide +kernel) (by decide +kernel), ⟨by decide, by decide, by decide +kernel⟩, by decide⟩
theorem mi_X1_hops : Cond.instanceMethod M_X1_hops.1 ∈ TT := tt_of 1029 (by decide +kernel) (by decide +kernel)
theorem me_X1_hops : Cond.selects M_X1_hops.1.cls M_X1_hops.1 M_X1_hops.1 ∈ TT := tt_of 1030 (by decide +kernel) (by decide +kernel)
abbrev M_X1_nextInChain : MD := (yX1_nextInChain, cX1_nextInChain, 5, (some .int), fun _ _ => True)
theorem mf_X1_nextInChain : MF M_X1_nextInChain 3 := ⟨tt_of 1035 (by decide +kernel) (by decide +kernel), tt_of 117 (by decide +kernel) (by decide +kernel), ⟨by decide, by decide, by decide +kernel⟩, by decide⟩
theorem mi_X1_nextInChain : Cond.instanceMethod M_X1_nextInChain.1 ∈ TT := tt_of 1034 (by decide +kernel) (by decide +kernel)
theorem me_X1_nextInChain : Cond.selects M_X1_nextInChain.1.cls M_X1_nextInChain.1 M_X1_nextInChain.1 ∈ TT := tt_of 33 (by decide +kernel) (by decide +kernel)
abbrev M_X1_chainBird : MD := (yX1_chainBird, cX1_chainBird, 6, (some .int), fun _ _ => True)
theorem mf_X1_chainBird : MF M_X1_chainBird 3 := ⟨tt_of 1039 (by decide +kernel) (by decide +kernel), tt_of 117 (by decide +kernel) (by decide +kernel), ⟨by decide, by decide, by decide +kernel⟩, by decide⟩
theorem mi_X1_chainBird : Cond.instanceMethod M_X1_chainBird.1 ∈ TT := tt_of 1037 (by decide +kernel) (by decide +kernel)
theorem me_X1_chainBird : Cond.selects M_X1_chainBird.1.cls M_X1_chainBird.1 M_X1_chainBird.1 ∈ TT := tt_of 1038 (by decide +kernel) (by decide +kernel)
abbrev M_X1_fewestEars : MD := (yX1_fewestEars, cX1_fewestEars, 6, (some .int), fun _ _ => True)
theorem mf_X1_fewestEars : MF M_X1_fewestEars 1 := ⟨tt_of 1047 (by decide +kernel) (by decide +kernel), tt_of 117 (by decide +kernel) (by decide +kernel), ⟨by decide, by decide, by decide +kernel⟩, by decide⟩
theorem mi_X1_fewestEars : Cond.instanceMethod M_X1_fewestEars.1 ∈ TT := tt_of 1045 (by decide +kernel) (by decide +kernel)
theorem me_X1_fewestEars : Cond.selects M_X1_fewestEars.1.cls M_X1_fewestEars.1 M_X1_fewestEars.1 ∈ TT := tt_of 1046 (by decide +kernel) (by decide +kernel)
abbrev M_X1_hearAll : MD := (yX1_hearAll, cX1_hearAll, 5, (some .boolean), fun _ _ => True)
theorem mf_X1_hearAll : MF M_X1_hearAll 2 := ⟨tt_of 1056 (by decide +kernel) (by decide +kernel), tt_of 117 (by decide +kernel) (by decide +kernel), ⟨by decide, by decide, by decide +kernel⟩, by decide⟩
theorem mi_X1_hearAll : Cond.instanceMethod M_X1_hearAll.1 ∈ TT := tt_of 1055 (by decide +kernel) (by decide +kernel)
theorem me_X1_hearAll : Cond.selects M_X1_hearAll.1.cls M_X1_hearAll.1 M_X1_hearAll.1 ∈ TT := tt_of 34 (by decide +kernel) (by decide +kernel)
abbrev M_X1_mattersAsHeard : MD := (yX1_mattersAsHeard, cX1_mattersAsHeard, 4, (some .int), fun _ _ => True)
theorem mf_X1_mattersAsHeard : MF M_X1_mattersAsHeard 1 := ⟨tt_of 1087 (by decide +kernel) (by decide +kernel), tt_of 117 (by decide +kernel) (by decide +kernel), ⟨by decide, by decide, by decide +kernel⟩, by decide⟩
theorem mi_X1_mattersAsHeard : Cond.instanceMethod M_X1_mattersAsHeard.1 ∈ TT := tt_of 1085 (by decide +kernel) (by decide +kernel)
theorem me_X1_mattersAsHeard : Cond.selects M_X1_mattersAsHeard.1.cls M_X1_mattersAsHeard.1 M_X1_mattersAsHeard.1 ∈ TT := tt_of 1086 (by decide +kernel) (by decide +kernel)
abbrev M_X1_mattersAyeOn : MD := (yX1_mattersAyeOn, cX1_mattersAyeOn, 5, (some .int), fun _ _ => True)
theorem mf_X1_mattersAyeOn : MF M_X1_mattersAyeOn 2 := ⟨tt_of 1100 (by decide +kernel) (by decide +kernel), tt_of 117 (by decide +kernel) (by decide +kernel), ⟨by decide, by decide, by decide +kernel⟩, by decide⟩
theorem mi_X1_mattersAyeOn : Cond.instanceMethod M_X1_mattersAyeOn.1 ∈ TT := tt_of 1098 (by decide +kernel) (by decide +kernel)
theorem me_X1_mattersAyeOn : Cond.selects M_X1_mattersAyeOn.1.cls M_X1_mattersAyeOn.1 M_X1_mattersAyeOn.1 ∈ TT := tt_of 1099 (by decide +kernel) (by decide +kernel)
abbrev M_X2_init : MD := (yX2_init, cX2_init, 1, none, fun _ _ => True)
theorem mf_X2_init : MF M_X2_init 0 := ⟨tt_of 309 (by decide +kernel) (by decide +kernel), tt_of 115 (by decide +kernel) (by decide +kernel), ⟨by decide, by decide, by decide +kernel⟩, by decide⟩
theorem mi_X2_init : Cond.instanceMethod M_X2_init.1 ∈ TT := tt_of 308 (by decide +kernel) (by decide +kernel)
abbrev M_X2_begin : MD := (yX2_begin, cX2_begin, 3, none, fun _ _ => True)
theorem mf_X2_begin : MF M_X2_begin 2 := ⟨tt_of 1121 (by decide +kernel) (by decide +kernel), tt_of 115 (by decide +kernel) (by decide +kernel), ⟨by decide, by decide, by decide +kernel⟩, by decide⟩
theorem mi_X2_begin : Cond.instanceMethod M_X2_begin.1 ∈ TT := tt_of 1119 (by decide +kernel) (by decide +kernel)
theorem me_X2_begin : Cond.selects M_X2_begin.1.cls M_X2_begin.1 M_X2_begin.1 ∈ TT := tt_of 1120 (by decide +kernel) (by decide +kernel)
abbrev M_X2_draw : MD := (yX2_draw, cX2_draw, 2, (some .int), fun _ _ => True)
theorem mf_X2_draw : MF M_X2_draw 1 := ⟨tt_of 1130 (by decide +kernel) (by decide +kernel), tt_of 115 (by decide +kernel) (by decide +kernel), ⟨by decide, by decide, by decide +kernel⟩, by decide⟩
theorem mi_X2_draw : Cond.instanceMethod M_X2_draw.1 ∈ TT := tt_of 1129 (by decide +kernel) (by decide +kernel)
theorem me_X2_draw : Cond.selects M_X2_draw.1.cls M_X2_draw.1 M_X2_draw.1 ∈ TT := tt_of 35 (by decide +kernel) (by decide +kernel)
abbrev M_X2_step : MD := (yX2_step, cX2_step, 5, none, fun _ _ => True)
theorem mf_X2_step : MF M_X2_step 1 := ⟨tt_of 1126 (by decide +kernel) (by decide +kernel), tt_of 115 (by decide +kernel) (by decide +kernel), ⟨by decide, by decide, by decide +kernel⟩, by decide⟩
theorem mi_X2_step : Cond.instanceMethod M_X2_step.1 ∈ TT := tt_of 1124 (by decide +kernel) (by decide +kernel)
theorem me_X2_step : Cond.selects M_X2_step.1.cls M_X2_step.1 M_X2_step.1 ∈ TT := tt_of 1125 (by decide +kernel) (by decide +kernel)
abbrev M_X3_init : MD := (yX3_init, cX3_init, 1, none, fun _ _ => True)
theorem mf_X3_init : MF M_X3_init 0 := ⟨tt_of 415 (by decide +kernel) (by decide +kernel), tt_of 119 (by decide +kernel) (by decide +kernel), ⟨by decide, by decide, by decide +kernel⟩, by decide⟩
theorem mi_X3_init : Cond.instanceMethod M_X3_init.1 ∈ TT := tt_of 414 (by decide +kernel) (by decide +kernel)
abbrev M_X3_read : MD := (yX3_read, cX3_read, 5, (some .boolean), fun _ _ => True)
theorem mf_X3_read : MF M_X3_read 3 := ⟨tt_of 710 (by decide +kernel) (by decide +kernel), tt_of 119 (by decide +kernel) (by decide +kernel), ⟨by decide, by decide, by decide +kernel⟩, by decide⟩
theorem mi_X3_read : Cond.instanceMethod M_X3_read.1 ∈ TT := tt_of 708 (by decide +kernel) (by decide +kernel)
theorem me_X3_read : Cond.selects M_X3_read.1.cls M_X3_read.1 M_X3_read.1 ∈ TT := tt_of 709 (by decide +kernel) (by decide +kernel)
abbrev M_X3_place : MD := (yX3_place, cX3_place, 1, (some .int), fun _ _ => True)
theorem mf_X3_place : MF M_X3_place 0 := ⟨tt_of 864 (by decide +kernel) (by decide +kernel), tt_of 119 (by decide +kernel) (by decide +kernel), ⟨by decide, by decide, by decide +kernel⟩, by decide⟩
theorem mi_X3_place : Cond.instanceMethod M_X3_place.1 ∈ TT := tt_of 862 (by decide +kernel) (by decide +kernel)
theorem me_X3_place : Cond.selects M_X3_place.1.cls M_X3_place.1 M_X3_place.1 ∈ TT := tt_of 863 (by decide +kernel) (by decide +kernel)
abbrev M_X3_kind : MD := (yX3_kind, cX3_kind, 1, (some .int), fun _ _ => True)
theorem mf_X3_kind : MF M_X3_kind 0 := ⟨tt_of 788 (by decide +kernel) (by decide +kernel), tt_of 119 (by decide +kernel) (by decide +kernel), ⟨by decide, by decide, by decide +kernel⟩, by decide⟩
theorem mi_X3_kind : Cond.instanceMethod M_X3_kind.1 ∈ TT := tt_of 787 (by decide +kernel) (by decide +kernel)
theorem me_X3_kind : Cond.selects M_X3_kind.1.cls M_X3_kind.1 M_X3_kind.1 ∈ TT := tt_of 10 (by decide +kernel) (by decide +kernel)
abbrev M_X3_number : MD := (yX3_number, cX3_number, 1, (some .int), fun _ _ => True)
theorem mf_X3_number : MF M_X3_number 0 := ⟨tt_of 824 (by decide +kernel) (by decide +kernel), tt_of 119 (by decide +kernel) (by decide +kernel), ⟨by decide, by decide, by decide +kernel⟩, by decide⟩
theorem mi_X3_number : Cond.instanceMethod M_X3_number.1 ∈ TT := tt_of 823 (by decide +kernel) (by decide +kernel)
theorem me_X3_number : Cond.selects M_X3_number.1.cls M_X3_number.1 M_X3_number.1 ∈ TT := tt_of 18 (by decide +kernel) (by decide +kernel)
abbrev M_X3_next : MD := (yX3_next, cX3_next, 1, none, fun _ _ => True)
theorem mf_X3_next : MF M_X3_next 0 := ⟨tt_of 804 (by decide +kernel) (by decide +kernel), tt_of 119 (by decide +kernel) (by decide +kernel), ⟨by decide, by decide, by decide +kernel⟩, by decide⟩
theorem mi_X3_next : Cond.instanceMethod M_X3_next.1 ∈ TT := tt_of 803 (by decide +kernel) (by decide +kernel)
theorem me_X3_next : Cond.selects M_X3_next.1.cls M_X3_next.1 M_X3_next.1 ∈ TT := tt_of 13 (by decide +kernel) (by decide +kernel)
abbrev M_X3_isNumber : MD := (yX3_isNumber, cX3_isNumber, 3, (some .boolean), fun _ _ => True)
theorem mf_X3_isNumber : MF M_X3_isNumber 2 := ⟨tt_of 820 (by decide +kernel) (by decide +kernel), tt_of 119 (by decide +kernel) (by decide +kernel), ⟨by decide, by decide, by decide +kernel⟩, by decide⟩
theorem mi_X3_isNumber : Cond.instanceMethod M_X3_isNumber.1 ∈ TT := tt_of 819 (by decide +kernel) (by decide +kernel)
theorem me_X3_isNumber : Cond.selects M_X3_isNumber.1.cls M_X3_isNumber.1 M_X3_isNumber.1 ∈ TT := tt_of 17 (by decide +kernel) (by decide +kernel)
abbrev M_X3_setHead : MD := (yX3_setHead, cX3_setHead, 3, none, fun _ _ => True)
theorem mf_X3_setHead : MF M_X3_setHead 2 := ⟨tt_of 792 (by decide +kernel) (by decide +kernel), tt_of 119 (by decide +kernel) (by decide +kernel), ⟨by decide, by decide, by decide +kernel⟩, by decide⟩
theorem mi_X3_setHead : Cond.instanceMethod M_X3_setHead.1 ∈ TT := tt_of 791 (by decide +kernel) (by decide +kernel)
theorem me_X3_setHead : Cond.selects M_X3_setHead.1.cls M_X3_setHead.1 M_X3_setHead.1 ∈ TT := tt_of 11 (by decide +kernel) (by decide +kernel)
abbrev M_X3_emit : MD := (yX3_emit, cX3_emit, 3, none, fun _ _ => True)
theorem mf_X3_emit : MF M_X3_emit 2 := ⟨tt_of 828 (by decide +kernel) (by decide +kernel), tt_of 119 (by decide +kernel) (by decide +kernel), ⟨by decide, by decide, by decide +kernel⟩, by decide⟩
theorem mi_X3_emit : Cond.instanceMethod M_X3_emit.1 ∈ TT := tt_of 827 (by decide +kernel) (by decide +kernel)
theorem me_X3_emit : Cond.selects M_X3_emit.1.cls M_X3_emit.1 M_X3_emit.1 ∈ TT := tt_of 19 (by decide +kernel) (by decide +kernel)
abbrev M_X3_lawClause : MD := (yX3_lawClause, cX3_lawClause, 2, (some .boolean), fun _ _ => True)
theorem mf_X3_lawClause : MF M_X3_lawClause 0 := ⟨tt_of 800 (by decide +kernel) (by decide +kernel), tt_of 119 (by decide +kernel) (by decide +kernel), ⟨by decide, by decide, by decide +kernel⟩, by decide⟩
theorem mi_X3_lawClause : Cond.instanceMethod M_X3_lawClause.1 ∈ TT := tt_of 799 (by decide +kernel) (by decide +kernel)
theorem me_X3_lawClause : Cond.selects M_X3_lawClause.1.cls M_X3_lawClause.1 M_X3_lawClause.1 ∈ TT := tt_of 12 (by decide +kernel) (by decide +kernel)
abbrev M_X3_orderClause : MD := (yX3_orderClause, cX3_orderClause, 2, (some .boolean), fun _ _ => True)
theorem mf_X3_orderClause : MF M_X3_orderClause 0 := ⟨tt_of 840 (by decide +kernel) (by decide +kernel), tt_of 119 (by decide +kernel) (by decide +kernel), ⟨by decide, by decide, by decide +kernel⟩, by decide⟩
theorem mi_X3_orderClause : Cond.instanceMethod M_X3_orderClause.1 ∈ TT := tt_of 839 (by decide +kernel) (by decide +kernel)
theorem me_X3_orderClause : Cond.selects M_X3_orderClause.1.cls M_X3_orderClause.1 M_X3_orderClause.1 ∈ TT := tt_of 22 (by decide +kernel) (by decide +kernel)
abbrev M_X3_times : MD := (yX3_times, cX3_times, 1, (some .boolean), fun _ _ => True)
theorem mf_X3_times : MF M_X3_times 0 := ⟨tt_of 844 (by decide +kernel) (by decide +kernel), tt_of 119 (by decide +kernel) (by decide +kernel), ⟨by decide, by decide, by decide +kernel⟩, by decide⟩
theorem mi_X3_times : Cond.instanceMethod M_X3_times.1 ∈ TT := tt_of 843 (by decide +kernel) (by decide +kernel)
theorem me_X3_times : Cond.selects M_X3_times.1.cls M_X3_times.1 M_X3_times.1 ∈ TT := tt_of 23 (by decide +kernel) (by decide +kernel)
abbrev M_X3_test : MD := (yX3_test, cX3_test, 6, (some .boolean), fun _ _ => True)
theorem mf_X3_test : MF M_X3_test 1 := ⟨tt_of 848 (by decide +kernel) (by decide +kernel), tt_of 119 (by decide +kernel) (by decide +kernel), ⟨by decide, by decide, by decide +kernel⟩, by decide⟩
theorem mi_X3_test : Cond.instanceMethod M_X3_test.1 ∈ TT := tt_of 847 (by decide +kernel) (by decide +kernel)
theorem me_X3_test : Cond.selects M_X3_test.1.cls M_X3_test.1 M_X3_test.1 ∈ TT := tt_of 24 (by decide +kernel) (by decide +kernel)
abbrev M_X3_leapHere : MD := (yX3_leapHere, cX3_leapHere, 2, none, fun _ _ => True)
theorem mf_X3_leapHere : MF M_X3_leapHere 1 := ⟨tt_of 860 (by decide +kernel) (by decide +kernel), tt_of 119 (by decide +kernel) (by decide +kernel), ⟨by decide, by decide, by decide +kernel⟩, by decide⟩
theorem mi_X3_leapHere : Cond.instanceMethod M_X3_leapHere.1 ∈ TT := tt_of 859 (by decide +kernel) (by decide +kernel)
theorem me_X3_leapHere : Cond.selects M_X3_leapHere.1.cls M_X3_leapHere.1 M_X3_leapHere.1 ∈ TT := tt_of 27 (by decide +kernel) (by decide +kernel)
abbrev M_X3_plain : MD := (yX3_plain, cX3_plain, 4, (some .boolean), fun _ _ => True)
theorem mf_X3_plain : MF M_X3_plain 1 := ⟨tt_of 852 (by decide +kernel) (by decide +kernel), tt_of 119 (by decide +kernel) (by decide +kernel), ⟨by decide, by decide, by decide +kernel⟩, by decide⟩
theorem mi_X3_plain : Cond.instanceMethod M_X3_plain.1 ∈ TT := tt_of 851 (by decide +kernel) (by decide +kernel)
theorem me_X3_plain : Cond.selects M_X3_plain.1.cls M_X3_plain.1 M_X3_plain.1 ∈ TT := tt_of 25 (by decide +kernel) (by decide +kernel)
abbrev M_X3_testInBrackets : MD := (yX3_testInBrackets, cX3_testInBrackets, 2, (some .boolean), fun _ _ => True)
theorem mf_X3_testInBrackets : MF M_X3_testInBrackets 1 := ⟨tt_of 856 (by decide +kernel) (by decide +kernel), tt_of 119 (by decide +kernel) (by decide +kernel), ⟨by decide, by decide, by decide +kernel⟩, by decide⟩
theorem mi_X3_testInBrackets : Cond.instanceMethod M_X3_testInBrackets.1 ∈ TT := tt_of 855 (by decide +kernel) (by decide +kernel)
theorem me_X3_testInBrackets : Cond.selects M_X3_testInBrackets.1.cls M_X3_testInBrackets.1 M_X3_testInBrackets.1 ∈ TT := tt_of 26 (by decide +kernel) (by decide +kernel)
abbrev M_X3_sum : MD := (yX3_sum, cX3_sum, 6, (some .boolean), fun _ _ => True)
theorem mf_X3_sum : MF M_X3_sum 1 := ⟨tt_of 808 (by decide +kernel) (by decide +kernel), tt_of 119 (by decide +kernel) (by decide +kernel), ⟨by decide, by decide, by decide +kernel⟩, by decide⟩
theorem mi_X3_sum : Cond.instanceMethod M_X3_sum.1 ∈ TT := tt_of 807 (by decide +kernel) (by decide +kernel)
theorem me_X3_sum : Cond.selects M_X3_sum.1.cls M_X3_sum.1 M_X3_sum.1 ∈ TT := tt_of 14 (by decide +kernel) (by decide +kernel)
abbrev M_X3_part : MD := (yX3_part, cX3_part, 2, (some .boolean), fun _ _ => True)
theorem mf_X3_part : MF M_X3_part 1 := ⟨tt_of 812 (by decide +kernel) (by decide +kernel), tt_of 119 (by decide +kernel) (by decide +kernel), ⟨by decide, by decide, by decide +kernel⟩, by decide⟩
theorem mi_X3_part : Cond.instanceMethod M_X3_part.1 ∈ TT := tt_of 811 (by decide +kernel) (by decide +kernel)
theorem me_X3_part : Cond.selects M_X3_part.1.cls M_X3_part.1 M_X3_part.1 ∈ TT := tt_of 15 (by decide +kernel) (by decide +kernel)
abbrev M_X3_sumInBrackets : MD := (yX3_sumInBrackets, cX3_sumInBrackets, 2, (some .boolean), fun _ _ => True)
theorem mf_X3_sumInBrackets : MF M_X3_sumInBrackets 1 := ⟨tt_of 816 (by decide +kernel) (by decide +kernel), tt_of 119 (by decide +kernel) (by decide +kernel), ⟨by decide, by decide, by decide +kernel⟩, by decide⟩
theorem mi_X3_sumInBrackets : Cond.instanceMethod M_X3_sumInBrackets.1 ∈ TT := tt_of 815 (by decide +kernel) (by decide +kernel)
theorem me_X3_sumInBrackets : Cond.selects M_X3_sumInBrackets.1.cls M_X3_sumInBrackets.1 M_X3_sumInBrackets.1 ∈ TT := tt_of 16 (by decide +kernel) (by decide +kernel)
abbrev M_X3_lawWord : MD := (yX3_lawWord, cX3_lawWord, 2, (some .boolean), fun _ _ => True)
theorem mf_X3_lawWord : MF M_X3_lawWord 0 := ⟨tt_of 832 (by decide +kernel) (by decide +kernel), tt_of 119 (by decide +kernel) (by decide +kernel), ⟨by decide, by decide, by decide +kernel⟩, by decide⟩
theorem mi_X3_lawWord : Cond.instanceMethod M_X3_lawWord.1 ∈ TT := tt_of 831 (by decide +kernel) (by decide +kernel)
theorem me_X3_lawWord : Cond.selects M_X3_lawWord.1.cls M_X3_lawWord.1 M_X3_lawWord.1 ∈ TT := tt_of 20 (by decide +kernel) (by decide +kernel)
abbrev M_X3_orderWord : MD := (yX3_orderWord, cX3_orderWord, 2, (some .boolean), fun _ _ => True)
theorem mf_X3_orderWord : MF M_X3_orderWord 0 := ⟨tt_of 836 (by decide +kernel) (by decide +kernel), tt_of 119 (by decide +kernel) (by decide +kernel), ⟨by decide, by decide, by decide +kernel⟩, by decide⟩
theorem mi_X3_orderWord : Cond.instanceMethod M_X3_orderWord.1 ∈ TT := tt_of 835 (by decide +kernel) (by decide +kernel)
theorem me_X3_orderWord : Cond.selects M_X3_orderWord.1.cls M_X3_orderWord.1 M_X3_orderWord.1 ∈ TT := tt_of 21 (by decide +kernel) (by decide +kernel)
abbrev M_X4_init : MD := (yX4_init, cX4_init, 1, none, fun _ _ => True)
theorem mf_X4_init : MF M_X4_init 0 := ⟨tt_of 333 (by decide +kernel) (by decide +kernel), tt_of 116 (by decide +kernel) (by decide +kernel), ⟨by decide, by decide, by decide +kernel⟩, by decide⟩
theorem mi_X4_init : Cond.instanceMethod M_X4_init.1 ∈ TT := tt_of 332 (by decide +kernel) (by decide +kernel)
abbrev M_X4_holds : MD := (yX4_holds, cX4_holds, 7, (some .boolean), fun _ _ => True)
theorem mf_X4_holds : MF M_X4_holds 2 := ⟨tt_of 597 (by decide +kernel) (by decide +kernel), tt_of 116 (by decide +kernel) (by decide +kernel), ⟨by decide, by decide, by decide +kernel⟩, by decide⟩
theorem mi_X4_holds : Cond.instanceMethod M_X4_holds.1 ∈ TT := tt_of 595 (by decide +kernel) (by decide +kernel)
theorem me_X4_holds : Cond.selects M_X4_holds.1.cls M_X4_holds.1 M_X4_holds.1 ∈ TT := tt_of 596 (by decide +kernel) (by decide +kernel)
abbrev M_X4_reckon : MD := (yX4_reckon, cX4_reckon, 15, (some .boolean), fun _ _ => True)
theorem mf_X4_reckon : MF M_X4_reckon 3 := ⟨tt_of 605 (by decide +kernel) (by decide +kernel), tt_of 116 (by decide +kernel) (by decide +kernel), ⟨by decide, by decide, by decide +kernel⟩, by decide⟩
theorem mi_X4_reckon : Cond.instanceMethod M_X4_reckon.1 ∈ TT := tt_of 603 (by decide +kernel) (by decide +kernel)
theorem me_X4_reckon : Cond.selects M_X4_reckon.1.cls M_X4_reckon.1 M_X4_reckon.1 ∈ TT := tt_of 604 (by decide +kernel) (by decide +kernel)
abbrev M_X5_init : MD := (yX5_init, cX5_init, 1, none, fun _ _ => True)
theorem mf_X5_init : MF M_X5_init 0 := ⟨tt_of 287 (by decide +kernel) (by decide +kernel), tt_of 114 (by decide +kernel) (by decide +kernel), ⟨by decide, by decide, by decide +kernel⟩, by decide⟩
theorem mi_X5_init : Cond.instanceMethod M_X5_init.1 ∈ TT := tt_of 286 (by decide +kernel) (by decide +kernel)
abbrev M_X5_note : MD := (yX5_note, cX5_note, 2, none, fun _ _ => True)
theorem mf_X5_note : MF M_X5_note 1 := ⟨tt_of 904 (by decide +kernel) (by decide +kernel), tt_of 114 (by decide +kernel) (by decide +kernel), ⟨by decide, by decide, by decide +kernel⟩, by decide⟩
theorem mi_X5_note : Cond.instanceMethod M_X5_note.1 ∈ TT := tt_of 902 (by decide +kernel) (by decide +kernel)
theorem me_X5_note : Cond.selects M_X5_note.1.cls M_X5_note.1 M_X5_note.1 ∈ TT := tt_of 903 (by decide +kernel) (by decide +kernel)
abbrev M_X5_keep : MD := (yX5_keep, cX5_keep, 2, none, fun _ _ => True)
theorem mf_X5_keep : MF M_X5_keep 1 := ⟨tt_of 929 (by decide +kernel) (by decide +kernel), tt_of 114 (by decide +kernel) (by decide +kernel), ⟨by decide, by decide, by decide +kernel⟩, by decide⟩
theorem mi_X5_keep : Cond.instanceMethod M_X5_keep.1 ∈ TT := tt_of 927 (by decide +kernel) (by decide +kernel)
theorem me_X5_keep : Cond.selects M_X5_keep.1.cls M_X5_keep.1 M_X5_keep.1 ∈ TT := tt_of 928 (by decide +kernel) (by decide +kernel)
abbrev M_X5_takeBack : MD := (yX5_takeBack, cX5_takeBack, 2, (some .int), fun _ _ => True)
theorem mf_X5_takeBack : MF M_X5_takeBack 1 := ⟨tt_of 971 (by decide +kernel) (by decide +kernel), tt_of 114 (by decide +kernel) (by decide +kernel), ⟨by decide, by decide, by decide +kernel⟩, by decide⟩
theorem mi_X5_takeBack : Cond.instanceMethod M_X5_takeBack.1 ∈ TT := tt_of 969 (by decide +kernel) (by decide +kernel)
theorem me_X5_takeBack : Cond.selects M_X5_takeBack.1.cls M_X5_takeBack.1 M_X5_takeBack.1 ∈ TT := tt_of 970 (by decide +kernel) (by decide +kernel)
abbrev M_X5_clear : MD := (yX5_clear, cX5_clear, 1, none, fun _ _ => True)
theorem mf_X5_clear : MF M_X5_clear 0 := ⟨tt_of 531 (by decide +kernel) (by decide +kernel), tt_of 114 (by decide +kernel) (by decide +kernel), ⟨by decide, by decide, by decide +kernel⟩, by decide⟩
theorem mi_X5_clear : Cond.instanceMethod M_X5_clear.1 ∈ TT := tt_of 529 (by decide +kernel) (by decide +kernel)
theorem me_X5_clear : Cond.selects M_X5_clear.1.cls M_X5_clear.1 M_X5_clear.1 ∈ TT := tt_of 530 (by decide +kernel) (by decide +kernel)
abbrev M_X5_become : MD := (yX5_become, cX5_become, 2, none, fun _ _ => True)
theorem mf_X5_become : MF M_X5_become 1 := ⟨tt_of 880 (by decide +kernel) (by decide +kernel), tt_of 114 (by decide +kernel) (by decide +kernel), ⟨by decide, by decide, by decide +kernel⟩, by decide⟩
theorem mi_X5_become : Cond.instanceMethod M_X5_become.1 ∈ TT := tt_of 878 (by decide +kernel) (by decide +kernel)
theorem me_X5_become : Cond.selects M_X5_become.1.cls M_X5_become.1 M_X5_become.1 ∈ TT := tt_of 879 (by decide +kernel) (by decide +kernel)
abbrev M_X6_init : MD := (yX6_init, cX6_init, 1, none, fun _ _ => True)
theorem mf_X6_init : MF M_X6_init 0 := ⟨tt_of 140 (by decide +kernel) (by decide +kernel), tt_of 110 (by decide +kernel) (by decide +kernel), ⟨by decide, by decide, by decide +kernel⟩, by decide⟩
theorem mi_X6_init : Cond.instanceMethod M_X6_init.1 ∈ TT := tt_of 139 (by decide +kernel) (by decide +kernel)
abbrev M_X6_become : MD := (yX6_become, cX6_become, 2, none, fun _ _ => True)
theorem mf_X6_become : MF M_X6_become 1 := ⟨tt_of 1147 (by decide +kernel) (by decide +kernel), tt_of 110 (by decide +kernel) (by decide +kernel), ⟨by decide, by decide, by decide +kernel⟩, by decide⟩
theorem mi_X6_become : Cond.instanceMethod M_X6_become.1 ∈ TT := tt_of 1145 (by decide +kernel) (by decide +kernel)
theorem me_X6_become : Cond.selects M_X6_become.1.cls M_X6_become.1 M_X6_become.1 ∈ TT := tt_of 1146 (by decide +kernel) (by decide +kernel)
abbrev M_X6_hasBird : MD := (yX6_hasBird, cX6_hasBird, 2, (some .boolean), fun _ _ => True)
theorem mf_X6_hasBird : MF M_X6_hasBird 1 := ⟨tt_of 550 (by decide +kernel) (by decide +kernel), tt_of 110 (by decide +kernel) (by decide +kernel), ⟨by decide, by decide, by decide +kernel⟩, by decide⟩
theorem mi_X6_hasBird : Cond.instanceMethod M_X6_hasBird.1 ∈ TT := tt_of 548 (by decide +kernel) (by decide +kernel)
theorem me_X6_hasBird : Cond.selects M_X6_hasBird.1.cls M_X6_hasBird.1 M_X6_hasBird.1 ∈ TT := tt_of 549 (by decide +kernel) (by decide +kernel)
abbrev M_X6_hasMatter : MD := (yX6_hasMatter, cX6_hasMatter, 2, (some .boolean), fun _ _ => True)
theorem mf_X6_hasMatter : MF M_X6_hasMatter 1 := ⟨tt_of 569 (by decide +kernel) (by decide +kernel), tt_of 110 (by decide +kernel) (by decide +kernel), ⟨by decide, by decide, by decide +kernel⟩, by decide⟩
theorem mi_X6_hasMatter : Cond.instanceMethod M_X6_hasMatter.1 ∈ TT := tt_of 567 (by decide +kernel) (by decide +kernel)
theorem me_X6_hasMatter : Cond.selects M_X6_hasMatter.1.cls M_X6_hasMatter.1 M_X6_hasMatter.1 ∈ TT := tt_of 568 (by decide +kernel) (by decide +kernel)
abbrev M_X6_hasLaw : MD := (yX6_hasLaw, cX6_hasLaw, 2, (some .boolean), fun _ _ => True)
theorem mf_X6_hasLaw : MF M_X6_hasLaw 1 := ⟨tt_of 593 (by decide +kernel) (by decide +kernel), tt_of 110 (by decide +kernel) (by decide +kernel), ⟨by decide, by decide, by decide +kernel⟩, by decide⟩
theorem mi_X6_hasLaw : Cond.instanceMethod M_X6_hasLaw.1 ∈ TT := tt_of 591 (by decide +kernel) (by decide +kernel)
theorem me_X6_hasLaw : Cond.selects M_X6_hasLaw.1.cls M_X6_hasLaw.1 M_X6_hasLaw.1 ∈ TT := tt_of 592 (by decide +kernel) (by decide +kernel)
abbrev M_X6_addBird : MD := (yX6_addBird, cX6_addBird, 5, (some .int), fun _ _ => True)
theorem mf_X6_addBird : MF M_X6_addBird 2 := ⟨tt_of 535 (by decide +kernel) (by decide +kernel), tt_of 110 (by decide +kernel) (by decide +kernel), ⟨by decide, by decide, by decide +kernel⟩, by decide⟩
theorem mi_X6_addBird : Cond.instanceMethod M_X6_addBird.1 ∈ TT := tt_of 533 (by decide +kernel) (by decide +kernel)
theorem me_X6_addBird : Cond.selects M_X6_addBird.1.cls M_X6_addBird.1 M_X6_addBird.1 ∈ TT := tt_of 534 (by decide +kernel) (by decide +kernel)
abbrev M_X6_addMatter : MD := (yX6_addMatter, cX6_addMatter, 4, (some .int), fun _ _ => True)
theorem mf_X6_addMatter : MF M_X6_addMatter 2 := ⟨tt_of 626 (by decide +kernel) (by decide +kernel), tt_of 110 (by decide +kernel) (by decide +kernel), ⟨by decide, by decide, by decide +kernel⟩, by decide⟩
theorem mi_X6_addMatter : Cond.instanceMethod M_X6_addMatter.1 ∈ TT := tt_of 624 (by decide +kernel) (by decide +kernel)
theorem me_X6_addMatter : Cond.selects M_X6_addMatter.1.cls M_X6_addMatter.1 M_X6_addMatter.1 ∈ TT := tt_of 625 (by decide +kernel) (by decide +kernel)
abbrev M_X6_hear : MD := (yX6_hear, cX6_hear, 2, none, fun _ _ => True)
theorem mf_X6_hear : MF M_X6_hear 1 := ⟨tt_of 1075 (by decide +kernel) (by decide +kernel), tt_of 110 (by decide +kernel) (by decide +kernel), ⟨by decide, by decide, by decide +kernel⟩, by decide⟩
theorem mi_X6_hear : Cond.instanceMethod M_X6_hear.1 ∈ TT := tt_of 1073 (by decide +kernel) (by decide +kernel)
theorem me_X6_hear : Cond.selects M_X6_hear.1.cls M_X6_hear.1 M_X6_hear.1 ∈ TT := tt_of 1074 (by decide +kernel) (by decide +kernel)
abbrev M_X6_fitsAllHeard : MD := (yX6_fitsAllHeard, cX6_fitsAllHeard, 3, (some .boolean), fun _ _ => True)
theorem mf_X6_fitsAllHeard : MF M_X6_fitsAllHeard 1 := ⟨tt_of 1091 (by decide +kernel) (by decide +kernel), tt_of 110 (by decide +kernel) (by decide +kernel), ⟨by decide, by decide, by decide +kernel⟩, by decide⟩
theorem mi_X6_fitsAllHeard : Cond.instanceMethod M_X6_fitsAllHeard.1 ∈ TT := tt_of 1089 (by decide +kernel) (by decide +kernel)
theorem me_X6_fitsAllHeard : Cond.selects M_X6_fitsAllHeard.1.cls M_X6_fitsAllHeard.1 M_X6_fitsAllHeard.1 ∈ TT := tt_of 1090 (by decide +kernel) (by decide +kernel)
abbrev M_X6_lawInForce : MD := (yX6_lawInForce, cX6_lawInForce, 1, (some (.object "DarkCommittee$Text")), fun _ _ => True)
theorem mf_X6_lawInForce : MF M_X6_lawInForce 0 := ⟨tt_of 585 (by decide +kernel) (by decide +kernel), tt_of 110 (by decide +kernel) (by decide +kernel), ⟨by decide, by decide, by decide +kernel⟩, by decide⟩
theorem mi_X6_lawInForce : Cond.instanceMethod M_X6_lawInForce.1 ∈ TT := tt_of 583 (by decide +kernel) (by decide +kernel)
theorem me_X6_lawInForce : Cond.selects M_X6_lawInForce.1.cls M_X6_lawInForce.1 M_X6_lawInForce.1 ∈ TT := tt_of 584 (by decide +kernel) (by decide +kernel)
abbrev M_X6_lawOf : MD := (yX6_lawOf, cX6_lawOf, 3, (some (.object "DarkCommittee$Text")), fun _ _ => True)
theorem mf_X6_lawOf : MF M_X6_lawOf 1 := ⟨tt_of 589 (by decide +kernel) (by decide +kernel), tt_of 110 (by decide +kernel) (by decide +kernel), ⟨by decide, by decide, by decide +kernel⟩, by decide⟩
theorem mi_X6_lawOf : Cond.instanceMethod M_X6_lawOf.1 ∈ TT := tt_of 587 (by decide +kernel) (by decide +kernel)
theorem me_X6_lawOf : Cond.selects M_X6_lawOf.1.cls M_X6_lawOf.1 M_X6_lawOf.1 ∈ TT := tt_of 588 (by decide +kernel) (by decide +kernel)
abbrev M_X7_init : MD := (yX7_init, cX7_init, 1, none, fun _ _ => True)
theorem mf_X7_init : MF M_X7_init 0 := ⟨tt_of 146 (by decide +kernel) (by decide +kernel), tt_of 111 (by decide +kernel) (by decide +kernel), ⟨by decide, by decide, by decide +kernel⟩, by decide⟩
theorem mi_X7_init : Cond.instanceMethod M_X7_init.1 ∈ TT := tt_of 145 (by decide +kernel) (by decide +kernel)
abbrev M_X7_become : MD := (yX7_become, cX7_become, 2, none, fun _ _ => True)
theorem mf_X7_become : MF M_X7_become 1 := ⟨tt_of 643 (by decide +kernel) (by decide +kernel), tt_of 111 (by decide +kernel) (by decide +kernel), ⟨by decide, by decide, by decide +kernel⟩, by decide⟩
theorem mi_X7_become : Cond.instanceMethod M_X7_become.1 ∈ TT := tt_of 641 (by decide +kernel) (by decide +kernel)
theorem me_X7_become : Cond.selects M_X7_become.1.cls M_X7_become.1 M_X7_become.1 ∈ TT := tt_of 642 (by decide +kernel) (by decide +kernel)
abbrev M_X7_writeTo : MD := (yX7_writeTo, cX7_writeTo, 3, none, fun _ _ => True)
theorem mf_X7_writeTo : MF M_X7_writeTo 2 := ⟨tt_of 908 (by decide +kernel) (by decide +kernel), tt_of 111 (by decide +kernel) (by decide +kernel), ⟨by decide, by decide, by decide +kernel⟩, by decide⟩
theorem mi_X7_writeTo : Cond.instanceMethod M_X7_writeTo.1 ∈ TT := tt_of 906 (by decide +kernel) (by decide +kernel)
theorem me_X7_writeTo : Cond.selects M_X7_writeTo.1.cls M_X7_writeTo.1 M_X7_writeTo.1 ∈ TT := tt_of 907 (by decide +kernel) (by decide +kernel)
abbrev M_X7_readFrom : MD := (yX7_readFrom, cX7_readFrom, 3, none, fun _ _ => True)
theorem mf_X7_readFrom : MF M_X7_readFrom 2 := ⟨tt_of 975 (by decide +kernel) (by decide +kernel), tt_of 111 (by decide +kernel) (by decide +kernel), ⟨by decide, by decide, by decide +kernel⟩, by decide⟩
theorem mi_X7_readFrom : Cond.instanceMethod M_X7_readFrom.1 ∈ TT := tt_of 973 (by decide +kernel) (by decide +kernel)
theorem me_X7_readFrom : Cond.selects M_X7_readFrom.1.cls M_X7_readFrom.1 M_X7_readFrom.1 ∈ TT := tt_of 974 (by decide +kernel) (by decide +kernel)
abbrev M_X8_init : MD := (yX8_init, cX8_init, 3, none, fun _ _ => True)
theorem mf_X8_init : MF M_X8_init 2 := ⟨tt_of 179 (by decide +kernel) (by decide +kernel), tt_of 112 (by decide +kernel) (by decide +kernel), ⟨by decide, by decide, by decide +kernel⟩, by decide⟩
theorem mi_X8_init : Cond.instanceMethod M_X8_init.1 ∈ TT := tt_of 178 (by decide +kernel) (by decide +kernel)
abbrev M_X8_copied : MD := (yX8_copied, cX8_copied, 2, (some (.object "DarkCommittee$Text")), fun _ _ => True)
theorem mf_X8_copied : MF M_X8_copied 0 := ⟨tt_of 868 (by decide +kernel) (by decide +kernel), tt_of 112 (by decide +kernel) (by decide +kernel), ⟨by decide, by decide, by decide +kernel⟩, by decide⟩
theorem mi_X8_copied : Cond.instanceMethod M_X8_copied.1 ∈ TT := tt_of 866 (by decide +kernel) (by decide +kernel)
theorem me_X8_copied : Cond.selects M_X8_copied.1.cls M_X8_copied.1 M_X8_copied.1 ∈ TT := tt_of 867 (by decide +kernel) (by decide +kernel)
abbrev M_X8_head : MD := (yX8_head, cX8_head, 4, (some .int), fun _ _ => True)
theorem mf_X8_head : MF M_X8_head 2 := ⟨tt_of 601 (by decide +kernel) (by decide +kernel), tt_of 112 (by decide +kernel) (by decide +kernel), ⟨by decide, by decide, by decide +kernel⟩, by decide⟩
theorem mi_X8_head : Cond.instanceMethod M_X8_head.1 ∈ TT := tt_of 599 (by decide +kernel) (by decide +kernel)
theorem me_X8_head : Cond.selects M_X8_head.1.cls M_X8_head.1 M_X8_head.1 ∈ TT := tt_of 600 (by decide +kernel) (by decide +kernel)
abbrev M_X8_setHead : MD := (yX8_setHead, cX8_setHead, 5, none, fun _ _ => True)
theorem mf_X8_setHead : MF M_X8_setHead 3 := ⟨tt_of 796 (by decide +kernel) (by decide +kernel), tt_of 112 (by decide +kernel) (by decide +kernel), ⟨by decide, by decide, by decide +kernel⟩, by decide⟩
theorem mi_X8_setHead : Cond.instanceMethod M_X8_setHead.1 ∈ TT := tt_of 794 (by decide +kernel) (by decide +kernel)
theorem me_X8_setHead : Cond.selects M_X8_setHead.1.cls M_X8_setHead.1 M_X8_setHead.1 ∈ TT := tt_of 795 (by decide +kernel) (by decide +kernel)
abbrev M_X9_init : MD := (yX9_init, cX9_init, 1, none, fun _ _ => True)
theorem mf_X9_init : MF M_X9_init 0 := ⟨tt_of 421 (by decide +kernel) (by decide +kernel), tt_of 120 (by decide +kernel) (by decide +kernel), ⟨by decide, by decide, by decide +kernel⟩, by decide⟩
theorem mi_X9_init : Cond.instanceMethod M_X9_init.1 ∈ TT := tt_of 420 (by decide +kernel) (by decide +kernel)
abbrev M_X9_cut : MD := (yX9_cut, cX9_cut, 5, none, fun _ _ => True)
theorem mf_X9_cut : MF M_X9_cut 2 := ⟨tt_of 714 (by decide +kernel) (by decide +kernel), tt_of 120 (by decide +kernel) (by decide +kernel), ⟨by decide, by decide, by decide +kernel⟩, by decide⟩
theorem mi_X9_cut : Cond.instanceMethod M_X9_cut.1 ∈ TT := tt_of 712 (by decide +kernel) (by decide +kernel)
theorem me_X9_cut : Cond.selects M_X9_cut.1.cls M_X9_cut.1 M_X9_cut.1 ∈ TT := tt_of 713 (by decide +kernel) (by decide +kernel)
abbrev M_X9_add : MD := (yX9_add, cX9_add, 4, none, fun _ _ => True)
theorem mf_X9_add : MF M_X9_add 3 := ⟨tt_of 784 (by decide +kernel) (by decide +kernel), tt_of 120 (by decide +kernel) (by decide +kernel), ⟨by decide, by decide, by decide +kernel⟩, by decide⟩
theorem mi_X9_add : Cond.instanceMethod M_X9_add.1 ∈ TT := tt_of 783 (by decide +kernel) (by decide +kernel)
theorem me_X9_add : Cond.selects M_X9_add.1.cls M_X9_add.1 M_X9_add.1 ∈ TT := tt_of 9 (by decide +kernel) (by decide +kernel)
abbrev M_X9_sortOf : MD := (yX9_sortOf, cX9_sortOf, 1, (some .int), fun _ _ => True)
theorem mf_X9_sortOf : MF M_X9_sortOf 1 := ⟨tt_of 720 (by decide +kernel) (by decide +kernel), tt_of 120 (by decide +kernel) (by decide +kernel), ⟨by decide, by decide, by decide +kernel⟩, by decide⟩
theorem ms_X9_sortOf : Cond.static M_X9_sortOf.1 ∈ TT := tt_of 719 (by decide +kernel) (by decide +kernel)
abbrev M_X9_endOf : MD := (yX9_endOf, cX9_endOf, 5, (some .int), fun _ _ => True)
theorem mf_X9_endOf : MF M_X9_endOf 3 := ⟨tt_of 717 (by decide +kernel) (by decide +kernel), tt_of 120 (by decide +kernel) (by decide +kernel), ⟨by decide, by decide, by decide +kernel⟩, by decide⟩
theorem ms_X9_endOf : Cond.static M_X9_endOf.1 ∈ TT := tt_of 716 (by decide +kernel) (by decide +kernel)
abbrev M_X9_kindOf : MD := (yX9_kindOf, cX9_kindOf, 4, (some .int), fun _ _ => True)
theorem mf_X9_kindOf : MF M_X9_kindOf 3 := ⟨tt_of 723 (by decide +kernel) (by decide +kernel), tt_of 120 (by decide +kernel) (by decide +kernel), ⟨by decide, by decide, by decide +kernel⟩, by decide⟩
theorem ms_X9_kindOf : Cond.static M_X9_kindOf.1 ∈ TT := tt_of 722 (by decide +kernel) (by decide +kernel)
abbrev M_X9_wordOf : MD := (yX9_wordOf, cX9_wordOf, 8, (some .int), fun _ _ => True)
theorem mf_X9_wordOf : MF M_X9_wordOf 3 := ⟨tt_of 726 (by decide +kernel) (by decide +kernel), tt_of 120 (by decide +kernel) (by decide +kernel), ⟨by decide, by decide, by decide +kernel⟩, by decide⟩
theorem ms_X9_wordOf : Cond.static M_X9_wordOf.1 ∈ TT := tt_of 725 (by decide +kernel) (by decide +kernel)
abbrev M_X9_numberOf : MD := (yX9_numberOf, cX9_numberOf, 5, (some .int), fun _ _ => True)
theorem mf_X9_numberOf : MF M_X9_numberOf 3 := ⟨tt_of 778 (by decide +kernel) (by decide +kernel), tt_of 120 (by decide +kernel) (by decide +kernel), ⟨by decide, by decide, by decide +kernel⟩, by decide⟩
theorem ms_X9_numberOf : Cond.static M_X9_numberOf.1 ∈ TT := tt_of 777 (by decide +kernel) (by decide +kernel)
abbrev M_X10_init : MD := (yX10_init, cX10_init, 2, none, fun _ _ => True)
theorem mf_X10_init : MF M_X10_init 0 := ⟨tt_of 132 (by decide +kernel) (by decide +kernel), tt_of 109 (by decide +kernel) (by decide +kernel), ⟨by decide, by decide, by decide +kernel⟩, by decide⟩
theorem mi_X10_init : Cond.instanceMethod M_X10_init.1 ∈ TT := tt_of 131 (by decide +kernel) (by decide +kernel)
abbrev M_X10_bird : MD := (yX10_bird, cX10_bird, 3, (some .int), fun _ _ => True)
theorem mf_X10_bird : MF M_X10_bird 2 := ⟨tt_of 523 (by decide +kernel) (by decide +kernel), tt_of 109 (by decide +kernel) (by decide +kernel), ⟨by decide, by decide, by decide +kernel⟩, by decide⟩
theorem mi_X10_bird : Cond.instanceMethod M_X10_bird.1 ∈ TT := tt_of 521 (by decide +kernel) (by decide +kernel)
theorem me_X10_bird : Cond.selects M_X10_bird.1.cls M_X10_bird.1 M_X10_bird.1 ∈ TT := tt_of 522 (by decide +kernel) (by decide +kernel)
abbrev M_X10_favour : MD := (yX10_favour, cX10_favour, 5, (some .int), fun _ _ => True)
theorem mf_X10_favour : MF M_X10_favour 3 := ⟨tt_of 546 (by decide +kernel) (by decide +kernel), tt_of 109 (by decide +kernel) (by decide +kernel), ⟨by decide, by decide, by decide +kernel⟩, by decide⟩
theorem mi_X10_favour : Cond.instanceMethod M_X10_favour.1 ∈ TT := tt_of 544 (by decide +kernel) (by decide +kernel)
theorem me_X10_favour : Cond.selects M_X10_favour.1.cls M_X10_favour.1 M_X10_favour.1 ∈ TT := tt_of 545 (by decide +kernel) (by decide +kernel)
abbrev M_X10_of : MD := (yX10_of, cX10_of, 4, (some .int), fun _ _ => True)
theorem mf_X10_of : MF M_X10_of 2 := ⟨tt_of 554 (by decide +kernel) (by decide +kernel), tt_of 109 (by decide +kernel) (by decide +kernel), ⟨by decide, by decide, by decide +kernel⟩, by decide⟩
theorem mi_X10_of : Cond.instanceMethod M_X10_of.1 ∈ TT := tt_of 552 (by decide +kernel) (by decide +kernel)
theorem me_X10_of : Cond.selects M_X10_of.1.cls M_X10_of.1 M_X10_of.1 ∈ TT := tt_of 553 (by decide +kernel) (by decide +kernel)
abbrev M_X10_matter : MD := (yX10_matter, cX10_matter, 3, (some .int), fun _ _ => True)
theorem mf_X10_matter : MF M_X10_matter 2 := ⟨tt_of 622 (by decide +kernel) (by decide +kernel), tt_of 109 (by decide +kernel) (by decide +kernel), ⟨by decide, by decide, by decide +kernel⟩, by decide⟩
theorem mi_X10_matter : Cond.instanceMethod M_X10_matter.1 ∈ TT := tt_of 620 (by decide +kernel) (by decide +kernel)
theorem me_X10_matter : Cond.selects M_X10_matter.1.cls M_X10_matter.1 M_X10_matter.1 ∈ TT := tt_of 621 (by decide +kernel) (by decide +kernel)
abbrev M_X10_at : MD := (yX10_at, cX10_at, 3, (some .int), fun _ _ => True)
theorem mf_X10_at : MF M_X10_at 2 := ⟨tt_of 630 (by decide +kernel) (by decide +kernel), tt_of 109 (by decide +kernel) (by decide +kernel), ⟨by decide, by decide, by decide +kernel⟩, by decide⟩
theorem mi_X10_at : Cond.instanceMethod M_X10_at.1 ∈ TT := tt_of 628 (by decide +kernel) (by decide +kernel)
theorem me_X10_at : Cond.selects M_X10_at.1.cls M_X10_at.1 M_X10_at.1 ∈ TT := tt_of 629 (by decide +kernel) (by decide +kernel)
abbrev M_X10_terms : MD := (yX10_terms, cX10_terms, 4, (some .int), fun _ _ => True)
theorem mf_X10_terms : MF M_X10_terms 2 := ⟨tt_of 667 (by decide +kernel) (by decide +kernel), tt_of 109 (by decide +kernel) (by decide +kernel), ⟨by decide, by decide, by decide +kernel⟩, by decide⟩
theorem mi_X10_terms : Cond.instanceMethod M_X10_terms.1 ∈ TT := tt_of 665 (by decide +kernel) (by decide +kernel)
theorem me_X10_terms : Cond.selects M_X10_terms.1.cls M_X10_terms.1 M_X10_terms.1 ∈ TT := tt_of 666 (by decide +kernel) (by decide +kernel)
abbrev M_X10_largestTerm : MD := (yX10_largestTerm, cX10_largestTerm, 1, (some .int), fun _ _ => True)
theorem mf_X10_largestTerm : MF M_X10_largestTerm 1 := ⟨tt_of 670 (by decide +kernel) (by decide +kernel), tt_of 109 (by decide +kernel) (by decide +kernel), ⟨by decide, by decide, by decide +kernel⟩, by decide⟩
theorem ms_X10_largestTerm : Cond.static M_X10_largestTerm.1 ∈ TT := tt_of 669 (by decide +kernel) (by decide +kernel)
abbrev M_X10_term : MD := (yX10_term, cX10_term, 2, (some .int), fun _ _ => True)
theorem mf_X10_term : MF M_X10_term 1 := ⟨tt_of 674 (by decide +kernel) (by decide +kernel), tt_of 109 (by decide +kernel) (by decide +kernel), ⟨by decide, by decide, by decide +kernel⟩, by decide⟩
theorem mi_X10_term : Cond.instanceMethod M_X10_term.1 ∈ TT := tt_of 673 (by decide +kernel) (by decide +kernel)
theorem me_X10_term : Cond.selects M_X10_term.1.cls M_X10_term.1 M_X10_term.1 ∈ TT := tt_of 5 (by decide +kernel) (by decide +kernel)
abbrev M_X10_feed : MD := (yX10_feed, cX10_feed, 6, (some .int), fun _ _ => True)
theorem mf_X10_feed : MF M_X10_feed 5 := ⟨tt_of 678 (by decide +kernel) (by decide +kernel), tt_of 109 (by decide +kernel) (by decide +kernel), ⟨by decide, by decide, by decide +kernel⟩, by decide⟩
theorem mi_X10_feed : Cond.instanceMethod M_X10_feed.1 ∈ TT := tt_of 676 (by decide +kernel) (by decide +kernel)
theorem me_X10_feed : Cond.selects M_X10_feed.1.cls M_X10_feed.1 M_X10_feed.1 ∈ TT := tt_of 677 (by decide +kernel) (by decide +kernel)
abbrev M_X10_feedFour : MD := (yX10_feedFour, cX10_feedFour, 3, none, fun _ _ => True)
theorem mf_X10_feedFour : MF M_X10_feedFour 1 := ⟨tt_of 682 (by decide +kernel) (by decide +kernel), tt_of 109 (by decide +kernel) (by decide +kernel), ⟨by decide, by decide, by decide +kernel⟩, by decide⟩
theorem mi_X10_feedFour : Cond.instanceMethod M_X10_feedFour.1 ∈ TT := tt_of 681 (by decide +kernel) (by decide +kernel)
theorem me_X10_feedFour : Cond.selects M_X10_feedFour.1.cls M_X10_feedFour.1 M_X10_feedFour.1 ∈ TT := tt_of 6 (by decide +kernel) (by decide +kernel)
abbrev M_X10_end : MD := (yX10_end, cX10_end, 2, (some .int), fun _ _ => True)
theorem mf_X10_end : MF M_X10_end 1 := ⟨tt_of 686 (by decide +kernel) (by decide +kernel), tt_of 109 (by decide +kernel) (by decide +kernel), ⟨by decide, by decide, by decide +kernel⟩, by decide⟩
theorem mi_X10_end : Cond.instanceMethod M_X10_end.1 ∈ TT := tt_of 684 (by decide +kernel) (by decide +kernel)
theorem me_X10_end : Cond.selects M_X10_end.1.cls M_X10_end.1 M_X10_end.1 ∈ TT := tt_of 685 (by decide +kernel) (by decide +kernel)
abbrev M_X10_row : MD := (yX10_row, cX10_row, 4, (some .int), fun _ _ => True)
theorem mf_X10_row : MF M_X10_row 0 := ⟨tt_of 690 (by decide +kernel) (by decide +kernel), tt_of 109 (by decide +kernel) (by decide +kernel), ⟨by decide, by decide, by decide +kernel⟩, by decide⟩
theorem mi_X10_row : Cond.instanceMethod M_X10_row.1 ∈ TT := tt_of 688 (by decide +kernel) (by decide +kernel)
theorem me_X10_row : Cond.selects M_X10_row.1.cls M_X10_row.1 M_X10_row.1 ∈ TT := tt_of 689 (by decide +kernel) (by decide +kernel)
abbrev M_X10_canBeBird : MD := (yX10_canBeBird, cX10_canBeBird, 3, (some .boolean), fun _ _ => True)
theorem mf_X10_canBeBird : MF M_X10_canBeBird 1 := ⟨tt_of 694 (by decide +kernel) (by decide +kernel), tt_of 109 (by decide +kernel) (by decide +kernel), ⟨by decide, by decide, by decide +kernel⟩, by decide⟩
theorem mi_X10_canBeBird : Cond.instanceMethod M_X10_canBeBird.1 ∈ TT := tt_of 693 (by decide +kernel) (by decide +kernel)
theorem me_X10_canBeBird : Cond.selects M_X10_canBeBird.1.cls M_X10_canBeBird.1 M_X10_canBeBird.1 ∈ TT := tt_of 7 (by decide +kernel) (by decide +kernel)
abbrev M_X10_addBirdOfRow : MD := (yX10_addBirdOfRow, cX10_addBirdOfRow, 4, none, fun _ _ => True)
theorem mf_X10_addBirdOfRow : MF M_X10_addBirdOfRow 1 := ⟨tt_of 698 (by decide +kernel) (by decide +kernel), tt_of 109 (by decide +kernel) (by decide +kernel), ⟨by decide, by decide, by decide +kernel⟩, by decide⟩
theorem mi_X10_addBirdOfRow : Cond.instanceMethod M_X10_addBirdOfRow.1 ∈ TT := tt_of 697 (by decide +kernel) (by decide +kernel)
theorem me_X10_addBirdOfRow : Cond.selects M_X10_addBirdOfRow.1.cls M_X10_addBirdOfRow.1 M_X10_addBirdOfRow.1 ∈ TT := tt_of 8 (by decide +kernel) (by decide +kernel)
abbrev M_X10_cats : MD := (yX10_cats, cX10_cats, 1, (some .int), fun _ _ => True)
theorem mf_X10_cats : MF M_X10_cats 0 := ⟨tt_of 702 (by decide +kernel) (by decide +kernel), tt_of 109 (by decide +kernel) (by decide +kernel), ⟨by decide, by decide, by decide +kernel⟩, by decide⟩
theorem mi_X10_cats : Cond.instanceMethod M_X10_cats.1 ∈ TT := tt_of 700 (by decide +kernel) (by decide +kernel)
theorem me_X10_cats : Cond.selects M_X10_cats.1.cls M_X10_cats.1 M_X10_cats.1 ∈ TT := tt_of 701 (by decide +kernel) (by decide +kernel)
abbrev M_X10_law : MD := (yX10_law, cX10_law, 3, (some .int), fun _ _ => True)
theorem mf_X10_law : MF M_X10_law 0 := ⟨tt_of 706 (by decide +kernel) (by decide +kernel), tt_of 109 (by decide +kernel) (by decide +kernel), ⟨by decide, by decide, by decide +kernel⟩, by decide⟩
theorem mi_X10_law : Cond.instanceMethod M_X10_law.1 ∈ TT := tt_of 704 (by decide +kernel) (by decide +kernel)
theorem me_X10_law : Cond.selects M_X10_law.1.cls M_X10_law.1 M_X10_law.1 ∈ TT := tt_of 705 (by decide +kernel) (by decide +kernel)
abbrev M_X10_orders : MD := (yX10_orders, cX10_orders, 4, (some .int), fun _ _ => True)
theorem mf_X10_orders : MF M_X10_orders 0 := ⟨tt_of 876 (by decide +kernel) (by decide +kernel), tt_of 109 (by decide +kernel) (by decide +kernel), ⟨by decide, by decide, by decide +kernel⟩, by decide⟩
theorem mi_X10_orders : Cond.instanceMethod M_X10_orders.1 ∈ TT := tt_of 874 (by decide +kernel) (by decide +kernel)
theorem me_X10_orders : Cond.selects M_X10_orders.1.cls M_X10_orders.1 M_X10_orders.1 ∈ TT := tt_of 875 (by decide +kernel) (by decide +kernel)
abbrev M_X10_runClause : MD := (yX10_runClause, cX10_runClause, 11, (some .boolean), fun _ _ => True)
theorem mf_X10_runClause : MF M_X10_runClause 2 := ⟨tt_of 885 (by decide +kernel) (by decide +kernel), tt_of 109 (by decide +kernel) (by decide +kernel), ⟨by decide, by decide, by decide +kernel⟩, by decide⟩
theorem mi_X10_runClause : Cond.instanceMethod M_X10_runClause.1 ∈ TT := tt_of 884 (by decide +kernel) (by decide +kernel)
theorem me_X10_runClause : Cond.selects M_X10_runClause.1.cls M_X10_runClause.1 M_X10_runClause.1 ∈ TT := tt_of 28 (by decide +kernel) (by decide +kernel)
abbrev M_X10_tellOrders : MD := (yX10_tellOrders, cX10_tellOrders, 3, none, fun _ _ => True)
theorem mf_X10_tellOrders : MF M_X10_tellOrders 0 := ⟨tt_of 890 (by decide +kernel) (by decide +kernel), tt_of 109 (by decide +kernel) (by decide +kernel), ⟨by decide, by decide, by decide +kernel⟩, by decide⟩
theorem mi_X10_tellOrders : Cond.instanceMethod M_X10_tellOrders.1 ∈ TT := tt_of 889 (by decide +kernel) (by decide +kernel)
theorem me_X10_tellOrders : Cond.selects M_X10_tellOrders.1.cls M_X10_tellOrders.1 M_X10_tellOrders.1 ∈ TT := tt_of 29 (by decide +kernel) (by decide +kernel)
abbrev M_X10_fault : MD := (yX10_fault, cX10_fault, 1, (some .int), fun _ _ => True)
theorem mf_X10_fault : MF M_X10_fault 0 := ⟨tt_of 934 (by decide +kernel) (by decide +kernel), tt_of 109 (by decide +kernel) (by decide +kernel), ⟨by decide, by decide, by decide +kernel⟩, by decide⟩
theorem mi_X10_fault : Cond.instanceMethod M_X10_fault.1 ∈ TT := tt_of 932 (by decide +kernel) (by decide +kernel)
theorem me_X10_fault : Cond.selects M_X10_fault.1.cls M_X10_fault.1 M_X10_fault.1 ∈ TT := tt_of 933 (by decide +kernel) (by decide +kernel)
abbrev M_X10_stopped : MD := (yX10_stopped, cX10_stopped, 1, (some .int), fun _ _ => True)
theorem mf_X10_stopped : MF M_X10_stopped 0 := ⟨tt_of 938 (by decide +kernel) (by decide +kernel), tt_of 109 (by decide +kernel) (by decide +kernel), ⟨by decide, by decide, by decide +kernel⟩, by decide⟩
theorem mi_X10_stopped : Cond.instanceMethod M_X10_stopped.1 ∈ TT := tt_of 936 (by decide +kernel) (by decide +kernel)
theorem me_X10_stopped : Cond.selects M_X10_stopped.1.cls M_X10_stopped.1 M_X10_stopped.1 ∈ TT := tt_of 937 (by decide +kernel) (by decide +kernel)
abbrev M_X10_force : MD := (yX10_force, cX10_force, 3, (some .int), fun _ _ => True)
theorem mf_X10_force : MF M_X10_force 1 := ⟨tt_of 942 (by decide +kernel) (by decide +kernel), tt_of 109 (by decide +kernel) (by decide +kernel), ⟨by decide, by decide, by decide +kernel⟩, by decide⟩
theorem mi_X10_force : Cond.instanceMethod M_X10_force.1 ∈ TT := tt_of 940 (by decide +kernel) (by decide +kernel)
theorem me_X10_force : Cond.selects M_X10_force.1.cls M_X10_force.1 M_X10_force.1 ∈ TT := tt_of 941 (by decide +kernel) (by decide +kernel)
abbrev M_X10_act : MD := (yX10_act, cX10_act, 5, (some .int), fun _ _ => True)
theorem mf_X10_act : MF M_X10_act 3 := ⟨tt_of 900 (by decide +kernel) (by decide +kernel), tt_of 109 (by decide +kernel) (by decide +kernel), ⟨by decide, by decide, by decide +kernel⟩, by decide⟩
theorem mi_X10_act : Cond.instanceMethod M_X10_act.1 ∈ TT := tt_of 899 (by decide +kernel) (by decide +kernel)
theorem me_X10_act : Cond.selects M_X10_act.1.cls M_X10_act.1 M_X10_act.1 ∈ TT := tt_of 30 (by decide +kernel) (by decide +kernel)
abbrev M_X10_move : MD := (yX10_move, cX10_move, 3, (some .int), fun _ _ => True)
theorem mf_X10_move : MF M_X10_move 2 := ⟨tt_of 947 (by decide +kernel) (by decide +kernel), tt_of 109 (by decide +kernel) (by decide +kernel), ⟨by decide, by decide, by decide +kernel⟩, by decide⟩
theorem mi_X10_move : Cond.instanceMethod M_X10_move.1 ∈ TT := tt_of 945 (by decide +kernel) (by decide +kernel)
theorem me_X10_move : Cond.selects M_X10_move.1.cls M_X10_move.1 M_X10_move.1 ∈ TT := tt_of 946 (by decide +kernel) (by decide +kernel)
abbrev M_X10_divide : MD := (yX10_divide, cX10_divide, 2, (some .int), fun _ _ => True)
theorem mf_X10_divide : MF M_X10_divide 1 := ⟨tt_of 955 (by decide +kernel) (by decide +kernel), tt_of 109 (by decide +kernel) (by decide +kernel), ⟨by decide, by decide, by decide +kernel⟩, by decide⟩
theorem mi_X10_divide : Cond.instanceMethod M_X10_divide.1 ∈ TT := tt_of 953 (by decide +kernel) (by decide +kernel)
theorem me_X10_divide : Cond.selects M_X10_divide.1.cls M_X10_divide.1 M_X10_divide.1 ∈ TT := tt_of 954 (by decide +kernel) (by decide +kernel)
abbrev M_X10_fly : MD := (yX10_fly, cX10_fly, 3, (some .int), fun _ _ => True)
theorem mf_X10_fly : MF M_X10_fly 2 := ⟨tt_of 959 (by decide +kernel) (by decide +kernel), tt_of 109 (by decide +kernel) (by decide +kernel), ⟨by decide, by decide, by decide +kernel⟩, by decide⟩
theorem mi_X10_fly : Cond.instanceMethod M_X10_fly.1 ∈ TT := tt_of 957 (by decide +kernel) (by decide +kernel)
theorem me_X10_fly : Cond.selects M_X10_fly.1.cls M_X10_fly.1 M_X10_fly.1 ∈ TT := tt_of 958 (by decide +kernel) (by decide +kernel)
abbrev M_X10_pass : MD := (yX10_pass, cX10_pass, 1, (some .int), fun _ _ => True)
theorem mf_X10_pass : MF M_X10_pass 0 := ⟨tt_of 963 (by decide +kernel) (by decide +kernel), tt_of 109 (by decide +kernel) (by decide +kernel), ⟨by decide, by decide, by decide +kernel⟩, by decide⟩
theorem mi_X10_pass : Cond.instanceMethod M_X10_pass.1 ∈ TT := tt_of 961 (by decide +kernel) (by decide +kernel)
theorem me_X10_pass : Cond.selects M_X10_pass.1.cls M_X10_pass.1 M_X10_pass.1 ∈ TT := tt_of 962 (by decide +kernel) (by decide +kernel)
abbrev M_X10_undo : MD := (yX10_undo, cX10_undo, 2, (some .int), fun _ _ => True)
theorem mf_X10_undo : MF M_X10_undo 0 := ⟨tt_of 967 (by decide +kernel) (by decide +kernel), tt_of 109 (by decide +kernel) (by decide +kernel), ⟨by decide, by decide, by decide +kernel⟩, by decide⟩
theorem mi_X10_undo : Cond.instanceMethod M_X10_undo.1 ∈ TT := tt_of 965 (by decide +kernel) (by decide +kernel)
theorem me_X10_undo : Cond.selects M_X10_undo.1.cls M_X10_undo.1 M_X10_undo.1 ∈ TT := tt_of 966 (by decide +kernel) (by decide +kernel)
abbrev M_X10_second : MD := (yX10_second, cX10_second, 3, (some .int), fun _ _ => True)
theorem mf_X10_second : MF M_X10_second 2 := ⟨tt_of 979 (by decide +kernel) (by decide +kernel), tt_of 109 (by decide +kernel) (by decide +kernel), ⟨by decide, by decide, by decide +kernel⟩, by decide⟩
theorem mi_X10_second : Cond.instanceMethod M_X10_second.1 ∈ TT := tt_of 977 (by decide +kernel) (by decide +kernel)
theorem me_X10_second : Cond.selects M_X10_second.1.cls M_X10_second.1 M_X10_second.1 ∈ TT := tt_of 978 (by decide +kernel) (by decide +kernel)
abbrev M_X10_richest : MD := (yX10_richest, cX10_richest, 2, (some .int), fun _ _ => True)
theorem mf_X10_richest : MF M_X10_richest 1 := ⟨tt_of 984 (by decide +kernel) (by decide +kernel), tt_of 109 (by decide +kernel) (by decide +kernel), ⟨by decide, by decide, by decide +kernel⟩, by decide⟩
theorem mi_X10_richest : Cond.instanceMethod M_X10_richest.1 ∈ TT := tt_of 982 (by decide +kernel) (by decide +kernel)
theorem me_X10_richest : Cond.selects M_X10_richest.1.cls M_X10_richest.1 M_X10_richest.1 ∈ TT := tt_of 983 (by decide +kernel) (by decide +kernel)
abbrev M_X10_byClock : MD := (yX10_byClock, cX10_byClock, 5, (some .int), fun _ _ => True)
theorem mf_X10_byClock : MF M_X10_byClock 1 := ⟨tt_of 1008 (by decide +kernel) (by decide +kernel), tt_of 109 (by decide +kernel) (by decide +kernel), ⟨by decide, by decide, by decide +kernel⟩, by decide⟩
theorem mi_X10_byClock : Cond.instanceMethod M_X10_byClock.1 ∈ TT := tt_of 1006 (by decide +kernel) (by decide +kernel)
theorem me_X10_byClock : Cond.selects M_X10_byClock.1.cls M_X10_byClock.1 M_X10_byClock.1 ∈ TT := tt_of 1007 (by decide +kernel) (by decide +kernel)
abbrev M_X10_spoilt : MD := (yX10_spoilt, cX10_spoilt, 3, (some .int), fun _ _ => True)
theorem mf_X10_spoilt : MF M_X10_spoilt 2 := ⟨tt_of 1012 (by decide +kernel) (by decide +kernel), tt_of 109 (by decide +kernel) (by decide +kernel), ⟨by decide, by decide, by decide +kernel⟩, by decide⟩
theorem mi_X10_spoilt : Cond.instanceMethod M_X10_spoilt.1 ∈ TT := tt_of 1010 (by decide +kernel) (by decide +kernel)
theorem me_X10_spoilt : Cond.selects M_X10_spoilt.1.cls M_X10_spoilt.1 M_X10_spoilt.1 ∈ TT := tt_of 1011 (by decide +kernel) (by decide +kernel)
abbrev M_X10_come : MD := (yX10_come, cX10_come, 5, (some .int), fun _ _ => True)
theorem mf_X10_come : MF M_X10_come 2 := ⟨tt_of 1023 (by decide +kernel) (by decide +kernel), tt_of 109 (by decide +kernel) (by decide +kernel), ⟨by decide, by decide, by decide +kernel⟩, by decide⟩
theorem mi_X10_come : Cond.instanceMethod M_X10_come.1 ∈ TT := tt_of 1021 (by decide +kernel) (by decide +kernel)
theorem me_X10_come : Cond.selects M_X10_come.1.cls M_X10_come.1 M_X10_come.1 ∈ TT := tt_of 1022 (by decide +kernel) (by decide +kernel)
abbrev M_X10_howManyOrWho : MD := (yX10_howManyOrWho, cX10_howManyOrWho, 2, (some .int), fun _ _ => True)
theorem mf_X10_howManyOrWho : MF M_X10_howManyOrWho 2 := ⟨tt_of 1019 (by decide +kernel) (by decide +kernel), tt_of 109 (by decide +kernel) (by decide +kernel), ⟨by decide, by decide, by decide +kernel⟩, by decide⟩
theorem ms_X10_howManyOrWho : Cond.static M_X10_howManyOrWho.1 ∈ TT := tt_of 1018 (by decide +kernel) (by decide +kernel)
abbrev M_X10_chain : MD := (yX10_chain, cX10_chain, 5, (some .int), fun _ _ => True)
theorem mf_X10_chain : MF M_X10_chain 3 := ⟨tt_of 1027 (by decide +kernel) (by decide +kernel), tt_of 109 (by decide +kernel) (by decide +kernel), ⟨by decide, by decide, by decide +kernel⟩, by decide⟩
theorem mi_X10_chain : Cond.instanceMethod M_X10_chain.1 ∈ TT := tt_of 1025 (by decide +kernel) (by decide +kernel)
theorem me_X10_chain : Cond.selects M_X10_chain.1.cls M_X10_chain.1 M_X10_chain.1 ∈ TT := tt_of 1026 (by decide +kernel) (by decide +kernel)
abbrev M_X10_ears : MD := (yX10_ears, cX10_ears, 2, (some .int), fun _ _ => True)
theorem mf_X10_ears : MF M_X10_ears 1 := ⟨tt_of 1043 (by decide +kernel) (by decide +kernel), tt_of 109 (by decide +kernel) (by decide +kernel), ⟨by decide, by decide, by decide +kernel⟩, by decide⟩
theorem mi_X10_ears : Cond.instanceMethod M_X10_ears.1 ∈ TT := tt_of 1041 (by decide +kernel) (by decide +kernel)
theorem me_X10_ears : Cond.selects M_X10_ears.1.cls M_X10_ears.1 M_X10_ears.1 ∈ TT := tt_of 1042 (by decide +kernel) (by decide +kernel)
abbrev M_X10_loudest : MD := (yX10_loudest, cX10_loudest, 6, (some .int), fun _ _ => True)
theorem mf_X10_loudest : MF M_X10_loudest 1 := ⟨tt_of 1060 (by decide +kernel) (by decide +kernel), tt_of 109 (by decide +kernel) (by decide +kernel), ⟨by decide, by decide, by decide +kernel⟩, by decide⟩
theorem mi_X10_loudest : Cond.instanceMethod M_X10_loudest.1 ∈ TT := tt_of 1058 (by decide +kernel) (by decide +kernel)
theorem me_X10_loudest : Cond.selects M_X10_loudest.1.cls M_X10_loudest.1 M_X10_loudest.1 ∈ TT := tt_of 1059 (by decide +kernel) (by decide +kernel)
abbrev M_X10_nearest : MD := (yX10_nearest, cX10_nearest, 6, (some .int), fun _ _ => True)
theorem mf_X10_nearest : MF M_X10_nearest 2 := ⟨tt_of 1065 (by decide +kernel) (by decide +kernel), tt_of 109 (by decide +kernel) (by decide +kernel), ⟨by decide, by decide, by decide +kernel⟩, by decide⟩
theorem mi_X10_nearest : Cond.instanceMethod M_X10_nearest.1 ∈ TT := tt_of 1063 (by decide +kernel) (by decide +kernel)
theorem me_X10_nearest : Cond.selects M_X10_nearest.1.cls M_X10_nearest.1 M_X10_nearest.1 ∈ TT := tt_of 1064 (by decide +kernel) (by decide +kernel)
abbrev M_X10_heard : MD := (yX10_heard, cX10_heard, 2, (some .int), fun _ _ => True)
theorem mf_X10_heard : MF M_X10_heard 1 := ⟨tt_of 1071 (by decide +kernel) (by decide +kernel), tt_of 109 (by decide +kernel) (by decide +kernel), ⟨by decide, by decide, by decide +kernel⟩, by decide⟩
theorem mi_X10_heard : Cond.instanceMethod M_X10_heard.1 ∈ TT := tt_of 1069 (by decide +kernel) (by decide +kernel)
theorem me_X10_heard : Cond.selects M_X10_heard.1.cls M_X10_heard.1 M_X10_heard.1 ∈ TT := tt_of 1070 (by decide +kernel) (by decide +kernel)
abbrev M_X10_forget : MD := (yX10_forget, cX10_forget, 2, (some .int), fun _ _ => True)
theorem mf_X10_forget : MF M_X10_forget 0 := ⟨tt_of 1079 (by decide +kernel) (by decide +kernel), tt_of 109 (by decide +kernel) (by decide +kernel), ⟨by decide, by decide, by decide +kernel⟩, by decide⟩
theorem mi_X10_forget : Cond.instanceMethod M_X10_forget.1 ∈ TT := tt_of 1077 (by decide +kernel) (by decide +kernel)
theorem me_X10_forget : Cond.selects M_X10_forget.1.cls M_X10_forget.1 M_X10_forget.1 ∈ TT := tt_of 1078 (by decide +kernel) (by decide +kernel)
abbrev M_X10_canBe : MD := (yX10_canBe, cX10_canBe, 1, (some .int), fun _ _ => True)
theorem mf_X10_canBe : MF M_X10_canBe 0 := ⟨tt_of 1083 (by decide +kernel) (by decide +kernel), tt_of 109 (by decide +kernel) (by decide +kernel), ⟨by decide, by decide, by decide +kernel⟩, by decide⟩
theorem mi_X10_canBe : Cond.instanceMethod M_X10_canBe.1 ∈ TT := tt_of 1081 (by decide +kernel) (by decide +kernel)
theorem me_X10_canBe : Cond.selects M_X10_canBe.1.cls M_X10_canBe.1 M_X10_canBe.1 ∈ TT := tt_of 1082 (by decide +kernel) (by decide +kernel)
abbrev M_X10_listen : MD := (yX10_listen, cX10_listen, 8, (some .int), fun _ _ => True)
theorem mf_X10_listen : MF M_X10_listen 1 := ⟨tt_of 1095 (by decide +kernel) (by decide +kernel), tt_of 109 (by decide +kernel) (by decide +kernel), ⟨by decide, by decide, by decide +kernel⟩, by decide⟩
theorem mi_X10_listen : Cond.instanceMethod M_X10_listen.1 ∈ TT := tt_of 1093 (by decide +kernel) (by decide +kernel)
theorem me_X10_listen : Cond.selects M_X10_listen.1.cls M_X10_listen.1 M_X10_listen.1 ∈ TT := tt_of 1094 (by decide +kernel) (by decide +kernel)
abbrev M_X10_few : MD := (yX10_few, cX10_few, 8, (some .long), fun _ _ => True)
theorem mf_X10_few : MF M_X10_few 2 := ⟨tt_of 1104 (by decide +kernel) (by decide +kernel), tt_of 109 (by decide +kernel) (by decide +kernel), ⟨by decide, by decide, by decide +kernel⟩, by decide⟩
theorem mi_X10_few : Cond.instanceMethod M_X10_few.1 ∈ TT := tt_of 1102 (by decide +kernel) (by decide +kernel)
theorem me_X10_few : Cond.selects M_X10_few.1.cls M_X10_few.1 M_X10_few.1 ∈ TT := tt_of 1103 (by decide +kernel) (by decide +kernel)
abbrev M_X10_compare : MD := (yX10_compare, cX10_compare, 3, (some .int), fun _ _ => True)
theorem mf_X10_compare : MF M_X10_compare 2 := ⟨tt_of 1111 (by decide +kernel) (by decide +kernel), tt_of 109 (by decide +kernel) (by decide +kernel), ⟨by decide, by decide, by decide +kernel⟩, by decide⟩
theorem mi_X10_compare : Cond.instanceMethod M_X10_compare.1 ∈ TT := tt_of 1109 (by decide +kernel) (by decide +kernel)
theorem me_X10_compare : Cond.selects M_X10_compare.1.cls M_X10_compare.1 M_X10_compare.1 ∈ TT := tt_of 1110 (by decide +kernel) (by decide +kernel)
abbrev M_X10_mays : MD := (yX10_mays, cX10_mays, 5, (some .int), fun _ _ => True)
theorem mf_X10_mays : MF M_X10_mays 2 := ⟨tt_of 1116 (by decide +kernel) (by decide +kernel), tt_of 109 (by decide +kernel) (by decide +kernel), ⟨by decide, by decide, by decide +kernel⟩, by decide⟩
theorem mi_X10_mays : Cond.instanceMethod M_X10_mays.1 ∈ TT := tt_of 1114 (by decide +kernel) (by decide +kernel)
theorem me_X10_mays : Cond.selects M_X10_mays.1.cls M_X10_mays.1 M_X10_mays.1 ∈ TT := tt_of 1115 (by decide +kernel) (by decide +kernel)
abbrev M_X10_drawn : MD := (yX10_drawn, cX10_drawn, 3, (some .int), fun _ _ => True)
theorem mf_X10_drawn : MF M_X10_drawn 2 := ⟨tt_of 1139 (by decide +kernel) (by decide +kernel), tt_of 109 (by decide +kernel) (by decide +kernel), ⟨by decide, by decide, by decide +kernel⟩, by decide⟩
theorem mi_X10_drawn : Cond.instanceMethod M_X10_drawn.1 ∈ TT := tt_of 1137 (by decide +kernel) (by decide +kernel)
theorem me_X10_drawn : Cond.selects M_X10_drawn.1.cls M_X10_drawn.1 M_X10_drawn.1 ∈ TT := tt_of 1138 (by decide +kernel) (by decide +kernel)
abbrev M_X10_image : MD := (yX10_image, cX10_image, 2, (some .int), fun _ _ => True)
theorem mf_X10_image : MF M_X10_image 1 := ⟨tt_of 1143 (by decide +kernel) (by decide +kernel), tt_of 109 (by decide +kernel) (by decide +kernel), ⟨by decide, by decide, by decide +kernel⟩, by decide⟩
theorem mi_X10_image : Cond.instanceMethod M_X10_image.1 ∈ TT := tt_of 1141 (by decide +kernel) (by decide +kernel)
theorem me_X10_image : Cond.selects M_X10_image.1.cls M_X10_image.1 M_X10_image.1 ∈ TT := tt_of 1142 (by decide +kernel) (by decide +kernel)
abbrev M_X10_back : MD := (yX10_back, cX10_back, 2, (some .int), fun _ _ => True)
theorem mf_X10_back : MF M_X10_back 1 := ⟨tt_of 1153 (by decide +kernel) (by decide +kernel), tt_of 109 (by decide +kernel) (by decide +kernel), ⟨by decide, by decide, by decide +kernel⟩, by decide⟩
theorem mi_X10_back : Cond.instanceMethod M_X10_back.1 ∈ TT := tt_of 1151 (by decide +kernel) (by decide +kernel)
theorem me_X10_back : Cond.selects M_X10_back.1.cls M_X10_back.1 M_X10_back.1 ∈ TT := tt_of 1152 (by decide +kernel) (by decide +kernel)
abbrev M_X10_count : MD := (yX10_count, cX10_count, 3, (some .int), fun _ _ => True)
theorem mf_X10_count : MF M_X10_count 1 := ⟨tt_of 1157 (by decide +kernel) (by decide +kernel), tt_of 109 (by decide +kernel) (by decide +kernel), ⟨by decide, by decide, by decide +kernel⟩, by decide⟩
theorem mi_X10_count : Cond.instanceMethod M_X10_count.1 ∈ TT := tt_of 1155 (by decide +kernel) (by decide +kernel)
theorem me_X10_count : Cond.selects M_X10_count.1.cls M_X10_count.1 M_X10_count.1 ∈ TT := tt_of 1156 (by decide +kernel) (by decide +kernel)
abbrev M_X10_status : MD := (yX10_status, cX10_status, 1, (some .int), fun _ _ => True)
theorem mf_X10_status : MF M_X10_status 0 := ⟨tt_of 1161 (by decide +kernel) (by decide +kernel), tt_of 109 (by decide +kernel) (by decide +kernel), ⟨by decide, by decide, by decide +kernel⟩, by decide⟩
theorem mi_X10_status : Cond.instanceMethod M_X10_status.1 ∈ TT := tt_of 1159 (by decide +kernel) (by decide +kernel)
theorem me_X10_status : Cond.selects M_X10_status.1.cls M_X10_status.1 M_X10_status.1 ∈ TT := tt_of 1160 (by decide +kernel) (by decide +kernel)
abbrev M_X10_accept : MD := (yX10_accept, cX10_accept, 2, (some .int), fun _ _ => True)
theorem mf_X10_accept : MF M_X10_accept 1 := ⟨tt_of 542 (by decide +kernel) (by decide +kernel), tt_of 109 (by decide +kernel) (by decide +kernel), ⟨by decide, by decide, by decide +kernel⟩, by decide⟩
theorem mi_X10_accept : Cond.instanceMethod M_X10_accept.1 ∈ TT := tt_of 541 (by decide +kernel) (by decide +kernel)
theorem me_X10_accept : Cond.selects M_X10_accept.1.cls M_X10_accept.1 M_X10_accept.1 ∈ TT := tt_of 1 (by decide +kernel) (by decide +kernel)
abbrev M_X10_refuse : MD := (yX10_refuse, cX10_refuse, 2, (some .int), fun _ _ => True)
theorem mf_X10_refuse : MF M_X10_refuse 1 := ⟨tt_of 527 (by decide +kernel) (by decide +kernel), tt_of 109 (by decide +kernel) (by decide +kernel), ⟨by decide, by decide, by decide +kernel⟩, by decide⟩
theorem mi_X10_refuse : Cond.instanceMethod M_X10_refuse.1 ∈ TT := tt_of 526 (by decide +kernel) (by decide +kernel)
theorem me_X10_refuse : Cond.selects M_X10_refuse.1.cls M_X10_refuse.1 M_X10_refuse.1 ∈ TT := tt_of 0 (by decide +kernel) (by decide +kernel)
abbrev M_X10_answer : MD := (yX10_answer, cX10_answer, 2, (some .int), fun _ _ => True)
theorem mf_X10_answer : MF M_X10_answer 1 := ⟨tt_of 951 (by decide +kernel) (by decide +kernel), tt_of 109 (by decide +kernel) (by decide +kernel), ⟨by decide, by decide, by decide +kernel⟩, by decide⟩
theorem mi_X10_answer : Cond.instanceMethod M_X10_answer.1 ∈ TT := tt_of 950 (by decide +kernel) (by decide +kernel)
theorem me_X10_answer : Cond.selects M_X10_answer.1.cls M_X10_answer.1 M_X10_answer.1 ∈ TT := tt_of 31 (by decide +kernel) (by decide +kernel)
abbrev M_X11_init : MD := (yX11_init, cX11_init, 1, none, fun _ _ => True)
theorem mf_X11_init : MF M_X11_init 0 := ⟨tt_of 1166 (by decide +kernel) (by decide +kernel), tt_of 121 (by decide +kernel) (by decide +kernel), ⟨by decide, by decide, by decide +kernel⟩, by decide⟩
theorem mi_X11_init : Cond.instanceMethod M_X11_init.1 ∈ TT := tt_of 1165 (by decide +kernel) (by decide +kernel)
abbrev M_X11_in : MD := (yX11_in, cX11_in, 6, (some .boolean), fun _ _ => True)
theorem mf_X11_in : MF M_X11_in 3 := ⟨tt_of 1382 (by decide +kernel) (by decide +kernel), tt_of 121 (by decide +kernel) (by decide +kernel), ⟨by decide, by decide, by decide +kernel⟩, by decide⟩
theorem ms_X11_in : Cond.static M_X11_in.1 ∈ TT := tt_of 1381 (by decide +kernel) (by decide +kernel)
abbrev M_X11_is : MD := (yX11_is, cX11_is, 2, (some .boolean), fun _ _ => True)
theorem mf_X11_is : MF M_X11_is 2 := ⟨tt_of 1771 (by decide +kernel) (by decide +kernel), tt_of 121 (by decide +kernel) (by decide +kernel), ⟨by decide, by decide, by decide +kernel⟩, by decide⟩
theorem ms_X11_is : Cond.static M_X11_is.1 ∈ TT := tt_of 1770 (by decide +kernel) (by decide +kernel)
abbrev M_X11_ones : MD := (yX11_ones, cX11_ones, 3, (some .int), fun _ _ => True)
theorem mf_X11_ones : MF M_X11_ones 1 := ⟨tt_of 1498 (by decide +kernel) (by decide +kernel), tt_of 121 (by decide +kernel) (by decide +kernel), ⟨by decide, by decide, by decide +kernel⟩, by decide⟩
theorem ms_X11_ones : Cond.static M_X11_ones.1 ∈ TT := tt_of 1497 (by decide +kernel) (by decide +kernel)
abbrev M_X11_bounded : MD := (yX11_bounded, cX11_bounded, 4, (some .int), fun _ _ => True)
theorem mf_X11_bounded : MF M_X11_bounded 3 := ⟨tt_of 1463 (by decide +kernel) (by decide +kernel), tt_of 121 (by decide +kernel) (by decide +kernel), ⟨by decide, by decide, by decide +kernel⟩, by decide⟩
theorem ms_X11_bounded : Cond.static M_X11_bounded.1 ∈ TT := tt_of 1462 (by decide +kernel) (by decide +kernel)
abbrev M_X11_tell : MD := (yX11_tell, cX11_tell, 2, (some .int), fun _ _ => True)
theorem mf_X11_tell : MF M_X11_tell 1 := ⟨tt_of 1371 (by decide +kernel) (by decide +kernel), tt_of 121 (by decide +kernel) (by decide +kernel), ⟨by decide, by decide, by decide +kernel⟩, by decide⟩
theorem mi_X11_tell : Cond.instanceMethod M_X11_tell.1 ∈ TT := tt_of 1370 (by decide +kernel) (by decide +kernel)
theorem me_X11_tell : Cond.selects M_X11_tell.1.cls M_X11_tell.1 M_X11_tell.1 ∈ TT := tt_of 36 (by decide +kernel) (by decide +kernel)
abbrev M_X11_change : MD := (yX11_change, cX11_change, 4, (some .int), fun _ _ => True)
theorem mf_X11_change : MF M_X11_change 2 := ⟨tt_of 1417 (by decide +kernel) (by decide +kernel), tt_of 121 (by decide +kernel) (by decide +kernel), ⟨by decide, by decide, by decide +kernel⟩, by decide⟩
theorem mi_X11_change : Cond.instanceMethod M_X11_change.1 ∈ TT := tt_of 1416 (by decide +kernel) (by decide +kernel)
theorem me_X11_change : Cond.selects M_X11_change.1.cls M_X11_change.1 M_X11_change.1 ∈ TT := tt_of 41 (by decide +kernel) (by decide +kernel)
abbrev M_X11_lasting : MD := (yX11_lasting, cX11_lasting, 2, (some .int), fun _ _ => True)
theorem mf_X11_lasting : MF M_X11_lasting 1 := ⟨tt_of 1390 (by decide +kernel) (by decide +kernel), tt_of 121 (by decide +kernel) (by decide +kernel), ⟨by decide, by decide, by decide +kernel⟩, by decide⟩
theorem mi_X11_lasting : Cond.instanceMethod M_X11_lasting.1 ∈ TT := tt_of 1389 (by decide +kernel) (by decide +kernel)
theorem me_X11_lasting : Cond.selects M_X11_lasting.1.cls M_X11_lasting.1 M_X11_lasting.1 ∈ TT := tt_of 38 (by decide +kernel) (by decide +kernel)
abbrev M_X11_keepAll : MD := (yX11_keepAll, cX11_keepAll, 3, none, fun _ _ => True)
theorem mf_X11_keepAll : MF M_X11_keepAll 1 := ⟨tt_of 1683 (by decide +kernel) (by decide +kernel), tt_of 121 (by decide +kernel) (by decide +kernel), ⟨by decide, by decide, by decide +kernel⟩, by decide⟩
theorem mi_X11_keepAll : Cond.instanceMethod M_X11_keepAll.1 ∈ TT := tt_of 1682 (by decide +kernel) (by decide +kernel)
theorem me_X11_keepAll : Cond.selects M_X11_keepAll.1.cls M_X11_keepAll.1 M_X11_keepAll.1 ∈ TT := tt_of 87 (by decide +kernel) (by decide +kernel)
abbrev M_X11_putBack : MD := (yX11_putBack, cX11_putBack, 3, none, fun _ _ => True)
theorem mf_X11_putBack : MF M_X11_putBack 1 := ⟨tt_of 1375 (by decide +kernel) (by decide +kernel), tt_of 121 (by decide +kernel) (by decide +kernel), ⟨by decide, by decide, by decide +kernel⟩, by decide⟩
theorem mi_X11_putBack : Cond.instanceMethod M_X11_putBack.1 ∈ TT := tt_of 1374 (by decide +kernel) (by decide +kernel)
theorem me_X11_putBack : Cond.selects M_X11_putBack.1.cls M_X11_putBack.1 M_X11_putBack.1 ∈ TT := tt_of 37 (by decide +kernel) (by decide +kernel)
abbrev M_X11_remember : MD := (yX11_remember, cX11_remember, 3, none, fun _ _ => True)
theorem mf_X11_remember : MF M_X11_remember 1 := ⟨tt_of 1679 (by decide +kernel) (by decide +kernel), tt_of 121 (by decide +kernel) (by decide +kernel), ⟨by decide, by decide, by decide +kernel⟩, by decide⟩
theorem mi_X11_remember : Cond.instanceMethod M_X11_remember.1 ∈ TT := tt_of 1678 (by decide +kernel) (by decide +kernel)
theorem me_X11_remember : Cond.selects M_X11_remember.1.cls M_X11_remember.1 M_X11_remember.1 ∈ TT := tt_of 86 (by decide +kernel) (by decide +kernel)
abbrev M_X11_undo : MD := (yX11_undo, cX11_undo, 1, (some .int), fun _ _ => True)
theorem mf_X11_undo : MF M_X11_undo 0 := ⟨tt_of 1367 (by decide +kernel) (by decide +kernel), tt_of 121 (by decide +kernel) (by decide +kernel), ⟨by decide, by decide, by decide +kernel⟩, by decide⟩
theorem mi_X11_undo : Cond.instanceMethod M_X11_undo.1 ∈ TT := tt_of 1365 (by decide +kernel) (by decide +kernel)
theorem me_X11_undo : Cond.selects M_X11_undo.1.cls M_X11_undo.1 M_X11_undo.1 ∈ TT := tt_of 1366 (by decide +kernel) (by decide +kernel)
abbrev M_X11_image : MD := (yX11_image, cX11_image, 3, (some .int), fun _ _ => True)
theorem mf_X11_image : MF M_X11_image 1 := ⟨tt_of 1379 (by decide +kernel) (by decide +kernel), tt_of 121 (by decide +kernel) (by decide +kernel), ⟨by decide, by decide, by decide +kernel⟩, by decide⟩
theorem mi_X11_image : Cond.instanceMethod M_X11_image.1 ∈ TT := tt_of 1377 (by decide +kernel) (by decide +kernel)
theorem me_X11_image : Cond.selects M_X11_image.1.cls M_X11_image.1 M_X11_image.1 ∈ TT := tt_of 1378 (by decide +kernel) (by decide +kernel)
abbrev M_X11_back : MD := (yX11_back, cX11_back, 3, (some .int), fun _ _ => True)
theorem mf_X11_back : MF M_X11_back 1 := ⟨tt_of 1386 (by decide +kernel) (by decide +kernel), tt_of 121 (by decide +kernel) (by decide +kernel), ⟨by decide, by decide, by decide +kernel⟩, by decide⟩
theorem mi_X11_back : Cond.instanceMethod M_X11_back.1 ∈ TT := tt_of 1384 (by decide +kernel) (by decide +kernel)
theorem me_X11_back : Cond.selects M_X11_back.1.cls M_X11_back.1 M_X11_back.1 ∈ TT := tt_of 1385 (by decide +kernel) (by decide +kernel)
abbrev M_X11_isBird : MD := (yX11_isBird, cX11_isBird, 2, (some .boolean), fun _ _ => True)
theorem mf_X11_isBird : MF M_X11_isBird 1 := ⟨tt_of 1413 (by decide +kernel) (by decide +kernel), tt_of 121 (by decide +kernel) (by decide +kernel), ⟨by decide, by decide, by decide +kernel⟩, by decide⟩
theorem mi_X11_isBird : Cond.instanceMethod M_X11_isBird.1 ∈ TT := tt_of 1412 (by decide +kernel) (by decide +kernel)
theorem me_X11_isBird : Cond.selects M_X11_isBird.1.cls M_X11_isBird.1 M_X11_isBird.1 ∈ TT := tt_of 40 (by decide +kernel) (by decide +kernel)
abbrev M_X11_isMatter : MD := (yX11_isMatter, cX11_isMatter, 2, (some .boolean), fun _ _ => True)
theorem mf_X11_isMatter : MF M_X11_isMatter 1 := ⟨tt_of 1438 (by decide +kernel) (by decide +kernel), tt_of 121 (by decide +kernel) (by decide +kernel), ⟨by decide, by decide, by decide +kernel⟩, by decide⟩
theorem mi_X11_isMatter : Cond.instanceMethod M_X11_isMatter.1 ∈ TT := tt_of 1437 (by decide +kernel) (by decide +kernel)
theorem me_X11_isMatter : Cond.selects M_X11_isMatter.1.cls M_X11_isMatter.1 M_X11_isMatter.1 ∈ TT := tt_of 45 (by decide +kernel) (by decide +kernel)
abbrev M_X11_isTree : MD := (yX11_isTree, cX11_isTree, 1, (some .boolean), fun _ _ => True)
theorem mf_X11_isTree : MF M_X11_isTree 1 := ⟨tt_of 1401 (by decide +kernel) (by decide +kernel), tt_of 121 (by decide +kernel) (by decide +kernel), ⟨by decide, by decide, by decide +kernel⟩, by decide⟩
theorem ms_X11_isTree : Cond.static M_X11_isTree.1 ∈ TT := tt_of 1400 (by decide +kernel) (by decide +kernel)
abbrev M_X11_isAway : MD := (yX11_isAway, cX11_isAway, 2, (some .boolean), fun _ _ => True)
theorem mf_X11_isAway : MF M_X11_isAway 1 := ⟨tt_of 1434 (by decide +kernel) (by decide +kernel), tt_of 121 (by decide +kernel) (by decide +kernel), ⟨by decide, by decide, by decide +kernel⟩, by decide⟩
theorem mi_X11_isAway : Cond.instanceMethod M_X11_isAway.1 ∈ TT := tt_of 1433 (by decide +kernel) (by decide +kernel)
theorem me_X11_isAway : Cond.selects M_X11_isAway.1.cls M_X11_isAway.1 M_X11_isAway.1 ∈ TT := tt_of 44 (by decide +kernel) (by decide +kernel)
abbrev M_X11_present : MD := (yX11_present, cX11_present, 3, (some .int), fun _ _ => True)
theorem mf_X11_present : MF M_X11_present 0 := ⟨tt_of 1764 (by decide +kernel) (by decide +kernel), tt_of 121 (by decide +kernel) (by decide +kernel), ⟨by decide, by decide, by decide +kernel⟩, by decide⟩
theorem mi_X11_present : Cond.instanceMethod M_X11_present.1 ∈ TT := tt_of 1763 (by decide +kernel) (by decide +kernel)
theorem me_X11_present : Cond.selects M_X11_present.1.cls M_X11_present.1 M_X11_present.1 ∈ TT := tt_of 97 (by decide +kernel) (by decide +kernel)
abbrev M_X11_hears : MD := (yX11_hears, cX11_hears, 4, (some .boolean), fun _ _ => True)
theorem mf_X11_hears : MF M_X11_hears 2 := ⟨tt_of 1430 (by decide +kernel) (by decide +kernel), tt_of 121 (by decide +kernel) (by decide +kernel), ⟨by decide, by decide, by decide +kernel⟩, by decide⟩
theorem mi_X11_hears : Cond.instanceMethod M_X11_hears.1 ∈ TT := tt_of 1429 (by decide +kernel) (by decide +kernel)
theorem me_X11_hears : Cond.selects M_X11_hears.1.cls M_X11_hears.1 M_X11_hears.1 ∈ TT := tt_of 43 (by decide +kernel) (by decide +kernel)
abbrev M_X11_comes : MD := (yX11_comes, cX11_comes, 5, (some .int), fun _ _ => True)
theorem mf_X11_comes : MF M_X11_comes 2 := ⟨tt_of 1398 (by decide +kernel) (by decide +kernel), tt_of 121 (by decide +kernel) (by decide +kernel), ⟨by decide, by decide, by decide +kernel⟩, by decide⟩
theorem mi_X11_comes : Cond.instanceMethod M_X11_comes.1 ∈ TT := tt_of 1397 (by decide +kernel) (by decide +kernel)
theorem me_X11_comes : Cond.selects M_X11_comes.1.cls M_X11_comes.1 M_X11_comes.1 ∈ TT := tt_of 39 (by decide +kernel) (by decide +kernel)
abbrev M_X11_bird : MD := (yX11_bird, cX11_bird, 3, (some .int), fun _ _ => True)
theorem mf_X11_bird : MF M_X11_bird 2 := ⟨tt_of 1394 (by decide +kernel) (by decide +kernel), tt_of 121 (by decide +kernel) (by decide +kernel), ⟨by decide, by decide, by decide +kernel⟩, by decide⟩
theorem mi_X11_bird : Cond.instanceMethod M_X11_bird.1 ∈ TT := tt_of 1392 (by decide +kernel) (by decide +kernel)
theorem me_X11_bird : Cond.selects M_X11_bird.1.cls M_X11_bird.1 M_X11_bird.1 ∈ TT := tt_of 1393 (by decide +kernel) (by decide +kernel)
abbrev M_X11_favour : MD := (yX11_favour, cX11_favour, 4, (some .int), fun _ _ => True)
theorem mf_X11_favour : MF M_X11_favour 3 := ⟨tt_of 1408 (by decide +kernel) (by decide +kernel), tt_of 121 (by decide +kernel) (by decide +kernel), ⟨by decide, by decide, by decide +kernel⟩, by decide⟩
theorem mi_X11_favour : Cond.instanceMethod M_X11_favour.1 ∈ TT := tt_of 1406 (by decide +kernel) (by decide +kernel)
theorem me_X11_favour : Cond.selects M_X11_favour.1.cls M_X11_favour.1 M_X11_favour.1 ∈ TT := tt_of 1407 (by decide +kernel) (by decide +kernel)
abbrev M_X11_hearsAll : MD := (yX11_hearsAll, cX11_hearsAll, 4, (some .int), fun _ _ => True)
theorem mf_X11_hearsAll : MF M_X11_hearsAll 1 := ⟨tt_of 1426 (by decide +kernel) (by decide +kernel), tt_of 121 (by decide +kernel) (by decide +kernel), ⟨by decide, by decide, by decide +kernel⟩, by decide⟩
theorem mi_X11_hearsAll : Cond.instanceMethod M_X11_hearsAll.1 ∈ TT := tt_of 1425 (by decide +kernel) (by decide +kernel)
theorem me_X11_hearsAll : Cond.selects M_X11_hearsAll.1.cls M_X11_hearsAll.1 M_X11_hearsAll.1 ∈ TT := tt_of 42 (by decide +kernel) (by decide +kernel)
abbrev M_X11_of : MD := (yX11_of, cX11_of, 4, (some .int), fun _ _ => True)
theorem mf_X11_of : MF M_X11_of 2 := ⟨tt_of 1421 (by decide +kernel) (by decide +kernel), tt_of 121 (by decide +kernel) (by decide +kernel), ⟨by decide, by decide, by decide +kernel⟩, by decide⟩
theorem mi_X11_of : Cond.instanceMethod M_X11_of.1 ∈ TT := tt_of 1419 (by decide +kernel) (by decide +kernel)
theorem me_X11_of : Cond.selects M_X11_of.1.cls M_X11_of.1 M_X11_of.1 ∈ TT := tt_of 1420 (by decide +kernel) (by decide +kernel)
abbrev M_X11_matter : MD := (yX11_matter, cX11_matter, 4, (some .int), fun _ _ => True)
theorem mf_X11_matter : MF M_X11_matter 2 := ⟨tt_of 1475 (by decide +kernel) (by decide +kernel), tt_of 121 (by decide +kernel) (by decide +kernel), ⟨by decide, by decide, by decide +kernel⟩, by decide⟩
theorem mi_X11_matter : Cond.instanceMethod M_X11_matter.1 ∈ TT := tt_of 1473 (by decide +kernel) (by decide +kernel)
theorem me_X11_matter : Cond.selects M_X11_matter.1.cls M_X11_matter.1 M_X11_matter.1 ∈ TT := tt_of 1474 (by decide +kernel) (by decide +kernel)
abbrev M_X11_at : MD := (yX11_at, cX11_at, 3, (some .int), fun _ _ => True)
theorem mf_X11_at : MF M_X11_at 2 := ⟨tt_of 1479 (by decide +kernel) (by decide +kernel), tt_of 121 (by decide +kernel) (by decide +kernel), ⟨by decide, by decide, by decide +kernel⟩, by decide⟩
theorem mi_X11_at : Cond.instanceMethod M_X11_at.1 ∈ TT := tt_of 1477 (by decide +kernel) (by decide +kernel)
theorem me_X11_at : Cond.selects M_X11_at.1.cls M_X11_at.1 M_X11_at.1 ∈ TT := tt_of 1478 (by decide +kernel) (by decide +kernel)
abbrev M_X11_terms : MD := (yX11_terms, cX11_terms, 4, (some .int), fun _ _ => True)
theorem mf_X11_terms : MF M_X11_terms 2 := ⟨tt_of 1502 (by decide +kernel) (by decide +kernel), tt_of 121 (by decide +kernel) (by decide +kernel), ⟨by decide, by decide, by decide +kernel⟩, by decide⟩
theorem mi_X11_terms : Cond.instanceMethod M_X11_terms.1 ∈ TT := tt_of 1500 (by decide +kernel) (by decide +kernel)
theorem me_X11_terms : Cond.selects M_X11_terms.1.cls M_X11_terms.1 M_X11_terms.1 ∈ TT := tt_of 1501 (by decide +kernel) (by decide +kernel)
abbrev M_X11_isRow : MD := (yX11_isRow, cX11_isRow, 5, (some .boolean), fun _ _ => True)
theorem mf_X11_isRow : MF M_X11_isRow 2 := ⟨tt_of 1513 (by decide +kernel) (by decide +kernel), tt_of 121 (by decide +kernel) (by decide +kernel), ⟨by decide, by decide, by decide +kernel⟩, by decide⟩
theorem mi_X11_isRow : Cond.instanceMethod M_X11_isRow.1 ∈ TT := tt_of 1512 (by decide +kernel) (by decide +kernel)
theorem me_X11_isRow : Cond.selects M_X11_isRow.1.cls M_X11_isRow.1 M_X11_isRow.1 ∈ TT := tt_of 57 (by decide +kernel) (by decide +kernel)
abbrev M_X11_row : MD := (yX11_row, cX11_row, 6, (some .int), fun _ _ => True)
theorem mf_X11_row : MF M_X11_row 0 := ⟨tt_of 1509 (by decide +kernel) (by decide +kernel), tt_of 121 (by decide +kernel) (by decide +kernel), ⟨by decide, by decide, by decide +kernel⟩, by decide⟩
theorem mi_X11_row : Cond.instanceMethod M_X11_row.1 ∈ TT := tt_of 1507 (by decide +kernel) (by decide +kernel)
theorem me_X11_row : Cond.selects M_X11_row.1.cls M_X11_row.1 M_X11_row.1 ∈ TT := tt_of 1508 (by decide +kernel) (by decide +kernel)
abbrev M_X11_cats : MD := (yX11_cats, cX11_cats, 1, (some .int), fun _ _ => True)
theorem mf_X11_cats : MF M_X11_cats 0 := ⟨tt_of 1517 (by decide +kernel) (by decide +kernel), tt_of 121 (by decide +kernel) (by decide +kernel), ⟨by decide, by decide, by decide +kernel⟩, by decide⟩
theorem mi_X11_cats : Cond.instanceMethod M_X11_cats.1 ∈ TT := tt_of 1515 (by decide +kernel) (by decide +kernel)
theorem me_X11_cats : Cond.selects M_X11_cats.1.cls M_X11_cats.1 M_X11_cats.1 ∈ TT := tt_of 1516 (by decide +kernel) (by decide +kernel)
abbrev M_X11_four : MD := (yX11_four, cX11_four, 3, none, fun _ _ => True)
theorem mf_X11_four : MF M_X11_four 1 := ⟨tt_of 1525 (by decide +kernel) (by decide +kernel), tt_of 121 (by decide +kernel) (by decide +kernel), ⟨by decide, by decide, by decide +kernel⟩, by decide⟩
theorem mi_X11_four : Cond.instanceMethod M_X11_four.1 ∈ TT := tt_of 1524 (by decide +kernel) (by decide +kernel)
theorem me_X11_four : Cond.selects M_X11_four.1.cls M_X11_four.1 M_X11_four.1 ∈ TT := tt_of 58 (by decide +kernel) (by decide +kernel)
abbrev M_X11_feed : MD := (yX11_feed, cX11_feed, 6, (some .int), fun _ _ => True)
theorem mf_X11_feed : MF M_X11_feed 5 := ⟨tt_of 1521 (by decide +kernel) (by decide +kernel), tt_of 121 (by decide +kernel) (by decide +kernel), ⟨by decide, by decide, by decide +kernel⟩, by decide⟩
theorem mi_X11_feed : Cond.instanceMethod M_X11_feed.1 ∈ TT := tt_of 1519 (by decide +kernel) (by decide +kernel)
theorem me_X11_feed : Cond.selects M_X11_feed.1.cls M_X11_feed.1 M_X11_feed.1 ∈ TT := tt_of 1520 (by decide +kernel) (by decide +kernel)
abbrev M_X11_end : MD := (yX11_end, cX11_end, 2, (some .int), fun _ _ => True)
theorem mf_X11_end : MF M_X11_end 1 := ⟨tt_of 1529 (by decide +kernel) (by decide +kernel), tt_of 121 (by decide +kernel) (by decide +kernel), ⟨by decide, by decide, by decide +kernel⟩, by decide⟩
theorem mi_X11_end : Cond.instanceMethod M_X11_end.1 ∈ TT := tt_of 1527 (by decide +kernel) (by decide +kernel)
theorem me_X11_end : Cond.selects M_X11_end.1.cls M_X11_end.1 M_X11_end.1 ∈ TT := tt_of 1528 (by decide +kernel) (by decide +kernel)
abbrev M_X11_isSmall : MD := (yX11_isSmall, cX11_isSmall, 1, (some .boolean), fun _ _ => True)
theorem mf_X11_isSmall : MF M_X11_isSmall 1 := ⟨tt_of 1552 (by decide +kernel) (by decide +kernel), tt_of 121 (by decide +kernel) (by decide +kernel), ⟨by decide, by decide, by decide +kernel⟩, by decide⟩
theorem ms_X11_isSmall : Cond.static M_X11_isSmall.1 ∈ TT := tt_of 1551 (by decide +kernel) (by decide +kernel)
abbrev M_X11_isDigit : MD := (yX11_isDigit, cX11_isDigit, 1, (some .boolean), fun _ _ => True)
theorem mf_X11_isDigit : MF M_X11_isDigit 1 := ⟨tt_of 1555 (by decide +kernel) (by decide +kernel), tt_of 121 (by decide +kernel) (by decide +kernel), ⟨by decide, by decide, by decide +kernel⟩, by decide⟩
theorem ms_X11_isDigit : Cond.static M_X11_isDigit.1 ∈ TT := tt_of 1554 (by decide +kernel) (by decide +kernel)
abbrev M_X11_begin : MD := (yX11_begin, cX11_begin, 1, none, fun _ _ => True)
theorem mf_X11_begin : MF M_X11_begin 0 := ⟨tt_of 1545 (by decide +kernel) (by decide +kernel), tt_of 121 (by decide +kernel) (by decide +kernel), ⟨by decide, by decide, by decide +kernel⟩, by decide⟩
theorem mi_X11_begin : Cond.instanceMethod M_X11_begin.1 ∈ TT := tt_of 1544 (by decide +kernel) (by decide +kernel)
theorem me_X11_begin : Cond.selects M_X11_begin.1.cls M_X11_begin.1 M_X11_begin.1 ∈ TT := tt_of 60 (by decide +kernel) (by decide +kernel)
abbrev M_X11_next : MD := (yX11_next, cX11_next, 1, none, fun _ _ => True)
theorem mf_X11_next : MF M_X11_next 0 := ⟨tt_of 1549 (by decide +kernel) (by decide +kernel), tt_of 121 (by decide +kernel) (by decide +kernel), ⟨by decide, by decide, by decide +kernel⟩, by decide⟩
theorem mi_X11_next : Cond.instanceMethod M_X11_next.1 ∈ TT := tt_of 1548 (by decide +kernel) (by decide +kernel)
theorem me_X11_next : Cond.selects M_X11_next.1.cls M_X11_next.1 M_X11_next.1 ∈ TT := tt_of 61 (by decide +kernel) (by decide +kernel)
abbrev M_X11_isWord : MD := (yX11_isWord, cX11_isWord, 3, (some .boolean), fun _ _ => True)
theorem mf_X11_isWord : MF M_X11_isWord 1 := ⟨tt_of 1567 (by decide +kernel) (by decide +kernel), tt_of 121 (by decide +kernel) (by decide +kernel), ⟨by decide, by decide, by decide +kernel⟩, by decide⟩
theorem mi_X11_isWord : Cond.instanceMethod M_X11_isWord.1 ∈ TT := tt_of 1566 (by decide +kernel) (by decide +kernel)
theorem me_X11_isWord : Cond.selects M_X11_isWord.1.cls M_X11_isWord.1 M_X11_isWord.1 ∈ TT := tt_of 63 (by decide +kernel) (by decide +kernel)
abbrev M_X11_isSign : MD := (yX11_isSign, cX11_isSign, 2, (some .boolean), fun _ _ => True)
theorem mf_X11_isSign : MF M_X11_isSign 1 := ⟨tt_of 1588 (by decide +kernel) (by decide +kernel), tt_of 121 (by decide +kernel) (by decide +kernel), ⟨by decide, by decide, by decide +kernel⟩, by decide⟩
theorem mi_X11_isSign : Cond.instanceMethod M_X11_isSign.1 ∈ TT := tt_of 1587 (by decide +kernel) (by decide +kernel)
theorem me_X11_isSign : Cond.selects M_X11_isSign.1.cls M_X11_isSign.1 M_X11_isSign.1 ∈ TT := tt_of 68 (by decide +kernel) (by decide +kernel)
abbrev M_X11_must : MD := (yX11_must, cX11_must, 2, none, fun _ _ => True)
theorem mf_X11_must : MF M_X11_must 1 := ⟨tt_of 1571 (by decide +kernel) (by decide +kernel), tt_of 121 (by decide +kernel) (by decide +kernel), ⟨by decide, by decide, by decide +kernel⟩, by decide⟩
theorem mi_X11_must : Cond.instanceMethod M_X11_must.1 ∈ TT := tt_of 1570 (by decide +kernel) (by decide +kernel)
theorem me_X11_must : Cond.selects M_X11_must.1.cls M_X11_must.1 M_X11_must.1 ∈ TT := tt_of 64 (by decide +kernel) (by decide +kernel)
abbrev M_X11_number : MD := (yX11_number, cX11_number, 6, (some .int), fun _ _ => True)
theorem mf_X11_number : MF M_X11_number 2 := ⟨tt_of 1618 (by decide +kernel) (by decide +kernel), tt_of 121 (by decide +kernel) (by decide +kernel), ⟨by decide, by decide, by decide +kernel⟩, by decide⟩
theorem mi_X11_number : Cond.instanceMethod M_X11_number.1 ∈ TT := tt_of 1617 (by decide +kernel) (by decide +kernel)
theorem me_X11_number : Cond.selects M_X11_number.1.cls M_X11_number.1 M_X11_number.1 ∈ TT := tt_of 75 (by decide +kernel) (by decide +kernel)
abbrev M_X11_fault : MD := (yX11_fault, cX11_fault, 1, (some .int), fun _ _ => True)
theorem mf_X11_fault : MF M_X11_fault 0 := ⟨tt_of 1533 (by decide +kernel) (by decide +kernel), tt_of 121 (by decide +kernel) (by decide +kernel), ⟨by decide, by decide, by decide +kernel⟩, by decide⟩
theorem mi_X11_fault : Cond.instanceMethod M_X11_fault.1 ∈ TT := tt_of 1531 (by decide +kernel) (by decide +kernel)
theorem me_X11_fault : Cond.selects M_X11_fault.1.cls M_X11_fault.1 M_X11_fault.1 ∈ TT := tt_of 1532 (by decide +kernel) (by decide +kernel)
abbrev M_X11_emit : MD := (yX11_emit, cX11_emit, 3, none, fun _ _ => True)
theorem mf_X11_emit : MF M_X11_emit 2 := ⟨tt_of 1613 (by decide +kernel) (by decide +kernel), tt_of 121 (by decide +kernel) (by decide +kernel), ⟨by decide, by decide, by decide +kernel⟩, by decide⟩
theorem mi_X11_emit : Cond.instanceMethod M_X11_emit.1 ∈ TT := tt_of 1612 (by decide +kernel) (by decide +kernel)
theorem me_X11_emit : Cond.selects M_X11_emit.1.cls M_X11_emit.1 M_X11_emit.1 ∈ TT := tt_of 74 (by decide +kernel) (by decide +kernel)
abbrev M_X11_push : MD := (yX11_push, cX11_push, 3, none, fun _ _ => True)
theorem mf_X11_push : MF M_X11_push 2 := ⟨tt_of 1584 (by decide +kernel) (by decide +kernel), tt_of 121 (by decide +kernel) (by decide +kernel), ⟨by decide, by decide, by decide +kernel⟩, by decide⟩
theorem mi_X11_push : Cond.instanceMethod M_X11_push.1 ∈ TT := tt_of 1583 (by decide +kernel) (by decide +kernel)
theorem me_X11_push : Cond.selects M_X11_push.1.cls M_X11_push.1 M_X11_push.1 ∈ TT := tt_of 67 (by decide +kernel) (by decide +kernel)
abbrev M_X11_binds : MD := (yX11_binds, cX11_binds, 1, (some .int), fun _ _ => True)
theorem mf_X11_binds : MF M_X11_binds 1 := ⟨tt_of 1625 (by decide +kernel) (by decide +kernel), tt_of 121 (by decide +kernel) (by decide +kernel), ⟨by decide, by decide, by decide +kernel⟩, by decide⟩
theorem ms_X11_binds : Cond.static M_X11_binds.1 ∈ TT := tt_of 1624 (by decide +kernel) (by decide +kernel)
abbrev M_X11_settle : MD := (yX11_settle, cX11_settle, 2, none, fun _ _ => True)
theorem mf_X11_settle : MF M_X11_settle 1 := ⟨tt_of 1629 (by decide +kernel) (by decide +kernel), tt_of 121 (by decide +kernel) (by decide +kernel), ⟨by decide, by decide, by decide +kernel⟩, by decide⟩
theorem mi_X11_settle : Cond.instanceMethod M_X11_settle.1 ∈ TT := tt_of 1628 (by decide +kernel) (by decide +kernel)
theorem me_X11_settle : Cond.selects M_X11_settle.1.cls M_X11_settle.1 M_X11_settle.1 ∈ TT := tt_of 77 (by decide +kernel) (by decide +kernel)
abbrev M_X11_inner : MD := (yX11_inner, cX11_inner, 3, (some .int), fun _ _ => True)
theorem mf_X11_inner : MF M_X11_inner 0 := ⟨tt_of 1633 (by decide +kernel) (by decide +kernel), tt_of 121 (by decide +kernel) (by decide +kernel), ⟨by decide, by decide, by decide +kernel⟩, by decide⟩
theorem mi_X11_inner : Cond.instanceMethod M_X11_inner.1 ∈ TT := tt_of 1632 (by decide +kernel) (by decide +kernel)
theorem me_X11_inner : Cond.selects M_X11_inner.1.cls M_X11_inner.1 M_X11_inner.1 ∈ TT := tt_of 78 (by decide +kernel) (by decide +kernel)
abbrev M_X11_isCompared : MD := (yX11_isCompared, cX11_isCompared, 2, (some .boolean), fun _ _ => True)
theorem mf_X11_isCompared : MF M_X11_isCompared 0 := ⟨tt_of 1637 (by decide +kernel) (by decide +kernel), tt_of 121 (by decide +kernel) (by decide +kernel), ⟨by decide, by decide, by decide +kernel⟩, by decide⟩
theorem mi_X11_isCompared : Cond.instanceMethod M_X11_isCompared.1 ∈ TT := tt_of 1636 (by decide +kernel) (by decide +kernel)
theorem me_X11_isCompared : Cond.selects M_X11_isCompared.1.cls M_X11_isCompared.1 M_X11_isCompared.1 ∈ TT := tt_of 79 (by decide +kernel) (by decide +kernel)
abbrev M_X11_partAt : MD := (yX11_partAt, cX11_partAt, 3, (some .int), fun _ _ => True)
theorem mf_X11_partAt : MF M_X11_partAt 0 := ⟨tt_of 1604 (by decide +kernel) (by decide +kernel), tt_of 121 (by decide +kernel) (by decide +kernel), ⟨by decide, by decide, by decide +kernel⟩, by decide⟩
theorem mi_X11_partAt : Cond.instanceMethod M_X11_partAt.1 ∈ TT := tt_of 1603 (by decide +kernel) (by decide +kernel)
theorem me_X11_partAt : Cond.selects M_X11_partAt.1.cls M_X11_partAt.1 M_X11_partAt.1 ∈ TT := tt_of 72 (by decide +kernel) (by decide +kernel)
abbrev M_X11_orderPartAt : MD := (yX11_orderPartAt, cX11_orderPartAt, 3, (some .int), fun _ _ => True)
theorem mf_X11_orderPartAt : MF M_X11_orderPartAt 0 := ⟨tt_of 1600 (by decide +kernel) (by decide +kernel), tt_of 121 (by decide +kernel) (by decide +kernel), ⟨by decide, by decide, by decide +kernel⟩, by decide⟩
theorem mi_X11_orderPartAt : Cond.instanceMethod M_X11_orderPartAt.1 ∈ TT := tt_of 1599 (by decide +kernel) (by decide +kernel)
theorem me_X11_orderPartAt : Cond.selects M_X11_orderPartAt.1.cls M_X11_orderPartAt.1 M_X11_orderPartAt.1 ∈ TT := tt_of 71 (by decide +kernel) (by decide +kernel)
abbrev M_X11_openBracket : MD := (yX11_openBracket, cX11_openBracket, 2, none, fun _ _ => True)
theorem mf_X11_openBracket : MF M_X11_openBracket 1 := ⟨tt_of 1592 (by decide +kernel) (by decide +kernel), tt_of 121 (by decide +kernel) (by decide +kernel), ⟨by decide, by decide, by decide +kernel⟩, by decide⟩
theorem mi_X11_openBracket : Cond.instanceMethod M_X11_openBracket.1 ∈ TT := tt_of 1591 (by decide +kernel) (by decide +kernel)
theorem me_X11_openBracket : Cond.selects M_X11_openBracket.1.cls M_X11_openBracket.1 M_X11_openBracket.1 ∈ TT := tt_of 69 (by decide +kernel) (by decide +kernel)
abbrev M_X11_leaf : MD := (yX11_leaf, cX11_leaf, 4, none, fun _ _ => True)
theorem mf_X11_leaf : MF M_X11_leaf 3 := ⟨tt_of 1609 (by decide +kernel) (by decide +kernel), tt_of 121 (by decide +kernel) (by decide +kernel), ⟨by decide, by decide, by decide +kernel⟩, by decide⟩
theorem mi_X11_leaf : Cond.instanceMethod M_X11_leaf.1 ∈ TT := tt_of 1608 (by decide +kernel) (by decide +kernel)
theorem me_X11_leaf : Cond.selects M_X11_leaf.1.cls M_X11_leaf.1 M_X11_leaf.1 ∈ TT := tt_of 73 (by decide +kernel) (by decide +kernel)
abbrev M_X11_readPart : MD := (yX11_readPart, cX11_readPart, 4, (some .int), fun _ _ => True)
theorem mf_X11_readPart : MF M_X11_readPart 0 := ⟨tt_of 1596 (by decide +kernel) (by decide +kernel), tt_of 121 (by decide +kernel) (by decide +kernel), ⟨by decide, by decide, by decide +kernel⟩, by decide⟩
theorem mi_X11_readPart : Cond.instanceMethod M_X11_readPart.1 ∈ TT := tt_of 1595 (by decide +kernel) (by decide +kernel)
theorem me_X11_readPart : Cond.selects M_X11_readPart.1.cls M_X11_readPart.1 M_X11_readPart.1 ∈ TT := tt_of 70 (by decide +kernel) (by decide +kernel)
abbrev M_X11_readPlain : MD := (yX11_readPlain, cX11_readPlain, 1, (some .int), fun _ _ => True)
theorem mf_X11_readPlain : MF M_X11_readPlain 0 := ⟨tt_of 1579 (by decide +kernel) (by decide +kernel), tt_of 121 (by decide +kernel) (by decide +kernel), ⟨by decide, by decide, by decide +kernel⟩, by decide⟩
theorem mi_X11_readPlain : Cond.instanceMethod M_X11_readPlain.1 ∈ TT := tt_of 1578 (by decide +kernel) (by decide +kernel)
theorem me_X11_readPlain : Cond.selects M_X11_readPlain.1.cls M_X11_readPlain.1 M_X11_readPlain.1 ∈ TT := tt_of 66 (by decide +kernel) (by decide +kernel)
abbrev M_X11_behindSum : MD := (yX11_behindSum, cX11_behindSum, 4, (some .int), fun _ _ => True)
theorem mf_X11_behindSum : MF M_X11_behindSum 1 := ⟨tt_of 1622 (by decide +kernel) (by decide +kernel), tt_of 121 (by decide +kernel) (by decide +kernel), ⟨by decide, by decide, by decide +kernel⟩, by decide⟩
theorem mi_X11_behindSum : Cond.instanceMethod M_X11_behindSum.1 ∈ TT := tt_of 1621 (by decide +kernel) (by decide +kernel)
theorem me_X11_behindSum : Cond.selects M_X11_behindSum.1.cls M_X11_behindSum.1 M_X11_behindSum.1 ∈ TT := tt_of 76 (by decide +kernel) (by decide +kernel)
abbrev M_X11_behindTest : MD := (yX11_behindTest, cX11_behindTest, 2, (some .int), fun _ _ => True)
theorem mf_X11_behindTest : MF M_X11_behindTest 0 := ⟨tt_of 1644 (by decide +kernel) (by decide +kernel), tt_of 121 (by decide +kernel) (by decide +kernel), ⟨by decide, by decide, by decide +kernel⟩, by decide⟩
theorem mi_X11_behindTest : Cond.instanceMethod M_X11_behindTest.1 ∈ TT := tt_of 1643 (by decide +kernel) (by decide +kernel)
theorem me_X11_behindTest : Cond.selects M_X11_behindTest.1.cls M_X11_behindTest.1 M_X11_behindTest.1 ∈ TT := tt_of 80 (by decide +kernel) (by decide +kernel)
abbrev M_X11_readExpression : MD := (yX11_readExpression, cX11_readExpression, 3, none, fun _ _ => True)
theorem mf_X11_readExpression : MF M_X11_readExpression 1 := ⟨tt_of 1575 (by decide +kernel) (by decide +kernel), tt_of 121 (by decide +kernel) (by decide +kernel), ⟨by decide, by decide, by decide +kernel⟩, by decide⟩
theorem mi_X11_readExpression : Cond.instanceMethod M_X11_readExpression.1 ∈ TT := tt_of 1574 (by decide +kernel) (by decide +kernel)
theorem me_X11_readExpression : Cond.selects M_X11_readExpression.1.cls M_X11_readExpression.1 M_X11_readExpression.1 ∈ TT := tt_of 65 (by decide +kernel) (by decide +kernel)
abbrev M_X11_beginText : MD := (yX11_beginText, cX11_beginText, 2, none, fun _ _ => True)
theorem mf_X11_beginText : MF M_X11_beginText 1 := ⟨tt_of 1541 (by decide +kernel) (by decide +kernel), tt_of 121 (by decide +kernel) (by decide +kernel), ⟨by decide, by decide, by decide +kernel⟩, by decide⟩
theorem mi_X11_beginText : Cond.instanceMethod M_X11_beginText.1 ∈ TT := tt_of 1540 (by decide +kernel) (by decide +kernel)
theorem me_X11_beginText : Cond.selects M_X11_beginText.1.cls M_X11_beginText.1 M_X11_beginText.1 ∈ TT := tt_of 59 (by decide +kernel) (by decide +kernel)
abbrev M_X11_endText : MD := (yX11_endText, cX11_endText, 1, none, fun _ _ => True)
theorem mf_X11_endText : MF M_X11_endText 0 := ⟨tt_of 1651 (by decide +kernel) (by decide +kernel), tt_of 121 (by decide +kernel) (by decide +kernel), ⟨by decide, by decide, by decide +kernel⟩, by decide⟩
theorem mi_X11_endText : Cond.instanceMethod M_X11_endText.1 ∈ TT := tt_of 1650 (by decide +kernel) (by decide +kernel)
theorem me_X11_endText : Cond.selects M_X11_endText.1.cls M_X11_endText.1 M_X11_endText.1 ∈ TT := tt_of 81 (by decide +kernel) (by decide +kernel)
abbrev M_X11_readLaw : MD := (yX11_readLaw, cX11_readLaw, 4, none, fun _ _ => True)
theorem mf_X11_readLaw : MF M_X11_readLaw 0 := ⟨tt_of 1563 (by decide +kernel) (by decide +kernel), tt_of 121 (by decide +kernel) (by decide +kernel), ⟨by decide, by decide, by decide +kernel⟩, by decide⟩
theorem mi_X11_readLaw : Cond.instanceMethod M_X11_readLaw.1 ∈ TT := tt_of 1562 (by decide +kernel) (by decide +kernel)
theorem me_X11_readLaw : Cond.selects M_X11_readLaw.1.cls M_X11_readLaw.1 M_X11_readLaw.1 ∈ TT := tt_of 62 (by decide +kernel) (by decide +kernel)
abbrev M_X11_law : MD := (yX11_law, cX11_law, 3, (some .int), fun _ _ => True)
theorem mf_X11_law : MF M_X11_law 0 := ⟨tt_of 1537 (by decide +kernel) (by decide +kernel), tt_of 121 (by decide +kernel) (by decide +kernel), ⟨by decide, by decide, by decide +kernel⟩, by decide⟩
theorem mi_X11_law : Cond.instanceMethod M_X11_law.1 ∈ TT := tt_of 1535 (by decide +kernel) (by decide +kernel)
theorem me_X11_law : Cond.selects M_X11_law.1.cls M_X11_law.1 M_X11_law.1 ∈ TT := tt_of 1536 (by decide +kernel) (by decide +kernel)
abbrev M_X11_isLaw : MD := (yX11_isLaw, cX11_isLaw, 2, (some .boolean), fun _ _ => True)
theorem mf_X11_isLaw : MF M_X11_isLaw 1 := ⟨tt_of 1659 (by decide +kernel) (by decide +kernel), tt_of 121 (by decide +kernel) (by decide +kernel), ⟨by decide, by decide, by decide +kernel⟩, by decide⟩
theorem mi_X11_isLaw : Cond.instanceMethod M_X11_isLaw.1 ∈ TT := tt_of 1658 (by decide +kernel) (by decide +kernel)
theorem me_X11_isLaw : Cond.selects M_X11_isLaw.1.cls M_X11_isLaw.1 M_X11_isLaw.1 ∈ TT := tt_of 82 (by decide +kernel) (by decide +kernel)
abbrev M_X11_force : MD := (yX11_force, cX11_force, 2, (some .int), fun _ _ => True)
theorem mf_X11_force : MF M_X11_force 1 := ⟨tt_of 1655 (by decide +kernel) (by decide +kernel), tt_of 121 (by decide +kernel) (by decide +kernel), ⟨by decide, by decide, by decide +kernel⟩, by decide⟩
theorem mi_X11_force : Cond.instanceMethod M_X11_force.1 ∈ TT := tt_of 1653 (by decide +kernel) (by decide +kernel)
theorem me_X11_force : Cond.selects M_X11_force.1.cls M_X11_force.1 M_X11_force.1 ∈ TT := tt_of 1654 (by decide +kernel) (by decide +kernel)
abbrev M_X11_reckon : MD := (yX11_reckon, cX11_reckon, 6, (some .long), fun _ _ => True)
theorem mf_X11_reckon : MF M_X11_reckon 3 := ⟨tt_of 1458 (by decide +kernel) (by decide +kernel), tt_of 121 (by decide +kernel) (by decide +kernel), ⟨by decide, by decide, by decide +kernel⟩, by decide⟩
theorem mi_X11_reckon : Cond.instanceMethod M_X11_reckon.1 ∈ TT := tt_of 1457 (by decide +kernel) (by decide +kernel)
theorem me_X11_reckon : Cond.selects M_X11_reckon.1.cls M_X11_reckon.1 M_X11_reckon.1 ∈ TT := tt_of 50 (by decide +kernel) (by decide +kernel)
abbrev M_X11_reckonAll : MD := (yX11_reckonAll, cX11_reckonAll, 7, none, fun _ _ => True)
theorem mf_X11_reckonAll : MF M_X11_reckonAll 2 := ⟨tt_of 1454 (by decide +kernel) (by decide +kernel), tt_of 121 (by decide +kernel) (by decide +kernel), ⟨by decide, by decide, by decide +kernel⟩, by decide⟩
theorem mi_X11_reckonAll : Cond.instanceMethod M_X11_reckonAll.1 ∈ TT := tt_of 1453 (by decide +kernel) (by decide +kernel)
theorem me_X11_reckonAll : Cond.selects M_X11_reckonAll.1.cls M_X11_reckonAll.1 M_X11_reckonAll.1 ∈ TT := tt_of 49 (by decide +kernel) (by decide +kernel)
abbrev M_X11_isSo : MD := (yX11_isSo, cX11_isSo, 2, (some .boolean), fun _ _ => True)
theorem mf_X11_isSo : MF M_X11_isSo 1 := ⟨tt_of 1450 (by decide +kernel) (by decide +kernel), tt_of 121 (by decide +kernel) (by decide +kernel), ⟨by decide, by decide, by decide +kernel⟩, by decide⟩
theorem mi_X11_isSo : Cond.instanceMethod M_X11_isSo.1 ∈ TT := tt_of 1449 (by decide +kernel) (by decide +kernel)
theorem me_X11_isSo : Cond.selects M_X11_isSo.1.cls M_X11_isSo.1 M_X11_isSo.1 ∈ TT := tt_of 48 (by decide +kernel) (by decide +kernel)
abbrev M_X11_tells : MD := (yX11_tells, cX11_tells, 10, (some .long), fun _ _ => True)
theorem mf_X11_tells : MF M_X11_tells 4 := ⟨tt_of 1446 (by decide +kernel) (by decide +kernel), tt_of 121 (by decide +kernel) (by decide +kernel), ⟨by decide, by decide, by decide +kernel⟩, by decide⟩
theorem mi_X11_tells : Cond.instanceMethod M_X11_tells.1 ∈ TT := tt_of 1445 (by decide +kernel) (by decide +kernel)
theorem me_X11_tells : Cond.selects M_X11_tells.1.cls M_X11_tells.1 M_X11_tells.1 ∈ TT := tt_of 47 (by decide +kernel) (by decide +kernel)
abbrev M_X11_swayOf : MD := (yX11_swayOf, cX11_swayOf, 3, (some .int), fun _ _ => True)
theorem mf_X11_swayOf : MF M_X11_swayOf 2 := ⟨tt_of 1442 (by decide +kernel) (by decide +kernel), tt_of 121 (by decide +kernel) (by decide +kernel), ⟨by decide, by decide, by decide +kernel⟩, by decide⟩
theorem mi_X11_swayOf : Cond.instanceMethod M_X11_swayOf.1 ∈ TT := tt_of 1441 (by decide +kernel) (by decide +kernel)
theorem me_X11_swayOf : Cond.selects M_X11_swayOf.1.cls M_X11_swayOf.1 M_X11_swayOf.1 ∈ TT := tt_of 46 (by decide +kernel) (by decide +kernel)
abbrev M_X11_takesOf : MD := (yX11_takesOf, cX11_takesOf, 2, (some .int), fun _ _ => True)
theorem mf_X11_takesOf : MF M_X11_takesOf 1 := ⟨tt_of 1483 (by decide +kernel) (by decide +kernel), tt_of 121 (by decide +kernel) (by decide +kernel), ⟨by decide, by decide, by decide +kernel⟩, by decide⟩
theorem mi_X11_takesOf : Cond.instanceMethod M_X11_takesOf.1 ∈ TT := tt_of 1482 (by decide +kernel) (by decide +kernel)
theorem me_X11_takesOf : Cond.selects M_X11_takesOf.1.cls M_X11_takesOf.1 M_X11_takesOf.1 ∈ TT := tt_of 53 (by decide +kernel) (by decide +kernel)
abbrev M_X11_sits : MD := (yX11_sits, cX11_sits, 3, (some .boolean), fun _ _ => True)
theorem mf_X11_sits : MF M_X11_sits 2 := ⟨tt_of 1467 (by decide +kernel) (by decide +kernel), tt_of 121 (by decide +kernel) (by decide +kernel), ⟨by decide, by decide, by decide +kernel⟩, by decide⟩
theorem mi_X11_sits : Cond.instanceMethod M_X11_sits.1 ∈ TT := tt_of 1466 (by decide +kernel) (by decide +kernel)
theorem me_X11_sits : Cond.selects M_X11_sits.1.cls M_X11_sits.1 M_X11_sits.1 ∈ TT := tt_of 51 (by decide +kernel) (by decide +kernel)
abbrev M_X11_isAye : MD := (yX11_isAye, cX11_isAye, 3, (some .boolean), fun _ _ => True)
theorem mf_X11_isAye : MF M_X11_isAye 2 := ⟨tt_of 1471 (by decide +kernel) (by decide +kernel), tt_of 121 (by decide +kernel) (by decide +kernel), ⟨by decide, by decide, by decide +kernel⟩, by decide⟩
theorem mi_X11_isAye : Cond.instanceMethod M_X11_isAye.1 ∈ TT := tt_of 1470 (by decide +kernel) (by decide +kernel)
theorem me_X11_isAye : Cond.selects M_X11_isAye.1.cls M_X11_isAye.1 M_X11_isAye.1 ∈ TT := tt_of 52 (by decide +kernel) (by decide +kernel)
abbrev M_X11_sitting : MD := (yX11_sitting, cX11_sitting, 4, (some .int), fun _ _ => True)
theorem mf_X11_sitting : MF M_X11_sitting 1 := ⟨tt_of 1487 (by decide +kernel) (by decide +kernel), tt_of 121 (by decide +kernel) (by decide +kernel), ⟨by decide, by decide, by decide +kernel⟩, by decide⟩
theorem mi_X11_sitting : Cond.instanceMethod M_X11_sitting.1 ∈ TT := tt_of 1486 (by decide +kernel) (by decide +kernel)
theorem me_X11_sitting : Cond.selects M_X11_sitting.1.cls M_X11_sitting.1 M_X11_sitting.1 ∈ TT := tt_of 54 (by decide +kernel) (by decide +kernel)
abbrev M_X11_ayes : MD := (yX11_ayes, cX11_ayes, 4, (some .int), fun _ _ => True)
theorem mf_X11_ayes : MF M_X11_ayes 1 := ⟨tt_of 1491 (by decide +kernel) (by decide +kernel), tt_of 121 (by decide +kernel) (by decide +kernel), ⟨by decide, by decide, by decide +kernel⟩, by decide⟩
theorem mi_X11_ayes : Cond.instanceMethod M_X11_ayes.1 ∈ TT := tt_of 1490 (by decide +kernel) (by decide +kernel)
theorem me_X11_ayes : Cond.selects M_X11_ayes.1.cls M_X11_ayes.1 M_X11_ayes.1 ∈ TT := tt_of 55 (by decide +kernel) (by decide +kernel)
abbrev M_X11_carries : MD := (yX11_carries, cX11_carries, 3, (some .boolean), fun _ _ => True)
theorem mf_X11_carries : MF M_X11_carries 2 := ⟨tt_of 1699 (by decide +kernel) (by decide +kernel), tt_of 121 (by decide +kernel) (by decide +kernel), ⟨by decide, by decide, by decide +kernel⟩, by decide⟩
theorem mi_X11_carries : Cond.instanceMethod M_X11_carries.1 ∈ TT := tt_of 1698 (by decide +kernel) (by decide +kernel)
theorem me_X11_carries : Cond.selects M_X11_carries.1.cls M_X11_carries.1 M_X11_carries.1 ∈ TT := tt_of 90 (by decide +kernel) (by decide +kernel)
abbrev M_X11_seconder : MD := (yX11_seconder, cX11_seconder, 5, (some .int), fun _ _ => True)
theorem mf_X11_seconder : MF M_X11_seconder 2 := ⟨tt_of 1675 (by decide +kernel) (by decide +kernel), tt_of 121 (by decide +kernel) (by decide +kernel), ⟨by decide, by decide, by decide +kernel⟩, by decide⟩
theorem mi_X11_seconder : Cond.instanceMethod M_X11_seconder.1 ∈ TT := tt_of 1674 (by decide +kernel) (by decide +kernel)
theorem me_X11_seconder : Cond.selects M_X11_seconder.1.cls M_X11_seconder.1 M_X11_seconder.1 ∈ TT := tt_of 85 (by decide +kernel) (by decide +kernel)
abbrev M_X11_canDivide : MD := (yX11_canDivide, cX11_canDivide, 2, (some .boolean), fun _ _ => True)
theorem mf_X11_canDivide : MF M_X11_canDivide 1 := ⟨tt_of 1495 (by decide +kernel) (by decide +kernel), tt_of 121 (by decide +kernel) (by decide +kernel), ⟨by decide, by decide, by decide +kernel⟩, by decide⟩
theorem mi_X11_canDivide : Cond.instanceMethod M_X11_canDivide.1 ∈ TT := tt_of 1494 (by decide +kernel) (by decide +kernel)
theorem me_X11_canDivide : Cond.selects M_X11_canDivide.1.cls M_X11_canDivide.1 M_X11_canDivide.1 ∈ TT := tt_of 56 (by decide +kernel) (by decide +kernel)
abbrev M_X11_divideIt : MD := (yX11_divideIt, cX11_divideIt, 3, none, fun _ _ => True)
theorem mf_X11_divideIt : MF M_X11_divideIt 1 := ⟨tt_of 1695 (by decide +kernel) (by decide +kernel), tt_of 121 (by decide +kernel) (by decide +kernel), ⟨by decide, by decide, by decide +kernel⟩, by decide⟩
theorem mi_X11_divideIt : Cond.instanceMethod M_X11_divideIt.1 ∈ TT := tt_of 1694 (by decide +kernel) (by decide +kernel)
theorem me_X11_divideIt : Cond.selects M_X11_divideIt.1.cls M_X11_divideIt.1 M_X11_divideIt.1 ∈ TT := tt_of 89 (by decide +kernel) (by decide +kernel)
abbrev M_X11_canMove : MD := (yX11_canMove, cX11_canMove, 3, (some .boolean), fun _ _ => True)
theorem mf_X11_canMove : MF M_X11_canMove 2 := ⟨tt_of 1671 (by decide +kernel) (by decide +kernel), tt_of 121 (by decide +kernel) (by decide +kernel), ⟨by decide, by decide, by decide +kernel⟩, by decide⟩
theorem mi_X11_canMove : Cond.instanceMethod M_X11_canMove.1 ∈ TT := tt_of 1670 (by decide +kernel) (by decide +kernel)
theorem me_X11_canMove : Cond.selects M_X11_canMove.1.cls M_X11_canMove.1 M_X11_canMove.1 ∈ TT := tt_of 84 (by decide +kernel) (by decide +kernel)
abbrev M_X11_moveNow : MD := (yX11_moveNow, cX11_moveNow, 4, (some .int), fun _ _ => True)
theorem mf_X11_moveNow : MF M_X11_moveNow 2 := ⟨tt_of 1667 (by decide +kernel) (by decide +kernel), tt_of 121 (by decide +kernel) (by decide +kernel), ⟨by decide, by decide, by decide +kernel⟩, by decide⟩
theorem mi_X11_moveNow : Cond.instanceMethod M_X11_moveNow.1 ∈ TT := tt_of 1666 (by decide +kernel) (by decide +kernel)
theorem me_X11_moveNow : Cond.selects M_X11_moveNow.1.cls M_X11_moveNow.1 M_X11_moveNow.1 ∈ TT := tt_of 83 (by decide +kernel) (by decide +kernel)
abbrev M_X11_move : MD := (yX11_move, cX11_move, 3, (some .int), fun _ _ => True)
theorem mf_X11_move : MF M_X11_move 2 := ⟨tt_of 1663 (by decide +kernel) (by decide +kernel), tt_of 121 (by decide +kernel) (by decide +kernel), ⟨by decide, by decide, by decide +kernel⟩, by decide⟩
theorem mi_X11_move : Cond.instanceMethod M_X11_move.1 ∈ TT := tt_of 1661 (by decide +kernel) (by decide +kernel)
theorem me_X11_move : Cond.selects M_X11_move.1.cls M_X11_move.1 M_X11_move.1 ∈ TT := tt_of 1662 (by decide +kernel) (by decide +kernel)
abbrev M_X11_divideNow : MD := (yX11_divideNow, cX11_divideNow, 3, (some .int), fun _ _ => True)
theorem mf_X11_divideNow : MF M_X11_divideNow 1 := ⟨tt_of 1691 (by decide +kernel) (by decide +kernel), tt_of 121 (by decide +kernel) (by decide +kernel), ⟨by decide, by decide, by decide +kernel⟩, by decide⟩
theorem mi_X11_divideNow : Cond.instanceMethod M_X11_divideNow.1 ∈ TT := tt_of 1690 (by decide +kernel) (by decide +kernel)
theorem me_X11_divideNow : Cond.selects M_X11_divideNow.1.cls M_X11_divideNow.1 M_X11_divideNow.1 ∈ TT := tt_of 88 (by decide +kernel) (by decide +kernel)
abbrev M_X11_divide : MD := (yX11_divide, cX11_divide, 2, (some .int), fun _ _ => True)
theorem mf_X11_divide : MF M_X11_divide 1 := ⟨tt_of 1687 (by decide +kernel) (by decide +kernel), tt_of 121 (by decide +kernel) (by decide +kernel), ⟨by decide, by decide, by decide +kernel⟩, by decide⟩
theorem mi_X11_divide : Cond.instanceMethod M_X11_divide.1 ∈ TT := tt_of 1685 (by decide +kernel) (by decide +kernel)
theorem me_X11_divide : Cond.selects M_X11_divide.1.cls M_X11_divide.1 M_X11_divide.1 ∈ TT := tt_of 1686 (by decide +kernel) (by decide +kernel)
abbrev M_X11_flyNow : MD := (yX11_flyNow, cX11_flyNow, 4, (some .int), fun _ _ => True)
theorem mf_X11_flyNow : MF M_X11_flyNow 2 := ⟨tt_of 1707 (by decide +kernel) (by decide +kernel), tt_of 121 (by decide +kernel) (by decide +kernel), ⟨by decide, by decide, by decide +kernel⟩, by decide⟩
theorem mi_X11_flyNow : Cond.instanceMethod M_X11_flyNow.1 ∈ TT := tt_of 1706 (by decide +kernel) (by decide +kernel)
theorem me_X11_flyNow : Cond.selects M_X11_flyNow.1.cls M_X11_flyNow.1 M_X11_flyNow.1 ∈ TT := tt_of 91 (by decide +kernel) (by decide +kernel)
abbrev M_X11_fly : MD := (yX11_fly, cX11_fly, 3, (some .int), fun _ _ => True)
theorem mf_X11_fly : MF M_X11_fly 2 := ⟨tt_of 1703 (by decide +kernel) (by decide +kernel), tt_of 121 (by decide +kernel) (by decide +kernel), ⟨by decide, by decide, by decide +kernel⟩, by decide⟩
theorem mi_X11_fly : Cond.instanceMethod M_X11_fly.1 ∈ TT := tt_of 1701 (by decide +kernel) (by decide +kernel)
theorem me_X11_fly : Cond.selects M_X11_fly.1.cls M_X11_fly.1 M_X11_fly.1 ∈ TT := tt_of 1702 (by decide +kernel) (by decide +kernel)
abbrev M_X11_passIt : MD := (yX11_passIt, cX11_passIt, 3, (some .int), fun _ _ => True)
theorem mf_X11_passIt : MF M_X11_passIt 0 := ⟨tt_of 1719 (by decide +kernel) (by decide +kernel), tt_of 121 (by decide +kernel) (by decide +kernel), ⟨by decide, by decide, by decide +kernel⟩, by decide⟩
theorem mi_X11_passIt : Cond.instanceMethod M_X11_passIt.1 ∈ TT := tt_of 1718 (by decide +kernel) (by decide +kernel)
theorem me_X11_passIt : Cond.selects M_X11_passIt.1.cls M_X11_passIt.1 M_X11_passIt.1 ∈ TT := tt_of 93 (by decide +kernel) (by decide +kernel)
abbrev M_X11_passNow : MD := (yX11_passNow, cX11_passNow, 1, (some .int), fun _ _ => True)
theorem mf_X11_passNow : MF M_X11_passNow 0 := ⟨tt_of 1715 (by decide +kernel) (by decide +kernel), tt_of 121 (by decide +kernel) (by decide +kernel), ⟨by decide, by decide, by decide +kernel⟩, by decide⟩
theorem mi_X11_passNow : Cond.instanceMethod M_X11_passNow.1 ∈ TT := tt_of 1714 (by decide +kernel) (by decide +kernel)
theorem me_X11_passNow : Cond.selects M_X11_passNow.1.cls M_X11_passNow.1 M_X11_passNow.1 ∈ TT := tt_of 92 (by decide +kernel) (by decide +kernel)
abbrev M_X11_pass : MD := (yX11_pass, cX11_pass, 1, (some .int), fun _ _ => True)
theorem mf_X11_pass : MF M_X11_pass 0 := ⟨tt_of 1711 (by decide +kernel) (by decide +kernel), tt_of 121 (by decide +kernel) (by decide +kernel), ⟨by decide, by decide, by decide +kernel⟩, by decide⟩
theorem mi_X11_pass : Cond.instanceMethod M_X11_pass.1 ∈ TT := tt_of 1709 (by decide +kernel) (by decide +kernel)
theorem me_X11_pass : Cond.selects M_X11_pass.1.cls M_X11_pass.1 M_X11_pass.1 ∈ TT := tt_of 1710 (by decide +kernel) (by decide +kernel)
abbrev M_X11_second : MD := (yX11_second, cX11_second, 3, (some .int), fun _ _ => True)
theorem mf_X11_second : MF M_X11_second 2 := ⟨tt_of 1723 (by decide +kernel) (by decide +kernel), tt_of 121 (by decide +kernel) (by decide +kernel), ⟨by decide, by decide, by decide +kernel⟩, by decide⟩
theorem mi_X11_second : Cond.instanceMethod M_X11_second.1 ∈ TT := tt_of 1721 (by decide +kernel) (by decide +kernel)
theorem me_X11_second : Cond.selects M_X11_second.1.cls M_X11_second.1 M_X11_second.1 ∈ TT := tt_of 1722 (by decide +kernel) (by decide +kernel)
abbrev M_X11_isNew : MD := (yX11_isNew, cX11_isNew, 4, (some .boolean), fun _ _ => True)
theorem mf_X11_isNew : MF M_X11_isNew 1 := ⟨tt_of 1735 (by decide +kernel) (by decide +kernel), tt_of 121 (by decide +kernel) (by decide +kernel), ⟨by decide, by decide, by decide +kernel⟩, by decide⟩
theorem mi_X11_isNew : Cond.instanceMethod M_X11_isNew.1 ∈ TT := tt_of 1734 (by decide +kernel) (by decide +kernel)
theorem me_X11_isNew : Cond.selects M_X11_isNew.1.cls M_X11_isNew.1 M_X11_isNew.1 ∈ TT := tt_of 95 (by decide +kernel) (by decide +kernel)
abbrev M_X11_findRichest : MD := (yX11_findRichest, cX11_findRichest, 7, (some .int), fun _ _ => True)
theorem mf_X11_findRichest : MF M_X11_findRichest 0 := ⟨tt_of 1731 (by decide +kernel) (by decide +kernel), tt_of 121 (by decide +kernel) (by decide +kernel), ⟨by decide, by decide, by decide +kernel⟩, by decide⟩
theorem mi_X11_findRichest : Cond.instanceMethod M_X11_findRichest.1 ∈ TT := tt_of 1730 (by decide +kernel) (by decide +kernel)
theorem me_X11_findRichest : Cond.selects M_X11_findRichest.1.cls M_X11_findRichest.1 M_X11_findRichest.1 ∈ TT := tt_of 94 (by decide +kernel) (by decide +kernel)
abbrev M_X11_richest : MD := (yX11_richest, cX11_richest, 3, (some .int), fun _ _ => True)
theorem mf_X11_richest : MF M_X11_richest 1 := ⟨tt_of 1727 (by decide +kernel) (by decide +kernel), tt_of 121 (by decide +kernel) (by decide +kernel), ⟨by decide, by decide, by decide +kernel⟩, by decide⟩
theorem mi_X11_richest : Cond.instanceMethod M_X11_richest.1 ∈ TT := tt_of 1725 (by decide +kernel) (by decide +kernel)
theorem me_X11_richest : Cond.selects M_X11_richest.1.cls M_X11_richest.1 M_X11_richest.1 ∈ TT := tt_of 1726 (by decide +kernel) (by decide +kernel)
abbrev M_X11_byClock : MD := (yX11_byClock, cX11_byClock, 6, (some .int), fun _ _ => True)
theorem mf_X11_byClock : MF M_X11_byClock 1 := ⟨tt_of 1739 (by decide +kernel) (by decide +kernel), tt_of 121 (by decide +kernel) (by decide +kernel), ⟨by decide, by decide, by decide +kernel⟩, by decide⟩
theorem mi_X11_byClock : Cond.instanceMethod M_X11_byClock.1 ∈ TT := tt_of 1737 (by decide +kernel) (by decide +kernel)
theorem me_X11_byClock : Cond.selects M_X11_byClock.1.cls M_X11_byClock.1 M_X11_byClock.1 ∈ TT := tt_of 1738 (by decide +kernel) (by decide +kernel)
abbrev M_X11_spoilt : MD := (yX11_spoilt, cX11_spoilt, 8, (some .int), fun _ _ => True)
theorem mf_X11_spoilt : MF M_X11_spoilt 2 := ⟨tt_of 1743 (by decide +kernel) (by decide +kernel), tt_of 121 (by decide +kernel) (by decide +kernel), ⟨by decide, by decide, by decide +kernel⟩, by decide⟩
theorem mi_X11_spoilt : Cond.instanceMethod M_X11_spoilt.1 ∈ TT := tt_of 1741 (by decide +kernel) (by decide +kernel)
theorem me_X11_spoilt : Cond.selects M_X11_spoilt.1.cls M_X11_spoilt.1 M_X11_spoilt.1 ∈ TT := tt_of 1742 (by decide +kernel) (by decide +kernel)
abbrev M_X11_come : MD := (yX11_come, cX11_come, 11, (some .int), fun _ _ => True)
theorem mf_X11_come : MF M_X11_come 2 := ⟨tt_of 1748 (by decide +kernel) (by decide +kernel), tt_of 121 (by decide +kernel) (by decide +kernel), ⟨by decide, by decide, by decide +kernel⟩, by decide⟩
theorem mi_X11_come : Cond.instanceMethod M_X11_come.1 ∈ TT := tt_of 1746 (by decide +kernel) (by decide +kernel)
theorem me_X11_come : Cond.selects M_X11_come.1.cls M_X11_come.1 M_X11_come.1 ∈ TT := tt_of 1747 (by decide +kernel) (by decide +kernel)
abbrev M_X11_layLeft : MD := (yX11_layLeft, cX11_layLeft, 5, none, fun _ _ => True)
theorem mf_X11_layLeft : MF M_X11_layLeft 1 := ⟨tt_of 1756 (by decide +kernel) (by decide +kernel), tt_of 121 (by decide +kernel) (by decide +kernel), ⟨by decide, by decide, by decide +kernel⟩, by decide⟩
theorem mi_X11_layLeft : Cond.instanceMethod M_X11_layLeft.1 ∈ TT := tt_of 1755 (by decide +kernel) (by decide +kernel)
theorem me_X11_layLeft : Cond.selects M_X11_layLeft.1.cls M_X11_layLeft.1 M_X11_layLeft.1 ∈ TT := tt_of 96 (by decide +kernel) (by decide +kernel)
abbrev M_X11_chain : MD := (yX11_chain, cX11_chain, 7, (some .int), fun _ _ => True)
theorem mf_X11_chain : MF M_X11_chain 3 := ⟨tt_of 1752 (by decide +kernel) (by decide +kernel), tt_of 121 (by decide +kernel) (by decide +kernel), ⟨by decide, by decide, by decide +kernel⟩, by decide⟩
theorem mi_X11_chain : Cond.instanceMethod M_X11_chain.1 ∈ TT := tt_of 1750 (by decide +kernel) (by decide +kernel)
theorem me_X11_chain : Cond.selects M_X11_chain.1.cls M_X11_chain.1 M_X11_chain.1 ∈ TT := tt_of 1751 (by decide +kernel) (by decide +kernel)
abbrev M_X11_hearAll : MD := (yX11_hearAll, cX11_hearAll, 6, (some .boolean), fun _ _ => True)
theorem mf_X11_hearAll : MF M_X11_hearAll 1 := ⟨tt_of 1768 (by decide +kernel) (by decide +kernel), tt_of 121 (by decide +kernel) (by decide +kernel), ⟨by decide, by decide, by decide +kernel⟩, by decide⟩
theorem mi_X11_hearAll : Cond.instanceMethod M_X11_hearAll.1 ∈ TT := tt_of 1767 (by decide +kernel) (by decide +kernel)
theorem me_X11_hearAll : Cond.selects M_X11_hearAll.1.cls M_X11_hearAll.1 M_X11_hearAll.1 ∈ TT := tt_of 98 (by decide +kernel) (by decide +kernel)
abbrev M_X11_ears : MD := (yX11_ears, cX11_ears, 6, (some .int), fun _ _ => True)
theorem mf_X11_ears : MF M_X11_ears 1 := ⟨tt_of 1760 (by decide +kernel) (by decide +kernel), tt_of 121 (by decide +kernel) (by decide +kernel), ⟨by decide, by decide, by decide +kernel⟩, by decide⟩
theorem mi_X11_ears : Cond.instanceMethod M_X11_ears.1 ∈ TT := tt_of 1758 (by decide +kernel) (by decide +kernel)
theorem me_X11_ears : Cond.selects M_X11_ears.1.cls M_X11_ears.1 M_X11_ears.1 ∈ TT := tt_of 1759 (by decide +kernel) (by decide +kernel)
abbrev M_X11_heardBy : MD := (yX11_heardBy, cX11_heardBy, 4, (some .int), fun _ _ => True)
theorem mf_X11_heardBy : MF M_X11_heardBy 1 := ⟨tt_of 1779 (by decide +kernel) (by decide +kernel), tt_of 121 (by decide +kernel) (by decide +kernel), ⟨by decide, by decide, by decide +kernel⟩, by decide⟩
theorem mi_X11_heardBy : Cond.instanceMethod M_X11_heardBy.1 ∈ TT := tt_of 1778 (by decide +kernel) (by decide +kernel)
theorem me_X11_heardBy : Cond.selects M_X11_heardBy.1.cls M_X11_heardBy.1 M_X11_heardBy.1 ∈ TT := tt_of 99 (by decide +kernel) (by decide +kernel)
abbrev M_X11_loudest : MD := (yX11_loudest, cX11_loudest, 6, (some .int), fun _ _ => True)
theorem mf_X11_loudest : MF M_X11_loudest 1 := ⟨tt_of 1775 (by decide +kernel) (by decide +kernel), tt_of 121 (by decide +kernel) (by decide +kernel), ⟨by decide, by decide, by decide +kernel⟩, by decide⟩
theorem mi_X11_loudest : Cond.instanceMethod M_X11_loudest.1 ∈ TT := tt_of 1773 (by decide +kernel) (by decide +kernel)
theorem me_X11_loudest : Cond.selects M_X11_loudest.1.cls M_X11_loudest.1 M_X11_loudest.1 ∈ TT := tt_of 1774 (by decide +kernel) (by decide +kernel)
abbrev M_X11_nearest : MD := (yX11_nearest, cX11_nearest, 9, (some .int), fun _ _ => True)
theorem mf_X11_nearest : MF M_X11_nearest 2 := ⟨tt_of 1783 (by decide +kernel) (by decide +kernel), tt_of 121 (by decide +kernel) (by decide +kernel), ⟨by decide, by decide, by decide +kernel⟩, by decide⟩
theorem mi_X11_nearest : Cond.instanceMethod M_X11_nearest.1 ∈ TT := tt_of 1781 (by decide +kernel) (by decide +kernel)
theorem me_X11_nearest : Cond.selects M_X11_nearest.1.cls M_X11_nearest.1 M_X11_nearest.1 ∈ TT := tt_of 1782 (by decide +kernel) (by decide +kernel)
abbrev M_X11_heard : MD := (yX11_heard, cX11_heard, 3, (some .int), fun _ _ => True)
theorem mf_X11_heard : MF M_X11_heard 1 := ⟨tt_of 1787 (by decide +kernel) (by decide +kernel), tt_of 121 (by decide +kernel) (by decide +kernel), ⟨by decide, by decide, by decide +kernel⟩, by decide⟩
theorem mi_X11_heard : Cond.instanceMethod M_X11_heard.1 ∈ TT := tt_of 1785 (by decide +kernel) (by decide +kernel)
theorem me_X11_heard : Cond.selects M_X11_heard.1.cls M_X11_heard.1 M_X11_heard.1 ∈ TT := tt_of 1786 (by decide +kernel) (by decide +kernel)
abbrev M_X11_forget : MD := (yX11_forget, cX11_forget, 2, (some .int), fun _ _ => True)
theorem mf_X11_forget : MF M_X11_forget 0 := ⟨tt_of 1791 (by decide +kernel) (by decide +kernel), tt_of 121 (by decide +kernel) (by decide +kernel), ⟨by decide, by decide, by decide +kernel⟩, by decide⟩
theorem mi_X11_forget : Cond.instanceMethod M_X11_forget.1 ∈ TT := tt_of 1789 (by decide +kernel) (by decide +kernel)
theorem me_X11_forget : Cond.selects M_X11_forget.1.cls M_X11_forget.1 M_X11_forget.1 ∈ TT := tt_of 1790 (by decide +kernel) (by decide +kernel)
abbrev M_X11_thatCanBe : MD := (yX11_thatCanBe, cX11_thatCanBe, 5, (some .int), fun _ _ => True)
theorem mf_X11_thatCanBe : MF M_X11_thatCanBe 0 := ⟨tt_of 1799 (by decide +kernel) (by decide +kernel), tt_of 121 (by decide +kernel) (by decide +kernel), ⟨by decide, by decide, by decide +kernel⟩, by decide⟩
theorem mi_X11_thatCanBe : Cond.instanceMethod M_X11_thatCanBe.1 ∈ TT := tt_of 1798 (by decide +kernel) (by decide +kernel)
theorem me_X11_thatCanBe : Cond.selects M_X11_thatCanBe.1.cls M_X11_thatCanBe.1 M_X11_thatCanBe.1 ∈ TT := tt_of 100 (by decide +kernel) (by decide +kernel)
abbrev M_X11_canBe : MD := (yX11_canBe, cX11_canBe, 1, (some .int), fun _ _ => True)
theorem mf_X11_canBe : MF M_X11_canBe 0 := ⟨tt_of 1795 (by decide +kernel) (by decide +kernel), tt_of 121 (by decide +kernel) (by decide +kernel), ⟨by decide, by decide, by decide +kernel⟩, by decide⟩
theorem mi_X11_canBe : Cond.instanceMethod M_X11_canBe.1 ∈ TT := tt_of 1793 (by decide +kernel) (by decide +kernel)
theorem me_X11_canBe : Cond.selects M_X11_canBe.1.cls M_X11_canBe.1 M_X11_canBe.1 ∈ TT := tt_of 1794 (by decide +kernel) (by decide +kernel)
abbrev M_X11_listen : MD := (yX11_listen, cX11_listen, 9, (some .int), fun _ _ => True)
theorem mf_X11_listen : MF M_X11_listen 1 := ⟨tt_of 1803 (by decide +kernel) (by decide +kernel), tt_of 121 (by decide +kernel) (by decide +kernel), ⟨by decide, by decide, by decide +kernel⟩, by decide⟩
theorem mi_X11_listen : Cond.instanceMethod M_X11_listen.1 ∈ TT := tt_of 1801 (by decide +kernel) (by decide +kernel)
theorem me_X11_listen : Cond.selects M_X11_listen.1.cls M_X11_listen.1 M_X11_listen.1 ∈ TT := tt_of 1802 (by decide +kernel) (by decide +kernel)
abbrev M_X11_few : MD := (yX11_few, cX11_few, 8, (some .long), fun _ _ => True)
theorem mf_X11_few : MF M_X11_few 2 := ⟨tt_of 1807 (by decide +kernel) (by decide +kernel), tt_of 121 (by decide +kernel) (by decide +kernel), ⟨by decide, by decide, by decide +kernel⟩, by decide⟩
theorem mi_X11_few : Cond.instanceMethod M_X11_few.1 ∈ TT := tt_of 1805 (by decide +kernel) (by decide +kernel)
theorem me_X11_few : Cond.selects M_X11_few.1.cls M_X11_few.1 M_X11_few.1 ∈ TT := tt_of 1806 (by decide +kernel) (by decide +kernel)
abbrev M_X11_compare : MD := (yX11_compare, cX11_compare, 5, (some .int), fun _ _ => True)
theorem mf_X11_compare : MF M_X11_compare 2 := ⟨tt_of 1813 (by decide +kernel) (by decide +kernel), tt_of 121 (by decide +kernel) (by decide +kernel), ⟨by decide, by decide, by decide +kernel⟩, by decide⟩
theorem mi_X11_compare : Cond.instanceMethod M_X11_compare.1 ∈ TT := tt_of 1811 (by decide +kernel) (by decide +kernel)
theorem me_X11_compare : Cond.selects M_X11_compare.1.cls M_X11_compare.1 M_X11_compare.1 ∈ TT := tt_of 1812 (by decide +kernel) (by decide +kernel)
abbrev M_X11_readSum : MD := (yX11_readSum, cX11_readSum, 2, none, fun _ _ => True)
theorem mf_X11_readSum : MF M_X11_readSum 1 := ⟨tt_of 1825 (by decide +kernel) (by decide +kernel), tt_of 121 (by decide +kernel) (by decide +kernel), ⟨by decide, by decide, by decide +kernel⟩, by decide⟩
theorem mi_X11_readSum : Cond.instanceMethod M_X11_readSum.1 ∈ TT := tt_of 1824 (by decide +kernel) (by decide +kernel)
theorem me_X11_readSum : Cond.selects M_X11_readSum.1.cls M_X11_readSum.1 M_X11_readSum.1 ∈ TT := tt_of 102 (by decide +kernel) (by decide +kernel)
abbrev M_X11_readOrder : MD := (yX11_readOrder, cX11_readOrder, 4, none, fun _ _ => True)
theorem mf_X11_readOrder : MF M_X11_readOrder 0 := ⟨tt_of 1821 (by decide +kernel) (by decide +kernel), tt_of 121 (by decide +kernel) (by decide +kernel), ⟨by decide, by decide, by decide +kernel⟩, by decide⟩
theorem mi_X11_readOrder : Cond.instanceMethod M_X11_readOrder.1 ∈ TT := tt_of 1820 (by decide +kernel) (by decide +kernel)
theorem me_X11_readOrder : Cond.selects M_X11_readOrder.1.cls M_X11_readOrder.1 M_X11_readOrder.1 ∈ TT := tt_of 101 (by decide +kernel) (by decide +kernel)
abbrev M_X11_sumOf : MD := (yX11_sumOf, cX11_sumOf, 2, (some .int), fun _ _ => True)
theorem mf_X11_sumOf : MF M_X11_sumOf 1 := ⟨tt_of 1836 (by decide +kernel) (by decide +kernel), tt_of 121 (by decide +kernel) (by decide +kernel), ⟨by decide, by decide, by decide +kernel⟩, by decide⟩
theorem mi_X11_sumOf : Cond.instanceMethod M_X11_sumOf.1 ∈ TT := tt_of 1835 (by decide +kernel) (by decide +kernel)
theorem me_X11_sumOf : Cond.selects M_X11_sumOf.1.cls M_X11_sumOf.1 M_X11_sumOf.1 ∈ TT := tt_of 104 (by decide +kernel) (by decide +kernel)
abbrev M_X11_act : MD := (yX11_act, cX11_act, 4, (some .int), fun _ _ => True)
theorem mf_X11_act : MF M_X11_act 3 := ⟨tt_of 1840 (by decide +kernel) (by decide +kernel), tt_of 121 (by decide +kernel) (by decide +kernel), ⟨by decide, by decide, by decide +kernel⟩, by decide⟩
theorem mi_X11_act : Cond.instanceMethod M_X11_act.1 ∈ TT := tt_of 1839 (by decide +kernel) (by decide +kernel)
theorem me_X11_act : Cond.selects M_X11_act.1.cls M_X11_act.1 M_X11_act.1 ∈ TT := tt_of 105 (by decide +kernel) (by decide +kernel)
abbrev M_X11_run : MD := (yX11_run, cX11_run, 5, (some .int), fun _ _ => True)
theorem mf_X11_run : MF M_X11_run 1 := ⟨tt_of 1832 (by decide +kernel) (by decide +kernel), tt_of 121 (by decide +kernel) (by decide +kernel), ⟨by decide, by decide, by decide +kernel⟩, by decide⟩
theorem mi_X11_run : Cond.instanceMethod M_X11_run.1 ∈ TT := tt_of 1831 (by decide +kernel) (by decide +kernel)
theorem me_X11_run : Cond.selects M_X11_run.1.cls M_X11_run.1 M_X11_run.1 ∈ TT := tt_of 103 (by decide +kernel) (by decide +kernel)
abbrev M_X11_orders : MD := (yX11_orders, cX11_orders, 4, (some .int), fun _ _ => True)
theorem mf_X11_orders : MF M_X11_orders 0 := ⟨tt_of 1817 (by decide +kernel) (by decide +kernel), tt_of 121 (by decide +kernel) (by decide +kernel), ⟨by decide, by decide, by decide +kernel⟩, by decide⟩
theorem mi_X11_orders : Cond.instanceMethod M_X11_orders.1 ∈ TT := tt_of 1815 (by decide +kernel) (by decide +kernel)
theorem me_X11_orders : Cond.selects M_X11_orders.1.cls M_X11_orders.1 M_X11_orders.1 ∈ TT := tt_of 1816 (by decide +kernel) (by decide +kernel)
abbrev M_X11_giveBack : MD := (yX11_giveBack, cX11_giveBack, 3, none, fun _ _ => True)
theorem mf_X11_giveBack : MF M_X11_giveBack 1 := ⟨tt_of 1844 (by decide +kernel) (by decide +kernel), tt_of 121 (by decide +kernel) (by decide +kernel), ⟨by decide, by decide, by decide +kernel⟩, by decide⟩
theorem mi_X11_giveBack : Cond.instanceMethod M_X11_giveBack.1 ∈ TT := tt_of 1843 (by decide +kernel) (by decide +kernel)
theorem me_X11_giveBack : Cond.selects M_X11_giveBack.1.cls M_X11_giveBack.1 M_X11_giveBack.1 ∈ TT := tt_of 106 (by decide +kernel) (by decide +kernel)
abbrev M_X11_stopped : MD := (yX11_stopped, cX11_stopped, 1, (some .int), fun _ _ => True)
theorem mf_X11_stopped : MF M_X11_stopped 0 := ⟨tt_of 1848 (by decide +kernel) (by decide +kernel), tt_of 121 (by decide +kernel) (by decide +kernel), ⟨by decide, by decide, by decide +kernel⟩, by decide⟩
theorem mi_X11_stopped : Cond.instanceMethod M_X11_stopped.1 ∈ TT := tt_of 1846 (by decide +kernel) (by decide +kernel)
theorem me_X11_stopped : Cond.selects M_X11_stopped.1.cls M_X11_stopped.1 M_X11_stopped.1 ∈ TT := tt_of 1847 (by decide +kernel) (by decide +kernel)
abbrev M_X11_draw : MD := (yX11_draw, cX11_draw, 2, (some .int), fun _ _ => True)
theorem mf_X11_draw : MF M_X11_draw 1 := ⟨tt_of 1857 (by decide +kernel) (by decide +kernel), tt_of 121 (by decide +kernel) (by decide +kernel), ⟨by decide, by decide, by decide +kernel⟩, by decide⟩
theorem mi_X11_draw : Cond.instanceMethod M_X11_draw.1 ∈ TT := tt_of 1856 (by decide +kernel) (by decide +kernel)
theorem me_X11_draw : Cond.selects M_X11_draw.1.cls M_X11_draw.1 M_X11_draw.1 ∈ TT := tt_of 107 (by decide +kernel) (by decide +kernel)
abbrev M_X11_mays : MD := (yX11_mays, cX11_mays, 8, (some .int), fun _ _ => True)
theorem mf_X11_mays : MF M_X11_mays 2 := ⟨tt_of 1852 (by decide +kernel) (by decide +kernel), tt_of 121 (by decide +kernel) (by decide +kernel), ⟨by decide, by decide, by decide +kernel⟩, by decide⟩
theorem mi_X11_mays : Cond.instanceMethod M_X11_mays.1 ∈ TT := tt_of 1850 (by decide +kernel) (by decide +kernel)
theorem me_X11_mays : Cond.selects M_X11_mays.1.cls M_X11_mays.1 M_X11_mays.1 ∈ TT := tt_of 1851 (by decide +kernel) (by decide +kernel)
abbrev M_X11_drawn : MD := (yX11_drawn, cX11_drawn, 3, (some .int), fun _ _ => True)
theorem mf_X11_drawn : MF M_X11_drawn 2 := ⟨tt_of 1864 (by decide +kernel) (by decide +kernel), tt_of 121 (by decide +kernel) (by decide +kernel), ⟨by decide, by decide, by decide +kernel⟩, by decide⟩
theorem mi_X11_drawn : Cond.instanceMethod M_X11_drawn.1 ∈ TT := tt_of 1862 (by decide +kernel) (by decide +kernel)
theorem me_X11_drawn : Cond.selects M_X11_drawn.1.cls M_X11_drawn.1 M_X11_drawn.1 ∈ TT := tt_of 1863 (by decide +kernel) (by decide +kernel)
abbrev M_X11_count : MD := (yX11_count, cX11_count, 2, (some .int), fun _ _ => True)
theorem mf_X11_count : MF M_X11_count 1 := ⟨tt_of 1868 (by decide +kernel) (by decide +kernel), tt_of 121 (by decide +kernel) (by decide +kernel), ⟨by decide, by decide, by decide +kernel⟩, by decide⟩
theorem mi_X11_count : Cond.instanceMethod M_X11_count.1 ∈ TT := tt_of 1866 (by decide +kernel) (by decide +kernel)
theorem me_X11_count : Cond.selects M_X11_count.1.cls M_X11_count.1 M_X11_count.1 ∈ TT := tt_of 1867 (by decide +kernel) (by decide +kernel)
abbrev M_X11_status : MD := (yX11_status, cX11_status, 1, (some .int), fun _ _ => True)
theorem mf_X11_status : MF M_X11_status 0 := ⟨tt_of 1874 (by decide +kernel) (by decide +kernel), tt_of 121 (by decide +kernel) (by decide +kernel), ⟨by decide, by decide, by decide +kernel⟩, by decide⟩
theorem mi_X11_status : Cond.instanceMethod M_X11_status.1 ∈ TT := tt_of 1872 (by decide +kernel) (by decide +kernel)
theorem me_X11_status : Cond.selects M_X11_status.1.cls M_X11_status.1 M_X11_status.1 ∈ TT := tt_of 1873 (by decide +kernel) (by decide +kernel)
abbrev M_J6_bitCount_0f7a4 : MD := (yJ6_bitCount_0f7a4, cJ6_bitCount_0f7a4, 1, (some .int), fun _ _ => True)
theorem mf_J6_bitCount_0f7a4 : MF M_J6_bitCount_0f7a4 1 := ⟨tt_of 656 (by decide +kernel) (by decide +kernel), tt_of 123 (by decide +kernel) (by decide +kernel), ⟨by decide, by decide, by decide +kernel⟩, by decide⟩
theorem ms_J6_bitCount_0f7a4 : Cond.static M_J6_bitCount_0f7a4.1 ∈ TT := tt_of 655 (by decide +kernel) (by decide +kernel)
abbrev M_L_law : MD := (yL_law, cL_law, 4, (some .boolean), fun _ _ => True)
theorem mm_max : Cond.static Lib.Math.max.name ∈ TT := tt_of 182 (by decide +kernel) (by decide +kernel)
theorem mc_max : Cond.code Lib.Math.max.name Lib.Math.max.code 2 (some .int) ∈ TT := tt_of 183 (by decide +kernel) (by decide +kernel)
theorem mm_min : Cond.static Lib.Math.min.name ∈ TT := tt_of 537 (by decide +kernel) (by decide +kernel)
theorem mc_min : Cond.code Lib.Math.min.name Lib.Math.min.code 2 (some .int) ∈ TT := tt_of 538 (by decide +kernel) (by decide +kernel)
theorem mm_abs : Cond.static Lib.Math.abs.name ∈ TT := tt_of 564 (by decide +kernel) (by decide +kernel)
theorem mc_abs : Cond.code Lib.Math.abs.name Lib.Math.abs.code 1 (some .int) ∈ TT := tt_of 565 (by decide +kernel) (by decide +kernel)
theorem mini : Cond.initialized "java/lang/Math" ∈ TT := tt_of 113 (by decide +kernel) (by decide +kernel)
theorem acn : Cond.native arraycopyName ∈ TT := tt_of 646 (by decide +kernel) (by decide +kernel)
theorem acs : Cond.static arraycopyName ∈ TT := tt_of 645 (by decide +kernel) (by decide +kernel)
theorem aci : Cond.initialized "java/lang/System" ∈ TT := tt_of 122 (by decide +kernel) (by decide +kernel)
theorem oin : Cond.instanceMethod objectInit ∈ TT := tt_of 134 (by decide +kernel) (by decide +kernel)
theorem oco : Cond.code objectInit ⟨#[0xb1]⟩ 1 none ∈ TT := tt_of 135 (by decide +kernel) (by decide +kernel)
theorem ac_int : Cond.arrayClass .int ∈ TT := tt_of 173 (by decide +kernel) (by decide +kernel)
theorem ac_long : Cond.arrayClass .long ∈ TT := tt_of 349 (by decide +kernel) (by decide +kernel)
theorem ac_boolean : Cond.arrayClass .boolean ∈ TT := tt_of 1363 (by decide +kernel) (by decide +kernel)
end
