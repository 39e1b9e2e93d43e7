theorem sp_255x : (Int16.ofInt 255).toInt32 = (255 : Int32) := by decide
theorem strBy_eq : strBy = [111, 114, 32, 97, 110, 100, 32, 110, 111, 116, 32, 105, 102, 32, 116, 105, 109, 101, 115, 32, 98, 121, 32, 116, 111, 32, 115, 119, 97, 121, 115, 32, 116, 97, 107, 101, 115, 32, 98, 97, 114, 115, 32, 109, 111, 118, 101, 32, 100, 105, 118, 105, 100, 101, 32, 102, 108, 121, 32, 112, 97, 115, 115, 32, 98, 105, 114, 100, 32, 116, 114, 101, 101, 32, 102, 97, 118, 111, 117, 114, 32, 109, 97, 116, 116, 101, 114, 32, 99, 108, 97, 117, 115, 101, 115, 32, 114, 105, 99, 104, 32, 99, 108, 111, 99, 107, 32, 110, 105, 103, 104, 116, 32, 109, 111, 111, 100, 32, 100, 111, 110, 101, 32, 108, 97, 116, 101, 115, 116, 32, 112, 114, 101, 115, 101, 110, 116, 32, 115, 116, 97, 110, 100, 115, 32] := by decide +kernel
theorem strBy_len : strBy.length = 145 := by rw [strBy_eq]; rfl
def strLen : Int32 := nI 145
def strAt (i : Int32) : Option Int32 := if i < 0 ∨ 145 ≤ i.toNatClampNeg then none else some (strBy.getD i.toNatClampNeg 0)
theorem strBy_ok : ∀ b ∈ strBy, ((b &&& 255).toUInt32 % 65536).toInt32 = b ∧ narrow .char (.int b) = .int b := by rw [strBy_eq]; decide +kernel
theorem dJ0_length_8abf5_0 : decode cJ0_length_8abf5 0 = .ok (.aload_n 0, 1) := by decide +kernel
theorem dJ0_length_8abf5_1 : decode cJ0_length_8abf5 1 = .ok (.getfield 9, 3) := by decide +kernel
theorem dJ0_length_8abf5_4 : decode cJ0_length_8abf5 4 = .ok (.arraylength, 1) := by decide +kernel
theorem dJ0_length_8abf5_5 : decode cJ0_length_8abf5 5 = .ok (.aload_n 0, 1) := by decide +kernel
theorem dJ0_length_8abf5_6 : decode cJ0_length_8abf5 6 = .ok (.invokevirtual 335, 3) := by decide +kernel
theorem dJ0_length_8abf5_9 : decode cJ0_length_8abf5 9 = .ok (.ishr, 1) := by decide +kernel
theorem dJ0_length_8abf5_10 : decode cJ0_length_8abf5 10 = .ok (.ireturn, 1) := by decide +kernel
theorem dJ0_charAt_5068e_0 : decode cJ0_charAt_5068e 0 = .ok (.aload_n 0, 1) := by decide +kernel
theorem dJ0_charAt_5068e_1 : decode cJ0_charAt_5068e 1 = .ok (.invokevirtual 492, 3) := by decide +kernel
theorem dJ0_charAt_5068e_4 : decode cJ0_charAt_5068e 4 = .ok (.ifCond .eq 12, 3) := by decide +kernel
theorem dJ0_charAt_5068e_7 : decode cJ0_charAt_5068e 7 = .ok (.aload_n 0, 1) := by decide +kernel
theorem dJ0_charAt_5068e_8 : decode cJ0_charAt_5068e 8 = .ok (.getfield 9, 3) := by decide +kernel
theorem dJ0_charAt_5068e_11 : decode cJ0_charAt_5068e 11 = .ok (.iload_n 1, 1) := by decide +kernel
theorem dJ0_charAt_5068e_12 : decode cJ0_charAt_5068e 12 = .ok (.invokestatic 495, 3) := by decide +kernel
theorem dJ0_charAt_5068e_15 : decode cJ0_charAt_5068e 15 = .ok (.ireturn, 1) := by decide +kernel
theorem dJ0_charAt_5068e_16 : decode cJ0_charAt_5068e 16 = .ok (.aload_n 0, 1) := by decide +kernel
theorem dJ0_charAt_5068e_17 : decode cJ0_charAt_5068e 17 = .ok (.getfield 9, 3) := by decide +kernel
theorem dJ0_charAt_5068e_20 : decode cJ0_charAt_5068e 20 = .ok (.iload_n 1, 1) := by decide +kernel
theorem dJ0_charAt_5068e_21 : decode cJ0_charAt_5068e 21 = .ok (.invokestatic 498, 3) := by decide +kernel
theorem dJ0_charAt_5068e_24 : decode cJ0_charAt_5068e 24 = .ok (.ireturn, 1) := by decide +kernel
theorem dJ0_coder_7d493_0 : decode cJ0_coder_7d493 0 = .ok (.getstatic 38, 3) := by decide +kernel
theorem dJ0_coder_7d493_3 : decode cJ0_coder_7d493 3 = .ok (.ifCond .eq 10, 3) := by decide +kernel
theorem dJ0_coder_7d493_6 : decode cJ0_coder_7d493 6 = .ok (.aload_n 0, 1) := by decide +kernel
theorem dJ0_coder_7d493_7 : decode cJ0_coder_7d493 7 = .ok (.getfield 15, 3) := by decide +kernel
theorem dJ0_coder_7d493_10 : decode cJ0_coder_7d493 10 = .ok (.goto 4, 3) := by decide +kernel
theorem dJ0_coder_7d493_13 : decode cJ0_coder_7d493 13 = .ok (.iconst 1, 1) := by decide +kernel
theorem dJ0_coder_7d493_14 : decode cJ0_coder_7d493 14 = .ok (.ireturn, 1) := by decide +kernel
theorem dJ0_isLatin1_aae02_0 : decode cJ0_isLatin1_aae02 0 = .ok (.getstatic 38, 3) := by decide +kernel
theorem dJ0_isLatin1_aae02_3 : decode cJ0_isLatin1_aae02 3 = .ok (.ifCond .eq 14, 3) := by decide +kernel
theorem dJ0_isLatin1_aae02_6 : decode cJ0_isLatin1_aae02 6 = .ok (.aload_n 0, 1) := by decide +kernel
theorem dJ0_isLatin1_aae02_7 : decode cJ0_isLatin1_aae02 7 = .ok (.getfield 15, 3) := by decide +kernel
theorem dJ0_isLatin1_aae02_10 : decode cJ0_isLatin1_aae02 10 = .ok (.ifCond .ne 7, 3) := by decide +kernel
theorem dJ0_isLatin1_aae02_13 : decode cJ0_isLatin1_aae02 13 = .ok (.iconst 1, 1) := by decide +kernel
theorem dJ0_isLatin1_aae02_14 : decode cJ0_isLatin1_aae02 14 = .ok (.goto 4, 3) := by decide +kernel
theorem dJ0_isLatin1_aae02_17 : decode cJ0_isLatin1_aae02 17 = .ok (.iconst 0, 1) := by decide +kernel
theorem dJ0_isLatin1_aae02_18 : decode cJ0_isLatin1_aae02 18 = .ok (.ireturn, 1) := by decide +kernel
theorem dJ0_checkIndex_df160_0 : decode cJ0_checkIndex_df160 0 = .ok (.iload_n 0, 1) := by decide +kernel
theorem dJ0_checkIndex_df160_1 : decode cJ0_checkIndex_df160 1 = .ok (.iload_n 1, 1) := by decide +kernel
theorem dJ0_checkIndex_df160_2 : decode cJ0_checkIndex_df160 2 = .ok (.getstatic 1053, 3) := by decide +kernel
theorem dJ0_checkIndex_df160_5 : decode cJ0_checkIndex_df160 5 = .ok (.invokestatic 1059, 3) := by decide +kernel
theorem dJ0_checkIndex_df160_8 : decode cJ0_checkIndex_df160 8 = .ok (.pop, 1) := by decide +kernel
theorem dJ0_checkIndex_df160_9 : decode cJ0_checkIndex_df160 9 = .ok (.return_, 1) := by decide +kernel
theorem dJ1_charAt_3b067_0 : decode cJ1_charAt_3b067 0 = .ok (.iload_n 1, 1) := by decide +kernel
theorem dJ1_charAt_3b067_1 : decode cJ1_charAt_3b067 1 = .ok (.aload_n 0, 1) := by decide +kernel
theorem dJ1_charAt_3b067_2 : decode cJ1_charAt_3b067 2 = .ok (.arraylength, 1) := by decide +kernel
theorem dJ1_charAt_3b067_3 : decode cJ1_charAt_3b067 3 = .ok (.invokestatic 9, 3) := by decide +kernel
theorem dJ1_charAt_3b067_6 : decode cJ1_charAt_3b067 6 = .ok (.aload_n 0, 1) := by decide +kernel
theorem dJ1_charAt_3b067_7 : decode cJ1_charAt_3b067 7 = .ok (.iload_n 1, 1) := by decide +kernel
theorem dJ1_charAt_3b067_8 : decode cJ1_charAt_3b067 8 = .ok (.baload, 1) := by decide +kernel
theorem dJ1_charAt_3b067_9 : decode cJ1_charAt_3b067 9 = .ok (.sipush 255, 3) := by decide +kernel
theorem dJ1_charAt_3b067_12 : decode cJ1_charAt_3b067 12 = .ok (.iand, 1) := by decide +kernel
theorem dJ1_charAt_3b067_13 : decode cJ1_charAt_3b067 13 = .ok (.i2c, 1) := by decide +kernel
theorem dJ1_charAt_3b067_14 : decode cJ1_charAt_3b067 14 = .ok (.ireturn, 1) := by decide +kernel
theorem dJ3_checkIndex_8e157_0 : decode cJ3_checkIndex_8e157 0 = .ok (.iload_n 0, 1) := by decide +kernel
theorem dJ3_checkIndex_8e157_1 : decode cJ3_checkIndex_8e157 1 = .ok (.ifCond .lt 8, 3) := by decide +kernel
theorem dJ3_checkIndex_8e157_4 : decode cJ3_checkIndex_8e157 4 = .ok (.iload_n 0, 1) := by decide +kernel
theorem dJ3_checkIndex_8e157_5 : decode cJ3_checkIndex_8e157 5 = .ok (.iload_n 1, 1) := by decide +kernel
theorem dJ3_checkIndex_8e157_6 : decode cJ3_checkIndex_8e157 6 = .ok (.if_icmp .lt 10, 3) := by decide +kernel
theorem dJ3_checkIndex_8e157_9 : decode cJ3_checkIndex_8e157 9 = .ok (.aload_n 2, 1) := by decide +kernel
theorem dJ3_checkIndex_8e157_10 : decode cJ3_checkIndex_8e157 10 = .ok (.iload_n 0, 1) := by decide +kernel
theorem dJ3_checkIndex_8e157_11 : decode cJ3_checkIndex_8e157 11 = .ok (.iload_n 1, 1) := by decide +kernel
theorem dJ3_checkIndex_8e157_12 : decode cJ3_checkIndex_8e157 12 = .ok (.invokestatic 95, 3) := by decide +kernel
theorem dJ3_checkIndex_8e157_15 : decode cJ3_checkIndex_8e157 15 = .ok (.athrow, 1) := by decide +kernel
theorem dJ3_checkIndex_8e157_16 : decode cJ3_checkIndex_8e157 16 = .ok (.iload_n 0, 1) := by decide +kernel
theorem dJ3_checkIndex_8e157_17 : decode cJ3_checkIndex_8e157 17 = .ok (.ireturn, 1) := by decide +kernel
abbrev M_J0_length_8abf5 : MD := (yJ0_length_8abf5, cJ0_length_8abf5, 1, (some .int), fun _ _ => True)
theorem mf_J0_length_8abf5 : MF M_J0_length_8abf5 0 := ⟨tt_of 732 (by decide +kernel) (by decide +kernel), tt_of 125 (by decide +kernel) (by decide +kernel), ⟨by decide, by decide, by decide +kernel⟩, by decide⟩
theorem mi_J0_length_8abf5 : Cond.instanceMethod M_J0_length_8abf5.1 ∈ TT := tt_of 730 (by decide +kernel) (by decide +kernel)
theorem me_J0_length_8abf5 : Cond.selects M_J0_length_8abf5.1.cls M_J0_length_8abf5.1 M_J0_length_8abf5.1 ∈ TT := tt_of 731 (by decide +kernel) (by decide +kernel)
abbrev M_J0_coder_7d493 : MD := (yJ0_coder_7d493, cJ0_coder_7d493, 1, (some .byte), fun _ _ => True)
theorem mf_J0_coder_7d493 : MF M_J0_coder_7d493 0 := ⟨tt_of 736 (by decide +kernel) (by decide +kernel), tt_of 125 (by decide +kernel) (by decide +kernel), ⟨by decide, by decide, by decide +kernel⟩, by decide⟩
theorem mi_J0_coder_7d493 : Cond.instanceMethod M_J0_coder_7d493.1 ∈ TT := tt_of 734 (by decide +kernel) (by decide +kernel)
theorem me_J0_coder_7d493 : Cond.selects M_J0_coder_7d493.1.cls M_J0_coder_7d493.1 M_J0_coder_7d493.1 ∈ TT := tt_of 735 (by decide +kernel) (by decide +kernel)
abbrev M_J0_isLatin1_aae02 : MD := (yJ0_isLatin1_aae02, cJ0_isLatin1_aae02, 1, (some .boolean), fun _ _ => True)
theorem mf_J0_isLatin1_aae02 : MF M_J0_isLatin1_aae02 0 := ⟨tt_of 746 (by decide +kernel) (by decide +kernel), tt_of 125 (by decide +kernel) (by decide +kernel), ⟨by decide, by decide, by decide +kernel⟩, by decide⟩
theorem mi_J0_isLatin1_aae02 : Cond.instanceMethod M_J0_isLatin1_aae02.1 ∈ TT := tt_of 744 (by decide +kernel) (by decide +kernel)
theorem me_J0_isLatin1_aae02 : Cond.selects M_J0_isLatin1_aae02.1.cls M_J0_isLatin1_aae02.1 M_J0_isLatin1_aae02.1 ∈ TT := tt_of 745 (by decide +kernel) (by decide +kernel)
abbrev M_J0_charAt_5068e : MD := (yJ0_charAt_5068e, cJ0_charAt_5068e, 2, (some .char), fun _ _ => True)
theorem mf_J0_charAt_5068e : MF M_J0_charAt_5068e 1 := ⟨tt_of 742 (by decide +kernel) (by decide +kernel), tt_of 125 (by decide +kernel) (by decide +kernel), ⟨by decide, by decide, by decide +kernel⟩, by decide⟩
theorem mi_J0_charAt_5068e : Cond.instanceMethod M_J0_charAt_5068e.1 ∈ TT := tt_of 740 (by decide +kernel) (by decide +kernel)
theorem me_J0_charAt_5068e : Cond.selects M_J0_charAt_5068e.1.cls M_J0_charAt_5068e.1 M_J0_charAt_5068e.1 ∈ TT := tt_of 741 (by decide +kernel) (by decide +kernel)
abbrev M_J1_charAt_3b067 : MD := (yJ1_charAt_3b067, cJ1_charAt_3b067, 2, (some .char), fun _ _ => True)
theorem mf_J1_charAt_3b067 : MF M_J1_charAt_3b067 2 := ⟨tt_of 749 (by decide +kernel) (by decide +kernel), tt_of 126 (by decide +kernel) (by decide +kernel), ⟨by decide, by decide, by decide +kernel⟩, by decide⟩
theorem ms_J1_charAt_3b067 : Cond.static M_J1_charAt_3b067.1 ∈ TT := tt_of 748 (by decide +kernel) (by decide +kernel)
abbrev M_J0_checkIndex_df160 : MD := (yJ0_checkIndex_df160, cJ0_checkIndex_df160, 2, none, fun _ _ => True)
theorem mf_J0_checkIndex_df160 : MF M_J0_checkIndex_df160 2 := ⟨tt_of 752 (by decide +kernel) (by decide +kernel), tt_of 125 (by decide +kernel) (by decide +kernel), ⟨by decide, by decide, by decide +kernel⟩, by decide⟩
theorem ms_J0_checkIndex_df160 : Cond.static M_J0_checkIndex_df160.1 ∈ TT := tt_of 751 (by decide +kernel) (by decide +kernel)
abbrev M_J3_checkIndex_8e157 : MD := (yJ3_checkIndex_8e157, cJ3_checkIndex_8e157, 3, (some .int), fun _ _ => True)
theorem mf_J3_checkIndex_8e157 : MF M_J3_checkIndex_8e157 3 := ⟨tt_of 757 (by decide +kernel) (by decide +kernel), tt_of 127 (by decide +kernel) (by decide +kernel), ⟨by decide, by decide, by decide +kernel⟩, by decide⟩
theorem ms_J3_checkIndex_8e157 : Cond.static M_J3_checkIndex_8e157.1 ∈ TT := tt_of 756 (by decide +kernel) (by decide +kernel)
theorem ml_J0_335 : Cond.methodLink RJ0 335 yJ0_coder_7d493 ∈ TT := tt_of 733 (by decide +kernel) (by decide +kernel)
theorem ml_J0_492 : Cond.methodLink RJ0 492 yJ0_isLatin1_aae02 ∈ TT := tt_of 743 (by decide +kernel) (by decide +kernel)
theorem ml_J0_495 : Cond.methodLink RJ0 495 yJ1_charAt_3b067 ∈ TT := tt_of 747 (by decide +kernel) (by decide +kernel)
theorem ml_J1_9 : Cond.methodLink RJ1 9 yJ0_checkIndex_df160 ∈ TT := tt_of 750 (by decide +kernel) (by decide +kernel)
theorem ml_J0_1059 : Cond.methodLink RJ0 1059 yJ3_checkIndex_8e157 ∈ TT := tt_of 755 (by decide +kernel) (by decide +kernel)
theorem jf_38 : Cond.fieldLink RJ0 38 "java/lang/String" "COMPACT_STRINGS" "Z" ∈ TT := tt_of 737 (by decide +kernel) (by decide +kernel)
theorem jf_1053 : Cond.fieldLink RJ0 1053 "jdk/internal/util/Preconditions" "SIOOBE_FORMATTER" "Ljava/util/function/BiFunction;" ∈ TT := tt_of 753 (by decide +kernel) (by decide +kernel)
theorem jf_9 : Cond.fieldLink RJ0 9 "java/lang/String" "value" "[B" ∈ TT := tt_of 1876 (by decide +kernel) (by decide +kernel)
theorem jf_15 : Cond.fieldLink RJ0 15 "java/lang/String" "coder" "B" ∈ TT := tt_of 1877 (by decide +kernel) (by decide +kernel)
theorem wp_ldcS {S : SH} {M : MD} {d cb sb : Nat} {Q : Option Value → AH → Prop} {pc : Nat} {L st : List Value} {h : AH} (hc : M.1.cls = RX9) (hd : decode M.2.1 pc = .ok (.ldc 46, 2)) (kn : WP S M d cb sb Q (pc + 2) L (.retAddr 0 :: st) h) : WP S M d cb sb Q pc L st h := by
  intro p l e R s m args below meth c G B mc ms C ls H locs cells slots hl hw hS hn
  obtain ⟨Cx, Cb, Cr, Cl, Ct, Co, Ck, Cn, Cf, Cm, CK, Cs, CB, CE⟩ := C
  have C : CX M d p R s m args meth c G B mc ms := ⟨Cx, Cb, Cr, Cl, Ct, Co, Ck, Cn, Cf, Cm, CK, Cs, CB, CE⟩
  have e0 : G.2.2.1 0 = B.2.2 0 := Cs.2.2.2.2.2.2.1
  have hr : vk_R RX9 46 strTx (B.2.2 0) s := by rw [← e0]; exact Cs.2.1
  exact va_ldcS Cx Cb (by rw [← hc]; exact Co) hr hd (kn p l e R s m args below meth c G B mc ms C ls H locs cells slots hl hw hS hn)
theorem wp_aT {S : SH} {M : MD} {d cb sb : Nat} {Q : Option Value → AH → Prop} {pc : Nat} {L st : List Value} {h : AH} {k : Fin 4} {z : Nat} (hd : decode M.2.1 pc = .ok (.aload_n k, 1)) (hv : L[(k : Nat)]? = some (.retAddr z)) (kn : WP S M d cb sb Q (pc + 1) L (.retAddr z :: st) h) : WP S M d cb sb Q pc L st h := by
  intro p l e R s m args below meth c G B mc ms C ls H locs cells slots hl hw hS hn
  obtain ⟨Cx, Cb, Cr, Cl, Ct, Co, Ck, Cn, Cf, Cm, CK, Cs, CB, CE⟩ := C
  have C : CX M d p R s m args meth c G B mc ms := ⟨Cx, Cb, Cr, Cl, Ct, Co, Ck, Cn, Cf, Cm, CK, Cs, CB, CE⟩
  exact lv_aload_n Cx Cb hd rfl (hl.get hv rfl) (kn p l e R s m args below meth c G B mc ms C ls H locs cells slots hl hw hS hn)
theorem wp_getVal {S : SH} {M : MD} {d cb sb : Nat} {Q : Option Value → AH → Prop} {pc : Nat} {L st : List Value} {h : AH} {index : Nat} (hlk : Cond.fieldLink M.1.cls index "java/lang/String" "value" "[B" ∈ TT) (hd : decode M.2.1 pc = .ok (.getfield index, 3)) (kn : WP S M d cb sb Q (pc + 3) L (.retAddr 1 :: st) h) : WP S M d cb sb Q pc L (.retAddr 0 :: st) h := by
  intro p l e R s m args below meth c G B mc ms C ls H locs cells slots hl hw hS hn
  obtain ⟨Cx, Cb, Cr, Cl, Ct, Co, Ck, Cn, Cf, Cm, CK, Cs, CB, CE⟩ := C
  have C : CX M d p R s m args meth c G B mc ms := ⟨Cx, Cb, Cr, Cl, Ct, Co, Ck, Cn, Cf, Cm, CK, Cs, CB, CE⟩
  have e0 : G.2.2.1 0 = B.2.2 0 := Cs.2.2.2.2.2.2.1
  have e1 : G.2.2.2 0 = B.2.2 1 := Cs.2.2.2.2.2.2.2.1
  have hE := (Cs.1.1 0 (by decide)).2.2.1
  rw [e0, e1] at hE
  exact vk_getf Cx Cb hE hS Co (Ct _ hlk) (fun _ z => z) hd (kn p l e R s m args below meth c G B mc ms C ls H locs cells slots hl hw hS hn)
theorem wp_getCod {S : SH} {M : MD} {d cb sb : Nat} {Q : Option Value → AH → Prop} {pc : Nat} {L st : List Value} {h : AH} {index : Nat} (hlk : Cond.fieldLink M.1.cls index "java/lang/String" "coder" "B" ∈ TT) (hd : decode M.2.1 pc = .ok (.getfield index, 3)) (kn : WP S M d cb sb Q (pc + 3) L (.int 0 :: st) h) : WP S M d cb sb Q pc L (.retAddr 0 :: st) h := by
  intro p l e R s m args below meth c G B mc ms C ls H locs cells slots hl hw hS hn
  obtain ⟨Cx, Cb, Cr, Cl, Ct, Co, Ck, Cn, Cf, Cm, CK, Cs, CB, CE⟩ := C
  have C : CX M d p R s m args meth c G B mc ms := ⟨Cx, Cb, Cr, Cl, Ct, Co, Ck, Cn, Cf, Cm, CK, Cs, CB, CE⟩
  have e0 : G.2.2.1 0 = B.2.2 0 := Cs.2.2.2.2.2.2.1
  have hE := (Cs.1.1 0 (by decide)).2.1
  rw [e0] at hE
  exact vk_getf Cx Cb hE hS Co (Ct _ hlk) (fun _ z => z) hd (kn p l e R s m args below meth c G B mc ms C ls H locs cells slots hl hw hS hn)
theorem wp_gstC {S : SH} {M : MD} {d cb sb : Nat} {Q : Option Value → AH → Prop} {pc : Nat} {L st : List Value} {h : AH} {index : Nat} (hlk : Cond.fieldLink M.1.cls index "java/lang/String" "COMPACT_STRINGS" "Z" ∈ TT) (hd : decode M.2.1 pc = .ok (.getstatic index, 3)) (kn : WP S M d cb sb Q (pc + 3) L (.int 1 :: st) h) : WP S M d cb sb Q pc L st h := by
  intro p l e R s m args below meth c G B mc ms C ls H locs cells slots hl hw hS hn
  obtain ⟨Cx, Cb, Cr, Cl, Ct, Co, Ck, Cn, Cf, Cm, CK, Cs, CB, CE⟩ := C
  have C : CX M d p R s m args meth c G B mc ms := ⟨Cx, Cb, Cr, Cl, Ct, Co, Ck, Cn, Cf, Cm, CK, Cs, CB, CE⟩
  exact va_gets Cx Cb Cs.2.2.1 hS Co (Ct _ hlk) (fun _ z => z) hd (kn p l e R s m args below meth c G B mc ms C ls H locs cells slots hl hw hS hn)
theorem wp_gstF {S : SH} {M : MD} {d cb sb : Nat} {Q : Option Value → AH → Prop} {pc : Nat} {L st : List Value} {h : AH} {index : Nat} (hlk : Cond.fieldLink M.1.cls index "jdk/internal/util/Preconditions" "SIOOBE_FORMATTER" "Ljava/util/function/BiFunction;" ∈ TT) (hd : decode M.2.1 pc = .ok (.getstatic index, 3)) (kn : WP S M d cb sb Q (pc + 3) L (.retAddr 2 :: st) h) (kn2 : WP S M d cb sb Q (pc + 3) L (.null :: st) h) : WP S M d cb sb Q pc L st h := by
  intro p l e R s m args below meth c G B mc ms C ls H locs cells slots hl hw hS hn
  obtain ⟨Cx, Cb, Cr, Cl, Ct, Co, Ck, Cn, Cf, Cm, CK, Cs, CB, CE⟩ := C
  have C : CX M d p R s m args meth c G B mc ms := ⟨Cx, Cb, Cr, Cl, Ct, Co, Ck, Cn, Cf, Cm, CK, Cs, CB, CE⟩
  rcases Cs.2.2.2.2.2.2.2.2 with hz | hz
  · exact va_gets Cx Cb hz hS Co (Ct _ hlk) (fun _ z => z) hd (kn p l e R s m args below meth c G B mc ms C ls H locs cells slots hl hw hS hn)
  · exact va_gets Cx Cb hz hS Co (Ct _ hlk) (fun _ z => z) hd (kn2 p l e R s m args below meth c G B mc ms C ls H locs cells slots hl hw hS hn)
theorem wp_tlen {S : SH} {M : MD} {d cb sb : Nat} {Q : Option Value → AH → Prop} {pc : Nat} {L st : List Value} {h : AH} (hd : decode M.2.1 pc = .ok (.arraylength, 1)) (kn : WP S M d cb sb Q (pc + 1) L (.int strLen :: st) h) : WP S M d cb sb Q pc L (.retAddr 1 :: st) h := by
  intro p l e R s m args below meth c G B mc ms C ls H locs cells slots hl hw hS hn
  obtain ⟨Cx, Cb, Cr, Cl, Ct, Co, Ck, Cn, Cf, Cm, CK, Cs, CB, CE⟩ := C
  have C : CX M d p R s m args meth c G B mc ms := ⟨Cx, Cb, Cr, Cl, Ct, Co, Ck, Cn, Cf, Cm, CK, Cs, CB, CE⟩
  have e1 : G.2.2.2 0 = B.2.2 1 := Cs.2.2.2.2.2.2.2.1
  have hT := (Cs.1.1 0 (by decide)).2.2.2
  rw [e1] at hT
  simp only [List.getD_cons_zero] at hT
  have hlen : Int32.ofNat strBy.length = strLen := by rw [strBy_len]; rfl
  generalize (fun j => Value.int (strBy.getD j 0)) = ff at hT
  generalize strBy.length = nn at hT hlen
  exact va_tlen Cx Cb hT hS (v := strLen) hlen hd (kn p l e R s m args below meth c G B mc ms C ls H locs cells slots hl hw hS hn)
theorem wp_tb {S : SH} {M : MD} {d cb sb : Nat} {Q : Option Value → AH → Prop} {pc : Nat} {L st : List Value} {h : AH} {i : Int32} (hin : vp_in i 145) (hd : decode M.2.1 pc = .ok (.baload, 1)) (kn : WP S M d cb sb Q (pc + 1) L (.int (strBy.getD i.toNatClampNeg 0) :: st) h) : WP S M d cb sb Q pc L (.int i :: .retAddr 1 :: st) h := by
  intro p l e R s m args below meth c G B mc ms C ls H locs cells slots hl hw hS hn
  obtain ⟨Cx, Cb, Cr, Cl, Ct, Co, Ck, Cn, Cf, Cm, CK, Cs, CB, CE⟩ := C
  have C : CX M d p R s m args meth c G B mc ms := ⟨Cx, Cb, Cr, Cl, Ct, Co, Ck, Cn, Cf, Cm, CK, Cs, CB, CE⟩
  have e1 : G.2.2.2 0 = B.2.2 1 := Cs.2.2.2.2.2.2.2.1
  have hT := (Cs.1.1 0 (by decide)).2.2.2
  rw [e1] at hT
  simp only [List.getD_cons_zero] at hT
  have hff : ∃ ff : Nat → Value, (fun j => Value.int (strBy.getD j 0)) = ff ∧ ff i.toNatClampNeg = .int (strBy.getD i.toNatClampNeg 0) := ⟨_, rfl, rfl⟩
  obtain ⟨ff, e2, e3⟩ := hff
  rw [e2, strBy_len] at hT
  generalize strBy.getD i.toNatClampNeg 0 = vv at e3 kn
  exact va_tb Cx Cb hT hS hin e3 hd (kn p l e R s m args below meth c G B mc ms C ls H locs cells slots hl hw hS hn)
theorem wp_i2c {S : SH} {M : MD} {d cb sb : Nat} {Q : Option Value → AH → Prop} {pc : Nat} {L st : List Value} {h : AH} {x : Int32} (hd : decode M.2.1 pc = .ok (.i2c, 1)) (kn : WP S M d cb sb Q (pc + 1) L (.int ((x.toUInt32 % 65536).toInt32) :: st) h) : WP S M d cb sb Q pc L (.int x :: st) h := by
  intro p l e R s m args below meth c G B mc ms C ls H locs cells slots hl hw hS hn
  obtain ⟨Cx, Cb, Cr, Cl, Ct, Co, Ck, Cn, Cf, Cm, CK, Cs, CB, CE⟩ := C
  have C : CX M d p R s m args meth c G B mc ms := ⟨Cx, Cb, Cr, Cl, Ct, Co, Ck, Cn, Cf, Cm, CK, Cs, CB, CE⟩
  exact lv_i2c Cx Cb hd rfl (kn p l e R s m args below meth c G B mc ms C ls H locs cells slots hl hw hS hn)
theorem wp_callT0 {S : SH} {M : MD} {d cb sb : Nat} {Q : Option Value → AH → Prop} {pc : Nat} {L rest : List Value} {h : AH} {N : MD} {index : Nat} (hM : MF N 0) (hcl : N.1.cls = "java/lang/String") (hi : Cond.instanceMethod N.1 ∈ TT) (hse : Cond.selects N.1.cls N.1 N.1 ∈ TT) (hlk : Cond.methodLink M.1.cls index N.1 ∈ TT) (hd : decode M.2.1 pc = .ok (.invokevirtual index, 3)) (hr : (rest.map fun v => v.category).sum ≤ 8) (hcp : CP S N d 0 0 (.retAddr 0 :: []) h (fun r h' => WP S M (d + 1) cb sb Q (pc + 3) L (r.toList ++ rest) h')) : WP S M (d + 1) cb sb Q pc L (.retAddr 0 :: rest) h := by
  intro p l e R s m args below meth c G B mc ms C ls H locs cells slots hl hw hS hn
  obtain ⟨Cx, Cb, Cr, Cl, Ct, Co, Ck, Cn, Cf, Cm, CK, Cs, CB, CE⟩ := C
  have C : CX M (d + 1) p R s m args meth c G B mc ms := ⟨Cx, Cb, Cr, Cl, Ct, Co, Ck, Cn, Cf, Cm, CK, Cs, CB, CE⟩
  have hr2 := catsum B rest
  have e0 : G.2.2.1 0 = B.2.2 0 := Cs.2.2.2.2.2.2.1
  have PK : ∀ U : State, U.heap = H → s.WarmedH U.vm → PC S G B (.retAddr 0 :: []) h (Value.ref (B.2.2 0) :: [].map (rn B)).toArray U := fun U hU hW => ⟨rfl, by rw [hU]; exact hw, CK.moved hW.alike, Cs.to hW (fun a q1 q2 => by rw [hU]; exact hS.2.1 a q1 q2)⟩
  have hv := vk_recv Cs.1 (i := 0) (by decide) hS
  rw [e0, ← hcl] at hv
  refine back_to C hl hS (mcN := 0) (msN := 0) (cb := cb) (sb := sb) ⟨by omega, by omega⟩ (va_runV (As := [].map (rn B)) (b := B.2.2 0) ⟨Cx, Cb, Cl, Co, Ct⟩ (hcp l G B) ⟨callB_of 0 Ct (goodWS hM) rfl rfl rfl (Ct _ hM.2.1) (Ct _ hlk) hM.2.2.1 ⟨by have := hM.2.2.2; show d + 1 ≤ R.frames; omega, by have := hM.2.2.2; show 8 + (N.2.2.1 + 11) + 64 * d ≤ R.locals; omega⟩, Ct _ hi, Ct _ hse⟩ ⟨blindPC, hv, PK⟩ rfl rfl hl.1 rfl (lv_room (Nat.le_trans hr2 hr)) hd ⟨by omega, by omega⟩)
theorem wp_callT1 {S : SH} {M : MD} {d cb sb : Nat} {Q : Option Value → AH → Prop} {pc : Nat} {L rest : List Value} {h : AH} {N : MD} {index : Nat} {a0 : Value} (hM : MF N 1) (hcl : N.1.cls = "java/lang/String") (hi : Cond.instanceMethod N.1 ∈ TT) (hse : Cond.selects N.1.cls N.1 N.1 ∈ TT) (hlk : Cond.methodLink M.1.cls index N.1 ∈ TT) (hd : decode M.2.1 pc = .ok (.invokevirtual index, 3)) (hr : (rest.map fun v => v.category).sum ≤ 8) (hcp : CP S N d 0 0 (.retAddr 0 :: [a0]) h (fun r h' => WP S M (d + 1) cb sb Q (pc + 3) L (r.toList ++ rest) h')) : WP S M (d + 1) cb sb Q pc L (a0 :: .retAddr 0 :: rest) h := by
  intro p l e R s m args below meth c G B mc ms C ls H locs cells slots hl hw hS hn
  obtain ⟨Cx, Cb, Cr, Cl, Ct, Co, Ck, Cn, Cf, Cm, CK, Cs, CB, CE⟩ := C
  have C : CX M (d + 1) p R s m args meth c G B mc ms := ⟨Cx, Cb, Cr, Cl, Ct, Co, Ck, Cn, Cf, Cm, CK, Cs, CB, CE⟩
  have hr2 := catsum B rest
  have e0 : G.2.2.1 0 = B.2.2 0 := Cs.2.2.2.2.2.2.1
  have PK : ∀ U : State, U.heap = H → s.WarmedH U.vm → PC S G B (.retAddr 0 :: [a0]) h (Value.ref (B.2.2 0) :: [a0].map (rn B)).toArray U := fun U hU hW => ⟨rfl, by rw [hU]; exact hw, CK.moved hW.alike, Cs.to hW (fun a q1 q2 => by rw [hU]; exact hS.2.1 a q1 q2)⟩
  have hv := vk_recv Cs.1 (i := 0) (by decide) hS
  rw [e0, ← hcl] at hv
  refine back_to C hl hS (mcN := 0) (msN := 0) (cb := cb) (sb := sb) ⟨by omega, by omega⟩ (va_runV (As := [a0].map (rn B)) (b := B.2.2 0) ⟨Cx, Cb, Cl, Co, Ct⟩ (hcp l G B) ⟨callB_of 1 Ct (goodWS hM) rfl rfl rfl (Ct _ hM.2.1) (Ct _ hlk) hM.2.2.1 ⟨by have := hM.2.2.2; show d + 1 ≤ R.frames; omega, by have := hM.2.2.2; show 8 + (N.2.2.1 + 11) + 64 * d ≤ R.locals; omega⟩, Ct _ hi, Ct _ hse⟩ ⟨blindPC, hv, PK⟩ rfl rfl hl.1 rfl (lv_room (Nat.le_trans hr2 hr)) hd ⟨by omega, by omega⟩)
set_option maxRecDepth 20000 in
theorem c_J0_coder_7d493 {S : SH} {d : Nat} {K : Option Value → AH → Prop} (hd : 0 ≤ d)  {h : AH} (k : K (some (.int 0)) h) : CP S M_J0_coder_7d493 d 0 0 [.retAddr 0] h K := by
  refine cp_of (by decide) (fun _ _ => trivial) (fun _ => Nat.le_of_ble_eq_true rfl) ?_
  refine wp_gstC jf_38 dJ0_coder_7d493_0 ?_
  refine wp_if_eq 13 dJ0_coder_7d493_3 (by decide) (fun c => absurd c (by decide)) (fun _ => ?_)
  refine wp_aT dJ0_coder_7d493_6 rfl ?_
  refine wp_getCod jf_15 dJ0_coder_7d493_7 ?_
  refine wp_goto 14 dJ0_coder_7d493_10 (by decide) ?_
  exact wp_iret rfl (by rfl) dJ0_coder_7d493_14 k
set_option maxRecDepth 20000 in
theorem c_J0_isLatin1_aae02 {S : SH} {d : Nat} {K : Option Value → AH → Prop} (hd : 0 ≤ d)  {h : AH} (k : K (some (.int 1)) h) : CP S M_J0_isLatin1_aae02 d 0 0 [.retAddr 0] h K := by
  refine cp_of (by decide) (fun _ _ => trivial) (fun _ => Nat.le_of_ble_eq_true rfl) ?_
  refine wp_gstC jf_38 dJ0_isLatin1_aae02_0 ?_
  refine wp_if_eq 17 dJ0_isLatin1_aae02_3 (by decide) (fun c => absurd c (by decide)) (fun _ => ?_)
  refine wp_aT dJ0_isLatin1_aae02_6 rfl ?_
  refine wp_getCod jf_15 dJ0_isLatin1_aae02_7 ?_
  refine wp_if_ne 17 dJ0_isLatin1_aae02_10 (by decide) (fun c => absurd rfl c) (fun _ => ?_)
  refine wp_iconst dJ0_isLatin1_aae02_13 ic_1 ?_
  refine wp_goto 18 dJ0_isLatin1_aae02_14 (by decide) ?_
  exact wp_iret rfl (by rfl) dJ0_isLatin1_aae02_18 k
set_option maxRecDepth 20000 in
theorem c_J0_length_8abf5 {S : SH} {d : Nat} {K : Option Value → AH → Prop} (hd : 1 ≤ d)  {h : AH} (k : K (some (.int strLen)) h) : CP S M_J0_length_8abf5 d 0 0 [.retAddr 0] h K := by
  refine cp_of (by decide) (fun _ _ => trivial) (fun _ => Nat.le_of_ble_eq_true rfl) ?_
  obtain ⟨d, rfl, he⟩ := dp (L := 0) hd
  refine wp_aT dJ0_length_8abf5_0 rfl ?_
  refine wp_getVal jf_9 dJ0_length_8abf5_1 ?_
  refine wp_tlen dJ0_length_8abf5_4 ?_
  refine wp_aT dJ0_length_8abf5_5 rfl ?_
  refine wp_callT0 (N := M_J0_coder_7d493) mf_J0_coder_7d493 rfl mi_J0_coder_7d493 me_J0_coder_7d493 ml_J0_335 dJ0_length_8abf5_6 (by exact Nat.le_of_ble_eq_true rfl) (c_J0_coder_7d493 he ?_)
  refine wp_ishr dJ0_length_8abf5_9 ?_
  rw [sb_shr0]
  exact wp_iret rfl (by rfl) dJ0_length_8abf5_10 k
set_option maxRecDepth 20000 in
theorem c_J3_checkIndex_8e157 {S : SH} {d : Nat} {K : Option Value → AH → Prop} (hd : 0 ≤ d) {i n : Int32} (h1 : ¬ i < 0) (h2 : i < n) {h : AH} (k : K (some (.int i)) h) : CP S M_J3_checkIndex_8e157 d 0 0 [.int i, .int n, .retAddr 2] h K := by
  refine cp_of (by decide) (fun _ _ => trivial) (fun _ => Nat.le_of_ble_eq_true rfl) ?_
  refine wp_iload_n dJ3_checkIndex_8e157_0 rfl ?_
  refine wp_if_lt 9 dJ3_checkIndex_8e157_1 (by decide) (fun c => absurd c h1) (fun _ => ?_)
  refine wp_iload_n dJ3_checkIndex_8e157_4 rfl ?_
  refine wp_iload_n dJ3_checkIndex_8e157_5 rfl ?_
  refine wp_icmp_lt 16 dJ3_checkIndex_8e157_6 (by decide) (fun _ => ?_) (fun c => absurd h2 c)
  refine wp_iload_n dJ3_checkIndex_8e157_16 rfl ?_
  exact wp_iret rfl (by rfl) dJ3_checkIndex_8e157_17 k
set_option maxRecDepth 20000 in
theorem c_J3_checkIndexN {S : SH} {d : Nat} {K : Option Value → AH → Prop} (hd : 0 ≤ d) {i n : Int32} (h1 : ¬ i < 0) (h2 : i < n) {h : AH} (k : K (some (.int i)) h) : CP S M_J3_checkIndex_8e157 d 0 0 [.int i, .int n, .null] h K := by
  refine cp_of (by decide) (fun _ _ => trivial) (fun _ => Nat.le_of_ble_eq_true rfl) ?_
  refine wp_iload_n dJ3_checkIndex_8e157_0 rfl ?_
  refine wp_if_lt 9 dJ3_checkIndex_8e157_1 (by decide) (fun c => absurd c h1) (fun _ => ?_)
  refine wp_iload_n dJ3_checkIndex_8e157_4 rfl ?_
  refine wp_iload_n dJ3_checkIndex_8e157_5 rfl ?_
  refine wp_icmp_lt 16 dJ3_checkIndex_8e157_6 (by decide) (fun _ => ?_) (fun c => absurd h2 c)
  refine wp_iload_n dJ3_checkIndex_8e157_16 rfl ?_
  exact wp_iret rfl (by rfl) dJ3_checkIndex_8e157_17 k
set_option maxRecDepth 20000 in
theorem c_J0_checkIndex_df160 {S : SH} {d : Nat} {K : Option Value → AH → Prop} (hd : 1 ≤ d) {i n : Int32} (h1 : ¬ i < 0) (h2 : i < n) {h : AH} (k : K none h) : CP S M_J0_checkIndex_df160 d 0 0 [.int i, .int n] h K := by
  refine cp_of (by decide) (fun _ _ => trivial) (fun _ => Nat.le_of_ble_eq_true rfl) ?_
  obtain ⟨d, rfl, he⟩ := dp (L := 0) hd
  refine wp_iload_n dJ0_checkIndex_df160_0 rfl ?_
  refine wp_iload_n dJ0_checkIndex_df160_1 rfl ?_
  refine wp_gstF jf_1053 dJ0_checkIndex_df160_2 ?_ ?_
  · refine wp_callS3 (N := M_J3_checkIndex_8e157) mf_J3_checkIndex_8e157 ms_J3_checkIndex_8e157 ml_J0_1059 dJ0_checkIndex_df160_5 (by exact Nat.le_of_ble_eq_true rfl) (c_J3_checkIndex_8e157 he h1 h2 ?_)
    refine wp_popI dJ0_checkIndex_df160_8 ?_
    exact wp_vret rfl dJ0_checkIndex_df160_9 k
  · refine wp_callS3 (N := M_J3_checkIndex_8e157) mf_J3_checkIndex_8e157 ms_J3_checkIndex_8e157 ml_J0_1059 dJ0_checkIndex_df160_5 (by exact Nat.le_of_ble_eq_true rfl) (c_J3_checkIndexN he h1 h2 ?_)
    refine wp_popI dJ0_checkIndex_df160_8 ?_
    exact wp_vret rfl dJ0_checkIndex_df160_9 k
set_option maxRecDepth 20000 in
theorem c_J1_charAt_3b067 {S : SH} {d : Nat} {K : Option Value → AH → Prop} (hd : 2 ≤ d) {i : Int32} (h1 : vp_in i 145) {h : AH} (k : K (some (.int (strBy.getD i.toNatClampNeg 0))) h) : CP S M_J1_charAt_3b067 d 0 0 [.retAddr 1, .int i] h K := by
  refine cp_of (by decide) (fun _ _ => trivial) (fun _ => Nat.le_of_ble_eq_true rfl) ?_
  obtain ⟨d, rfl, he⟩ := dp (L := 1) hd
  obtain ⟨j, hj, rfl⟩ := vp_in_of h1 (by decide)
  have hcl := nI_clamp (n := j) (by omega)
  rw [hcl] at k
  refine wp_iload_n dJ1_charAt_3b067_0 rfl ?_
  refine wp_aT dJ1_charAt_3b067_1 rfl ?_
  refine wp_tlen dJ1_charAt_3b067_2 ?_
  refine wp_callS2 (N := M_J0_checkIndex_df160) mf_J0_checkIndex_df160 ms_J0_checkIndex_df160 ml_J1_9 dJ1_charAt_3b067_3 (by exact Nat.le_of_ble_eq_true rfl) (c_J0_checkIndex_df160 he (nI_pos (by omega)) (nI_lt hj (by decide)) ?_)
  refine wp_aT dJ1_charAt_3b067_6 rfl ?_
  refine wp_iload_n dJ1_charAt_3b067_7 rfl ?_
  refine wp_tb h1 dJ1_charAt_3b067_8 ?_
  rw [hcl]
  refine wp_sipush dJ1_charAt_3b067_9 sp_255x ?_
  refine wp_iand dJ1_charAt_3b067_12 ?_
  refine wp_i2c dJ1_charAt_3b067_13 ?_
  have hm : strBy.getD j 0 ∈ strBy := by
    rw [List.getD_eq_getElem?_getD, List.getElem?_eq_getElem (by rw [strBy_len]; exact hj)]
    exact List.getElem_mem _
  rw [(strBy_ok _ hm).1]
  exact wp_iret rfl (strBy_ok _ hm).2 dJ1_charAt_3b067_14 k
set_option maxRecDepth 20000 in
theorem c_J0_charAt_5068e {S : SH} {d : Nat} {K : Option Value → AH → Prop} (hd : 3 ≤ d) {i : Int32} (h1 : vp_in i 145) {h : AH} (k : K (some (.int (strBy.getD i.toNatClampNeg 0))) h) : CP S M_J0_charAt_5068e d 0 0 [.retAddr 0, .int i] h K := by
  refine cp_of (by decide) (fun _ _ => trivial) (fun _ => Nat.le_of_ble_eq_true rfl) ?_
  obtain ⟨d, rfl, he⟩ := dp (L := 2) hd
  have h1c := h1
  obtain ⟨j, hj, rfl⟩ := vp_in_of h1 (by decide)
  have hcl := nI_clamp (n := j) (by omega)
  have hm : strBy.getD j 0 ∈ strBy := by
    rw [List.getD_eq_getElem?_getD, List.getElem?_eq_getElem (by rw [strBy_len]; exact hj)]
    exact List.getElem_mem _
  rw [hcl] at k
  refine wp_aT dJ0_charAt_5068e_0 rfl ?_
  refine wp_callT0 (N := M_J0_isLatin1_aae02) mf_J0_isLatin1_aae02 rfl mi_J0_isLatin1_aae02 me_J0_isLatin1_aae02 ml_J0_492 dJ0_charAt_5068e_1 (by exact Nat.le_of_ble_eq_true rfl) (c_J0_isLatin1_aae02 (Nat.zero_le _) ?_)
  refine wp_if_eq 16 dJ0_charAt_5068e_4 (by decide) (fun c => absurd c (by decide)) (fun _ => ?_)
  refine wp_aT dJ0_charAt_5068e_7 rfl ?_
  refine wp_getVal jf_9 dJ0_charAt_5068e_8 ?_
  refine wp_iload_n dJ0_charAt_5068e_11 rfl ?_
  refine wp_callS2 (N := M_J1_charAt_3b067) mf_J1_charAt_3b067 ms_J1_charAt_3b067 ml_J0_495 dJ0_charAt_5068e_12 (by exact Nat.le_of_ble_eq_true rfl) (c_J1_charAt_3b067 he h1c ?_)
  rw [hcl]
  exact wp_iret rfl (strBy_ok _ hm).2 dJ0_charAt_5068e_15 k
theorem wp_strlen {S : SH} {M : MD} {d cb sb : Nat} {Q : Option Value → AH → Prop} {pc : Nat} {L rest : List Value} {h : AH} (he : 1 ≤ d) (hc : M.1.cls = RX9) (hr : (rest.map fun v => v.category).sum ≤ 8) (hd : decode M.2.1 pc = .ok (.invokevirtual 48, 3)) (kn : WP S M (d + 1) cb sb Q (pc + 3) L (.int strLen :: rest) h) : WP S M (d + 1) cb sb Q pc L (.retAddr 0 :: rest) h := wp_callT0 (N := M_J0_length_8abf5) mf_J0_length_8abf5 rfl mi_J0_length_8abf5 me_J0_length_8abf5 (by rw [hc]; exact ml_X9_48) hd hr (c_J0_length_8abf5 he kn)
theorem wq_charAt {S : SH} {M : MD} {d cb sb : Nat} {Q : Option Value → AH → Prop} {pc : Nat} {L rest : List Value} {h : AH} {i x : Int32} (he : 3 ≤ d) (hc : M.1.cls = RX9) (hr : (rest.map fun v => v.category).sum ≤ 8) (hd : decode M.2.1 pc = .ok (.invokevirtual 54, 3)) (hv : strAt i = some x) (kn : WP S M (d + 1) cb sb Q (pc + 3) L (.int x :: rest) h) : WP S M (d + 1) cb sb Q pc L (.int i :: .retAddr 0 :: rest) h := by
  obtain ⟨h1, rfl⟩ := if_none hv
  exact wp_callT1 (N := M_J0_charAt_5068e) mf_J0_charAt_5068e rfl mi_J0_charAt_5068e me_J0_charAt_5068e (by rw [hc]; exact ml_X9_54) hd hr (c_J0_charAt_5068e he h1 kn)
