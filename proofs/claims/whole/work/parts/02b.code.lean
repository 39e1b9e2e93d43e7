theorem dX3_orderWord_79 : decode cX3_orderWord 79 = .ok (.if_icmp .eq 31, 3) := by decide +kernel
theorem dX3_orderWord_82 : decode cX3_orderWord 82 = .ok (.iload_n 1, 1) := by decide +kernel
theorem dX3_orderWord_83 : decode cX3_orderWord 83 = .ok (.sipush 277, 3) := by decide +kernel
theorem dX3_orderWord_86 : decode cX3_orderWord 86 = .ok (.if_icmp .eq 24, 3) := by decide +kernel
theorem dX3_orderWord_89 : decode cX3_orderWord 89 = .ok (.iload_n 1, 1) := by decide +kernel
theorem dX3_orderWord_90 : decode cX3_orderWord 90 = .ok (.sipush 279, 3) := by decide +kernel
theorem dX3_orderWord_93 : decode cX3_orderWord 93 = .ok (.if_icmp .eq 17, 3) := by decide +kernel
theorem dX3_orderWord_96 : decode cX3_orderWord 96 = .ok (.iload_n 1, 1) := by decide +kernel
theorem dX3_orderWord_97 : decode cX3_orderWord 97 = .ok (.sipush 280, 3) := by decide +kernel
theorem dX3_orderWord_100 : decode cX3_orderWord 100 = .ok (.if_icmp .eq 10, 3) := by decide +kernel
theorem dX3_orderWord_103 : decode cX3_orderWord 103 = .ok (.iload_n 1, 1) := by decide +kernel
theorem dX3_orderWord_104 : decode cX3_orderWord 104 = .ok (.sipush 281, 3) := by decide +kernel
theorem dX3_orderWord_107 : decode cX3_orderWord 107 = .ok (.if_icmp .ne 18, 3) := by decide +kernel
theorem dX3_orderWord_110 : decode cX3_orderWord 110 = .ok (.aload_n 0, 1) := by decide +kernel
theorem dX3_orderWord_111 : decode cX3_orderWord 111 = .ok (.sipush 283, 3) := by decide +kernel
theorem dX3_orderWord_114 : decode cX3_orderWord 114 = .ok (.iload_n 1, 1) := by decide +kernel
theorem dX3_orderWord_115 : decode cX3_orderWord 115 = .ok (.sipush 270, 3) := by decide +kernel
theorem dX3_orderWord_118 : decode cX3_orderWord 118 = .ok (.isub, 1) := by decide +kernel
theorem dX3_orderWord_119 : decode cX3_orderWord 119 = .ok (.invokevirtual 108, 3) := by decide +kernel
theorem dX3_orderWord_122 : decode cX3_orderWord 122 = .ok (.goto 5, 3) := by decide +kernel
theorem dX3_orderWord_125 : decode cX3_orderWord 125 = .ok (.iconst 0, 1) := by decide +kernel
theorem dX3_orderWord_126 : decode cX3_orderWord 126 = .ok (.ireturn, 1) := by decide +kernel
theorem dX3_orderWord_127 : decode cX3_orderWord 127 = .ok (.aload_n 0, 1) := by decide +kernel
theorem dX3_orderWord_128 : decode cX3_orderWord 128 = .ok (.invokevirtual 62, 3) := by decide +kernel
theorem dX3_orderWord_131 : decode cX3_orderWord 131 = .ok (.iconst 1, 1) := by decide +kernel
theorem dX3_orderWord_132 : decode cX3_orderWord 132 = .ok (.ireturn, 1) := by decide +kernel
theorem dX4_init_0 : decode cX4_init 0 = .ok (.aload_n 0, 1) := by decide +kernel
theorem dX4_init_1 : decode cX4_init 1 = .ok (.invokespecial 3, 3) := by decide +kernel
theorem dX4_init_4 : decode cX4_init 4 = .ok (.aload_n 0, 1) := by decide +kernel
theorem dX4_init_5 : decode cX4_init 5 = .ok (.bipush 25, 2) := by decide +kernel
theorem dX4_init_7 : decode cX4_init 7 = .ok (.newarray .int, 2) := by decide +kernel
theorem dX4_init_9 : decode cX4_init 9 = .ok (.putfield 9, 3) := by decide +kernel
theorem dX4_init_12 : decode cX4_init 12 = .ok (.aload_n 0, 1) := by decide +kernel
theorem dX4_init_13 : decode cX4_init 13 = .ok (.bipush 52, 2) := by decide +kernel
theorem dX4_init_15 : decode cX4_init 15 = .ok (.newarray .long, 2) := by decide +kernel
theorem dX4_init_17 : decode cX4_init 17 = .ok (.putfield 15, 3) := by decide +kernel
theorem dX4_init_20 : decode cX4_init 20 = .ok (.return_, 1) := by decide +kernel
theorem dX4_holds_0 : decode cX4_holds 0 = .ok (.aload_n 1, 1) := by decide +kernel
theorem dX4_holds_1 : decode cX4_holds 1 = .ok (.getfield 19, 3) := by decide +kernel
theorem dX4_holds_4 : decode cX4_holds 4 = .ok (.iconst 1, 1) := by decide +kernel
theorem dX4_holds_5 : decode cX4_holds 5 = .ok (.isub, 1) := by decide +kernel
theorem dX4_holds_6 : decode cX4_holds 6 = .ok (.istore_n 3, 1) := by decide +kernel
theorem dX4_holds_7 : decode cX4_holds 7 = .ok (.iload_n 3, 1) := by decide +kernel
theorem dX4_holds_8 : decode cX4_holds 8 = .ok (.ifCond .lt 97, 3) := by decide +kernel
theorem dX4_holds_11 : decode cX4_holds 11 = .ok (.aload_n 1, 1) := by decide +kernel
theorem dX4_holds_12 : decode cX4_holds 12 = .ok (.iload_n 3, 1) := by decide +kernel
theorem dX4_holds_13 : decode cX4_holds 13 = .ok (.iconst 0, 1) := by decide +kernel
theorem dX4_holds_14 : decode cX4_holds 14 = .ok (.invokevirtual 25, 3) := by decide +kernel
theorem dX4_holds_17 : decode cX4_holds 17 = .ok (.iload_n 2, 1) := by decide +kernel
theorem dX4_holds_18 : decode cX4_holds 18 = .ok (.if_icmp .ne 81, 3) := by decide +kernel
theorem dX4_holds_21 : decode cX4_holds 21 = .ok (.aload_n 1, 1) := by decide +kernel
theorem dX4_holds_22 : decode cX4_holds 22 = .ok (.iload_n 3, 1) := by decide +kernel
theorem dX4_holds_23 : decode cX4_holds 23 = .ok (.iconst 4, 1) := by decide +kernel
theorem dX4_holds_24 : decode cX4_holds 24 = .ok (.invokevirtual 25, 3) := by decide +kernel
theorem dX4_holds_27 : decode cX4_holds 27 = .ok (.istore 4, 2) := by decide +kernel
theorem dX4_holds_29 : decode cX4_holds 29 = .ok (.aload_n 1, 1) := by decide +kernel
theorem dX4_holds_30 : decode cX4_holds 30 = .ok (.iload_n 3, 1) := by decide +kernel
theorem dX4_holds_31 : decode cX4_holds 31 = .ok (.iconst 5, 1) := by decide +kernel
theorem dX4_holds_32 : decode cX4_holds 32 = .ok (.invokevirtual 25, 3) := by decide +kernel
theorem dX4_holds_35 : decode cX4_holds 35 = .ok (.istore 5, 2) := by decide +kernel
theorem dX4_holds_37 : decode cX4_holds 37 = .ok (.iload 4, 2) := by decide +kernel
theorem dX4_holds_39 : decode cX4_holds 39 = .ok (.iload 5, 2) := by decide +kernel
theorem dX4_holds_41 : decode cX4_holds 41 = .ok (.if_icmp .ge 25, 3) := by decide +kernel
theorem dX4_holds_44 : decode cX4_holds 44 = .ok (.aload_n 0, 1) := by decide +kernel
theorem dX4_holds_45 : decode cX4_holds 45 = .ok (.aload_n 1, 1) := by decide +kernel
theorem dX4_holds_46 : decode cX4_holds 46 = .ok (.getfield 29, 3) := by decide +kernel
theorem dX4_holds_49 : decode cX4_holds 49 = .ok (.iload 4, 2) := by decide +kernel
theorem dX4_holds_51 : decode cX4_holds 51 = .ok (.iload 5, 2) := by decide +kernel
theorem dX4_holds_53 : decode cX4_holds 53 = .ok (.invokevirtual 32, 3) := by decide +kernel
theorem dX4_holds_56 : decode cX4_holds 56 = .ok (.ifCond .eq 14, 3) := by decide +kernel
theorem dX4_holds_59 : decode cX4_holds 59 = .ok (.aload_n 0, 1) := by decide +kernel
theorem dX4_holds_60 : decode cX4_holds 60 = .ok (.getfield 36, 3) := by decide +kernel
theorem dX4_holds_63 : decode cX4_holds 63 = .ok (.ifCond .eq 7, 3) := by decide +kernel
theorem dX4_holds_66 : decode cX4_holds 66 = .ok (.iconst 1, 1) := by decide +kernel
theorem dX4_holds_67 : decode cX4_holds 67 = .ok (.goto 4, 3) := by decide +kernel
theorem dX4_holds_70 : decode cX4_holds 70 = .ok (.iconst 0, 1) := by decide +kernel
theorem dX4_holds_71 : decode cX4_holds 71 = .ok (.istore 6, 2) := by decide +kernel
theorem dX4_holds_73 : decode cX4_holds 73 = .ok (.iload 6, 2) := by decide +kernel
theorem dX4_holds_75 : decode cX4_holds 75 = .ok (.ifCond .eq 24, 3) := by decide +kernel
theorem dX4_holds_78 : decode cX4_holds 78 = .ok (.aload_n 0, 1) := by decide +kernel
theorem dX4_holds_79 : decode cX4_holds 79 = .ok (.aload_n 1, 1) := by decide +kernel
theorem dX4_holds_80 : decode cX4_holds 80 = .ok (.getfield 29, 3) := by decide +kernel
theorem dX4_holds_83 : decode cX4_holds 83 = .ok (.aload_n 1, 1) := by decide +kernel
theorem dX4_holds_84 : decode cX4_holds 84 = .ok (.iload_n 3, 1) := by decide +kernel
theorem dX4_holds_85 : decode cX4_holds 85 = .ok (.iconst 2, 1) := by decide +kernel
theorem dX4_holds_86 : decode cX4_holds 86 = .ok (.invokevirtual 25, 3) := by decide +kernel
theorem dX4_holds_89 : decode cX4_holds 89 = .ok (.iload 4, 2) := by decide +kernel
theorem dX4_holds_91 : decode cX4_holds 91 = .ok (.invokevirtual 32, 3) := by decide +kernel
theorem dX4_holds_94 : decode cX4_holds 94 = .ok (.ifCond .eq 5, 3) := by decide +kernel
theorem dX4_holds_97 : decode cX4_holds 97 = .ok (.iconst 1, 1) := by decide +kernel
theorem dX4_holds_98 : decode cX4_holds 98 = .ok (.ireturn, 1) := by decide +kernel
theorem dX4_holds_99 : decode cX4_holds 99 = .ok (.iinc 3 (-1), 3) := by decide +kernel
theorem dX4_holds_102 : decode cX4_holds 102 = .ok (.goto (-95), 3) := by decide +kernel
theorem dX4_holds_105 : decode cX4_holds 105 = .ok (.iconst 0, 1) := by decide +kernel
theorem dX4_holds_106 : decode cX4_holds 106 = .ok (.ireturn, 1) := by decide +kernel
theorem dX4_reckon_0 : decode cX4_reckon 0 = .ok (.iconst 0, 1) := by decide +kernel
theorem dX4_reckon_1 : decode cX4_reckon 1 = .ok (.istore 4, 2) := by decide +kernel
theorem dX4_reckon_3 : decode cX4_reckon 3 = .ok (.iload_n 2, 1) := by decide +kernel
theorem dX4_reckon_4 : decode cX4_reckon 4 = .ok (.istore 5, 2) := by decide +kernel
theorem dX4_reckon_6 : decode cX4_reckon 6 = .ok (.iload_n 2, 1) := by decide +kernel
theorem dX4_reckon_7 : decode cX4_reckon 7 = .ok (.istore 6, 2) := by decide +kernel
theorem dX4_reckon_9 : decode cX4_reckon 9 = .ok (.iload 6, 2) := by decide +kernel
theorem dX4_reckon_11 : decode cX4_reckon 11 = .ok (.iload_n 3, 1) := by decide +kernel
theorem dX4_reckon_12 : decode cX4_reckon 12 = .ok (.if_icmp .ge 458, 3) := by decide +kernel
theorem dX4_reckon_15 : decode cX4_reckon 15 = .ok (.iload 6, 2) := by decide +kernel
theorem dX4_reckon_17 : decode cX4_reckon 17 = .ok (.iload 5, 2) := by decide +kernel
theorem dX4_reckon_19 : decode cX4_reckon 19 = .ok (.if_icmp .ge 6, 3) := by decide +kernel
theorem dX4_reckon_22 : decode cX4_reckon 22 = .ok (.goto 442, 3) := by decide +kernel
theorem dX4_reckon_25 : decode cX4_reckon 25 = .ok (.iload 6, 2) := by decide +kernel
theorem dX4_reckon_27 : decode cX4_reckon 27 = .ok (.ifCond .lt 25, 3) := by decide +kernel
theorem dX4_reckon_30 : decode cX4_reckon 30 = .ok (.iload 6, 2) := by decide +kernel
theorem dX4_reckon_32 : decode cX4_reckon 32 = .ok (.aload_n 1, 1) := by decide +kernel
theorem dX4_reckon_33 : decode cX4_reckon 33 = .ok (.arraylength, 1) := by decide +kernel
theorem dX4_reckon_34 : decode cX4_reckon 34 = .ok (.if_icmp .ge 18, 3) := by decide +kernel
theorem dX4_reckon_37 : decode cX4_reckon 37 = .ok (.iload 4, 2) := by decide +kernel
theorem dX4_reckon_39 : decode cX4_reckon 39 = .ok (.ifCond .lt 13, 3) := by decide +kernel
theorem dX4_reckon_42 : decode cX4_reckon 42 = .ok (.iload 4, 2) := by decide +kernel
theorem dX4_reckon_44 : decode cX4_reckon 44 = .ok (.aload_n 0, 1) := by decide +kernel
theorem dX4_reckon_45 : decode cX4_reckon 45 = .ok (.getfield 15, 3) := by decide +kernel
theorem dX4_reckon_48 : decode cX4_reckon 48 = .ok (.arraylength, 1) := by decide +kernel
theorem dX4_reckon_49 : decode cX4_reckon 49 = .ok (.if_icmp .lt 5, 3) := by decide +kernel
theorem dX4_reckon_52 : decode cX4_reckon 52 = .ok (.iconst 0, 1) := by decide +kernel
theorem dX4_reckon_53 : decode cX4_reckon 53 = .ok (.ireturn, 1) := by decide +kernel
theorem dX4_reckon_54 : decode cX4_reckon 54 = .ok (.aload_n 1, 1) := by decide +kernel
theorem dX4_reckon_55 : decode cX4_reckon 55 = .ok (.iload 6, 2) := by decide +kernel
theorem dX4_reckon_57 : decode cX4_reckon 57 = .ok (.iaload, 1) := by decide +kernel
theorem dX4_reckon_58 : decode cX4_reckon 58 = .ok (.bipush 10, 2) := by decide +kernel
theorem dX4_reckon_60 : decode cX4_reckon 60 = .ok (.ishr, 1) := by decide +kernel
theorem dX4_reckon_61 : decode cX4_reckon 61 = .ok (.istore 7, 2) := by decide +kernel
theorem dX4_reckon_63 : decode cX4_reckon 63 = .ok (.aload_n 1, 1) := by decide +kernel
theorem dX4_reckon_64 : decode cX4_reckon 64 = .ok (.iload 6, 2) := by decide +kernel
theorem dX4_reckon_66 : decode cX4_reckon 66 = .ok (.iaload, 1) := by decide +kernel
theorem dX4_reckon_67 : decode cX4_reckon 67 = .ok (.sipush 1023, 3) := by decide +kernel
theorem dX4_reckon_70 : decode cX4_reckon 70 = .ok (.iand, 1) := by decide +kernel
theorem dX4_reckon_71 : decode cX4_reckon 71 = .ok (.istore 8, 2) := by decide +kernel
theorem dX4_reckon_73 : decode cX4_reckon 73 = .ok (.iload 7, 2) := by decide +kernel
theorem dX4_reckon_75 : decode cX4_reckon 75 = .ok (.sipush 284, 3) := by decide +kernel
theorem dX4_reckon_78 : decode cX4_reckon 78 = .ok (.if_icmp .ne 19, 3) := by decide +kernel
theorem dX4_reckon_81 : decode cX4_reckon 81 = .ok (.aload_n 0, 1) := by decide +kernel
theorem dX4_reckon_82 : decode cX4_reckon 82 = .ok (.getfield 15, 3) := by decide +kernel
theorem dX4_reckon_85 : decode cX4_reckon 85 = .ok (.iload 4, 2) := by decide +kernel
theorem dX4_reckon_87 : decode cX4_reckon 87 = .ok (.iload 8, 2) := by decide +kernel
theorem dX4_reckon_89 : decode cX4_reckon 89 = .ok (.i2l, 1) := by decide +kernel
theorem dX4_reckon_90 : decode cX4_reckon 90 = .ok (.lastore, 1) := by decide +kernel
theorem dX4_reckon_91 : decode cX4_reckon 91 = .ok (.iinc 4 1, 3) := by decide +kernel
theorem dX4_reckon_94 : decode cX4_reckon 94 = .ok (.goto 370, 3) := by decide +kernel
theorem dX4_reckon_97 : decode cX4_reckon 97 = .ok (.iload 7, 2) := by decide +kernel
theorem dX4_reckon_99 : decode cX4_reckon 99 = .ok (.sipush 283, 3) := by decide +kernel
theorem dX4_reckon_102 : decode cX4_reckon 102 = .ok (.if_icmp .ne 40, 3) := by decide +kernel
theorem dX4_reckon_105 : decode cX4_reckon 105 = .ok (.aload_n 0, 1) := by decide +kernel
theorem dX4_reckon_106 : decode cX4_reckon 106 = .ok (.getfield 15, 3) := by decide +kernel
theorem dX4_reckon_109 : decode cX4_reckon 109 = .ok (.iload 4, 2) := by decide +kernel
theorem dX4_reckon_111 : decode cX4_reckon 111 = .ok (.iload 8, 2) := by decide +kernel
theorem dX4_reckon_113 : decode cX4_reckon 113 = .ok (.aload_n 0, 1) := by decide +kernel
theorem dX4_reckon_114 : decode cX4_reckon 114 = .ok (.getfield 9, 3) := by decide +kernel
theorem dX4_reckon_117 : decode cX4_reckon 117 = .ok (.arraylength, 1) := by decide +kernel
theorem dX4_reckon_118 : decode cX4_reckon 118 = .ok (.if_icmp .ge 14, 3) := by decide +kernel
theorem dX4_reckon_121 : decode cX4_reckon 121 = .ok (.aload_n 0, 1) := by decide +kernel
theorem dX4_reckon_122 : decode cX4_reckon 122 = .ok (.getfield 9, 3) := by decide +kernel
theorem dX4_reckon_125 : decode cX4_reckon 125 = .ok (.iload 8, 2) := by decide +kernel
theorem dX4_reckon_127 : decode cX4_reckon 127 = .ok (.iaload, 1) := by decide +kernel
theorem dX4_reckon_128 : decode cX4_reckon 128 = .ok (.i2l, 1) := by decide +kernel
theorem dX4_reckon_129 : decode cX4_reckon 129 = .ok (.goto 6, 3) := by decide +kernel
theorem dX4_reckon_132 : decode cX4_reckon 132 = .ok (.ldc2_w 39, 3) := by decide +kernel
theorem dX4_reckon_135 : decode cX4_reckon 135 = .ok (.lastore, 1) := by decide +kernel
theorem dX4_reckon_136 : decode cX4_reckon 136 = .ok (.iinc 4 1, 3) := by decide +kernel
theorem dX4_reckon_139 : decode cX4_reckon 139 = .ok (.goto 325, 3) := by decide +kernel
theorem dX4_reckon_142 : decode cX4_reckon 142 = .ok (.iload 4, 2) := by decide +kernel
theorem dX4_reckon_144 : decode cX4_reckon 144 = .ok (.iconst 1, 1) := by decide +kernel
theorem dX4_reckon_145 : decode cX4_reckon 145 = .ok (.if_icmp .ge 5, 3) := by decide +kernel
theorem dX4_reckon_148 : decode cX4_reckon 148 = .ok (.iconst 0, 1) := by decide +kernel
theorem dX4_reckon_149 : decode cX4_reckon 149 = .ok (.ireturn, 1) := by decide +kernel
theorem dX4_reckon_150 : decode cX4_reckon 150 = .ok (.iload 7, 2) := by decide +kernel
theorem dX4_reckon_152 : decode cX4_reckon 152 = .ok (.sipush 258, 3) := by decide +kernel
theorem dX4_reckon_155 : decode cX4_reckon 155 = .ok (.if_icmp .ne 34, 3) := by decide +kernel
theorem dX4_reckon_158 : decode cX4_reckon 158 = .ok (.aload_n 0, 1) := by decide +kernel
theorem dX4_reckon_159 : decode cX4_reckon 159 = .ok (.getfield 15, 3) := by decide +kernel
theorem dX4_reckon_162 : decode cX4_reckon 162 = .ok (.iload 4, 2) := by decide +kernel
theorem dX4_reckon_164 : decode cX4_reckon 164 = .ok (.iconst 1, 1) := by decide +kernel
theorem dX4_reckon_165 : decode cX4_reckon 165 = .ok (.isub, 1) := by decide +kernel
theorem dX4_reckon_166 : decode cX4_reckon 166 = .ok (.aload_n 0, 1) := by decide +kernel
theorem dX4_reckon_167 : decode cX4_reckon 167 = .ok (.getfield 15, 3) := by decide +kernel
theorem dX4_reckon_170 : decode cX4_reckon 170 = .ok (.iload 4, 2) := by decide +kernel
theorem dX4_reckon_172 : decode cX4_reckon 172 = .ok (.iconst 1, 1) := by decide +kernel
theorem dX4_reckon_173 : decode cX4_reckon 173 = .ok (.isub, 1) := by decide +kernel
theorem dX4_reckon_174 : decode cX4_reckon 174 = .ok (.laload, 1) := by decide +kernel
theorem dX4_reckon_175 : decode cX4_reckon 175 = .ok (.lconst 0, 1) := by decide +kernel
theorem dX4_reckon_176 : decode cX4_reckon 176 = .ok (.lcmp, 1) := by decide +kernel
theorem dX4_reckon_177 : decode cX4_reckon 177 = .ok (.ifCond .ne 7, 3) := by decide +kernel
theorem dX4_reckon_180 : decode cX4_reckon 180 = .ok (.lconst 1, 1) := by decide +kernel
theorem dX4_reckon_181 : decode cX4_reckon 181 = .ok (.goto 4, 3) := by decide +kernel
theorem dX4_reckon_184 : decode cX4_reckon 184 = .ok (.lconst 0, 1) := by decide +kernel
theorem dX4_reckon_185 : decode cX4_reckon 185 = .ok (.lastore, 1) := by decide +kernel
theorem dX4_reckon_186 : decode cX4_reckon 186 = .ok (.goto 278, 3) := by decide +kernel
theorem dX4_reckon_189 : decode cX4_reckon 189 = .ok (.iload 7, 2) := by decide +kernel
theorem dX4_reckon_191 : decode cX4_reckon 191 = .ok (.sipush 256, 3) := by decide +kernel
theorem dX4_reckon_194 : decode cX4_reckon 194 = .ok (.if_icmp .eq 11, 3) := by decide +kernel
theorem dX4_reckon_197 : decode cX4_reckon 197 = .ok (.iload 7, 2) := by decide +kernel
theorem dX4_reckon_199 : decode cX4_reckon 199 = .ok (.sipush 257, 3) := by decide +kernel
theorem dX4_reckon_202 : decode cX4_reckon 202 = .ok (.if_icmp .ne 51, 3) := by decide +kernel
theorem dX4_reckon_205 : decode cX4_reckon 205 = .ok (.aload_n 0, 1) := by decide +kernel
theorem dX4_reckon_206 : decode cX4_reckon 206 = .ok (.getfield 15, 3) := by decide +kernel
theorem dX4_reckon_209 : decode cX4_reckon 209 = .ok (.iload 4, 2) := by decide +kernel
theorem dX4_reckon_211 : decode cX4_reckon 211 = .ok (.iconst 1, 1) := by decide +kernel
theorem dX4_reckon_212 : decode cX4_reckon 212 = .ok (.isub, 1) := by decide +kernel
theorem dX4_reckon_213 : decode cX4_reckon 213 = .ok (.laload, 1) := by decide +kernel
theorem dX4_reckon_214 : decode cX4_reckon 214 = .ok (.lconst 0, 1) := by decide +kernel
theorem dX4_reckon_215 : decode cX4_reckon 215 = .ok (.lcmp, 1) := by decide +kernel
theorem dX4_reckon_216 : decode cX4_reckon 216 = .ok (.ifCond .eq 7, 3) := by decide +kernel
theorem dX4_reckon_219 : decode cX4_reckon 219 = .ok (.iconst 1, 1) := by decide +kernel
theorem dX4_reckon_220 : decode cX4_reckon 220 = .ok (.goto 4, 3) := by decide +kernel
theorem dX4_reckon_223 : decode cX4_reckon 223 = .ok (.iconst 0, 1) := by decide +kernel
theorem dX4_reckon_224 : decode cX4_reckon 224 = .ok (.iload 7, 2) := by decide +kernel
theorem dX4_reckon_226 : decode cX4_reckon 226 = .ok (.sipush 256, 3) := by decide +kernel
theorem dX4_reckon_229 : decode cX4_reckon 229 = .ok (.if_icmp .ne 7, 3) := by decide +kernel
theorem dX4_reckon_232 : decode cX4_reckon 232 = .ok (.iconst 1, 1) := by decide +kernel
theorem dX4_reckon_233 : decode cX4_reckon 233 = .ok (.goto 4, 3) := by decide +kernel
theorem dX4_reckon_236 : decode cX4_reckon 236 = .ok (.iconst 0, 1) := by decide +kernel
theorem dX4_reckon_237 : decode cX4_reckon 237 = .ok (.if_icmp .ne 10, 3) := by decide +kernel
theorem dX4_reckon_240 : decode cX4_reckon 240 = .ok (.iload 8, 2) := by decide +kernel
theorem dX4_reckon_242 : decode cX4_reckon 242 = .ok (.istore 5, 2) := by decide +kernel
theorem dX4_reckon_244 : decode cX4_reckon 244 = .ok (.goto 220, 3) := by decide +kernel
theorem dX4_reckon_247 : decode cX4_reckon 247 = .ok (.iinc 4 (-1), 3) := by decide +kernel
theorem dX4_reckon_250 : decode cX4_reckon 250 = .ok (.goto 214, 3) := by decide +kernel
theorem dX4_reckon_253 : decode cX4_reckon 253 = .ok (.iload 4, 2) := by decide +kernel
theorem dX4_reckon_255 : decode cX4_reckon 255 = .ok (.iconst 2, 1) := by decide +kernel
theorem dX4_reckon_256 : decode cX4_reckon 256 = .ok (.if_icmp .ge 5, 3) := by decide +kernel
theorem dX4_reckon_259 : decode cX4_reckon 259 = .ok (.iconst 0, 1) := by decide +kernel
theorem dX4_reckon_260 : decode cX4_reckon 260 = .ok (.ireturn, 1) := by decide +kernel
theorem dX4_reckon_261 : decode cX4_reckon 261 = .ok (.iinc 4 (-1), 3) := by decide +kernel
theorem dX4_reckon_264 : decode cX4_reckon 264 = .ok (.aload_n 0, 1) := by decide +kernel
theorem dX4_reckon_265 : decode cX4_reckon 265 = .ok (.getfield 15, 3) := by decide +kernel
theorem dX4_reckon_268 : decode cX4_reckon 268 = .ok (.iload 4, 2) := by decide +kernel
theorem dX4_reckon_270 : decode cX4_reckon 270 = .ok (.iconst 1, 1) := by decide +kernel
theorem dX4_reckon_271 : decode cX4_reckon 271 = .ok (.isub, 1) := by decide +kernel
theorem dX4_reckon_272 : decode cX4_reckon 272 = .ok (.laload, 1) := by decide +kernel
theorem dX4_reckon_273 : decode cX4_reckon 273 = .ok (.lstore 9, 2) := by decide +kernel
theorem dX4_reckon_275 : decode cX4_reckon 275 = .ok (.aload_n 0, 1) := by decide +kernel
theorem dX4_reckon_276 : decode cX4_reckon 276 = .ok (.getfield 15, 3) := by decide +kernel
theorem dX4_reckon_279 : decode cX4_reckon 279 = .ok (.iload 4, 2) := by decide +kernel
theorem dX4_reckon_281 : decode cX4_reckon 281 = .ok (.laload, 1) := by decide +kernel
theorem dX4_reckon_282 : decode cX4_reckon 282 = .ok (.lstore 11, 2) := by decide +kernel
theorem dX4_reckon_284 : decode cX4_reckon 284 = .ok (.lload 11, 2) := by decide +kernel
theorem dX4_reckon_286 : decode cX4_reckon 286 = .ok (.lconst 0, 1) := by decide +kernel
theorem dX4_reckon_287 : decode cX4_reckon 287 = .ok (.lcmp, 1) := by decide +kernel
theorem dX4_reckon_288 : decode cX4_reckon 288 = .ok (.ifCond .ne 19, 3) := by decide +kernel
theorem dX4_reckon_291 : decode cX4_reckon 291 = .ok (.iload 7, 2) := by decide +kernel
theorem dX4_reckon_293 : decode cX4_reckon 293 = .ok (.bipush 47, 2) := by decide +kernel
theorem dX4_reckon_295 : decode cX4_reckon 295 = .ok (.if_icmp .eq 10, 3) := by decide +kernel
theorem dX4_reckon_298 : decode cX4_reckon 298 = .ok (.iload 7, 2) := by decide +kernel
theorem dX4_reckon_300 : decode cX4_reckon 300 = .ok (.bipush 37, 2) := by decide +kernel
theorem dX4_reckon_302 : decode cX4_reckon 302 = .ok (.if_icmp .ne 5, 3) := by decide +kernel
theorem dX4_reckon_305 : decode cX4_reckon 305 = .ok (.iconst 0, 1) := by decide +kernel
theorem dX4_reckon_306 : decode cX4_reckon 306 = .ok (.ireturn, 1) := by decide +kernel
theorem dX4_reckon_307 : decode cX4_reckon 307 = .ok (.iload 7, 2) := by decide +kernel
theorem dX4_reckon_309 : decode cX4_reckon 309 = .ok (.bipush 43, 2) := by decide +kernel
theorem dX4_reckon_311 : decode cX4_reckon 311 = .ok (.if_icmp .ne 11, 3) := by decide +kernel
theorem dX4_reckon_314 : decode cX4_reckon 314 = .ok (.lload 9, 2) := by decide +kernel
theorem dX4_reckon_316 : decode cX4_reckon 316 = .ok (.lload 11, 2) := by decide +kernel
theorem dX4_reckon_318 : decode cX4_reckon 318 = .ok (.ladd, 1) := by decide +kernel
theorem dX4_reckon_319 : decode cX4_reckon 319 = .ok (.goto 112, 3) := by decide +kernel
theorem dX4_reckon_322 : decode cX4_reckon 322 = .ok (.iload 7, 2) := by decide +kernel
theorem dX4_reckon_324 : decode cX4_reckon 324 = .ok (.bipush 45, 2) := by decide +kernel
theorem dX4_reckon_326 : decode cX4_reckon 326 = .ok (.if_icmp .ne 11, 3) := by decide +kernel
theorem dX4_reckon_329 : decode cX4_reckon 329 = .ok (.lload 9, 2) := by decide +kernel
theorem dX4_reckon_331 : decode cX4_reckon 331 = .ok (.lload 11, 2) := by decide +kernel
theorem dX4_reckon_333 : decode cX4_reckon 333 = .ok (.lsub, 1) := by decide +kernel
theorem dX4_reckon_334 : decode cX4_reckon 334 = .ok (.goto 97, 3) := by decide +kernel
theorem dX4_reckon_337 : decode cX4_reckon 337 = .ok (.iload 7, 2) := by decide +kernel
theorem dX4_reckon_339 : decode cX4_reckon 339 = .ok (.bipush 42, 2) := by decide +kernel
theorem dX4_reckon_341 : decode cX4_reckon 341 = .ok (.if_icmp .ne 11, 3) := by decide +kernel
theorem dX4_reckon_344 : decode cX4_reckon 344 = .ok (.lload 9, 2) := by decide +kernel
theorem dX4_reckon_346 : decode cX4_reckon 346 = .ok (.lload 11, 2) := by decide +kernel
theorem dX4_reckon_348 : decode cX4_reckon 348 = .ok (.lmul, 1) := by decide +kernel
theorem dX4_reckon_349 : decode cX4_reckon 349 = .ok (.goto 82, 3) := by decide +kernel
theorem dX4_reckon_352 : decode cX4_reckon 352 = .ok (.iload 7, 2) := by decide +kernel
theorem dX4_reckon_354 : decode cX4_reckon 354 = .ok (.bipush 47, 2) := by decide +kernel
theorem dX4_reckon_356 : decode cX4_reckon 356 = .ok (.if_icmp .ne 11, 3) := by decide +kernel
theorem dX4_reckon_359 : decode cX4_reckon 359 = .ok (.lload 9, 2) := by decide +kernel
theorem dX4_reckon_361 : decode cX4_reckon 361 = .ok (.lload 11, 2) := by decide +kernel
theorem dX4_reckon_363 : decode cX4_reckon 363 = .ok (.ldiv, 1) := by decide +kernel
theorem dX4_reckon_364 : decode cX4_reckon 364 = .ok (.goto 67, 3) := by decide +kernel
theorem dX4_reckon_367 : decode cX4_reckon 367 = .ok (.iload 7, 2) := by decide +kernel
theorem dX4_reckon_369 : decode cX4_reckon 369 = .ok (.bipush 37, 2) := by decide +kernel
theorem dX4_reckon_371 : decode cX4_reckon 371 = .ok (.if_icmp .ne 11, 3) := by decide +kernel
theorem dX4_reckon_374 : decode cX4_reckon 374 = .ok (.lload 9, 2) := by decide +kernel
theorem dX4_reckon_376 : decode cX4_reckon 376 = .ok (.lload 11, 2) := by decide +kernel
theorem dX4_reckon_378 : decode cX4_reckon 378 = .ok (.lrem, 1) := by decide +kernel
theorem dX4_reckon_379 : decode cX4_reckon 379 = .ok (.goto 52, 3) := by decide +kernel
theorem dX4_reckon_382 : decode cX4_reckon 382 = .ok (.iload 7, 2) := by decide +kernel
theorem dX4_reckon_384 : decode cX4_reckon 384 = .ok (.bipush 60, 2) := by decide +kernel
theorem dX4_reckon_386 : decode cX4_reckon 386 = .ok (.if_icmp .ne 14, 3) := by decide +kernel
theorem dX4_reckon_389 : decode cX4_reckon 389 = .ok (.lload 9, 2) := by decide +kernel
theorem dX4_reckon_391 : decode cX4_reckon 391 = .ok (.lload 11, 2) := by decide +kernel
theorem dX4_reckon_393 : decode cX4_reckon 393 = .ok (.lcmp, 1) := by decide +kernel
theorem dX4_reckon_394 : decode cX4_reckon 394 = .ok (.ifCond .ge 36, 3) := by decide +kernel
theorem dX4_reckon_397 : decode cX4_reckon 397 = .ok (.goto 29, 3) := by decide +kernel
theorem dX4_reckon_400 : decode cX4_reckon 400 = .ok (.iload 7, 2) := by decide +kernel
theorem dX4_reckon_402 : decode cX4_reckon 402 = .ok (.bipush 62, 2) := by decide +kernel
theorem dX4_reckon_404 : decode cX4_reckon 404 = .ok (.if_icmp .ne 14, 3) := by decide +kernel
theorem dX4_reckon_407 : decode cX4_reckon 407 = .ok (.lload 9, 2) := by decide +kernel
theorem dX4_reckon_409 : decode cX4_reckon 409 = .ok (.lload 11, 2) := by decide +kernel
theorem dX4_reckon_411 : decode cX4_reckon 411 = .ok (.lcmp, 1) := by decide +kernel
theorem dX4_reckon_412 : decode cX4_reckon 412 = .ok (.ifCond .le 18, 3) := by decide +kernel
theorem dX4_reckon_415 : decode cX4_reckon 415 = .ok (.goto 11, 3) := by decide +kernel
theorem dX4_reckon_418 : decode cX4_reckon 418 = .ok (.lload 9, 2) := by decide +kernel
theorem dX4_reckon_420 : decode cX4_reckon 420 = .ok (.lload 11, 2) := by decide +kernel
theorem dX4_reckon_422 : decode cX4_reckon 422 = .ok (.lcmp, 1) := by decide +kernel
theorem dX4_reckon_423 : decode cX4_reckon 423 = .ok (.ifCond .ne 7, 3) := by decide +kernel
theorem dX4_reckon_426 : decode cX4_reckon 426 = .ok (.lconst 1, 1) := by decide +kernel
theorem dX4_reckon_427 : decode cX4_reckon 427 = .ok (.goto 4, 3) := by decide +kernel
theorem dX4_reckon_430 : decode cX4_reckon 430 = .ok (.lconst 0, 1) := by decide +kernel
theorem dX4_reckon_431 : decode cX4_reckon 431 = .ok (.lstore 13, 2) := by decide +kernel
theorem dX4_reckon_433 : decode cX4_reckon 433 = .ok (.lload 13, 2) := by decide +kernel
theorem dX4_reckon_435 : decode cX4_reckon 435 = .ok (.ldc2_w 41, 3) := by decide +kernel
theorem dX4_reckon_438 : decode cX4_reckon 438 = .ok (.lcmp, 1) := by decide +kernel
theorem dX4_reckon_439 : decode cX4_reckon 439 = .ok (.ifCond .gt 12, 3) := by decide +kernel
theorem dX4_reckon_442 : decode cX4_reckon 442 = .ok (.lload 13, 2) := by decide +kernel
theorem dX4_reckon_444 : decode cX4_reckon 444 = .ok (.ldc2_w 43, 3) := by decide +kernel
theorem dX4_reckon_447 : decode cX4_reckon 447 = .ok (.lcmp, 1) := by decide +kernel
theorem dX4_reckon_448 : decode cX4_reckon 448 = .ok (.ifCond .ge 5, 3) := by decide +kernel
theorem dX4_reckon_451 : decode cX4_reckon 451 = .ok (.iconst 0, 1) := by decide +kernel
theorem dX4_reckon_452 : decode cX4_reckon 452 = .ok (.ireturn, 1) := by decide +kernel
theorem dX4_reckon_453 : decode cX4_reckon 453 = .ok (.aload_n 0, 1) := by decide +kernel
theorem dX4_reckon_454 : decode cX4_reckon 454 = .ok (.getfield 15, 3) := by decide +kernel
theorem dX4_reckon_457 : decode cX4_reckon 457 = .ok (.iload 4, 2) := by decide +kernel
theorem dX4_reckon_459 : decode cX4_reckon 459 = .ok (.iconst 1, 1) := by decide +kernel
theorem dX4_reckon_460 : decode cX4_reckon 460 = .ok (.isub, 1) := by decide +kernel
theorem dX4_reckon_461 : decode cX4_reckon 461 = .ok (.lload 13, 2) := by decide +kernel
theorem dX4_reckon_463 : decode cX4_reckon 463 = .ok (.lastore, 1) := by decide +kernel
theorem dX4_reckon_464 : decode cX4_reckon 464 = .ok (.iinc 6 1, 3) := by decide +kernel
theorem dX4_reckon_467 : decode cX4_reckon 467 = .ok (.goto (-458), 3) := by decide +kernel
theorem dX4_reckon_470 : decode cX4_reckon 470 = .ok (.aload_n 0, 1) := by decide +kernel
theorem dX4_reckon_471 : decode cX4_reckon 471 = .ok (.iload 4, 2) := by decide +kernel
theorem dX4_reckon_473 : decode cX4_reckon 473 = .ok (.ifCond .le 13, 3) := by decide +kernel
theorem dX4_reckon_476 : decode cX4_reckon 476 = .ok (.aload_n 0, 1) := by decide +kernel
theorem dX4_reckon_477 : decode cX4_reckon 477 = .ok (.getfield 15, 3) := by decide +kernel
theorem dX4_reckon_480 : decode cX4_reckon 480 = .ok (.iconst 0, 1) := by decide +kernel
theorem dX4_reckon_481 : decode cX4_reckon 481 = .ok (.laload, 1) := by decide +kernel
theorem dX4_reckon_482 : decode cX4_reckon 482 = .ok (.l2i, 1) := by decide +kernel
theorem dX4_reckon_483 : decode cX4_reckon 483 = .ok (.goto 4, 3) := by decide +kernel
theorem dX4_reckon_486 : decode cX4_reckon 486 = .ok (.iconst 0, 1) := by decide +kernel
theorem dX4_reckon_487 : decode cX4_reckon 487 = .ok (.putfield 36, 3) := by decide +kernel
theorem dX4_reckon_490 : decode cX4_reckon 490 = .ok (.iconst 1, 1) := by decide +kernel
theorem dX4_reckon_491 : decode cX4_reckon 491 = .ok (.ireturn, 1) := by decide +kernel
theorem dX5_init_0 : decode cX5_init 0 = .ok (.aload_n 0, 1) := by decide +kernel
theorem dX5_init_1 : decode cX5_init 1 = .ok (.invokespecial 5, 3) := by decide +kernel
theorem dX5_init_4 : decode cX5_init 4 = .ok (.aload_n 0, 1) := by decide +kernel
theorem dX5_init_5 : decode cX5_init 5 = .ok (.sipush 255, 3) := by decide +kernel
theorem dX5_init_8 : decode cX5_init 8 = .ok (.newarray .int, 2) := by decide +kernel
theorem dX5_init_10 : decode cX5_init 10 = .ok (.putfield 13, 3) := by decide +kernel
theorem dX5_init_13 : decode cX5_init 13 = .ok (.aload_n 0, 1) := by decide +kernel
theorem dX5_init_14 : decode cX5_init 14 = .ok (.bipush 17, 2) := by decide +kernel
theorem dX5_init_16 : decode cX5_init 16 = .ok (.newarray .int, 2) := by decide +kernel
theorem dX5_init_18 : decode cX5_init 18 = .ok (.putfield 17, 3) := by decide +kernel
theorem dX5_init_21 : decode cX5_init 21 = .ok (.return_, 1) := by decide +kernel
theorem dX5_note_0 : decode cX5_note 0 = .ok (.aload_n 1, 1) := by decide +kernel
theorem dX5_note_1 : decode cX5_note 1 = .ok (.aload_n 0, 1) := by decide +kernel
theorem dX5_note_2 : decode cX5_note 2 = .ok (.getfield 13, 3) := by decide +kernel
theorem dX5_note_5 : decode cX5_note 5 = .ok (.aload_n 0, 1) := by decide +kernel
theorem dX5_note_6 : decode cX5_note 6 = .ok (.getfield 20, 3) := by decide +kernel
theorem dX5_note_9 : decode cX5_note 9 = .ok (.bipush 15, 2) := by decide +kernel
theorem dX5_note_11 : decode cX5_note 11 = .ok (.imul, 1) := by decide +kernel
theorem dX5_note_12 : decode cX5_note 12 = .ok (.invokevirtual 24, 3) := by decide +kernel
theorem dX5_note_15 : decode cX5_note 15 = .ok (.return_, 1) := by decide +kernel
theorem dX5_keep_0 : decode cX5_keep 0 = .ok (.aload_n 0, 1) := by decide +kernel
theorem dX5_keep_1 : decode cX5_keep 1 = .ok (.getfield 20, 3) := by decide +kernel
theorem dX5_keep_4 : decode cX5_keep 4 = .ok (.ifCond .lt 22, 3) := by decide +kernel
theorem dX5_keep_7 : decode cX5_keep 7 = .ok (.aload_n 0, 1) := by decide +kernel
theorem dX5_keep_8 : decode cX5_keep 8 = .ok (.getfield 20, 3) := by decide +kernel
theorem dX5_keep_11 : decode cX5_keep 11 = .ok (.bipush 17, 2) := by decide +kernel
theorem dX5_keep_13 : decode cX5_keep 13 = .ok (.if_icmp .ge 13, 3) := by decide +kernel
theorem dX5_keep_16 : decode cX5_keep 16 = .ok (.aload_n 0, 1) := by decide +kernel
theorem dX5_keep_17 : decode cX5_keep 17 = .ok (.getfield 17, 3) := by decide +kernel
theorem dX5_keep_20 : decode cX5_keep 20 = .ok (.aload_n 0, 1) := by decide +kernel
theorem dX5_keep_21 : decode cX5_keep 21 = .ok (.getfield 20, 3) := by decide +kernel
theorem dX5_keep_24 : decode cX5_keep 24 = .ok (.iload_n 1, 1) := by decide +kernel
theorem dX5_keep_25 : decode cX5_keep 25 = .ok (.iastore, 1) := by decide +kernel
theorem dX5_keep_26 : decode cX5_keep 26 = .ok (.aload_n 0, 1) := by decide +kernel
theorem dX5_keep_27 : decode cX5_keep 27 = .ok (.aload_n 0, 1) := by decide +kernel
theorem dX5_keep_28 : decode cX5_keep 28 = .ok (.getfield 20, 3) := by decide +kernel
theorem dX5_keep_31 : decode cX5_keep 31 = .ok (.iconst 1, 1) := by decide +kernel
theorem dX5_keep_32 : decode cX5_keep 32 = .ok (.iadd, 1) := by decide +kernel
theorem dX5_keep_33 : decode cX5_keep 33 = .ok (.bipush 17, 2) := by decide +kernel
theorem dX5_keep_35 : decode cX5_keep 35 = .ok (.irem, 1) := by decide +kernel
theorem dX5_keep_36 : decode cX5_keep 36 = .ok (.putfield 20, 3) := by decide +kernel
theorem dX5_keep_39 : decode cX5_keep 39 = .ok (.aload_n 0, 1) := by decide +kernel
theorem dX5_keep_40 : decode cX5_keep 40 = .ok (.aload_n 0, 1) := by decide +kernel
theorem dX5_keep_41 : decode cX5_keep 41 = .ok (.getfield 28, 3) := by decide +kernel
theorem dX5_keep_44 : decode cX5_keep 44 = .ok (.iconst 1, 1) := by decide +kernel
theorem dX5_keep_45 : decode cX5_keep 45 = .ok (.iadd, 1) := by decide +kernel
theorem dX5_keep_46 : decode cX5_keep 46 = .ok (.bipush 16, 2) := by decide +kernel
theorem dX5_keep_48 : decode cX5_keep 48 = .ok (.invokestatic 31, 3) := by decide +kernel
theorem dX5_keep_51 : decode cX5_keep 51 = .ok (.putfield 28, 3) := by decide +kernel
theorem dX5_keep_54 : decode cX5_keep 54 = .ok (.return_, 1) := by decide +kernel
theorem dX5_takeBack_0 : decode cX5_takeBack 0 = .ok (.aload_n 0, 1) := by decide +kernel
theorem dX5_takeBack_1 : decode cX5_takeBack 1 = .ok (.getfield 28, 3) := by decide +kernel
theorem dX5_takeBack_4 : decode cX5_takeBack 4 = .ok (.ifCond .gt 5, 3) := by decide +kernel
theorem dX5_takeBack_7 : decode cX5_takeBack 7 = .ok (.iconst (-1), 1) := by decide +kernel
theorem dX5_takeBack_8 : decode cX5_takeBack 8 = .ok (.ireturn, 1) := by decide +kernel
theorem dX5_takeBack_9 : decode cX5_takeBack 9 = .ok (.aload_n 0, 1) := by decide +kernel
theorem dX5_takeBack_10 : decode cX5_takeBack 10 = .ok (.dup, 1) := by decide +kernel
theorem dX5_takeBack_11 : decode cX5_takeBack 11 = .ok (.getfield 28, 3) := by decide +kernel
theorem dX5_takeBack_14 : decode cX5_takeBack 14 = .ok (.iconst 1, 1) := by decide +kernel
theorem dX5_takeBack_15 : decode cX5_takeBack 15 = .ok (.isub, 1) := by decide +kernel
theorem dX5_takeBack_16 : decode cX5_takeBack 16 = .ok (.putfield 28, 3) := by decide +kernel
theorem dX5_takeBack_19 : decode cX5_takeBack 19 = .ok (.aload_n 0, 1) := by decide +kernel
theorem dX5_takeBack_20 : decode cX5_takeBack 20 = .ok (.aload_n 0, 1) := by decide +kernel
theorem dX5_takeBack_21 : decode cX5_takeBack 21 = .ok (.getfield 20, 3) := by decide +kernel
theorem dX5_takeBack_24 : decode cX5_takeBack 24 = .ok (.bipush 16, 2) := by decide +kernel
theorem dX5_takeBack_26 : decode cX5_takeBack 26 = .ok (.iadd, 1) := by decide +kernel
theorem dX5_takeBack_27 : decode cX5_takeBack 27 = .ok (.bipush 17, 2) := by decide +kernel
theorem dX5_takeBack_29 : decode cX5_takeBack 29 = .ok (.irem, 1) := by decide +kernel
theorem dX5_takeBack_30 : decode cX5_takeBack 30 = .ok (.putfield 20, 3) := by decide +kernel
theorem dX5_takeBack_33 : decode cX5_takeBack 33 = .ok (.aload_n 1, 1) := by decide +kernel
theorem dX5_takeBack_34 : decode cX5_takeBack 34 = .ok (.aload_n 0, 1) := by decide +kernel
theorem dX5_takeBack_35 : decode cX5_takeBack 35 = .ok (.getfield 13, 3) := by decide +kernel
theorem dX5_takeBack_38 : decode cX5_takeBack 38 = .ok (.aload_n 0, 1) := by decide +kernel
theorem dX5_takeBack_39 : decode cX5_takeBack 39 = .ok (.getfield 20, 3) := by decide +kernel
theorem dX5_takeBack_42 : decode cX5_takeBack 42 = .ok (.bipush 15, 2) := by decide +kernel
theorem dX5_takeBack_44 : decode cX5_takeBack 44 = .ok (.imul, 1) := by decide +kernel
theorem dX5_takeBack_45 : decode cX5_takeBack 45 = .ok (.invokevirtual 37, 3) := by decide +kernel
theorem dX5_takeBack_48 : decode cX5_takeBack 48 = .ok (.aload_n 0, 1) := by decide +kernel
theorem dX5_takeBack_49 : decode cX5_takeBack 49 = .ok (.getfield 20, 3) := by decide +kernel
theorem dX5_takeBack_52 : decode cX5_takeBack 52 = .ok (.ifCond .lt 24, 3) := by decide +kernel
theorem dX5_takeBack_55 : decode cX5_takeBack 55 = .ok (.aload_n 0, 1) := by decide +kernel
theorem dX5_takeBack_56 : decode cX5_takeBack 56 = .ok (.getfield 20, 3) := by decide +kernel
theorem dX5_takeBack_59 : decode cX5_takeBack 59 = .ok (.bipush 17, 2) := by decide +kernel
theorem dX5_takeBack_61 : decode cX5_takeBack 61 = .ok (.if_icmp .ge 15, 3) := by decide +kernel
theorem dX5_takeBack_64 : decode cX5_takeBack 64 = .ok (.aload_n 0, 1) := by decide +kernel
theorem dX5_takeBack_65 : decode cX5_takeBack 65 = .ok (.getfield 17, 3) := by decide +kernel
theorem dX5_takeBack_68 : decode cX5_takeBack 68 = .ok (.aload_n 0, 1) := by decide +kernel
theorem dX5_takeBack_69 : decode cX5_takeBack 69 = .ok (.getfield 20, 3) := by decide +kernel
theorem dX5_takeBack_72 : decode cX5_takeBack 72 = .ok (.iaload, 1) := by decide +kernel
theorem dX5_takeBack_73 : decode cX5_takeBack 73 = .ok (.goto 4, 3) := by decide +kernel
theorem dX5_takeBack_76 : decode cX5_takeBack 76 = .ok (.iconst (-1), 1) := by decide +kernel
theorem dX5_takeBack_77 : decode cX5_takeBack 77 = .ok (.ireturn, 1) := by decide +kernel
theorem dX5_clear_0 : decode cX5_clear 0 = .ok (.aload_n 0, 1) := by decide +kernel
theorem dX5_clear_1 : decode cX5_clear 1 = .ok (.iconst 0, 1) := by decide +kernel
theorem dX5_clear_2 : decode cX5_clear 2 = .ok (.putfield 28, 3) := by decide +kernel
theorem dX5_clear_5 : decode cX5_clear 5 = .ok (.return_, 1) := by decide +kernel
theorem dX5_become_0 : decode cX5_become 0 = .ok (.aload_n 1, 1) := by decide +kernel
theorem dX5_become_1 : decode cX5_become 1 = .ok (.getfield 13, 3) := by decide +kernel
theorem dX5_become_4 : decode cX5_become 4 = .ok (.iconst 0, 1) := by decide +kernel
theorem dX5_become_5 : decode cX5_become 5 = .ok (.aload_n 0, 1) := by decide +kernel
theorem dX5_become_6 : decode cX5_become 6 = .ok (.getfield 13, 3) := by decide +kernel
theorem dX5_become_9 : decode cX5_become 9 = .ok (.iconst 0, 1) := by decide +kernel
theorem dX5_become_10 : decode cX5_become 10 = .ok (.sipush 255, 3) := by decide +kernel
theorem dX5_become_13 : decode cX5_become 13 = .ok (.invokestatic 40, 3) := by decide +kernel
theorem dX5_become_16 : decode cX5_become 16 = .ok (.aload_n 1, 1) := by decide +kernel
theorem dX5_become_17 : decode cX5_become 17 = .ok (.getfield 17, 3) := by decide +kernel
theorem dX5_become_20 : decode cX5_become 20 = .ok (.iconst 0, 1) := by decide +kernel
theorem dX5_become_21 : decode cX5_become 21 = .ok (.aload_n 0, 1) := by decide +kernel
theorem dX5_become_22 : decode cX5_become 22 = .ok (.getfield 17, 3) := by decide +kernel
theorem dX5_become_25 : decode cX5_become 25 = .ok (.iconst 0, 1) := by decide +kernel
theorem dX5_become_26 : decode cX5_become 26 = .ok (.bipush 17, 2) := by decide +kernel
theorem dX5_become_28 : decode cX5_become 28 = .ok (.invokestatic 40, 3) := by decide +kernel
theorem dX5_become_31 : decode cX5_become 31 = .ok (.aload_n 0, 1) := by decide +kernel
theorem dX5_become_32 : decode cX5_become 32 = .ok (.aload_n 1, 1) := by decide +kernel
theorem dX5_become_33 : decode cX5_become 33 = .ok (.getfield 20, 3) := by decide +kernel
theorem dX5_become_36 : decode cX5_become 36 = .ok (.putfield 20, 3) := by decide +kernel
theorem dX5_become_39 : decode cX5_become 39 = .ok (.aload_n 0, 1) := by decide +kernel
theorem dX5_become_40 : decode cX5_become 40 = .ok (.aload_n 1, 1) := by decide +kernel
theorem dX5_become_41 : decode cX5_become 41 = .ok (.getfield 28, 3) := by decide +kernel
theorem dX5_become_44 : decode cX5_become 44 = .ok (.putfield 28, 3) := by decide +kernel
theorem dX5_become_47 : decode cX5_become 47 = .ok (.return_, 1) := by decide +kernel
theorem dX6_init_0 : decode cX6_init 0 = .ok (.aload_n 0, 1) := by decide +kernel
theorem dX6_init_1 : decode cX6_init 1 = .ok (.invokespecial 3, 3) := by decide +kernel
theorem dX6_init_4 : decode cX6_init 4 = .ok (.aload_n 0, 1) := by decide +kernel
theorem dX6_init_5 : decode cX6_init 5 = .ok (.new 9, 3) := by decide +kernel
theorem dX6_init_8 : decode cX6_init 8 = .ok (.dup, 1) := by decide +kernel
theorem dX6_init_9 : decode cX6_init 9 = .ok (.invokespecial 11, 3) := by decide +kernel
theorem dX6_init_12 : decode cX6_init 12 = .ok (.putfield 12, 3) := by decide +kernel
theorem dX6_init_15 : decode cX6_init 15 = .ok (.aload_n 0, 1) := by decide +kernel
theorem dX6_init_16 : decode cX6_init 16 = .ok (.bipush 7, 2) := by decide +kernel
theorem dX6_init_18 : decode cX6_init 18 = .ok (.newarray .int, 2) := by decide +kernel
theorem dX6_init_20 : decode cX6_init 20 = .ok (.putfield 18, 3) := by decide +kernel
theorem dX6_init_23 : decode cX6_init 23 = .ok (.aload_n 0, 1) := by decide +kernel
theorem dX6_init_24 : decode cX6_init 24 = .ok (.bipush 42, 2) := by decide +kernel
theorem dX6_init_26 : decode cX6_init 26 = .ok (.newarray .int, 2) := by decide +kernel
theorem dX6_init_28 : decode cX6_init 28 = .ok (.putfield 22, 3) := by decide +kernel
theorem dX6_init_31 : decode cX6_init 31 = .ok (.aload_n 0, 1) := by decide +kernel
theorem dX6_init_32 : decode cX6_init 32 = .ok (.bipush 6, 2) := by decide +kernel
theorem dX6_init_34 : decode cX6_init 34 = .ok (.newarray .int, 2) := by decide +kernel
theorem dX6_init_36 : decode cX6_init 36 = .ok (.putfield 25, 3) := by decide +kernel
theorem dX6_init_39 : decode cX6_init 39 = .ok (.aload_n 0, 1) := by decide +kernel
theorem dX6_init_40 : decode cX6_init 40 = .ok (.bipush 6, 2) := by decide +kernel
theorem dX6_init_42 : decode cX6_init 42 = .ok (.newarray .int, 2) := by decide +kernel
theorem dX6_init_44 : decode cX6_init 44 = .ok (.putfield 28, 3) := by decide +kernel
theorem dX6_init_47 : decode cX6_init 47 = .ok (.aload_n 0, 1) := by decide +kernel
theorem dX6_init_48 : decode cX6_init 48 = .ok (.iconst 1, 1) := by decide +kernel
theorem dX6_init_49 : decode cX6_init 49 = .ok (.putfield 31, 3) := by decide +kernel
theorem dX6_init_52 : decode cX6_init 52 = .ok (.aload_n 0, 1) := by decide +kernel
theorem dX6_init_53 : decode cX6_init 53 = .ok (.iconst 1, 1) := by decide +kernel
theorem dX6_init_54 : decode cX6_init 54 = .ok (.putfield 35, 3) := by decide +kernel
theorem dX6_init_57 : decode cX6_init 57 = .ok (.aload_n 0, 1) := by decide +kernel
theorem dX6_init_58 : decode cX6_init 58 = .ok (.bipush 6, 2) := by decide +kernel
theorem dX6_init_60 : decode cX6_init 60 = .ok (.newarray .int, 2) := by decide +kernel
theorem dX6_init_62 : decode cX6_init 62 = .ok (.putfield 38, 3) := by decide +kernel
theorem dX6_init_65 : decode cX6_init 65 = .ok (.aload_n 0, 1) := by decide +kernel
theorem dX6_init_66 : decode cX6_init 66 = .ok (.bipush 6, 2) := by decide +kernel
theorem dX6_init_68 : decode cX6_init 68 = .ok (.anewarray 41, 3) := by decide +kernel
theorem dX6_init_71 : decode cX6_init 71 = .ok (.putfield 43, 3) := by decide +kernel
theorem dX6_init_74 : decode cX6_init 74 = .ok (.aload_n 0, 1) := by decide +kernel
theorem dX6_init_75 : decode cX6_init 75 = .ok (.new 41, 3) := by decide +kernel
theorem dX6_init_78 : decode cX6_init 78 = .ok (.dup, 1) := by decide +kernel
theorem dX6_init_79 : decode cX6_init 79 = .ok (.iconst 0, 1) := by decide +kernel
theorem dX6_init_80 : decode cX6_init 80 = .ok (.iconst 0, 1) := by decide +kernel
theorem dX6_init_81 : decode cX6_init 81 = .ok (.invokespecial 47, 3) := by decide +kernel
theorem dX6_init_84 : decode cX6_init 84 = .ok (.putfield 50, 3) := by decide +kernel
theorem dX6_init_87 : decode cX6_init 87 = .ok (.aload_n 0, 1) := by decide +kernel
theorem dX6_init_88 : decode cX6_init 88 = .ok (.iconst (-1), 1) := by decide +kernel
theorem dX6_init_89 : decode cX6_init 89 = .ok (.putfield 54, 3) := by decide +kernel
theorem dX6_init_92 : decode cX6_init 92 = .ok (.return_, 1) := by decide +kernel
theorem dX6_become_0 : decode cX6_become 0 = .ok (.aload_n 0, 1) := by decide +kernel
theorem dX6_become_1 : decode cX6_become 1 = .ok (.getfield 12, 3) := by decide +kernel
theorem dX6_become_4 : decode cX6_become 4 = .ok (.aload_n 1, 1) := by decide +kernel
theorem dX6_become_5 : decode cX6_become 5 = .ok (.getfield 12, 3) := by decide +kernel
theorem dX6_become_8 : decode cX6_become 8 = .ok (.invokevirtual 57, 3) := by decide +kernel
theorem dX6_become_11 : decode cX6_become 11 = .ok (.aload_n 0, 1) := by decide +kernel
theorem dX6_become_12 : decode cX6_become 12 = .ok (.aload_n 1, 1) := by decide +kernel
theorem dX6_become_13 : decode cX6_become 13 = .ok (.getfield 61, 3) := by decide +kernel
theorem dX6_become_16 : decode cX6_become 16 = .ok (.putfield 61, 3) := by decide +kernel
theorem dX6_become_19 : decode cX6_become 19 = .ok (.aload_n 1, 1) := by decide +kernel
theorem dX6_become_20 : decode cX6_become 20 = .ok (.getfield 18, 3) := by decide +kernel
theorem dX6_become_23 : decode cX6_become 23 = .ok (.iconst 0, 1) := by decide +kernel
theorem dX6_become_24 : decode cX6_become 24 = .ok (.aload_n 0, 1) := by decide +kernel
theorem dX6_become_25 : decode cX6_become 25 = .ok (.getfield 18, 3) := by decide +kernel
theorem dX6_become_28 : decode cX6_become 28 = .ok (.iconst 0, 1) := by decide +kernel
theorem dX6_become_29 : decode cX6_become 29 = .ok (.bipush 7, 2) := by decide +kernel
theorem dX6_become_31 : decode cX6_become 31 = .ok (.invokestatic 64, 3) := by decide +kernel
theorem dX6_become_34 : decode cX6_become 34 = .ok (.aload_n 1, 1) := by decide +kernel
theorem dX6_become_35 : decode cX6_become 35 = .ok (.getfield 22, 3) := by decide +kernel
theorem dX6_become_38 : decode cX6_become 38 = .ok (.iconst 0, 1) := by decide +kernel
theorem dX6_become_39 : decode cX6_become 39 = .ok (.aload_n 0, 1) := by decide +kernel
theorem dX6_become_40 : decode cX6_become 40 = .ok (.getfield 22, 3) := by decide +kernel
theorem dX6_become_43 : decode cX6_become 43 = .ok (.iconst 0, 1) := by decide +kernel
theorem dX6_become_44 : decode cX6_become 44 = .ok (.bipush 42, 2) := by decide +kernel
theorem dX6_become_46 : decode cX6_become 46 = .ok (.invokestatic 64, 3) := by decide +kernel
theorem dX6_become_49 : decode cX6_become 49 = .ok (.aload_n 0, 1) := by decide +kernel
theorem dX6_become_50 : decode cX6_become 50 = .ok (.aload_n 1, 1) := by decide +kernel
theorem dX6_become_51 : decode cX6_become 51 = .ok (.getfield 70, 3) := by decide +kernel
theorem dX6_become_54 : decode cX6_become 54 = .ok (.putfield 70, 3) := by decide +kernel
theorem dX6_become_57 : decode cX6_become 57 = .ok (.aload_n 1, 1) := by decide +kernel
theorem dX6_become_58 : decode cX6_become 58 = .ok (.getfield 25, 3) := by decide +kernel
theorem dX6_become_61 : decode cX6_become 61 = .ok (.iconst 0, 1) := by decide +kernel
theorem dX6_become_62 : decode cX6_become 62 = .ok (.aload_n 0, 1) := by decide +kernel
theorem dX6_become_63 : decode cX6_become 63 = .ok (.getfield 25, 3) := by decide +kernel
theorem dX6_become_66 : decode cX6_become 66 = .ok (.iconst 0, 1) := by decide +kernel
theorem dX6_become_67 : decode cX6_become 67 = .ok (.bipush 6, 2) := by decide +kernel
theorem dX6_become_69 : decode cX6_become 69 = .ok (.invokestatic 64, 3) := by decide +kernel
theorem dX6_become_72 : decode cX6_become 72 = .ok (.aload_n 1, 1) := by decide +kernel
theorem dX6_become_73 : decode cX6_become 73 = .ok (.getfield 28, 3) := by decide +kernel
theorem dX6_become_76 : decode cX6_become 76 = .ok (.iconst 0, 1) := by decide +kernel
theorem dX6_become_77 : decode cX6_become 77 = .ok (.aload_n 0, 1) := by decide +kernel
theorem dX6_become_78 : decode cX6_become 78 = .ok (.getfield 28, 3) := by decide +kernel
theorem dX6_become_81 : decode cX6_become 81 = .ok (.iconst 0, 1) := by decide +kernel
theorem dX6_become_82 : decode cX6_become 82 = .ok (.bipush 6, 2) := by decide +kernel
theorem dX6_become_84 : decode cX6_become 84 = .ok (.invokestatic 64, 3) := by decide +kernel
theorem dX6_become_87 : decode cX6_become 87 = .ok (.aload_n 0, 1) := by decide +kernel
theorem dX6_become_88 : decode cX6_become 88 = .ok (.aload_n 1, 1) := by decide +kernel
theorem dX6_become_89 : decode cX6_become 89 = .ok (.getfield 31, 3) := by decide +kernel
theorem dX6_become_92 : decode cX6_become 92 = .ok (.putfield 31, 3) := by decide +kernel
theorem dX6_become_95 : decode cX6_become 95 = .ok (.aload_n 0, 1) := by decide +kernel
theorem dX6_become_96 : decode cX6_become 96 = .ok (.aload_n 1, 1) := by decide +kernel
theorem dX6_become_97 : decode cX6_become 97 = .ok (.getfield 73, 3) := by decide +kernel
theorem dX6_become_100 : decode cX6_become 100 = .ok (.putfield 73, 3) := by decide +kernel
theorem dX6_become_103 : decode cX6_become 103 = .ok (.aload_n 0, 1) := by decide +kernel
theorem dX6_become_104 : decode cX6_become 104 = .ok (.aload_n 1, 1) := by decide +kernel
theorem dX6_become_105 : decode cX6_become 105 = .ok (.getfield 35, 3) := by decide +kernel
theorem dX6_become_108 : decode cX6_become 108 = .ok (.putfield 35, 3) := by decide +kernel
theorem dX6_become_111 : decode cX6_become 111 = .ok (.aload_n 0, 1) := by decide +kernel
theorem dX6_become_112 : decode cX6_become 112 = .ok (.aload_n 1, 1) := by decide +kernel
theorem dX6_become_113 : decode cX6_become 113 = .ok (.getfield 76, 3) := by decide +kernel
theorem dX6_become_116 : decode cX6_become 116 = .ok (.putfield 76, 3) := by decide +kernel
theorem dX6_become_119 : decode cX6_become 119 = .ok (.aload_n 1, 1) := by decide +kernel
theorem dX6_become_120 : decode cX6_become 120 = .ok (.getfield 38, 3) := by decide +kernel
theorem dX6_become_123 : decode cX6_become 123 = .ok (.iconst 0, 1) := by decide +kernel
theorem dX6_become_124 : decode cX6_become 124 = .ok (.aload_n 0, 1) := by decide +kernel
theorem dX6_become_125 : decode cX6_become 125 = .ok (.getfield 38, 3) := by decide +kernel
theorem dX6_become_128 : decode cX6_become 128 = .ok (.iconst 0, 1) := by decide +kernel
theorem dX6_become_129 : decode cX6_become 129 = .ok (.bipush 6, 2) := by decide +kernel
theorem dX6_become_131 : decode cX6_become 131 = .ok (.invokestatic 64, 3) := by decide +kernel
theorem dX6_become_134 : decode cX6_become 134 = .ok (.aload_n 0, 1) := by decide +kernel
theorem dX6_become_135 : decode cX6_become 135 = .ok (.aload_n 1, 1) := by decide +kernel
theorem dX6_become_136 : decode cX6_become 136 = .ok (.getfield 79, 3) := by decide +kernel
theorem dX6_become_139 : decode cX6_become 139 = .ok (.putfield 79, 3) := by decide +kernel
theorem dX6_become_142 : decode cX6_become 142 = .ok (.aload_n 1, 1) := by decide +kernel
theorem dX6_become_143 : decode cX6_become 143 = .ok (.getfield 43, 3) := by decide +kernel
theorem dX6_become_146 : decode cX6_become 146 = .ok (.iconst 0, 1) := by decide +kernel
theorem dX6_become_147 : decode cX6_become 147 = .ok (.aload_n 0, 1) := by decide +kernel
theorem dX6_become_148 : decode cX6_become 148 = .ok (.getfield 43, 3) := by decide +kernel
theorem dX6_become_151 : decode cX6_become 151 = .ok (.iconst 0, 1) := by decide +kernel
theorem dX6_become_152 : decode cX6_become 152 = .ok (.bipush 6, 2) := by decide +kernel
theorem dX6_become_154 : decode cX6_become 154 = .ok (.invokestatic 64, 3) := by decide +kernel
theorem dX6_become_157 : decode cX6_become 157 = .ok (.aload_n 0, 1) := by decide +kernel
theorem dX6_become_158 : decode cX6_become 158 = .ok (.aload_n 1, 1) := by decide +kernel
theorem dX6_become_159 : decode cX6_become 159 = .ok (.getfield 54, 3) := by decide +kernel
theorem dX6_become_162 : decode cX6_become 162 = .ok (.putfield 54, 3) := by decide +kernel
theorem dX6_become_165 : decode cX6_become 165 = .ok (.return_, 1) := by decide +kernel
theorem dX6_hasBird_0 : decode cX6_hasBird 0 = .ok (.iload_n 1, 1) := by decide +kernel
theorem dX6_hasBird_1 : decode cX6_hasBird 1 = .ok (.ifCond .lt 21, 3) := by decide +kernel
theorem dX6_hasBird_4 : decode cX6_hasBird 4 = .ok (.iload_n 1, 1) := by decide +kernel
theorem dX6_hasBird_5 : decode cX6_hasBird 5 = .ok (.aload_n 0, 1) := by decide +kernel
theorem dX6_hasBird_6 : decode cX6_hasBird 6 = .ok (.getfield 61, 3) := by decide +kernel
theorem dX6_hasBird_9 : decode cX6_hasBird 9 = .ok (.if_icmp .ge 13, 3) := by decide +kernel
theorem dX6_hasBird_12 : decode cX6_hasBird 12 = .ok (.iload_n 1, 1) := by decide +kernel
theorem dX6_hasBird_13 : decode cX6_hasBird 13 = .ok (.bipush 7, 2) := by decide +kernel
theorem dX6_hasBird_15 : decode cX6_hasBird 15 = .ok (.if_icmp .ge 7, 3) := by decide +kernel
theorem dX6_hasBird_18 : decode cX6_hasBird 18 = .ok (.iconst 1, 1) := by decide +kernel
theorem dX6_hasBird_19 : decode cX6_hasBird 19 = .ok (.goto 4, 3) := by decide +kernel
theorem dX6_hasBird_22 : decode cX6_hasBird 22 = .ok (.iconst 0, 1) := by decide +kernel
theorem dX6_hasBird_23 : decode cX6_hasBird 23 = .ok (.ireturn, 1) := by decide +kernel
theorem dX6_hasMatter_0 : decode cX6_hasMatter 0 = .ok (.iload_n 1, 1) := by decide +kernel
theorem dX6_hasMatter_1 : decode cX6_hasMatter 1 = .ok (.ifCond .lt 21, 3) := by decide +kernel
theorem dX6_hasMatter_4 : decode cX6_hasMatter 4 = .ok (.iload_n 1, 1) := by decide +kernel
theorem dX6_hasMatter_5 : decode cX6_hasMatter 5 = .ok (.aload_n 0, 1) := by decide +kernel
theorem dX6_hasMatter_6 : decode cX6_hasMatter 6 = .ok (.getfield 70, 3) := by decide +kernel
theorem dX6_hasMatter_9 : decode cX6_hasMatter 9 = .ok (.if_icmp .ge 13, 3) := by decide +kernel
theorem dX6_hasMatter_12 : decode cX6_hasMatter 12 = .ok (.iload_n 1, 1) := by decide +kernel
theorem dX6_hasMatter_13 : decode cX6_hasMatter 13 = .ok (.bipush 6, 2) := by decide +kernel
theorem dX6_hasMatter_15 : decode cX6_hasMatter 15 = .ok (.if_icmp .ge 7, 3) := by decide +kernel
theorem dX6_hasMatter_18 : decode cX6_hasMatter 18 = .ok (.iconst 1, 1) := by decide +kernel
theorem dX6_hasMatter_19 : decode cX6_hasMatter 19 = .ok (.goto 4, 3) := by decide +kernel
theorem dX6_hasMatter_22 : decode cX6_hasMatter 22 = .ok (.iconst 0, 1) := by decide +kernel
theorem dX6_hasMatter_23 : decode cX6_hasMatter 23 = .ok (.ireturn, 1) := by decide +kernel
theorem dX6_hasLaw_0 : decode cX6_hasLaw 0 = .ok (.iload_n 1, 1) := by decide +kernel
theorem dX6_hasLaw_1 : decode cX6_hasLaw 1 = .ok (.ifCond .lt 21, 3) := by decide +kernel
theorem dX6_hasLaw_4 : decode cX6_hasLaw 4 = .ok (.iload_n 1, 1) := by decide +kernel
theorem dX6_hasLaw_5 : decode cX6_hasLaw 5 = .ok (.aload_n 0, 1) := by decide +kernel
theorem dX6_hasLaw_6 : decode cX6_hasLaw 6 = .ok (.getfield 79, 3) := by decide +kernel
theorem dX6_hasLaw_9 : decode cX6_hasLaw 9 = .ok (.if_icmp .ge 13, 3) := by decide +kernel
theorem dX6_hasLaw_12 : decode cX6_hasLaw 12 = .ok (.iload_n 1, 1) := by decide +kernel
theorem dX6_hasLaw_13 : decode cX6_hasLaw 13 = .ok (.bipush 6, 2) := by decide +kernel
theorem dX6_hasLaw_15 : decode cX6_hasLaw 15 = .ok (.if_icmp .ge 7, 3) := by decide +kernel
theorem dX6_hasLaw_18 : decode cX6_hasLaw 18 = .ok (.iconst 1, 1) := by decide +kernel
theorem dX6_hasLaw_19 : decode cX6_hasLaw 19 = .ok (.goto 4, 3) := by decide +kernel
theorem dX6_hasLaw_22 : decode cX6_hasLaw 22 = .ok (.iconst 0, 1) := by decide +kernel
theorem dX6_hasLaw_23 : decode cX6_hasLaw 23 = .ok (.ireturn, 1) := by decide +kernel
theorem dX6_addBird_0 : decode cX6_addBird 0 = .ok (.aload_n 0, 1) := by decide +kernel
theorem dX6_addBird_1 : decode cX6_addBird 1 = .ok (.getfield 61, 3) := by decide +kernel
theorem dX6_addBird_4 : decode cX6_addBird 4 = .ok (.bipush 6, 2) := by decide +kernel
theorem dX6_addBird_6 : decode cX6_addBird 6 = .ok (.invokestatic 82, 3) := by decide +kernel
theorem dX6_addBird_9 : decode cX6_addBird 9 = .ok (.istore_n 3, 1) := by decide +kernel
theorem dX6_addBird_10 : decode cX6_addBird 10 = .ok (.aload_n 0, 1) := by decide +kernel
theorem dX6_addBird_11 : decode cX6_addBird 11 = .ok (.getfield 12, 3) := by decide +kernel
theorem dX6_addBird_14 : decode cX6_addBird 14 = .ok (.getfield 88, 3) := by decide +kernel
theorem dX6_addBird_17 : decode cX6_addBird 17 = .ok (.iload_n 3, 1) := by decide +kernel
theorem dX6_addBird_18 : decode cX6_addBird 18 = .ok (.iload_n 1, 1) := by decide +kernel
theorem dX6_addBird_19 : decode cX6_addBird 19 = .ok (.iastore, 1) := by decide +kernel
theorem dX6_addBird_20 : decode cX6_addBird 20 = .ok (.aload_n 0, 1) := by decide +kernel
theorem dX6_addBird_21 : decode cX6_addBird 21 = .ok (.getfield 18, 3) := by decide +kernel
theorem dX6_addBird_24 : decode cX6_addBird 24 = .ok (.iload_n 3, 1) := by decide +kernel
theorem dX6_addBird_25 : decode cX6_addBird 25 = .ok (.iload_n 2, 1) := by decide +kernel
theorem dX6_addBird_26 : decode cX6_addBird 26 = .ok (.iastore, 1) := by decide +kernel
theorem dX6_addBird_27 : decode cX6_addBird 27 = .ok (.iconst 0, 1) := by decide +kernel
theorem dX6_addBird_28 : decode cX6_addBird 28 = .ok (.istore 4, 2) := by decide +kernel
theorem dX6_addBird_30 : decode cX6_addBird 30 = .ok (.iload 4, 2) := by decide +kernel
theorem dX6_addBird_32 : decode cX6_addBird 32 = .ok (.bipush 6, 2) := by decide +kernel
theorem dX6_addBird_34 : decode cX6_addBird 34 = .ok (.if_icmp .ge 22, 3) := by decide +kernel
theorem dX6_addBird_37 : decode cX6_addBird 37 = .ok (.aload_n 0, 1) := by decide +kernel
theorem dX6_addBird_38 : decode cX6_addBird 38 = .ok (.getfield 22, 3) := by decide +kernel
theorem dX6_addBird_41 : decode cX6_addBird 41 = .ok (.iload_n 3, 1) := by decide +kernel
theorem dX6_addBird_42 : decode cX6_addBird 42 = .ok (.bipush 6, 2) := by decide +kernel
theorem dX6_addBird_44 : decode cX6_addBird 44 = .ok (.imul, 1) := by decide +kernel
theorem dX6_addBird_45 : decode cX6_addBird 45 = .ok (.iload 4, 2) := by decide +kernel
theorem dX6_addBird_47 : decode cX6_addBird 47 = .ok (.iadd, 1) := by decide +kernel
theorem dX6_addBird_48 : decode cX6_addBird 48 = .ok (.iconst 0, 1) := by decide +kernel
theorem dX6_addBird_49 : decode cX6_addBird 49 = .ok (.iastore, 1) := by decide +kernel
theorem dX6_addBird_50 : decode cX6_addBird 50 = .ok (.iinc 4 1, 3) := by decide +kernel
theorem dX6_addBird_53 : decode cX6_addBird 53 = .ok (.goto (-23), 3) := by decide +kernel
theorem dX6_addBird_56 : decode cX6_addBird 56 = .ok (.aload_n 0, 1) := by decide +kernel
theorem dX6_addBird_57 : decode cX6_addBird 57 = .ok (.iload_n 3, 1) := by decide +kernel
theorem dX6_addBird_58 : decode cX6_addBird 58 = .ok (.iconst 1, 1) := by decide +kernel
theorem dX6_addBird_59 : decode cX6_addBird 59 = .ok (.iadd, 1) := by decide +kernel
theorem dX6_addBird_60 : decode cX6_addBird 60 = .ok (.putfield 61, 3) := by decide +kernel
theorem dX6_addBird_63 : decode cX6_addBird 63 = .ok (.iload_n 3, 1) := by decide +kernel
theorem dX6_addBird_64 : decode cX6_addBird 64 = .ok (.ireturn, 1) := by decide +kernel
theorem dX6_addMatter_0 : decode cX6_addMatter 0 = .ok (.aload_n 0, 1) := by decide +kernel
theorem dX6_addMatter_1 : decode cX6_addMatter 1 = .ok (.getfield 70, 3) := by decide +kernel
theorem dX6_addMatter_4 : decode cX6_addMatter 4 = .ok (.iconst 5, 1) := by decide +kernel
theorem dX6_addMatter_5 : decode cX6_addMatter 5 = .ok (.invokestatic 82, 3) := by decide +kernel
theorem dX6_addMatter_8 : decode cX6_addMatter 8 = .ok (.istore_n 3, 1) := by decide +kernel
theorem dX6_addMatter_9 : decode cX6_addMatter 9 = .ok (.aload_n 0, 1) := by decide +kernel
theorem dX6_addMatter_10 : decode cX6_addMatter 10 = .ok (.getfield 12, 3) := by decide +kernel
theorem dX6_addMatter_13 : decode cX6_addMatter 13 = .ok (.getfield 91, 3) := by decide +kernel
theorem dX6_addMatter_16 : decode cX6_addMatter 16 = .ok (.iload_n 3, 1) := by decide +kernel
theorem dX6_addMatter_17 : decode cX6_addMatter 17 = .ok (.iconst 0, 1) := by decide +kernel
theorem dX6_addMatter_18 : decode cX6_addMatter 18 = .ok (.iastore, 1) := by decide +kernel
theorem dX6_addMatter_19 : decode cX6_addMatter 19 = .ok (.aload_n 0, 1) := by decide +kernel
theorem dX6_addMatter_20 : decode cX6_addMatter 20 = .ok (.getfield 25, 3) := by decide +kernel
theorem dX6_addMatter_23 : decode cX6_addMatter 23 = .ok (.iload_n 3, 1) := by decide +kernel
theorem dX6_addMatter_24 : decode cX6_addMatter 24 = .ok (.iload_n 1, 1) := by decide +kernel
theorem dX6_addMatter_25 : decode cX6_addMatter 25 = .ok (.iastore, 1) := by decide +kernel
theorem dX6_addMatter_26 : decode cX6_addMatter 26 = .ok (.aload_n 0, 1) := by decide +kernel
theorem dX6_addMatter_27 : decode cX6_addMatter 27 = .ok (.getfield 28, 3) := by decide +kernel
theorem dX6_addMatter_30 : decode cX6_addMatter 30 = .ok (.iload_n 3, 1) := by decide +kernel
theorem dX6_addMatter_31 : decode cX6_addMatter 31 = .ok (.iload_n 2, 1) := by decide +kernel
theorem dX6_addMatter_32 : decode cX6_addMatter 32 = .ok (.iastore, 1) := by decide +kernel
theorem dX6_addMatter_33 : decode cX6_addMatter 33 = .ok (.aload_n 0, 1) := by decide +kernel
theorem dX6_addMatter_34 : decode cX6_addMatter 34 = .ok (.iload_n 3, 1) := by decide +kernel
theorem dX6_addMatter_35 : decode cX6_addMatter 35 = .ok (.iconst 1, 1) := by decide +kernel
theorem dX6_addMatter_36 : decode cX6_addMatter 36 = .ok (.iadd, 1) := by decide +kernel
theorem dX6_addMatter_37 : decode cX6_addMatter 37 = .ok (.putfield 70, 3) := by decide +kernel
theorem dX6_addMatter_40 : decode cX6_addMatter 40 = .ok (.iload_n 3, 1) := by decide +kernel
theorem dX6_addMatter_41 : decode cX6_addMatter 41 = .ok (.ireturn, 1) := by decide +kernel
theorem dX6_hear_0 : decode cX6_hear 0 = .ok (.aload_n 0, 1) := by decide +kernel
theorem dX6_hear_1 : decode cX6_hear 1 = .ok (.getfield 76, 3) := by decide +kernel
theorem dX6_hear_4 : decode cX6_hear 4 = .ok (.ifCond .lt 32, 3) := by decide +kernel
theorem dX6_hear_7 : decode cX6_hear 7 = .ok (.aload_n 0, 1) := by decide +kernel
theorem dX6_hear_8 : decode cX6_hear 8 = .ok (.getfield 76, 3) := by decide +kernel
theorem dX6_hear_11 : decode cX6_hear 11 = .ok (.bipush 6, 2) := by decide +kernel
theorem dX6_hear_13 : decode cX6_hear 13 = .ok (.if_icmp .ge 23, 3) := by decide +kernel
theorem dX6_hear_16 : decode cX6_hear 16 = .ok (.aload_n 0, 1) := by decide +kernel
theorem dX6_hear_17 : decode cX6_hear 17 = .ok (.getfield 38, 3) := by decide +kernel
theorem dX6_hear_20 : decode cX6_hear 20 = .ok (.aload_n 0, 1) := by decide +kernel
theorem dX6_hear_21 : decode cX6_hear 21 = .ok (.getfield 76, 3) := by decide +kernel
theorem dX6_hear_24 : decode cX6_hear 24 = .ok (.iload_n 1, 1) := by decide +kernel
theorem dX6_hear_25 : decode cX6_hear 25 = .ok (.iastore, 1) := by decide +kernel
theorem dX6_hear_26 : decode cX6_hear 26 = .ok (.aload_n 0, 1) := by decide +kernel
theorem dX6_hear_27 : decode cX6_hear 27 = .ok (.dup, 1) := by decide +kernel
theorem dX6_hear_28 : decode cX6_hear 28 = .ok (.getfield 76, 3) := by decide +kernel
theorem dX6_hear_31 : decode cX6_hear 31 = .ok (.iconst 1, 1) := by decide +kernel
theorem dX6_hear_32 : decode cX6_hear 32 = .ok (.iadd, 1) := by decide +kernel
theorem dX6_hear_33 : decode cX6_hear 33 = .ok (.putfield 76, 3) := by decide +kernel
theorem dX6_hear_36 : decode cX6_hear 36 = .ok (.return_, 1) := by decide +kernel
theorem dX6_fitsAllHeard_0 : decode cX6_fitsAllHeard 0 = .ok (.iconst 0, 1) := by decide +kernel
theorem dX6_fitsAllHeard_1 : decode cX6_fitsAllHeard 1 = .ok (.istore_n 2, 1) := by decide +kernel
theorem dX6_fitsAllHeard_2 : decode cX6_fitsAllHeard 2 = .ok (.iload_n 2, 1) := by decide +kernel
theorem dX6_fitsAllHeard_3 : decode cX6_fitsAllHeard 3 = .ok (.aload_n 0, 1) := by decide +kernel
theorem dX6_fitsAllHeard_4 : decode cX6_fitsAllHeard 4 = .ok (.getfield 76, 3) := by decide +kernel
theorem dX6_fitsAllHeard_7 : decode cX6_fitsAllHeard 7 = .ok (.if_icmp .ge 27, 3) := by decide +kernel
theorem dX6_fitsAllHeard_10 : decode cX6_fitsAllHeard 10 = .ok (.iload_n 2, 1) := by decide +kernel
theorem dX6_fitsAllHeard_11 : decode cX6_fitsAllHeard 11 = .ok (.bipush 6, 2) := by decide +kernel
theorem dX6_fitsAllHeard_13 : decode cX6_fitsAllHeard 13 = .ok (.if_icmp .ge 21, 3) := by decide +kernel
theorem dX6_fitsAllHeard_16 : decode cX6_fitsAllHeard 16 = .ok (.aload_n 0, 1) := by decide +kernel
theorem dX6_fitsAllHeard_17 : decode cX6_fitsAllHeard 17 = .ok (.getfield 38, 3) := by decide +kernel
theorem dX6_fitsAllHeard_20 : decode cX6_fitsAllHeard 20 = .ok (.iload_n 2, 1) := by decide +kernel
theorem dX6_fitsAllHeard_21 : decode cX6_fitsAllHeard 21 = .ok (.iaload, 1) := by decide +kernel
theorem dX6_fitsAllHeard_22 : decode cX6_fitsAllHeard 22 = .ok (.iload_n 1, 1) := by decide +kernel
theorem dX6_fitsAllHeard_23 : decode cX6_fitsAllHeard 23 = .ok (.if_icmp .eq 5, 3) := by decide +kernel
theorem dX6_fitsAllHeard_26 : decode cX6_fitsAllHeard 26 = .ok (.iconst 0, 1) := by decide +kernel
theorem dX6_fitsAllHeard_27 : decode cX6_fitsAllHeard 27 = .ok (.ireturn, 1) := by decide +kernel
theorem dX6_fitsAllHeard_28 : decode cX6_fitsAllHeard 28 = .ok (.iinc 2 1, 3) := by decide +kernel
theorem dX6_fitsAllHeard_31 : decode cX6_fitsAllHeard 31 = .ok (.goto (-29), 3) := by decide +kernel
theorem dX6_fitsAllHeard_34 : decode cX6_fitsAllHeard 34 = .ok (.iconst 1, 1) := by decide +kernel
theorem dX6_fitsAllHeard_35 : decode cX6_fitsAllHeard 35 = .ok (.ireturn, 1) := by decide +kernel
theorem dX6_lawInForce_0 : decode cX6_lawInForce 0 = .ok (.aload_n 0, 1) := by decide +kernel
theorem dX6_lawInForce_1 : decode cX6_lawInForce 1 = .ok (.aload_n 0, 1) := by decide +kernel
theorem dX6_lawInForce_2 : decode cX6_lawInForce 2 = .ok (.getfield 54, 3) := by decide +kernel
theorem dX6_lawInForce_5 : decode cX6_lawInForce 5 = .ok (.invokevirtual 94, 3) := by decide +kernel
theorem dX6_lawInForce_8 : decode cX6_lawInForce 8 = .ok (.areturn, 1) := by decide +kernel
theorem dX6_lawOf_0 : decode cX6_lawOf 0 = .ok (.aload_n 0, 1) := by decide +kernel
theorem dX6_lawOf_1 : decode cX6_lawOf 1 = .ok (.iload_n 1, 1) := by decide +kernel
theorem dX6_lawOf_2 : decode cX6_lawOf 2 = .ok (.invokevirtual 98, 3) := by decide +kernel
theorem dX6_lawOf_5 : decode cX6_lawOf 5 = .ok (.ifCond .eq 12, 3) := by decide +kernel
theorem dX6_lawOf_8 : decode cX6_lawOf 8 = .ok (.aload_n 0, 1) := by decide +kernel
theorem dX6_lawOf_9 : decode cX6_lawOf 9 = .ok (.getfield 43, 3) := by decide +kernel
theorem dX6_lawOf_12 : decode cX6_lawOf 12 = .ok (.iload_n 1, 1) := by decide +kernel
theorem dX6_lawOf_13 : decode cX6_lawOf 13 = .ok (.aaload, 1) := by decide +kernel
theorem dX6_lawOf_14 : decode cX6_lawOf 14 = .ok (.goto 4, 3) := by decide +kernel
theorem dX6_lawOf_17 : decode cX6_lawOf 17 = .ok (.aconst_null, 1) := by decide +kernel
theorem dX6_lawOf_18 : decode cX6_lawOf 18 = .ok (.astore_n 2, 1) := by decide +kernel
theorem dX6_lawOf_19 : decode cX6_lawOf 19 = .ok (.aload_n 2, 1) := by decide +kernel
theorem dX6_lawOf_20 : decode cX6_lawOf 20 = .ok (.ifnonnull 10, 3) := by decide +kernel
theorem dX6_lawOf_23 : decode cX6_lawOf 23 = .ok (.aload_n 0, 1) := by decide +kernel
theorem dX6_lawOf_24 : decode cX6_lawOf 24 = .ok (.getfield 50, 3) := by decide +kernel
theorem dX6_lawOf_27 : decode cX6_lawOf 27 = .ok (.goto 4, 3) := by decide +kernel
theorem dX6_lawOf_30 : decode cX6_lawOf 30 = .ok (.aload_n 2, 1) := by decide +kernel
theorem dX6_lawOf_31 : decode cX6_lawOf 31 = .ok (.areturn, 1) := by decide +kernel
theorem dX7_init_0 : decode cX7_init 0 = .ok (.aload_n 0, 1) := by decide +kernel
theorem dX7_init_1 : decode cX7_init 1 = .ok (.invokespecial 3, 3) := by decide +kernel
theorem dX7_init_4 : decode cX7_init 4 = .ok (.aload_n 0, 1) := by decide +kernel
theorem dX7_init_5 : decode cX7_init 5 = .ok (.bipush 7, 2) := by decide +kernel
theorem dX7_init_7 : decode cX7_init 7 = .ok (.newarray .int, 2) := by decide +kernel
theorem dX7_init_9 : decode cX7_init 9 = .ok (.putfield 9, 3) := by decide +kernel
theorem dX7_init_12 : decode cX7_init 12 = .ok (.aload_n 0, 1) := by decide +kernel
theorem dX7_init_13 : decode cX7_init 13 = .ok (.bipush 6, 2) := by decide +kernel
theorem dX7_init_15 : decode cX7_init 15 = .ok (.newarray .int, 2) := by decide +kernel
theorem dX7_init_17 : decode cX7_init 17 = .ok (.putfield 15, 3) := by decide +kernel
theorem dX7_init_20 : decode cX7_init 20 = .ok (.return_, 1) := by decide +kernel
theorem dX7_become_0 : decode cX7_become 0 = .ok (.aload_n 1, 1) := by decide +kernel
theorem dX7_become_1 : decode cX7_become 1 = .ok (.getfield 9, 3) := by decide +kernel
theorem dX7_become_4 : decode cX7_become 4 = .ok (.iconst 0, 1) := by decide +kernel
theorem dX7_become_5 : decode cX7_become 5 = .ok (.aload_n 0, 1) := by decide +kernel
theorem dX7_become_6 : decode cX7_become 6 = .ok (.getfield 9, 3) := by decide +kernel
theorem dX7_become_9 : decode cX7_become 9 = .ok (.iconst 0, 1) := by decide +kernel
theorem dX7_become_10 : decode cX7_become 10 = .ok (.bipush 7, 2) := by decide +kernel
theorem dX7_become_12 : decode cX7_become 12 = .ok (.invokestatic 18, 3) := by decide +kernel
theorem dX7_become_15 : decode cX7_become 15 = .ok (.aload_n 1, 1) := by decide +kernel
theorem dX7_become_16 : decode cX7_become 16 = .ok (.getfield 15, 3) := by decide +kernel
theorem dX7_become_19 : decode cX7_become 19 = .ok (.iconst 0, 1) := by decide +kernel
theorem dX7_become_20 : decode cX7_become 20 = .ok (.aload_n 0, 1) := by decide +kernel
theorem dX7_become_21 : decode cX7_become 21 = .ok (.getfield 15, 3) := by decide +kernel
theorem dX7_become_24 : decode cX7_become 24 = .ok (.iconst 0, 1) := by decide +kernel
theorem dX7_become_25 : decode cX7_become 25 = .ok (.bipush 6, 2) := by decide +kernel
theorem dX7_become_27 : decode cX7_become 27 = .ok (.invokestatic 18, 3) := by decide +kernel
theorem dX7_become_30 : decode cX7_become 30 = .ok (.aload_n 0, 1) := by decide +kernel
theorem dX7_become_31 : decode cX7_become 31 = .ok (.aload_n 1, 1) := by decide +kernel
theorem dX7_become_32 : decode cX7_become 32 = .ok (.getfield 24, 3) := by decide +kernel
theorem dX7_become_35 : decode cX7_become 35 = .ok (.putfield 24, 3) := by decide +kernel
theorem dX7_become_38 : decode cX7_become 38 = .ok (.aload_n 0, 1) := by decide +kernel
theorem dX7_become_39 : decode cX7_become 39 = .ok (.aload_n 1, 1) := by decide +kernel
theorem dX7_become_40 : decode cX7_become 40 = .ok (.getfield 28, 3) := by decide +kernel
theorem dX7_become_43 : decode cX7_become 43 = .ok (.putfield 28, 3) := by decide +kernel
theorem dX7_become_46 : decode cX7_become 46 = .ok (.return_, 1) := by decide +kernel
theorem dX7_writeTo_0 : decode cX7_writeTo 0 = .ok (.iload_n 2, 1) := by decide +kernel
theorem dX7_writeTo_1 : decode cX7_writeTo 1 = .ok (.ifCond .lt 12, 3) := by decide +kernel
theorem dX7_writeTo_4 : decode cX7_writeTo 4 = .ok (.iload_n 2, 1) := by decide +kernel
theorem dX7_writeTo_5 : decode cX7_writeTo 5 = .ok (.bipush 15, 2) := by decide +kernel
theorem dX7_writeTo_7 : decode cX7_writeTo 7 = .ok (.iadd, 1) := by decide +kernel
theorem dX7_writeTo_8 : decode cX7_writeTo 8 = .ok (.aload_n 1, 1) := by decide +kernel
theorem dX7_writeTo_9 : decode cX7_writeTo 9 = .ok (.arraylength, 1) := by decide +kernel
theorem dX7_writeTo_10 : decode cX7_writeTo 10 = .ok (.if_icmp .le 4, 3) := by decide +kernel
theorem dX7_writeTo_13 : decode cX7_writeTo 13 = .ok (.return_, 1) := by decide +kernel
theorem dX7_writeTo_14 : decode cX7_writeTo 14 = .ok (.aload_n 0, 1) := by decide +kernel
theorem dX7_writeTo_15 : decode cX7_writeTo 15 = .ok (.getfield 9, 3) := by decide +kernel
theorem dX7_writeTo_18 : decode cX7_writeTo 18 = .ok (.iconst 0, 1) := by decide +kernel
theorem dX7_writeTo_19 : decode cX7_writeTo 19 = .ok (.aload_n 1, 1) := by decide +kernel
theorem dX7_writeTo_20 : decode cX7_writeTo 20 = .ok (.iload_n 2, 1) := by decide +kernel
theorem dX7_writeTo_21 : decode cX7_writeTo 21 = .ok (.bipush 7, 2) := by decide +kernel
theorem dX7_writeTo_23 : decode cX7_writeTo 23 = .ok (.invokestatic 18, 3) := by decide +kernel
theorem dX7_writeTo_26 : decode cX7_writeTo 26 = .ok (.aload_n 0, 1) := by decide +kernel
theorem dX7_writeTo_27 : decode cX7_writeTo 27 = .ok (.getfield 15, 3) := by decide +kernel
theorem dX7_writeTo_30 : decode cX7_writeTo 30 = .ok (.iconst 0, 1) := by decide +kernel
theorem dX7_writeTo_31 : decode cX7_writeTo 31 = .ok (.aload_n 1, 1) := by decide +kernel
theorem dX7_writeTo_32 : decode cX7_writeTo 32 = .ok (.iload_n 2, 1) := by decide +kernel
theorem dX7_writeTo_33 : decode cX7_writeTo 33 = .ok (.bipush 7, 2) := by decide +kernel
theorem dX7_writeTo_35 : decode cX7_writeTo 35 = .ok (.iadd, 1) := by decide +kernel
theorem dX7_writeTo_36 : decode cX7_writeTo 36 = .ok (.bipush 6, 2) := by decide +kernel
theorem dX7_writeTo_38 : decode cX7_writeTo 38 = .ok (.invokestatic 18, 3) := by decide +kernel
theorem dX7_writeTo_41 : decode cX7_writeTo 41 = .ok (.aload_n 1, 1) := by decide +kernel
theorem dX7_writeTo_42 : decode cX7_writeTo 42 = .ok (.iload_n 2, 1) := by decide +kernel
theorem dX7_writeTo_43 : decode cX7_writeTo 43 = .ok (.bipush 7, 2) := by decide +kernel
theorem dX7_writeTo_45 : decode cX7_writeTo 45 = .ok (.iadd, 1) := by decide +kernel
theorem dX7_writeTo_46 : decode cX7_writeTo 46 = .ok (.bipush 6, 2) := by decide +kernel
theorem dX7_writeTo_48 : decode cX7_writeTo 48 = .ok (.iadd, 1) := by decide +kernel
theorem dX7_writeTo_49 : decode cX7_writeTo 49 = .ok (.aload_n 0, 1) := by decide +kernel
theorem dX7_writeTo_50 : decode cX7_writeTo 50 = .ok (.getfield 24, 3) := by decide +kernel
theorem dX7_writeTo_53 : decode cX7_writeTo 53 = .ok (.iastore, 1) := by decide +kernel
theorem dX7_writeTo_54 : decode cX7_writeTo 54 = .ok (.aload_n 1, 1) := by decide +kernel
theorem dX7_writeTo_55 : decode cX7_writeTo 55 = .ok (.iload_n 2, 1) := by decide +kernel
theorem dX7_writeTo_56 : decode cX7_writeTo 56 = .ok (.bipush 7, 2) := by decide +kernel
theorem dX7_writeTo_58 : decode cX7_writeTo 58 = .ok (.iadd, 1) := by decide +kernel
theorem dX7_writeTo_59 : decode cX7_writeTo 59 = .ok (.bipush 6, 2) := by decide +kernel
theorem dX7_writeTo_61 : decode cX7_writeTo 61 = .ok (.iadd, 1) := by decide +kernel
theorem dX7_writeTo_62 : decode cX7_writeTo 62 = .ok (.iconst 1, 1) := by decide +kernel
theorem dX7_writeTo_63 : decode cX7_writeTo 63 = .ok (.iadd, 1) := by decide +kernel
theorem dX7_writeTo_64 : decode cX7_writeTo 64 = .ok (.aload_n 0, 1) := by decide +kernel
theorem dX7_writeTo_65 : decode cX7_writeTo 65 = .ok (.getfield 28, 3) := by decide +kernel
theorem dX7_writeTo_68 : decode cX7_writeTo 68 = .ok (.iastore, 1) := by decide +kernel
theorem dX7_writeTo_69 : decode cX7_writeTo 69 = .ok (.return_, 1) := by decide +kernel
theorem dX7_readFrom_0 : decode cX7_readFrom 0 = .ok (.iload_n 2, 1) := by decide +kernel
theorem dX7_readFrom_1 : decode cX7_readFrom 1 = .ok (.ifCond .lt 12, 3) := by decide +kernel
theorem dX7_readFrom_4 : decode cX7_readFrom 4 = .ok (.iload_n 2, 1) := by decide +kernel
theorem dX7_readFrom_5 : decode cX7_readFrom 5 = .ok (.bipush 15, 2) := by decide +kernel
theorem dX7_readFrom_7 : decode cX7_readFrom 7 = .ok (.iadd, 1) := by decide +kernel
theorem dX7_readFrom_8 : decode cX7_readFrom 8 = .ok (.aload_n 1, 1) := by decide +kernel
theorem dX7_readFrom_9 : decode cX7_readFrom 9 = .ok (.arraylength, 1) := by decide +kernel
theorem dX7_readFrom_10 : decode cX7_readFrom 10 = .ok (.if_icmp .le 4, 3) := by decide +kernel
theorem dX7_readFrom_13 : decode cX7_readFrom 13 = .ok (.return_, 1) := by decide +kernel
theorem dX7_readFrom_14 : decode cX7_readFrom 14 = .ok (.aload_n 1, 1) := by decide +kernel
theorem dX7_readFrom_15 : decode cX7_readFrom 15 = .ok (.iload_n 2, 1) := by decide +kernel
theorem dX7_readFrom_16 : decode cX7_readFrom 16 = .ok (.aload_n 0, 1) := by decide +kernel
theorem dX7_readFrom_17 : decode cX7_readFrom 17 = .ok (.getfield 9, 3) := by decide +kernel
theorem dX7_readFrom_20 : decode cX7_readFrom 20 = .ok (.iconst 0, 1) := by decide +kernel
theorem dX7_readFrom_21 : decode cX7_readFrom 21 = .ok (.bipush 7, 2) := by decide +kernel
theorem dX7_readFrom_23 : decode cX7_readFrom 23 = .ok (.invokestatic 18, 3) := by decide +kernel
theorem dX7_readFrom_26 : decode cX7_readFrom 26 = .ok (.aload_n 1, 1) := by decide +kernel
theorem dX7_readFrom_27 : decode cX7_readFrom 27 = .ok (.iload_n 2, 1) := by decide +kernel
theorem dX7_readFrom_28 : decode cX7_readFrom 28 = .ok (.bipush 7, 2) := by decide +kernel
theorem dX7_readFrom_30 : decode cX7_readFrom 30 = .ok (.iadd, 1) := by decide +kernel
theorem dX7_readFrom_31 : decode cX7_readFrom 31 = .ok (.aload_n 0, 1) := by decide +kernel
theorem dX7_readFrom_32 : decode cX7_readFrom 32 = .ok (.getfield 15, 3) := by decide +kernel
theorem dX7_readFrom_35 : decode cX7_readFrom 35 = .ok (.iconst 0, 1) := by decide +kernel
theorem dX7_readFrom_36 : decode cX7_readFrom 36 = .ok (.bipush 6, 2) := by decide +kernel
theorem dX7_readFrom_38 : decode cX7_readFrom 38 = .ok (.invokestatic 18, 3) := by decide +kernel
theorem dX7_readFrom_41 : decode cX7_readFrom 41 = .ok (.aload_n 0, 1) := by decide +kernel
theorem dX7_readFrom_42 : decode cX7_readFrom 42 = .ok (.aload_n 1, 1) := by decide +kernel
theorem dX7_readFrom_43 : decode cX7_readFrom 43 = .ok (.iload_n 2, 1) := by decide +kernel
theorem dX7_readFrom_44 : decode cX7_readFrom 44 = .ok (.bipush 7, 2) := by decide +kernel
theorem dX7_readFrom_46 : decode cX7_readFrom 46 = .ok (.iadd, 1) := by decide +kernel
theorem dX7_readFrom_47 : decode cX7_readFrom 47 = .ok (.bipush 6, 2) := by decide +kernel
theorem dX7_readFrom_49 : decode cX7_readFrom 49 = .ok (.iadd, 1) := by decide +kernel
theorem dX7_readFrom_50 : decode cX7_readFrom 50 = .ok (.iaload, 1) := by decide +kernel
theorem dX7_readFrom_51 : decode cX7_readFrom 51 = .ok (.putfield 24, 3) := by decide +kernel
theorem dX7_readFrom_54 : decode cX7_readFrom 54 = .ok (.aload_n 0, 1) := by decide +kernel
theorem dX7_readFrom_55 : decode cX7_readFrom 55 = .ok (.aload_n 1, 1) := by decide +kernel
theorem dX7_readFrom_56 : decode cX7_readFrom 56 = .ok (.iload_n 2, 1) := by decide +kernel
theorem dX7_readFrom_57 : decode cX7_readFrom 57 = .ok (.bipush 7, 2) := by decide +kernel
theorem dX7_readFrom_59 : decode cX7_readFrom 59 = .ok (.iadd, 1) := by decide +kernel
theorem dX7_readFrom_60 : decode cX7_readFrom 60 = .ok (.bipush 6, 2) := by decide +kernel
theorem dX7_readFrom_62 : decode cX7_readFrom 62 = .ok (.iadd, 1) := by decide +kernel
theorem dX7_readFrom_63 : decode cX7_readFrom 63 = .ok (.iconst 1, 1) := by decide +kernel
theorem dX7_readFrom_64 : decode cX7_readFrom 64 = .ok (.iadd, 1) := by decide +kernel
theorem dX7_readFrom_65 : decode cX7_readFrom 65 = .ok (.iaload, 1) := by decide +kernel
theorem dX7_readFrom_66 : decode cX7_readFrom 66 = .ok (.putfield 28, 3) := by decide +kernel
theorem dX7_readFrom_69 : decode cX7_readFrom 69 = .ok (.return_, 1) := by decide +kernel
theorem dX8_init_0 : decode cX8_init 0 = .ok (.aload_n 0, 1) := by decide +kernel
theorem dX8_init_1 : decode cX8_init 1 = .ok (.invokespecial 3, 3) := by decide +kernel
theorem dX8_init_4 : decode cX8_init 4 = .ok (.aload_n 0, 1) := by decide +kernel
theorem dX8_init_5 : decode cX8_init 5 = .ok (.iconst 0, 1) := by decide +kernel
theorem dX8_init_6 : decode cX8_init 6 = .ok (.iload_n 1, 1) := by decide +kernel
theorem dX8_init_7 : decode cX8_init 7 = .ok (.invokestatic 9, 3) := by decide +kernel
theorem dX8_init_10 : decode cX8_init 10 = .ok (.newarray .int, 2) := by decide +kernel
theorem dX8_init_12 : decode cX8_init 12 = .ok (.putfield 15, 3) := by decide +kernel
theorem dX8_init_15 : decode cX8_init 15 = .ok (.aload_n 0, 1) := by decide +kernel
theorem dX8_init_16 : decode cX8_init 16 = .ok (.iconst 0, 1) := by decide +kernel
theorem dX8_init_17 : decode cX8_init 17 = .ok (.iload_n 2, 1) := by decide +kernel
theorem dX8_init_18 : decode cX8_init 18 = .ok (.invokestatic 9, 3) := by decide +kernel
theorem dX8_init_21 : decode cX8_init 21 = .ok (.bipush 6, 2) := by decide +kernel
theorem dX8_init_23 : decode cX8_init 23 = .ok (.imul, 1) := by decide +kernel
theorem dX8_init_24 : decode cX8_init 24 = .ok (.newarray .int, 2) := by decide +kernel
theorem dX8_init_26 : decode cX8_init 26 = .ok (.putfield 21, 3) := by decide +kernel
theorem dX8_init_29 : decode cX8_init 29 = .ok (.return_, 1) := by decide +kernel
theorem dX8_copied_0 : decode cX8_copied 0 = .ok (.new 16, 3) := by decide +kernel
theorem dX8_copied_3 : decode cX8_copied 3 = .ok (.dup, 1) := by decide +kernel
theorem dX8_copied_4 : decode cX8_copied 4 = .ok (.aload_n 0, 1) := by decide +kernel
theorem dX8_copied_5 : decode cX8_copied 5 = .ok (.getfield 24, 3) := by decide +kernel
theorem dX8_copied_8 : decode cX8_copied 8 = .ok (.aload_n 0, 1) := by decide +kernel
theorem dX8_copied_9 : decode cX8_copied 9 = .ok (.getfield 28, 3) := by decide +kernel
theorem dX8_copied_12 : decode cX8_copied 12 = .ok (.invokespecial 31, 3) := by decide +kernel
theorem dX8_copied_15 : decode cX8_copied 15 = .ok (.astore_n 1, 1) := by decide +kernel
theorem dX8_copied_16 : decode cX8_copied 16 = .ok (.aload_n 0, 1) := by decide +kernel
theorem dX8_copied_17 : decode cX8_copied 17 = .ok (.getfield 15, 3) := by decide +kernel
theorem dX8_copied_20 : decode cX8_copied 20 = .ok (.iconst 0, 1) := by decide +kernel
theorem dX8_copied_21 : decode cX8_copied 21 = .ok (.aload_n 1, 1) := by decide +kernel
theorem dX8_copied_22 : decode cX8_copied 22 = .ok (.getfield 15, 3) := by decide +kernel
theorem dX8_copied_25 : decode cX8_copied 25 = .ok (.iconst 0, 1) := by decide +kernel
theorem dX8_copied_26 : decode cX8_copied 26 = .ok (.aload_n 1, 1) := by decide +kernel
theorem dX8_copied_27 : decode cX8_copied 27 = .ok (.getfield 15, 3) := by decide +kernel
theorem dX8_copied_30 : decode cX8_copied 30 = .ok (.arraylength, 1) := by decide +kernel
theorem dX8_copied_31 : decode cX8_copied 31 = .ok (.invokestatic 34, 3) := by decide +kernel
theorem dX8_copied_34 : decode cX8_copied 34 = .ok (.aload_n 0, 1) := by decide +kernel
theorem dX8_copied_35 : decode cX8_copied 35 = .ok (.getfield 21, 3) := by decide +kernel
theorem dX8_copied_38 : decode cX8_copied 38 = .ok (.iconst 0, 1) := by decide +kernel
theorem dX8_copied_39 : decode cX8_copied 39 = .ok (.aload_n 1, 1) := by decide +kernel
theorem dX8_copied_40 : decode cX8_copied 40 = .ok (.getfield 21, 3) := by decide +kernel
theorem dX8_copied_43 : decode cX8_copied 43 = .ok (.iconst 0, 1) := by decide +kernel
theorem dX8_copied_44 : decode cX8_copied 44 = .ok (.aload_n 1, 1) := by decide +kernel
theorem dX8_copied_45 : decode cX8_copied 45 = .ok (.getfield 21, 3) := by decide +kernel
theorem dX8_copied_48 : decode cX8_copied 48 = .ok (.arraylength, 1) := by decide +kernel
theorem dX8_copied_49 : decode cX8_copied 49 = .ok (.invokestatic 34, 3) := by decide +kernel
theorem dX8_copied_52 : decode cX8_copied 52 = .ok (.aload_n 1, 1) := by decide +kernel
theorem dX8_copied_53 : decode cX8_copied 53 = .ok (.aload_n 0, 1) := by decide +kernel
theorem dX8_copied_54 : decode cX8_copied 54 = .ok (.getfield 24, 3) := by decide +kernel
theorem dX8_copied_57 : decode cX8_copied 57 = .ok (.putfield 24, 3) := by decide +kernel
theorem dX8_copied_60 : decode cX8_copied 60 = .ok (.aload_n 1, 1) := by decide +kernel
theorem dX8_copied_61 : decode cX8_copied 61 = .ok (.aload_n 0, 1) := by decide +kernel
theorem dX8_copied_62 : decode cX8_copied 62 = .ok (.getfield 28, 3) := by decide +kernel
theorem dX8_copied_65 : decode cX8_copied 65 = .ok (.putfield 28, 3) := by decide +kernel
theorem dX8_copied_68 : decode cX8_copied 68 = .ok (.aload_n 1, 1) := by decide +kernel
theorem dX8_copied_69 : decode cX8_copied 69 = .ok (.areturn, 1) := by decide +kernel
theorem dX8_head_0 : decode cX8_head 0 = .ok (.iload_n 1, 1) := by decide +kernel
theorem dX8_head_1 : decode cX8_head 1 = .ok (.bipush 6, 2) := by decide +kernel
theorem dX8_head_3 : decode cX8_head 3 = .ok (.imul, 1) := by decide +kernel
theorem dX8_head_4 : decode cX8_head 4 = .ok (.iload_n 2, 1) := by decide +kernel
theorem dX8_head_5 : decode cX8_head 5 = .ok (.iadd, 1) := by decide +kernel
theorem dX8_head_6 : decode cX8_head 6 = .ok (.istore_n 3, 1) := by decide +kernel
theorem dX8_head_7 : decode cX8_head 7 = .ok (.iload_n 3, 1) := by decide +kernel
theorem dX8_head_8 : decode cX8_head 8 = .ok (.ifCond .lt 21, 3) := by decide +kernel
theorem dX8_head_11 : decode cX8_head 11 = .ok (.iload_n 3, 1) := by decide +kernel
theorem dX8_head_12 : decode cX8_head 12 = .ok (.aload_n 0, 1) := by decide +kernel
theorem dX8_head_13 : decode cX8_head 13 = .ok (.getfield 21, 3) := by decide +kernel
theorem dX8_head_16 : decode cX8_head 16 = .ok (.arraylength, 1) := by decide +kernel
theorem dX8_head_17 : decode cX8_head 17 = .ok (.if_icmp .ge 12, 3) := by decide +kernel
theorem dX8_head_20 : decode cX8_head 20 = .ok (.aload_n 0, 1) := by decide +kernel
theorem dX8_head_21 : decode cX8_head 21 = .ok (.getfield 21, 3) := by decide +kernel
theorem dX8_head_24 : decode cX8_head 24 = .ok (.iload_n 3, 1) := by decide +kernel
theorem dX8_head_25 : decode cX8_head 25 = .ok (.iaload, 1) := by decide +kernel
theorem dX8_head_26 : decode cX8_head 26 = .ok (.goto 4, 3) := by decide +kernel
theorem dX8_head_29 : decode cX8_head 29 = .ok (.iconst 0, 1) := by decide +kernel
theorem dX8_head_30 : decode cX8_head 30 = .ok (.ireturn, 1) := by decide +kernel
theorem dX8_setHead_0 : decode cX8_setHead 0 = .ok (.iload_n 1, 1) := by decide +kernel
theorem dX8_setHead_1 : decode cX8_setHead 1 = .ok (.bipush 6, 2) := by decide +kernel
theorem dX8_setHead_3 : decode cX8_setHead 3 = .ok (.imul, 1) := by decide +kernel
theorem dX8_setHead_4 : decode cX8_setHead 4 = .ok (.iload_n 2, 1) := by decide +kernel
theorem dX8_setHead_5 : decode cX8_setHead 5 = .ok (.iadd, 1) := by decide +kernel
theorem dX8_setHead_6 : decode cX8_setHead 6 = .ok (.istore 4, 2) := by decide +kernel
theorem dX8_setHead_8 : decode cX8_setHead 8 = .ok (.iload 4, 2) := by decide +kernel
theorem dX8_setHead_10 : decode cX8_setHead 10 = .ok (.ifCond .lt 21, 3) := by decide +kernel
theorem dX8_setHead_13 : decode cX8_setHead 13 = .ok (.iload 4, 2) := by decide +kernel
theorem dX8_setHead_15 : decode cX8_setHead 15 = .ok (.aload_n 0, 1) := by decide +kernel
theorem dX8_setHead_16 : decode cX8_setHead 16 = .ok (.getfield 21, 3) := by decide +kernel
theorem dX8_setHead_19 : decode cX8_setHead 19 = .ok (.arraylength, 1) := by decide +kernel
theorem dX8_setHead_20 : decode cX8_setHead 20 = .ok (.if_icmp .ge 11, 3) := by decide +kernel
theorem dX8_setHead_23 : decode cX8_setHead 23 = .ok (.aload_n 0, 1) := by decide +kernel
theorem dX8_setHead_24 : decode cX8_setHead 24 = .ok (.getfield 21, 3) := by decide +kernel
theorem dX8_setHead_27 : decode cX8_setHead 27 = .ok (.iload 4, 2) := by decide +kernel
theorem dX8_setHead_29 : decode cX8_setHead 29 = .ok (.iload_n 3, 1) := by decide +kernel
theorem dX8_setHead_30 : decode cX8_setHead 30 = .ok (.iastore, 1) := by decide +kernel
theorem dX8_setHead_31 : decode cX8_setHead 31 = .ok (.return_, 1) := by decide +kernel
theorem dX9_init_0 : decode cX9_init 0 = .ok (.aload_n 0, 1) := by decide +kernel
theorem dX9_init_1 : decode cX9_init 1 = .ok (.invokespecial 3, 3) := by decide +kernel
theorem dX9_init_4 : decode cX9_init 4 = .ok (.aload_n 0, 1) := by decide +kernel
theorem dX9_init_5 : decode cX9_init 5 = .ok (.sipush 401, 3) := by decide +kernel
theorem dX9_init_8 : decode cX9_init 8 = .ok (.newarray .int, 2) := by decide +kernel
theorem dX9_init_10 : decode cX9_init 10 = .ok (.putfield 9, 3) := by decide +kernel
theorem dX9_init_13 : decode cX9_init 13 = .ok (.aload_n 0, 1) := by decide +kernel
theorem dX9_init_14 : decode cX9_init 14 = .ok (.sipush 401, 3) := by decide +kernel
theorem dX9_init_17 : decode cX9_init 17 = .ok (.newarray .int, 2) := by decide +kernel
theorem dX9_init_19 : decode cX9_init 19 = .ok (.putfield 15, 3) := by decide +kernel
theorem dX9_init_22 : decode cX9_init 22 = .ok (.aload_n 0, 1) := by decide +kernel
theorem dX9_init_23 : decode cX9_init 23 = .ok (.sipush 401, 3) := by decide +kernel
theorem dX9_init_26 : decode cX9_init 26 = .ok (.newarray .int, 2) := by decide +kernel
theorem dX9_init_28 : decode cX9_init 28 = .ok (.putfield 18, 3) := by decide +kernel
theorem dX9_init_31 : decode cX9_init 31 = .ok (.return_, 1) := by decide +kernel
theorem dX9_cut_0 : decode cX9_cut 0 = .ok (.aload_n 0, 1) := by decide +kernel
theorem dX9_cut_1 : decode cX9_cut 1 = .ok (.iconst 0, 1) := by decide +kernel
theorem dX9_cut_2 : decode cX9_cut 2 = .ok (.putfield 21, 3) := by decide +kernel
theorem dX9_cut_5 : decode cX9_cut 5 = .ok (.iconst 0, 1) := by decide +kernel
theorem dX9_cut_6 : decode cX9_cut 6 = .ok (.istore_n 3, 1) := by decide +kernel
theorem dX9_cut_7 : decode cX9_cut 7 = .ok (.iconst 0, 1) := by decide +kernel
theorem dX9_cut_8 : decode cX9_cut 8 = .ok (.istore 4, 2) := by decide +kernel
theorem dX9_cut_10 : decode cX9_cut 10 = .ok (.iload 4, 2) := by decide +kernel
theorem dX9_cut_12 : decode cX9_cut 12 = .ok (.iload_n 2, 1) := by decide +kernel
theorem dX9_cut_13 : decode cX9_cut 13 = .ok (.if_icmp .ge 59, 3) := by decide +kernel
theorem dX9_cut_16 : decode cX9_cut 16 = .ok (.iload 4, 2) := by decide +kernel
theorem dX9_cut_18 : decode cX9_cut 18 = .ok (.aload_n 1, 1) := by decide +kernel
theorem dX9_cut_19 : decode cX9_cut 19 = .ok (.arraylength, 1) := by decide +kernel
theorem dX9_cut_20 : decode cX9_cut 20 = .ok (.if_icmp .ge 52, 3) := by decide +kernel
theorem dX9_cut_23 : decode cX9_cut 23 = .ok (.iload 4, 2) := by decide +kernel
theorem dX9_cut_25 : decode cX9_cut 25 = .ok (.iload_n 3, 1) := by decide +kernel
theorem dX9_cut_26 : decode cX9_cut 26 = .ok (.if_icmp .lt 40, 3) := by decide +kernel
theorem dX9_cut_29 : decode cX9_cut 29 = .ok (.aload_n 1, 1) := by decide +kernel
theorem dX9_cut_30 : decode cX9_cut 30 = .ok (.iload 4, 2) := by decide +kernel
theorem dX9_cut_32 : decode cX9_cut 32 = .ok (.iaload, 1) := by decide +kernel
theorem dX9_cut_33 : decode cX9_cut 33 = .ok (.bipush 32, 2) := by decide +kernel
theorem dX9_cut_35 : decode cX9_cut 35 = .ok (.if_icmp .eq 31, 3) := by decide +kernel
theorem dX9_cut_38 : decode cX9_cut 38 = .ok (.aload_n 1, 1) := by decide +kernel
theorem dX9_cut_39 : decode cX9_cut 39 = .ok (.iload 4, 2) := by decide +kernel
theorem dX9_cut_41 : decode cX9_cut 41 = .ok (.iload_n 2, 1) := by decide +kernel
theorem dX9_cut_42 : decode cX9_cut 42 = .ok (.invokestatic 25, 3) := by decide +kernel
theorem dX9_cut_45 : decode cX9_cut 45 = .ok (.istore_n 3, 1) := by decide +kernel
theorem dX9_cut_46 : decode cX9_cut 46 = .ok (.aload_n 0, 1) := by decide +kernel
theorem dX9_cut_47 : decode cX9_cut 47 = .ok (.aload_n 1, 1) := by decide +kernel
theorem dX9_cut_48 : decode cX9_cut 48 = .ok (.iload 4, 2) := by decide +kernel
theorem dX9_cut_50 : decode cX9_cut 50 = .ok (.iload_n 3, 1) := by decide +kernel
theorem dX9_cut_51 : decode cX9_cut 51 = .ok (.invokestatic 29, 3) := by decide +kernel
theorem dX9_cut_54 : decode cX9_cut 54 = .ok (.iload 4, 2) := by decide +kernel
theorem dX9_cut_56 : decode cX9_cut 56 = .ok (.aload_n 1, 1) := by decide +kernel
theorem dX9_cut_57 : decode cX9_cut 57 = .ok (.iload 4, 2) := by decide +kernel
theorem dX9_cut_59 : decode cX9_cut 59 = .ok (.iload_n 3, 1) := by decide +kernel
theorem dX9_cut_60 : decode cX9_cut 60 = .ok (.invokestatic 32, 3) := by decide +kernel
theorem dX9_cut_63 : decode cX9_cut 63 = .ok (.invokevirtual 35, 3) := by decide +kernel
theorem dX9_cut_66 : decode cX9_cut 66 = .ok (.iinc 4 1, 3) := by decide +kernel
theorem dX9_cut_69 : decode cX9_cut 69 = .ok (.goto (-59), 3) := by decide +kernel
theorem dX9_cut_72 : decode cX9_cut 72 = .ok (.aload_n 0, 1) := by decide +kernel
theorem dX9_cut_73 : decode cX9_cut 73 = .ok (.sipush 285, 3) := by decide +kernel
theorem dX9_cut_76 : decode cX9_cut 76 = .ok (.iload_n 2, 1) := by decide +kernel
theorem dX9_cut_77 : decode cX9_cut 77 = .ok (.iconst 0, 1) := by decide +kernel
theorem dX9_cut_78 : decode cX9_cut 78 = .ok (.invokevirtual 35, 3) := by decide +kernel
theorem dX9_cut_81 : decode cX9_cut 81 = .ok (.return_, 1) := by decide +kernel
theorem dX9_add_0 : decode cX9_add 0 = .ok (.aload_n 0, 1) := by decide +kernel
theorem dX9_add_1 : decode cX9_add 1 = .ok (.getfield 21, 3) := by decide +kernel
theorem dX9_add_4 : decode cX9_add 4 = .ok (.ifCond .lt 55, 3) := by decide +kernel
theorem dX9_add_7 : decode cX9_add 7 = .ok (.aload_n 0, 1) := by decide +kernel
theorem dX9_add_8 : decode cX9_add 8 = .ok (.getfield 21, 3) := by decide +kernel
theorem dX9_add_11 : decode cX9_add 11 = .ok (.aload_n 0, 1) := by decide +kernel
theorem dX9_add_12 : decode cX9_add 12 = .ok (.getfield 9, 3) := by decide +kernel
theorem dX9_add_15 : decode cX9_add 15 = .ok (.arraylength, 1) := by decide +kernel
theorem dX9_add_16 : decode cX9_add 16 = .ok (.if_icmp .ge 43, 3) := by decide +kernel
theorem dX9_add_19 : decode cX9_add 19 = .ok (.aload_n 0, 1) := by decide +kernel
theorem dX9_add_20 : decode cX9_add 20 = .ok (.getfield 9, 3) := by decide +kernel
theorem dX9_add_23 : decode cX9_add 23 = .ok (.aload_n 0, 1) := by decide +kernel
theorem dX9_add_24 : decode cX9_add 24 = .ok (.getfield 21, 3) := by decide +kernel
theorem dX9_add_27 : decode cX9_add 27 = .ok (.iload_n 1, 1) := by decide +kernel
theorem dX9_add_28 : decode cX9_add 28 = .ok (.iastore, 1) := by decide +kernel
theorem dX9_add_29 : decode cX9_add 29 = .ok (.aload_n 0, 1) := by decide +kernel
theorem dX9_add_30 : decode cX9_add 30 = .ok (.getfield 15, 3) := by decide +kernel
theorem dX9_add_33 : decode cX9_add 33 = .ok (.aload_n 0, 1) := by decide +kernel
theorem dX9_add_34 : decode cX9_add 34 = .ok (.getfield 21, 3) := by decide +kernel
theorem dX9_add_37 : decode cX9_add 37 = .ok (.iload_n 2, 1) := by decide +kernel
theorem dX9_add_38 : decode cX9_add 38 = .ok (.iastore, 1) := by decide +kernel
theorem dX9_add_39 : decode cX9_add 39 = .ok (.aload_n 0, 1) := by decide +kernel
theorem dX9_add_40 : decode cX9_add 40 = .ok (.getfield 18, 3) := by decide +kernel
theorem dX9_add_43 : decode cX9_add 43 = .ok (.aload_n 0, 1) := by decide +kernel
theorem dX9_add_44 : decode cX9_add 44 = .ok (.getfield 21, 3) := by decide +kernel
theorem dX9_add_47 : decode cX9_add 47 = .ok (.iload_n 3, 1) := by decide +kernel
theorem dX9_add_48 : decode cX9_add 48 = .ok (.iastore, 1) := by decide +kernel
theorem dX9_add_49 : decode cX9_add 49 = .ok (.aload_n 0, 1) := by decide +kernel
theorem dX9_add_50 : decode cX9_add 50 = .ok (.dup, 1) := by decide +kernel
theorem dX9_add_51 : decode cX9_add 51 = .ok (.getfield 21, 3) := by decide +kernel
theorem dX9_add_54 : decode cX9_add 54 = .ok (.iconst 1, 1) := by decide +kernel
theorem dX9_add_55 : decode cX9_add 55 = .ok (.iadd, 1) := by decide +kernel
theorem dX9_add_56 : decode cX9_add 56 = .ok (.putfield 21, 3) := by decide +kernel
theorem dX9_add_59 : decode cX9_add 59 = .ok (.return_, 1) := by decide +kernel
theorem dX9_sortOf_0 : decode cX9_sortOf 0 = .ok (.iload_n 0, 1) := by decide +kernel
theorem dX9_sortOf_1 : decode cX9_sortOf 1 = .ok (.bipush 97, 2) := by decide +kernel
theorem dX9_sortOf_3 : decode cX9_sortOf 3 = .ok (.if_icmp .lt 13, 3) := by decide +kernel
theorem dX9_sortOf_6 : decode cX9_sortOf 6 = .ok (.iload_n 0, 1) := by decide +kernel
theorem dX9_sortOf_7 : decode cX9_sortOf 7 = .ok (.bipush 122, 2) := by decide +kernel
theorem dX9_sortOf_9 : decode cX9_sortOf 9 = .ok (.if_icmp .gt 7, 3) := by decide +kernel
theorem dX9_sortOf_12 : decode cX9_sortOf 12 = .ok (.sipush 283, 3) := by decide +kernel
theorem dX9_sortOf_15 : decode cX9_sortOf 15 = .ok (.ireturn, 1) := by decide +kernel
theorem dX9_sortOf_16 : decode cX9_sortOf 16 = .ok (.iload_n 0, 1) := by decide +kernel
theorem dX9_sortOf_17 : decode cX9_sortOf 17 = .ok (.bipush 48, 2) := by decide +kernel
theorem dX9_sortOf_19 : decode cX9_sortOf 19 = .ok (.if_icmp .lt 15, 3) := by decide +kernel
theorem dX9_sortOf_22 : decode cX9_sortOf 22 = .ok (.iload_n 0, 1) := by decide +kernel
theorem dX9_sortOf_23 : decode cX9_sortOf 23 = .ok (.bipush 57, 2) := by decide +kernel
theorem dX9_sortOf_25 : decode cX9_sortOf 25 = .ok (.if_icmp .gt 9, 3) := by decide +kernel
theorem dX9_sortOf_28 : decode cX9_sortOf 28 = .ok (.sipush 284, 3) := by decide +kernel
theorem dX9_sortOf_31 : decode cX9_sortOf 31 = .ok (.goto 6, 3) := by decide +kernel
theorem dX9_sortOf_34 : decode cX9_sortOf 34 = .ok (.sipush 285, 3) := by decide +kernel
theorem dX9_sortOf_37 : decode cX9_sortOf 37 = .ok (.ireturn, 1) := by decide +kernel
theorem dX9_endOf_0 : decode cX9_endOf 0 = .ok (.aload_n 0, 1) := by decide +kernel
theorem dX9_endOf_1 : decode cX9_endOf 1 = .ok (.iload_n 1, 1) := by decide +kernel
theorem dX9_endOf_2 : decode cX9_endOf 2 = .ok (.iaload, 1) := by decide +kernel
theorem dX9_endOf_3 : decode cX9_endOf 3 = .ok (.invokestatic 39, 3) := by decide +kernel
theorem dX9_endOf_6 : decode cX9_endOf 6 = .ok (.istore_n 3, 1) := by decide +kernel
theorem dX9_endOf_7 : decode cX9_endOf 7 = .ok (.iload_n 1, 1) := by decide +kernel
theorem dX9_endOf_8 : decode cX9_endOf 8 = .ok (.iconst 1, 1) := by decide +kernel
theorem dX9_endOf_9 : decode cX9_endOf 9 = .ok (.iadd, 1) := by decide +kernel
theorem dX9_endOf_10 : decode cX9_endOf 10 = .ok (.istore 4, 2) := by decide +kernel
theorem dX9_endOf_12 : decode cX9_endOf 12 = .ok (.iload_n 3, 1) := by decide +kernel
theorem dX9_endOf_13 : decode cX9_endOf 13 = .ok (.sipush 285, 3) := by decide +kernel
theorem dX9_endOf_16 : decode cX9_endOf 16 = .ok (.if_icmp .eq 33, 3) := by decide +kernel
theorem dX9_endOf_19 : decode cX9_endOf 19 = .ok (.iload 4, 2) := by decide +kernel
theorem dX9_endOf_21 : decode cX9_endOf 21 = .ok (.iload_n 2, 1) := by decide +kernel
theorem dX9_endOf_22 : decode cX9_endOf 22 = .ok (.if_icmp .ge 27, 3) := by decide +kernel
theorem dX9_endOf_25 : decode cX9_endOf 25 = .ok (.iload 4, 2) := by decide +kernel
theorem dX9_endOf_27 : decode cX9_endOf 27 = .ok (.aload_n 0, 1) := by decide +kernel
theorem dX9_endOf_28 : decode cX9_endOf 28 = .ok (.arraylength, 1) := by decide +kernel
theorem dX9_endOf_29 : decode cX9_endOf 29 = .ok (.if_icmp .ge 20, 3) := by decide +kernel
theorem dX9_endOf_32 : decode cX9_endOf 32 = .ok (.aload_n 0, 1) := by decide +kernel
theorem dX9_endOf_33 : decode cX9_endOf 33 = .ok (.iload 4, 2) := by decide +kernel
theorem dX9_endOf_35 : decode cX9_endOf 35 = .ok (.iaload, 1) := by decide +kernel
theorem dX9_endOf_36 : decode cX9_endOf 36 = .ok (.invokestatic 39, 3) := by decide +kernel
theorem dX9_endOf_39 : decode cX9_endOf 39 = .ok (.iload_n 3, 1) := by decide +kernel
theorem dX9_endOf_40 : decode cX9_endOf 40 = .ok (.if_icmp .ne 9, 3) := by decide +kernel
theorem dX9_endOf_43 : decode cX9_endOf 43 = .ok (.iinc 4 1, 3) := by decide +kernel
theorem dX9_endOf_46 : decode cX9_endOf 46 = .ok (.goto (-34), 3) := by decide +kernel
theorem dX9_endOf_49 : decode cX9_endOf 49 = .ok (.iload 4, 2) := by decide +kernel
theorem dX9_endOf_51 : decode cX9_endOf 51 = .ok (.ireturn, 1) := by decide +kernel
theorem dX9_kindOf_0 : decode cX9_kindOf 0 = .ok (.aload_n 0, 1) := by decide +kernel
theorem dX9_kindOf_1 : decode cX9_kindOf 1 = .ok (.iload_n 1, 1) := by decide +kernel
theorem dX9_kindOf_2 : decode cX9_kindOf 2 = .ok (.iaload, 1) := by decide +kernel
theorem dX9_kindOf_3 : decode cX9_kindOf 3 = .ok (.invokestatic 39, 3) := by decide +kernel
theorem dX9_kindOf_6 : decode cX9_kindOf 6 = .ok (.istore_n 3, 1) := by decide +kernel
theorem dX9_kindOf_7 : decode cX9_kindOf 7 = .ok (.iload_n 3, 1) := by decide +kernel
theorem dX9_kindOf_8 : decode cX9_kindOf 8 = .ok (.sipush 285, 3) := by decide +kernel
theorem dX9_kindOf_11 : decode cX9_kindOf 11 = .ok (.if_icmp .ne 7, 3) := by decide +kernel
theorem dX9_kindOf_14 : decode cX9_kindOf 14 = .ok (.aload_n 0, 1) := by decide +kernel
theorem dX9_kindOf_15 : decode cX9_kindOf 15 = .ok (.iload_n 1, 1) := by decide +kernel
theorem dX9_kindOf_16 : decode cX9_kindOf 16 = .ok (.iaload, 1) := by decide +kernel
theorem dX9_kindOf_17 : decode cX9_kindOf 17 = .ok (.ireturn, 1) := by decide +kernel
theorem dX9_kindOf_18 : decode cX9_kindOf 18 = .ok (.iload_n 3, 1) := by decide +kernel
theorem dX9_kindOf_19 : decode cX9_kindOf 19 = .ok (.sipush 283, 3) := by decide +kernel
theorem dX9_kindOf_22 : decode cX9_kindOf 22 = .ok (.if_icmp .ne 12, 3) := by decide +kernel
theorem dX9_kindOf_25 : decode cX9_kindOf 25 = .ok (.aload_n 0, 1) := by decide +kernel
theorem dX9_kindOf_26 : decode cX9_kindOf 26 = .ok (.iload_n 1, 1) := by decide +kernel
theorem dX9_kindOf_27 : decode cX9_kindOf 27 = .ok (.iload_n 2, 1) := by decide +kernel
theorem dX9_kindOf_28 : decode cX9_kindOf 28 = .ok (.invokestatic 43, 3) := by decide +kernel
theorem dX9_kindOf_31 : decode cX9_kindOf 31 = .ok (.goto 6, 3) := by decide +kernel
theorem dX9_kindOf_34 : decode cX9_kindOf 34 = .ok (.sipush 284, 3) := by decide +kernel
theorem dX9_kindOf_37 : decode cX9_kindOf 37 = .ok (.ireturn, 1) := by decide +kernel
theorem dX9_wordOf_0 : decode cX9_wordOf 0 = .ok (.sipush 256, 3) := by decide +kernel
theorem dX9_wordOf_3 : decode cX9_wordOf 3 = .ok (.istore_n 3, 1) := by decide +kernel
theorem dX9_wordOf_4 : decode cX9_wordOf 4 = .ok (.iconst 0, 1) := by decide +kernel
theorem dX9_wordOf_5 : decode cX9_wordOf 5 = .ok (.istore 4, 2) := by decide +kernel
theorem dX9_wordOf_7 : decode cX9_wordOf 7 = .ok (.iconst 0, 1) := by decide +kernel
theorem dX9_wordOf_8 : decode cX9_wordOf 8 = .ok (.istore 5, 2) := by decide +kernel
theorem dX9_wordOf_10 : decode cX9_wordOf 10 = .ok (.iload 5, 2) := by decide +kernel
theorem dX9_wordOf_12 : decode cX9_wordOf 12 = .ok (.ldc 46, 2) := by decide +kernel
theorem dX9_wordOf_14 : decode cX9_wordOf 14 = .ok (.invokevirtual 48, 3) := by decide +kernel
theorem dX9_wordOf_17 : decode cX9_wordOf 17 = .ok (.if_icmp .ge 88, 3) := by decide +kernel
theorem dX9_wordOf_20 : decode cX9_wordOf 20 = .ok (.ldc 46, 2) := by decide +kernel
theorem dX9_wordOf_22 : decode cX9_wordOf 22 = .ok (.iload 5, 2) := by decide +kernel
theorem dX9_wordOf_24 : decode cX9_wordOf 24 = .ok (.invokevirtual 54, 3) := by decide +kernel
theorem dX9_wordOf_27 : decode cX9_wordOf 27 = .ok (.istore 6, 2) := by decide +kernel
theorem dX9_wordOf_29 : decode cX9_wordOf 29 = .ok (.iload 6, 2) := by decide +kernel
theorem dX9_wordOf_31 : decode cX9_wordOf 31 = .ok (.bipush 32, 2) := by decide +kernel
theorem dX9_wordOf_33 : decode cX9_wordOf 33 = .ok (.if_icmp .ne 22, 3) := by decide +kernel
theorem dX9_wordOf_36 : decode cX9_wordOf 36 = .ok (.iload 4, 2) := by decide +kernel
theorem dX9_wordOf_38 : decode cX9_wordOf 38 = .ok (.iload_n 2, 1) := by decide +kernel
theorem dX9_wordOf_39 : decode cX9_wordOf 39 = .ok (.iload_n 1, 1) := by decide +kernel
theorem dX9_wordOf_40 : decode cX9_wordOf 40 = .ok (.isub, 1) := by decide +kernel
theorem dX9_wordOf_41 : decode cX9_wordOf 41 = .ok (.if_icmp .ne 5, 3) := by decide +kernel
theorem dX9_wordOf_44 : decode cX9_wordOf 44 = .ok (.iload_n 3, 1) := by decide +kernel
theorem dX9_wordOf_45 : decode cX9_wordOf 45 = .ok (.ireturn, 1) := by decide +kernel
theorem dX9_wordOf_46 : decode cX9_wordOf 46 = .ok (.iinc 3 1, 3) := by decide +kernel
theorem dX9_wordOf_49 : decode cX9_wordOf 49 = .ok (.iconst 0, 1) := by decide +kernel
theorem dX9_wordOf_50 : decode cX9_wordOf 50 = .ok (.istore 4, 2) := by decide +kernel
theorem dX9_wordOf_52 : decode cX9_wordOf 52 = .ok (.goto 47, 3) := by decide +kernel
theorem dX9_wordOf_55 : decode cX9_wordOf 55 = .ok (.iload 4, 2) := by decide +kernel
theorem dX9_wordOf_57 : decode cX9_wordOf 57 = .ok (.iconst (-1), 1) := by decide +kernel
theorem dX9_wordOf_58 : decode cX9_wordOf 58 = .ok (.if_icmp .eq 41, 3) := by decide +kernel
theorem dX9_wordOf_61 : decode cX9_wordOf 61 = .ok (.iload_n 1, 1) := by decide +kernel
theorem dX9_wordOf_62 : decode cX9_wordOf 62 = .ok (.iload 4, 2) := by decide +kernel
theorem dX9_wordOf_64 : decode cX9_wordOf 64 = .ok (.iadd, 1) := by decide +kernel
theorem dX9_wordOf_65 : decode cX9_wordOf 65 = .ok (.istore 7, 2) := by decide +kernel
theorem dX9_wordOf_67 : decode cX9_wordOf 67 = .ok (.iload 7, 2) := by decide +kernel
theorem dX9_wordOf_69 : decode cX9_wordOf 69 = .ok (.iload_n 2, 1) := by decide +kernel
theorem dX9_wordOf_70 : decode cX9_wordOf 70 = .ok (.if_icmp .ge 26, 3) := by decide +kernel
theorem dX9_wordOf_73 : decode cX9_wordOf 73 = .ok (.iload 7, 2) := by decide +kernel
theorem dX9_wordOf_75 : decode cX9_wordOf 75 = .ok (.aload_n 0, 1) := by decide +kernel
theorem dX9_wordOf_76 : decode cX9_wordOf 76 = .ok (.arraylength, 1) := by decide +kernel
theorem dX9_wordOf_77 : decode cX9_wordOf 77 = .ok (.if_icmp .ge 19, 3) := by decide +kernel
theorem dX9_wordOf_80 : decode cX9_wordOf 80 = .ok (.aload_n 0, 1) := by decide +kernel
theorem dX9_wordOf_81 : decode cX9_wordOf 81 = .ok (.iload 7, 2) := by decide +kernel
theorem dX9_wordOf_83 : decode cX9_wordOf 83 = .ok (.iaload, 1) := by decide +kernel
theorem dX9_wordOf_84 : decode cX9_wordOf 84 = .ok (.iload 6, 2) := by decide +kernel
theorem dX9_wordOf_86 : decode cX9_wordOf 86 = .ok (.if_icmp .ne 10, 3) := by decide +kernel
theorem dX9_wordOf_89 : decode cX9_wordOf 89 = .ok (.iload 4, 2) := by decide +kernel
theorem dX9_wordOf_91 : decode cX9_wordOf 91 = .ok (.iconst 1, 1) := by decide +kernel
theorem dX9_wordOf_92 : decode cX9_wordOf 92 = .ok (.iadd, 1) := by decide +kernel
theorem dX9_wordOf_93 : decode cX9_wordOf 93 = .ok (.goto 4, 3) := by decide +kernel
theorem dX9_wordOf_96 : decode cX9_wordOf 96 = .ok (.iconst (-1), 1) := by decide +kernel
theorem dX9_wordOf_97 : decode cX9_wordOf 97 = .ok (.istore 4, 2) := by decide +kernel
theorem dX9_wordOf_99 : decode cX9_wordOf 99 = .ok (.iinc 5 1, 3) := by decide +kernel
theorem dX9_wordOf_102 : decode cX9_wordOf 102 = .ok (.goto (-92), 3) := by decide +kernel
theorem dX9_wordOf_105 : decode cX9_wordOf 105 = .ok (.sipush 283, 3) := by decide +kernel
theorem dX9_wordOf_108 : decode cX9_wordOf 108 = .ok (.ireturn, 1) := by decide +kernel
theorem dX9_numberOf_0 : decode cX9_numberOf 0 = .ok (.iconst 0, 1) := by decide +kernel
theorem dX9_numberOf_1 : decode cX9_numberOf 1 = .ok (.istore_n 3, 1) := by decide +kernel
theorem dX9_numberOf_2 : decode cX9_numberOf 2 = .ok (.iload_n 1, 1) := by decide +kernel
theorem dX9_numberOf_3 : decode cX9_numberOf 3 = .ok (.istore 4, 2) := by decide +kernel
theorem dX9_numberOf_5 : decode cX9_numberOf 5 = .ok (.iload 4, 2) := by decide +kernel
theorem dX9_numberOf_7 : decode cX9_numberOf 7 = .ok (.iload_n 2, 1) := by decide +kernel
theorem dX9_numberOf_8 : decode cX9_numberOf 8 = .ok (.if_icmp .ge 39, 3) := by decide +kernel
theorem dX9_numberOf_11 : decode cX9_numberOf 11 = .ok (.iload 4, 2) := by decide +kernel
theorem dX9_numberOf_13 : decode cX9_numberOf 13 = .ok (.aload_n 0, 1) := by decide +kernel
theorem dX9_numberOf_14 : decode cX9_numberOf 14 = .ok (.arraylength, 1) := by decide +kernel
theorem dX9_numberOf_15 : decode cX9_numberOf 15 = .ok (.if_icmp .ge 32, 3) := by decide +kernel
theorem dX9_numberOf_18 : decode cX9_numberOf 18 = .ok (.iload_n 3, 1) := by decide +kernel
theorem dX9_numberOf_19 : decode cX9_numberOf 19 = .ok (.bipush 10, 2) := by decide +kernel
theorem dX9_numberOf_21 : decode cX9_numberOf 21 = .ok (.imul, 1) := by decide +kernel
theorem dX9_numberOf_22 : decode cX9_numberOf 22 = .ok (.iconst 0, 1) := by decide +kernel
theorem dX9_numberOf_23 : decode cX9_numberOf 23 = .ok (.aload_n 0, 1) := by decide +kernel
theorem dX9_numberOf_24 : decode cX9_numberOf 24 = .ok (.iload 4, 2) := by decide +kernel
theorem dX9_numberOf_26 : decode cX9_numberOf 26 = .ok (.iaload, 1) := by decide +kernel
theorem dX9_numberOf_27 : decode cX9_numberOf 27 = .ok (.bipush 48, 2) := by decide +kernel
theorem dX9_numberOf_29 : decode cX9_numberOf 29 = .ok (.isub, 1) := by decide +kernel
theorem dX9_numberOf_30 : decode cX9_numberOf 30 = .ok (.invokestatic 58, 3) := by decide +kernel
theorem dX9_numberOf_33 : decode cX9_numberOf 33 = .ok (.iadd, 1) := by decide +kernel
theorem dX9_numberOf_34 : decode cX9_numberOf 34 = .ok (.sipush 1001, 3) := by decide +kernel
theorem dX9_numberOf_37 : decode cX9_numberOf 37 = .ok (.invokestatic 64, 3) := by decide +kernel
theorem dX9_numberOf_40 : decode cX9_numberOf 40 = .ok (.istore_n 3, 1) := by decide +kernel
theorem dX9_numberOf_41 : decode cX9_numberOf 41 = .ok (.iinc 4 1, 3) := by decide +kernel
theorem dX9_numberOf_44 : decode cX9_numberOf 44 = .ok (.goto (-39), 3) := by decide +kernel
theorem dX9_numberOf_47 : decode cX9_numberOf 47 = .ok (.iload_n 3, 1) := by decide +kernel
theorem dX9_numberOf_48 : decode cX9_numberOf 48 = .ok (.ireturn, 1) := by decide +kernel
theorem dX10_init_0 : decode cX10_init 0 = .ok (.aload_n 0, 1) := by decide +kernel
theorem dX10_init_1 : decode cX10_init 1 = .ok (.invokespecial 3, 3) := by decide +kernel
theorem dX10_init_4 : decode cX10_init 4 = .ok (.aload_n 0, 1) := by decide +kernel
theorem dX10_init_5 : decode cX10_init 5 = .ok (.sipush 400, 3) := by decide +kernel
theorem dX10_init_8 : decode cX10_init 8 = .ok (.newarray .int, 2) := by decide +kernel
theorem dX10_init_10 : decode cX10_init 10 = .ok (.putfield 9, 3) := by decide +kernel
theorem dX10_init_13 : decode cX10_init 13 = .ok (.aload_n 0, 1) := by decide +kernel
theorem dX10_init_14 : decode cX10_init 14 = .ok (.new 13, 3) := by decide +kernel
theorem dX10_init_17 : decode cX10_init 17 = .ok (.dup, 1) := by decide +kernel
theorem dX10_init_18 : decode cX10_init 18 = .ok (.invokespecial 15, 3) := by decide +kernel
theorem dX10_init_21 : decode cX10_init 21 = .ok (.putfield 16, 3) := by decide +kernel
theorem dX10_init_24 : decode cX10_init 24 = .ok (.aload_n 0, 1) := by decide +kernel
theorem dX10_init_25 : decode cX10_init 25 = .ok (.iconst 2, 1) := by decide +kernel
theorem dX10_init_26 : decode cX10_init 26 = .ok (.anewarray 13, 3) := by decide +kernel
theorem dX10_init_29 : decode cX10_init 29 = .ok (.putfield 20, 3) := by decide +kernel
theorem dX10_init_32 : decode cX10_init 32 = .ok (.aload_n 0, 1) := by decide +kernel
theorem dX10_init_33 : decode cX10_init 33 = .ok (.new 24, 3) := by decide +kernel
theorem dX10_init_36 : decode cX10_init 36 = .ok (.dup, 1) := by decide +kernel
theorem dX10_init_37 : decode cX10_init 37 = .ok (.invokespecial 26, 3) := by decide +kernel
theorem dX10_init_40 : decode cX10_init 40 = .ok (.putfield 27, 3) := by decide +kernel
theorem dX10_init_43 : decode cX10_init 43 = .ok (.aload_n 0, 1) := by decide +kernel
theorem dX10_init_44 : decode cX10_init 44 = .ok (.new 24, 3) := by decide +kernel
theorem dX10_init_47 : decode cX10_init 47 = .ok (.dup, 1) := by decide +kernel
theorem dX10_init_48 : decode cX10_init 48 = .ok (.invokespecial 26, 3) := by decide +kernel
theorem dX10_init_51 : decode cX10_init 51 = .ok (.putfield 31, 3) := by decide +kernel
theorem dX10_init_54 : decode cX10_init 54 = .ok (.aload_n 0, 1) := by decide +kernel
theorem dX10_init_55 : decode cX10_init 55 = .ok (.new 34, 3) := by decide +kernel
theorem dX10_init_58 : decode cX10_init 58 = .ok (.dup, 1) := by decide +kernel
theorem dX10_init_59 : decode cX10_init 59 = .ok (.invokespecial 36, 3) := by decide +kernel
theorem dX10_init_62 : decode cX10_init 62 = .ok (.putfield 37, 3) := by decide +kernel
theorem dX10_init_65 : decode cX10_init 65 = .ok (.aload_n 0, 1) := by decide +kernel
theorem dX10_init_66 : decode cX10_init 66 = .ok (.new 34, 3) := by decide +kernel
theorem dX10_init_69 : decode cX10_init 69 = .ok (.dup, 1) := by decide +kernel
theorem dX10_init_70 : decode cX10_init 70 = .ok (.invokespecial 36, 3) := by decide +kernel
theorem dX10_init_73 : decode cX10_init 73 = .ok (.putfield 41, 3) := by decide +kernel
theorem dX10_init_76 : decode cX10_init 76 = .ok (.aload_n 0, 1) := by decide +kernel
theorem dX10_init_77 : decode cX10_init 77 = .ok (.new 44, 3) := by decide +kernel
theorem dX10_init_80 : decode cX10_init 80 = .ok (.dup, 1) := by decide +kernel
theorem dX10_init_81 : decode cX10_init 81 = .ok (.invokespecial 46, 3) := by decide +kernel
theorem dX10_init_84 : decode cX10_init 84 = .ok (.putfield 47, 3) := by decide +kernel
theorem dX10_init_87 : decode cX10_init 87 = .ok (.aload_n 0, 1) := by decide +kernel
theorem dX10_init_88 : decode cX10_init 88 = .ok (.new 51, 3) := by decide +kernel
theorem dX10_init_91 : decode cX10_init 91 = .ok (.dup, 1) := by decide +kernel
theorem dX10_init_92 : decode cX10_init 92 = .ok (.invokespecial 53, 3) := by decide +kernel
theorem dX10_init_95 : decode cX10_init 95 = .ok (.putfield 54, 3) := by decide +kernel
theorem dX10_init_98 : decode cX10_init 98 = .ok (.aload_n 0, 1) := by decide +kernel
theorem dX10_init_99 : decode cX10_init 99 = .ok (.new 58, 3) := by decide +kernel
theorem dX10_init_102 : decode cX10_init 102 = .ok (.dup, 1) := by decide +kernel
theorem dX10_init_103 : decode cX10_init 103 = .ok (.aload_n 0, 1) := by decide +kernel
theorem dX10_init_104 : decode cX10_init 104 = .ok (.getfield 16, 3) := by decide +kernel
theorem dX10_init_107 : decode cX10_init 107 = .ok (.aload_n 0, 1) := by decide +kernel
theorem dX10_init_108 : decode cX10_init 108 = .ok (.getfield 54, 3) := by decide +kernel
theorem dX10_init_111 : decode cX10_init 111 = .ok (.invokespecial 60, 3) := by decide +kernel
theorem dX10_init_114 : decode cX10_init 114 = .ok (.putfield 63, 3) := by decide +kernel
theorem dX10_init_117 : decode cX10_init 117 = .ok (.aload_n 0, 1) := by decide +kernel
theorem dX10_init_118 : decode cX10_init 118 = .ok (.new 67, 3) := by decide +kernel
theorem dX10_init_121 : decode cX10_init 121 = .ok (.dup, 1) := by decide +kernel
theorem dX10_init_122 : decode cX10_init 122 = .ok (.aload_n 0, 1) := by decide +kernel
theorem dX10_init_123 : decode cX10_init 123 = .ok (.getfield 63, 3) := by decide +kernel
theorem dX10_init_126 : decode cX10_init 126 = .ok (.invokespecial 69, 3) := by decide +kernel
theorem dX10_init_129 : decode cX10_init 129 = .ok (.putfield 72, 3) := by decide +kernel
theorem dX10_init_132 : decode cX10_init 132 = .ok (.aload_n 0, 1) := by decide +kernel
theorem dX10_init_133 : decode cX10_init 133 = .ok (.new 76, 3) := by decide +kernel
theorem dX10_init_136 : decode cX10_init 136 = .ok (.dup, 1) := by decide +kernel
theorem dX10_init_137 : decode cX10_init 137 = .ok (.invokespecial 78, 3) := by decide +kernel
theorem dX10_init_140 : decode cX10_init 140 = .ok (.putfield 79, 3) := by decide +kernel
theorem dX10_init_143 : decode cX10_init 143 = .ok (.aload_n 0, 1) := by decide +kernel
theorem dX10_init_144 : decode cX10_init 144 = .ok (.bipush 7, 2) := by decide +kernel
theorem dX10_init_146 : decode cX10_init 146 = .ok (.newarray .int, 2) := by decide +kernel
theorem dX10_init_148 : decode cX10_init 148 = .ok (.putfield 83, 3) := by decide +kernel
theorem dX10_init_151 : decode cX10_init 151 = .ok (.aload_n 0, 1) := by decide +kernel
theorem dX10_init_152 : decode cX10_init 152 = .ok (.iconst (-1), 1) := by decide +kernel
theorem dX10_init_153 : decode cX10_init 153 = .ok (.putfield 86, 3) := by decide +kernel
theorem dX10_init_156 : decode cX10_init 156 = .ok (.aload_n 0, 1) := by decide +kernel
theorem dX10_init_157 : decode cX10_init 157 = .ok (.iconst (-1), 1) := by decide +kernel
theorem dX10_init_158 : decode cX10_init 158 = .ok (.putfield 90, 3) := by decide +kernel
theorem dX10_init_161 : decode cX10_init 161 = .ok (.aload_n 0, 1) := by decide +kernel
theorem dX10_init_162 : decode cX10_init 162 = .ok (.iconst (-1), 1) := by decide +kernel
theorem dX10_init_163 : decode cX10_init 163 = .ok (.putfield 93, 3) := by decide +kernel
theorem dX10_init_166 : decode cX10_init 166 = .ok (.iconst 0, 1) := by decide +kernel
theorem dX10_init_167 : decode cX10_init 167 = .ok (.istore_n 1, 1) := by decide +kernel
theorem dX10_init_168 : decode cX10_init 168 = .ok (.iload_n 1, 1) := by decide +kernel
theorem dX10_init_169 : decode cX10_init 169 = .ok (.iconst 2, 1) := by decide +kernel
theorem dX10_init_170 : decode cX10_init 170 = .ok (.if_icmp .ge 22, 3) := by decide +kernel
theorem dX10_init_173 : decode cX10_init 173 = .ok (.aload_n 0, 1) := by decide +kernel
theorem dX10_init_174 : decode cX10_init 174 = .ok (.getfield 20, 3) := by decide +kernel
theorem dX10_init_177 : decode cX10_init 177 = .ok (.iload_n 1, 1) := by decide +kernel
theorem dX10_init_178 : decode cX10_init 178 = .ok (.new 13, 3) := by decide +kernel
theorem dX10_init_181 : decode cX10_init 181 = .ok (.dup, 1) := by decide +kernel
theorem dX10_init_182 : decode cX10_init 182 = .ok (.invokespecial 15, 3) := by decide +kernel
theorem dX10_init_185 : decode cX10_init 185 = .ok (.aastore, 1) := by decide +kernel
theorem dX10_init_186 : decode cX10_init 186 = .ok (.iinc 1 1, 3) := by decide +kernel
theorem dX10_init_189 : decode cX10_init 189 = .ok (.goto (-21), 3) := by decide +kernel
theorem dX10_init_192 : decode cX10_init 192 = .ok (.return_, 1) := by decide +kernel
theorem dX10_bird_0 : decode cX10_bird 0 = .ok (.iload_n 1, 1) := by decide +kernel
theorem dX10_bird_1 : decode cX10_bird 1 = .ok (.iconst (-1), 1) := by decide +kernel
theorem dX10_bird_2 : decode cX10_bird 2 = .ok (.if_icmp .lt 19, 3) := by decide +kernel
theorem dX10_bird_5 : decode cX10_bird 5 = .ok (.iload_n 1, 1) := by decide +kernel
theorem dX10_bird_6 : decode cX10_bird 6 = .ok (.bipush 20, 2) := by decide +kernel
theorem dX10_bird_8 : decode cX10_bird 8 = .ok (.if_icmp .ge 13, 3) := by decide +kernel
theorem dX10_bird_11 : decode cX10_bird 11 = .ok (.iload_n 2, 1) := by decide +kernel
theorem dX10_bird_12 : decode cX10_bird 12 = .ok (.ifCond .lt 9, 3) := by decide +kernel
theorem dX10_bird_15 : decode cX10_bird 15 = .ok (.iload_n 2, 1) := by decide +kernel
theorem dX10_bird_16 : decode cX10_bird 16 = .ok (.bipush 9, 2) := by decide +kernel
theorem dX10_bird_18 : decode cX10_bird 18 = .ok (.if_icmp .le 9, 3) := by decide +kernel
theorem dX10_bird_21 : decode cX10_bird 21 = .ok (.aload_n 0, 1) := by decide +kernel
theorem dX10_bird_22 : decode cX10_bird 22 = .ok (.iconst (-1), 1) := by decide +kernel
theorem dX10_bird_23 : decode cX10_bird 23 = .ok (.invokevirtual 96, 3) := by decide +kernel
theorem dX10_bird_26 : decode cX10_bird 26 = .ok (.ireturn, 1) := by decide +kernel
theorem dX10_bird_27 : decode cX10_bird 27 = .ok (.aload_n 0, 1) := by decide +kernel
theorem dX10_bird_28 : decode cX10_bird 28 = .ok (.getfield 16, 3) := by decide +kernel
theorem dX10_bird_31 : decode cX10_bird 31 = .ok (.getfield 100, 3) := by decide +kernel
theorem dX10_bird_34 : decode cX10_bird 34 = .ok (.bipush 7, 2) := by decide +kernel
theorem dX10_bird_36 : decode cX10_bird 36 = .ok (.if_icmp .lt 10, 3) := by decide +kernel
theorem dX10_bird_39 : decode cX10_bird 39 = .ok (.aload_n 0, 1) := by decide +kernel
theorem dX10_bird_40 : decode cX10_bird 40 = .ok (.bipush (-5), 2) := by decide +kernel
theorem dX10_bird_42 : decode cX10_bird 42 = .ok (.invokevirtual 96, 3) := by decide +kernel
theorem dX10_bird_45 : decode cX10_bird 45 = .ok (.ireturn, 1) := by decide +kernel
theorem dX10_bird_46 : decode cX10_bird 46 = .ok (.aload_n 0, 1) := by decide +kernel
theorem dX10_bird_47 : decode cX10_bird 47 = .ok (.getfield 27, 3) := by decide +kernel
theorem dX10_bird_50 : decode cX10_bird 50 = .ok (.invokevirtual 103, 3) := by decide +kernel
theorem dX10_bird_53 : decode cX10_bird 53 = .ok (.aload_n 0, 1) := by decide +kernel
theorem dX10_bird_54 : decode cX10_bird 54 = .ok (.aload_n 0, 1) := by decide +kernel
theorem dX10_bird_55 : decode cX10_bird 55 = .ok (.getfield 16, 3) := by decide +kernel
theorem dX10_bird_58 : decode cX10_bird 58 = .ok (.iload_n 1, 1) := by decide +kernel
theorem dX10_bird_59 : decode cX10_bird 59 = .ok (.iload_n 2, 1) := by decide +kernel
theorem dX10_bird_60 : decode cX10_bird 60 = .ok (.invokevirtual 106, 3) := by decide +kernel
theorem dX10_bird_63 : decode cX10_bird 63 = .ok (.invokevirtual 110, 3) := by decide +kernel
theorem dX10_bird_66 : decode cX10_bird 66 = .ok (.ireturn, 1) := by decide +kernel
theorem dX10_favour_0 : decode cX10_favour 0 = .ok (.iload_n 2, 1) := by decide +kernel
theorem dX10_favour_1 : decode cX10_favour 1 = .ok (.ifCond .lt 19, 3) := by decide +kernel
theorem dX10_favour_4 : decode cX10_favour 4 = .ok (.iload_n 2, 1) := by decide +kernel
theorem dX10_favour_5 : decode cX10_favour 5 = .ok (.bipush 6, 2) := by decide +kernel
theorem dX10_favour_7 : decode cX10_favour 7 = .ok (.if_icmp .ge 13, 3) := by decide +kernel
theorem dX10_favour_10 : decode cX10_favour 10 = .ok (.iload_n 3, 1) := by decide +kernel
theorem dX10_favour_11 : decode cX10_favour 11 = .ok (.ifCond .lt 9, 3) := by decide +kernel
theorem dX10_favour_14 : decode cX10_favour 14 = .ok (.iload_n 3, 1) := by decide +kernel
theorem dX10_favour_15 : decode cX10_favour 15 = .ok (.bipush 9, 2) := by decide +kernel
theorem dX10_favour_17 : decode cX10_favour 17 = .ok (.if_icmp .le 9, 3) := by decide +kernel
theorem dX10_favour_20 : decode cX10_favour 20 = .ok (.aload_n 0, 1) := by decide +kernel
theorem dX10_favour_21 : decode cX10_favour 21 = .ok (.iconst (-1), 1) := by decide +kernel
theorem dX10_favour_22 : decode cX10_favour 22 = .ok (.invokevirtual 96, 3) := by decide +kernel
theorem dX10_favour_25 : decode cX10_favour 25 = .ok (.ireturn, 1) := by decide +kernel
theorem dX10_favour_26 : decode cX10_favour 26 = .ok (.aload_n 0, 1) := by decide +kernel
theorem dX10_favour_27 : decode cX10_favour 27 = .ok (.getfield 16, 3) := by decide +kernel
theorem dX10_favour_30 : decode cX10_favour 30 = .ok (.iload_n 1, 1) := by decide +kernel
theorem dX10_favour_31 : decode cX10_favour 31 = .ok (.invokevirtual 113, 3) := by decide +kernel
theorem dX10_favour_34 : decode cX10_favour 34 = .ok (.ifCond .ne 10, 3) := by decide +kernel
theorem dX10_favour_37 : decode cX10_favour 37 = .ok (.aload_n 0, 1) := by decide +kernel
theorem dX10_favour_38 : decode cX10_favour 38 = .ok (.bipush (-2), 2) := by decide +kernel
theorem dX10_favour_40 : decode cX10_favour 40 = .ok (.invokevirtual 96, 3) := by decide +kernel
theorem dX10_favour_43 : decode cX10_favour 43 = .ok (.ireturn, 1) := by decide +kernel
theorem dX10_favour_44 : decode cX10_favour 44 = .ok (.aload_n 0, 1) := by decide +kernel
theorem dX10_favour_45 : decode cX10_favour 45 = .ok (.getfield 16, 3) := by decide +kernel
theorem dX10_favour_48 : decode cX10_favour 48 = .ok (.getfield 117, 3) := by decide +kernel
theorem dX10_favour_51 : decode cX10_favour 51 = .ok (.iload_n 1, 1) := by decide +kernel
theorem dX10_favour_52 : decode cX10_favour 52 = .ok (.bipush 6, 2) := by decide +kernel
theorem dX10_favour_54 : decode cX10_favour 54 = .ok (.imul, 1) := by decide +kernel
theorem dX10_favour_55 : decode cX10_favour 55 = .ok (.iload_n 2, 1) := by decide +kernel
theorem dX10_favour_56 : decode cX10_favour 56 = .ok (.iadd, 1) := by decide +kernel
theorem dX10_favour_57 : decode cX10_favour 57 = .ok (.iaload, 1) := by decide +kernel
theorem dX10_favour_58 : decode cX10_favour 58 = .ok (.istore 4, 2) := by decide +kernel
theorem dX10_favour_60 : decode cX10_favour 60 = .ok (.aload_n 0, 1) := by decide +kernel
theorem dX10_favour_61 : decode cX10_favour 61 = .ok (.getfield 16, 3) := by decide +kernel
theorem dX10_favour_64 : decode cX10_favour 64 = .ok (.getfield 117, 3) := by decide +kernel
theorem dX10_favour_67 : decode cX10_favour 67 = .ok (.iload_n 1, 1) := by decide +kernel
theorem dX10_favour_68 : decode cX10_favour 68 = .ok (.bipush 6, 2) := by decide +kernel
theorem dX10_favour_70 : decode cX10_favour 70 = .ok (.imul, 1) := by decide +kernel
theorem dX10_favour_71 : decode cX10_favour 71 = .ok (.iload_n 2, 1) := by decide +kernel
theorem dX10_favour_72 : decode cX10_favour 72 = .ok (.iadd, 1) := by decide +kernel
theorem dX10_favour_73 : decode cX10_favour 73 = .ok (.iload_n 3, 1) := by decide +kernel
theorem dX10_favour_74 : decode cX10_favour 74 = .ok (.iastore, 1) := by decide +kernel
theorem dX10_favour_75 : decode cX10_favour 75 = .ok (.aload_n 0, 1) := by decide +kernel
theorem dX10_favour_76 : decode cX10_favour 76 = .ok (.iload 4, 2) := by decide +kernel
theorem dX10_favour_78 : decode cX10_favour 78 = .ok (.invokevirtual 110, 3) := by decide +kernel
theorem dX10_favour_81 : decode cX10_favour 81 = .ok (.ireturn, 1) := by decide +kernel
theorem dX10_of_0 : decode cX10_of 0 = .ok (.aload_n 0, 1) := by decide +kernel
theorem dX10_of_1 : decode cX10_of 1 = .ok (.getfield 16, 3) := by decide +kernel
theorem dX10_of_4 : decode cX10_of 4 = .ok (.iload_n 1, 1) := by decide +kernel
theorem dX10_of_5 : decode cX10_of 5 = .ok (.invokevirtual 113, 3) := by decide +kernel
theorem dX10_of_8 : decode cX10_of 8 = .ok (.ifCond .eq 13, 3) := by decide +kernel
theorem dX10_of_11 : decode cX10_of 11 = .ok (.iload_n 2, 1) := by decide +kernel
theorem dX10_of_12 : decode cX10_of 12 = .ok (.ifCond .lt 9, 3) := by decide +kernel
theorem dX10_of_15 : decode cX10_of 15 = .ok (.iload_n 2, 1) := by decide +kernel
theorem dX10_of_16 : decode cX10_of 16 = .ok (.bipush 21, 2) := by decide +kernel
theorem dX10_of_18 : decode cX10_of 18 = .ok (.if_icmp .lt 5, 3) := by decide +kernel
theorem dX10_of_21 : decode cX10_of 21 = .ok (.iconst (-1), 1) := by decide +kernel
theorem dX10_of_22 : decode cX10_of 22 = .ok (.ireturn, 1) := by decide +kernel
theorem dX10_of_23 : decode cX10_of 23 = .ok (.iload_n 2, 1) := by decide +kernel
theorem dX10_of_24 : decode cX10_of 24 = .ok (.ifCond .ne 16, 3) := by decide +kernel
theorem dX10_of_27 : decode cX10_of 27 = .ok (.aload_n 0, 1) := by decide +kernel
theorem dX10_of_28 : decode cX10_of 28 = .ok (.getfield 16, 3) := by decide +kernel
theorem dX10_of_31 : decode cX10_of 31 = .ok (.getfield 120, 3) := by decide +kernel
theorem dX10_of_34 : decode cX10_of 34 = .ok (.getfield 123, 3) := by decide +kernel
theorem dX10_of_37 : decode cX10_of 37 = .ok (.iload_n 1, 1) := by decide +kernel
theorem dX10_of_38 : decode cX10_of 38 = .ok (.iaload, 1) := by decide +kernel
theorem dX10_of_39 : decode cX10_of 39 = .ok (.ireturn, 1) := by decide +kernel
theorem dX10_of_40 : decode cX10_of 40 = .ok (.iload_n 2, 1) := by decide +kernel
theorem dX10_of_41 : decode cX10_of 41 = .ok (.iconst 1, 1) := by decide +kernel
theorem dX10_of_42 : decode cX10_of 42 = .ok (.if_icmp .ne 13, 3) := by decide +kernel
theorem dX10_of_45 : decode cX10_of 45 = .ok (.aload_n 0, 1) := by decide +kernel
theorem dX10_of_46 : decode cX10_of 46 = .ok (.getfield 16, 3) := by decide +kernel
theorem dX10_of_49 : decode cX10_of 49 = .ok (.getfield 126, 3) := by decide +kernel
theorem dX10_of_52 : decode cX10_of 52 = .ok (.iload_n 1, 1) := by decide +kernel
theorem dX10_of_53 : decode cX10_of 53 = .ok (.iaload, 1) := by decide +kernel
theorem dX10_of_54 : decode cX10_of 54 = .ok (.ireturn, 1) := by decide +kernel
theorem dX10_of_55 : decode cX10_of 55 = .ok (.iload_n 2, 1) := by decide +kernel
theorem dX10_of_56 : decode cX10_of 56 = .ok (.iconst 2, 1) := by decide +kernel
theorem dX10_of_57 : decode cX10_of 57 = .ok (.if_icmp .ne 19, 3) := by decide +kernel
theorem dX10_of_60 : decode cX10_of 60 = .ok (.aload_n 0, 1) := by decide +kernel
theorem dX10_of_61 : decode cX10_of 61 = .ok (.getfield 63, 3) := by decide +kernel
theorem dX10_of_64 : decode cX10_of 64 = .ok (.aload_n 0, 1) := by decide +kernel
theorem dX10_of_65 : decode cX10_of 65 = .ok (.getfield 16, 3) := by decide +kernel
theorem dX10_of_68 : decode cX10_of 68 = .ok (.getfield 120, 3) := by decide +kernel
theorem dX10_of_71 : decode cX10_of 71 = .ok (.iload_n 1, 1) := by decide +kernel
theorem dX10_of_72 : decode cX10_of 72 = .ok (.invokevirtual 129, 3) := by decide +kernel
theorem dX10_of_75 : decode cX10_of 75 = .ok (.ireturn, 1) := by decide +kernel
theorem dX10_of_76 : decode cX10_of 76 = .ok (.iload_n 2, 1) := by decide +kernel
theorem dX10_of_77 : decode cX10_of 77 = .ok (.iconst 3, 1) := by decide +kernel
theorem dX10_of_78 : decode cX10_of 78 = .ok (.isub, 1) := by decide +kernel
theorem dX10_of_79 : decode cX10_of 79 = .ok (.bipush 6, 2) := by decide +kernel
theorem dX10_of_81 : decode cX10_of 81 = .ok (.irem, 1) := by decide +kernel
theorem dX10_of_82 : decode cX10_of 82 = .ok (.istore_n 3, 1) := by decide +kernel
theorem dX10_of_83 : decode cX10_of 83 = .ok (.iload_n 2, 1) := by decide +kernel
theorem dX10_of_84 : decode cX10_of 84 = .ok (.bipush 9, 2) := by decide +kernel
theorem dX10_of_86 : decode cX10_of 86 = .ok (.if_icmp .ge 18, 3) := by decide +kernel
theorem dX10_of_89 : decode cX10_of 89 = .ok (.aload_n 0, 1) := by decide +kernel
theorem dX10_of_90 : decode cX10_of 90 = .ok (.getfield 16, 3) := by decide +kernel
theorem dX10_of_93 : decode cX10_of 93 = .ok (.getfield 117, 3) := by decide +kernel
theorem dX10_of_96 : decode cX10_of 96 = .ok (.iload_n 1, 1) := by decide +kernel
theorem dX10_of_97 : decode cX10_of 97 = .ok (.bipush 6, 2) := by decide +kernel
theorem dX10_of_99 : decode cX10_of 99 = .ok (.imul, 1) := by decide +kernel
theorem dX10_of_100 : decode cX10_of 100 = .ok (.iload_n 3, 1) := by decide +kernel
theorem dX10_of_101 : decode cX10_of 101 = .ok (.iadd, 1) := by decide +kernel
theorem dX10_of_102 : decode cX10_of 102 = .ok (.iaload, 1) := by decide +kernel
theorem dX10_of_103 : decode cX10_of 103 = .ok (.ireturn, 1) := by decide +kernel
theorem dX10_of_104 : decode cX10_of 104 = .ok (.aload_n 0, 1) := by decide +kernel
theorem dX10_of_105 : decode cX10_of 105 = .ok (.getfield 16, 3) := by decide +kernel
theorem dX10_of_108 : decode cX10_of 108 = .ok (.iload_n 3, 1) := by decide +kernel
theorem dX10_of_109 : decode cX10_of 109 = .ok (.invokevirtual 133, 3) := by decide +kernel
theorem dX10_of_112 : decode cX10_of 112 = .ok (.ifCond .ne 5, 3) := by decide +kernel
theorem dX10_of_115 : decode cX10_of 115 = .ok (.iconst (-1), 1) := by decide +kernel
theorem dX10_of_116 : decode cX10_of 116 = .ok (.ireturn, 1) := by decide +kernel
theorem dX10_of_117 : decode cX10_of 117 = .ok (.iload_n 2, 1) := by decide +kernel
theorem dX10_of_118 : decode cX10_of 118 = .ok (.bipush 15, 2) := by decide +kernel
theorem dX10_of_120 : decode cX10_of 120 = .ok (.if_icmp .ge 20, 3) := by decide +kernel
theorem dX10_of_123 : decode cX10_of 123 = .ok (.aload_n 0, 1) := by decide +kernel
theorem dX10_of_124 : decode cX10_of 124 = .ok (.getfield 63, 3) := by decide +kernel
theorem dX10_of_127 : decode cX10_of 127 = .ok (.aload_n 0, 1) := by decide +kernel
theorem dX10_of_128 : decode cX10_of 128 = .ok (.getfield 16, 3) := by decide +kernel
theorem dX10_of_131 : decode cX10_of 131 = .ok (.getfield 120, 3) := by decide +kernel
theorem dX10_of_134 : decode cX10_of 134 = .ok (.iload_n 1, 1) := by decide +kernel
theorem dX10_of_135 : decode cX10_of 135 = .ok (.iload_n 3, 1) := by decide +kernel
theorem dX10_of_136 : decode cX10_of 136 = .ok (.invokevirtual 136, 3) := by decide +kernel
theorem dX10_of_139 : decode cX10_of 139 = .ok (.ireturn, 1) := by decide +kernel
theorem dX10_of_140 : decode cX10_of 140 = .ok (.aload_n 0, 1) := by decide +kernel
theorem dX10_of_141 : decode cX10_of 141 = .ok (.getfield 63, 3) := by decide +kernel
theorem dX10_of_144 : decode cX10_of 144 = .ok (.aload_n 0, 1) := by decide +kernel
theorem dX10_of_145 : decode cX10_of 145 = .ok (.getfield 16, 3) := by decide +kernel
theorem dX10_of_148 : decode cX10_of 148 = .ok (.getfield 120, 3) := by decide +kernel
theorem dX10_of_151 : decode cX10_of 151 = .ok (.iload_n 1, 1) := by decide +kernel
theorem dX10_of_152 : decode cX10_of 152 = .ok (.iload_n 3, 1) := by decide +kernel
theorem dX10_of_153 : decode cX10_of 153 = .ok (.aload_n 0, 1) := by decide +kernel
theorem dX10_of_154 : decode cX10_of 154 = .ok (.getfield 16, 3) := by decide +kernel
theorem dX10_of_157 : decode cX10_of 157 = .ok (.invokevirtual 140, 3) := by decide +kernel
theorem dX10_of_160 : decode cX10_of 160 = .ok (.invokevirtual 144, 3) := by decide +kernel
theorem dX10_of_163 : decode cX10_of 163 = .ok (.ireturn, 1) := by decide +kernel
theorem dX10_matter_0 : decode cX10_matter 0 = .ok (.iload_n 1, 1) := by decide +kernel
theorem dX10_matter_1 : decode cX10_matter 1 = .ok (.iconst 1, 1) := by decide +kernel
theorem dX10_matter_2 : decode cX10_matter 2 = .ok (.if_icmp .lt 19, 3) := by decide +kernel
theorem dX10_matter_5 : decode cX10_matter 5 = .ok (.iload_n 1, 1) := by decide +kernel
theorem dX10_matter_6 : decode cX10_matter 6 = .ok (.bipush 9, 2) := by decide +kernel
theorem dX10_matter_8 : decode cX10_matter 8 = .ok (.if_icmp .gt 13, 3) := by decide +kernel
theorem dX10_matter_11 : decode cX10_matter 11 = .ok (.iload_n 2, 1) := by decide +kernel
theorem dX10_matter_12 : decode cX10_matter 12 = .ok (.ifCond .lt 9, 3) := by decide +kernel
theorem dX10_matter_15 : decode cX10_matter 15 = .ok (.iload_n 2, 1) := by decide +kernel
theorem dX10_matter_16 : decode cX10_matter 16 = .ok (.bipush 9, 2) := by decide +kernel
theorem dX10_matter_18 : decode cX10_matter 18 = .ok (.if_icmp .le 9, 3) := by decide +kernel
theorem dX10_matter_21 : decode cX10_matter 21 = .ok (.aload_n 0, 1) := by decide +kernel
theorem dX10_matter_22 : decode cX10_matter 22 = .ok (.iconst (-1), 1) := by decide +kernel
theorem dX10_matter_23 : decode cX10_matter 23 = .ok (.invokevirtual 96, 3) := by decide +kernel
theorem dX10_matter_26 : decode cX10_matter 26 = .ok (.ireturn, 1) := by decide +kernel
theorem dX10_matter_27 : decode cX10_matter 27 = .ok (.aload_n 0, 1) := by decide +kernel
theorem dX10_matter_28 : decode cX10_matter 28 = .ok (.getfield 16, 3) := by decide +kernel
theorem dX10_matter_31 : decode cX10_matter 31 = .ok (.getfield 148, 3) := by decide +kernel
theorem dX10_matter_34 : decode cX10_matter 34 = .ok (.bipush 6, 2) := by decide +kernel
theorem dX10_matter_36 : decode cX10_matter 36 = .ok (.if_icmp .lt 10, 3) := by decide +kernel
theorem dX10_matter_39 : decode cX10_matter 39 = .ok (.aload_n 0, 1) := by decide +kernel
theorem dX10_matter_40 : decode cX10_matter 40 = .ok (.bipush (-5), 2) := by decide +kernel
theorem dX10_matter_42 : decode cX10_matter 42 = .ok (.invokevirtual 96, 3) := by decide +kernel
theorem dX10_matter_45 : decode cX10_matter 45 = .ok (.ireturn, 1) := by decide +kernel
theorem dX10_matter_46 : decode cX10_matter 46 = .ok (.aload_n 0, 1) := by decide +kernel
theorem dX10_matter_47 : decode cX10_matter 47 = .ok (.getfield 27, 3) := by decide +kernel
theorem dX10_matter_50 : decode cX10_matter 50 = .ok (.invokevirtual 103, 3) := by decide +kernel
theorem dX10_matter_53 : decode cX10_matter 53 = .ok (.aload_n 0, 1) := by decide +kernel
theorem dX10_matter_54 : decode cX10_matter 54 = .ok (.aload_n 0, 1) := by decide +kernel
theorem dX10_matter_55 : decode cX10_matter 55 = .ok (.getfield 16, 3) := by decide +kernel
theorem dX10_matter_58 : decode cX10_matter 58 = .ok (.iload_n 1, 1) := by decide +kernel
theorem dX10_matter_59 : decode cX10_matter 59 = .ok (.iload_n 2, 1) := by decide +kernel
theorem dX10_matter_60 : decode cX10_matter 60 = .ok (.invokevirtual 151, 3) := by decide +kernel
theorem dX10_matter_63 : decode cX10_matter 63 = .ok (.invokevirtual 110, 3) := by decide +kernel
theorem dX10_matter_66 : decode cX10_matter 66 = .ok (.ireturn, 1) := by decide +kernel
theorem dX10_at_0 : decode cX10_at 0 = .ok (.aload_n 0, 1) := by decide +kernel
theorem dX10_at_1 : decode cX10_at 1 = .ok (.getfield 16, 3) := by decide +kernel
theorem dX10_at_4 : decode cX10_at 4 = .ok (.iload_n 1, 1) := by decide +kernel
theorem dX10_at_5 : decode cX10_at 5 = .ok (.invokevirtual 133, 3) := by decide +kernel
theorem dX10_at_8 : decode cX10_at 8 = .ok (.ifCond .ne 5, 3) := by decide +kernel
theorem dX10_at_11 : decode cX10_at 11 = .ok (.iconst (-1), 1) := by decide +kernel
theorem dX10_at_12 : decode cX10_at 12 = .ok (.ireturn, 1) := by decide +kernel
theorem dX10_at_13 : decode cX10_at 13 = .ok (.iload_n 2, 1) := by decide +kernel
theorem dX10_at_14 : decode cX10_at 14 = .ok (.tableswitch 186 0 6 #[42, 52, 62, 75, 91, 121, 151], 42) := by decide +kernel
theorem dX10_at_56 : decode cX10_at 56 = .ok (.aload_n 0, 1) := by decide +kernel
theorem dX10_at_57 : decode cX10_at 57 = .ok (.getfield 16, 3) := by decide +kernel
theorem dX10_at_60 : decode cX10_at 60 = .ok (.getfield 154, 3) := by decide +kernel
theorem dX10_at_63 : decode cX10_at 63 = .ok (.iload_n 1, 1) := by decide +kernel
theorem dX10_at_64 : decode cX10_at 64 = .ok (.iaload, 1) := by decide +kernel
theorem dX10_at_65 : decode cX10_at 65 = .ok (.ireturn, 1) := by decide +kernel
theorem dX10_at_66 : decode cX10_at 66 = .ok (.aload_n 0, 1) := by decide +kernel
theorem dX10_at_67 : decode cX10_at 67 = .ok (.getfield 16, 3) := by decide +kernel
theorem dX10_at_70 : decode cX10_at 70 = .ok (.getfield 157, 3) := by decide +kernel
theorem dX10_at_73 : decode cX10_at 73 = .ok (.iload_n 1, 1) := by decide +kernel
theorem dX10_at_74 : decode cX10_at 74 = .ok (.iaload, 1) := by decide +kernel
theorem dX10_at_75 : decode cX10_at 75 = .ok (.ireturn, 1) := by decide +kernel
theorem dX10_at_76 : decode cX10_at 76 = .ok (.aload_n 0, 1) := by decide +kernel
theorem dX10_at_77 : decode cX10_at 77 = .ok (.getfield 16, 3) := by decide +kernel
theorem dX10_at_80 : decode cX10_at 80 = .ok (.getfield 120, 3) := by decide +kernel
theorem dX10_at_83 : decode cX10_at 83 = .ok (.getfield 160, 3) := by decide +kernel
theorem dX10_at_86 : decode cX10_at 86 = .ok (.iload_n 1, 1) := by decide +kernel
theorem dX10_at_87 : decode cX10_at 87 = .ok (.iaload, 1) := by decide +kernel
theorem dX10_at_88 : decode cX10_at 88 = .ok (.ireturn, 1) := by decide +kernel
theorem dX10_at_89 : decode cX10_at 89 = .ok (.aload_n 0, 1) := by decide +kernel
theorem dX10_at_90 : decode cX10_at 90 = .ok (.getfield 63, 3) := by decide +kernel
theorem dX10_at_93 : decode cX10_at 93 = .ok (.aload_n 0, 1) := by decide +kernel
theorem dX10_at_94 : decode cX10_at 94 = .ok (.getfield 16, 3) := by decide +kernel
theorem dX10_at_97 : decode cX10_at 97 = .ok (.getfield 120, 3) := by decide +kernel
theorem dX10_at_100 : decode cX10_at 100 = .ok (.iload_n 1, 1) := by decide +kernel
theorem dX10_at_101 : decode cX10_at 101 = .ok (.invokevirtual 163, 3) := by decide +kernel
theorem dX10_at_104 : decode cX10_at 104 = .ok (.ireturn, 1) := by decide +kernel
theorem dX10_at_105 : decode cX10_at 105 = .ok (.aload_n 0, 1) := by decide +kernel
theorem dX10_at_106 : decode cX10_at 106 = .ok (.getfield 63, 3) := by decide +kernel
theorem dX10_at_109 : decode cX10_at 109 = .ok (.aload_n 0, 1) := by decide +kernel
theorem dX10_at_110 : decode cX10_at 110 = .ok (.getfield 16, 3) := by decide +kernel
theorem dX10_at_113 : decode cX10_at 113 = .ok (.getfield 120, 3) := by decide +kernel
theorem dX10_at_116 : decode cX10_at 116 = .ok (.iload_n 1, 1) := by decide +kernel
theorem dX10_at_117 : decode cX10_at 117 = .ok (.aload_n 0, 1) := by decide +kernel
theorem dX10_at_118 : decode cX10_at 118 = .ok (.getfield 16, 3) := by decide +kernel
theorem dX10_at_121 : decode cX10_at 121 = .ok (.invokevirtual 140, 3) := by decide +kernel
theorem dX10_at_124 : decode cX10_at 124 = .ok (.invokevirtual 166, 3) := by decide +kernel
theorem dX10_at_127 : decode cX10_at 127 = .ok (.aload_n 0, 1) := by decide +kernel
theorem dX10_at_128 : decode cX10_at 128 = .ok (.getfield 63, 3) := by decide +kernel
theorem dX10_at_131 : decode cX10_at 131 = .ok (.getfield 170, 3) := by decide +kernel
theorem dX10_at_134 : decode cX10_at 134 = .ok (.ireturn, 1) := by decide +kernel
theorem dX10_at_135 : decode cX10_at 135 = .ok (.aload_n 0, 1) := by decide +kernel
theorem dX10_at_136 : decode cX10_at 136 = .ok (.getfield 63, 3) := by decide +kernel
theorem dX10_at_139 : decode cX10_at 139 = .ok (.aload_n 0, 1) := by decide +kernel
theorem dX10_at_140 : decode cX10_at 140 = .ok (.getfield 16, 3) := by decide +kernel
theorem dX10_at_143 : decode cX10_at 143 = .ok (.getfield 120, 3) := by decide +kernel
theorem dX10_at_146 : decode cX10_at 146 = .ok (.iload_n 1, 1) := by decide +kernel
theorem dX10_at_147 : decode cX10_at 147 = .ok (.aload_n 0, 1) := by decide +kernel
theorem dX10_at_148 : decode cX10_at 148 = .ok (.getfield 16, 3) := by decide +kernel
theorem dX10_at_151 : decode cX10_at 151 = .ok (.invokevirtual 140, 3) := by decide +kernel
theorem dX10_at_154 : decode cX10_at 154 = .ok (.invokevirtual 166, 3) := by decide +kernel
theorem dX10_at_157 : decode cX10_at 157 = .ok (.aload_n 0, 1) := by decide +kernel
theorem dX10_at_158 : decode cX10_at 158 = .ok (.getfield 63, 3) := by decide +kernel
theorem dX10_at_161 : decode cX10_at 161 = .ok (.getfield 173, 3) := by decide +kernel
theorem dX10_at_164 : decode cX10_at 164 = .ok (.ireturn, 1) := by decide +kernel
theorem dX10_at_165 : decode cX10_at 165 = .ok (.aload_n 0, 1) := by decide +kernel
theorem dX10_at_166 : decode cX10_at 166 = .ok (.getfield 41, 3) := by decide +kernel
theorem dX10_at_169 : decode cX10_at 169 = .ok (.aload_n 0, 1) := by decide +kernel
theorem dX10_at_170 : decode cX10_at 170 = .ok (.getfield 16, 3) := by decide +kernel
theorem dX10_at_173 : decode cX10_at 173 = .ok (.getfield 120, 3) := by decide +kernel
theorem dX10_at_176 : decode cX10_at 176 = .ok (.invokevirtual 176, 3) := by decide +kernel
theorem dX10_at_179 : decode cX10_at 179 = .ok (.aload_n 0, 1) := by decide +kernel
theorem dX10_at_180 : decode cX10_at 180 = .ok (.getfield 63, 3) := by decide +kernel
theorem dX10_at_183 : decode cX10_at 183 = .ok (.aload_n 0, 1) := by decide +kernel
theorem dX10_at_184 : decode cX10_at 184 = .ok (.getfield 41, 3) := by decide +kernel
theorem dX10_at_187 : decode cX10_at 187 = .ok (.iload_n 1, 1) := by decide +kernel
theorem dX10_at_188 : decode cX10_at 188 = .ok (.invokevirtual 180, 3) := by decide +kernel
theorem dX10_at_191 : decode cX10_at 191 = .ok (.ifCond .lt 7, 3) := by decide +kernel
theorem dX10_at_194 : decode cX10_at 194 = .ok (.iconst 1, 1) := by decide +kernel
theorem dX10_at_195 : decode cX10_at 195 = .ok (.goto 4, 3) := by decide +kernel
theorem dX10_at_198 : decode cX10_at 198 = .ok (.iconst 0, 1) := by decide +kernel
theorem dX10_at_199 : decode cX10_at 199 = .ok (.ireturn, 1) := by decide +kernel
theorem dX10_at_200 : decode cX10_at 200 = .ok (.iconst (-1), 1) := by decide +kernel
theorem dX10_at_201 : decode cX10_at 201 = .ok (.ireturn, 1) := by decide +kernel
theorem dX10_terms_0 : decode cX10_terms 0 = .ok (.iload_n 1, 1) := by decide +kernel
theorem dX10_terms_1 : decode cX10_terms 1 = .ok (.ifCond .lt 20, 3) := by decide +kernel
theorem dX10_terms_4 : decode cX10_terms 4 = .ok (.iload_n 1, 1) := by decide +kernel
theorem dX10_terms_5 : decode cX10_terms 5 = .ok (.iconst 3, 1) := by decide +kernel
theorem dX10_terms_6 : decode cX10_terms 6 = .ok (.if_icmp .gt 15, 3) := by decide +kernel
theorem dX10_terms_9 : decode cX10_terms 9 = .ok (.iload_n 2, 1) := by decide +kernel
theorem dX10_terms_10 : decode cX10_terms 10 = .ok (.ifCond .lt 11, 3) := by decide +kernel
theorem dX10_terms_13 : decode cX10_terms 13 = .ok (.iload_n 2, 1) := by decide +kernel
theorem dX10_terms_14 : decode cX10_terms 14 = .ok (.iload_n 1, 1) := by decide +kernel
theorem dX10_terms_15 : decode cX10_terms 15 = .ok (.invokestatic 183, 3) := by decide +kernel
theorem dX10_terms_18 : decode cX10_terms 18 = .ok (.if_icmp .le 9, 3) := by decide +kernel
theorem dX10_terms_21 : decode cX10_terms 21 = .ok (.aload_n 0, 1) := by decide +kernel
theorem dX10_terms_22 : decode cX10_terms 22 = .ok (.iconst (-1), 1) := by decide +kernel
theorem dX10_terms_23 : decode cX10_terms 23 = .ok (.invokevirtual 96, 3) := by decide +kernel
theorem dX10_terms_26 : decode cX10_terms 26 = .ok (.ireturn, 1) := by decide +kernel
theorem dX10_terms_27 : decode cX10_terms 27 = .ok (.aload_n 0, 1) := by decide +kernel
theorem dX10_terms_28 : decode cX10_terms 28 = .ok (.iload_n 1, 1) := by decide +kernel
theorem dX10_terms_29 : decode cX10_terms 29 = .ok (.invokevirtual 186, 3) := by decide +kernel
theorem dX10_terms_32 : decode cX10_terms 32 = .ok (.istore_n 3, 1) := by decide +kernel
theorem dX10_terms_33 : decode cX10_terms 33 = .ok (.iload_n 1, 1) := by decide +kernel
theorem dX10_terms_34 : decode cX10_terms 34 = .ok (.ifCond .ne 17, 3) := by decide +kernel
theorem dX10_terms_37 : decode cX10_terms 37 = .ok (.aload_n 0, 1) := by decide +kernel
theorem dX10_terms_38 : decode cX10_terms 38 = .ok (.getfield 16, 3) := by decide +kernel
theorem dX10_terms_41 : decode cX10_terms 41 = .ok (.getfield 120, 3) := by decide +kernel
theorem dX10_terms_44 : decode cX10_terms 44 = .ok (.iload_n 2, 1) := by decide +kernel
theorem dX10_terms_45 : decode cX10_terms 45 = .ok (.putfield 189, 3) := by decide +kernel
theorem dX10_terms_48 : decode cX10_terms 48 = .ok (.goto 43, 3) := by decide +kernel
theorem dX10_terms_51 : decode cX10_terms 51 = .ok (.iload_n 1, 1) := by decide +kernel
theorem dX10_terms_52 : decode cX10_terms 52 = .ok (.iconst 1, 1) := by decide +kernel
theorem dX10_terms_53 : decode cX10_terms 53 = .ok (.if_icmp .ne 14, 3) := by decide +kernel
theorem dX10_terms_56 : decode cX10_terms 56 = .ok (.aload_n 0, 1) := by decide +kernel
theorem dX10_terms_57 : decode cX10_terms 57 = .ok (.getfield 16, 3) := by decide +kernel
theorem dX10_terms_60 : decode cX10_terms 60 = .ok (.iload_n 2, 1) := by decide +kernel
theorem dX10_terms_61 : decode cX10_terms 61 = .ok (.putfield 192, 3) := by decide +kernel
theorem dX10_terms_64 : decode cX10_terms 64 = .ok (.goto 27, 3) := by decide +kernel
theorem dX10_terms_67 : decode cX10_terms 67 = .ok (.iload_n 1, 1) := by decide +kernel
theorem dX10_terms_68 : decode cX10_terms 68 = .ok (.iconst 2, 1) := by decide +kernel
theorem dX10_terms_69 : decode cX10_terms 69 = .ok (.if_icmp .ne 14, 3) := by decide +kernel
theorem dX10_terms_72 : decode cX10_terms 72 = .ok (.aload_n 0, 1) := by decide +kernel
theorem dX10_terms_73 : decode cX10_terms 73 = .ok (.getfield 16, 3) := by decide +kernel
theorem dX10_terms_76 : decode cX10_terms 76 = .ok (.iload_n 2, 1) := by decide +kernel
theorem dX10_terms_77 : decode cX10_terms 77 = .ok (.putfield 195, 3) := by decide +kernel
theorem dX10_terms_80 : decode cX10_terms 80 = .ok (.goto 11, 3) := by decide +kernel
theorem dX10_terms_83 : decode cX10_terms 83 = .ok (.aload_n 0, 1) := by decide +kernel
theorem dX10_terms_84 : decode cX10_terms 84 = .ok (.getfield 16, 3) := by decide +kernel
theorem dX10_terms_87 : decode cX10_terms 87 = .ok (.iload_n 2, 1) := by decide +kernel
theorem dX10_terms_88 : decode cX10_terms 88 = .ok (.putfield 198, 3) := by decide +kernel
theorem dX10_terms_91 : decode cX10_terms 91 = .ok (.aload_n 0, 1) := by decide +kernel
theorem dX10_terms_92 : decode cX10_terms 92 = .ok (.getfield 27, 3) := by decide +kernel
theorem dX10_terms_95 : decode cX10_terms 95 = .ok (.invokevirtual 103, 3) := by decide +kernel
theorem dX10_terms_98 : decode cX10_terms 98 = .ok (.aload_n 0, 1) := by decide +kernel
theorem dX10_terms_99 : decode cX10_terms 99 = .ok (.iload_n 3, 1) := by decide +kernel
theorem dX10_terms_100 : decode cX10_terms 100 = .ok (.invokevirtual 110, 3) := by decide +kernel
theorem dX10_terms_103 : decode cX10_terms 103 = .ok (.ireturn, 1) := by decide +kernel
theorem dX10_largestTerm_0 : decode cX10_largestTerm 0 = .ok (.iload_n 0, 1) := by decide +kernel
theorem dX10_largestTerm_1 : decode cX10_largestTerm 1 = .ok (.tableswitch 37 0 2 #[27, 31, 34], 27) := by decide +kernel
theorem dX10_largestTerm_28 : decode cX10_largestTerm 28 = .ok (.sipush 999, 3) := by decide +kernel
theorem dX10_largestTerm_31 : decode cX10_largestTerm 31 = .ok (.ireturn, 1) := by decide +kernel
theorem dX10_largestTerm_32 : decode cX10_largestTerm 32 = .ok (.bipush 10, 2) := by decide +kernel
theorem dX10_largestTerm_34 : decode cX10_largestTerm 34 = .ok (.ireturn, 1) := by decide +kernel
theorem dX10_largestTerm_35 : decode cX10_largestTerm 35 = .ok (.bipush 9, 2) := by decide +kernel
theorem dX10_largestTerm_37 : decode cX10_largestTerm 37 = .ok (.ireturn, 1) := by decide +kernel
theorem dX10_largestTerm_38 : decode cX10_largestTerm 38 = .ok (.bipush 7, 2) := by decide +kernel
theorem dX10_largestTerm_40 : decode cX10_largestTerm 40 = .ok (.ireturn, 1) := by decide +kernel
theorem dX10_term_0 : decode cX10_term 0 = .ok (.iload_n 1, 1) := by decide +kernel
theorem dX10_term_1 : decode cX10_term 1 = .ok (.tableswitch 54 0 2 #[27, 38, 46], 27) := by decide +kernel
theorem dX10_term_28 : decode cX10_term 28 = .ok (.aload_n 0, 1) := by decide +kernel
theorem dX10_term_29 : decode cX10_term 29 = .ok (.getfield 16, 3) := by decide +kernel
theorem dX10_term_32 : decode cX10_term 32 = .ok (.getfield 120, 3) := by decide +kernel
theorem dX10_term_35 : decode cX10_term 35 = .ok (.getfield 189, 3) := by decide +kernel
theorem dX10_term_38 : decode cX10_term 38 = .ok (.ireturn, 1) := by decide +kernel
theorem dX10_term_39 : decode cX10_term 39 = .ok (.aload_n 0, 1) := by decide +kernel
theorem dX10_term_40 : decode cX10_term 40 = .ok (.getfield 16, 3) := by decide +kernel
theorem dX10_term_43 : decode cX10_term 43 = .ok (.getfield 192, 3) := by decide +kernel
theorem dX10_term_46 : decode cX10_term 46 = .ok (.ireturn, 1) := by decide +kernel
theorem dX10_term_47 : decode cX10_term 47 = .ok (.aload_n 0, 1) := by decide +kernel
theorem dX10_term_48 : decode cX10_term 48 = .ok (.getfield 16, 3) := by decide +kernel
theorem dX10_term_51 : decode cX10_term 51 = .ok (.getfield 195, 3) := by decide +kernel
theorem dX10_term_54 : decode cX10_term 54 = .ok (.ireturn, 1) := by decide +kernel
theorem dX10_term_55 : decode cX10_term 55 = .ok (.aload_n 0, 1) := by decide +kernel
theorem dX10_term_56 : decode cX10_term 56 = .ok (.getfield 16, 3) := by decide +kernel
theorem dX10_term_59 : decode cX10_term 59 = .ok (.getfield 198, 3) := by decide +kernel
theorem dX10_term_62 : decode cX10_term 62 = .ok (.ireturn, 1) := by decide +kernel
theorem dX10_feed_0 : decode cX10_feed 0 = .ok (.aload_n 0, 1) := by decide +kernel
theorem dX10_feed_1 : decode cX10_feed 1 = .ok (.getfield 201, 3) := by decide +kernel
theorem dX10_feed_4 : decode cX10_feed 4 = .ok (.bipush 20, 2) := by decide +kernel
theorem dX10_feed_6 : decode cX10_feed 6 = .ok (.iadd, 1) := by decide +kernel
theorem dX10_feed_7 : decode cX10_feed 7 = .ok (.sipush 400, 3) := by decide +kernel
theorem dX10_feed_10 : decode cX10_feed 10 = .ok (.if_icmp .le 5, 3) := by decide +kernel
theorem dX10_feed_13 : decode cX10_feed 13 = .ok (.iconst (-1), 1) := by decide +kernel
theorem dX10_feed_14 : decode cX10_feed 14 = .ok (.ireturn, 1) := by decide +kernel
theorem dX10_feed_15 : decode cX10_feed 15 = .ok (.aload_n 0, 1) := by decide +kernel
theorem dX10_feed_16 : decode cX10_feed 16 = .ok (.iload_n 1, 1) := by decide +kernel
theorem dX10_feed_17 : decode cX10_feed 17 = .ok (.invokevirtual 204, 3) := by decide +kernel
theorem dX10_feed_20 : decode cX10_feed 20 = .ok (.aload_n 0, 1) := by decide +kernel
theorem dX10_feed_21 : decode cX10_feed 21 = .ok (.iload_n 2, 1) := by decide +kernel
theorem dX10_feed_22 : decode cX10_feed 22 = .ok (.invokevirtual 204, 3) := by decide +kernel
theorem dX10_feed_25 : decode cX10_feed 25 = .ok (.aload_n 0, 1) := by decide +kernel
theorem dX10_feed_26 : decode cX10_feed 26 = .ok (.iload_n 3, 1) := by decide +kernel
theorem dX10_feed_27 : decode cX10_feed 27 = .ok (.invokevirtual 204, 3) := by decide +kernel
theorem dX10_feed_30 : decode cX10_feed 30 = .ok (.aload_n 0, 1) := by decide +kernel
theorem dX10_feed_31 : decode cX10_feed 31 = .ok (.iload 4, 2) := by decide +kernel
theorem dX10_feed_33 : decode cX10_feed 33 = .ok (.invokevirtual 204, 3) := by decide +kernel
theorem dX10_feed_36 : decode cX10_feed 36 = .ok (.aload_n 0, 1) := by decide +kernel
theorem dX10_feed_37 : decode cX10_feed 37 = .ok (.iload 5, 2) := by decide +kernel
theorem dX10_feed_39 : decode cX10_feed 39 = .ok (.invokevirtual 204, 3) := by decide +kernel
theorem dX10_feed_42 : decode cX10_feed 42 = .ok (.aload_n 0, 1) := by decide +kernel
theorem dX10_feed_43 : decode cX10_feed 43 = .ok (.getfield 201, 3) := by decide +kernel
theorem dX10_feed_46 : decode cX10_feed 46 = .ok (.ireturn, 1) := by decide +kernel
theorem dX10_feedFour_0 : decode cX10_feedFour 0 = .ok (.bipush 24, 2) := by decide +kernel
theorem dX10_feedFour_2 : decode cX10_feedFour 2 = .ok (.istore_n 2, 1) := by decide +kernel
theorem dX10_feedFour_3 : decode cX10_feedFour 3 = .ok (.iload_n 2, 1) := by decide +kernel
theorem dX10_feedFour_4 : decode cX10_feedFour 4 = .ok (.ifCond .lt 52, 3) := by decide +kernel
theorem dX10_feedFour_7 : decode cX10_feedFour 7 = .ok (.aload_n 0, 1) := by decide +kernel
theorem dX10_feedFour_8 : decode cX10_feedFour 8 = .ok (.getfield 201, 3) := by decide +kernel
theorem dX10_feedFour_11 : decode cX10_feedFour 11 = .ok (.ifCond .lt 45, 3) := by decide +kernel
theorem dX10_feedFour_14 : decode cX10_feedFour 14 = .ok (.aload_n 0, 1) := by decide +kernel
theorem dX10_feedFour_15 : decode cX10_feedFour 15 = .ok (.getfield 201, 3) := by decide +kernel
theorem dX10_feedFour_18 : decode cX10_feedFour 18 = .ok (.sipush 400, 3) := by decide +kernel
theorem dX10_feedFour_21 : decode cX10_feedFour 21 = .ok (.if_icmp .ge 35, 3) := by decide +kernel
theorem dX10_feedFour_24 : decode cX10_feedFour 24 = .ok (.aload_n 0, 1) := by decide +kernel
theorem dX10_feedFour_25 : decode cX10_feedFour 25 = .ok (.getfield 9, 3) := by decide +kernel
theorem dX10_feedFour_28 : decode cX10_feedFour 28 = .ok (.aload_n 0, 1) := by decide +kernel
theorem dX10_feedFour_29 : decode cX10_feedFour 29 = .ok (.getfield 201, 3) := by decide +kernel
theorem dX10_feedFour_32 : decode cX10_feedFour 32 = .ok (.iload_n 1, 1) := by decide +kernel
theorem dX10_feedFour_33 : decode cX10_feedFour 33 = .ok (.iload_n 2, 1) := by decide +kernel
theorem dX10_feedFour_34 : decode cX10_feedFour 34 = .ok (.iushr, 1) := by decide +kernel
theorem dX10_feedFour_35 : decode cX10_feedFour 35 = .ok (.sipush 255, 3) := by decide +kernel
theorem dX10_feedFour_38 : decode cX10_feedFour 38 = .ok (.iand, 1) := by decide +kernel
theorem dX10_feedFour_39 : decode cX10_feedFour 39 = .ok (.iastore, 1) := by decide +kernel
theorem dX10_feedFour_40 : decode cX10_feedFour 40 = .ok (.aload_n 0, 1) := by decide +kernel
theorem dX10_feedFour_41 : decode cX10_feedFour 41 = .ok (.dup, 1) := by decide +kernel
theorem dX10_feedFour_42 : decode cX10_feedFour 42 = .ok (.getfield 201, 3) := by decide +kernel
theorem dX10_feedFour_45 : decode cX10_feedFour 45 = .ok (.iconst 1, 1) := by decide +kernel
theorem dX10_feedFour_46 : decode cX10_feedFour 46 = .ok (.iadd, 1) := by decide +kernel
theorem dX10_feedFour_47 : decode cX10_feedFour 47 = .ok (.putfield 201, 3) := by decide +kernel
theorem dX10_feedFour_50 : decode cX10_feedFour 50 = .ok (.iinc 2 (-8), 3) := by decide +kernel
theorem dX10_feedFour_53 : decode cX10_feedFour 53 = .ok (.goto (-50), 3) := by decide +kernel
theorem dX10_feedFour_56 : decode cX10_feedFour 56 = .ok (.return_, 1) := by decide +kernel
theorem dX10_end_0 : decode cX10_end 0 = .ok (.iload_n 1, 1) := by decide +kernel
theorem dX10_end_1 : decode cX10_end 1 = .ok (.ifCond .lt 11, 3) := by decide +kernel
theorem dX10_end_4 : decode cX10_end 4 = .ok (.iload_n 1, 1) := by decide +kernel
theorem dX10_end_5 : decode cX10_end 5 = .ok (.aload_n 0, 1) := by decide +kernel
theorem dX10_end_6 : decode cX10_end 6 = .ok (.getfield 201, 3) := by decide +kernel
theorem dX10_end_9 : decode cX10_end 9 = .ok (.if_icmp .le 5, 3) := by decide +kernel
theorem dX10_end_12 : decode cX10_end 12 = .ok (.iconst (-1), 1) := by decide +kernel
theorem dX10_end_13 : decode cX10_end 13 = .ok (.ireturn, 1) := by decide +kernel
theorem dX10_end_14 : decode cX10_end 14 = .ok (.aload_n 0, 1) := by decide +kernel
theorem dX10_end_15 : decode cX10_end 15 = .ok (.iload_n 1, 1) := by decide +kernel
theorem dX10_end_16 : decode cX10_end 16 = .ok (.putfield 201, 3) := by decide +kernel
theorem dX10_end_19 : decode cX10_end 19 = .ok (.iload_n 1, 1) := by decide +kernel
theorem dX10_end_20 : decode cX10_end 20 = .ok (.ireturn, 1) := by decide +kernel
theorem dX10_row_0 : decode cX10_row 0 = .ok (.aload_n 0, 1) := by decide +kernel
theorem dX10_row_1 : decode cX10_row 1 = .ok (.getfield 201, 3) := by decide +kernel
theorem dX10_row_4 : decode cX10_row 4 = .ok (.ifCond .ne 10, 3) := by decide +kernel
theorem dX10_row_7 : decode cX10_row 7 = .ok (.aload_n 0, 1) := by decide +kernel
theorem dX10_row_8 : decode cX10_row 8 = .ok (.bipush (-6), 2) := by decide +kernel
theorem dX10_row_10 : decode cX10_row 10 = .ok (.invokevirtual 96, 3) := by decide +kernel
theorem dX10_row_13 : decode cX10_row 13 = .ok (.ireturn, 1) := by decide +kernel
theorem dX10_row_14 : decode cX10_row 14 = .ok (.aload_n 0, 1) := by decide +kernel
theorem dX10_row_15 : decode cX10_row 15 = .ok (.getfield 16, 3) := by decide +kernel
theorem dX10_row_18 : decode cX10_row 18 = .ok (.getfield 100, 3) := by decide +kernel
theorem dX10_row_21 : decode cX10_row 21 = .ok (.istore_n 1, 1) := by decide +kernel
theorem dX10_row_22 : decode cX10_row 22 = .ok (.iconst 0, 1) := by decide +kernel
theorem dX10_row_23 : decode cX10_row 23 = .ok (.istore_n 2, 1) := by decide +kernel
theorem dX10_row_24 : decode cX10_row 24 = .ok (.iconst 0, 1) := by decide +kernel
theorem dX10_row_25 : decode cX10_row 25 = .ok (.istore_n 3, 1) := by decide +kernel
theorem dX10_row_26 : decode cX10_row 26 = .ok (.iload_n 3, 1) := by decide +kernel
theorem dX10_row_27 : decode cX10_row 27 = .ok (.aload_n 0, 1) := by decide +kernel
theorem dX10_row_28 : decode cX10_row 28 = .ok (.getfield 201, 3) := by decide +kernel
theorem dX10_row_31 : decode cX10_row 31 = .ok (.if_icmp .ge 25, 3) := by decide +kernel
theorem dX10_row_34 : decode cX10_row 34 = .ok (.aload_n 0, 1) := by decide +kernel
theorem dX10_row_35 : decode cX10_row 35 = .ok (.iload_n 3, 1) := by decide +kernel
theorem dX10_row_36 : decode cX10_row 36 = .ok (.invokevirtual 208, 3) := by decide +kernel
theorem dX10_row_39 : decode cX10_row 39 = .ok (.ifCond .eq 8, 3) := by decide +kernel
theorem dX10_row_42 : decode cX10_row 42 = .ok (.aload_n 0, 1) := by decide +kernel
theorem dX10_row_43 : decode cX10_row 43 = .ok (.iload_n 3, 1) := by decide +kernel
theorem dX10_row_44 : decode cX10_row 44 = .ok (.invokevirtual 211, 3) := by decide +kernel
theorem dX10_row_47 : decode cX10_row 47 = .ok (.iinc 2 1, 3) := by decide +kernel
theorem dX10_row_50 : decode cX10_row 50 = .ok (.iinc 3 8, 3) := by decide +kernel
theorem dX10_row_53 : decode cX10_row 53 = .ok (.goto (-27), 3) := by decide +kernel
theorem dX10_row_56 : decode cX10_row 56 = .ok (.aload_n 0, 1) := by decide +kernel
theorem dX10_row_57 : decode cX10_row 57 = .ok (.getfield 16, 3) := by decide +kernel
theorem dX10_row_60 : decode cX10_row 60 = .ok (.getfield 100, 3) := by decide +kernel
theorem dX10_row_63 : decode cX10_row 63 = .ok (.iload_n 1, 1) := by decide +kernel
theorem dX10_row_64 : decode cX10_row 64 = .ok (.isub, 1) := by decide +kernel
theorem dX10_row_65 : decode cX10_row 65 = .ok (.istore_n 3, 1) := by decide +kernel
theorem dX10_row_66 : decode cX10_row 66 = .ok (.aload_n 0, 1) := by decide +kernel
theorem dX10_row_67 : decode cX10_row 67 = .ok (.iload_n 2, 1) := by decide +kernel
theorem dX10_row_68 : decode cX10_row 68 = .ok (.iload_n 3, 1) := by decide +kernel
theorem dX10_row_69 : decode cX10_row 69 = .ok (.isub, 1) := by decide +kernel
theorem dX10_row_70 : decode cX10_row 70 = .ok (.putfield 214, 3) := by decide +kernel
theorem dX10_row_73 : decode cX10_row 73 = .ok (.aload_n 0, 1) := by decide +kernel
theorem dX10_row_74 : decode cX10_row 74 = .ok (.iconst 0, 1) := by decide +kernel
theorem dX10_row_75 : decode cX10_row 75 = .ok (.putfield 201, 3) := by decide +kernel
theorem dX10_row_78 : decode cX10_row 78 = .ok (.aload_n 0, 1) := by decide +kernel
theorem dX10_row_79 : decode cX10_row 79 = .ok (.getfield 27, 3) := by decide +kernel
theorem dX10_row_82 : decode cX10_row 82 = .ok (.invokevirtual 103, 3) := by decide +kernel
theorem dX10_row_85 : decode cX10_row 85 = .ok (.aload_n 0, 1) := by decide +kernel
theorem dX10_row_86 : decode cX10_row 86 = .ok (.iload_n 3, 1) := by decide +kernel
theorem dX10_row_87 : decode cX10_row 87 = .ok (.invokevirtual 110, 3) := by decide +kernel
theorem dX10_row_90 : decode cX10_row 90 = .ok (.ireturn, 1) := by decide +kernel
theorem dX10_canBeBird_0 : decode cX10_canBeBird 0 = .ok (.iload_n 1, 1) := by decide +kernel
theorem dX10_canBeBird_1 : decode cX10_canBeBird 1 = .ok (.ifCond .lt 47, 3) := by decide +kernel
theorem dX10_canBeBird_4 : decode cX10_canBeBird 4 = .ok (.iload_n 1, 1) := by decide +kernel
theorem dX10_canBeBird_5 : decode cX10_canBeBird 5 = .ok (.bipush 8, 2) := by decide +kernel
theorem dX10_canBeBird_7 : decode cX10_canBeBird 7 = .ok (.iadd, 1) := by decide +kernel
theorem dX10_canBeBird_8 : decode cX10_canBeBird 8 = .ok (.aload_n 0, 1) := by decide +kernel
theorem dX10_canBeBird_9 : decode cX10_canBeBird 9 = .ok (.getfield 201, 3) := by decide +kernel
theorem dX10_canBeBird_12 : decode cX10_canBeBird 12 = .ok (.if_icmp .gt 36, 3) := by decide +kernel
theorem dX10_canBeBird_15 : decode cX10_canBeBird 15 = .ok (.aload_n 0, 1) := by decide +kernel
theorem dX10_canBeBird_16 : decode cX10_canBeBird 16 = .ok (.getfield 201, 3) := by decide +kernel
theorem dX10_canBeBird_19 : decode cX10_canBeBird 19 = .ok (.sipush 400, 3) := by decide +kernel
theorem dX10_canBeBird_22 : decode cX10_canBeBird 22 = .ok (.if_icmp .gt 26, 3) := by decide +kernel
theorem dX10_canBeBird_25 : decode cX10_canBeBird 25 = .ok (.aload_n 0, 1) := by decide +kernel
theorem dX10_canBeBird_26 : decode cX10_canBeBird 26 = .ok (.getfield 16, 3) := by decide +kernel
theorem dX10_canBeBird_29 : decode cX10_canBeBird 29 = .ok (.getfield 100, 3) := by decide +kernel
theorem dX10_canBeBird_32 : decode cX10_canBeBird 32 = .ok (.bipush 7, 2) := by decide +kernel
theorem dX10_canBeBird_34 : decode cX10_canBeBird 34 = .ok (.if_icmp .ge 14, 3) := by decide +kernel
theorem dX10_canBeBird_37 : decode cX10_canBeBird 37 = .ok (.aload_n 0, 1) := by decide +kernel
theorem dX10_canBeBird_38 : decode cX10_canBeBird 38 = .ok (.getfield 9, 3) := by decide +kernel
theorem dX10_canBeBird_41 : decode cX10_canBeBird 41 = .ok (.iload_n 1, 1) := by decide +kernel
theorem dX10_canBeBird_42 : decode cX10_canBeBird 42 = .ok (.iaload, 1) := by decide +kernel
theorem dX10_canBeBird_43 : decode cX10_canBeBird 43 = .ok (.bipush 20, 2) := by decide +kernel
theorem dX10_canBeBird_45 : decode cX10_canBeBird 45 = .ok (.if_icmp .lt 5, 3) := by decide +kernel
theorem dX10_canBeBird_48 : decode cX10_canBeBird 48 = .ok (.iconst 0, 1) := by decide +kernel
theorem dX10_canBeBird_49 : decode cX10_canBeBird 49 = .ok (.ireturn, 1) := by decide +kernel
theorem dX10_canBeBird_50 : decode cX10_canBeBird 50 = .ok (.iload_n 1, 1) := by decide +kernel
theorem dX10_canBeBird_51 : decode cX10_canBeBird 51 = .ok (.iconst 1, 1) := by decide +kernel
theorem dX10_canBeBird_52 : decode cX10_canBeBird 52 = .ok (.iadd, 1) := by decide +kernel
theorem dX10_canBeBird_53 : decode cX10_canBeBird 53 = .ok (.istore_n 2, 1) := by decide +kernel
theorem dX10_canBeBird_54 : decode cX10_canBeBird 54 = .ok (.iload_n 2, 1) := by decide +kernel
theorem dX10_canBeBird_55 : decode cX10_canBeBird 55 = .ok (.iload_n 1, 1) := by decide +kernel
theorem dX10_canBeBird_56 : decode cX10_canBeBird 56 = .ok (.bipush 8, 2) := by decide +kernel
theorem dX10_canBeBird_58 : decode cX10_canBeBird 58 = .ok (.iadd, 1) := by decide +kernel
theorem dX10_canBeBird_59 : decode cX10_canBeBird 59 = .ok (.if_icmp .ge 22, 3) := by decide +kernel
theorem dX10_canBeBird_62 : decode cX10_canBeBird 62 = .ok (.aload_n 0, 1) := by decide +kernel
theorem dX10_canBeBird_63 : decode cX10_canBeBird 63 = .ok (.getfield 9, 3) := by decide +kernel
theorem dX10_canBeBird_66 : decode cX10_canBeBird 66 = .ok (.iload_n 2, 1) := by decide +kernel
theorem dX10_canBeBird_67 : decode cX10_canBeBird 67 = .ok (.iaload, 1) := by decide +kernel
theorem dX10_canBeBird_68 : decode cX10_canBeBird 68 = .ok (.bipush 9, 2) := by decide +kernel
theorem dX10_canBeBird_70 : decode cX10_canBeBird 70 = .ok (.if_icmp .le 5, 3) := by decide +kernel
theorem dX10_canBeBird_73 : decode cX10_canBeBird 73 = .ok (.iconst 0, 1) := by decide +kernel
theorem dX10_canBeBird_74 : decode cX10_canBeBird 74 = .ok (.ireturn, 1) := by decide +kernel
theorem dX10_canBeBird_75 : decode cX10_canBeBird 75 = .ok (.iinc 2 1, 3) := by decide +kernel
theorem dX10_canBeBird_78 : decode cX10_canBeBird 78 = .ok (.goto (-24), 3) := by decide +kernel
theorem dX10_canBeBird_81 : decode cX10_canBeBird 81 = .ok (.iconst 1, 1) := by decide +kernel
theorem dX10_canBeBird_82 : decode cX10_canBeBird 82 = .ok (.ireturn, 1) := by decide +kernel
theorem dX10_addBirdOfRow_0 : decode cX10_addBirdOfRow 0 = .ok (.aload_n 0, 1) := by decide +kernel
theorem dX10_addBirdOfRow_1 : decode cX10_addBirdOfRow 1 = .ok (.getfield 16, 3) := by decide +kernel
theorem dX10_addBirdOfRow_4 : decode cX10_addBirdOfRow 4 = .ok (.aload_n 0, 1) := by decide +kernel
theorem dX10_addBirdOfRow_5 : decode cX10_addBirdOfRow 5 = .ok (.getfield 9, 3) := by decide +kernel
theorem dX10_addBirdOfRow_8 : decode cX10_addBirdOfRow 8 = .ok (.iload_n 1, 1) := by decide +kernel
theorem dX10_addBirdOfRow_9 : decode cX10_addBirdOfRow 9 = .ok (.iaload, 1) := by decide +kernel
theorem dX10_addBirdOfRow_10 : decode cX10_addBirdOfRow 10 = .ok (.aload_n 0, 1) := by decide +kernel
theorem dX10_addBirdOfRow_11 : decode cX10_addBirdOfRow 11 = .ok (.getfield 9, 3) := by decide +kernel
theorem dX10_addBirdOfRow_14 : decode cX10_addBirdOfRow 14 = .ok (.iload_n 1, 1) := by decide +kernel
theorem dX10_addBirdOfRow_15 : decode cX10_addBirdOfRow 15 = .ok (.iconst 1, 1) := by decide +kernel
theorem dX10_addBirdOfRow_16 : decode cX10_addBirdOfRow 16 = .ok (.iadd, 1) := by decide +kernel
theorem dX10_addBirdOfRow_17 : decode cX10_addBirdOfRow 17 = .ok (.iaload, 1) := by decide +kernel
theorem dX10_addBirdOfRow_18 : decode cX10_addBirdOfRow 18 = .ok (.invokevirtual 106, 3) := by decide +kernel
theorem dX10_addBirdOfRow_21 : decode cX10_addBirdOfRow 21 = .ok (.istore_n 2, 1) := by decide +kernel
theorem dX10_addBirdOfRow_22 : decode cX10_addBirdOfRow 22 = .ok (.iconst 0, 1) := by decide +kernel
theorem dX10_addBirdOfRow_23 : decode cX10_addBirdOfRow 23 = .ok (.istore_n 3, 1) := by decide +kernel
theorem dX10_addBirdOfRow_24 : decode cX10_addBirdOfRow 24 = .ok (.iload_n 3, 1) := by decide +kernel
theorem dX10_addBirdOfRow_25 : decode cX10_addBirdOfRow 25 = .ok (.bipush 6, 2) := by decide +kernel
theorem dX10_addBirdOfRow_27 : decode cX10_addBirdOfRow 27 = .ok (.if_icmp .ge 33, 3) := by decide +kernel
theorem dX10_addBirdOfRow_30 : decode cX10_addBirdOfRow 30 = .ok (.aload_n 0, 1) := by decide +kernel
theorem dX10_addBirdOfRow_31 : decode cX10_addBirdOfRow 31 = .ok (.getfield 16, 3) := by decide +kernel
theorem dX10_addBirdOfRow_34 : decode cX10_addBirdOfRow 34 = .ok (.getfield 117, 3) := by decide +kernel
theorem dX10_addBirdOfRow_37 : decode cX10_addBirdOfRow 37 = .ok (.iload_n 2, 1) := by decide +kernel
theorem dX10_addBirdOfRow_38 : decode cX10_addBirdOfRow 38 = .ok (.bipush 6, 2) := by decide +kernel
theorem dX10_addBirdOfRow_40 : decode cX10_addBirdOfRow 40 = .ok (.imul, 1) := by decide +kernel
theorem dX10_addBirdOfRow_41 : decode cX10_addBirdOfRow 41 = .ok (.iload_n 3, 1) := by decide +kernel
theorem dX10_addBirdOfRow_42 : decode cX10_addBirdOfRow 42 = .ok (.iadd, 1) := by decide +kernel
theorem dX10_addBirdOfRow_43 : decode cX10_addBirdOfRow 43 = .ok (.aload_n 0, 1) := by decide +kernel
theorem dX10_addBirdOfRow_44 : decode cX10_addBirdOfRow 44 = .ok (.getfield 9, 3) := by decide +kernel
theorem dX10_addBirdOfRow_47 : decode cX10_addBirdOfRow 47 = .ok (.iload_n 1, 1) := by decide +kernel
theorem dX10_addBirdOfRow_48 : decode cX10_addBirdOfRow 48 = .ok (.iconst 2, 1) := by decide +kernel
theorem dX10_addBirdOfRow_49 : decode cX10_addBirdOfRow 49 = .ok (.iadd, 1) := by decide +kernel
theorem dX10_addBirdOfRow_50 : decode cX10_addBirdOfRow 50 = .ok (.iload_n 3, 1) := by decide +kernel
theorem dX10_addBirdOfRow_51 : decode cX10_addBirdOfRow 51 = .ok (.iadd, 1) := by decide +kernel
theorem dX10_addBirdOfRow_52 : decode cX10_addBirdOfRow 52 = .ok (.iaload, 1) := by decide +kernel
theorem dX10_addBirdOfRow_53 : decode cX10_addBirdOfRow 53 = .ok (.iastore, 1) := by decide +kernel
theorem dX10_addBirdOfRow_54 : decode cX10_addBirdOfRow 54 = .ok (.iinc 3 1, 3) := by decide +kernel
theorem dX10_addBirdOfRow_57 : decode cX10_addBirdOfRow 57 = .ok (.goto (-33), 3) := by decide +kernel
theorem dX10_addBirdOfRow_60 : decode cX10_addBirdOfRow 60 = .ok (.return_, 1) := by decide +kernel
theorem dX10_cats_0 : decode cX10_cats 0 = .ok (.aload_n 0, 1) := by decide +kernel
theorem dX10_cats_1 : decode cX10_cats 1 = .ok (.getfield 214, 3) := by decide +kernel
theorem dX10_cats_4 : decode cX10_cats 4 = .ok (.ireturn, 1) := by decide +kernel
theorem dX10_law_0 : decode cX10_law 0 = .ok (.aload_n 0, 1) := by decide +kernel
theorem dX10_law_1 : decode cX10_law 1 = .ok (.getfield 16, 3) := by decide +kernel
theorem dX10_law_4 : decode cX10_law 4 = .ok (.getfield 217, 3) := by decide +kernel
theorem dX10_law_7 : decode cX10_law 7 = .ok (.bipush 6, 2) := by decide +kernel
theorem dX10_law_9 : decode cX10_law 9 = .ok (.if_icmp .lt 15, 3) := by decide +kernel
theorem dX10_law_12 : decode cX10_law 12 = .ok (.aload_n 0, 1) := by decide +kernel
theorem dX10_law_13 : decode cX10_law 13 = .ok (.iconst 0, 1) := by decide +kernel
theorem dX10_law_14 : decode cX10_law 14 = .ok (.putfield 201, 3) := by decide +kernel
theorem dX10_law_17 : decode cX10_law 17 = .ok (.aload_n 0, 1) := by decide +kernel
theorem dX10_law_18 : decode cX10_law 18 = .ok (.bipush (-5), 2) := by decide +kernel
theorem dX10_law_20 : decode cX10_law 20 = .ok (.invokevirtual 96, 3) := by decide +kernel
theorem dX10_law_23 : decode cX10_law 23 = .ok (.ireturn, 1) := by decide +kernel
theorem dX10_law_24 : decode cX10_law 24 = .ok (.aload_n 0, 1) := by decide +kernel
theorem dX10_law_25 : decode cX10_law 25 = .ok (.getfield 79, 3) := by decide +kernel
theorem dX10_law_28 : decode cX10_law 28 = .ok (.aload_n 0, 1) := by decide +kernel
theorem dX10_law_29 : decode cX10_law 29 = .ok (.getfield 9, 3) := by decide +kernel
theorem dX10_law_32 : decode cX10_law 32 = .ok (.aload_n 0, 1) := by decide +kernel
theorem dX10_law_33 : decode cX10_law 33 = .ok (.getfield 201, 3) := by decide +kernel
theorem dX10_law_36 : decode cX10_law 36 = .ok (.iconst 1, 1) := by decide +kernel
theorem dX10_law_37 : decode cX10_law 37 = .ok (.invokevirtual 220, 3) := by decide +kernel
theorem dX10_law_40 : decode cX10_law 40 = .ok (.istore_n 1, 1) := by decide +kernel
theorem dX10_law_41 : decode cX10_law 41 = .ok (.aload_n 0, 1) := by decide +kernel
theorem dX10_law_42 : decode cX10_law 42 = .ok (.iconst 0, 1) := by decide +kernel
theorem dX10_law_43 : decode cX10_law 43 = .ok (.putfield 201, 3) := by decide +kernel
theorem dX10_law_46 : decode cX10_law 46 = .ok (.aload_n 0, 1) := by decide +kernel
theorem dX10_law_47 : decode cX10_law 47 = .ok (.iload_n 1, 1) := by decide +kernel
theorem dX10_law_48 : decode cX10_law 48 = .ok (.ifCond .eq 7, 3) := by decide +kernel
theorem dX10_law_51 : decode cX10_law 51 = .ok (.iconst (-1), 1) := by decide +kernel
theorem dX10_law_52 : decode cX10_law 52 = .ok (.goto 10, 3) := by decide +kernel
theorem dX10_law_55 : decode cX10_law 55 = .ok (.aload_n 0, 1) := by decide +kernel
theorem dX10_law_56 : decode cX10_law 56 = .ok (.getfield 79, 3) := by decide +kernel
theorem dX10_law_59 : decode cX10_law 59 = .ok (.invokevirtual 224, 3) := by decide +kernel
theorem dX10_law_62 : decode cX10_law 62 = .ok (.putfield 86, 3) := by decide +kernel
theorem dX10_law_65 : decode cX10_law 65 = .ok (.iload_n 1, 1) := by decide +kernel
theorem dX10_law_66 : decode cX10_law 66 = .ok (.ifCond .ne 10, 3) := by decide +kernel
theorem dX10_law_69 : decode cX10_law 69 = .ok (.aload_n 0, 1) := by decide +kernel
theorem dX10_law_70 : decode cX10_law 70 = .ok (.bipush (-6), 2) := by decide +kernel
theorem dX10_law_72 : decode cX10_law 72 = .ok (.invokevirtual 96, 3) := by decide +kernel
theorem dX10_law_75 : decode cX10_law 75 = .ok (.ireturn, 1) := by decide +kernel
theorem dX10_law_76 : decode cX10_law 76 = .ok (.aload_n 0, 1) := by decide +kernel
theorem dX10_law_77 : decode cX10_law 77 = .ok (.getfield 16, 3) := by decide +kernel
theorem dX10_law_80 : decode cX10_law 80 = .ok (.getfield 217, 3) := by decide +kernel
theorem dX10_law_83 : decode cX10_law 83 = .ok (.istore_n 2, 1) := by decide +kernel
theorem dX10_law_84 : decode cX10_law 84 = .ok (.aload_n 0, 1) := by decide +kernel
theorem dX10_law_85 : decode cX10_law 85 = .ok (.getfield 16, 3) := by decide +kernel
theorem dX10_law_88 : decode cX10_law 88 = .ok (.getfield 228, 3) := by decide +kernel
theorem dX10_law_91 : decode cX10_law 91 = .ok (.iload_n 2, 1) := by decide +kernel
theorem dX10_law_92 : decode cX10_law 92 = .ok (.aload_n 0, 1) := by decide +kernel
theorem dX10_law_93 : decode cX10_law 93 = .ok (.getfield 79, 3) := by decide +kernel
theorem dX10_law_96 : decode cX10_law 96 = .ok (.getfield 232, 3) := by decide +kernel
theorem dX10_law_99 : decode cX10_law 99 = .ok (.invokevirtual 236, 3) := by decide +kernel
theorem dX10_law_102 : decode cX10_law 102 = .ok (.aastore, 1) := by decide +kernel
theorem dX10_law_103 : decode cX10_law 103 = .ok (.aload_n 0, 1) := by decide +kernel
theorem dX10_law_104 : decode cX10_law 104 = .ok (.getfield 16, 3) := by decide +kernel
theorem dX10_law_107 : decode cX10_law 107 = .ok (.dup, 1) := by decide +kernel
theorem dX10_law_108 : decode cX10_law 108 = .ok (.getfield 217, 3) := by decide +kernel
theorem dX10_law_111 : decode cX10_law 111 = .ok (.iconst 1, 1) := by decide +kernel
theorem dX10_law_112 : decode cX10_law 112 = .ok (.iadd, 1) := by decide +kernel
theorem dX10_law_113 : decode cX10_law 113 = .ok (.putfield 217, 3) := by decide +kernel
theorem dX10_law_116 : decode cX10_law 116 = .ok (.aload_n 0, 1) := by decide +kernel
theorem dX10_law_117 : decode cX10_law 117 = .ok (.iload_n 2, 1) := by decide +kernel
