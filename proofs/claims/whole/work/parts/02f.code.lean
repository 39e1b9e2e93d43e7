theorem dX11_listen_34 : decode cX11_listen 34 = .ok (.istore 5, 2) := by decide +kernel
theorem dX11_listen_36 : decode cX11_listen 36 = .ok (.iload 5, 2) := by decide +kernel
theorem dX11_listen_38 : decode cX11_listen 38 = .ok (.aload_n 0, 1) := by decide +kernel
theorem dX11_listen_39 : decode cX11_listen 39 = .ok (.getfield 13, 3) := by decide +kernel
theorem dX11_listen_42 : decode cX11_listen 42 = .ok (.iconst 0, 1) := by decide +kernel
theorem dX11_listen_43 : decode cX11_listen 43 = .ok (.iaload, 1) := by decide +kernel
theorem dX11_listen_44 : decode cX11_listen 44 = .ok (.if_icmp .ge 139, 3) := by decide +kernel
theorem dX11_listen_47 : decode cX11_listen 47 = .ok (.iconst 0, 1) := by decide +kernel
theorem dX11_listen_48 : decode cX11_listen 48 = .ok (.istore 6, 2) := by decide +kernel
theorem dX11_listen_50 : decode cX11_listen 50 = .ok (.iconst 0, 1) := by decide +kernel
theorem dX11_listen_51 : decode cX11_listen 51 = .ok (.istore 7, 2) := by decide +kernel
theorem dX11_listen_53 : decode cX11_listen 53 = .ok (.iconst 0, 1) := by decide +kernel
theorem dX11_listen_54 : decode cX11_listen 54 = .ok (.istore 8, 2) := by decide +kernel
theorem dX11_listen_56 : decode cX11_listen 56 = .ok (.iload 8, 2) := by decide +kernel
theorem dX11_listen_58 : decode cX11_listen 58 = .ok (.aload_n 0, 1) := by decide +kernel
theorem dX11_listen_59 : decode cX11_listen 59 = .ok (.getfield 13, 3) := by decide +kernel
theorem dX11_listen_62 : decode cX11_listen 62 = .ok (.iconst 1, 1) := by decide +kernel
theorem dX11_listen_63 : decode cX11_listen 63 = .ok (.iaload, 1) := by decide +kernel
theorem dX11_listen_64 : decode cX11_listen 64 = .ok (.if_icmp .ge 69, 3) := by decide +kernel
theorem dX11_listen_67 : decode cX11_listen 67 = .ok (.iload 6, 2) := by decide +kernel
theorem dX11_listen_69 : decode cX11_listen 69 = .ok (.iload_n 2, 1) := by decide +kernel
theorem dX11_listen_70 : decode cX11_listen 70 = .ok (.iload 8, 2) := by decide +kernel
theorem dX11_listen_72 : decode cX11_listen 72 = .ok (.invokestatic 485, 3) := by decide +kernel
theorem dX11_listen_75 : decode cX11_listen 75 = .ok (.ifCond .eq 18, 3) := by decide +kernel
theorem dX11_listen_78 : decode cX11_listen 78 = .ok (.aload_n 0, 1) := by decide +kernel
theorem dX11_listen_79 : decode cX11_listen 79 = .ok (.iload 5, 2) := by decide +kernel
theorem dX11_listen_81 : decode cX11_listen 81 = .ok (.iload 8, 2) := by decide +kernel
theorem dX11_listen_83 : decode cX11_listen 83 = .ok (.invokevirtual 222, 3) := by decide +kernel
theorem dX11_listen_86 : decode cX11_listen 86 = .ok (.ifCond .eq 7, 3) := by decide +kernel
theorem dX11_listen_89 : decode cX11_listen 89 = .ok (.iconst 1, 1) := by decide +kernel
theorem dX11_listen_90 : decode cX11_listen 90 = .ok (.goto 4, 3) := by decide +kernel
theorem dX11_listen_93 : decode cX11_listen 93 = .ok (.iconst 0, 1) := by decide +kernel
theorem dX11_listen_94 : decode cX11_listen 94 = .ok (.iadd, 1) := by decide +kernel
theorem dX11_listen_95 : decode cX11_listen 95 = .ok (.istore 6, 2) := by decide +kernel
theorem dX11_listen_97 : decode cX11_listen 97 = .ok (.iload 7, 2) := by decide +kernel
theorem dX11_listen_99 : decode cX11_listen 99 = .ok (.iload_n 2, 1) := by decide +kernel
theorem dX11_listen_100 : decode cX11_listen 100 = .ok (.iload 8, 2) := by decide +kernel
theorem dX11_listen_102 : decode cX11_listen 102 = .ok (.invokestatic 485, 3) := by decide +kernel
theorem dX11_listen_105 : decode cX11_listen 105 = .ok (.ifCond .eq 18, 3) := by decide +kernel
theorem dX11_listen_108 : decode cX11_listen 108 = .ok (.aload_n 0, 1) := by decide +kernel
theorem dX11_listen_109 : decode cX11_listen 109 = .ok (.iload 5, 2) := by decide +kernel
theorem dX11_listen_111 : decode cX11_listen 111 = .ok (.iload 8, 2) := by decide +kernel
theorem dX11_listen_113 : decode cX11_listen 113 = .ok (.invokevirtual 222, 3) := by decide +kernel
theorem dX11_listen_116 : decode cX11_listen 116 = .ok (.ifCond .ne 7, 3) := by decide +kernel
theorem dX11_listen_119 : decode cX11_listen 119 = .ok (.iconst 1, 1) := by decide +kernel
theorem dX11_listen_120 : decode cX11_listen 120 = .ok (.goto 4, 3) := by decide +kernel
theorem dX11_listen_123 : decode cX11_listen 123 = .ok (.iconst 0, 1) := by decide +kernel
theorem dX11_listen_124 : decode cX11_listen 124 = .ok (.iadd, 1) := by decide +kernel
theorem dX11_listen_125 : decode cX11_listen 125 = .ok (.istore 7, 2) := by decide +kernel
theorem dX11_listen_127 : decode cX11_listen 127 = .ok (.iinc 8 1, 3) := by decide +kernel
theorem dX11_listen_130 : decode cX11_listen 130 = .ok (.goto (-74), 3) := by decide +kernel
theorem dX11_listen_133 : decode cX11_listen 133 = .ok (.iload 6, 2) := by decide +kernel
theorem dX11_listen_135 : decode cX11_listen 135 = .ok (.iload 7, 2) := by decide +kernel
theorem dX11_listen_137 : decode cX11_listen 137 = .ok (.if_icmp .le 8, 3) := by decide +kernel
theorem dX11_listen_140 : decode cX11_listen 140 = .ok (.iload 6, 2) := by decide +kernel
theorem dX11_listen_142 : decode cX11_listen 142 = .ok (.goto 5, 3) := by decide +kernel
theorem dX11_listen_145 : decode cX11_listen 145 = .ok (.iload 7, 2) := by decide +kernel
theorem dX11_listen_147 : decode cX11_listen 147 = .ok (.istore 8, 2) := by decide +kernel
theorem dX11_listen_149 : decode cX11_listen 149 = .ok (.iload 8, 2) := by decide +kernel
theorem dX11_listen_151 : decode cX11_listen 151 = .ok (.iload_n 3, 1) := by decide +kernel
theorem dX11_listen_152 : decode cX11_listen 152 = .ok (.if_icmp .ge 8, 3) := by decide +kernel
theorem dX11_listen_155 : decode cX11_listen 155 = .ok (.iload 5, 2) := by decide +kernel
theorem dX11_listen_157 : decode cX11_listen 157 = .ok (.goto 5, 3) := by decide +kernel
theorem dX11_listen_160 : decode cX11_listen 160 = .ok (.iload 4, 2) := by decide +kernel
theorem dX11_listen_162 : decode cX11_listen 162 = .ok (.istore 4, 2) := by decide +kernel
theorem dX11_listen_164 : decode cX11_listen 164 = .ok (.iload 8, 2) := by decide +kernel
theorem dX11_listen_166 : decode cX11_listen 166 = .ok (.iload_n 3, 1) := by decide +kernel
theorem dX11_listen_167 : decode cX11_listen 167 = .ok (.if_icmp .ge 8, 3) := by decide +kernel
theorem dX11_listen_170 : decode cX11_listen 170 = .ok (.iload 8, 2) := by decide +kernel
theorem dX11_listen_172 : decode cX11_listen 172 = .ok (.goto 4, 3) := by decide +kernel
theorem dX11_listen_175 : decode cX11_listen 175 = .ok (.iload_n 3, 1) := by decide +kernel
theorem dX11_listen_176 : decode cX11_listen 176 = .ok (.istore_n 3, 1) := by decide +kernel
theorem dX11_listen_177 : decode cX11_listen 177 = .ok (.iinc 5 1, 3) := by decide +kernel
theorem dX11_listen_180 : decode cX11_listen 180 = .ok (.goto (-144), 3) := by decide +kernel
theorem dX11_listen_183 : decode cX11_listen 183 = .ok (.iload 4, 2) := by decide +kernel
theorem dX11_listen_185 : decode cX11_listen 185 = .ok (.iconst (-1), 1) := by decide +kernel
theorem dX11_listen_186 : decode cX11_listen 186 = .ok (.if_icmp .eq 7, 3) := by decide +kernel
theorem dX11_listen_189 : decode cX11_listen 189 = .ok (.iload_n 1, 1) := by decide +kernel
theorem dX11_listen_190 : decode cX11_listen 190 = .ok (.ifCond .ne 8, 3) := by decide +kernel
theorem dX11_listen_193 : decode cX11_listen 193 = .ok (.iload 4, 2) := by decide +kernel
theorem dX11_listen_195 : decode cX11_listen 195 = .ok (.goto 4, 3) := by decide +kernel
theorem dX11_listen_198 : decode cX11_listen 198 = .ok (.iload_n 3, 1) := by decide +kernel
theorem dX11_listen_199 : decode cX11_listen 199 = .ok (.ireturn, 1) := by decide +kernel
theorem dX11_few_0 : decode cX11_few 0 = .ok (.aload_n 0, 1) := by decide +kernel
theorem dX11_few_1 : decode cX11_few 1 = .ok (.iconst 0, 1) := by decide +kernel
theorem dX11_few_2 : decode cX11_few 2 = .ok (.putfield 152, 3) := by decide +kernel
theorem dX11_few_5 : decode cX11_few 5 = .ok (.iload_n 1, 1) := by decide +kernel
theorem dX11_few_6 : decode cX11_few 6 = .ok (.i2l, 1) := by decide +kernel
theorem dX11_few_7 : decode cX11_few 7 = .ok (.lconst 1, 1) := by decide +kernel
theorem dX11_few_8 : decode cX11_few 8 = .ok (.ldc2_w 208, 3) := by decide +kernel
theorem dX11_few_11 : decode cX11_few 11 = .ok (.invokestatic 172, 3) := by decide +kernel
theorem dX11_few_14 : decode cX11_few 14 = .ok (.ifCond .eq 15, 3) := by decide +kernel
theorem dX11_few_17 : decode cX11_few 17 = .ok (.iload_n 2, 1) := by decide +kernel
theorem dX11_few_18 : decode cX11_few 18 = .ok (.i2l, 1) := by decide +kernel
theorem dX11_few_19 : decode cX11_few 19 = .ok (.lconst 0, 1) := by decide +kernel
theorem dX11_few_20 : decode cX11_few 20 = .ok (.ldc2_w 500, 3) := by decide +kernel
theorem dX11_few_23 : decode cX11_few 23 = .ok (.invokestatic 172, 3) := by decide +kernel
theorem dX11_few_26 : decode cX11_few 26 = .ok (.ifCond .ne 7, 3) := by decide +kernel
theorem dX11_few_29 : decode cX11_few 29 = .ok (.ldc2_w 179, 3) := by decide +kernel
theorem dX11_few_32 : decode cX11_few 32 = .ok (.lreturn, 1) := by decide +kernel
theorem dX11_few_33 : decode cX11_few 33 = .ok (.iconst 0, 1) := by decide +kernel
theorem dX11_few_34 : decode cX11_few 34 = .ok (.istore_n 3, 1) := by decide +kernel
theorem dX11_few_35 : decode cX11_few 35 = .ok (.iload_n 3, 1) := by decide +kernel
theorem dX11_few_36 : decode cX11_few 36 = .ok (.bipush 21, 2) := by decide +kernel
theorem dX11_few_38 : decode cX11_few 38 = .ok (.if_icmp .ge 26, 3) := by decide +kernel
theorem dX11_few_41 : decode cX11_few 41 = .ok (.aload_n 0, 1) := by decide +kernel
theorem dX11_few_42 : decode cX11_few 42 = .ok (.getfield 123, 3) := by decide +kernel
theorem dX11_few_45 : decode cX11_few 45 = .ok (.iload_n 3, 1) := by decide +kernel
theorem dX11_few_46 : decode cX11_few 46 = .ok (.iload_n 3, 1) := by decide +kernel
theorem dX11_few_47 : decode cX11_few 47 = .ok (.ifCond .ne 9, 3) := by decide +kernel
theorem dX11_few_50 : decode cX11_few 50 = .ok (.ldc2_w 502, 3) := by decide +kernel
theorem dX11_few_53 : decode cX11_few 53 = .ok (.goto 4, 3) := by decide +kernel
theorem dX11_few_56 : decode cX11_few 56 = .ok (.lconst 0, 1) := by decide +kernel
theorem dX11_few_57 : decode cX11_few 57 = .ok (.lastore, 1) := by decide +kernel
theorem dX11_few_58 : decode cX11_few 58 = .ok (.iinc 3 1, 3) := by decide +kernel
theorem dX11_few_61 : decode cX11_few 61 = .ok (.goto (-26), 3) := by decide +kernel
theorem dX11_few_64 : decode cX11_few 64 = .ok (.aload_n 0, 1) := by decide +kernel
theorem dX11_few_65 : decode cX11_few 65 = .ok (.getfield 13, 3) := by decide +kernel
theorem dX11_few_68 : decode cX11_few 68 = .ok (.bipush 6, 2) := by decide +kernel
theorem dX11_few_70 : decode cX11_few 70 = .ok (.iaload, 1) := by decide +kernel
theorem dX11_few_71 : decode cX11_few 71 = .ok (.istore_n 3, 1) := by decide +kernel
theorem dX11_few_72 : decode cX11_few 72 = .ok (.iconst 0, 1) := by decide +kernel
theorem dX11_few_73 : decode cX11_few 73 = .ok (.istore 4, 2) := by decide +kernel
theorem dX11_few_75 : decode cX11_few 75 = .ok (.iload 4, 2) := by decide +kernel
theorem dX11_few_77 : decode cX11_few 77 = .ok (.iload_n 2, 1) := by decide +kernel
theorem dX11_few_78 : decode cX11_few 78 = .ok (.if_icmp .ge 74, 3) := by decide +kernel
theorem dX11_few_81 : decode cX11_few 81 = .ok (.iload_n 1, 1) := by decide +kernel
theorem dX11_few_82 : decode cX11_few 82 = .ok (.iconst 1, 1) := by decide +kernel
theorem dX11_few_83 : decode cX11_few 83 = .ok (.isub, 1) := by decide +kernel
theorem dX11_few_84 : decode cX11_few 84 = .ok (.istore 5, 2) := by decide +kernel
theorem dX11_few_86 : decode cX11_few 86 = .ok (.iload 5, 2) := by decide +kernel
theorem dX11_few_88 : decode cX11_few 88 = .ok (.ifCond .lt 58, 3) := by decide +kernel
theorem dX11_few_91 : decode cX11_few 91 = .ok (.aload_n 0, 1) := by decide +kernel
theorem dX11_few_92 : decode cX11_few 92 = .ok (.getfield 123, 3) := by decide +kernel
theorem dX11_few_95 : decode cX11_few 95 = .ok (.iload 5, 2) := by decide +kernel
theorem dX11_few_97 : decode cX11_few 97 = .ok (.laload, 1) := by decide +kernel
theorem dX11_few_98 : decode cX11_few 98 = .ok (.lstore 6, 2) := by decide +kernel
theorem dX11_few_100 : decode cX11_few 100 = .ok (.aload_n 0, 1) := by decide +kernel
theorem dX11_few_101 : decode cX11_few 101 = .ok (.getfield 123, 3) := by decide +kernel
theorem dX11_few_104 : decode cX11_few 104 = .ok (.iload 5, 2) := by decide +kernel
theorem dX11_few_106 : decode cX11_few 106 = .ok (.lload 6, 2) := by decide +kernel
theorem dX11_few_108 : decode cX11_few 108 = .ok (.bipush 10, 2) := by decide +kernel
theorem dX11_few_110 : decode cX11_few 110 = .ok (.iload_n 3, 1) := by decide +kernel
theorem dX11_few_111 : decode cX11_few 111 = .ok (.isub, 1) := by decide +kernel
theorem dX11_few_112 : decode cX11_few 112 = .ok (.i2l, 1) := by decide +kernel
theorem dX11_few_113 : decode cX11_few 113 = .ok (.lmul, 1) := by decide +kernel
theorem dX11_few_114 : decode cX11_few 114 = .ok (.ldc2_w 239, 3) := by decide +kernel
theorem dX11_few_117 : decode cX11_few 117 = .ok (.ldiv, 1) := by decide +kernel
theorem dX11_few_118 : decode cX11_few 118 = .ok (.lastore, 1) := by decide +kernel
theorem dX11_few_119 : decode cX11_few 119 = .ok (.aload_n 0, 1) := by decide +kernel
theorem dX11_few_120 : decode cX11_few 120 = .ok (.getfield 123, 3) := by decide +kernel
theorem dX11_few_123 : decode cX11_few 123 = .ok (.iload 5, 2) := by decide +kernel
theorem dX11_few_125 : decode cX11_few 125 = .ok (.iconst 1, 1) := by decide +kernel
theorem dX11_few_126 : decode cX11_few 126 = .ok (.iadd, 1) := by decide +kernel
theorem dX11_few_127 : decode cX11_few 127 = .ok (.dup2, 1) := by decide +kernel
theorem dX11_few_128 : decode cX11_few 128 = .ok (.laload, 1) := by decide +kernel
theorem dX11_few_129 : decode cX11_few 129 = .ok (.lload 6, 2) := by decide +kernel
theorem dX11_few_131 : decode cX11_few 131 = .ok (.iload_n 3, 1) := by decide +kernel
theorem dX11_few_132 : decode cX11_few 132 = .ok (.i2l, 1) := by decide +kernel
theorem dX11_few_133 : decode cX11_few 133 = .ok (.lmul, 1) := by decide +kernel
theorem dX11_few_134 : decode cX11_few 134 = .ok (.ldc2_w 239, 3) := by decide +kernel
theorem dX11_few_137 : decode cX11_few 137 = .ok (.ldiv, 1) := by decide +kernel
theorem dX11_few_138 : decode cX11_few 138 = .ok (.ladd, 1) := by decide +kernel
theorem dX11_few_139 : decode cX11_few 139 = .ok (.lastore, 1) := by decide +kernel
theorem dX11_few_140 : decode cX11_few 140 = .ok (.iinc 5 (-1), 3) := by decide +kernel
theorem dX11_few_143 : decode cX11_few 143 = .ok (.goto (-57), 3) := by decide +kernel
theorem dX11_few_146 : decode cX11_few 146 = .ok (.iinc 4 1, 3) := by decide +kernel
theorem dX11_few_149 : decode cX11_few 149 = .ok (.goto (-74), 3) := by decide +kernel
theorem dX11_few_152 : decode cX11_few 152 = .ok (.lconst 0, 1) := by decide +kernel
theorem dX11_few_153 : decode cX11_few 153 = .ok (.lstore 4, 2) := by decide +kernel
theorem dX11_few_155 : decode cX11_few 155 = .ok (.iconst 0, 1) := by decide +kernel
theorem dX11_few_156 : decode cX11_few 156 = .ok (.istore 6, 2) := by decide +kernel
theorem dX11_few_158 : decode cX11_few 158 = .ok (.iload 6, 2) := by decide +kernel
theorem dX11_few_160 : decode cX11_few 160 = .ok (.iload_n 1, 1) := by decide +kernel
theorem dX11_few_161 : decode cX11_few 161 = .ok (.if_icmp .ge 21, 3) := by decide +kernel
theorem dX11_few_164 : decode cX11_few 164 = .ok (.lload 4, 2) := by decide +kernel
theorem dX11_few_166 : decode cX11_few 166 = .ok (.aload_n 0, 1) := by decide +kernel
theorem dX11_few_167 : decode cX11_few 167 = .ok (.getfield 123, 3) := by decide +kernel
theorem dX11_few_170 : decode cX11_few 170 = .ok (.iload 6, 2) := by decide +kernel
theorem dX11_few_172 : decode cX11_few 172 = .ok (.laload, 1) := by decide +kernel
theorem dX11_few_173 : decode cX11_few 173 = .ok (.ladd, 1) := by decide +kernel
theorem dX11_few_174 : decode cX11_few 174 = .ok (.lstore 4, 2) := by decide +kernel
theorem dX11_few_176 : decode cX11_few 176 = .ok (.iinc 6 1, 3) := by decide +kernel
theorem dX11_few_179 : decode cX11_few 179 = .ok (.goto (-21), 3) := by decide +kernel
theorem dX11_few_182 : decode cX11_few 182 = .ok (.lload 4, 2) := by decide +kernel
theorem dX11_few_184 : decode cX11_few 184 = .ok (.lreturn, 1) := by decide +kernel
theorem dX11_compare_0 : decode cX11_compare 0 = .ok (.aload_n 0, 1) := by decide +kernel
theorem dX11_compare_1 : decode cX11_compare 1 = .ok (.iconst 0, 1) := by decide +kernel
theorem dX11_compare_2 : decode cX11_compare 2 = .ok (.putfield 152, 3) := by decide +kernel
theorem dX11_compare_5 : decode cX11_compare 5 = .ok (.aload_n 0, 1) := by decide +kernel
theorem dX11_compare_6 : decode cX11_compare 6 = .ok (.iload_n 1, 1) := by decide +kernel
theorem dX11_compare_7 : decode cX11_compare 7 = .ok (.invokevirtual 402, 3) := by decide +kernel
theorem dX11_compare_10 : decode cX11_compare 10 = .ok (.ifCond .eq 11, 3) := by decide +kernel
theorem dX11_compare_13 : decode cX11_compare 13 = .ok (.aload_n 0, 1) := by decide +kernel
theorem dX11_compare_14 : decode cX11_compare 14 = .ok (.iload_n 2, 1) := by decide +kernel
theorem dX11_compare_15 : decode cX11_compare 15 = .ok (.invokevirtual 213, 3) := by decide +kernel
theorem dX11_compare_18 : decode cX11_compare 18 = .ok (.ifCond .ne 5, 3) := by decide +kernel
theorem dX11_compare_21 : decode cX11_compare 21 = .ok (.iconst (-1), 1) := by decide +kernel
theorem dX11_compare_22 : decode cX11_compare 22 = .ok (.ireturn, 1) := by decide +kernel
theorem dX11_compare_23 : decode cX11_compare 23 = .ok (.aload_n 0, 1) := by decide +kernel
theorem dX11_compare_24 : decode cX11_compare 24 = .ok (.getfield 13, 3) := by decide +kernel
theorem dX11_compare_27 : decode cX11_compare 27 = .ok (.iconst 4, 1) := by decide +kernel
theorem dX11_compare_28 : decode cX11_compare 28 = .ok (.iaload, 1) := by decide +kernel
theorem dX11_compare_29 : decode cX11_compare 29 = .ok (.istore_n 3, 1) := by decide +kernel
theorem dX11_compare_30 : decode cX11_compare 30 = .ok (.aload_n 0, 1) := by decide +kernel
theorem dX11_compare_31 : decode cX11_compare 31 = .ok (.getfield 13, 3) := by decide +kernel
theorem dX11_compare_34 : decode cX11_compare 34 = .ok (.iconst 4, 1) := by decide +kernel
theorem dX11_compare_35 : decode cX11_compare 35 = .ok (.iload_n 1, 1) := by decide +kernel
theorem dX11_compare_36 : decode cX11_compare 36 = .ok (.iastore, 1) := by decide +kernel
theorem dX11_compare_37 : decode cX11_compare 37 = .ok (.aload_n 0, 1) := by decide +kernel
theorem dX11_compare_38 : decode cX11_compare 38 = .ok (.iload_n 2, 1) := by decide +kernel
theorem dX11_compare_39 : decode cX11_compare 39 = .ok (.invokevirtual 231, 3) := by decide +kernel
theorem dX11_compare_42 : decode cX11_compare 42 = .ok (.invokestatic 439, 3) := by decide +kernel
theorem dX11_compare_45 : decode cX11_compare 45 = .ok (.istore 4, 2) := by decide +kernel
theorem dX11_compare_47 : decode cX11_compare 47 = .ok (.aload_n 0, 1) := by decide +kernel
theorem dX11_compare_48 : decode cX11_compare 48 = .ok (.getfield 13, 3) := by decide +kernel
theorem dX11_compare_51 : decode cX11_compare 51 = .ok (.iconst 4, 1) := by decide +kernel
theorem dX11_compare_52 : decode cX11_compare 52 = .ok (.iload_n 3, 1) := by decide +kernel
theorem dX11_compare_53 : decode cX11_compare 53 = .ok (.iastore, 1) := by decide +kernel
theorem dX11_compare_54 : decode cX11_compare 54 = .ok (.iload 4, 2) := by decide +kernel
theorem dX11_compare_56 : decode cX11_compare 56 = .ok (.ireturn, 1) := by decide +kernel
theorem dX11_readSum_0 : decode cX11_readSum 0 = .ok (.aload_n 0, 1) := by decide +kernel
theorem dX11_readSum_1 : decode cX11_readSum 1 = .ok (.getfield 137, 3) := by decide +kernel
theorem dX11_readSum_4 : decode cX11_readSum 4 = .ok (.iload_n 1, 1) := by decide +kernel
theorem dX11_readSum_5 : decode cX11_readSum 5 = .ok (.aload_n 0, 1) := by decide +kernel
theorem dX11_readSum_6 : decode cX11_readSum 6 = .ok (.getfield 293, 3) := by decide +kernel
theorem dX11_readSum_9 : decode cX11_readSum 9 = .ok (.iastore, 1) := by decide +kernel
theorem dX11_readSum_10 : decode cX11_readSum 10 = .ok (.aload_n 0, 1) := by decide +kernel
theorem dX11_readSum_11 : decode cX11_readSum 11 = .ok (.getfield 258, 3) := by decide +kernel
theorem dX11_readSum_14 : decode cX11_readSum 14 = .ok (.ifCond .ne 8, 3) := by decide +kernel
theorem dX11_readSum_17 : decode cX11_readSum 17 = .ok (.aload_n 0, 1) := by decide +kernel
theorem dX11_readSum_18 : decode cX11_readSum 18 = .ok (.iconst 0, 1) := by decide +kernel
theorem dX11_readSum_19 : decode cX11_readSum 19 = .ok (.invokevirtual 388, 3) := by decide +kernel
theorem dX11_readSum_22 : decode cX11_readSum 22 = .ok (.aload_n 0, 1) := by decide +kernel
theorem dX11_readSum_23 : decode cX11_readSum 23 = .ok (.getfield 137, 3) := by decide +kernel
theorem dX11_readSum_26 : decode cX11_readSum 26 = .ok (.iload_n 1, 1) := by decide +kernel
theorem dX11_readSum_27 : decode cX11_readSum 27 = .ok (.iconst 1, 1) := by decide +kernel
theorem dX11_readSum_28 : decode cX11_readSum 28 = .ok (.iadd, 1) := by decide +kernel
theorem dX11_readSum_29 : decode cX11_readSum 29 = .ok (.aload_n 0, 1) := by decide +kernel
theorem dX11_readSum_30 : decode cX11_readSum 30 = .ok (.getfield 293, 3) := by decide +kernel
theorem dX11_readSum_33 : decode cX11_readSum 33 = .ok (.iastore, 1) := by decide +kernel
theorem dX11_readSum_34 : decode cX11_readSum 34 = .ok (.return_, 1) := by decide +kernel
theorem dX11_readOrder_0 : decode cX11_readOrder 0 = .ok (.iconst (-1), 1) := by decide +kernel
theorem dX11_readOrder_1 : decode cX11_readOrder 1 = .ok (.istore_n 1, 1) := by decide +kernel
theorem dX11_readOrder_2 : decode cX11_readOrder 2 = .ok (.iconst 0, 1) := by decide +kernel
theorem dX11_readOrder_3 : decode cX11_readOrder 3 = .ok (.istore_n 2, 1) := by decide +kernel
theorem dX11_readOrder_4 : decode cX11_readOrder 4 = .ok (.iload_n 2, 1) := by decide +kernel
theorem dX11_readOrder_5 : decode cX11_readOrder 5 = .ok (.iconst 4, 1) := by decide +kernel
theorem dX11_readOrder_6 : decode cX11_readOrder 6 = .ok (.if_icmp .ge 28, 3) := by decide +kernel
theorem dX11_readOrder_9 : decode cX11_readOrder 9 = .ok (.aload_n 0, 1) := by decide +kernel
theorem dX11_readOrder_10 : decode cX11_readOrder 10 = .ok (.aload_n 0, 1) := by decide +kernel
theorem dX11_readOrder_11 : decode cX11_readOrder 11 = .ok (.getfield 134, 3) := by decide +kernel
theorem dX11_readOrder_14 : decode cX11_readOrder 14 = .ok (.iload_n 2, 1) := by decide +kernel
theorem dX11_readOrder_15 : decode cX11_readOrder 15 = .ok (.laload, 1) := by decide +kernel
theorem dX11_readOrder_16 : decode cX11_readOrder 16 = .ok (.invokevirtual 312, 3) := by decide +kernel
theorem dX11_readOrder_19 : decode cX11_readOrder 19 = .ok (.ifCond .eq 7, 3) := by decide +kernel
theorem dX11_readOrder_22 : decode cX11_readOrder 22 = .ok (.iload_n 2, 1) := by decide +kernel
theorem dX11_readOrder_23 : decode cX11_readOrder 23 = .ok (.goto 4, 3) := by decide +kernel
theorem dX11_readOrder_26 : decode cX11_readOrder 26 = .ok (.iload_n 1, 1) := by decide +kernel
theorem dX11_readOrder_27 : decode cX11_readOrder 27 = .ok (.istore_n 1, 1) := by decide +kernel
theorem dX11_readOrder_28 : decode cX11_readOrder 28 = .ok (.iinc 2 1, 3) := by decide +kernel
theorem dX11_readOrder_31 : decode cX11_readOrder 31 = .ok (.goto (-27), 3) := by decide +kernel
theorem dX11_readOrder_34 : decode cX11_readOrder 34 = .ok (.aload_n 0, 1) := by decide +kernel
theorem dX11_readOrder_35 : decode cX11_readOrder 35 = .ok (.iload_n 1, 1) := by decide +kernel
theorem dX11_readOrder_36 : decode cX11_readOrder 36 = .ok (.iconst (-1), 1) := by decide +kernel
theorem dX11_readOrder_37 : decode cX11_readOrder 37 = .ok (.if_icmp .eq 16, 3) := by decide +kernel
theorem dX11_readOrder_40 : decode cX11_readOrder 40 = .ok (.aload_n 0, 1) := by decide +kernel
theorem dX11_readOrder_41 : decode cX11_readOrder 41 = .ok (.getfield 385, 3) := by decide +kernel
theorem dX11_readOrder_44 : decode cX11_readOrder 44 = .ok (.bipush 12, 2) := by decide +kernel
theorem dX11_readOrder_46 : decode cX11_readOrder 46 = .ok (.if_icmp .ge 7, 3) := by decide +kernel
theorem dX11_readOrder_49 : decode cX11_readOrder 49 = .ok (.iconst 1, 1) := by decide +kernel
theorem dX11_readOrder_50 : decode cX11_readOrder 50 = .ok (.goto 4, 3) := by decide +kernel
theorem dX11_readOrder_53 : decode cX11_readOrder 53 = .ok (.iconst 0, 1) := by decide +kernel
theorem dX11_readOrder_54 : decode cX11_readOrder 54 = .ok (.invokevirtual 289, 3) := by decide +kernel
theorem dX11_readOrder_57 : decode cX11_readOrder 57 = .ok (.aload_n 0, 1) := by decide +kernel
theorem dX11_readOrder_58 : decode cX11_readOrder 58 = .ok (.getfield 258, 3) := by decide +kernel
theorem dX11_readOrder_61 : decode cX11_readOrder 61 = .ok (.ifCond .eq 4, 3) := by decide +kernel
theorem dX11_readOrder_64 : decode cX11_readOrder 64 = .ok (.return_, 1) := by decide +kernel
theorem dX11_readOrder_65 : decode cX11_readOrder 65 = .ok (.bipush 8, 2) := by decide +kernel
theorem dX11_readOrder_67 : decode cX11_readOrder 67 = .ok (.aload_n 0, 1) := by decide +kernel
theorem dX11_readOrder_68 : decode cX11_readOrder 68 = .ok (.getfield 385, 3) := by decide +kernel
theorem dX11_readOrder_71 : decode cX11_readOrder 71 = .ok (.imul, 1) := by decide +kernel
theorem dX11_readOrder_72 : decode cX11_readOrder 72 = .ok (.istore_n 2, 1) := by decide +kernel
theorem dX11_readOrder_73 : decode cX11_readOrder 73 = .ok (.aload_n 0, 1) := by decide +kernel
theorem dX11_readOrder_74 : decode cX11_readOrder 74 = .ok (.dup, 1) := by decide +kernel
theorem dX11_readOrder_75 : decode cX11_readOrder 75 = .ok (.getfield 385, 3) := by decide +kernel
theorem dX11_readOrder_78 : decode cX11_readOrder 78 = .ok (.iconst 1, 1) := by decide +kernel
theorem dX11_readOrder_79 : decode cX11_readOrder 79 = .ok (.iadd, 1) := by decide +kernel
theorem dX11_readOrder_80 : decode cX11_readOrder 80 = .ok (.putfield 385, 3) := by decide +kernel
theorem dX11_readOrder_83 : decode cX11_readOrder 83 = .ok (.iconst 0, 1) := by decide +kernel
theorem dX11_readOrder_84 : decode cX11_readOrder 84 = .ok (.istore_n 3, 1) := by decide +kernel
theorem dX11_readOrder_85 : decode cX11_readOrder 85 = .ok (.iload_n 3, 1) := by decide +kernel
theorem dX11_readOrder_86 : decode cX11_readOrder 86 = .ok (.bipush 8, 2) := by decide +kernel
theorem dX11_readOrder_88 : decode cX11_readOrder 88 = .ok (.if_icmp .ge 18, 3) := by decide +kernel
theorem dX11_readOrder_91 : decode cX11_readOrder 91 = .ok (.aload_n 0, 1) := by decide +kernel
theorem dX11_readOrder_92 : decode cX11_readOrder 92 = .ok (.getfield 137, 3) := by decide +kernel
theorem dX11_readOrder_95 : decode cX11_readOrder 95 = .ok (.iload_n 2, 1) := by decide +kernel
theorem dX11_readOrder_96 : decode cX11_readOrder 96 = .ok (.iload_n 3, 1) := by decide +kernel
theorem dX11_readOrder_97 : decode cX11_readOrder 97 = .ok (.iadd, 1) := by decide +kernel
theorem dX11_readOrder_98 : decode cX11_readOrder 98 = .ok (.iconst 0, 1) := by decide +kernel
theorem dX11_readOrder_99 : decode cX11_readOrder 99 = .ok (.iastore, 1) := by decide +kernel
theorem dX11_readOrder_100 : decode cX11_readOrder 100 = .ok (.iinc 3 1, 3) := by decide +kernel
theorem dX11_readOrder_103 : decode cX11_readOrder 103 = .ok (.goto (-18), 3) := by decide +kernel
theorem dX11_readOrder_106 : decode cX11_readOrder 106 = .ok (.aload_n 0, 1) := by decide +kernel
theorem dX11_readOrder_107 : decode cX11_readOrder 107 = .ok (.getfield 137, 3) := by decide +kernel
theorem dX11_readOrder_110 : decode cX11_readOrder 110 = .ok (.iload_n 2, 1) := by decide +kernel
theorem dX11_readOrder_111 : decode cX11_readOrder 111 = .ok (.iload_n 1, 1) := by decide +kernel
theorem dX11_readOrder_112 : decode cX11_readOrder 112 = .ok (.iastore, 1) := by decide +kernel
theorem dX11_readOrder_113 : decode cX11_readOrder 113 = .ok (.iload_n 1, 1) := by decide +kernel
theorem dX11_readOrder_114 : decode cX11_readOrder 114 = .ok (.iconst 3, 1) := by decide +kernel
theorem dX11_readOrder_115 : decode cX11_readOrder 115 = .ok (.if_icmp .eq 10, 3) := by decide +kernel
theorem dX11_readOrder_118 : decode cX11_readOrder 118 = .ok (.aload_n 0, 1) := by decide +kernel
theorem dX11_readOrder_119 : decode cX11_readOrder 119 = .ok (.iload_n 2, 1) := by decide +kernel
theorem dX11_readOrder_120 : decode cX11_readOrder 120 = .ok (.iconst 1, 1) := by decide +kernel
theorem dX11_readOrder_121 : decode cX11_readOrder 121 = .ok (.iadd, 1) := by decide +kernel
theorem dX11_readOrder_122 : decode cX11_readOrder 122 = .ok (.invokevirtual 504, 3) := by decide +kernel
theorem dX11_readOrder_125 : decode cX11_readOrder 125 = .ok (.iload_n 1, 1) := by decide +kernel
theorem dX11_readOrder_126 : decode cX11_readOrder 126 = .ok (.ifCond .eq 8, 3) := by decide +kernel
theorem dX11_readOrder_129 : decode cX11_readOrder 129 = .ok (.iload_n 1, 1) := by decide +kernel
theorem dX11_readOrder_130 : decode cX11_readOrder 130 = .ok (.iconst 2, 1) := by decide +kernel
theorem dX11_readOrder_131 : decode cX11_readOrder 131 = .ok (.if_icmp .ne 38, 3) := by decide +kernel
theorem dX11_readOrder_134 : decode cX11_readOrder 134 = .ok (.aload_n 0, 1) := by decide +kernel
theorem dX11_readOrder_135 : decode cX11_readOrder 135 = .ok (.getfield 258, 3) := by decide +kernel
theorem dX11_readOrder_138 : decode cX11_readOrder 138 = .ok (.ifCond .ne 24, 3) := by decide +kernel
theorem dX11_readOrder_141 : decode cX11_readOrder 141 = .ok (.aload_n 0, 1) := by decide +kernel
theorem dX11_readOrder_142 : decode cX11_readOrder 142 = .ok (.aload_n 0, 1) := by decide +kernel
theorem dX11_readOrder_143 : decode cX11_readOrder 143 = .ok (.iload_n 1, 1) := by decide +kernel
theorem dX11_readOrder_144 : decode cX11_readOrder 144 = .ok (.ifCond .ne 9, 3) := by decide +kernel
theorem dX11_readOrder_147 : decode cX11_readOrder 147 = .ok (.ldc2_w 507, 3) := by decide +kernel
theorem dX11_readOrder_150 : decode cX11_readOrder 150 = .ok (.goto 6, 3) := by decide +kernel
theorem dX11_readOrder_153 : decode cX11_readOrder 153 = .ok (.ldc2_w 509, 3) := by decide +kernel
theorem dX11_readOrder_156 : decode cX11_readOrder 156 = .ok (.invokevirtual 312, 3) := by decide +kernel
theorem dX11_readOrder_159 : decode cX11_readOrder 159 = .ok (.invokevirtual 289, 3) := by decide +kernel
theorem dX11_readOrder_162 : decode cX11_readOrder 162 = .ok (.aload_n 0, 1) := by decide +kernel
theorem dX11_readOrder_163 : decode cX11_readOrder 163 = .ok (.iload_n 2, 1) := by decide +kernel
theorem dX11_readOrder_164 : decode cX11_readOrder 164 = .ok (.iconst 3, 1) := by decide +kernel
theorem dX11_readOrder_165 : decode cX11_readOrder 165 = .ok (.iadd, 1) := by decide +kernel
theorem dX11_readOrder_166 : decode cX11_readOrder 166 = .ok (.invokevirtual 504, 3) := by decide +kernel
theorem dX11_readOrder_169 : decode cX11_readOrder 169 = .ok (.aload_n 0, 1) := by decide +kernel
theorem dX11_readOrder_170 : decode cX11_readOrder 170 = .ok (.getfield 137, 3) := by decide +kernel
theorem dX11_readOrder_173 : decode cX11_readOrder 173 = .ok (.iload_n 2, 1) := by decide +kernel
theorem dX11_readOrder_174 : decode cX11_readOrder 174 = .ok (.bipush 7, 2) := by decide +kernel
theorem dX11_readOrder_176 : decode cX11_readOrder 176 = .ok (.iadd, 1) := by decide +kernel
theorem dX11_readOrder_177 : decode cX11_readOrder 177 = .ok (.iconst 1, 1) := by decide +kernel
theorem dX11_readOrder_178 : decode cX11_readOrder 178 = .ok (.iastore, 1) := by decide +kernel
theorem dX11_readOrder_179 : decode cX11_readOrder 179 = .ok (.aload_n 0, 1) := by decide +kernel
theorem dX11_readOrder_180 : decode cX11_readOrder 180 = .ok (.getfield 258, 3) := by decide +kernel
theorem dX11_readOrder_183 : decode cX11_readOrder 183 = .ok (.ifCond .ne 34, 3) := by decide +kernel
theorem dX11_readOrder_186 : decode cX11_readOrder 186 = .ok (.aload_n 0, 1) := by decide +kernel
theorem dX11_readOrder_187 : decode cX11_readOrder 187 = .ok (.ldc2_w 511, 3) := by decide +kernel
theorem dX11_readOrder_190 : decode cX11_readOrder 190 = .ok (.invokevirtual 312, 3) := by decide +kernel
theorem dX11_readOrder_193 : decode cX11_readOrder 193 = .ok (.ifCond .eq 24, 3) := by decide +kernel
theorem dX11_readOrder_196 : decode cX11_readOrder 196 = .ok (.aload_n 0, 1) := by decide +kernel
theorem dX11_readOrder_197 : decode cX11_readOrder 197 = .ok (.invokevirtual 262, 3) := by decide +kernel
theorem dX11_readOrder_200 : decode cX11_readOrder 200 = .ok (.aload_n 0, 1) := by decide +kernel
theorem dX11_readOrder_201 : decode cX11_readOrder 201 = .ok (.getfield 137, 3) := by decide +kernel
theorem dX11_readOrder_204 : decode cX11_readOrder 204 = .ok (.iload_n 2, 1) := by decide +kernel
theorem dX11_readOrder_205 : decode cX11_readOrder 205 = .ok (.bipush 7, 2) := by decide +kernel
theorem dX11_readOrder_207 : decode cX11_readOrder 207 = .ok (.iadd, 1) := by decide +kernel
theorem dX11_readOrder_208 : decode cX11_readOrder 208 = .ok (.aload_n 0, 1) := by decide +kernel
theorem dX11_readOrder_209 : decode cX11_readOrder 209 = .ok (.lconst 1, 1) := by decide +kernel
theorem dX11_readOrder_210 : decode cX11_readOrder 210 = .ok (.ldc2_w 208, 3) := by decide +kernel
theorem dX11_readOrder_213 : decode cX11_readOrder 213 = .ok (.invokevirtual 349, 3) := by decide +kernel
theorem dX11_readOrder_216 : decode cX11_readOrder 216 = .ok (.iastore, 1) := by decide +kernel
theorem dX11_readOrder_217 : decode cX11_readOrder 217 = .ok (.aload_n 0, 1) := by decide +kernel
theorem dX11_readOrder_218 : decode cX11_readOrder 218 = .ok (.getfield 137, 3) := by decide +kernel
theorem dX11_readOrder_221 : decode cX11_readOrder 221 = .ok (.iload_n 2, 1) := by decide +kernel
theorem dX11_readOrder_222 : decode cX11_readOrder 222 = .ok (.iconst 5, 1) := by decide +kernel
theorem dX11_readOrder_223 : decode cX11_readOrder 223 = .ok (.iadd, 1) := by decide +kernel
theorem dX11_readOrder_224 : decode cX11_readOrder 224 = .ok (.aload_n 0, 1) := by decide +kernel
theorem dX11_readOrder_225 : decode cX11_readOrder 225 = .ok (.getfield 293, 3) := by decide +kernel
theorem dX11_readOrder_228 : decode cX11_readOrder 228 = .ok (.iastore, 1) := by decide +kernel
theorem dX11_readOrder_229 : decode cX11_readOrder 229 = .ok (.aload_n 0, 1) := by decide +kernel
theorem dX11_readOrder_230 : decode cX11_readOrder 230 = .ok (.getfield 258, 3) := by decide +kernel
theorem dX11_readOrder_233 : decode cX11_readOrder 233 = .ok (.ifCond .ne 22, 3) := by decide +kernel
theorem dX11_readOrder_236 : decode cX11_readOrder 236 = .ok (.aload_n 0, 1) := by decide +kernel
theorem dX11_readOrder_237 : decode cX11_readOrder 237 = .ok (.ldc2_w 391, 3) := by decide +kernel
theorem dX11_readOrder_240 : decode cX11_readOrder 240 = .ok (.invokevirtual 312, 3) := by decide +kernel
theorem dX11_readOrder_243 : decode cX11_readOrder 243 = .ok (.ifCond .eq 12, 3) := by decide +kernel
theorem dX11_readOrder_246 : decode cX11_readOrder 246 = .ok (.aload_n 0, 1) := by decide +kernel
theorem dX11_readOrder_247 : decode cX11_readOrder 247 = .ok (.invokevirtual 262, 3) := by decide +kernel
theorem dX11_readOrder_250 : decode cX11_readOrder 250 = .ok (.aload_n 0, 1) := by decide +kernel
theorem dX11_readOrder_251 : decode cX11_readOrder 251 = .ok (.iconst 1, 1) := by decide +kernel
theorem dX11_readOrder_252 : decode cX11_readOrder 252 = .ok (.invokevirtual 388, 3) := by decide +kernel
theorem dX11_readOrder_255 : decode cX11_readOrder 255 = .ok (.aload_n 0, 1) := by decide +kernel
theorem dX11_readOrder_256 : decode cX11_readOrder 256 = .ok (.getfield 137, 3) := by decide +kernel
theorem dX11_readOrder_259 : decode cX11_readOrder 259 = .ok (.iload_n 2, 1) := by decide +kernel
theorem dX11_readOrder_260 : decode cX11_readOrder 260 = .ok (.bipush 6, 2) := by decide +kernel
theorem dX11_readOrder_262 : decode cX11_readOrder 262 = .ok (.iadd, 1) := by decide +kernel
theorem dX11_readOrder_263 : decode cX11_readOrder 263 = .ok (.aload_n 0, 1) := by decide +kernel
theorem dX11_readOrder_264 : decode cX11_readOrder 264 = .ok (.getfield 293, 3) := by decide +kernel
theorem dX11_readOrder_267 : decode cX11_readOrder 267 = .ok (.iastore, 1) := by decide +kernel
theorem dX11_readOrder_268 : decode cX11_readOrder 268 = .ok (.return_, 1) := by decide +kernel
theorem dX11_sumOf_0 : decode cX11_sumOf 0 = .ok (.aload_n 0, 1) := by decide +kernel
theorem dX11_sumOf_1 : decode cX11_sumOf 1 = .ok (.getfield 513, 3) := by decide +kernel
theorem dX11_sumOf_4 : decode cX11_sumOf 4 = .ok (.ifCond .ne 20, 3) := by decide +kernel
theorem dX11_sumOf_7 : decode cX11_sumOf 7 = .ok (.aload_n 0, 1) := by decide +kernel
theorem dX11_sumOf_8 : decode cX11_sumOf 8 = .ok (.getfield 137, 3) := by decide +kernel
theorem dX11_sumOf_11 : decode cX11_sumOf 11 = .ok (.iload_n 1, 1) := by decide +kernel
theorem dX11_sumOf_12 : decode cX11_sumOf 12 = .ok (.iaload, 1) := by decide +kernel
theorem dX11_sumOf_13 : decode cX11_sumOf 13 = .ok (.aload_n 0, 1) := by decide +kernel
theorem dX11_sumOf_14 : decode cX11_sumOf 14 = .ok (.getfield 137, 3) := by decide +kernel
theorem dX11_sumOf_17 : decode cX11_sumOf 17 = .ok (.iload_n 1, 1) := by decide +kernel
theorem dX11_sumOf_18 : decode cX11_sumOf 18 = .ok (.iconst 1, 1) := by decide +kernel
theorem dX11_sumOf_19 : decode cX11_sumOf 19 = .ok (.iadd, 1) := by decide +kernel
theorem dX11_sumOf_20 : decode cX11_sumOf 20 = .ok (.iaload, 1) := by decide +kernel
theorem dX11_sumOf_21 : decode cX11_sumOf 21 = .ok (.if_icmp .ne 5, 3) := by decide +kernel
theorem dX11_sumOf_24 : decode cX11_sumOf 24 = .ok (.iconst (-1), 1) := by decide +kernel
theorem dX11_sumOf_25 : decode cX11_sumOf 25 = .ok (.ireturn, 1) := by decide +kernel
theorem dX11_sumOf_26 : decode cX11_sumOf 26 = .ok (.aload_n 0, 1) := by decide +kernel
theorem dX11_sumOf_27 : decode cX11_sumOf 27 = .ok (.iconst 1, 1) := by decide +kernel
theorem dX11_sumOf_28 : decode cX11_sumOf 28 = .ok (.putfield 331, 3) := by decide +kernel
theorem dX11_sumOf_31 : decode cX11_sumOf 31 = .ok (.aload_n 0, 1) := by decide +kernel
theorem dX11_sumOf_32 : decode cX11_sumOf 32 = .ok (.aload_n 0, 1) := by decide +kernel
theorem dX11_sumOf_33 : decode cX11_sumOf 33 = .ok (.getfield 137, 3) := by decide +kernel
theorem dX11_sumOf_36 : decode cX11_sumOf 36 = .ok (.iload_n 1, 1) := by decide +kernel
theorem dX11_sumOf_37 : decode cX11_sumOf 37 = .ok (.iaload, 1) := by decide +kernel
theorem dX11_sumOf_38 : decode cX11_sumOf 38 = .ok (.aload_n 0, 1) := by decide +kernel
theorem dX11_sumOf_39 : decode cX11_sumOf 39 = .ok (.getfield 137, 3) := by decide +kernel
theorem dX11_sumOf_42 : decode cX11_sumOf 42 = .ok (.iload_n 1, 1) := by decide +kernel
theorem dX11_sumOf_43 : decode cX11_sumOf 43 = .ok (.iconst 1, 1) := by decide +kernel
theorem dX11_sumOf_44 : decode cX11_sumOf 44 = .ok (.iadd, 1) := by decide +kernel
theorem dX11_sumOf_45 : decode cX11_sumOf 45 = .ok (.iaload, 1) := by decide +kernel
theorem dX11_sumOf_46 : decode cX11_sumOf 46 = .ok (.invokevirtual 422, 3) := by decide +kernel
theorem dX11_sumOf_49 : decode cX11_sumOf 49 = .ok (.aload_n 0, 1) := by decide +kernel
theorem dX11_sumOf_50 : decode cX11_sumOf 50 = .ok (.iconst 0, 1) := by decide +kernel
theorem dX11_sumOf_51 : decode cX11_sumOf 51 = .ok (.putfield 331, 3) := by decide +kernel
theorem dX11_sumOf_54 : decode cX11_sumOf 54 = .ok (.aload_n 0, 1) := by decide +kernel
theorem dX11_sumOf_55 : decode cX11_sumOf 55 = .ok (.aload_n 0, 1) := by decide +kernel
theorem dX11_sumOf_56 : decode cX11_sumOf 56 = .ok (.getfield 405, 3) := by decide +kernel
theorem dX11_sumOf_59 : decode cX11_sumOf 59 = .ok (.putfield 513, 3) := by decide +kernel
theorem dX11_sumOf_62 : decode cX11_sumOf 62 = .ok (.aload_n 0, 1) := by decide +kernel
theorem dX11_sumOf_63 : decode cX11_sumOf 63 = .ok (.getfield 419, 3) := by decide +kernel
theorem dX11_sumOf_66 : decode cX11_sumOf 66 = .ok (.l2i, 1) := by decide +kernel
theorem dX11_sumOf_67 : decode cX11_sumOf 67 = .ok (.ireturn, 1) := by decide +kernel
theorem dX11_act_0 : decode cX11_act 0 = .ok (.iload_n 1, 1) := by decide +kernel
theorem dX11_act_1 : decode cX11_act 1 = .ok (.tableswitch 47 0 2 #[27, 34, 40], 27) := by decide +kernel
theorem dX11_act_28 : decode cX11_act 28 = .ok (.aload_n 0, 1) := by decide +kernel
theorem dX11_act_29 : decode cX11_act 29 = .ok (.iload_n 2, 1) := by decide +kernel
theorem dX11_act_30 : decode cX11_act 30 = .ok (.iload_n 3, 1) := by decide +kernel
theorem dX11_act_31 : decode cX11_act 31 = .ok (.invokevirtual 454, 3) := by decide +kernel
theorem dX11_act_34 : decode cX11_act 34 = .ok (.ireturn, 1) := by decide +kernel
theorem dX11_act_35 : decode cX11_act 35 = .ok (.aload_n 0, 1) := by decide +kernel
theorem dX11_act_36 : decode cX11_act 36 = .ok (.iload_n 2, 1) := by decide +kernel
theorem dX11_act_37 : decode cX11_act 37 = .ok (.invokevirtual 460, 3) := by decide +kernel
theorem dX11_act_40 : decode cX11_act 40 = .ok (.ireturn, 1) := by decide +kernel
theorem dX11_act_41 : decode cX11_act 41 = .ok (.aload_n 0, 1) := by decide +kernel
theorem dX11_act_42 : decode cX11_act 42 = .ok (.iload_n 2, 1) := by decide +kernel
theorem dX11_act_43 : decode cX11_act 43 = .ok (.iload_n 3, 1) := by decide +kernel
theorem dX11_act_44 : decode cX11_act 44 = .ok (.invokevirtual 463, 3) := by decide +kernel
theorem dX11_act_47 : decode cX11_act 47 = .ok (.ireturn, 1) := by decide +kernel
theorem dX11_act_48 : decode cX11_act 48 = .ok (.aload_n 0, 1) := by decide +kernel
theorem dX11_act_49 : decode cX11_act 49 = .ok (.invokevirtual 469, 3) := by decide +kernel
theorem dX11_act_52 : decode cX11_act 52 = .ok (.ireturn, 1) := by decide +kernel
theorem dX11_run_0 : decode cX11_run 0 = .ok (.aload_n 0, 1) := by decide +kernel
theorem dX11_run_1 : decode cX11_run 1 = .ok (.getfield 102, 3) := by decide +kernel
theorem dX11_run_4 : decode cX11_run 4 = .ok (.iconst 1, 1) := by decide +kernel
theorem dX11_run_5 : decode cX11_run 5 = .ok (.aload_n 0, 1) := by decide +kernel
theorem dX11_run_6 : decode cX11_run 6 = .ok (.getfield 13, 3) := by decide +kernel
theorem dX11_run_9 : decode cX11_run 9 = .ok (.iconst 5, 1) := by decide +kernel
theorem dX11_run_10 : decode cX11_run 10 = .ok (.iaload, 1) := by decide +kernel
theorem dX11_run_11 : decode cX11_run 11 = .ok (.i2l, 1) := by decide +kernel
theorem dX11_run_12 : decode cX11_run 12 = .ok (.lastore, 1) := by decide +kernel
theorem dX11_run_13 : decode cX11_run 13 = .ok (.aload_n 0, 1) := by decide +kernel
theorem dX11_run_14 : decode cX11_run 14 = .ok (.getfield 102, 3) := by decide +kernel
theorem dX11_run_17 : decode cX11_run 17 = .ok (.iconst 2, 1) := by decide +kernel
theorem dX11_run_18 : decode cX11_run 18 = .ok (.aload_n 0, 1) := by decide +kernel
theorem dX11_run_19 : decode cX11_run 19 = .ok (.getfield 516, 3) := by decide +kernel
theorem dX11_run_22 : decode cX11_run 22 = .ok (.i2l, 1) := by decide +kernel
theorem dX11_run_23 : decode cX11_run 23 = .ok (.lastore, 1) := by decide +kernel
theorem dX11_run_24 : decode cX11_run 24 = .ok (.aload_n 0, 1) := by decide +kernel
theorem dX11_run_25 : decode cX11_run 25 = .ok (.getfield 102, 3) := by decide +kernel
theorem dX11_run_28 : decode cX11_run 28 = .ok (.iconst 3, 1) := by decide +kernel
theorem dX11_run_29 : decode cX11_run 29 = .ok (.aload_n 0, 1) := by decide +kernel
theorem dX11_run_30 : decode cX11_run 30 = .ok (.getfield 519, 3) := by decide +kernel
theorem dX11_run_33 : decode cX11_run 33 = .ok (.i2l, 1) := by decide +kernel
theorem dX11_run_34 : decode cX11_run 34 = .ok (.lastore, 1) := by decide +kernel
theorem dX11_run_35 : decode cX11_run 35 = .ok (.aload_n 0, 1) := by decide +kernel
theorem dX11_run_36 : decode cX11_run 36 = .ok (.getfield 102, 3) := by decide +kernel
theorem dX11_run_39 : decode cX11_run 39 = .ok (.iconst 4, 1) := by decide +kernel
theorem dX11_run_40 : decode cX11_run 40 = .ok (.aload_n 0, 1) := by decide +kernel
theorem dX11_run_41 : decode cX11_run 41 = .ok (.getfield 13, 3) := by decide +kernel
theorem dX11_run_44 : decode cX11_run 44 = .ok (.bipush 9, 2) := by decide +kernel
theorem dX11_run_46 : decode cX11_run 46 = .ok (.iaload, 1) := by decide +kernel
theorem dX11_run_47 : decode cX11_run 47 = .ok (.i2l, 1) := by decide +kernel
theorem dX11_run_48 : decode cX11_run 48 = .ok (.lastore, 1) := by decide +kernel
theorem dX11_run_49 : decode cX11_run 49 = .ok (.aload_n 0, 1) := by decide +kernel
theorem dX11_run_50 : decode cX11_run 50 = .ok (.getfield 102, 3) := by decide +kernel
theorem dX11_run_53 : decode cX11_run 53 = .ok (.iconst 5, 1) := by decide +kernel
theorem dX11_run_54 : decode cX11_run 54 = .ok (.aload_n 0, 1) := by decide +kernel
theorem dX11_run_55 : decode cX11_run 55 = .ok (.invokevirtual 488, 3) := by decide +kernel
theorem dX11_run_58 : decode cX11_run 58 = .ok (.invokestatic 439, 3) := by decide +kernel
theorem dX11_run_61 : decode cX11_run 61 = .ok (.i2l, 1) := by decide +kernel
theorem dX11_run_62 : decode cX11_run 62 = .ok (.lastore, 1) := by decide +kernel
theorem dX11_run_63 : decode cX11_run 63 = .ok (.aload_n 0, 1) := by decide +kernel
theorem dX11_run_64 : decode cX11_run 64 = .ok (.iconst 0, 1) := by decide +kernel
theorem dX11_run_65 : decode cX11_run 65 = .ok (.putfield 513, 3) := by decide +kernel
theorem dX11_run_68 : decode cX11_run 68 = .ok (.aload_n 0, 1) := by decide +kernel
theorem dX11_run_69 : decode cX11_run 69 = .ok (.getfield 137, 3) := by decide +kernel
theorem dX11_run_72 : decode cX11_run 72 = .ok (.iload_n 1, 1) := by decide +kernel
theorem dX11_run_73 : decode cX11_run 73 = .ok (.iconst 5, 1) := by decide +kernel
theorem dX11_run_74 : decode cX11_run 74 = .ok (.iadd, 1) := by decide +kernel
theorem dX11_run_75 : decode cX11_run 75 = .ok (.iaload, 1) := by decide +kernel
theorem dX11_run_76 : decode cX11_run 76 = .ok (.aload_n 0, 1) := by decide +kernel
theorem dX11_run_77 : decode cX11_run 77 = .ok (.getfield 137, 3) := by decide +kernel
theorem dX11_run_80 : decode cX11_run 80 = .ok (.iload_n 1, 1) := by decide +kernel
theorem dX11_run_81 : decode cX11_run 81 = .ok (.bipush 6, 2) := by decide +kernel
theorem dX11_run_83 : decode cX11_run 83 = .ok (.iadd, 1) := by decide +kernel
theorem dX11_run_84 : decode cX11_run 84 = .ok (.iaload, 1) := by decide +kernel
theorem dX11_run_85 : decode cX11_run 85 = .ok (.if_icmp .ge 24, 3) := by decide +kernel
theorem dX11_run_88 : decode cX11_run 88 = .ok (.aload_n 0, 1) := by decide +kernel
theorem dX11_run_89 : decode cX11_run 89 = .ok (.iload_n 1, 1) := by decide +kernel
theorem dX11_run_90 : decode cX11_run 90 = .ok (.iconst 5, 1) := by decide +kernel
theorem dX11_run_91 : decode cX11_run 91 = .ok (.iadd, 1) := by decide +kernel
theorem dX11_run_92 : decode cX11_run 92 = .ok (.invokevirtual 522, 3) := by decide +kernel
theorem dX11_run_95 : decode cX11_run 95 = .ok (.istore_n 2, 1) := by decide +kernel
theorem dX11_run_96 : decode cX11_run 96 = .ok (.aload_n 0, 1) := by decide +kernel
theorem dX11_run_97 : decode cX11_run 97 = .ok (.getfield 513, 3) := by decide +kernel
theorem dX11_run_100 : decode cX11_run 100 = .ok (.ifCond .ne 7, 3) := by decide +kernel
theorem dX11_run_103 : decode cX11_run 103 = .ok (.iload_n 2, 1) := by decide +kernel
theorem dX11_run_104 : decode cX11_run 104 = .ok (.ifCond .ne 5, 3) := by decide +kernel
theorem dX11_run_107 : decode cX11_run 107 = .ok (.iconst 0, 1) := by decide +kernel
theorem dX11_run_108 : decode cX11_run 108 = .ok (.ireturn, 1) := by decide +kernel
theorem dX11_run_109 : decode cX11_run 109 = .ok (.aload_n 0, 1) := by decide +kernel
theorem dX11_run_110 : decode cX11_run 110 = .ok (.iload_n 1, 1) := by decide +kernel
theorem dX11_run_111 : decode cX11_run 111 = .ok (.iconst 1, 1) := by decide +kernel
theorem dX11_run_112 : decode cX11_run 112 = .ok (.iadd, 1) := by decide +kernel
theorem dX11_run_113 : decode cX11_run 113 = .ok (.invokevirtual 522, 3) := by decide +kernel
theorem dX11_run_116 : decode cX11_run 116 = .ok (.istore_n 2, 1) := by decide +kernel
theorem dX11_run_117 : decode cX11_run 117 = .ok (.aload_n 0, 1) := by decide +kernel
theorem dX11_run_118 : decode cX11_run 118 = .ok (.iload_n 1, 1) := by decide +kernel
theorem dX11_run_119 : decode cX11_run 119 = .ok (.iconst 3, 1) := by decide +kernel
theorem dX11_run_120 : decode cX11_run 120 = .ok (.iadd, 1) := by decide +kernel
theorem dX11_run_121 : decode cX11_run 121 = .ok (.invokevirtual 522, 3) := by decide +kernel
theorem dX11_run_124 : decode cX11_run 124 = .ok (.istore_n 3, 1) := by decide +kernel
theorem dX11_run_125 : decode cX11_run 125 = .ok (.aload_n 0, 1) := by decide +kernel
theorem dX11_run_126 : decode cX11_run 126 = .ok (.getfield 513, 3) := by decide +kernel
theorem dX11_run_129 : decode cX11_run 129 = .ok (.ifCond .eq 6, 3) := by decide +kernel
theorem dX11_run_132 : decode cX11_run 132 = .ok (.bipush (-3), 2) := by decide +kernel
theorem dX11_run_134 : decode cX11_run 134 = .ok (.ireturn, 1) := by decide +kernel
theorem dX11_run_135 : decode cX11_run 135 = .ok (.aload_n 0, 1) := by decide +kernel
theorem dX11_run_136 : decode cX11_run 136 = .ok (.aload_n 0, 1) := by decide +kernel
theorem dX11_run_137 : decode cX11_run 137 = .ok (.getfield 137, 3) := by decide +kernel
theorem dX11_run_140 : decode cX11_run 140 = .ok (.iload_n 1, 1) := by decide +kernel
theorem dX11_run_141 : decode cX11_run 141 = .ok (.iaload, 1) := by decide +kernel
theorem dX11_run_142 : decode cX11_run 142 = .ok (.iload_n 2, 1) := by decide +kernel
theorem dX11_run_143 : decode cX11_run 143 = .ok (.iload_n 3, 1) := by decide +kernel
theorem dX11_run_144 : decode cX11_run 144 = .ok (.invokevirtual 525, 3) := by decide +kernel
theorem dX11_run_147 : decode cX11_run 147 = .ok (.istore 4, 2) := by decide +kernel
theorem dX11_run_149 : decode cX11_run 149 = .ok (.iload 4, 2) := by decide +kernel
theorem dX11_run_151 : decode cX11_run 151 = .ok (.ifCond .ge 6, 3) := by decide +kernel
theorem dX11_run_154 : decode cX11_run 154 = .ok (.bipush (-3), 2) := by decide +kernel
theorem dX11_run_156 : decode cX11_run 156 = .ok (.ireturn, 1) := by decide +kernel
theorem dX11_run_157 : decode cX11_run 157 = .ok (.aload_n 0, 1) := by decide +kernel
theorem dX11_run_158 : decode cX11_run 158 = .ok (.aload_n 0, 1) := by decide +kernel
theorem dX11_run_159 : decode cX11_run 159 = .ok (.getfield 137, 3) := by decide +kernel
theorem dX11_run_162 : decode cX11_run 162 = .ok (.iload_n 1, 1) := by decide +kernel
theorem dX11_run_163 : decode cX11_run 163 = .ok (.iaload, 1) := by decide +kernel
theorem dX11_run_164 : decode cX11_run 164 = .ok (.iconst 1, 1) := by decide +kernel
theorem dX11_run_165 : decode cX11_run 165 = .ok (.if_icmp .ne 8, 3) := by decide +kernel
theorem dX11_run_168 : decode cX11_run 168 = .ok (.iload 4, 2) := by decide +kernel
theorem dX11_run_170 : decode cX11_run 170 = .ok (.goto 7, 3) := by decide +kernel
theorem dX11_run_173 : decode cX11_run 173 = .ok (.aload_n 0, 1) := by decide +kernel
theorem dX11_run_174 : decode cX11_run 174 = .ok (.getfield 519, 3) := by decide +kernel
theorem dX11_run_177 : decode cX11_run 177 = .ok (.putfield 519, 3) := by decide +kernel
theorem dX11_run_180 : decode cX11_run 180 = .ok (.aload_n 0, 1) := by decide +kernel
theorem dX11_run_181 : decode cX11_run 181 = .ok (.dup, 1) := by decide +kernel
theorem dX11_run_182 : decode cX11_run 182 = .ok (.getfield 516, 3) := by decide +kernel
theorem dX11_run_185 : decode cX11_run 185 = .ok (.iconst 1, 1) := by decide +kernel
theorem dX11_run_186 : decode cX11_run 186 = .ok (.iadd, 1) := by decide +kernel
theorem dX11_run_187 : decode cX11_run 187 = .ok (.putfield 516, 3) := by decide +kernel
theorem dX11_run_190 : decode cX11_run 190 = .ok (.iconst 0, 1) := by decide +kernel
theorem dX11_run_191 : decode cX11_run 191 = .ok (.ireturn, 1) := by decide +kernel
theorem dX11_orders_0 : decode cX11_orders 0 = .ok (.aload_n 0, 1) := by decide +kernel
theorem dX11_orders_1 : decode cX11_orders 1 = .ok (.iconst 0, 1) := by decide +kernel
theorem dX11_orders_2 : decode cX11_orders 2 = .ok (.putfield 152, 3) := by decide +kernel
theorem dX11_orders_5 : decode cX11_orders 5 = .ok (.aload_n 0, 1) := by decide +kernel
theorem dX11_orders_6 : decode cX11_orders 6 = .ok (.iconst (-1), 1) := by decide +kernel
theorem dX11_orders_7 : decode cX11_orders 7 = .ok (.putfield 140, 3) := by decide +kernel
theorem dX11_orders_10 : decode cX11_orders 10 = .ok (.aload_n 0, 1) := by decide +kernel
theorem dX11_orders_11 : decode cX11_orders 11 = .ok (.iconst 1, 1) := by decide +kernel
theorem dX11_orders_12 : decode cX11_orders 12 = .ok (.invokevirtual 393, 3) := by decide +kernel
theorem dX11_orders_15 : decode cX11_orders 15 = .ok (.aload_n 0, 1) := by decide +kernel
theorem dX11_orders_16 : decode cX11_orders 16 = .ok (.invokevirtual 529, 3) := by decide +kernel
theorem dX11_orders_19 : decode cX11_orders 19 = .ok (.aload_n 0, 1) := by decide +kernel
theorem dX11_orders_20 : decode cX11_orders 20 = .ok (.getfield 258, 3) := by decide +kernel
theorem dX11_orders_23 : decode cX11_orders 23 = .ok (.ifCond .ne 23, 3) := by decide +kernel
theorem dX11_orders_26 : decode cX11_orders 26 = .ok (.aload_n 0, 1) := by decide +kernel
theorem dX11_orders_27 : decode cX11_orders 27 = .ok (.bipush 59, 2) := by decide +kernel
theorem dX11_orders_29 : decode cX11_orders 29 = .ok (.invokevirtual 325, 3) := by decide +kernel
theorem dX11_orders_32 : decode cX11_orders 32 = .ok (.ifCond .eq 14, 3) := by decide +kernel
theorem dX11_orders_35 : decode cX11_orders 35 = .ok (.aload_n 0, 1) := by decide +kernel
theorem dX11_orders_36 : decode cX11_orders 36 = .ok (.invokevirtual 262, 3) := by decide +kernel
theorem dX11_orders_39 : decode cX11_orders 39 = .ok (.aload_n 0, 1) := by decide +kernel
theorem dX11_orders_40 : decode cX11_orders 40 = .ok (.invokevirtual 529, 3) := by decide +kernel
theorem dX11_orders_43 : decode cX11_orders 43 = .ok (.goto (-24), 3) := by decide +kernel
theorem dX11_orders_46 : decode cX11_orders 46 = .ok (.aload_n 0, 1) := by decide +kernel
theorem dX11_orders_47 : decode cX11_orders 47 = .ok (.invokevirtual 399, 3) := by decide +kernel
theorem dX11_orders_50 : decode cX11_orders 50 = .ok (.aload_n 0, 1) := by decide +kernel
theorem dX11_orders_51 : decode cX11_orders 51 = .ok (.getfield 258, 3) := by decide +kernel
theorem dX11_orders_54 : decode cX11_orders 54 = .ok (.ifCond .eq 10, 3) := by decide +kernel
theorem dX11_orders_57 : decode cX11_orders 57 = .ok (.aload_n 0, 1) := by decide +kernel
theorem dX11_orders_58 : decode cX11_orders 58 = .ok (.bipush (-6), 2) := by decide +kernel
theorem dX11_orders_60 : decode cX11_orders 60 = .ok (.invokevirtual 161, 3) := by decide +kernel
theorem dX11_orders_63 : decode cX11_orders 63 = .ok (.ireturn, 1) := by decide +kernel
theorem dX11_orders_64 : decode cX11_orders 64 = .ok (.aload_n 0, 1) := by decide +kernel
theorem dX11_orders_65 : decode cX11_orders 65 = .ok (.bipush 17, 2) := by decide +kernel
theorem dX11_orders_67 : decode cX11_orders 67 = .ok (.invokevirtual 165, 3) := by decide +kernel
theorem dX11_orders_70 : decode cX11_orders 70 = .ok (.aload_n 0, 1) := by decide +kernel
theorem dX11_orders_71 : decode cX11_orders 71 = .ok (.getfield 158, 3) := by decide +kernel
theorem dX11_orders_74 : decode cX11_orders 74 = .ok (.istore_n 1, 1) := by decide +kernel
theorem dX11_orders_75 : decode cX11_orders 75 = .ok (.iconst 0, 1) := by decide +kernel
theorem dX11_orders_76 : decode cX11_orders 76 = .ok (.istore_n 2, 1) := by decide +kernel
theorem dX11_orders_77 : decode cX11_orders 77 = .ok (.iload_n 2, 1) := by decide +kernel
theorem dX11_orders_78 : decode cX11_orders 78 = .ok (.sipush 288, 3) := by decide +kernel
theorem dX11_orders_81 : decode cX11_orders 81 = .ok (.if_icmp .ge 21, 3) := by decide +kernel
theorem dX11_orders_84 : decode cX11_orders 84 = .ok (.aload_n 0, 1) := by decide +kernel
theorem dX11_orders_85 : decode cX11_orders 85 = .ok (.getfield 29, 3) := by decide +kernel
theorem dX11_orders_88 : decode cX11_orders 88 = .ok (.iload_n 2, 1) := by decide +kernel
theorem dX11_orders_89 : decode cX11_orders 89 = .ok (.aload_n 0, 1) := by decide +kernel
theorem dX11_orders_90 : decode cX11_orders 90 = .ok (.getfield 23, 3) := by decide +kernel
theorem dX11_orders_93 : decode cX11_orders 93 = .ok (.iload_n 2, 1) := by decide +kernel
theorem dX11_orders_94 : decode cX11_orders 94 = .ok (.iaload, 1) := by decide +kernel
theorem dX11_orders_95 : decode cX11_orders 95 = .ok (.iastore, 1) := by decide +kernel
theorem dX11_orders_96 : decode cX11_orders 96 = .ok (.iinc 2 1, 3) := by decide +kernel
theorem dX11_orders_99 : decode cX11_orders 99 = .ok (.goto (-22), 3) := by decide +kernel
theorem dX11_orders_102 : decode cX11_orders 102 = .ok (.iconst 0, 1) := by decide +kernel
theorem dX11_orders_103 : decode cX11_orders 103 = .ok (.istore_n 2, 1) := by decide +kernel
theorem dX11_orders_104 : decode cX11_orders 104 = .ok (.iload_n 2, 1) := by decide +kernel
theorem dX11_orders_105 : decode cX11_orders 105 = .ok (.bipush 16, 2) := by decide +kernel
theorem dX11_orders_107 : decode cX11_orders 107 = .ok (.if_icmp .ge 21, 3) := by decide +kernel
theorem dX11_orders_110 : decode cX11_orders 110 = .ok (.aload_n 0, 1) := by decide +kernel
theorem dX11_orders_111 : decode cX11_orders 111 = .ok (.getfield 32, 3) := by decide +kernel
theorem dX11_orders_114 : decode cX11_orders 114 = .ok (.iload_n 2, 1) := by decide +kernel
theorem dX11_orders_115 : decode cX11_orders 115 = .ok (.aload_n 0, 1) := by decide +kernel
theorem dX11_orders_116 : decode cX11_orders 116 = .ok (.getfield 26, 3) := by decide +kernel
theorem dX11_orders_119 : decode cX11_orders 119 = .ok (.iload_n 2, 1) := by decide +kernel
theorem dX11_orders_120 : decode cX11_orders 120 = .ok (.iaload, 1) := by decide +kernel
theorem dX11_orders_121 : decode cX11_orders 121 = .ok (.iastore, 1) := by decide +kernel
theorem dX11_orders_122 : decode cX11_orders 122 = .ok (.iinc 2 1, 3) := by decide +kernel
theorem dX11_orders_125 : decode cX11_orders 125 = .ok (.goto (-21), 3) := by decide +kernel
theorem dX11_orders_128 : decode cX11_orders 128 = .ok (.aload_n 0, 1) := by decide +kernel
theorem dX11_orders_129 : decode cX11_orders 129 = .ok (.iconst 0, 1) := by decide +kernel
theorem dX11_orders_130 : decode cX11_orders 130 = .ok (.putfield 516, 3) := by decide +kernel
theorem dX11_orders_133 : decode cX11_orders 133 = .ok (.aload_n 0, 1) := by decide +kernel
theorem dX11_orders_134 : decode cX11_orders 134 = .ok (.iconst (-1), 1) := by decide +kernel
theorem dX11_orders_135 : decode cX11_orders 135 = .ok (.putfield 519, 3) := by decide +kernel
theorem dX11_orders_138 : decode cX11_orders 138 = .ok (.iconst 0, 1) := by decide +kernel
theorem dX11_orders_139 : decode cX11_orders 139 = .ok (.istore_n 2, 1) := by decide +kernel
theorem dX11_orders_140 : decode cX11_orders 140 = .ok (.iload_n 2, 1) := by decide +kernel
theorem dX11_orders_141 : decode cX11_orders 141 = .ok (.aload_n 0, 1) := by decide +kernel
theorem dX11_orders_142 : decode cX11_orders 142 = .ok (.getfield 385, 3) := by decide +kernel
theorem dX11_orders_145 : decode cX11_orders 145 = .ok (.if_icmp .ge 61, 3) := by decide +kernel
theorem dX11_orders_148 : decode cX11_orders 148 = .ok (.iconst 0, 1) := by decide +kernel
theorem dX11_orders_149 : decode cX11_orders 149 = .ok (.istore_n 3, 1) := by decide +kernel
theorem dX11_orders_150 : decode cX11_orders 150 = .ok (.iload_n 3, 1) := by decide +kernel
theorem dX11_orders_151 : decode cX11_orders 151 = .ok (.aload_n 0, 1) := by decide +kernel
theorem dX11_orders_152 : decode cX11_orders 152 = .ok (.getfield 137, 3) := by decide +kernel
theorem dX11_orders_155 : decode cX11_orders 155 = .ok (.bipush 8, 2) := by decide +kernel
theorem dX11_orders_157 : decode cX11_orders 157 = .ok (.iload_n 2, 1) := by decide +kernel
theorem dX11_orders_158 : decode cX11_orders 158 = .ok (.imul, 1) := by decide +kernel
theorem dX11_orders_159 : decode cX11_orders 159 = .ok (.bipush 7, 2) := by decide +kernel
theorem dX11_orders_161 : decode cX11_orders 161 = .ok (.iadd, 1) := by decide +kernel
theorem dX11_orders_162 : decode cX11_orders 162 = .ok (.iaload, 1) := by decide +kernel
theorem dX11_orders_163 : decode cX11_orders 163 = .ok (.if_icmp .ge 37, 3) := by decide +kernel
theorem dX11_orders_166 : decode cX11_orders 166 = .ok (.aload_n 0, 1) := by decide +kernel
theorem dX11_orders_167 : decode cX11_orders 167 = .ok (.bipush 8, 2) := by decide +kernel
theorem dX11_orders_169 : decode cX11_orders 169 = .ok (.iload_n 2, 1) := by decide +kernel
theorem dX11_orders_170 : decode cX11_orders 170 = .ok (.imul, 1) := by decide +kernel
theorem dX11_orders_171 : decode cX11_orders 171 = .ok (.invokevirtual 532, 3) := by decide +kernel
theorem dX11_orders_174 : decode cX11_orders 174 = .ok (.ifCond .ge 20, 3) := by decide +kernel
theorem dX11_orders_177 : decode cX11_orders 177 = .ok (.aload_n 0, 1) := by decide +kernel
theorem dX11_orders_178 : decode cX11_orders 178 = .ok (.iload_n 1, 1) := by decide +kernel
theorem dX11_orders_179 : decode cX11_orders 179 = .ok (.invokevirtual 535, 3) := by decide +kernel
theorem dX11_orders_182 : decode cX11_orders 182 = .ok (.aload_n 0, 1) := by decide +kernel
theorem dX11_orders_183 : decode cX11_orders 183 = .ok (.iload_n 2, 1) := by decide +kernel
theorem dX11_orders_184 : decode cX11_orders 184 = .ok (.putfield 140, 3) := by decide +kernel
theorem dX11_orders_187 : decode cX11_orders 187 = .ok (.aload_n 0, 1) := by decide +kernel
theorem dX11_orders_188 : decode cX11_orders 188 = .ok (.bipush (-3), 2) := by decide +kernel
theorem dX11_orders_190 : decode cX11_orders 190 = .ok (.invokevirtual 161, 3) := by decide +kernel
theorem dX11_orders_193 : decode cX11_orders 193 = .ok (.ireturn, 1) := by decide +kernel
theorem dX11_orders_194 : decode cX11_orders 194 = .ok (.iinc 3 1, 3) := by decide +kernel
theorem dX11_orders_197 : decode cX11_orders 197 = .ok (.goto (-47), 3) := by decide +kernel
theorem dX11_orders_200 : decode cX11_orders 200 = .ok (.iinc 2 1, 3) := by decide +kernel
theorem dX11_orders_203 : decode cX11_orders 203 = .ok (.goto (-63), 3) := by decide +kernel
theorem dX11_orders_206 : decode cX11_orders 206 = .ok (.aload_n 0, 1) := by decide +kernel
theorem dX11_orders_207 : decode cX11_orders 207 = .ok (.aload_n 0, 1) := by decide +kernel
theorem dX11_orders_208 : decode cX11_orders 208 = .ok (.getfield 516, 3) := by decide +kernel
theorem dX11_orders_211 : decode cX11_orders 211 = .ok (.invokevirtual 161, 3) := by decide +kernel
theorem dX11_orders_214 : decode cX11_orders 214 = .ok (.ireturn, 1) := by decide +kernel
theorem dX11_giveBack_0 : decode cX11_giveBack 0 = .ok (.aload_n 0, 1) := by decide +kernel
theorem dX11_giveBack_1 : decode cX11_giveBack 1 = .ok (.bipush 17, 2) := by decide +kernel
theorem dX11_giveBack_3 : decode cX11_giveBack 3 = .ok (.invokevirtual 169, 3) := by decide +kernel
theorem dX11_giveBack_6 : decode cX11_giveBack 6 = .ok (.iconst 0, 1) := by decide +kernel
theorem dX11_giveBack_7 : decode cX11_giveBack 7 = .ok (.istore_n 2, 1) := by decide +kernel
theorem dX11_giveBack_8 : decode cX11_giveBack 8 = .ok (.iload_n 2, 1) := by decide +kernel
theorem dX11_giveBack_9 : decode cX11_giveBack 9 = .ok (.sipush 288, 3) := by decide +kernel
theorem dX11_giveBack_12 : decode cX11_giveBack 12 = .ok (.if_icmp .ge 21, 3) := by decide +kernel
theorem dX11_giveBack_15 : decode cX11_giveBack 15 = .ok (.aload_n 0, 1) := by decide +kernel
theorem dX11_giveBack_16 : decode cX11_giveBack 16 = .ok (.getfield 23, 3) := by decide +kernel
theorem dX11_giveBack_19 : decode cX11_giveBack 19 = .ok (.iload_n 2, 1) := by decide +kernel
theorem dX11_giveBack_20 : decode cX11_giveBack 20 = .ok (.aload_n 0, 1) := by decide +kernel
theorem dX11_giveBack_21 : decode cX11_giveBack 21 = .ok (.getfield 29, 3) := by decide +kernel
theorem dX11_giveBack_24 : decode cX11_giveBack 24 = .ok (.iload_n 2, 1) := by decide +kernel
theorem dX11_giveBack_25 : decode cX11_giveBack 25 = .ok (.iaload, 1) := by decide +kernel
theorem dX11_giveBack_26 : decode cX11_giveBack 26 = .ok (.iastore, 1) := by decide +kernel
theorem dX11_giveBack_27 : decode cX11_giveBack 27 = .ok (.iinc 2 1, 3) := by decide +kernel
theorem dX11_giveBack_30 : decode cX11_giveBack 30 = .ok (.goto (-22), 3) := by decide +kernel
theorem dX11_giveBack_33 : decode cX11_giveBack 33 = .ok (.iconst 0, 1) := by decide +kernel
theorem dX11_giveBack_34 : decode cX11_giveBack 34 = .ok (.istore_n 2, 1) := by decide +kernel
theorem dX11_giveBack_35 : decode cX11_giveBack 35 = .ok (.iload_n 2, 1) := by decide +kernel
theorem dX11_giveBack_36 : decode cX11_giveBack 36 = .ok (.bipush 16, 2) := by decide +kernel
theorem dX11_giveBack_38 : decode cX11_giveBack 38 = .ok (.if_icmp .ge 21, 3) := by decide +kernel
theorem dX11_giveBack_41 : decode cX11_giveBack 41 = .ok (.aload_n 0, 1) := by decide +kernel
theorem dX11_giveBack_42 : decode cX11_giveBack 42 = .ok (.getfield 26, 3) := by decide +kernel
theorem dX11_giveBack_45 : decode cX11_giveBack 45 = .ok (.iload_n 2, 1) := by decide +kernel
theorem dX11_giveBack_46 : decode cX11_giveBack 46 = .ok (.aload_n 0, 1) := by decide +kernel
theorem dX11_giveBack_47 : decode cX11_giveBack 47 = .ok (.getfield 32, 3) := by decide +kernel
theorem dX11_giveBack_50 : decode cX11_giveBack 50 = .ok (.iload_n 2, 1) := by decide +kernel
theorem dX11_giveBack_51 : decode cX11_giveBack 51 = .ok (.iaload, 1) := by decide +kernel
theorem dX11_giveBack_52 : decode cX11_giveBack 52 = .ok (.iastore, 1) := by decide +kernel
theorem dX11_giveBack_53 : decode cX11_giveBack 53 = .ok (.iinc 2 1, 3) := by decide +kernel
theorem dX11_giveBack_56 : decode cX11_giveBack 56 = .ok (.goto (-21), 3) := by decide +kernel
theorem dX11_giveBack_59 : decode cX11_giveBack 59 = .ok (.aload_n 0, 1) := by decide +kernel
theorem dX11_giveBack_60 : decode cX11_giveBack 60 = .ok (.iload_n 1, 1) := by decide +kernel
theorem dX11_giveBack_61 : decode cX11_giveBack 61 = .ok (.putfield 158, 3) := by decide +kernel
theorem dX11_giveBack_64 : decode cX11_giveBack 64 = .ok (.return_, 1) := by decide +kernel
theorem dX11_stopped_0 : decode cX11_stopped 0 = .ok (.aload_n 0, 1) := by decide +kernel
theorem dX11_stopped_1 : decode cX11_stopped 1 = .ok (.iconst 0, 1) := by decide +kernel
theorem dX11_stopped_2 : decode cX11_stopped 2 = .ok (.putfield 152, 3) := by decide +kernel
theorem dX11_stopped_5 : decode cX11_stopped 5 = .ok (.aload_n 0, 1) := by decide +kernel
theorem dX11_stopped_6 : decode cX11_stopped 6 = .ok (.getfield 140, 3) := by decide +kernel
theorem dX11_stopped_9 : decode cX11_stopped 9 = .ok (.ireturn, 1) := by decide +kernel
theorem dX11_draw_0 : decode cX11_draw 0 = .ok (.aload_n 0, 1) := by decide +kernel
theorem dX11_draw_1 : decode cX11_draw 1 = .ok (.aload_n 0, 1) := by decide +kernel
theorem dX11_draw_2 : decode cX11_draw 2 = .ok (.getfield 538, 3) := by decide +kernel
theorem dX11_draw_5 : decode cX11_draw 5 = .ok (.ldc2_w 541, 3) := by decide +kernel
theorem dX11_draw_8 : decode cX11_draw 8 = .ok (.lmul, 1) := by decide +kernel
theorem dX11_draw_9 : decode cX11_draw 9 = .ok (.ldc2_w 543, 3) := by decide +kernel
theorem dX11_draw_12 : decode cX11_draw 12 = .ok (.ladd, 1) := by decide +kernel
theorem dX11_draw_13 : decode cX11_draw 13 = .ok (.ldc2_w 545, 3) := by decide +kernel
theorem dX11_draw_16 : decode cX11_draw 16 = .ok (.lrem, 1) := by decide +kernel
theorem dX11_draw_17 : decode cX11_draw 17 = .ok (.putfield 538, 3) := by decide +kernel
theorem dX11_draw_20 : decode cX11_draw 20 = .ok (.aload_n 0, 1) := by decide +kernel
theorem dX11_draw_21 : decode cX11_draw 21 = .ok (.getfield 538, 3) := by decide +kernel
theorem dX11_draw_24 : decode cX11_draw 24 = .ok (.iload_n 1, 1) := by decide +kernel
theorem dX11_draw_25 : decode cX11_draw 25 = .ok (.i2l, 1) := by decide +kernel
theorem dX11_draw_26 : decode cX11_draw 26 = .ok (.lrem, 1) := by decide +kernel
theorem dX11_draw_27 : decode cX11_draw 27 = .ok (.l2i, 1) := by decide +kernel
theorem dX11_draw_28 : decode cX11_draw 28 = .ok (.ireturn, 1) := by decide +kernel
theorem dX11_mays_0 : decode cX11_mays 0 = .ok (.aload_n 0, 1) := by decide +kernel
theorem dX11_mays_1 : decode cX11_mays 1 = .ok (.iconst 0, 1) := by decide +kernel
theorem dX11_mays_2 : decode cX11_mays 2 = .ok (.putfield 152, 3) := by decide +kernel
theorem dX11_mays_5 : decode cX11_mays 5 = .ok (.iload_n 1, 1) := by decide +kernel
theorem dX11_mays_6 : decode cX11_mays 6 = .ok (.i2l, 1) := by decide +kernel
theorem dX11_mays_7 : decode cX11_mays 7 = .ok (.lconst 0, 1) := by decide +kernel
theorem dX11_mays_8 : decode cX11_mays 8 = .ok (.ldc2_w 285, 3) := by decide +kernel
theorem dX11_mays_11 : decode cX11_mays 11 = .ok (.invokestatic 172, 3) := by decide +kernel
theorem dX11_mays_14 : decode cX11_mays 14 = .ok (.ifCond .eq 15, 3) := by decide +kernel
theorem dX11_mays_17 : decode cX11_mays 17 = .ok (.iload_n 2, 1) := by decide +kernel
theorem dX11_mays_18 : decode cX11_mays 18 = .ok (.i2l, 1) := by decide +kernel
theorem dX11_mays_19 : decode cX11_mays 19 = .ok (.lconst 1, 1) := by decide +kernel
theorem dX11_mays_20 : decode cX11_mays 20 = .ok (.ldc2_w 547, 3) := by decide +kernel
theorem dX11_mays_23 : decode cX11_mays 23 = .ok (.invokestatic 172, 3) := by decide +kernel
theorem dX11_mays_26 : decode cX11_mays 26 = .ok (.ifCond .ne 9, 3) := by decide +kernel
theorem dX11_mays_29 : decode cX11_mays 29 = .ok (.aload_n 0, 1) := by decide +kernel
theorem dX11_mays_30 : decode cX11_mays 30 = .ok (.iconst (-1), 1) := by decide +kernel
theorem dX11_mays_31 : decode cX11_mays 31 = .ok (.invokevirtual 161, 3) := by decide +kernel
theorem dX11_mays_34 : decode cX11_mays 34 = .ok (.ireturn, 1) := by decide +kernel
theorem dX11_mays_35 : decode cX11_mays 35 = .ok (.aload_n 0, 1) := by decide +kernel
theorem dX11_mays_36 : decode cX11_mays 36 = .ok (.getfield 13, 3) := by decide +kernel
theorem dX11_mays_39 : decode cX11_mays 39 = .ok (.iconst 0, 1) := by decide +kernel
theorem dX11_mays_40 : decode cX11_mays 40 = .ok (.iaload, 1) := by decide +kernel
theorem dX11_mays_41 : decode cX11_mays 41 = .ok (.ifCond .eq 12, 3) := by decide +kernel
theorem dX11_mays_44 : decode cX11_mays 44 = .ok (.aload_n 0, 1) := by decide +kernel
theorem dX11_mays_45 : decode cX11_mays 45 = .ok (.getfield 13, 3) := by decide +kernel
theorem dX11_mays_48 : decode cX11_mays 48 = .ok (.iconst 1, 1) := by decide +kernel
theorem dX11_mays_49 : decode cX11_mays 49 = .ok (.iaload, 1) := by decide +kernel
theorem dX11_mays_50 : decode cX11_mays 50 = .ok (.ifCond .ne 10, 3) := by decide +kernel
theorem dX11_mays_53 : decode cX11_mays 53 = .ok (.aload_n 0, 1) := by decide +kernel
theorem dX11_mays_54 : decode cX11_mays 54 = .ok (.bipush (-3), 2) := by decide +kernel
theorem dX11_mays_56 : decode cX11_mays 56 = .ok (.invokevirtual 161, 3) := by decide +kernel
theorem dX11_mays_59 : decode cX11_mays 59 = .ok (.ireturn, 1) := by decide +kernel
theorem dX11_mays_60 : decode cX11_mays 60 = .ok (.aload_n 0, 1) := by decide +kernel
theorem dX11_mays_61 : decode cX11_mays 61 = .ok (.bipush 16, 2) := by decide +kernel
theorem dX11_mays_63 : decode cX11_mays 63 = .ok (.invokevirtual 165, 3) := by decide +kernel
theorem dX11_mays_66 : decode cX11_mays 66 = .ok (.aload_n 0, 1) := by decide +kernel
theorem dX11_mays_67 : decode cX11_mays 67 = .ok (.iload_n 1, 1) := by decide +kernel
theorem dX11_mays_68 : decode cX11_mays 68 = .ok (.i2l, 1) := by decide +kernel
theorem dX11_mays_69 : decode cX11_mays 69 = .ok (.putfield 538, 3) := by decide +kernel
theorem dX11_mays_72 : decode cX11_mays 72 = .ok (.iconst 0, 1) := by decide +kernel
theorem dX11_mays_73 : decode cX11_mays 73 = .ok (.istore_n 3, 1) := by decide +kernel
theorem dX11_mays_74 : decode cX11_mays 74 = .ok (.iload_n 3, 1) := by decide +kernel
theorem dX11_mays_75 : decode cX11_mays 75 = .ok (.iload_n 2, 1) := by decide +kernel
theorem dX11_mays_76 : decode cX11_mays 76 = .ok (.if_icmp .ge 150, 3) := by decide +kernel
theorem dX11_mays_79 : decode cX11_mays 79 = .ok (.aload_n 0, 1) := by decide +kernel
theorem dX11_mays_80 : decode cX11_mays 80 = .ok (.getfield 13, 3) := by decide +kernel
theorem dX11_mays_83 : decode cX11_mays 83 = .ok (.iconst 5, 1) := by decide +kernel
theorem dX11_mays_84 : decode cX11_mays 84 = .ok (.iaload, 1) := by decide +kernel
theorem dX11_mays_85 : decode cX11_mays 85 = .ok (.sipush 999, 3) := by decide +kernel
theorem dX11_mays_88 : decode cX11_mays 88 = .ok (.if_icmp .ge 138, 3) := by decide +kernel
theorem dX11_mays_91 : decode cX11_mays 91 = .ok (.aload_n 0, 1) := by decide +kernel
theorem dX11_mays_92 : decode cX11_mays 92 = .ok (.aload_n 0, 1) := by decide +kernel
theorem dX11_mays_93 : decode cX11_mays 93 = .ok (.getfield 13, 3) := by decide +kernel
theorem dX11_mays_96 : decode cX11_mays 96 = .ok (.iconst 0, 1) := by decide +kernel
theorem dX11_mays_97 : decode cX11_mays 97 = .ok (.iaload, 1) := by decide +kernel
theorem dX11_mays_98 : decode cX11_mays 98 = .ok (.invokevirtual 549, 3) := by decide +kernel
theorem dX11_mays_101 : decode cX11_mays 101 = .ok (.istore 4, 2) := by decide +kernel
theorem dX11_mays_103 : decode cX11_mays 103 = .ok (.aload_n 0, 1) := by decide +kernel
theorem dX11_mays_104 : decode cX11_mays 104 = .ok (.aload_n 0, 1) := by decide +kernel
theorem dX11_mays_105 : decode cX11_mays 105 = .ok (.getfield 13, 3) := by decide +kernel
theorem dX11_mays_108 : decode cX11_mays 108 = .ok (.iconst 1, 1) := by decide +kernel
theorem dX11_mays_109 : decode cX11_mays 109 = .ok (.iaload, 1) := by decide +kernel
theorem dX11_mays_110 : decode cX11_mays 110 = .ok (.invokevirtual 549, 3) := by decide +kernel
theorem dX11_mays_113 : decode cX11_mays 113 = .ok (.istore 5, 2) := by decide +kernel
theorem dX11_mays_115 : decode cX11_mays 115 = .ok (.aload_n 0, 1) := by decide +kernel
theorem dX11_mays_116 : decode cX11_mays 116 = .ok (.bipush 20, 2) := by decide +kernel
theorem dX11_mays_118 : decode cX11_mays 118 = .ok (.invokevirtual 549, 3) := by decide +kernel
theorem dX11_mays_121 : decode cX11_mays 121 = .ok (.istore 6, 2) := by decide +kernel
theorem dX11_mays_123 : decode cX11_mays 123 = .ok (.aload_n 0, 1) := by decide +kernel
theorem dX11_mays_124 : decode cX11_mays 124 = .ok (.iconst 4, 1) := by decide +kernel
theorem dX11_mays_125 : decode cX11_mays 125 = .ok (.invokevirtual 549, 3) := by decide +kernel
theorem dX11_mays_128 : decode cX11_mays 128 = .ok (.istore 7, 2) := by decide +kernel
theorem dX11_mays_130 : decode cX11_mays 130 = .ok (.iload 7, 2) := by decide +kernel
theorem dX11_mays_132 : decode cX11_mays 132 = .ok (.ifCond .ne 25, 3) := by decide +kernel
theorem dX11_mays_135 : decode cX11_mays 135 = .ok (.aload_n 0, 1) := by decide +kernel
theorem dX11_mays_136 : decode cX11_mays 136 = .ok (.iload 5, 2) := by decide +kernel
theorem dX11_mays_138 : decode cX11_mays 138 = .ok (.iload 4, 2) := by decide +kernel
theorem dX11_mays_140 : decode cX11_mays 140 = .ok (.invokevirtual 448, 3) := by decide +kernel
theorem dX11_mays_143 : decode cX11_mays 143 = .ok (.ifCond .eq 14, 3) := by decide +kernel
theorem dX11_mays_146 : decode cX11_mays 146 = .ok (.aload_n 0, 1) := by decide +kernel
theorem dX11_mays_147 : decode cX11_mays 147 = .ok (.getfield 13, 3) := by decide +kernel
theorem dX11_mays_150 : decode cX11_mays 150 = .ok (.bipush 17, 2) := by decide +kernel
theorem dX11_mays_152 : decode cX11_mays 152 = .ok (.iload 5, 2) := by decide +kernel
theorem dX11_mays_154 : decode cX11_mays 154 = .ok (.iadd, 1) := by decide +kernel
theorem dX11_mays_155 : decode cX11_mays 155 = .ok (.iconst 1, 1) := by decide +kernel
theorem dX11_mays_156 : decode cX11_mays 156 = .ok (.iastore, 1) := by decide +kernel
theorem dX11_mays_157 : decode cX11_mays 157 = .ok (.iload 7, 2) := by decide +kernel
theorem dX11_mays_159 : decode cX11_mays 159 = .ok (.iconst 1, 1) := by decide +kernel
theorem dX11_mays_160 : decode cX11_mays 160 = .ok (.if_icmp .ne 18, 3) := by decide +kernel
theorem dX11_mays_163 : decode cX11_mays 163 = .ok (.aload_n 0, 1) := by decide +kernel
theorem dX11_mays_164 : decode cX11_mays 164 = .ok (.iload 5, 2) := by decide +kernel
theorem dX11_mays_166 : decode cX11_mays 166 = .ok (.invokevirtual 234, 3) := by decide +kernel
theorem dX11_mays_169 : decode cX11_mays 169 = .ok (.ifCond .eq 9, 3) := by decide +kernel
theorem dX11_mays_172 : decode cX11_mays 172 = .ok (.aload_n 0, 1) := by decide +kernel
theorem dX11_mays_173 : decode cX11_mays 173 = .ok (.iload 5, 2) := by decide +kernel
theorem dX11_mays_175 : decode cX11_mays 175 = .ok (.invokevirtual 457, 3) := by decide +kernel
theorem dX11_mays_178 : decode cX11_mays 178 = .ok (.aload_n 0, 1) := by decide +kernel
theorem dX11_mays_179 : decode cX11_mays 179 = .ok (.getfield 13, 3) := by decide +kernel
theorem dX11_mays_182 : decode cX11_mays 182 = .ok (.bipush 10, 2) := by decide +kernel
theorem dX11_mays_184 : decode cX11_mays 184 = .ok (.iload 4, 2) := by decide +kernel
theorem dX11_mays_186 : decode cX11_mays 186 = .ok (.iadd, 1) := by decide +kernel
theorem dX11_mays_187 : decode cX11_mays 187 = .ok (.iload 7, 2) := by decide +kernel
theorem dX11_mays_189 : decode cX11_mays 189 = .ok (.iconst 2, 1) := by decide +kernel
theorem dX11_mays_190 : decode cX11_mays 190 = .ok (.if_icmp .ne 8, 3) := by decide +kernel
theorem dX11_mays_193 : decode cX11_mays 193 = .ok (.iload 6, 2) := by decide +kernel
theorem dX11_mays_195 : decode cX11_mays 195 = .ok (.goto 13, 3) := by decide +kernel
theorem dX11_mays_198 : decode cX11_mays 198 = .ok (.aload_n 0, 1) := by decide +kernel
theorem dX11_mays_199 : decode cX11_mays 199 = .ok (.getfield 13, 3) := by decide +kernel
theorem dX11_mays_202 : decode cX11_mays 202 = .ok (.bipush 10, 2) := by decide +kernel
theorem dX11_mays_204 : decode cX11_mays 204 = .ok (.iload 4, 2) := by decide +kernel
theorem dX11_mays_206 : decode cX11_mays 206 = .ok (.iadd, 1) := by decide +kernel
theorem dX11_mays_207 : decode cX11_mays 207 = .ok (.iaload, 1) := by decide +kernel
theorem dX11_mays_208 : decode cX11_mays 208 = .ok (.iastore, 1) := by decide +kernel
theorem dX11_mays_209 : decode cX11_mays 209 = .ok (.iload 7, 2) := by decide +kernel
theorem dX11_mays_211 : decode cX11_mays 211 = .ok (.iconst 3, 1) := by decide +kernel
theorem dX11_mays_212 : decode cX11_mays 212 = .ok (.if_icmp .ne 8, 3) := by decide +kernel
theorem dX11_mays_215 : decode cX11_mays 215 = .ok (.aload_n 0, 1) := by decide +kernel
theorem dX11_mays_216 : decode cX11_mays 216 = .ok (.invokevirtual 466, 3) := by decide +kernel
theorem dX11_mays_219 : decode cX11_mays 219 = .ok (.pop, 1) := by decide +kernel
theorem dX11_mays_220 : decode cX11_mays 220 = .ok (.iinc 3 1, 3) := by decide +kernel
theorem dX11_mays_223 : decode cX11_mays 223 = .ok (.goto (-149), 3) := by decide +kernel
theorem dX11_mays_226 : decode cX11_mays 226 = .ok (.iconst 0, 1) := by decide +kernel
theorem dX11_mays_227 : decode cX11_mays 227 = .ok (.istore_n 3, 1) := by decide +kernel
theorem dX11_mays_228 : decode cX11_mays 228 = .ok (.iconst 0, 1) := by decide +kernel
theorem dX11_mays_229 : decode cX11_mays 229 = .ok (.istore 4, 2) := by decide +kernel
theorem dX11_mays_231 : decode cX11_mays 231 = .ok (.iload 4, 2) := by decide +kernel
theorem dX11_mays_233 : decode cX11_mays 233 = .ok (.aload_n 0, 1) := by decide +kernel
theorem dX11_mays_234 : decode cX11_mays 234 = .ok (.getfield 13, 3) := by decide +kernel
theorem dX11_mays_237 : decode cX11_mays 237 = .ok (.iconst 1, 1) := by decide +kernel
theorem dX11_mays_238 : decode cX11_mays 238 = .ok (.iaload, 1) := by decide +kernel
theorem dX11_mays_239 : decode cX11_mays 239 = .ok (.if_icmp .ge 40, 3) := by decide +kernel
theorem dX11_mays_242 : decode cX11_mays 242 = .ok (.iload_n 3, 1) := by decide +kernel
theorem dX11_mays_243 : decode cX11_mays 243 = .ok (.aload_n 0, 1) := by decide +kernel
theorem dX11_mays_244 : decode cX11_mays 244 = .ok (.getfield 13, 3) := by decide +kernel
theorem dX11_mays_247 : decode cX11_mays 247 = .ok (.bipush 17, 2) := by decide +kernel
theorem dX11_mays_249 : decode cX11_mays 249 = .ok (.iload 4, 2) := by decide +kernel
theorem dX11_mays_251 : decode cX11_mays 251 = .ok (.iadd, 1) := by decide +kernel
theorem dX11_mays_252 : decode cX11_mays 252 = .ok (.iaload, 1) := by decide +kernel
theorem dX11_mays_253 : decode cX11_mays 253 = .ok (.iconst 2, 1) := by decide +kernel
theorem dX11_mays_254 : decode cX11_mays 254 = .ok (.if_icmp .ne 16, 3) := by decide +kernel
theorem dX11_mays_257 : decode cX11_mays 257 = .ok (.aload_n 0, 1) := by decide +kernel
theorem dX11_mays_258 : decode cX11_mays 258 = .ok (.getfield 13, 3) := by decide +kernel
theorem dX11_mays_261 : decode cX11_mays 261 = .ok (.bipush 78, 2) := by decide +kernel
theorem dX11_mays_263 : decode cX11_mays 263 = .ok (.iload 4, 2) := by decide +kernel
theorem dX11_mays_265 : decode cX11_mays 265 = .ok (.iadd, 1) := by decide +kernel
theorem dX11_mays_266 : decode cX11_mays 266 = .ok (.iaload, 1) := by decide +kernel
theorem dX11_mays_267 : decode cX11_mays 267 = .ok (.goto 4, 3) := by decide +kernel
theorem dX11_mays_270 : decode cX11_mays 270 = .ok (.iconst 0, 1) := by decide +kernel
theorem dX11_mays_271 : decode cX11_mays 271 = .ok (.iadd, 1) := by decide +kernel
theorem dX11_mays_272 : decode cX11_mays 272 = .ok (.istore_n 3, 1) := by decide +kernel
theorem dX11_mays_273 : decode cX11_mays 273 = .ok (.iinc 4 1, 3) := by decide +kernel
theorem dX11_mays_276 : decode cX11_mays 276 = .ok (.goto (-45), 3) := by decide +kernel
theorem dX11_mays_279 : decode cX11_mays 279 = .ok (.iconst 0, 1) := by decide +kernel
theorem dX11_mays_280 : decode cX11_mays 280 = .ok (.istore 4, 2) := by decide +kernel
theorem dX11_mays_282 : decode cX11_mays 282 = .ok (.iload 4, 2) := by decide +kernel
theorem dX11_mays_284 : decode cX11_mays 284 = .ok (.bipush 18, 2) := by decide +kernel
theorem dX11_mays_286 : decode cX11_mays 286 = .ok (.if_icmp .ge 25, 3) := by decide +kernel
theorem dX11_mays_289 : decode cX11_mays 289 = .ok (.aload_n 0, 1) := by decide +kernel
theorem dX11_mays_290 : decode cX11_mays 290 = .ok (.getfield 143, 3) := by decide +kernel
theorem dX11_mays_293 : decode cX11_mays 293 = .ok (.iload 4, 2) := by decide +kernel
theorem dX11_mays_295 : decode cX11_mays 295 = .ok (.aload_n 0, 1) := by decide +kernel
theorem dX11_mays_296 : decode cX11_mays 296 = .ok (.getfield 13, 3) := by decide +kernel
theorem dX11_mays_299 : decode cX11_mays 299 = .ok (.iconst 5, 1) := by decide +kernel
theorem dX11_mays_300 : decode cX11_mays 300 = .ok (.iload 4, 2) := by decide +kernel
theorem dX11_mays_302 : decode cX11_mays 302 = .ok (.iadd, 1) := by decide +kernel
theorem dX11_mays_303 : decode cX11_mays 303 = .ok (.iaload, 1) := by decide +kernel
theorem dX11_mays_304 : decode cX11_mays 304 = .ok (.iastore, 1) := by decide +kernel
theorem dX11_mays_305 : decode cX11_mays 305 = .ok (.iinc 4 1, 3) := by decide +kernel
theorem dX11_mays_308 : decode cX11_mays 308 = .ok (.goto (-26), 3) := by decide +kernel
theorem dX11_mays_311 : decode cX11_mays 311 = .ok (.aload_n 0, 1) := by decide +kernel
theorem dX11_mays_312 : decode cX11_mays 312 = .ok (.aload_n 0, 1) := by decide +kernel
theorem dX11_mays_313 : decode cX11_mays 313 = .ok (.getfield 13, 3) := by decide +kernel
theorem dX11_mays_316 : decode cX11_mays 316 = .ok (.iconst 0, 1) := by decide +kernel
theorem dX11_mays_317 : decode cX11_mays 317 = .ok (.iaload, 1) := by decide +kernel
theorem dX11_mays_318 : decode cX11_mays 318 = .ok (.putfield 146, 3) := by decide +kernel
theorem dX11_mays_321 : decode cX11_mays 321 = .ok (.aload_n 0, 1) := by decide +kernel
theorem dX11_mays_322 : decode cX11_mays 322 = .ok (.aload_n 0, 1) := by decide +kernel
theorem dX11_mays_323 : decode cX11_mays 323 = .ok (.getfield 13, 3) := by decide +kernel
theorem dX11_mays_326 : decode cX11_mays 326 = .ok (.iconst 1, 1) := by decide +kernel
theorem dX11_mays_327 : decode cX11_mays 327 = .ok (.iaload, 1) := by decide +kernel
theorem dX11_mays_328 : decode cX11_mays 328 = .ok (.putfield 149, 3) := by decide +kernel
theorem dX11_mays_331 : decode cX11_mays 331 = .ok (.aload_n 0, 1) := by decide +kernel
theorem dX11_mays_332 : decode cX11_mays 332 = .ok (.bipush 16, 2) := by decide +kernel
theorem dX11_mays_334 : decode cX11_mays 334 = .ok (.invokevirtual 169, 3) := by decide +kernel
theorem dX11_mays_337 : decode cX11_mays 337 = .ok (.aload_n 0, 1) := by decide +kernel
theorem dX11_mays_338 : decode cX11_mays 338 = .ok (.iload_n 3, 1) := by decide +kernel
theorem dX11_mays_339 : decode cX11_mays 339 = .ok (.invokevirtual 161, 3) := by decide +kernel
theorem dX11_mays_342 : decode cX11_mays 342 = .ok (.ireturn, 1) := by decide +kernel
theorem dX11_drawn_0 : decode cX11_drawn 0 = .ok (.aload_n 0, 1) := by decide +kernel
theorem dX11_drawn_1 : decode cX11_drawn 1 = .ok (.iconst 0, 1) := by decide +kernel
theorem dX11_drawn_2 : decode cX11_drawn 2 = .ok (.putfield 152, 3) := by decide +kernel
theorem dX11_drawn_5 : decode cX11_drawn 5 = .ok (.aload_n 0, 1) := by decide +kernel
theorem dX11_drawn_6 : decode cX11_drawn 6 = .ok (.getfield 146, 3) := by decide +kernel
theorem dX11_drawn_9 : decode cX11_drawn 9 = .ok (.iconst (-1), 1) := by decide +kernel
theorem dX11_drawn_10 : decode cX11_drawn 10 = .ok (.if_icmp .eq 7, 3) := by decide +kernel
theorem dX11_drawn_13 : decode cX11_drawn 13 = .ok (.iload_n 1, 1) := by decide +kernel
theorem dX11_drawn_14 : decode cX11_drawn 14 = .ok (.ifCond .ge 5, 3) := by decide +kernel
theorem dX11_drawn_17 : decode cX11_drawn 17 = .ok (.iconst (-1), 1) := by decide +kernel
theorem dX11_drawn_18 : decode cX11_drawn 18 = .ok (.ireturn, 1) := by decide +kernel
theorem dX11_drawn_19 : decode cX11_drawn 19 = .ok (.iload_n 2, 1) := by decide +kernel
theorem dX11_drawn_20 : decode cX11_drawn 20 = .ok (.tableswitch 105 0 3 #[32, 54, 75, 90], 32) := by decide +kernel
theorem dX11_drawn_52 : decode cX11_drawn 52 = .ok (.iload_n 1, 1) := by decide +kernel
theorem dX11_drawn_53 : decode cX11_drawn 53 = .ok (.aload_n 0, 1) := by decide +kernel
theorem dX11_drawn_54 : decode cX11_drawn 54 = .ok (.getfield 149, 3) := by decide +kernel
theorem dX11_drawn_57 : decode cX11_drawn 57 = .ok (.if_icmp .ge 15, 3) := by decide +kernel
theorem dX11_drawn_60 : decode cX11_drawn 60 = .ok (.aload_n 0, 1) := by decide +kernel
theorem dX11_drawn_61 : decode cX11_drawn 61 = .ok (.getfield 143, 3) := by decide +kernel
theorem dX11_drawn_64 : decode cX11_drawn 64 = .ok (.bipush 12, 2) := by decide +kernel
theorem dX11_drawn_66 : decode cX11_drawn 66 = .ok (.iload_n 1, 1) := by decide +kernel
theorem dX11_drawn_67 : decode cX11_drawn 67 = .ok (.iadd, 1) := by decide +kernel
theorem dX11_drawn_68 : decode cX11_drawn 68 = .ok (.iaload, 1) := by decide +kernel
theorem dX11_drawn_69 : decode cX11_drawn 69 = .ok (.goto 4, 3) := by decide +kernel
theorem dX11_drawn_72 : decode cX11_drawn 72 = .ok (.iconst (-1), 1) := by decide +kernel
theorem dX11_drawn_73 : decode cX11_drawn 73 = .ok (.ireturn, 1) := by decide +kernel
theorem dX11_drawn_74 : decode cX11_drawn 74 = .ok (.iload_n 1, 1) := by decide +kernel
theorem dX11_drawn_75 : decode cX11_drawn 75 = .ok (.aload_n 0, 1) := by decide +kernel
theorem dX11_drawn_76 : decode cX11_drawn 76 = .ok (.getfield 146, 3) := by decide +kernel
theorem dX11_drawn_79 : decode cX11_drawn 79 = .ok (.if_icmp .ge 14, 3) := by decide +kernel
theorem dX11_drawn_82 : decode cX11_drawn 82 = .ok (.aload_n 0, 1) := by decide +kernel
theorem dX11_drawn_83 : decode cX11_drawn 83 = .ok (.getfield 143, 3) := by decide +kernel
theorem dX11_drawn_86 : decode cX11_drawn 86 = .ok (.iconst 5, 1) := by decide +kernel
theorem dX11_drawn_87 : decode cX11_drawn 87 = .ok (.iload_n 1, 1) := by decide +kernel
theorem dX11_drawn_88 : decode cX11_drawn 88 = .ok (.iadd, 1) := by decide +kernel
theorem dX11_drawn_89 : decode cX11_drawn 89 = .ok (.iaload, 1) := by decide +kernel
theorem dX11_drawn_90 : decode cX11_drawn 90 = .ok (.goto 4, 3) := by decide +kernel
theorem dX11_drawn_93 : decode cX11_drawn 93 = .ok (.iconst (-1), 1) := by decide +kernel
theorem dX11_drawn_94 : decode cX11_drawn 94 = .ok (.ireturn, 1) := by decide +kernel
theorem dX11_drawn_95 : decode cX11_drawn 95 = .ok (.iload_n 1, 1) := by decide +kernel
theorem dX11_drawn_96 : decode cX11_drawn 96 = .ok (.ifCond .ne 12, 3) := by decide +kernel
theorem dX11_drawn_99 : decode cX11_drawn 99 = .ok (.aload_n 0, 1) := by decide +kernel
theorem dX11_drawn_100 : decode cX11_drawn 100 = .ok (.getfield 143, 3) := by decide +kernel
theorem dX11_drawn_103 : decode cX11_drawn 103 = .ok (.iconst 4, 1) := by decide +kernel
theorem dX11_drawn_104 : decode cX11_drawn 104 = .ok (.iaload, 1) := by decide +kernel
theorem dX11_drawn_105 : decode cX11_drawn 105 = .ok (.goto 4, 3) := by decide +kernel
theorem dX11_drawn_108 : decode cX11_drawn 108 = .ok (.iconst (-1), 1) := by decide +kernel
theorem dX11_drawn_109 : decode cX11_drawn 109 = .ok (.ireturn, 1) := by decide +kernel
theorem dX11_drawn_110 : decode cX11_drawn 110 = .ok (.iload_n 1, 1) := by decide +kernel
theorem dX11_drawn_111 : decode cX11_drawn 111 = .ok (.ifCond .ne 12, 3) := by decide +kernel
theorem dX11_drawn_114 : decode cX11_drawn 114 = .ok (.aload_n 0, 1) := by decide +kernel
theorem dX11_drawn_115 : decode cX11_drawn 115 = .ok (.getfield 143, 3) := by decide +kernel
theorem dX11_drawn_118 : decode cX11_drawn 118 = .ok (.iconst 0, 1) := by decide +kernel
theorem dX11_drawn_119 : decode cX11_drawn 119 = .ok (.iaload, 1) := by decide +kernel
theorem dX11_drawn_120 : decode cX11_drawn 120 = .ok (.goto 4, 3) := by decide +kernel
theorem dX11_drawn_123 : decode cX11_drawn 123 = .ok (.iconst (-1), 1) := by decide +kernel
theorem dX11_drawn_124 : decode cX11_drawn 124 = .ok (.ireturn, 1) := by decide +kernel
theorem dX11_drawn_125 : decode cX11_drawn 125 = .ok (.iconst (-1), 1) := by decide +kernel
theorem dX11_drawn_126 : decode cX11_drawn 126 = .ok (.ireturn, 1) := by decide +kernel
theorem dX11_count_0 : decode cX11_count 0 = .ok (.aload_n 0, 1) := by decide +kernel
theorem dX11_count_1 : decode cX11_count 1 = .ok (.iconst 0, 1) := by decide +kernel
theorem dX11_count_2 : decode cX11_count 2 = .ok (.putfield 152, 3) := by decide +kernel
theorem dX11_count_5 : decode cX11_count 5 = .ok (.iload_n 1, 1) := by decide +kernel
theorem dX11_count_6 : decode cX11_count 6 = .ok (.tableswitch 167 0 13 #[70, 77, 85, 92, 100, 107, 114, 119, 124, 131, 138, 145, 152, 160], 70) := by decide +kernel
theorem dX11_count_76 : decode cX11_count 76 = .ok (.aload_n 0, 1) := by decide +kernel
theorem dX11_count_77 : decode cX11_count 77 = .ok (.getfield 13, 3) := by decide +kernel
theorem dX11_count_80 : decode cX11_count 80 = .ok (.iconst 0, 1) := by decide +kernel
theorem dX11_count_81 : decode cX11_count 81 = .ok (.iaload, 1) := by decide +kernel
theorem dX11_count_82 : decode cX11_count 82 = .ok (.ireturn, 1) := by decide +kernel
theorem dX11_count_83 : decode cX11_count 83 = .ok (.aload_n 0, 1) := by decide +kernel
theorem dX11_count_84 : decode cX11_count 84 = .ok (.invokevirtual 488, 3) := by decide +kernel
theorem dX11_count_87 : decode cX11_count 87 = .ok (.invokestatic 439, 3) := by decide +kernel
theorem dX11_count_90 : decode cX11_count 90 = .ok (.ireturn, 1) := by decide +kernel
theorem dX11_count_91 : decode cX11_count 91 = .ok (.aload_n 0, 1) := by decide +kernel
theorem dX11_count_92 : decode cX11_count 92 = .ok (.getfield 13, 3) := by decide +kernel
theorem dX11_count_95 : decode cX11_count 95 = .ok (.iconst 1, 1) := by decide +kernel
theorem dX11_count_96 : decode cX11_count 96 = .ok (.iaload, 1) := by decide +kernel
theorem dX11_count_97 : decode cX11_count 97 = .ok (.ireturn, 1) := by decide +kernel
theorem dX11_count_98 : decode cX11_count 98 = .ok (.aload_n 0, 1) := by decide +kernel
theorem dX11_count_99 : decode cX11_count 99 = .ok (.getfield 13, 3) := by decide +kernel
theorem dX11_count_102 : decode cX11_count 102 = .ok (.bipush 9, 2) := by decide +kernel
theorem dX11_count_104 : decode cX11_count 104 = .ok (.iaload, 1) := by decide +kernel
theorem dX11_count_105 : decode cX11_count 105 = .ok (.ireturn, 1) := by decide +kernel
theorem dX11_count_106 : decode cX11_count 106 = .ok (.aload_n 0, 1) := by decide +kernel
theorem dX11_count_107 : decode cX11_count 107 = .ok (.getfield 13, 3) := by decide +kernel
theorem dX11_count_110 : decode cX11_count 110 = .ok (.iconst 2, 1) := by decide +kernel
theorem dX11_count_111 : decode cX11_count 111 = .ok (.iaload, 1) := by decide +kernel
theorem dX11_count_112 : decode cX11_count 112 = .ok (.ireturn, 1) := by decide +kernel
theorem dX11_count_113 : decode cX11_count 113 = .ok (.aload_n 0, 1) := by decide +kernel
theorem dX11_count_114 : decode cX11_count 114 = .ok (.getfield 13, 3) := by decide +kernel
theorem dX11_count_117 : decode cX11_count 117 = .ok (.iconst 3, 1) := by decide +kernel
theorem dX11_count_118 : decode cX11_count 118 = .ok (.iaload, 1) := by decide +kernel
theorem dX11_count_119 : decode cX11_count 119 = .ok (.ireturn, 1) := by decide +kernel
theorem dX11_count_120 : decode cX11_count 120 = .ok (.aload_n 0, 1) := by decide +kernel
theorem dX11_count_121 : decode cX11_count 121 = .ok (.getfield 158, 3) := by decide +kernel
theorem dX11_count_124 : decode cX11_count 124 = .ok (.ireturn, 1) := by decide +kernel
theorem dX11_count_125 : decode cX11_count 125 = .ok (.aload_n 0, 1) := by decide +kernel
theorem dX11_count_126 : decode cX11_count 126 = .ok (.getfield 243, 3) := by decide +kernel
theorem dX11_count_129 : decode cX11_count 129 = .ok (.ireturn, 1) := by decide +kernel
theorem dX11_count_130 : decode cX11_count 130 = .ok (.aload_n 0, 1) := by decide +kernel
theorem dX11_count_131 : decode cX11_count 131 = .ok (.getfield 7, 3) := by decide +kernel
theorem dX11_count_134 : decode cX11_count 134 = .ok (.iconst 1, 1) := by decide +kernel
theorem dX11_count_135 : decode cX11_count 135 = .ok (.iaload, 1) := by decide +kernel
theorem dX11_count_136 : decode cX11_count 136 = .ok (.ireturn, 1) := by decide +kernel
theorem dX11_count_137 : decode cX11_count 137 = .ok (.aload_n 0, 1) := by decide +kernel
theorem dX11_count_138 : decode cX11_count 138 = .ok (.getfield 7, 3) := by decide +kernel
theorem dX11_count_141 : decode cX11_count 141 = .ok (.iconst 2, 1) := by decide +kernel
theorem dX11_count_142 : decode cX11_count 142 = .ok (.iaload, 1) := by decide +kernel
theorem dX11_count_143 : decode cX11_count 143 = .ok (.ireturn, 1) := by decide +kernel
theorem dX11_count_144 : decode cX11_count 144 = .ok (.aload_n 0, 1) := by decide +kernel
theorem dX11_count_145 : decode cX11_count 145 = .ok (.getfield 7, 3) := by decide +kernel
theorem dX11_count_148 : decode cX11_count 148 = .ok (.iconst 3, 1) := by decide +kernel
theorem dX11_count_149 : decode cX11_count 149 = .ok (.iaload, 1) := by decide +kernel
theorem dX11_count_150 : decode cX11_count 150 = .ok (.ireturn, 1) := by decide +kernel
theorem dX11_count_151 : decode cX11_count 151 = .ok (.aload_n 0, 1) := by decide +kernel
theorem dX11_count_152 : decode cX11_count 152 = .ok (.getfield 7, 3) := by decide +kernel
theorem dX11_count_155 : decode cX11_count 155 = .ok (.iconst 5, 1) := by decide +kernel
theorem dX11_count_156 : decode cX11_count 156 = .ok (.iaload, 1) := by decide +kernel
theorem dX11_count_157 : decode cX11_count 157 = .ok (.ireturn, 1) := by decide +kernel
theorem dX11_count_158 : decode cX11_count 158 = .ok (.aload_n 0, 1) := by decide +kernel
theorem dX11_count_159 : decode cX11_count 159 = .ok (.getfield 7, 3) := by decide +kernel
theorem dX11_count_162 : decode cX11_count 162 = .ok (.bipush 6, 2) := by decide +kernel
theorem dX11_count_164 : decode cX11_count 164 = .ok (.iaload, 1) := by decide +kernel
theorem dX11_count_165 : decode cX11_count 165 = .ok (.ireturn, 1) := by decide +kernel
theorem dX11_count_166 : decode cX11_count 166 = .ok (.aload_n 0, 1) := by decide +kernel
theorem dX11_count_167 : decode cX11_count 167 = .ok (.getfield 13, 3) := by decide +kernel
theorem dX11_count_170 : decode cX11_count 170 = .ok (.iconst 4, 1) := by decide +kernel
theorem dX11_count_171 : decode cX11_count 171 = .ok (.iaload, 1) := by decide +kernel
theorem dX11_count_172 : decode cX11_count 172 = .ok (.ireturn, 1) := by decide +kernel
theorem dX11_count_173 : decode cX11_count 173 = .ok (.iload_n 1, 1) := by decide +kernel
theorem dX11_count_174 : decode cX11_count 174 = .ok (.i2l, 1) := by decide +kernel
theorem dX11_count_175 : decode cX11_count 175 = .ok (.ldc2_w 552, 3) := by decide +kernel
theorem dX11_count_178 : decode cX11_count 178 = .ok (.ldc2_w 554, 3) := by decide +kernel
theorem dX11_count_181 : decode cX11_count 181 = .ok (.invokestatic 172, 3) := by decide +kernel
theorem dX11_count_184 : decode cX11_count 184 = .ok (.ifCond .eq 17, 3) := by decide +kernel
theorem dX11_count_187 : decode cX11_count 187 = .ok (.aload_n 0, 1) := by decide +kernel
theorem dX11_count_188 : decode cX11_count 188 = .ok (.getfield 13, 3) := by decide +kernel
theorem dX11_count_191 : decode cX11_count 191 = .ok (.iconst 5, 1) := by decide +kernel
theorem dX11_count_192 : decode cX11_count 192 = .ok (.iload_n 1, 1) := by decide +kernel
theorem dX11_count_193 : decode cX11_count 193 = .ok (.iadd, 1) := by decide +kernel
theorem dX11_count_194 : decode cX11_count 194 = .ok (.bipush 14, 2) := by decide +kernel
theorem dX11_count_196 : decode cX11_count 196 = .ok (.isub, 1) := by decide +kernel
theorem dX11_count_197 : decode cX11_count 197 = .ok (.iaload, 1) := by decide +kernel
theorem dX11_count_198 : decode cX11_count 198 = .ok (.goto 4, 3) := by decide +kernel
theorem dX11_count_201 : decode cX11_count 201 = .ok (.iconst (-1), 1) := by decide +kernel
theorem dX11_count_202 : decode cX11_count 202 = .ok (.ireturn, 1) := by decide +kernel
theorem dX11_status_0 : decode cX11_status 0 = .ok (.aload_n 0, 1) := by decide +kernel
theorem dX11_status_1 : decode cX11_status 1 = .ok (.iconst 0, 1) := by decide +kernel
theorem dX11_status_2 : decode cX11_status 2 = .ok (.putfield 152, 3) := by decide +kernel
theorem dX11_status_5 : decode cX11_status 5 = .ok (.aload_n 0, 1) := by decide +kernel
theorem dX11_status_6 : decode cX11_status 6 = .ok (.getfield 155, 3) := by decide +kernel
theorem dX11_status_9 : decode cX11_status 9 = .ok (.ireturn, 1) := by decide +kernel
theorem dJ6_bitCount_0f7a4_0 : decode cJ6_bitCount_0f7a4 0 = .ok (.iload_n 0, 1) := by decide +kernel
theorem dJ6_bitCount_0f7a4_1 : decode cJ6_bitCount_0f7a4 1 = .ok (.iload_n 0, 1) := by decide +kernel
theorem dJ6_bitCount_0f7a4_2 : decode cJ6_bitCount_0f7a4 2 = .ok (.iconst 1, 1) := by decide +kernel
theorem dJ6_bitCount_0f7a4_3 : decode cJ6_bitCount_0f7a4 3 = .ok (.iushr, 1) := by decide +kernel
theorem dJ6_bitCount_0f7a4_4 : decode cJ6_bitCount_0f7a4 4 = .ok (.ldc_w 265, 3) := by decide +kernel
theorem dJ6_bitCount_0f7a4_7 : decode cJ6_bitCount_0f7a4 7 = .ok (.iand, 1) := by decide +kernel
theorem dJ6_bitCount_0f7a4_8 : decode cJ6_bitCount_0f7a4 8 = .ok (.isub, 1) := by decide +kernel
theorem dJ6_bitCount_0f7a4_9 : decode cJ6_bitCount_0f7a4 9 = .ok (.istore_n 0, 1) := by decide +kernel
theorem dJ6_bitCount_0f7a4_10 : decode cJ6_bitCount_0f7a4 10 = .ok (.iload_n 0, 1) := by decide +kernel
theorem dJ6_bitCount_0f7a4_11 : decode cJ6_bitCount_0f7a4 11 = .ok (.ldc_w 266, 3) := by decide +kernel
theorem dJ6_bitCount_0f7a4_14 : decode cJ6_bitCount_0f7a4 14 = .ok (.iand, 1) := by decide +kernel
theorem dJ6_bitCount_0f7a4_15 : decode cJ6_bitCount_0f7a4 15 = .ok (.iload_n 0, 1) := by decide +kernel
theorem dJ6_bitCount_0f7a4_16 : decode cJ6_bitCount_0f7a4 16 = .ok (.iconst 2, 1) := by decide +kernel
theorem dJ6_bitCount_0f7a4_17 : decode cJ6_bitCount_0f7a4 17 = .ok (.iushr, 1) := by decide +kernel
theorem dJ6_bitCount_0f7a4_18 : decode cJ6_bitCount_0f7a4 18 = .ok (.ldc_w 266, 3) := by decide +kernel
theorem dJ6_bitCount_0f7a4_21 : decode cJ6_bitCount_0f7a4 21 = .ok (.iand, 1) := by decide +kernel
theorem dJ6_bitCount_0f7a4_22 : decode cJ6_bitCount_0f7a4 22 = .ok (.iadd, 1) := by decide +kernel
theorem dJ6_bitCount_0f7a4_23 : decode cJ6_bitCount_0f7a4 23 = .ok (.istore_n 0, 1) := by decide +kernel
theorem dJ6_bitCount_0f7a4_24 : decode cJ6_bitCount_0f7a4 24 = .ok (.iload_n 0, 1) := by decide +kernel
theorem dJ6_bitCount_0f7a4_25 : decode cJ6_bitCount_0f7a4 25 = .ok (.iload_n 0, 1) := by decide +kernel
theorem dJ6_bitCount_0f7a4_26 : decode cJ6_bitCount_0f7a4 26 = .ok (.iconst 4, 1) := by decide +kernel
theorem dJ6_bitCount_0f7a4_27 : decode cJ6_bitCount_0f7a4 27 = .ok (.iushr, 1) := by decide +kernel
theorem dJ6_bitCount_0f7a4_28 : decode cJ6_bitCount_0f7a4 28 = .ok (.iadd, 1) := by decide +kernel
theorem dJ6_bitCount_0f7a4_29 : decode cJ6_bitCount_0f7a4 29 = .ok (.ldc_w 267, 3) := by decide +kernel
theorem dJ6_bitCount_0f7a4_32 : decode cJ6_bitCount_0f7a4 32 = .ok (.iand, 1) := by decide +kernel
theorem dJ6_bitCount_0f7a4_33 : decode cJ6_bitCount_0f7a4 33 = .ok (.istore_n 0, 1) := by decide +kernel
theorem dJ6_bitCount_0f7a4_34 : decode cJ6_bitCount_0f7a4 34 = .ok (.iload_n 0, 1) := by decide +kernel
theorem dJ6_bitCount_0f7a4_35 : decode cJ6_bitCount_0f7a4 35 = .ok (.iload_n 0, 1) := by decide +kernel
theorem dJ6_bitCount_0f7a4_36 : decode cJ6_bitCount_0f7a4 36 = .ok (.bipush 8, 2) := by decide +kernel
theorem dJ6_bitCount_0f7a4_38 : decode cJ6_bitCount_0f7a4 38 = .ok (.iushr, 1) := by decide +kernel
theorem dJ6_bitCount_0f7a4_39 : decode cJ6_bitCount_0f7a4 39 = .ok (.iadd, 1) := by decide +kernel
theorem dJ6_bitCount_0f7a4_40 : decode cJ6_bitCount_0f7a4 40 = .ok (.istore_n 0, 1) := by decide +kernel
theorem dJ6_bitCount_0f7a4_41 : decode cJ6_bitCount_0f7a4 41 = .ok (.iload_n 0, 1) := by decide +kernel
theorem dJ6_bitCount_0f7a4_42 : decode cJ6_bitCount_0f7a4 42 = .ok (.iload_n 0, 1) := by decide +kernel
theorem dJ6_bitCount_0f7a4_43 : decode cJ6_bitCount_0f7a4 43 = .ok (.bipush 16, 2) := by decide +kernel
theorem dJ6_bitCount_0f7a4_45 : decode cJ6_bitCount_0f7a4 45 = .ok (.iushr, 1) := by decide +kernel
theorem dJ6_bitCount_0f7a4_46 : decode cJ6_bitCount_0f7a4 46 = .ok (.iadd, 1) := by decide +kernel
theorem dJ6_bitCount_0f7a4_47 : decode cJ6_bitCount_0f7a4 47 = .ok (.istore_n 0, 1) := by decide +kernel
theorem dJ6_bitCount_0f7a4_48 : decode cJ6_bitCount_0f7a4 48 = .ok (.iload_n 0, 1) := by decide +kernel
theorem dJ6_bitCount_0f7a4_49 : decode cJ6_bitCount_0f7a4 49 = .ok (.bipush 63, 2) := by decide +kernel
theorem dJ6_bitCount_0f7a4_51 : decode cJ6_bitCount_0f7a4 51 = .ok (.iand, 1) := by decide +kernel
theorem dJ6_bitCount_0f7a4_52 : decode cJ6_bitCount_0f7a4 52 = .ok (.ireturn, 1) := by decide +kernel
theorem dL_law_0 : decode cL_law 0 = .ok (.new 7, 3) := by decide +kernel
theorem dL_law_3 : decode cL_law 3 = .ok (.dup, 1) := by decide +kernel
theorem dL_law_4 : decode cL_law 4 = .ok (.invokespecial 9, 3) := by decide +kernel
theorem dL_law_7 : decode cL_law 7 = .ok (.astore_n 1, 1) := by decide +kernel
theorem dL_law_8 : decode cL_law 8 = .ok (.new 10, 3) := by decide +kernel
theorem dL_law_11 : decode cL_law 11 = .ok (.dup, 1) := by decide +kernel
theorem dL_law_12 : decode cL_law 12 = .ok (.invokespecial 12, 3) := by decide +kernel
theorem dL_law_15 : decode cL_law 15 = .ok (.astore_n 2, 1) := by decide +kernel
theorem dL_law_16 : decode cL_law 16 = .ok (.iconst 0, 1) := by decide +kernel
theorem dL_law_17 : decode cL_law 17 = .ok (.istore_n 3, 1) := by decide +kernel
theorem dL_law_18 : decode cL_law 18 = .ok (.iload_n 3, 1) := by decide +kernel
theorem dL_law_19 : decode cL_law 19 = .ok (.aload_n 0, 1) := by decide +kernel
theorem dL_law_20 : decode cL_law 20 = .ok (.arraylength, 1) := by decide +kernel
theorem dL_law_21 : decode cL_law 21 = .ok (.bipush 6, 2) := by decide +kernel
theorem dL_law_23 : decode cL_law 23 = .ok (.isub, 1) := by decide +kernel
theorem dL_law_24 : decode cL_law 24 = .ok (.if_icmp .gt 1258, 3) := by decide +kernel
theorem dL_law_27 : decode cL_law 27 = .ok (.aload_n 0, 1) := by decide +kernel
theorem dL_law_28 : decode cL_law 28 = .ok (.iload_n 3, 1) := by decide +kernel
theorem dL_law_29 : decode cL_law 29 = .ok (.iaload, 1) := by decide +kernel
theorem dL_law_30 : decode cL_law 30 = .ok (.bipush 63, 2) := by decide +kernel
theorem dL_law_32 : decode cL_law 32 = .ok (.iand, 1) := by decide +kernel
theorem dL_law_33 : decode cL_law 33 = .ok (.tableswitch 1243 0 40 #[179, 212, 255, 288, 321, 354, 387, 450, 473, 486, 499, 512, 525, 538, 551, 574, 607, 630, 663, 676, 689, 722, 745, 768, 801, 834, 877, 900, 923, 956, 979, 992, 1005, 1028, 1062, 1095, 1128, 1161, 1184, 1207, 1230], 179) := by decide +kernel
theorem dL_law_212 : decode cL_law 212 = .ok (.aload_n 1, 1) := by decide +kernel
theorem dL_law_213 : decode cL_law 213 = .ok (.aload_n 0, 1) := by decide +kernel
theorem dL_law_214 : decode cL_law 214 = .ok (.iload_n 3, 1) := by decide +kernel
theorem dL_law_215 : decode cL_law 215 = .ok (.iconst 1, 1) := by decide +kernel
theorem dL_law_216 : decode cL_law 216 = .ok (.iadd, 1) := by decide +kernel
theorem dL_law_217 : decode cL_law 217 = .ok (.iaload, 1) := by decide +kernel
theorem dL_law_218 : decode cL_law 218 = .ok (.aload_n 0, 1) := by decide +kernel
theorem dL_law_219 : decode cL_law 219 = .ok (.iload_n 3, 1) := by decide +kernel
theorem dL_law_220 : decode cL_law 220 = .ok (.iconst 2, 1) := by decide +kernel
theorem dL_law_221 : decode cL_law 221 = .ok (.iadd, 1) := by decide +kernel
theorem dL_law_222 : decode cL_law 222 = .ok (.iaload, 1) := by decide +kernel
theorem dL_law_223 : decode cL_law 223 = .ok (.invokevirtual 13, 3) := by decide +kernel
theorem dL_law_226 : decode cL_law 226 = .ok (.aload_n 2, 1) := by decide +kernel
theorem dL_law_227 : decode cL_law 227 = .ok (.aload_n 0, 1) := by decide +kernel
theorem dL_law_228 : decode cL_law 228 = .ok (.iload_n 3, 1) := by decide +kernel
theorem dL_law_229 : decode cL_law 229 = .ok (.iconst 1, 1) := by decide +kernel
theorem dL_law_230 : decode cL_law 230 = .ok (.iadd, 1) := by decide +kernel
theorem dL_law_231 : decode cL_law 231 = .ok (.iaload, 1) := by decide +kernel
theorem dL_law_232 : decode cL_law 232 = .ok (.aload_n 0, 1) := by decide +kernel
theorem dL_law_233 : decode cL_law 233 = .ok (.iload_n 3, 1) := by decide +kernel
theorem dL_law_234 : decode cL_law 234 = .ok (.iconst 2, 1) := by decide +kernel
theorem dL_law_235 : decode cL_law 235 = .ok (.iadd, 1) := by decide +kernel
theorem dL_law_236 : decode cL_law 236 = .ok (.iaload, 1) := by decide +kernel
theorem dL_law_237 : decode cL_law 237 = .ok (.invokevirtual 17, 3) := by decide +kernel
theorem dL_law_240 : decode cL_law 240 = .ok (.if_icmp .eq 1036, 3) := by decide +kernel
theorem dL_law_243 : decode cL_law 243 = .ok (.iconst 0, 1) := by decide +kernel
theorem dL_law_244 : decode cL_law 244 = .ok (.ireturn, 1) := by decide +kernel
theorem dL_law_245 : decode cL_law 245 = .ok (.aload_n 1, 1) := by decide +kernel
theorem dL_law_246 : decode cL_law 246 = .ok (.aload_n 0, 1) := by decide +kernel
theorem dL_law_247 : decode cL_law 247 = .ok (.iload_n 3, 1) := by decide +kernel
theorem dL_law_248 : decode cL_law 248 = .ok (.iconst 1, 1) := by decide +kernel
theorem dL_law_249 : decode cL_law 249 = .ok (.iadd, 1) := by decide +kernel
theorem dL_law_250 : decode cL_law 250 = .ok (.iaload, 1) := by decide +kernel
theorem dL_law_251 : decode cL_law 251 = .ok (.aload_n 0, 1) := by decide +kernel
theorem dL_law_252 : decode cL_law 252 = .ok (.iload_n 3, 1) := by decide +kernel
theorem dL_law_253 : decode cL_law 253 = .ok (.iconst 2, 1) := by decide +kernel
theorem dL_law_254 : decode cL_law 254 = .ok (.iadd, 1) := by decide +kernel
theorem dL_law_255 : decode cL_law 255 = .ok (.iaload, 1) := by decide +kernel
theorem dL_law_256 : decode cL_law 256 = .ok (.aload_n 0, 1) := by decide +kernel
theorem dL_law_257 : decode cL_law 257 = .ok (.iload_n 3, 1) := by decide +kernel
theorem dL_law_258 : decode cL_law 258 = .ok (.iconst 3, 1) := by decide +kernel
theorem dL_law_259 : decode cL_law 259 = .ok (.iadd, 1) := by decide +kernel
theorem dL_law_260 : decode cL_law 260 = .ok (.iaload, 1) := by decide +kernel
theorem dL_law_261 : decode cL_law 261 = .ok (.invokevirtual 18, 3) := by decide +kernel
theorem dL_law_264 : decode cL_law 264 = .ok (.aload_n 2, 1) := by decide +kernel
theorem dL_law_265 : decode cL_law 265 = .ok (.aload_n 0, 1) := by decide +kernel
theorem dL_law_266 : decode cL_law 266 = .ok (.iload_n 3, 1) := by decide +kernel
theorem dL_law_267 : decode cL_law 267 = .ok (.iconst 1, 1) := by decide +kernel
theorem dL_law_268 : decode cL_law 268 = .ok (.iadd, 1) := by decide +kernel
theorem dL_law_269 : decode cL_law 269 = .ok (.iaload, 1) := by decide +kernel
theorem dL_law_270 : decode cL_law 270 = .ok (.aload_n 0, 1) := by decide +kernel
theorem dL_law_271 : decode cL_law 271 = .ok (.iload_n 3, 1) := by decide +kernel
theorem dL_law_272 : decode cL_law 272 = .ok (.iconst 2, 1) := by decide +kernel
theorem dL_law_273 : decode cL_law 273 = .ok (.iadd, 1) := by decide +kernel
theorem dL_law_274 : decode cL_law 274 = .ok (.iaload, 1) := by decide +kernel
theorem dL_law_275 : decode cL_law 275 = .ok (.aload_n 0, 1) := by decide +kernel
theorem dL_law_276 : decode cL_law 276 = .ok (.iload_n 3, 1) := by decide +kernel
theorem dL_law_277 : decode cL_law 277 = .ok (.iconst 3, 1) := by decide +kernel
theorem dL_law_278 : decode cL_law 278 = .ok (.iadd, 1) := by decide +kernel
theorem dL_law_279 : decode cL_law 279 = .ok (.iaload, 1) := by decide +kernel
theorem dL_law_280 : decode cL_law 280 = .ok (.invokevirtual 22, 3) := by decide +kernel
theorem dL_law_283 : decode cL_law 283 = .ok (.if_icmp .eq 993, 3) := by decide +kernel
theorem dL_law_286 : decode cL_law 286 = .ok (.iconst 0, 1) := by decide +kernel
theorem dL_law_287 : decode cL_law 287 = .ok (.ireturn, 1) := by decide +kernel
theorem dL_law_288 : decode cL_law 288 = .ok (.aload_n 1, 1) := by decide +kernel
theorem dL_law_289 : decode cL_law 289 = .ok (.aload_n 0, 1) := by decide +kernel
theorem dL_law_290 : decode cL_law 290 = .ok (.iload_n 3, 1) := by decide +kernel
theorem dL_law_291 : decode cL_law 291 = .ok (.iconst 1, 1) := by decide +kernel
theorem dL_law_292 : decode cL_law 292 = .ok (.iadd, 1) := by decide +kernel
theorem dL_law_293 : decode cL_law 293 = .ok (.iaload, 1) := by decide +kernel
theorem dL_law_294 : decode cL_law 294 = .ok (.aload_n 0, 1) := by decide +kernel
theorem dL_law_295 : decode cL_law 295 = .ok (.iload_n 3, 1) := by decide +kernel
theorem dL_law_296 : decode cL_law 296 = .ok (.iconst 2, 1) := by decide +kernel
theorem dL_law_297 : decode cL_law 297 = .ok (.iadd, 1) := by decide +kernel
theorem dL_law_298 : decode cL_law 298 = .ok (.iaload, 1) := by decide +kernel
theorem dL_law_299 : decode cL_law 299 = .ok (.invokevirtual 23, 3) := by decide +kernel
theorem dL_law_302 : decode cL_law 302 = .ok (.aload_n 2, 1) := by decide +kernel
theorem dL_law_303 : decode cL_law 303 = .ok (.aload_n 0, 1) := by decide +kernel
theorem dL_law_304 : decode cL_law 304 = .ok (.iload_n 3, 1) := by decide +kernel
theorem dL_law_305 : decode cL_law 305 = .ok (.iconst 1, 1) := by decide +kernel
theorem dL_law_306 : decode cL_law 306 = .ok (.iadd, 1) := by decide +kernel
theorem dL_law_307 : decode cL_law 307 = .ok (.iaload, 1) := by decide +kernel
theorem dL_law_308 : decode cL_law 308 = .ok (.aload_n 0, 1) := by decide +kernel
theorem dL_law_309 : decode cL_law 309 = .ok (.iload_n 3, 1) := by decide +kernel
theorem dL_law_310 : decode cL_law 310 = .ok (.iconst 2, 1) := by decide +kernel
theorem dL_law_311 : decode cL_law 311 = .ok (.iadd, 1) := by decide +kernel
theorem dL_law_312 : decode cL_law 312 = .ok (.iaload, 1) := by decide +kernel
theorem dL_law_313 : decode cL_law 313 = .ok (.invokevirtual 26, 3) := by decide +kernel
theorem dL_law_316 : decode cL_law 316 = .ok (.if_icmp .eq 960, 3) := by decide +kernel
theorem dL_law_319 : decode cL_law 319 = .ok (.iconst 0, 1) := by decide +kernel
theorem dL_law_320 : decode cL_law 320 = .ok (.ireturn, 1) := by decide +kernel
theorem dL_law_321 : decode cL_law 321 = .ok (.aload_n 1, 1) := by decide +kernel
theorem dL_law_322 : decode cL_law 322 = .ok (.aload_n 0, 1) := by decide +kernel
theorem dL_law_323 : decode cL_law 323 = .ok (.iload_n 3, 1) := by decide +kernel
theorem dL_law_324 : decode cL_law 324 = .ok (.iconst 1, 1) := by decide +kernel
theorem dL_law_325 : decode cL_law 325 = .ok (.iadd, 1) := by decide +kernel
theorem dL_law_326 : decode cL_law 326 = .ok (.iaload, 1) := by decide +kernel
theorem dL_law_327 : decode cL_law 327 = .ok (.aload_n 0, 1) := by decide +kernel
theorem dL_law_328 : decode cL_law 328 = .ok (.iload_n 3, 1) := by decide +kernel
theorem dL_law_329 : decode cL_law 329 = .ok (.iconst 2, 1) := by decide +kernel
theorem dL_law_330 : decode cL_law 330 = .ok (.iadd, 1) := by decide +kernel
theorem dL_law_331 : decode cL_law 331 = .ok (.iaload, 1) := by decide +kernel
theorem dL_law_332 : decode cL_law 332 = .ok (.invokevirtual 27, 3) := by decide +kernel
theorem dL_law_335 : decode cL_law 335 = .ok (.aload_n 2, 1) := by decide +kernel
theorem dL_law_336 : decode cL_law 336 = .ok (.aload_n 0, 1) := by decide +kernel
theorem dL_law_337 : decode cL_law 337 = .ok (.iload_n 3, 1) := by decide +kernel
theorem dL_law_338 : decode cL_law 338 = .ok (.iconst 1, 1) := by decide +kernel
theorem dL_law_339 : decode cL_law 339 = .ok (.iadd, 1) := by decide +kernel
theorem dL_law_340 : decode cL_law 340 = .ok (.iaload, 1) := by decide +kernel
theorem dL_law_341 : decode cL_law 341 = .ok (.aload_n 0, 1) := by decide +kernel
theorem dL_law_342 : decode cL_law 342 = .ok (.iload_n 3, 1) := by decide +kernel
theorem dL_law_343 : decode cL_law 343 = .ok (.iconst 2, 1) := by decide +kernel
theorem dL_law_344 : decode cL_law 344 = .ok (.iadd, 1) := by decide +kernel
theorem dL_law_345 : decode cL_law 345 = .ok (.iaload, 1) := by decide +kernel
theorem dL_law_346 : decode cL_law 346 = .ok (.invokevirtual 30, 3) := by decide +kernel
theorem dL_law_349 : decode cL_law 349 = .ok (.if_icmp .eq 927, 3) := by decide +kernel
theorem dL_law_352 : decode cL_law 352 = .ok (.iconst 0, 1) := by decide +kernel
theorem dL_law_353 : decode cL_law 353 = .ok (.ireturn, 1) := by decide +kernel
theorem dL_law_354 : decode cL_law 354 = .ok (.aload_n 1, 1) := by decide +kernel
theorem dL_law_355 : decode cL_law 355 = .ok (.aload_n 0, 1) := by decide +kernel
theorem dL_law_356 : decode cL_law 356 = .ok (.iload_n 3, 1) := by decide +kernel
theorem dL_law_357 : decode cL_law 357 = .ok (.iconst 1, 1) := by decide +kernel
theorem dL_law_358 : decode cL_law 358 = .ok (.iadd, 1) := by decide +kernel
theorem dL_law_359 : decode cL_law 359 = .ok (.iaload, 1) := by decide +kernel
theorem dL_law_360 : decode cL_law 360 = .ok (.aload_n 0, 1) := by decide +kernel
theorem dL_law_361 : decode cL_law 361 = .ok (.iload_n 3, 1) := by decide +kernel
theorem dL_law_362 : decode cL_law 362 = .ok (.iconst 2, 1) := by decide +kernel
theorem dL_law_363 : decode cL_law 363 = .ok (.iadd, 1) := by decide +kernel
theorem dL_law_364 : decode cL_law 364 = .ok (.iaload, 1) := by decide +kernel
theorem dL_law_365 : decode cL_law 365 = .ok (.invokevirtual 31, 3) := by decide +kernel
theorem dL_law_368 : decode cL_law 368 = .ok (.aload_n 2, 1) := by decide +kernel
theorem dL_law_369 : decode cL_law 369 = .ok (.aload_n 0, 1) := by decide +kernel
theorem dL_law_370 : decode cL_law 370 = .ok (.iload_n 3, 1) := by decide +kernel
theorem dL_law_371 : decode cL_law 371 = .ok (.iconst 1, 1) := by decide +kernel
theorem dL_law_372 : decode cL_law 372 = .ok (.iadd, 1) := by decide +kernel
theorem dL_law_373 : decode cL_law 373 = .ok (.iaload, 1) := by decide +kernel
theorem dL_law_374 : decode cL_law 374 = .ok (.aload_n 0, 1) := by decide +kernel
theorem dL_law_375 : decode cL_law 375 = .ok (.iload_n 3, 1) := by decide +kernel
theorem dL_law_376 : decode cL_law 376 = .ok (.iconst 2, 1) := by decide +kernel
theorem dL_law_377 : decode cL_law 377 = .ok (.iadd, 1) := by decide +kernel
theorem dL_law_378 : decode cL_law 378 = .ok (.iaload, 1) := by decide +kernel
theorem dL_law_379 : decode cL_law 379 = .ok (.invokevirtual 34, 3) := by decide +kernel
theorem dL_law_382 : decode cL_law 382 = .ok (.if_icmp .eq 894, 3) := by decide +kernel
theorem dL_law_385 : decode cL_law 385 = .ok (.iconst 0, 1) := by decide +kernel
theorem dL_law_386 : decode cL_law 386 = .ok (.ireturn, 1) := by decide +kernel
theorem dL_law_387 : decode cL_law 387 = .ok (.aload_n 1, 1) := by decide +kernel
theorem dL_law_388 : decode cL_law 388 = .ok (.aload_n 0, 1) := by decide +kernel
theorem dL_law_389 : decode cL_law 389 = .ok (.iload_n 3, 1) := by decide +kernel
theorem dL_law_390 : decode cL_law 390 = .ok (.iconst 1, 1) := by decide +kernel
theorem dL_law_391 : decode cL_law 391 = .ok (.iadd, 1) := by decide +kernel
theorem dL_law_392 : decode cL_law 392 = .ok (.iaload, 1) := by decide +kernel
theorem dL_law_393 : decode cL_law 393 = .ok (.aload_n 0, 1) := by decide +kernel
theorem dL_law_394 : decode cL_law 394 = .ok (.iload_n 3, 1) := by decide +kernel
theorem dL_law_395 : decode cL_law 395 = .ok (.iconst 2, 1) := by decide +kernel
theorem dL_law_396 : decode cL_law 396 = .ok (.iadd, 1) := by decide +kernel
theorem dL_law_397 : decode cL_law 397 = .ok (.iaload, 1) := by decide +kernel
theorem dL_law_398 : decode cL_law 398 = .ok (.invokevirtual 35, 3) := by decide +kernel
theorem dL_law_401 : decode cL_law 401 = .ok (.aload_n 2, 1) := by decide +kernel
theorem dL_law_402 : decode cL_law 402 = .ok (.aload_n 0, 1) := by decide +kernel
theorem dL_law_403 : decode cL_law 403 = .ok (.iload_n 3, 1) := by decide +kernel
theorem dL_law_404 : decode cL_law 404 = .ok (.iconst 1, 1) := by decide +kernel
theorem dL_law_405 : decode cL_law 405 = .ok (.iadd, 1) := by decide +kernel
theorem dL_law_406 : decode cL_law 406 = .ok (.iaload, 1) := by decide +kernel
theorem dL_law_407 : decode cL_law 407 = .ok (.aload_n 0, 1) := by decide +kernel
theorem dL_law_408 : decode cL_law 408 = .ok (.iload_n 3, 1) := by decide +kernel
theorem dL_law_409 : decode cL_law 409 = .ok (.iconst 2, 1) := by decide +kernel
theorem dL_law_410 : decode cL_law 410 = .ok (.iadd, 1) := by decide +kernel
theorem dL_law_411 : decode cL_law 411 = .ok (.iaload, 1) := by decide +kernel
theorem dL_law_412 : decode cL_law 412 = .ok (.invokevirtual 38, 3) := by decide +kernel
theorem dL_law_415 : decode cL_law 415 = .ok (.if_icmp .eq 861, 3) := by decide +kernel
theorem dL_law_418 : decode cL_law 418 = .ok (.iconst 0, 1) := by decide +kernel
theorem dL_law_419 : decode cL_law 419 = .ok (.ireturn, 1) := by decide +kernel
theorem dL_law_420 : decode cL_law 420 = .ok (.aload_n 1, 1) := by decide +kernel
theorem dL_law_421 : decode cL_law 421 = .ok (.aload_n 0, 1) := by decide +kernel
theorem dL_law_422 : decode cL_law 422 = .ok (.iload_n 3, 1) := by decide +kernel
theorem dL_law_423 : decode cL_law 423 = .ok (.iconst 1, 1) := by decide +kernel
theorem dL_law_424 : decode cL_law 424 = .ok (.iadd, 1) := by decide +kernel
theorem dL_law_425 : decode cL_law 425 = .ok (.iaload, 1) := by decide +kernel
theorem dL_law_426 : decode cL_law 426 = .ok (.aload_n 0, 1) := by decide +kernel
theorem dL_law_427 : decode cL_law 427 = .ok (.iload_n 3, 1) := by decide +kernel
theorem dL_law_428 : decode cL_law 428 = .ok (.iconst 2, 1) := by decide +kernel
theorem dL_law_429 : decode cL_law 429 = .ok (.iadd, 1) := by decide +kernel
theorem dL_law_430 : decode cL_law 430 = .ok (.iaload, 1) := by decide +kernel
theorem dL_law_431 : decode cL_law 431 = .ok (.aload_n 0, 1) := by decide +kernel
theorem dL_law_432 : decode cL_law 432 = .ok (.iload_n 3, 1) := by decide +kernel
theorem dL_law_433 : decode cL_law 433 = .ok (.iconst 3, 1) := by decide +kernel
theorem dL_law_434 : decode cL_law 434 = .ok (.iadd, 1) := by decide +kernel
theorem dL_law_435 : decode cL_law 435 = .ok (.iaload, 1) := by decide +kernel
theorem dL_law_436 : decode cL_law 436 = .ok (.aload_n 0, 1) := by decide +kernel
theorem dL_law_437 : decode cL_law 437 = .ok (.iload_n 3, 1) := by decide +kernel
theorem dL_law_438 : decode cL_law 438 = .ok (.iconst 4, 1) := by decide +kernel
theorem dL_law_439 : decode cL_law 439 = .ok (.iadd, 1) := by decide +kernel
theorem dL_law_440 : decode cL_law 440 = .ok (.iaload, 1) := by decide +kernel
theorem dL_law_441 : decode cL_law 441 = .ok (.aload_n 0, 1) := by decide +kernel
theorem dL_law_442 : decode cL_law 442 = .ok (.iload_n 3, 1) := by decide +kernel
theorem dL_law_443 : decode cL_law 443 = .ok (.iconst 5, 1) := by decide +kernel
theorem dL_law_444 : decode cL_law 444 = .ok (.iadd, 1) := by decide +kernel
theorem dL_law_445 : decode cL_law 445 = .ok (.iaload, 1) := by decide +kernel
theorem dL_law_446 : decode cL_law 446 = .ok (.invokevirtual 39, 3) := by decide +kernel
theorem dL_law_449 : decode cL_law 449 = .ok (.aload_n 2, 1) := by decide +kernel
theorem dL_law_450 : decode cL_law 450 = .ok (.aload_n 0, 1) := by decide +kernel
theorem dL_law_451 : decode cL_law 451 = .ok (.iload_n 3, 1) := by decide +kernel
theorem dL_law_452 : decode cL_law 452 = .ok (.iconst 1, 1) := by decide +kernel
theorem dL_law_453 : decode cL_law 453 = .ok (.iadd, 1) := by decide +kernel
theorem dL_law_454 : decode cL_law 454 = .ok (.iaload, 1) := by decide +kernel
theorem dL_law_455 : decode cL_law 455 = .ok (.aload_n 0, 1) := by decide +kernel
theorem dL_law_456 : decode cL_law 456 = .ok (.iload_n 3, 1) := by decide +kernel
theorem dL_law_457 : decode cL_law 457 = .ok (.iconst 2, 1) := by decide +kernel
theorem dL_law_458 : decode cL_law 458 = .ok (.iadd, 1) := by decide +kernel
theorem dL_law_459 : decode cL_law 459 = .ok (.iaload, 1) := by decide +kernel
theorem dL_law_460 : decode cL_law 460 = .ok (.aload_n 0, 1) := by decide +kernel
theorem dL_law_461 : decode cL_law 461 = .ok (.iload_n 3, 1) := by decide +kernel
theorem dL_law_462 : decode cL_law 462 = .ok (.iconst 3, 1) := by decide +kernel
theorem dL_law_463 : decode cL_law 463 = .ok (.iadd, 1) := by decide +kernel
theorem dL_law_464 : decode cL_law 464 = .ok (.iaload, 1) := by decide +kernel
theorem dL_law_465 : decode cL_law 465 = .ok (.aload_n 0, 1) := by decide +kernel
theorem dL_law_466 : decode cL_law 466 = .ok (.iload_n 3, 1) := by decide +kernel
theorem dL_law_467 : decode cL_law 467 = .ok (.iconst 4, 1) := by decide +kernel
theorem dL_law_468 : decode cL_law 468 = .ok (.iadd, 1) := by decide +kernel
theorem dL_law_469 : decode cL_law 469 = .ok (.iaload, 1) := by decide +kernel
theorem dL_law_470 : decode cL_law 470 = .ok (.aload_n 0, 1) := by decide +kernel
theorem dL_law_471 : decode cL_law 471 = .ok (.iload_n 3, 1) := by decide +kernel
theorem dL_law_472 : decode cL_law 472 = .ok (.iconst 5, 1) := by decide +kernel
theorem dL_law_473 : decode cL_law 473 = .ok (.iadd, 1) := by decide +kernel
theorem dL_law_474 : decode cL_law 474 = .ok (.iaload, 1) := by decide +kernel
theorem dL_law_475 : decode cL_law 475 = .ok (.invokevirtual 43, 3) := by decide +kernel
theorem dL_law_478 : decode cL_law 478 = .ok (.if_icmp .eq 798, 3) := by decide +kernel
theorem dL_law_481 : decode cL_law 481 = .ok (.iconst 0, 1) := by decide +kernel
theorem dL_law_482 : decode cL_law 482 = .ok (.ireturn, 1) := by decide +kernel
theorem dL_law_483 : decode cL_law 483 = .ok (.aload_n 1, 1) := by decide +kernel
theorem dL_law_484 : decode cL_law 484 = .ok (.aload_n 0, 1) := by decide +kernel
theorem dL_law_485 : decode cL_law 485 = .ok (.iload_n 3, 1) := by decide +kernel
theorem dL_law_486 : decode cL_law 486 = .ok (.iconst 1, 1) := by decide +kernel
theorem dL_law_487 : decode cL_law 487 = .ok (.iadd, 1) := by decide +kernel
theorem dL_law_488 : decode cL_law 488 = .ok (.iaload, 1) := by decide +kernel
theorem dL_law_489 : decode cL_law 489 = .ok (.invokevirtual 44, 3) := by decide +kernel
theorem dL_law_492 : decode cL_law 492 = .ok (.aload_n 2, 1) := by decide +kernel
theorem dL_law_493 : decode cL_law 493 = .ok (.aload_n 0, 1) := by decide +kernel
theorem dL_law_494 : decode cL_law 494 = .ok (.iload_n 3, 1) := by decide +kernel
theorem dL_law_495 : decode cL_law 495 = .ok (.iconst 1, 1) := by decide +kernel
theorem dL_law_496 : decode cL_law 496 = .ok (.iadd, 1) := by decide +kernel
theorem dL_law_497 : decode cL_law 497 = .ok (.iaload, 1) := by decide +kernel
theorem dL_law_498 : decode cL_law 498 = .ok (.invokevirtual 48, 3) := by decide +kernel
theorem dL_law_501 : decode cL_law 501 = .ok (.if_icmp .eq 775, 3) := by decide +kernel
theorem dL_law_504 : decode cL_law 504 = .ok (.iconst 0, 1) := by decide +kernel
theorem dL_law_505 : decode cL_law 505 = .ok (.ireturn, 1) := by decide +kernel
theorem dL_law_506 : decode cL_law 506 = .ok (.aload_n 1, 1) := by decide +kernel
theorem dL_law_507 : decode cL_law 507 = .ok (.invokevirtual 49, 3) := by decide +kernel
theorem dL_law_510 : decode cL_law 510 = .ok (.aload_n 2, 1) := by decide +kernel
theorem dL_law_511 : decode cL_law 511 = .ok (.invokevirtual 53, 3) := by decide +kernel
theorem dL_law_514 : decode cL_law 514 = .ok (.if_icmp .eq 762, 3) := by decide +kernel
theorem dL_law_517 : decode cL_law 517 = .ok (.iconst 0, 1) := by decide +kernel
theorem dL_law_518 : decode cL_law 518 = .ok (.ireturn, 1) := by decide +kernel
theorem dL_law_519 : decode cL_law 519 = .ok (.aload_n 1, 1) := by decide +kernel
theorem dL_law_520 : decode cL_law 520 = .ok (.invokevirtual 54, 3) := by decide +kernel
theorem dL_law_523 : decode cL_law 523 = .ok (.aload_n 2, 1) := by decide +kernel
theorem dL_law_524 : decode cL_law 524 = .ok (.invokevirtual 57, 3) := by decide +kernel
theorem dL_law_527 : decode cL_law 527 = .ok (.if_icmp .eq 749, 3) := by decide +kernel
theorem dL_law_530 : decode cL_law 530 = .ok (.iconst 0, 1) := by decide +kernel
theorem dL_law_531 : decode cL_law 531 = .ok (.ireturn, 1) := by decide +kernel
theorem dL_law_532 : decode cL_law 532 = .ok (.aload_n 1, 1) := by decide +kernel
theorem dL_law_533 : decode cL_law 533 = .ok (.invokevirtual 58, 3) := by decide +kernel
theorem dL_law_536 : decode cL_law 536 = .ok (.aload_n 2, 1) := by decide +kernel
theorem dL_law_537 : decode cL_law 537 = .ok (.invokevirtual 61, 3) := by decide +kernel
theorem dL_law_540 : decode cL_law 540 = .ok (.if_icmp .eq 736, 3) := by decide +kernel
theorem dL_law_543 : decode cL_law 543 = .ok (.iconst 0, 1) := by decide +kernel
theorem dL_law_544 : decode cL_law 544 = .ok (.ireturn, 1) := by decide +kernel
theorem dL_law_545 : decode cL_law 545 = .ok (.aload_n 1, 1) := by decide +kernel
theorem dL_law_546 : decode cL_law 546 = .ok (.invokevirtual 62, 3) := by decide +kernel
theorem dL_law_549 : decode cL_law 549 = .ok (.aload_n 2, 1) := by decide +kernel
theorem dL_law_550 : decode cL_law 550 = .ok (.invokevirtual 65, 3) := by decide +kernel
theorem dL_law_553 : decode cL_law 553 = .ok (.if_icmp .eq 723, 3) := by decide +kernel
theorem dL_law_556 : decode cL_law 556 = .ok (.iconst 0, 1) := by decide +kernel
theorem dL_law_557 : decode cL_law 557 = .ok (.ireturn, 1) := by decide +kernel
theorem dL_law_558 : decode cL_law 558 = .ok (.aload_n 1, 1) := by decide +kernel
theorem dL_law_559 : decode cL_law 559 = .ok (.invokevirtual 66, 3) := by decide +kernel
theorem dL_law_562 : decode cL_law 562 = .ok (.aload_n 2, 1) := by decide +kernel
theorem dL_law_563 : decode cL_law 563 = .ok (.invokevirtual 69, 3) := by decide +kernel
theorem dL_law_566 : decode cL_law 566 = .ok (.if_icmp .eq 710, 3) := by decide +kernel
theorem dL_law_569 : decode cL_law 569 = .ok (.iconst 0, 1) := by decide +kernel
theorem dL_law_570 : decode cL_law 570 = .ok (.ireturn, 1) := by decide +kernel
theorem dL_law_571 : decode cL_law 571 = .ok (.aload_n 1, 1) := by decide +kernel
theorem dL_law_572 : decode cL_law 572 = .ok (.invokevirtual 70, 3) := by decide +kernel
theorem dL_law_575 : decode cL_law 575 = .ok (.aload_n 2, 1) := by decide +kernel
theorem dL_law_576 : decode cL_law 576 = .ok (.invokevirtual 73, 3) := by decide +kernel
theorem dL_law_579 : decode cL_law 579 = .ok (.if_icmp .eq 697, 3) := by decide +kernel
theorem dL_law_582 : decode cL_law 582 = .ok (.iconst 0, 1) := by decide +kernel
theorem dL_law_583 : decode cL_law 583 = .ok (.ireturn, 1) := by decide +kernel
theorem dL_law_584 : decode cL_law 584 = .ok (.aload_n 1, 1) := by decide +kernel
theorem dL_law_585 : decode cL_law 585 = .ok (.aload_n 0, 1) := by decide +kernel
theorem dL_law_586 : decode cL_law 586 = .ok (.iload_n 3, 1) := by decide +kernel
theorem dL_law_587 : decode cL_law 587 = .ok (.iconst 1, 1) := by decide +kernel
theorem dL_law_588 : decode cL_law 588 = .ok (.iadd, 1) := by decide +kernel
theorem dL_law_589 : decode cL_law 589 = .ok (.iaload, 1) := by decide +kernel
theorem dL_law_590 : decode cL_law 590 = .ok (.invokevirtual 74, 3) := by decide +kernel
theorem dL_law_593 : decode cL_law 593 = .ok (.aload_n 2, 1) := by decide +kernel
theorem dL_law_594 : decode cL_law 594 = .ok (.aload_n 0, 1) := by decide +kernel
theorem dL_law_595 : decode cL_law 595 = .ok (.iload_n 3, 1) := by decide +kernel
theorem dL_law_596 : decode cL_law 596 = .ok (.iconst 1, 1) := by decide +kernel
theorem dL_law_597 : decode cL_law 597 = .ok (.iadd, 1) := by decide +kernel
theorem dL_law_598 : decode cL_law 598 = .ok (.iaload, 1) := by decide +kernel
theorem dL_law_599 : decode cL_law 599 = .ok (.invokevirtual 77, 3) := by decide +kernel
theorem dL_law_602 : decode cL_law 602 = .ok (.if_icmp .eq 674, 3) := by decide +kernel
theorem dL_law_605 : decode cL_law 605 = .ok (.iconst 0, 1) := by decide +kernel
theorem dL_law_606 : decode cL_law 606 = .ok (.ireturn, 1) := by decide +kernel
theorem dL_law_607 : decode cL_law 607 = .ok (.aload_n 1, 1) := by decide +kernel
theorem dL_law_608 : decode cL_law 608 = .ok (.aload_n 0, 1) := by decide +kernel
theorem dL_law_609 : decode cL_law 609 = .ok (.iload_n 3, 1) := by decide +kernel
theorem dL_law_610 : decode cL_law 610 = .ok (.iconst 1, 1) := by decide +kernel
theorem dL_law_611 : decode cL_law 611 = .ok (.iadd, 1) := by decide +kernel
theorem dL_law_612 : decode cL_law 612 = .ok (.iaload, 1) := by decide +kernel
theorem dL_law_613 : decode cL_law 613 = .ok (.aload_n 0, 1) := by decide +kernel
theorem dL_law_614 : decode cL_law 614 = .ok (.iload_n 3, 1) := by decide +kernel
theorem dL_law_615 : decode cL_law 615 = .ok (.iconst 2, 1) := by decide +kernel
theorem dL_law_616 : decode cL_law 616 = .ok (.iadd, 1) := by decide +kernel
theorem dL_law_617 : decode cL_law 617 = .ok (.iaload, 1) := by decide +kernel
theorem dL_law_618 : decode cL_law 618 = .ok (.invokevirtual 78, 3) := by decide +kernel
theorem dL_law_621 : decode cL_law 621 = .ok (.aload_n 2, 1) := by decide +kernel
theorem dL_law_622 : decode cL_law 622 = .ok (.aload_n 0, 1) := by decide +kernel
theorem dL_law_623 : decode cL_law 623 = .ok (.iload_n 3, 1) := by decide +kernel
theorem dL_law_624 : decode cL_law 624 = .ok (.iconst 1, 1) := by decide +kernel
theorem dL_law_625 : decode cL_law 625 = .ok (.iadd, 1) := by decide +kernel
theorem dL_law_626 : decode cL_law 626 = .ok (.iaload, 1) := by decide +kernel
theorem dL_law_627 : decode cL_law 627 = .ok (.aload_n 0, 1) := by decide +kernel
theorem dL_law_628 : decode cL_law 628 = .ok (.iload_n 3, 1) := by decide +kernel
theorem dL_law_629 : decode cL_law 629 = .ok (.iconst 2, 1) := by decide +kernel
theorem dL_law_630 : decode cL_law 630 = .ok (.iadd, 1) := by decide +kernel
theorem dL_law_631 : decode cL_law 631 = .ok (.iaload, 1) := by decide +kernel
theorem dL_law_632 : decode cL_law 632 = .ok (.invokevirtual 81, 3) := by decide +kernel
theorem dL_law_635 : decode cL_law 635 = .ok (.if_icmp .eq 641, 3) := by decide +kernel
theorem dL_law_638 : decode cL_law 638 = .ok (.iconst 0, 1) := by decide +kernel
theorem dL_law_639 : decode cL_law 639 = .ok (.ireturn, 1) := by decide +kernel
theorem dL_law_640 : decode cL_law 640 = .ok (.aload_n 1, 1) := by decide +kernel
theorem dL_law_641 : decode cL_law 641 = .ok (.aload_n 0, 1) := by decide +kernel
theorem dL_law_642 : decode cL_law 642 = .ok (.iload_n 3, 1) := by decide +kernel
theorem dL_law_643 : decode cL_law 643 = .ok (.iconst 1, 1) := by decide +kernel
theorem dL_law_644 : decode cL_law 644 = .ok (.iadd, 1) := by decide +kernel
theorem dL_law_645 : decode cL_law 645 = .ok (.iaload, 1) := by decide +kernel
theorem dL_law_646 : decode cL_law 646 = .ok (.invokevirtual 82, 3) := by decide +kernel
theorem dL_law_649 : decode cL_law 649 = .ok (.aload_n 2, 1) := by decide +kernel
theorem dL_law_650 : decode cL_law 650 = .ok (.aload_n 0, 1) := by decide +kernel
theorem dL_law_651 : decode cL_law 651 = .ok (.iload_n 3, 1) := by decide +kernel
theorem dL_law_652 : decode cL_law 652 = .ok (.iconst 1, 1) := by decide +kernel
theorem dL_law_653 : decode cL_law 653 = .ok (.iadd, 1) := by decide +kernel
theorem dL_law_654 : decode cL_law 654 = .ok (.iaload, 1) := by decide +kernel
theorem dL_law_655 : decode cL_law 655 = .ok (.invokevirtual 85, 3) := by decide +kernel
theorem dL_law_658 : decode cL_law 658 = .ok (.if_icmp .eq 618, 3) := by decide +kernel
theorem dL_law_661 : decode cL_law 661 = .ok (.iconst 0, 1) := by decide +kernel
theorem dL_law_662 : decode cL_law 662 = .ok (.ireturn, 1) := by decide +kernel
theorem dL_law_663 : decode cL_law 663 = .ok (.aload_n 1, 1) := by decide +kernel
theorem dL_law_664 : decode cL_law 664 = .ok (.aload_n 0, 1) := by decide +kernel
theorem dL_law_665 : decode cL_law 665 = .ok (.iload_n 3, 1) := by decide +kernel
theorem dL_law_666 : decode cL_law 666 = .ok (.iconst 1, 1) := by decide +kernel
theorem dL_law_667 : decode cL_law 667 = .ok (.iadd, 1) := by decide +kernel
theorem dL_law_668 : decode cL_law 668 = .ok (.iaload, 1) := by decide +kernel
theorem dL_law_669 : decode cL_law 669 = .ok (.aload_n 0, 1) := by decide +kernel
theorem dL_law_670 : decode cL_law 670 = .ok (.iload_n 3, 1) := by decide +kernel
theorem dL_law_671 : decode cL_law 671 = .ok (.iconst 2, 1) := by decide +kernel
theorem dL_law_672 : decode cL_law 672 = .ok (.iadd, 1) := by decide +kernel
theorem dL_law_673 : decode cL_law 673 = .ok (.iaload, 1) := by decide +kernel
theorem dL_law_674 : decode cL_law 674 = .ok (.invokevirtual 86, 3) := by decide +kernel
theorem dL_law_677 : decode cL_law 677 = .ok (.aload_n 2, 1) := by decide +kernel
theorem dL_law_678 : decode cL_law 678 = .ok (.aload_n 0, 1) := by decide +kernel
theorem dL_law_679 : decode cL_law 679 = .ok (.iload_n 3, 1) := by decide +kernel
theorem dL_law_680 : decode cL_law 680 = .ok (.iconst 1, 1) := by decide +kernel
theorem dL_law_681 : decode cL_law 681 = .ok (.iadd, 1) := by decide +kernel
theorem dL_law_682 : decode cL_law 682 = .ok (.iaload, 1) := by decide +kernel
theorem dL_law_683 : decode cL_law 683 = .ok (.aload_n 0, 1) := by decide +kernel
theorem dL_law_684 : decode cL_law 684 = .ok (.iload_n 3, 1) := by decide +kernel
theorem dL_law_685 : decode cL_law 685 = .ok (.iconst 2, 1) := by decide +kernel
theorem dL_law_686 : decode cL_law 686 = .ok (.iadd, 1) := by decide +kernel
theorem dL_law_687 : decode cL_law 687 = .ok (.iaload, 1) := by decide +kernel
theorem dL_law_688 : decode cL_law 688 = .ok (.invokevirtual 89, 3) := by decide +kernel
theorem dL_law_691 : decode cL_law 691 = .ok (.if_icmp .eq 585, 3) := by decide +kernel
theorem dL_law_694 : decode cL_law 694 = .ok (.iconst 0, 1) := by decide +kernel
theorem dL_law_695 : decode cL_law 695 = .ok (.ireturn, 1) := by decide +kernel
theorem dL_law_696 : decode cL_law 696 = .ok (.aload_n 1, 1) := by decide +kernel
theorem dL_law_697 : decode cL_law 697 = .ok (.invokevirtual 90, 3) := by decide +kernel
theorem dL_law_700 : decode cL_law 700 = .ok (.aload_n 2, 1) := by decide +kernel
theorem dL_law_701 : decode cL_law 701 = .ok (.invokevirtual 93, 3) := by decide +kernel
theorem dL_law_704 : decode cL_law 704 = .ok (.if_icmp .eq 572, 3) := by decide +kernel
theorem dL_law_707 : decode cL_law 707 = .ok (.iconst 0, 1) := by decide +kernel
theorem dL_law_708 : decode cL_law 708 = .ok (.ireturn, 1) := by decide +kernel
theorem dL_law_709 : decode cL_law 709 = .ok (.aload_n 1, 1) := by decide +kernel
theorem dL_law_710 : decode cL_law 710 = .ok (.invokevirtual 94, 3) := by decide +kernel
theorem dL_law_713 : decode cL_law 713 = .ok (.aload_n 2, 1) := by decide +kernel
theorem dL_law_714 : decode cL_law 714 = .ok (.invokevirtual 97, 3) := by decide +kernel
theorem dL_law_717 : decode cL_law 717 = .ok (.if_icmp .eq 559, 3) := by decide +kernel
theorem dL_law_720 : decode cL_law 720 = .ok (.iconst 0, 1) := by decide +kernel
theorem dL_law_721 : decode cL_law 721 = .ok (.ireturn, 1) := by decide +kernel
theorem dL_law_722 : decode cL_law 722 = .ok (.aload_n 1, 1) := by decide +kernel
theorem dL_law_723 : decode cL_law 723 = .ok (.aload_n 0, 1) := by decide +kernel
theorem dL_law_724 : decode cL_law 724 = .ok (.iload_n 3, 1) := by decide +kernel
theorem dL_law_725 : decode cL_law 725 = .ok (.iconst 1, 1) := by decide +kernel
theorem dL_law_726 : decode cL_law 726 = .ok (.iadd, 1) := by decide +kernel
theorem dL_law_727 : decode cL_law 727 = .ok (.iaload, 1) := by decide +kernel
theorem dL_law_728 : decode cL_law 728 = .ok (.aload_n 0, 1) := by decide +kernel
theorem dL_law_729 : decode cL_law 729 = .ok (.iload_n 3, 1) := by decide +kernel
theorem dL_law_730 : decode cL_law 730 = .ok (.iconst 2, 1) := by decide +kernel
theorem dL_law_731 : decode cL_law 731 = .ok (.iadd, 1) := by decide +kernel
theorem dL_law_732 : decode cL_law 732 = .ok (.iaload, 1) := by decide +kernel
theorem dL_law_733 : decode cL_law 733 = .ok (.invokevirtual 98, 3) := by decide +kernel
theorem dL_law_736 : decode cL_law 736 = .ok (.aload_n 2, 1) := by decide +kernel
theorem dL_law_737 : decode cL_law 737 = .ok (.aload_n 0, 1) := by decide +kernel
theorem dL_law_738 : decode cL_law 738 = .ok (.iload_n 3, 1) := by decide +kernel
theorem dL_law_739 : decode cL_law 739 = .ok (.iconst 1, 1) := by decide +kernel
theorem dL_law_740 : decode cL_law 740 = .ok (.iadd, 1) := by decide +kernel
theorem dL_law_741 : decode cL_law 741 = .ok (.iaload, 1) := by decide +kernel
theorem dL_law_742 : decode cL_law 742 = .ok (.aload_n 0, 1) := by decide +kernel
theorem dL_law_743 : decode cL_law 743 = .ok (.iload_n 3, 1) := by decide +kernel
theorem dL_law_744 : decode cL_law 744 = .ok (.iconst 2, 1) := by decide +kernel
theorem dL_law_745 : decode cL_law 745 = .ok (.iadd, 1) := by decide +kernel
theorem dL_law_746 : decode cL_law 746 = .ok (.iaload, 1) := by decide +kernel
theorem dL_law_747 : decode cL_law 747 = .ok (.invokevirtual 101, 3) := by decide +kernel
theorem dL_law_750 : decode cL_law 750 = .ok (.if_icmp .eq 526, 3) := by decide +kernel
theorem dL_law_753 : decode cL_law 753 = .ok (.iconst 0, 1) := by decide +kernel
theorem dL_law_754 : decode cL_law 754 = .ok (.ireturn, 1) := by decide +kernel
theorem dL_law_755 : decode cL_law 755 = .ok (.aload_n 1, 1) := by decide +kernel
theorem dL_law_756 : decode cL_law 756 = .ok (.aload_n 0, 1) := by decide +kernel
theorem dL_law_757 : decode cL_law 757 = .ok (.iload_n 3, 1) := by decide +kernel
theorem dL_law_758 : decode cL_law 758 = .ok (.iconst 1, 1) := by decide +kernel
theorem dL_law_759 : decode cL_law 759 = .ok (.iadd, 1) := by decide +kernel
theorem dL_law_760 : decode cL_law 760 = .ok (.iaload, 1) := by decide +kernel
theorem dL_law_761 : decode cL_law 761 = .ok (.invokevirtual 102, 3) := by decide +kernel
theorem dL_law_764 : decode cL_law 764 = .ok (.aload_n 2, 1) := by decide +kernel
theorem dL_law_765 : decode cL_law 765 = .ok (.aload_n 0, 1) := by decide +kernel
theorem dL_law_766 : decode cL_law 766 = .ok (.iload_n 3, 1) := by decide +kernel
theorem dL_law_767 : decode cL_law 767 = .ok (.iconst 1, 1) := by decide +kernel
theorem dL_law_768 : decode cL_law 768 = .ok (.iadd, 1) := by decide +kernel
theorem dL_law_769 : decode cL_law 769 = .ok (.iaload, 1) := by decide +kernel
theorem dL_law_770 : decode cL_law 770 = .ok (.invokevirtual 105, 3) := by decide +kernel
theorem dL_law_773 : decode cL_law 773 = .ok (.if_icmp .eq 503, 3) := by decide +kernel
theorem dL_law_776 : decode cL_law 776 = .ok (.iconst 0, 1) := by decide +kernel
theorem dL_law_777 : decode cL_law 777 = .ok (.ireturn, 1) := by decide +kernel
theorem dL_law_778 : decode cL_law 778 = .ok (.aload_n 1, 1) := by decide +kernel
theorem dL_law_779 : decode cL_law 779 = .ok (.aload_n 0, 1) := by decide +kernel
theorem dL_law_780 : decode cL_law 780 = .ok (.iload_n 3, 1) := by decide +kernel
theorem dL_law_781 : decode cL_law 781 = .ok (.iconst 1, 1) := by decide +kernel
theorem dL_law_782 : decode cL_law 782 = .ok (.iadd, 1) := by decide +kernel
theorem dL_law_783 : decode cL_law 783 = .ok (.iaload, 1) := by decide +kernel
theorem dL_law_784 : decode cL_law 784 = .ok (.invokevirtual 106, 3) := by decide +kernel
theorem dL_law_787 : decode cL_law 787 = .ok (.aload_n 2, 1) := by decide +kernel
theorem dL_law_788 : decode cL_law 788 = .ok (.aload_n 0, 1) := by decide +kernel
theorem dL_law_789 : decode cL_law 789 = .ok (.iload_n 3, 1) := by decide +kernel
theorem dL_law_790 : decode cL_law 790 = .ok (.iconst 1, 1) := by decide +kernel
theorem dL_law_791 : decode cL_law 791 = .ok (.iadd, 1) := by decide +kernel
theorem dL_law_792 : decode cL_law 792 = .ok (.iaload, 1) := by decide +kernel
theorem dL_law_793 : decode cL_law 793 = .ok (.invokevirtual 109, 3) := by decide +kernel
theorem dL_law_796 : decode cL_law 796 = .ok (.if_icmp .eq 480, 3) := by decide +kernel
theorem dL_law_799 : decode cL_law 799 = .ok (.iconst 0, 1) := by decide +kernel
theorem dL_law_800 : decode cL_law 800 = .ok (.ireturn, 1) := by decide +kernel
theorem dL_law_801 : decode cL_law 801 = .ok (.aload_n 1, 1) := by decide +kernel
theorem dL_law_802 : decode cL_law 802 = .ok (.aload_n 0, 1) := by decide +kernel
theorem dL_law_803 : decode cL_law 803 = .ok (.iload_n 3, 1) := by decide +kernel
theorem dL_law_804 : decode cL_law 804 = .ok (.iconst 1, 1) := by decide +kernel
theorem dL_law_805 : decode cL_law 805 = .ok (.iadd, 1) := by decide +kernel
theorem dL_law_806 : decode cL_law 806 = .ok (.iaload, 1) := by decide +kernel
theorem dL_law_807 : decode cL_law 807 = .ok (.aload_n 0, 1) := by decide +kernel
theorem dL_law_808 : decode cL_law 808 = .ok (.iload_n 3, 1) := by decide +kernel
theorem dL_law_809 : decode cL_law 809 = .ok (.iconst 2, 1) := by decide +kernel
theorem dL_law_810 : decode cL_law 810 = .ok (.iadd, 1) := by decide +kernel
theorem dL_law_811 : decode cL_law 811 = .ok (.iaload, 1) := by decide +kernel
theorem dL_law_812 : decode cL_law 812 = .ok (.invokevirtual 110, 3) := by decide +kernel
theorem dL_law_815 : decode cL_law 815 = .ok (.aload_n 2, 1) := by decide +kernel
theorem dL_law_816 : decode cL_law 816 = .ok (.aload_n 0, 1) := by decide +kernel
theorem dL_law_817 : decode cL_law 817 = .ok (.iload_n 3, 1) := by decide +kernel
theorem dL_law_818 : decode cL_law 818 = .ok (.iconst 1, 1) := by decide +kernel
theorem dL_law_819 : decode cL_law 819 = .ok (.iadd, 1) := by decide +kernel
theorem dL_law_820 : decode cL_law 820 = .ok (.iaload, 1) := by decide +kernel
theorem dL_law_821 : decode cL_law 821 = .ok (.aload_n 0, 1) := by decide +kernel
theorem dL_law_822 : decode cL_law 822 = .ok (.iload_n 3, 1) := by decide +kernel
theorem dL_law_823 : decode cL_law 823 = .ok (.iconst 2, 1) := by decide +kernel
theorem dL_law_824 : decode cL_law 824 = .ok (.iadd, 1) := by decide +kernel
theorem dL_law_825 : decode cL_law 825 = .ok (.iaload, 1) := by decide +kernel
theorem dL_law_826 : decode cL_law 826 = .ok (.invokevirtual 113, 3) := by decide +kernel
theorem dL_law_829 : decode cL_law 829 = .ok (.if_icmp .eq 447, 3) := by decide +kernel
theorem dL_law_832 : decode cL_law 832 = .ok (.iconst 0, 1) := by decide +kernel
theorem dL_law_833 : decode cL_law 833 = .ok (.ireturn, 1) := by decide +kernel
theorem dL_law_834 : decode cL_law 834 = .ok (.aload_n 1, 1) := by decide +kernel
theorem dL_law_835 : decode cL_law 835 = .ok (.aload_n 0, 1) := by decide +kernel
theorem dL_law_836 : decode cL_law 836 = .ok (.iload_n 3, 1) := by decide +kernel
theorem dL_law_837 : decode cL_law 837 = .ok (.iconst 1, 1) := by decide +kernel
theorem dL_law_838 : decode cL_law 838 = .ok (.iadd, 1) := by decide +kernel
theorem dL_law_839 : decode cL_law 839 = .ok (.iaload, 1) := by decide +kernel
theorem dL_law_840 : decode cL_law 840 = .ok (.aload_n 0, 1) := by decide +kernel
theorem dL_law_841 : decode cL_law 841 = .ok (.iload_n 3, 1) := by decide +kernel
theorem dL_law_842 : decode cL_law 842 = .ok (.iconst 2, 1) := by decide +kernel
theorem dL_law_843 : decode cL_law 843 = .ok (.iadd, 1) := by decide +kernel
theorem dL_law_844 : decode cL_law 844 = .ok (.iaload, 1) := by decide +kernel
theorem dL_law_845 : decode cL_law 845 = .ok (.invokevirtual 114, 3) := by decide +kernel
theorem dL_law_848 : decode cL_law 848 = .ok (.aload_n 2, 1) := by decide +kernel
theorem dL_law_849 : decode cL_law 849 = .ok (.aload_n 0, 1) := by decide +kernel
theorem dL_law_850 : decode cL_law 850 = .ok (.iload_n 3, 1) := by decide +kernel
theorem dL_law_851 : decode cL_law 851 = .ok (.iconst 1, 1) := by decide +kernel
theorem dL_law_852 : decode cL_law 852 = .ok (.iadd, 1) := by decide +kernel
theorem dL_law_853 : decode cL_law 853 = .ok (.iaload, 1) := by decide +kernel
theorem dL_law_854 : decode cL_law 854 = .ok (.aload_n 0, 1) := by decide +kernel
theorem dL_law_855 : decode cL_law 855 = .ok (.iload_n 3, 1) := by decide +kernel
theorem dL_law_856 : decode cL_law 856 = .ok (.iconst 2, 1) := by decide +kernel
theorem dL_law_857 : decode cL_law 857 = .ok (.iadd, 1) := by decide +kernel
theorem dL_law_858 : decode cL_law 858 = .ok (.iaload, 1) := by decide +kernel
theorem dL_law_859 : decode cL_law 859 = .ok (.invokevirtual 117, 3) := by decide +kernel
theorem dL_law_862 : decode cL_law 862 = .ok (.if_icmp .eq 414, 3) := by decide +kernel
theorem dL_law_865 : decode cL_law 865 = .ok (.iconst 0, 1) := by decide +kernel
theorem dL_law_866 : decode cL_law 866 = .ok (.ireturn, 1) := by decide +kernel
theorem dL_law_867 : decode cL_law 867 = .ok (.aload_n 1, 1) := by decide +kernel
theorem dL_law_868 : decode cL_law 868 = .ok (.aload_n 0, 1) := by decide +kernel
theorem dL_law_869 : decode cL_law 869 = .ok (.iload_n 3, 1) := by decide +kernel
theorem dL_law_870 : decode cL_law 870 = .ok (.iconst 1, 1) := by decide +kernel
theorem dL_law_871 : decode cL_law 871 = .ok (.iadd, 1) := by decide +kernel
theorem dL_law_872 : decode cL_law 872 = .ok (.iaload, 1) := by decide +kernel
theorem dL_law_873 : decode cL_law 873 = .ok (.aload_n 0, 1) := by decide +kernel
theorem dL_law_874 : decode cL_law 874 = .ok (.iload_n 3, 1) := by decide +kernel
theorem dL_law_875 : decode cL_law 875 = .ok (.iconst 2, 1) := by decide +kernel
theorem dL_law_876 : decode cL_law 876 = .ok (.iadd, 1) := by decide +kernel
theorem dL_law_877 : decode cL_law 877 = .ok (.iaload, 1) := by decide +kernel
theorem dL_law_878 : decode cL_law 878 = .ok (.aload_n 0, 1) := by decide +kernel
theorem dL_law_879 : decode cL_law 879 = .ok (.iload_n 3, 1) := by decide +kernel
theorem dL_law_880 : decode cL_law 880 = .ok (.iconst 3, 1) := by decide +kernel
theorem dL_law_881 : decode cL_law 881 = .ok (.iadd, 1) := by decide +kernel
theorem dL_law_882 : decode cL_law 882 = .ok (.iaload, 1) := by decide +kernel
theorem dL_law_883 : decode cL_law 883 = .ok (.invokevirtual 118, 3) := by decide +kernel
theorem dL_law_886 : decode cL_law 886 = .ok (.aload_n 2, 1) := by decide +kernel
theorem dL_law_887 : decode cL_law 887 = .ok (.aload_n 0, 1) := by decide +kernel
theorem dL_law_888 : decode cL_law 888 = .ok (.iload_n 3, 1) := by decide +kernel
theorem dL_law_889 : decode cL_law 889 = .ok (.iconst 1, 1) := by decide +kernel
theorem dL_law_890 : decode cL_law 890 = .ok (.iadd, 1) := by decide +kernel
theorem dL_law_891 : decode cL_law 891 = .ok (.iaload, 1) := by decide +kernel
theorem dL_law_892 : decode cL_law 892 = .ok (.aload_n 0, 1) := by decide +kernel
theorem dL_law_893 : decode cL_law 893 = .ok (.iload_n 3, 1) := by decide +kernel
theorem dL_law_894 : decode cL_law 894 = .ok (.iconst 2, 1) := by decide +kernel
theorem dL_law_895 : decode cL_law 895 = .ok (.iadd, 1) := by decide +kernel
theorem dL_law_896 : decode cL_law 896 = .ok (.iaload, 1) := by decide +kernel
theorem dL_law_897 : decode cL_law 897 = .ok (.aload_n 0, 1) := by decide +kernel
theorem dL_law_898 : decode cL_law 898 = .ok (.iload_n 3, 1) := by decide +kernel
theorem dL_law_899 : decode cL_law 899 = .ok (.iconst 3, 1) := by decide +kernel
theorem dL_law_900 : decode cL_law 900 = .ok (.iadd, 1) := by decide +kernel
theorem dL_law_901 : decode cL_law 901 = .ok (.iaload, 1) := by decide +kernel
theorem dL_law_902 : decode cL_law 902 = .ok (.invokevirtual 121, 3) := by decide +kernel
theorem dL_law_905 : decode cL_law 905 = .ok (.if_icmp .eq 371, 3) := by decide +kernel
theorem dL_law_908 : decode cL_law 908 = .ok (.iconst 0, 1) := by decide +kernel
theorem dL_law_909 : decode cL_law 909 = .ok (.ireturn, 1) := by decide +kernel
theorem dL_law_910 : decode cL_law 910 = .ok (.aload_n 1, 1) := by decide +kernel
theorem dL_law_911 : decode cL_law 911 = .ok (.aload_n 0, 1) := by decide +kernel
theorem dL_law_912 : decode cL_law 912 = .ok (.iload_n 3, 1) := by decide +kernel
theorem dL_law_913 : decode cL_law 913 = .ok (.iconst 1, 1) := by decide +kernel
theorem dL_law_914 : decode cL_law 914 = .ok (.iadd, 1) := by decide +kernel
theorem dL_law_915 : decode cL_law 915 = .ok (.iaload, 1) := by decide +kernel
theorem dL_law_916 : decode cL_law 916 = .ok (.invokevirtual 122, 3) := by decide +kernel
theorem dL_law_919 : decode cL_law 919 = .ok (.aload_n 2, 1) := by decide +kernel
theorem dL_law_920 : decode cL_law 920 = .ok (.aload_n 0, 1) := by decide +kernel
theorem dL_law_921 : decode cL_law 921 = .ok (.iload_n 3, 1) := by decide +kernel
theorem dL_law_922 : decode cL_law 922 = .ok (.iconst 1, 1) := by decide +kernel
theorem dL_law_923 : decode cL_law 923 = .ok (.iadd, 1) := by decide +kernel
theorem dL_law_924 : decode cL_law 924 = .ok (.iaload, 1) := by decide +kernel
theorem dL_law_925 : decode cL_law 925 = .ok (.invokevirtual 125, 3) := by decide +kernel
theorem dL_law_928 : decode cL_law 928 = .ok (.if_icmp .eq 348, 3) := by decide +kernel
theorem dL_law_931 : decode cL_law 931 = .ok (.iconst 0, 1) := by decide +kernel
theorem dL_law_932 : decode cL_law 932 = .ok (.ireturn, 1) := by decide +kernel
theorem dL_law_933 : decode cL_law 933 = .ok (.aload_n 1, 1) := by decide +kernel
theorem dL_law_934 : decode cL_law 934 = .ok (.aload_n 0, 1) := by decide +kernel
theorem dL_law_935 : decode cL_law 935 = .ok (.iload_n 3, 1) := by decide +kernel
theorem dL_law_936 : decode cL_law 936 = .ok (.iconst 1, 1) := by decide +kernel
theorem dL_law_937 : decode cL_law 937 = .ok (.iadd, 1) := by decide +kernel
theorem dL_law_938 : decode cL_law 938 = .ok (.iaload, 1) := by decide +kernel
theorem dL_law_939 : decode cL_law 939 = .ok (.invokevirtual 126, 3) := by decide +kernel
theorem dL_law_942 : decode cL_law 942 = .ok (.aload_n 2, 1) := by decide +kernel
theorem dL_law_943 : decode cL_law 943 = .ok (.aload_n 0, 1) := by decide +kernel
theorem dL_law_944 : decode cL_law 944 = .ok (.iload_n 3, 1) := by decide +kernel
theorem dL_law_945 : decode cL_law 945 = .ok (.iconst 1, 1) := by decide +kernel
theorem dL_law_946 : decode cL_law 946 = .ok (.iadd, 1) := by decide +kernel
theorem dL_law_947 : decode cL_law 947 = .ok (.iaload, 1) := by decide +kernel
theorem dL_law_948 : decode cL_law 948 = .ok (.invokevirtual 129, 3) := by decide +kernel
theorem dL_law_951 : decode cL_law 951 = .ok (.if_icmp .eq 325, 3) := by decide +kernel
theorem dL_law_954 : decode cL_law 954 = .ok (.iconst 0, 1) := by decide +kernel
theorem dL_law_955 : decode cL_law 955 = .ok (.ireturn, 1) := by decide +kernel
theorem dL_law_956 : decode cL_law 956 = .ok (.aload_n 1, 1) := by decide +kernel
theorem dL_law_957 : decode cL_law 957 = .ok (.aload_n 0, 1) := by decide +kernel
theorem dL_law_958 : decode cL_law 958 = .ok (.iload_n 3, 1) := by decide +kernel
theorem dL_law_959 : decode cL_law 959 = .ok (.iconst 1, 1) := by decide +kernel
theorem dL_law_960 : decode cL_law 960 = .ok (.iadd, 1) := by decide +kernel
theorem dL_law_961 : decode cL_law 961 = .ok (.iaload, 1) := by decide +kernel
theorem dL_law_962 : decode cL_law 962 = .ok (.aload_n 0, 1) := by decide +kernel
theorem dL_law_963 : decode cL_law 963 = .ok (.iload_n 3, 1) := by decide +kernel
theorem dL_law_964 : decode cL_law 964 = .ok (.iconst 2, 1) := by decide +kernel
theorem dL_law_965 : decode cL_law 965 = .ok (.iadd, 1) := by decide +kernel
theorem dL_law_966 : decode cL_law 966 = .ok (.iaload, 1) := by decide +kernel
theorem dL_law_967 : decode cL_law 967 = .ok (.invokevirtual 130, 3) := by decide +kernel
theorem dL_law_970 : decode cL_law 970 = .ok (.aload_n 2, 1) := by decide +kernel
theorem dL_law_971 : decode cL_law 971 = .ok (.aload_n 0, 1) := by decide +kernel
theorem dL_law_972 : decode cL_law 972 = .ok (.iload_n 3, 1) := by decide +kernel
theorem dL_law_973 : decode cL_law 973 = .ok (.iconst 1, 1) := by decide +kernel
theorem dL_law_974 : decode cL_law 974 = .ok (.iadd, 1) := by decide +kernel
theorem dL_law_975 : decode cL_law 975 = .ok (.iaload, 1) := by decide +kernel
theorem dL_law_976 : decode cL_law 976 = .ok (.aload_n 0, 1) := by decide +kernel
theorem dL_law_977 : decode cL_law 977 = .ok (.iload_n 3, 1) := by decide +kernel
theorem dL_law_978 : decode cL_law 978 = .ok (.iconst 2, 1) := by decide +kernel
theorem dL_law_979 : decode cL_law 979 = .ok (.iadd, 1) := by decide +kernel
theorem dL_law_980 : decode cL_law 980 = .ok (.iaload, 1) := by decide +kernel
theorem dL_law_981 : decode cL_law 981 = .ok (.invokevirtual 133, 3) := by decide +kernel
theorem dL_law_984 : decode cL_law 984 = .ok (.if_icmp .eq 292, 3) := by decide +kernel
theorem dL_law_987 : decode cL_law 987 = .ok (.iconst 0, 1) := by decide +kernel
theorem dL_law_988 : decode cL_law 988 = .ok (.ireturn, 1) := by decide +kernel
theorem dL_law_989 : decode cL_law 989 = .ok (.aload_n 1, 1) := by decide +kernel
theorem dL_law_990 : decode cL_law 990 = .ok (.aload_n 0, 1) := by decide +kernel
theorem dL_law_991 : decode cL_law 991 = .ok (.iload_n 3, 1) := by decide +kernel
theorem dL_law_992 : decode cL_law 992 = .ok (.iconst 1, 1) := by decide +kernel
theorem dL_law_993 : decode cL_law 993 = .ok (.iadd, 1) := by decide +kernel
theorem dL_law_994 : decode cL_law 994 = .ok (.iaload, 1) := by decide +kernel
theorem dL_law_995 : decode cL_law 995 = .ok (.invokevirtual 134, 3) := by decide +kernel
theorem dL_law_998 : decode cL_law 998 = .ok (.aload_n 2, 1) := by decide +kernel
theorem dL_law_999 : decode cL_law 999 = .ok (.aload_n 0, 1) := by decide +kernel
theorem dL_law_1000 : decode cL_law 1000 = .ok (.iload_n 3, 1) := by decide +kernel
theorem dL_law_1001 : decode cL_law 1001 = .ok (.iconst 1, 1) := by decide +kernel
theorem dL_law_1002 : decode cL_law 1002 = .ok (.iadd, 1) := by decide +kernel
theorem dL_law_1003 : decode cL_law 1003 = .ok (.iaload, 1) := by decide +kernel
theorem dL_law_1004 : decode cL_law 1004 = .ok (.invokevirtual 137, 3) := by decide +kernel
theorem dL_law_1007 : decode cL_law 1007 = .ok (.if_icmp .eq 269, 3) := by decide +kernel
theorem dL_law_1010 : decode cL_law 1010 = .ok (.iconst 0, 1) := by decide +kernel
theorem dL_law_1011 : decode cL_law 1011 = .ok (.ireturn, 1) := by decide +kernel
theorem dL_law_1012 : decode cL_law 1012 = .ok (.aload_n 1, 1) := by decide +kernel
theorem dL_law_1013 : decode cL_law 1013 = .ok (.invokevirtual 138, 3) := by decide +kernel
theorem dL_law_1016 : decode cL_law 1016 = .ok (.aload_n 2, 1) := by decide +kernel
theorem dL_law_1017 : decode cL_law 1017 = .ok (.invokevirtual 141, 3) := by decide +kernel
theorem dL_law_1020 : decode cL_law 1020 = .ok (.if_icmp .eq 256, 3) := by decide +kernel
theorem dL_law_1023 : decode cL_law 1023 = .ok (.iconst 0, 1) := by decide +kernel
theorem dL_law_1024 : decode cL_law 1024 = .ok (.ireturn, 1) := by decide +kernel
theorem dL_law_1025 : decode cL_law 1025 = .ok (.aload_n 1, 1) := by decide +kernel
theorem dL_law_1026 : decode cL_law 1026 = .ok (.invokevirtual 142, 3) := by decide +kernel
theorem dL_law_1029 : decode cL_law 1029 = .ok (.aload_n 2, 1) := by decide +kernel
theorem dL_law_1030 : decode cL_law 1030 = .ok (.invokevirtual 145, 3) := by decide +kernel
theorem dL_law_1033 : decode cL_law 1033 = .ok (.if_icmp .eq 243, 3) := by decide +kernel
theorem dL_law_1036 : decode cL_law 1036 = .ok (.iconst 0, 1) := by decide +kernel
theorem dL_law_1037 : decode cL_law 1037 = .ok (.ireturn, 1) := by decide +kernel
theorem dL_law_1038 : decode cL_law 1038 = .ok (.aload_n 1, 1) := by decide +kernel
theorem dL_law_1039 : decode cL_law 1039 = .ok (.aload_n 0, 1) := by decide +kernel
theorem dL_law_1040 : decode cL_law 1040 = .ok (.iload_n 3, 1) := by decide +kernel
theorem dL_law_1041 : decode cL_law 1041 = .ok (.iconst 1, 1) := by decide +kernel
theorem dL_law_1042 : decode cL_law 1042 = .ok (.iadd, 1) := by decide +kernel
theorem dL_law_1043 : decode cL_law 1043 = .ok (.iaload, 1) := by decide +kernel
theorem dL_law_1044 : decode cL_law 1044 = .ok (.invokevirtual 146, 3) := by decide +kernel
theorem dL_law_1047 : decode cL_law 1047 = .ok (.aload_n 2, 1) := by decide +kernel
theorem dL_law_1048 : decode cL_law 1048 = .ok (.aload_n 0, 1) := by decide +kernel
theorem dL_law_1049 : decode cL_law 1049 = .ok (.iload_n 3, 1) := by decide +kernel
theorem dL_law_1050 : decode cL_law 1050 = .ok (.iconst 1, 1) := by decide +kernel
theorem dL_law_1051 : decode cL_law 1051 = .ok (.iadd, 1) := by decide +kernel
theorem dL_law_1052 : decode cL_law 1052 = .ok (.iaload, 1) := by decide +kernel
theorem dL_law_1053 : decode cL_law 1053 = .ok (.invokevirtual 149, 3) := by decide +kernel
theorem dL_law_1056 : decode cL_law 1056 = .ok (.if_icmp .eq 220, 3) := by decide +kernel
theorem dL_law_1059 : decode cL_law 1059 = .ok (.iconst 0, 1) := by decide +kernel
theorem dL_law_1060 : decode cL_law 1060 = .ok (.ireturn, 1) := by decide +kernel
theorem dL_law_1061 : decode cL_law 1061 = .ok (.aload_n 1, 1) := by decide +kernel
theorem dL_law_1062 : decode cL_law 1062 = .ok (.aload_n 0, 1) := by decide +kernel
theorem dL_law_1063 : decode cL_law 1063 = .ok (.iload_n 3, 1) := by decide +kernel
theorem dL_law_1064 : decode cL_law 1064 = .ok (.iconst 1, 1) := by decide +kernel
theorem dL_law_1065 : decode cL_law 1065 = .ok (.iadd, 1) := by decide +kernel
theorem dL_law_1066 : decode cL_law 1066 = .ok (.iaload, 1) := by decide +kernel
theorem dL_law_1067 : decode cL_law 1067 = .ok (.aload_n 0, 1) := by decide +kernel
theorem dL_law_1068 : decode cL_law 1068 = .ok (.iload_n 3, 1) := by decide +kernel
theorem dL_law_1069 : decode cL_law 1069 = .ok (.iconst 2, 1) := by decide +kernel
theorem dL_law_1070 : decode cL_law 1070 = .ok (.iadd, 1) := by decide +kernel
theorem dL_law_1071 : decode cL_law 1071 = .ok (.iaload, 1) := by decide +kernel
theorem dL_law_1072 : decode cL_law 1072 = .ok (.invokevirtual 150, 3) := by decide +kernel
theorem dL_law_1075 : decode cL_law 1075 = .ok (.aload_n 2, 1) := by decide +kernel
theorem dL_law_1076 : decode cL_law 1076 = .ok (.aload_n 0, 1) := by decide +kernel
theorem dL_law_1077 : decode cL_law 1077 = .ok (.iload_n 3, 1) := by decide +kernel
theorem dL_law_1078 : decode cL_law 1078 = .ok (.iconst 1, 1) := by decide +kernel
theorem dL_law_1079 : decode cL_law 1079 = .ok (.iadd, 1) := by decide +kernel
theorem dL_law_1080 : decode cL_law 1080 = .ok (.iaload, 1) := by decide +kernel
theorem dL_law_1081 : decode cL_law 1081 = .ok (.aload_n 0, 1) := by decide +kernel
theorem dL_law_1082 : decode cL_law 1082 = .ok (.iload_n 3, 1) := by decide +kernel
theorem dL_law_1083 : decode cL_law 1083 = .ok (.iconst 2, 1) := by decide +kernel
theorem dL_law_1084 : decode cL_law 1084 = .ok (.iadd, 1) := by decide +kernel
theorem dL_law_1085 : decode cL_law 1085 = .ok (.iaload, 1) := by decide +kernel
theorem dL_law_1086 : decode cL_law 1086 = .ok (.invokevirtual 154, 3) := by decide +kernel
theorem dL_law_1089 : decode cL_law 1089 = .ok (.lcmp, 1) := by decide +kernel
theorem dL_law_1090 : decode cL_law 1090 = .ok (.ifCond .eq 186, 3) := by decide +kernel
theorem dL_law_1093 : decode cL_law 1093 = .ok (.iconst 0, 1) := by decide +kernel
theorem dL_law_1094 : decode cL_law 1094 = .ok (.ireturn, 1) := by decide +kernel
theorem dL_law_1095 : decode cL_law 1095 = .ok (.aload_n 1, 1) := by decide +kernel
theorem dL_law_1096 : decode cL_law 1096 = .ok (.aload_n 0, 1) := by decide +kernel
theorem dL_law_1097 : decode cL_law 1097 = .ok (.iload_n 3, 1) := by decide +kernel
theorem dL_law_1098 : decode cL_law 1098 = .ok (.iconst 1, 1) := by decide +kernel
theorem dL_law_1099 : decode cL_law 1099 = .ok (.iadd, 1) := by decide +kernel
theorem dL_law_1100 : decode cL_law 1100 = .ok (.iaload, 1) := by decide +kernel
theorem dL_law_1101 : decode cL_law 1101 = .ok (.aload_n 0, 1) := by decide +kernel
theorem dL_law_1102 : decode cL_law 1102 = .ok (.iload_n 3, 1) := by decide +kernel
theorem dL_law_1103 : decode cL_law 1103 = .ok (.iconst 2, 1) := by decide +kernel
theorem dL_law_1104 : decode cL_law 1104 = .ok (.iadd, 1) := by decide +kernel
theorem dL_law_1105 : decode cL_law 1105 = .ok (.iaload, 1) := by decide +kernel
theorem dL_law_1106 : decode cL_law 1106 = .ok (.invokevirtual 155, 3) := by decide +kernel
theorem dL_law_1109 : decode cL_law 1109 = .ok (.aload_n 2, 1) := by decide +kernel
theorem dL_law_1110 : decode cL_law 1110 = .ok (.aload_n 0, 1) := by decide +kernel
theorem dL_law_1111 : decode cL_law 1111 = .ok (.iload_n 3, 1) := by decide +kernel
theorem dL_law_1112 : decode cL_law 1112 = .ok (.iconst 1, 1) := by decide +kernel
theorem dL_law_1113 : decode cL_law 1113 = .ok (.iadd, 1) := by decide +kernel
theorem dL_law_1114 : decode cL_law 1114 = .ok (.iaload, 1) := by decide +kernel
theorem dL_law_1115 : decode cL_law 1115 = .ok (.aload_n 0, 1) := by decide +kernel
theorem dL_law_1116 : decode cL_law 1116 = .ok (.iload_n 3, 1) := by decide +kernel
theorem dL_law_1117 : decode cL_law 1117 = .ok (.iconst 2, 1) := by decide +kernel
theorem dL_law_1118 : decode cL_law 1118 = .ok (.iadd, 1) := by decide +kernel
theorem dL_law_1119 : decode cL_law 1119 = .ok (.iaload, 1) := by decide +kernel
theorem dL_law_1120 : decode cL_law 1120 = .ok (.invokevirtual 158, 3) := by decide +kernel
theorem dL_law_1123 : decode cL_law 1123 = .ok (.if_icmp .eq 153, 3) := by decide +kernel
theorem dL_law_1126 : decode cL_law 1126 = .ok (.iconst 0, 1) := by decide +kernel
theorem dL_law_1127 : decode cL_law 1127 = .ok (.ireturn, 1) := by decide +kernel
theorem dL_law_1128 : decode cL_law 1128 = .ok (.aload_n 1, 1) := by decide +kernel
theorem dL_law_1129 : decode cL_law 1129 = .ok (.aload_n 0, 1) := by decide +kernel
theorem dL_law_1130 : decode cL_law 1130 = .ok (.iload_n 3, 1) := by decide +kernel
theorem dL_law_1131 : decode cL_law 1131 = .ok (.iconst 1, 1) := by decide +kernel
theorem dL_law_1132 : decode cL_law 1132 = .ok (.iadd, 1) := by decide +kernel
theorem dL_law_1133 : decode cL_law 1133 = .ok (.iaload, 1) := by decide +kernel
theorem dL_law_1134 : decode cL_law 1134 = .ok (.aload_n 0, 1) := by decide +kernel
theorem dL_law_1135 : decode cL_law 1135 = .ok (.iload_n 3, 1) := by decide +kernel
theorem dL_law_1136 : decode cL_law 1136 = .ok (.iconst 2, 1) := by decide +kernel
theorem dL_law_1137 : decode cL_law 1137 = .ok (.iadd, 1) := by decide +kernel
theorem dL_law_1138 : decode cL_law 1138 = .ok (.iaload, 1) := by decide +kernel
theorem dL_law_1139 : decode cL_law 1139 = .ok (.invokevirtual 159, 3) := by decide +kernel
theorem dL_law_1142 : decode cL_law 1142 = .ok (.aload_n 2, 1) := by decide +kernel
theorem dL_law_1143 : decode cL_law 1143 = .ok (.aload_n 0, 1) := by decide +kernel
theorem dL_law_1144 : decode cL_law 1144 = .ok (.iload_n 3, 1) := by decide +kernel
theorem dL_law_1145 : decode cL_law 1145 = .ok (.iconst 1, 1) := by decide +kernel
theorem dL_law_1146 : decode cL_law 1146 = .ok (.iadd, 1) := by decide +kernel
theorem dL_law_1147 : decode cL_law 1147 = .ok (.iaload, 1) := by decide +kernel
theorem dL_law_1148 : decode cL_law 1148 = .ok (.aload_n 0, 1) := by decide +kernel
theorem dL_law_1149 : decode cL_law 1149 = .ok (.iload_n 3, 1) := by decide +kernel
theorem dL_law_1150 : decode cL_law 1150 = .ok (.iconst 2, 1) := by decide +kernel
theorem dL_law_1151 : decode cL_law 1151 = .ok (.iadd, 1) := by decide +kernel
theorem dL_law_1152 : decode cL_law 1152 = .ok (.iaload, 1) := by decide +kernel
theorem dL_law_1153 : decode cL_law 1153 = .ok (.invokevirtual 162, 3) := by decide +kernel
theorem dL_law_1156 : decode cL_law 1156 = .ok (.if_icmp .eq 120, 3) := by decide +kernel
theorem dL_law_1159 : decode cL_law 1159 = .ok (.iconst 0, 1) := by decide +kernel
theorem dL_law_1160 : decode cL_law 1160 = .ok (.ireturn, 1) := by decide +kernel
theorem dL_law_1161 : decode cL_law 1161 = .ok (.aload_n 1, 1) := by decide +kernel
theorem dL_law_1162 : decode cL_law 1162 = .ok (.aload_n 0, 1) := by decide +kernel
theorem dL_law_1163 : decode cL_law 1163 = .ok (.iload_n 3, 1) := by decide +kernel
theorem dL_law_1164 : decode cL_law 1164 = .ok (.iconst 1, 1) := by decide +kernel
theorem dL_law_1165 : decode cL_law 1165 = .ok (.iadd, 1) := by decide +kernel
theorem dL_law_1166 : decode cL_law 1166 = .ok (.iaload, 1) := by decide +kernel
theorem dL_law_1167 : decode cL_law 1167 = .ok (.aload_n 0, 1) := by decide +kernel
theorem dL_law_1168 : decode cL_law 1168 = .ok (.iload_n 3, 1) := by decide +kernel
theorem dL_law_1169 : decode cL_law 1169 = .ok (.iconst 2, 1) := by decide +kernel
theorem dL_law_1170 : decode cL_law 1170 = .ok (.iadd, 1) := by decide +kernel
theorem dL_law_1171 : decode cL_law 1171 = .ok (.iaload, 1) := by decide +kernel
theorem dL_law_1172 : decode cL_law 1172 = .ok (.invokevirtual 163, 3) := by decide +kernel
theorem dL_law_1175 : decode cL_law 1175 = .ok (.aload_n 2, 1) := by decide +kernel
theorem dL_law_1176 : decode cL_law 1176 = .ok (.aload_n 0, 1) := by decide +kernel
theorem dL_law_1177 : decode cL_law 1177 = .ok (.iload_n 3, 1) := by decide +kernel
theorem dL_law_1178 : decode cL_law 1178 = .ok (.iconst 1, 1) := by decide +kernel
theorem dL_law_1179 : decode cL_law 1179 = .ok (.iadd, 1) := by decide +kernel
theorem dL_law_1180 : decode cL_law 1180 = .ok (.iaload, 1) := by decide +kernel
theorem dL_law_1181 : decode cL_law 1181 = .ok (.aload_n 0, 1) := by decide +kernel
theorem dL_law_1182 : decode cL_law 1182 = .ok (.iload_n 3, 1) := by decide +kernel
theorem dL_law_1183 : decode cL_law 1183 = .ok (.iconst 2, 1) := by decide +kernel
theorem dL_law_1184 : decode cL_law 1184 = .ok (.iadd, 1) := by decide +kernel
theorem dL_law_1185 : decode cL_law 1185 = .ok (.iaload, 1) := by decide +kernel
theorem dL_law_1186 : decode cL_law 1186 = .ok (.invokevirtual 166, 3) := by decide +kernel
theorem dL_law_1189 : decode cL_law 1189 = .ok (.if_icmp .eq 87, 3) := by decide +kernel
theorem dL_law_1192 : decode cL_law 1192 = .ok (.iconst 0, 1) := by decide +kernel
theorem dL_law_1193 : decode cL_law 1193 = .ok (.ireturn, 1) := by decide +kernel
theorem dL_law_1194 : decode cL_law 1194 = .ok (.aload_n 1, 1) := by decide +kernel
theorem dL_law_1195 : decode cL_law 1195 = .ok (.aload_n 0, 1) := by decide +kernel
theorem dL_law_1196 : decode cL_law 1196 = .ok (.iload_n 3, 1) := by decide +kernel
theorem dL_law_1197 : decode cL_law 1197 = .ok (.iconst 1, 1) := by decide +kernel
theorem dL_law_1198 : decode cL_law 1198 = .ok (.iadd, 1) := by decide +kernel
theorem dL_law_1199 : decode cL_law 1199 = .ok (.iaload, 1) := by decide +kernel
theorem dL_law_1200 : decode cL_law 1200 = .ok (.invokevirtual 167, 3) := by decide +kernel
theorem dL_law_1203 : decode cL_law 1203 = .ok (.aload_n 2, 1) := by decide +kernel
theorem dL_law_1204 : decode cL_law 1204 = .ok (.aload_n 0, 1) := by decide +kernel
theorem dL_law_1205 : decode cL_law 1205 = .ok (.iload_n 3, 1) := by decide +kernel
theorem dL_law_1206 : decode cL_law 1206 = .ok (.iconst 1, 1) := by decide +kernel
theorem dL_law_1207 : decode cL_law 1207 = .ok (.iadd, 1) := by decide +kernel
theorem dL_law_1208 : decode cL_law 1208 = .ok (.iaload, 1) := by decide +kernel
theorem dL_law_1209 : decode cL_law 1209 = .ok (.invokevirtual 170, 3) := by decide +kernel
theorem dL_law_1212 : decode cL_law 1212 = .ok (.if_icmp .eq 64, 3) := by decide +kernel
theorem dL_law_1215 : decode cL_law 1215 = .ok (.iconst 0, 1) := by decide +kernel
theorem dL_law_1216 : decode cL_law 1216 = .ok (.ireturn, 1) := by decide +kernel
theorem dL_law_1217 : decode cL_law 1217 = .ok (.aload_n 1, 1) := by decide +kernel
theorem dL_law_1218 : decode cL_law 1218 = .ok (.aload_n 0, 1) := by decide +kernel
theorem dL_law_1219 : decode cL_law 1219 = .ok (.iload_n 3, 1) := by decide +kernel
theorem dL_law_1220 : decode cL_law 1220 = .ok (.iconst 1, 1) := by decide +kernel
theorem dL_law_1221 : decode cL_law 1221 = .ok (.iadd, 1) := by decide +kernel
theorem dL_law_1222 : decode cL_law 1222 = .ok (.iaload, 1) := by decide +kernel
theorem dL_law_1223 : decode cL_law 1223 = .ok (.invokevirtual 171, 3) := by decide +kernel
theorem dL_law_1226 : decode cL_law 1226 = .ok (.aload_n 2, 1) := by decide +kernel
theorem dL_law_1227 : decode cL_law 1227 = .ok (.aload_n 0, 1) := by decide +kernel
theorem dL_law_1228 : decode cL_law 1228 = .ok (.iload_n 3, 1) := by decide +kernel
theorem dL_law_1229 : decode cL_law 1229 = .ok (.iconst 1, 1) := by decide +kernel
theorem dL_law_1230 : decode cL_law 1230 = .ok (.iadd, 1) := by decide +kernel
theorem dL_law_1231 : decode cL_law 1231 = .ok (.iaload, 1) := by decide +kernel
theorem dL_law_1232 : decode cL_law 1232 = .ok (.invokevirtual 174, 3) := by decide +kernel
theorem dL_law_1235 : decode cL_law 1235 = .ok (.if_icmp .eq 41, 3) := by decide +kernel
theorem dL_law_1238 : decode cL_law 1238 = .ok (.iconst 0, 1) := by decide +kernel
theorem dL_law_1239 : decode cL_law 1239 = .ok (.ireturn, 1) := by decide +kernel
theorem dL_law_1240 : decode cL_law 1240 = .ok (.aload_n 1, 1) := by decide +kernel
theorem dL_law_1241 : decode cL_law 1241 = .ok (.aload_n 0, 1) := by decide +kernel
theorem dL_law_1242 : decode cL_law 1242 = .ok (.iload_n 3, 1) := by decide +kernel
theorem dL_law_1243 : decode cL_law 1243 = .ok (.iconst 1, 1) := by decide +kernel
theorem dL_law_1244 : decode cL_law 1244 = .ok (.iadd, 1) := by decide +kernel
theorem dL_law_1245 : decode cL_law 1245 = .ok (.iaload, 1) := by decide +kernel
theorem dL_law_1246 : decode cL_law 1246 = .ok (.invokevirtual 175, 3) := by decide +kernel
theorem dL_law_1249 : decode cL_law 1249 = .ok (.aload_n 2, 1) := by decide +kernel
theorem dL_law_1250 : decode cL_law 1250 = .ok (.aload_n 0, 1) := by decide +kernel
theorem dL_law_1251 : decode cL_law 1251 = .ok (.iload_n 3, 1) := by decide +kernel
theorem dL_law_1252 : decode cL_law 1252 = .ok (.iconst 1, 1) := by decide +kernel
theorem dL_law_1253 : decode cL_law 1253 = .ok (.iadd, 1) := by decide +kernel
theorem dL_law_1254 : decode cL_law 1254 = .ok (.iaload, 1) := by decide +kernel
theorem dL_law_1255 : decode cL_law 1255 = .ok (.invokevirtual 178, 3) := by decide +kernel
theorem dL_law_1258 : decode cL_law 1258 = .ok (.if_icmp .eq 18, 3) := by decide +kernel
theorem dL_law_1261 : decode cL_law 1261 = .ok (.iconst 0, 1) := by decide +kernel
theorem dL_law_1262 : decode cL_law 1262 = .ok (.ireturn, 1) := by decide +kernel
theorem dL_law_1263 : decode cL_law 1263 = .ok (.aload_n 1, 1) := by decide +kernel
theorem dL_law_1264 : decode cL_law 1264 = .ok (.invokevirtual 179, 3) := by decide +kernel
theorem dL_law_1267 : decode cL_law 1267 = .ok (.aload_n 2, 1) := by decide +kernel
theorem dL_law_1268 : decode cL_law 1268 = .ok (.invokevirtual 182, 3) := by decide +kernel
theorem dL_law_1271 : decode cL_law 1271 = .ok (.if_icmp .eq 5, 3) := by decide +kernel
theorem dL_law_1274 : decode cL_law 1274 = .ok (.iconst 0, 1) := by decide +kernel
theorem dL_law_1275 : decode cL_law 1275 = .ok (.ireturn, 1) := by decide +kernel
theorem dL_law_1276 : decode cL_law 1276 = .ok (.iinc 3 6, 3) := by decide +kernel
theorem dL_law_1279 : decode cL_law 1279 = .ok (.goto (-1261), 3) := by decide +kernel
theorem dL_law_1282 : decode cL_law 1282 = .ok (.iconst 1, 1) := by decide +kernel
theorem dL_law_1283 : decode cL_law 1283 = .ok (.ireturn, 1) := by decide +kernel
