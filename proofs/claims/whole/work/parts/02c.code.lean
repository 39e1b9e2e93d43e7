theorem dX10_law_118 : decode cX10_law 118 = .ok (.invokevirtual 110, 3) := by decide +kernel
theorem dX10_law_121 : decode cX10_law 121 = .ok (.ireturn, 1) := by decide +kernel
theorem dX10_orders_0 : decode cX10_orders 0 = .ok (.aload_n 0, 1) := by decide +kernel
theorem dX10_orders_1 : decode cX10_orders 1 = .ok (.getfield 79, 3) := by decide +kernel
theorem dX10_orders_4 : decode cX10_orders 4 = .ok (.aload_n 0, 1) := by decide +kernel
theorem dX10_orders_5 : decode cX10_orders 5 = .ok (.getfield 9, 3) := by decide +kernel
theorem dX10_orders_8 : decode cX10_orders 8 = .ok (.aload_n 0, 1) := by decide +kernel
theorem dX10_orders_9 : decode cX10_orders 9 = .ok (.getfield 201, 3) := by decide +kernel
theorem dX10_orders_12 : decode cX10_orders 12 = .ok (.iconst 0, 1) := by decide +kernel
theorem dX10_orders_13 : decode cX10_orders 13 = .ok (.invokevirtual 220, 3) := by decide +kernel
theorem dX10_orders_16 : decode cX10_orders 16 = .ok (.istore_n 1, 1) := by decide +kernel
theorem dX10_orders_17 : decode cX10_orders 17 = .ok (.aload_n 0, 1) := by decide +kernel
theorem dX10_orders_18 : decode cX10_orders 18 = .ok (.iconst 0, 1) := by decide +kernel
theorem dX10_orders_19 : decode cX10_orders 19 = .ok (.putfield 201, 3) := by decide +kernel
theorem dX10_orders_22 : decode cX10_orders 22 = .ok (.aload_n 0, 1) := by decide +kernel
theorem dX10_orders_23 : decode cX10_orders 23 = .ok (.iload_n 1, 1) := by decide +kernel
theorem dX10_orders_24 : decode cX10_orders 24 = .ok (.ifCond .eq 7, 3) := by decide +kernel
theorem dX10_orders_27 : decode cX10_orders 27 = .ok (.iconst (-1), 1) := by decide +kernel
theorem dX10_orders_28 : decode cX10_orders 28 = .ok (.goto 10, 3) := by decide +kernel
theorem dX10_orders_31 : decode cX10_orders 31 = .ok (.aload_n 0, 1) := by decide +kernel
theorem dX10_orders_32 : decode cX10_orders 32 = .ok (.getfield 79, 3) := by decide +kernel
theorem dX10_orders_35 : decode cX10_orders 35 = .ok (.invokevirtual 224, 3) := by decide +kernel
theorem dX10_orders_38 : decode cX10_orders 38 = .ok (.putfield 86, 3) := by decide +kernel
theorem dX10_orders_41 : decode cX10_orders 41 = .ok (.aload_n 0, 1) := by decide +kernel
theorem dX10_orders_42 : decode cX10_orders 42 = .ok (.iconst (-1), 1) := by decide +kernel
theorem dX10_orders_43 : decode cX10_orders 43 = .ok (.putfield 90, 3) := by decide +kernel
theorem dX10_orders_46 : decode cX10_orders 46 = .ok (.iload_n 1, 1) := by decide +kernel
theorem dX10_orders_47 : decode cX10_orders 47 = .ok (.ifCond .ne 10, 3) := by decide +kernel
theorem dX10_orders_50 : decode cX10_orders 50 = .ok (.aload_n 0, 1) := by decide +kernel
theorem dX10_orders_51 : decode cX10_orders 51 = .ok (.bipush (-6), 2) := by decide +kernel
theorem dX10_orders_53 : decode cX10_orders 53 = .ok (.invokevirtual 96, 3) := by decide +kernel
theorem dX10_orders_56 : decode cX10_orders 56 = .ok (.ireturn, 1) := by decide +kernel
theorem dX10_orders_57 : decode cX10_orders 57 = .ok (.aload_n 0, 1) := by decide +kernel
theorem dX10_orders_58 : decode cX10_orders 58 = .ok (.getfield 37, 3) := by decide +kernel
theorem dX10_orders_61 : decode cX10_orders 61 = .ok (.aload_n 0, 1) := by decide +kernel
theorem dX10_orders_62 : decode cX10_orders 62 = .ok (.getfield 16, 3) := by decide +kernel
theorem dX10_orders_65 : decode cX10_orders 65 = .ok (.getfield 120, 3) := by decide +kernel
theorem dX10_orders_68 : decode cX10_orders 68 = .ok (.invokevirtual 176, 3) := by decide +kernel
theorem dX10_orders_71 : decode cX10_orders 71 = .ok (.aload_n 0, 1) := by decide +kernel
theorem dX10_orders_72 : decode cX10_orders 72 = .ok (.getfield 31, 3) := by decide +kernel
theorem dX10_orders_75 : decode cX10_orders 75 = .ok (.aload_n 0, 1) := by decide +kernel
theorem dX10_orders_76 : decode cX10_orders 76 = .ok (.getfield 27, 3) := by decide +kernel
theorem dX10_orders_79 : decode cX10_orders 79 = .ok (.invokevirtual 241, 3) := by decide +kernel
theorem dX10_orders_82 : decode cX10_orders 82 = .ok (.aload_n 0, 1) := by decide +kernel
theorem dX10_orders_83 : decode cX10_orders 83 = .ok (.iconst 0, 1) := by decide +kernel
theorem dX10_orders_84 : decode cX10_orders 84 = .ok (.putfield 244, 3) := by decide +kernel
theorem dX10_orders_87 : decode cX10_orders 87 = .ok (.aload_n 0, 1) := by decide +kernel
theorem dX10_orders_88 : decode cX10_orders 88 = .ok (.iconst (-1), 1) := by decide +kernel
theorem dX10_orders_89 : decode cX10_orders 89 = .ok (.putfield 93, 3) := by decide +kernel
theorem dX10_orders_92 : decode cX10_orders 92 = .ok (.aload_n 0, 1) := by decide +kernel
theorem dX10_orders_93 : decode cX10_orders 93 = .ok (.getfield 79, 3) := by decide +kernel
theorem dX10_orders_96 : decode cX10_orders 96 = .ok (.getfield 232, 3) := by decide +kernel
theorem dX10_orders_99 : decode cX10_orders 99 = .ok (.astore_n 2, 1) := by decide +kernel
theorem dX10_orders_100 : decode cX10_orders 100 = .ok (.iconst 0, 1) := by decide +kernel
theorem dX10_orders_101 : decode cX10_orders 101 = .ok (.istore_n 3, 1) := by decide +kernel
theorem dX10_orders_102 : decode cX10_orders 102 = .ok (.iload_n 3, 1) := by decide +kernel
theorem dX10_orders_103 : decode cX10_orders 103 = .ok (.aload_n 2, 1) := by decide +kernel
theorem dX10_orders_104 : decode cX10_orders 104 = .ok (.getfield 247, 3) := by decide +kernel
theorem dX10_orders_107 : decode cX10_orders 107 = .ok (.if_icmp .ge 55, 3) := by decide +kernel
theorem dX10_orders_110 : decode cX10_orders 110 = .ok (.aload_n 0, 1) := by decide +kernel
theorem dX10_orders_111 : decode cX10_orders 111 = .ok (.aload_n 2, 1) := by decide +kernel
theorem dX10_orders_112 : decode cX10_orders 112 = .ok (.iload_n 3, 1) := by decide +kernel
theorem dX10_orders_113 : decode cX10_orders 113 = .ok (.invokevirtual 250, 3) := by decide +kernel
theorem dX10_orders_116 : decode cX10_orders 116 = .ok (.ifCond .ne 40, 3) := by decide +kernel
theorem dX10_orders_119 : decode cX10_orders 119 = .ok (.aload_n 0, 1) := by decide +kernel
theorem dX10_orders_120 : decode cX10_orders 120 = .ok (.getfield 16, 3) := by decide +kernel
theorem dX10_orders_123 : decode cX10_orders 123 = .ok (.getfield 120, 3) := by decide +kernel
theorem dX10_orders_126 : decode cX10_orders 126 = .ok (.aload_n 0, 1) := by decide +kernel
theorem dX10_orders_127 : decode cX10_orders 127 = .ok (.getfield 37, 3) := by decide +kernel
theorem dX10_orders_130 : decode cX10_orders 130 = .ok (.invokevirtual 176, 3) := by decide +kernel
theorem dX10_orders_133 : decode cX10_orders 133 = .ok (.aload_n 0, 1) := by decide +kernel
theorem dX10_orders_134 : decode cX10_orders 134 = .ok (.getfield 27, 3) := by decide +kernel
theorem dX10_orders_137 : decode cX10_orders 137 = .ok (.aload_n 0, 1) := by decide +kernel
theorem dX10_orders_138 : decode cX10_orders 138 = .ok (.getfield 31, 3) := by decide +kernel
theorem dX10_orders_141 : decode cX10_orders 141 = .ok (.invokevirtual 241, 3) := by decide +kernel
theorem dX10_orders_144 : decode cX10_orders 144 = .ok (.aload_n 0, 1) := by decide +kernel
theorem dX10_orders_145 : decode cX10_orders 145 = .ok (.iload_n 3, 1) := by decide +kernel
theorem dX10_orders_146 : decode cX10_orders 146 = .ok (.putfield 90, 3) := by decide +kernel
theorem dX10_orders_149 : decode cX10_orders 149 = .ok (.aload_n 0, 1) := by decide +kernel
theorem dX10_orders_150 : decode cX10_orders 150 = .ok (.bipush (-3), 2) := by decide +kernel
theorem dX10_orders_152 : decode cX10_orders 152 = .ok (.invokevirtual 96, 3) := by decide +kernel
theorem dX10_orders_155 : decode cX10_orders 155 = .ok (.ireturn, 1) := by decide +kernel
theorem dX10_orders_156 : decode cX10_orders 156 = .ok (.iinc 3 1, 3) := by decide +kernel
theorem dX10_orders_159 : decode cX10_orders 159 = .ok (.goto (-57), 3) := by decide +kernel
theorem dX10_orders_162 : decode cX10_orders 162 = .ok (.aload_n 0, 1) := by decide +kernel
theorem dX10_orders_163 : decode cX10_orders 163 = .ok (.aload_n 0, 1) := by decide +kernel
theorem dX10_orders_164 : decode cX10_orders 164 = .ok (.getfield 244, 3) := by decide +kernel
theorem dX10_orders_167 : decode cX10_orders 167 = .ok (.invokevirtual 110, 3) := by decide +kernel
theorem dX10_orders_170 : decode cX10_orders 170 = .ok (.ireturn, 1) := by decide +kernel
theorem dX10_runClause_0 : decode cX10_runClause 0 = .ok (.aload_n 1, 1) := by decide +kernel
theorem dX10_runClause_1 : decode cX10_runClause 1 = .ok (.iload_n 2, 1) := by decide +kernel
theorem dX10_runClause_2 : decode cX10_runClause 2 = .ok (.iconst 1, 1) := by decide +kernel
theorem dX10_runClause_3 : decode cX10_runClause 3 = .ok (.invokevirtual 254, 3) := by decide +kernel
theorem dX10_runClause_6 : decode cX10_runClause 6 = .ok (.istore_n 3, 1) := by decide +kernel
theorem dX10_runClause_7 : decode cX10_runClause 7 = .ok (.aload_n 1, 1) := by decide +kernel
theorem dX10_runClause_8 : decode cX10_runClause 8 = .ok (.iload_n 2, 1) := by decide +kernel
theorem dX10_runClause_9 : decode cX10_runClause 9 = .ok (.iconst 2, 1) := by decide +kernel
theorem dX10_runClause_10 : decode cX10_runClause 10 = .ok (.invokevirtual 254, 3) := by decide +kernel
theorem dX10_runClause_13 : decode cX10_runClause 13 = .ok (.istore 4, 2) := by decide +kernel
theorem dX10_runClause_15 : decode cX10_runClause 15 = .ok (.aload_n 1, 1) := by decide +kernel
theorem dX10_runClause_16 : decode cX10_runClause 16 = .ok (.iload_n 2, 1) := by decide +kernel
theorem dX10_runClause_17 : decode cX10_runClause 17 = .ok (.iconst 3, 1) := by decide +kernel
theorem dX10_runClause_18 : decode cX10_runClause 18 = .ok (.invokevirtual 254, 3) := by decide +kernel
theorem dX10_runClause_21 : decode cX10_runClause 21 = .ok (.istore 5, 2) := by decide +kernel
theorem dX10_runClause_23 : decode cX10_runClause 23 = .ok (.aload_n 1, 1) := by decide +kernel
theorem dX10_runClause_24 : decode cX10_runClause 24 = .ok (.iload_n 2, 1) := by decide +kernel
theorem dX10_runClause_25 : decode cX10_runClause 25 = .ok (.iconst 4, 1) := by decide +kernel
theorem dX10_runClause_26 : decode cX10_runClause 26 = .ok (.invokevirtual 254, 3) := by decide +kernel
theorem dX10_runClause_29 : decode cX10_runClause 29 = .ok (.istore 6, 2) := by decide +kernel
theorem dX10_runClause_31 : decode cX10_runClause 31 = .ok (.aload_n 1, 1) := by decide +kernel
theorem dX10_runClause_32 : decode cX10_runClause 32 = .ok (.iload_n 2, 1) := by decide +kernel
theorem dX10_runClause_33 : decode cX10_runClause 33 = .ok (.iconst 5, 1) := by decide +kernel
theorem dX10_runClause_34 : decode cX10_runClause 34 = .ok (.invokevirtual 254, 3) := by decide +kernel
theorem dX10_runClause_37 : decode cX10_runClause 37 = .ok (.istore 7, 2) := by decide +kernel
theorem dX10_runClause_39 : decode cX10_runClause 39 = .ok (.iconst 0, 1) := by decide +kernel
theorem dX10_runClause_40 : decode cX10_runClause 40 = .ok (.istore 8, 2) := by decide +kernel
theorem dX10_runClause_42 : decode cX10_runClause 42 = .ok (.iload 8, 2) := by decide +kernel
theorem dX10_runClause_44 : decode cX10_runClause 44 = .ok (.iload_n 3, 1) := by decide +kernel
theorem dX10_runClause_45 : decode cX10_runClause 45 = .ok (.if_icmp .ge 163, 3) := by decide +kernel
theorem dX10_runClause_48 : decode cX10_runClause 48 = .ok (.aload_n 0, 1) := by decide +kernel
theorem dX10_runClause_49 : decode cX10_runClause 49 = .ok (.invokevirtual 257, 3) := by decide +kernel
theorem dX10_runClause_52 : decode cX10_runClause 52 = .ok (.iload 6, 2) := by decide +kernel
theorem dX10_runClause_54 : decode cX10_runClause 54 = .ok (.iload 7, 2) := by decide +kernel
theorem dX10_runClause_56 : decode cX10_runClause 56 = .ok (.if_icmp .ge 34, 3) := by decide +kernel
theorem dX10_runClause_59 : decode cX10_runClause 59 = .ok (.aload_n 0, 1) := by decide +kernel
theorem dX10_runClause_60 : decode cX10_runClause 60 = .ok (.getfield 54, 3) := by decide +kernel
theorem dX10_runClause_63 : decode cX10_runClause 63 = .ok (.aload_n 1, 1) := by decide +kernel
theorem dX10_runClause_64 : decode cX10_runClause 64 = .ok (.getfield 260, 3) := by decide +kernel
theorem dX10_runClause_67 : decode cX10_runClause 67 = .ok (.iload 6, 2) := by decide +kernel
theorem dX10_runClause_69 : decode cX10_runClause 69 = .ok (.iload 7, 2) := by decide +kernel
theorem dX10_runClause_71 : decode cX10_runClause 71 = .ok (.invokevirtual 263, 3) := by decide +kernel
theorem dX10_runClause_74 : decode cX10_runClause 74 = .ok (.ifCond .eq 128, 3) := by decide +kernel
theorem dX10_runClause_77 : decode cX10_runClause 77 = .ok (.aload_n 0, 1) := by decide +kernel
theorem dX10_runClause_78 : decode cX10_runClause 78 = .ok (.getfield 54, 3) := by decide +kernel
theorem dX10_runClause_81 : decode cX10_runClause 81 = .ok (.getfield 267, 3) := by decide +kernel
theorem dX10_runClause_84 : decode cX10_runClause 84 = .ok (.ifCond .ne 6, 3) := by decide +kernel
theorem dX10_runClause_87 : decode cX10_runClause 87 = .ok (.goto 115, 3) := by decide +kernel
theorem dX10_runClause_90 : decode cX10_runClause 90 = .ok (.aload_n 0, 1) := by decide +kernel
theorem dX10_runClause_91 : decode cX10_runClause 91 = .ok (.getfield 54, 3) := by decide +kernel
theorem dX10_runClause_94 : decode cX10_runClause 94 = .ok (.aload_n 1, 1) := by decide +kernel
theorem dX10_runClause_95 : decode cX10_runClause 95 = .ok (.getfield 260, 3) := by decide +kernel
theorem dX10_runClause_98 : decode cX10_runClause 98 = .ok (.iload 4, 2) := by decide +kernel
theorem dX10_runClause_100 : decode cX10_runClause 100 = .ok (.iload 5, 2) := by decide +kernel
theorem dX10_runClause_102 : decode cX10_runClause 102 = .ok (.invokevirtual 263, 3) := by decide +kernel
theorem dX10_runClause_105 : decode cX10_runClause 105 = .ok (.ifCond .ne 5, 3) := by decide +kernel
theorem dX10_runClause_108 : decode cX10_runClause 108 = .ok (.iconst 0, 1) := by decide +kernel
theorem dX10_runClause_109 : decode cX10_runClause 109 = .ok (.ireturn, 1) := by decide +kernel
theorem dX10_runClause_110 : decode cX10_runClause 110 = .ok (.aload_n 0, 1) := by decide +kernel
theorem dX10_runClause_111 : decode cX10_runClause 111 = .ok (.getfield 54, 3) := by decide +kernel
theorem dX10_runClause_114 : decode cX10_runClause 114 = .ok (.getfield 267, 3) := by decide +kernel
theorem dX10_runClause_117 : decode cX10_runClause 117 = .ok (.istore 9, 2) := by decide +kernel
theorem dX10_runClause_119 : decode cX10_runClause 119 = .ok (.aload_n 0, 1) := by decide +kernel
theorem dX10_runClause_120 : decode cX10_runClause 120 = .ok (.getfield 54, 3) := by decide +kernel
theorem dX10_runClause_123 : decode cX10_runClause 123 = .ok (.aload_n 1, 1) := by decide +kernel
theorem dX10_runClause_124 : decode cX10_runClause 124 = .ok (.getfield 260, 3) := by decide +kernel
theorem dX10_runClause_127 : decode cX10_runClause 127 = .ok (.iload 5, 2) := by decide +kernel
theorem dX10_runClause_129 : decode cX10_runClause 129 = .ok (.iload 6, 2) := by decide +kernel
theorem dX10_runClause_131 : decode cX10_runClause 131 = .ok (.invokevirtual 263, 3) := by decide +kernel
theorem dX10_runClause_134 : decode cX10_runClause 134 = .ok (.ifCond .ne 5, 3) := by decide +kernel
theorem dX10_runClause_137 : decode cX10_runClause 137 = .ok (.iconst 0, 1) := by decide +kernel
theorem dX10_runClause_138 : decode cX10_runClause 138 = .ok (.ireturn, 1) := by decide +kernel
theorem dX10_runClause_139 : decode cX10_runClause 139 = .ok (.aload_n 0, 1) := by decide +kernel
theorem dX10_runClause_140 : decode cX10_runClause 140 = .ok (.aload_n 1, 1) := by decide +kernel
theorem dX10_runClause_141 : decode cX10_runClause 141 = .ok (.iload_n 2, 1) := by decide +kernel
theorem dX10_runClause_142 : decode cX10_runClause 142 = .ok (.iconst 0, 1) := by decide +kernel
theorem dX10_runClause_143 : decode cX10_runClause 143 = .ok (.invokevirtual 254, 3) := by decide +kernel
theorem dX10_runClause_146 : decode cX10_runClause 146 = .ok (.iload 9, 2) := by decide +kernel
theorem dX10_runClause_148 : decode cX10_runClause 148 = .ok (.aload_n 0, 1) := by decide +kernel
theorem dX10_runClause_149 : decode cX10_runClause 149 = .ok (.getfield 54, 3) := by decide +kernel
theorem dX10_runClause_152 : decode cX10_runClause 152 = .ok (.getfield 267, 3) := by decide +kernel
theorem dX10_runClause_155 : decode cX10_runClause 155 = .ok (.invokevirtual 270, 3) := by decide +kernel
theorem dX10_runClause_158 : decode cX10_runClause 158 = .ok (.istore 10, 2) := by decide +kernel
theorem dX10_runClause_160 : decode cX10_runClause 160 = .ok (.iload 10, 2) := by decide +kernel
theorem dX10_runClause_162 : decode cX10_runClause 162 = .ok (.ifCond .ge 5, 3) := by decide +kernel
theorem dX10_runClause_165 : decode cX10_runClause 165 = .ok (.iconst 0, 1) := by decide +kernel
theorem dX10_runClause_166 : decode cX10_runClause 166 = .ok (.ireturn, 1) := by decide +kernel
theorem dX10_runClause_167 : decode cX10_runClause 167 = .ok (.aload_n 0, 1) := by decide +kernel
theorem dX10_runClause_168 : decode cX10_runClause 168 = .ok (.aload_n 1, 1) := by decide +kernel
theorem dX10_runClause_169 : decode cX10_runClause 169 = .ok (.iload_n 2, 1) := by decide +kernel
theorem dX10_runClause_170 : decode cX10_runClause 170 = .ok (.iconst 0, 1) := by decide +kernel
theorem dX10_runClause_171 : decode cX10_runClause 171 = .ok (.invokevirtual 254, 3) := by decide +kernel
theorem dX10_runClause_174 : decode cX10_runClause 174 = .ok (.sipush 267, 3) := by decide +kernel
theorem dX10_runClause_177 : decode cX10_runClause 177 = .ok (.if_icmp .ne 8, 3) := by decide +kernel
theorem dX10_runClause_180 : decode cX10_runClause 180 = .ok (.iload 10, 2) := by decide +kernel
theorem dX10_runClause_182 : decode cX10_runClause 182 = .ok (.goto 7, 3) := by decide +kernel
theorem dX10_runClause_185 : decode cX10_runClause 185 = .ok (.aload_n 0, 1) := by decide +kernel
theorem dX10_runClause_186 : decode cX10_runClause 186 = .ok (.getfield 93, 3) := by decide +kernel
theorem dX10_runClause_189 : decode cX10_runClause 189 = .ok (.putfield 93, 3) := by decide +kernel
theorem dX10_runClause_192 : decode cX10_runClause 192 = .ok (.aload_n 0, 1) := by decide +kernel
theorem dX10_runClause_193 : decode cX10_runClause 193 = .ok (.dup, 1) := by decide +kernel
theorem dX10_runClause_194 : decode cX10_runClause 194 = .ok (.getfield 244, 3) := by decide +kernel
theorem dX10_runClause_197 : decode cX10_runClause 197 = .ok (.iconst 1, 1) := by decide +kernel
theorem dX10_runClause_198 : decode cX10_runClause 198 = .ok (.iadd, 1) := by decide +kernel
theorem dX10_runClause_199 : decode cX10_runClause 199 = .ok (.putfield 244, 3) := by decide +kernel
theorem dX10_runClause_202 : decode cX10_runClause 202 = .ok (.iinc 8 1, 3) := by decide +kernel
theorem dX10_runClause_205 : decode cX10_runClause 205 = .ok (.goto (-163), 3) := by decide +kernel
theorem dX10_runClause_208 : decode cX10_runClause 208 = .ok (.iconst 1, 1) := by decide +kernel
theorem dX10_runClause_209 : decode cX10_runClause 209 = .ok (.ireturn, 1) := by decide +kernel
theorem dX10_tellOrders_0 : decode cX10_tellOrders 0 = .ok (.aload_n 0, 1) := by decide +kernel
theorem dX10_tellOrders_1 : decode cX10_tellOrders 1 = .ok (.getfield 54, 3) := by decide +kernel
theorem dX10_tellOrders_4 : decode cX10_tellOrders 4 = .ok (.getfield 274, 3) := by decide +kernel
theorem dX10_tellOrders_7 : decode cX10_tellOrders 7 = .ok (.astore_n 1, 1) := by decide +kernel
theorem dX10_tellOrders_8 : decode cX10_tellOrders 8 = .ok (.aload_n 1, 1) := by decide +kernel
theorem dX10_tellOrders_9 : decode cX10_tellOrders 9 = .ok (.bipush 7, 2) := by decide +kernel
theorem dX10_tellOrders_11 : decode cX10_tellOrders 11 = .ok (.aload_n 0, 1) := by decide +kernel
theorem dX10_tellOrders_12 : decode cX10_tellOrders 12 = .ok (.getfield 16, 3) := by decide +kernel
theorem dX10_tellOrders_15 : decode cX10_tellOrders 15 = .ok (.getfield 120, 3) := by decide +kernel
theorem dX10_tellOrders_18 : decode cX10_tellOrders 18 = .ok (.getfield 189, 3) := by decide +kernel
theorem dX10_tellOrders_21 : decode cX10_tellOrders 21 = .ok (.iastore, 1) := by decide +kernel
theorem dX10_tellOrders_22 : decode cX10_tellOrders 22 = .ok (.aload_n 1, 1) := by decide +kernel
theorem dX10_tellOrders_23 : decode cX10_tellOrders 23 = .ok (.bipush 6, 2) := by decide +kernel
theorem dX10_tellOrders_25 : decode cX10_tellOrders 25 = .ok (.aload_n 0, 1) := by decide +kernel
theorem dX10_tellOrders_26 : decode cX10_tellOrders 26 = .ok (.getfield 16, 3) := by decide +kernel
theorem dX10_tellOrders_29 : decode cX10_tellOrders 29 = .ok (.getfield 120, 3) := by decide +kernel
theorem dX10_tellOrders_32 : decode cX10_tellOrders 32 = .ok (.getfield 277, 3) := by decide +kernel
theorem dX10_tellOrders_35 : decode cX10_tellOrders 35 = .ok (.iastore, 1) := by decide +kernel
theorem dX10_tellOrders_36 : decode cX10_tellOrders 36 = .ok (.aload_n 1, 1) := by decide +kernel
theorem dX10_tellOrders_37 : decode cX10_tellOrders 37 = .ok (.bipush 9, 2) := by decide +kernel
theorem dX10_tellOrders_39 : decode cX10_tellOrders 39 = .ok (.aload_n 0, 1) := by decide +kernel
theorem dX10_tellOrders_40 : decode cX10_tellOrders 40 = .ok (.getfield 244, 3) := by decide +kernel
theorem dX10_tellOrders_43 : decode cX10_tellOrders 43 = .ok (.iastore, 1) := by decide +kernel
theorem dX10_tellOrders_44 : decode cX10_tellOrders 44 = .ok (.aload_n 1, 1) := by decide +kernel
theorem dX10_tellOrders_45 : decode cX10_tellOrders 45 = .ok (.bipush 10, 2) := by decide +kernel
theorem dX10_tellOrders_47 : decode cX10_tellOrders 47 = .ok (.aload_n 0, 1) := by decide +kernel
theorem dX10_tellOrders_48 : decode cX10_tellOrders 48 = .ok (.getfield 93, 3) := by decide +kernel
theorem dX10_tellOrders_51 : decode cX10_tellOrders 51 = .ok (.iastore, 1) := by decide +kernel
theorem dX10_tellOrders_52 : decode cX10_tellOrders 52 = .ok (.aload_n 1, 1) := by decide +kernel
theorem dX10_tellOrders_53 : decode cX10_tellOrders 53 = .ok (.bipush 11, 2) := by decide +kernel
theorem dX10_tellOrders_55 : decode cX10_tellOrders 55 = .ok (.aload_n 0, 1) := by decide +kernel
theorem dX10_tellOrders_56 : decode cX10_tellOrders 56 = .ok (.getfield 63, 3) := by decide +kernel
theorem dX10_tellOrders_59 : decode cX10_tellOrders 59 = .ok (.aload_n 0, 1) := by decide +kernel
theorem dX10_tellOrders_60 : decode cX10_tellOrders 60 = .ok (.getfield 16, 3) := by decide +kernel
theorem dX10_tellOrders_63 : decode cX10_tellOrders 63 = .ok (.getfield 120, 3) := by decide +kernel
theorem dX10_tellOrders_66 : decode cX10_tellOrders 66 = .ok (.invokevirtual 280, 3) := by decide +kernel
theorem dX10_tellOrders_69 : decode cX10_tellOrders 69 = .ok (.invokestatic 284, 3) := by decide +kernel
theorem dX10_tellOrders_72 : decode cX10_tellOrders 72 = .ok (.iastore, 1) := by decide +kernel
theorem dX10_tellOrders_73 : decode cX10_tellOrders 73 = .ok (.iconst 0, 1) := by decide +kernel
theorem dX10_tellOrders_74 : decode cX10_tellOrders 74 = .ok (.istore_n 2, 1) := by decide +kernel
theorem dX10_tellOrders_75 : decode cX10_tellOrders 75 = .ok (.iload_n 2, 1) := by decide +kernel
theorem dX10_tellOrders_76 : decode cX10_tellOrders 76 = .ok (.bipush 6, 2) := by decide +kernel
theorem dX10_tellOrders_78 : decode cX10_tellOrders 78 = .ok (.if_icmp .ge 42, 3) := by decide +kernel
theorem dX10_tellOrders_81 : decode cX10_tellOrders 81 = .ok (.aload_n 1, 1) := by decide +kernel
theorem dX10_tellOrders_82 : decode cX10_tellOrders 82 = .ok (.bipush 12, 2) := by decide +kernel
theorem dX10_tellOrders_84 : decode cX10_tellOrders 84 = .ok (.iload_n 2, 1) := by decide +kernel
theorem dX10_tellOrders_85 : decode cX10_tellOrders 85 = .ok (.iadd, 1) := by decide +kernel
theorem dX10_tellOrders_86 : decode cX10_tellOrders 86 = .ok (.iload_n 2, 1) := by decide +kernel
theorem dX10_tellOrders_87 : decode cX10_tellOrders 87 = .ok (.aload_n 0, 1) := by decide +kernel
theorem dX10_tellOrders_88 : decode cX10_tellOrders 88 = .ok (.getfield 16, 3) := by decide +kernel
theorem dX10_tellOrders_91 : decode cX10_tellOrders 91 = .ok (.getfield 148, 3) := by decide +kernel
theorem dX10_tellOrders_94 : decode cX10_tellOrders 94 = .ok (.if_icmp .ge 18, 3) := by decide +kernel
theorem dX10_tellOrders_97 : decode cX10_tellOrders 97 = .ok (.aload_n 0, 1) := by decide +kernel
theorem dX10_tellOrders_98 : decode cX10_tellOrders 98 = .ok (.getfield 16, 3) := by decide +kernel
theorem dX10_tellOrders_101 : decode cX10_tellOrders 101 = .ok (.getfield 120, 3) := by decide +kernel
theorem dX10_tellOrders_104 : decode cX10_tellOrders 104 = .ok (.getfield 160, 3) := by decide +kernel
theorem dX10_tellOrders_107 : decode cX10_tellOrders 107 = .ok (.iload_n 2, 1) := by decide +kernel
theorem dX10_tellOrders_108 : decode cX10_tellOrders 108 = .ok (.iaload, 1) := by decide +kernel
theorem dX10_tellOrders_109 : decode cX10_tellOrders 109 = .ok (.goto 4, 3) := by decide +kernel
theorem dX10_tellOrders_112 : decode cX10_tellOrders 112 = .ok (.iconst (-1), 1) := by decide +kernel
theorem dX10_tellOrders_113 : decode cX10_tellOrders 113 = .ok (.iastore, 1) := by decide +kernel
theorem dX10_tellOrders_114 : decode cX10_tellOrders 114 = .ok (.iinc 2 1, 3) := by decide +kernel
theorem dX10_tellOrders_117 : decode cX10_tellOrders 117 = .ok (.goto (-42), 3) := by decide +kernel
theorem dX10_tellOrders_120 : decode cX10_tellOrders 120 = .ok (.iconst 0, 1) := by decide +kernel
theorem dX10_tellOrders_121 : decode cX10_tellOrders 121 = .ok (.istore_n 2, 1) := by decide +kernel
theorem dX10_tellOrders_122 : decode cX10_tellOrders 122 = .ok (.iload_n 2, 1) := by decide +kernel
theorem dX10_tellOrders_123 : decode cX10_tellOrders 123 = .ok (.bipush 7, 2) := by decide +kernel
theorem dX10_tellOrders_125 : decode cX10_tellOrders 125 = .ok (.if_icmp .ge 42, 3) := by decide +kernel
theorem dX10_tellOrders_128 : decode cX10_tellOrders 128 = .ok (.aload_n 1, 1) := by decide +kernel
theorem dX10_tellOrders_129 : decode cX10_tellOrders 129 = .ok (.bipush 18, 2) := by decide +kernel
theorem dX10_tellOrders_131 : decode cX10_tellOrders 131 = .ok (.iload_n 2, 1) := by decide +kernel
theorem dX10_tellOrders_132 : decode cX10_tellOrders 132 = .ok (.iadd, 1) := by decide +kernel
theorem dX10_tellOrders_133 : decode cX10_tellOrders 133 = .ok (.iload_n 2, 1) := by decide +kernel
theorem dX10_tellOrders_134 : decode cX10_tellOrders 134 = .ok (.aload_n 0, 1) := by decide +kernel
theorem dX10_tellOrders_135 : decode cX10_tellOrders 135 = .ok (.getfield 16, 3) := by decide +kernel
theorem dX10_tellOrders_138 : decode cX10_tellOrders 138 = .ok (.getfield 100, 3) := by decide +kernel
theorem dX10_tellOrders_141 : decode cX10_tellOrders 141 = .ok (.if_icmp .ge 18, 3) := by decide +kernel
theorem dX10_tellOrders_144 : decode cX10_tellOrders 144 = .ok (.aload_n 0, 1) := by decide +kernel
theorem dX10_tellOrders_145 : decode cX10_tellOrders 145 = .ok (.getfield 16, 3) := by decide +kernel
theorem dX10_tellOrders_148 : decode cX10_tellOrders 148 = .ok (.getfield 120, 3) := by decide +kernel
theorem dX10_tellOrders_151 : decode cX10_tellOrders 151 = .ok (.getfield 123, 3) := by decide +kernel
theorem dX10_tellOrders_154 : decode cX10_tellOrders 154 = .ok (.iload_n 2, 1) := by decide +kernel
theorem dX10_tellOrders_155 : decode cX10_tellOrders 155 = .ok (.iaload, 1) := by decide +kernel
theorem dX10_tellOrders_156 : decode cX10_tellOrders 156 = .ok (.goto 4, 3) := by decide +kernel
theorem dX10_tellOrders_159 : decode cX10_tellOrders 159 = .ok (.iconst (-1), 1) := by decide +kernel
theorem dX10_tellOrders_160 : decode cX10_tellOrders 160 = .ok (.iastore, 1) := by decide +kernel
theorem dX10_tellOrders_161 : decode cX10_tellOrders 161 = .ok (.iinc 2 1, 3) := by decide +kernel
theorem dX10_tellOrders_164 : decode cX10_tellOrders 164 = .ok (.goto (-42), 3) := by decide +kernel
theorem dX10_tellOrders_167 : decode cX10_tellOrders 167 = .ok (.return_, 1) := by decide +kernel
theorem dX10_fault_0 : decode cX10_fault 0 = .ok (.aload_n 0, 1) := by decide +kernel
theorem dX10_fault_1 : decode cX10_fault 1 = .ok (.getfield 86, 3) := by decide +kernel
theorem dX10_fault_4 : decode cX10_fault 4 = .ok (.ireturn, 1) := by decide +kernel
theorem dX10_stopped_0 : decode cX10_stopped 0 = .ok (.aload_n 0, 1) := by decide +kernel
theorem dX10_stopped_1 : decode cX10_stopped 1 = .ok (.getfield 90, 3) := by decide +kernel
theorem dX10_stopped_4 : decode cX10_stopped 4 = .ok (.ireturn, 1) := by decide +kernel
theorem dX10_force_0 : decode cX10_force 0 = .ok (.iload_n 1, 1) := by decide +kernel
theorem dX10_force_1 : decode cX10_force 1 = .ok (.iconst (-1), 1) := by decide +kernel
theorem dX10_force_2 : decode cX10_force 2 = .ok (.if_icmp .eq 21, 3) := by decide +kernel
theorem dX10_force_5 : decode cX10_force 5 = .ok (.aload_n 0, 1) := by decide +kernel
theorem dX10_force_6 : decode cX10_force 6 = .ok (.getfield 16, 3) := by decide +kernel
theorem dX10_force_9 : decode cX10_force 9 = .ok (.iload_n 1, 1) := by decide +kernel
theorem dX10_force_10 : decode cX10_force 10 = .ok (.invokevirtual 289, 3) := by decide +kernel
theorem dX10_force_13 : decode cX10_force 13 = .ok (.ifCond .ne 10, 3) := by decide +kernel
theorem dX10_force_16 : decode cX10_force 16 = .ok (.aload_n 0, 1) := by decide +kernel
theorem dX10_force_17 : decode cX10_force 17 = .ok (.bipush (-2), 2) := by decide +kernel
theorem dX10_force_19 : decode cX10_force 19 = .ok (.invokevirtual 96, 3) := by decide +kernel
theorem dX10_force_22 : decode cX10_force 22 = .ok (.ireturn, 1) := by decide +kernel
theorem dX10_force_23 : decode cX10_force 23 = .ok (.aload_n 0, 1) := by decide +kernel
theorem dX10_force_24 : decode cX10_force 24 = .ok (.getfield 16, 3) := by decide +kernel
theorem dX10_force_27 : decode cX10_force 27 = .ok (.getfield 292, 3) := by decide +kernel
theorem dX10_force_30 : decode cX10_force 30 = .ok (.istore_n 2, 1) := by decide +kernel
theorem dX10_force_31 : decode cX10_force 31 = .ok (.aload_n 0, 1) := by decide +kernel
theorem dX10_force_32 : decode cX10_force 32 = .ok (.getfield 16, 3) := by decide +kernel
theorem dX10_force_35 : decode cX10_force 35 = .ok (.iload_n 1, 1) := by decide +kernel
theorem dX10_force_36 : decode cX10_force 36 = .ok (.putfield 292, 3) := by decide +kernel
theorem dX10_force_39 : decode cX10_force 39 = .ok (.aload_n 0, 1) := by decide +kernel
theorem dX10_force_40 : decode cX10_force 40 = .ok (.iload_n 2, 1) := by decide +kernel
theorem dX10_force_41 : decode cX10_force 41 = .ok (.invokevirtual 110, 3) := by decide +kernel
theorem dX10_force_44 : decode cX10_force 44 = .ok (.ireturn, 1) := by decide +kernel
theorem dX10_act_0 : decode cX10_act 0 = .ok (.aload_n 0, 1) := by decide +kernel
theorem dX10_act_1 : decode cX10_act 1 = .ok (.getfield 27, 3) := by decide +kernel
theorem dX10_act_4 : decode cX10_act 4 = .ok (.aload_n 0, 1) := by decide +kernel
theorem dX10_act_5 : decode cX10_act 5 = .ok (.getfield 16, 3) := by decide +kernel
theorem dX10_act_8 : decode cX10_act 8 = .ok (.getfield 120, 3) := by decide +kernel
theorem dX10_act_11 : decode cX10_act 11 = .ok (.invokevirtual 295, 3) := by decide +kernel
theorem dX10_act_14 : decode cX10_act 14 = .ok (.iload_n 1, 1) := by decide +kernel
theorem dX10_act_15 : decode cX10_act 15 = .ok (.tableswitch 87 266 268 #[25, 46, 66], 25) := by decide +kernel
theorem dX10_act_40 : decode cX10_act 40 = .ok (.aload_n 0, 1) := by decide +kernel
theorem dX10_act_41 : decode cX10_act 41 = .ok (.getfield 63, 3) := by decide +kernel
theorem dX10_act_44 : decode cX10_act 44 = .ok (.aload_n 0, 1) := by decide +kernel
theorem dX10_act_45 : decode cX10_act 45 = .ok (.getfield 16, 3) := by decide +kernel
theorem dX10_act_48 : decode cX10_act 48 = .ok (.getfield 120, 3) := by decide +kernel
theorem dX10_act_51 : decode cX10_act 51 = .ok (.iload_n 2, 1) := by decide +kernel
theorem dX10_act_52 : decode cX10_act 52 = .ok (.iload_n 3, 1) := by decide +kernel
theorem dX10_act_53 : decode cX10_act 53 = .ok (.invokevirtual 298, 3) := by decide +kernel
theorem dX10_act_56 : decode cX10_act 56 = .ok (.istore 4, 2) := by decide +kernel
theorem dX10_act_58 : decode cX10_act 58 = .ok (.goto 60, 3) := by decide +kernel
theorem dX10_act_61 : decode cX10_act 61 = .ok (.aload_n 0, 1) := by decide +kernel
theorem dX10_act_62 : decode cX10_act 62 = .ok (.getfield 63, 3) := by decide +kernel
theorem dX10_act_65 : decode cX10_act 65 = .ok (.aload_n 0, 1) := by decide +kernel
theorem dX10_act_66 : decode cX10_act 66 = .ok (.getfield 16, 3) := by decide +kernel
theorem dX10_act_69 : decode cX10_act 69 = .ok (.getfield 120, 3) := by decide +kernel
theorem dX10_act_72 : decode cX10_act 72 = .ok (.iload_n 2, 1) := by decide +kernel
theorem dX10_act_73 : decode cX10_act 73 = .ok (.invokevirtual 180, 3) := by decide +kernel
theorem dX10_act_76 : decode cX10_act 76 = .ok (.istore 4, 2) := by decide +kernel
theorem dX10_act_78 : decode cX10_act 78 = .ok (.goto 40, 3) := by decide +kernel
theorem dX10_act_81 : decode cX10_act 81 = .ok (.aload_n 0, 1) := by decide +kernel
theorem dX10_act_82 : decode cX10_act 82 = .ok (.getfield 63, 3) := by decide +kernel
theorem dX10_act_85 : decode cX10_act 85 = .ok (.aload_n 0, 1) := by decide +kernel
theorem dX10_act_86 : decode cX10_act 86 = .ok (.getfield 16, 3) := by decide +kernel
theorem dX10_act_89 : decode cX10_act 89 = .ok (.getfield 120, 3) := by decide +kernel
theorem dX10_act_92 : decode cX10_act 92 = .ok (.iload_n 2, 1) := by decide +kernel
theorem dX10_act_93 : decode cX10_act 93 = .ok (.iload_n 3, 1) := by decide +kernel
theorem dX10_act_94 : decode cX10_act 94 = .ok (.invokevirtual 301, 3) := by decide +kernel
theorem dX10_act_97 : decode cX10_act 97 = .ok (.istore 4, 2) := by decide +kernel
theorem dX10_act_99 : decode cX10_act 99 = .ok (.goto 19, 3) := by decide +kernel
theorem dX10_act_102 : decode cX10_act 102 = .ok (.aload_n 0, 1) := by decide +kernel
theorem dX10_act_103 : decode cX10_act 103 = .ok (.getfield 63, 3) := by decide +kernel
theorem dX10_act_106 : decode cX10_act 106 = .ok (.aload_n 0, 1) := by decide +kernel
theorem dX10_act_107 : decode cX10_act 107 = .ok (.getfield 16, 3) := by decide +kernel
theorem dX10_act_110 : decode cX10_act 110 = .ok (.getfield 120, 3) := by decide +kernel
theorem dX10_act_113 : decode cX10_act 113 = .ok (.invokevirtual 304, 3) := by decide +kernel
theorem dX10_act_116 : decode cX10_act 116 = .ok (.istore 4, 2) := by decide +kernel
theorem dX10_act_118 : decode cX10_act 118 = .ok (.iload 4, 2) := by decide +kernel
theorem dX10_act_120 : decode cX10_act 120 = .ok (.ifCond .lt 15, 3) := by decide +kernel
theorem dX10_act_123 : decode cX10_act 123 = .ok (.aload_n 0, 1) := by decide +kernel
theorem dX10_act_124 : decode cX10_act 124 = .ok (.getfield 27, 3) := by decide +kernel
theorem dX10_act_127 : decode cX10_act 127 = .ok (.iload_n 1, 1) := by decide +kernel
theorem dX10_act_128 : decode cX10_act 128 = .ok (.sipush 266, 3) := by decide +kernel
theorem dX10_act_131 : decode cX10_act 131 = .ok (.isub, 1) := by decide +kernel
theorem dX10_act_132 : decode cX10_act 132 = .ok (.invokevirtual 307, 3) := by decide +kernel
theorem dX10_act_135 : decode cX10_act 135 = .ok (.iload 4, 2) := by decide +kernel
theorem dX10_act_137 : decode cX10_act 137 = .ok (.ireturn, 1) := by decide +kernel
theorem dX10_move_0 : decode cX10_move 0 = .ok (.aload_n 0, 1) := by decide +kernel
theorem dX10_move_1 : decode cX10_move 1 = .ok (.aload_n 0, 1) := by decide +kernel
theorem dX10_move_2 : decode cX10_move 2 = .ok (.sipush 266, 3) := by decide +kernel
theorem dX10_move_5 : decode cX10_move 5 = .ok (.iload_n 1, 1) := by decide +kernel
theorem dX10_move_6 : decode cX10_move 6 = .ok (.iload_n 2, 1) := by decide +kernel
theorem dX10_move_7 : decode cX10_move 7 = .ok (.invokevirtual 270, 3) := by decide +kernel
theorem dX10_move_10 : decode cX10_move 10 = .ok (.invokevirtual 310, 3) := by decide +kernel
theorem dX10_move_13 : decode cX10_move 13 = .ok (.ireturn, 1) := by decide +kernel
theorem dX10_divide_0 : decode cX10_divide 0 = .ok (.aload_n 0, 1) := by decide +kernel
theorem dX10_divide_1 : decode cX10_divide 1 = .ok (.aload_n 0, 1) := by decide +kernel
theorem dX10_divide_2 : decode cX10_divide 2 = .ok (.sipush 267, 3) := by decide +kernel
theorem dX10_divide_5 : decode cX10_divide 5 = .ok (.iload_n 1, 1) := by decide +kernel
theorem dX10_divide_6 : decode cX10_divide 6 = .ok (.iconst (-1), 1) := by decide +kernel
theorem dX10_divide_7 : decode cX10_divide 7 = .ok (.invokevirtual 270, 3) := by decide +kernel
theorem dX10_divide_10 : decode cX10_divide 10 = .ok (.invokevirtual 310, 3) := by decide +kernel
theorem dX10_divide_13 : decode cX10_divide 13 = .ok (.ireturn, 1) := by decide +kernel
theorem dX10_fly_0 : decode cX10_fly 0 = .ok (.aload_n 0, 1) := by decide +kernel
theorem dX10_fly_1 : decode cX10_fly 1 = .ok (.aload_n 0, 1) := by decide +kernel
theorem dX10_fly_2 : decode cX10_fly 2 = .ok (.sipush 268, 3) := by decide +kernel
theorem dX10_fly_5 : decode cX10_fly 5 = .ok (.iload_n 1, 1) := by decide +kernel
theorem dX10_fly_6 : decode cX10_fly 6 = .ok (.iload_n 2, 1) := by decide +kernel
theorem dX10_fly_7 : decode cX10_fly 7 = .ok (.invokevirtual 270, 3) := by decide +kernel
theorem dX10_fly_10 : decode cX10_fly 10 = .ok (.invokevirtual 310, 3) := by decide +kernel
theorem dX10_fly_13 : decode cX10_fly 13 = .ok (.ireturn, 1) := by decide +kernel
theorem dX10_pass_0 : decode cX10_pass 0 = .ok (.aload_n 0, 1) := by decide +kernel
theorem dX10_pass_1 : decode cX10_pass 1 = .ok (.aload_n 0, 1) := by decide +kernel
theorem dX10_pass_2 : decode cX10_pass 2 = .ok (.sipush 269, 3) := by decide +kernel
theorem dX10_pass_5 : decode cX10_pass 5 = .ok (.iconst (-1), 1) := by decide +kernel
theorem dX10_pass_6 : decode cX10_pass 6 = .ok (.iconst (-1), 1) := by decide +kernel
theorem dX10_pass_7 : decode cX10_pass 7 = .ok (.invokevirtual 270, 3) := by decide +kernel
theorem dX10_pass_10 : decode cX10_pass 10 = .ok (.invokevirtual 310, 3) := by decide +kernel
theorem dX10_pass_13 : decode cX10_pass 13 = .ok (.ireturn, 1) := by decide +kernel
theorem dX10_undo_0 : decode cX10_undo 0 = .ok (.aload_n 0, 1) := by decide +kernel
theorem dX10_undo_1 : decode cX10_undo 1 = .ok (.getfield 27, 3) := by decide +kernel
theorem dX10_undo_4 : decode cX10_undo 4 = .ok (.aload_n 0, 1) := by decide +kernel
theorem dX10_undo_5 : decode cX10_undo 5 = .ok (.getfield 16, 3) := by decide +kernel
theorem dX10_undo_8 : decode cX10_undo 8 = .ok (.getfield 120, 3) := by decide +kernel
theorem dX10_undo_11 : decode cX10_undo 11 = .ok (.invokevirtual 313, 3) := by decide +kernel
theorem dX10_undo_14 : decode cX10_undo 14 = .ok (.istore_n 1, 1) := by decide +kernel
theorem dX10_undo_15 : decode cX10_undo 15 = .ok (.aload_n 0, 1) := by decide +kernel
theorem dX10_undo_16 : decode cX10_undo 16 = .ok (.iload_n 1, 1) := by decide +kernel
theorem dX10_undo_17 : decode cX10_undo 17 = .ok (.iconst (-1), 1) := by decide +kernel
theorem dX10_undo_18 : decode cX10_undo 18 = .ok (.if_icmp .ne 8, 3) := by decide +kernel
theorem dX10_undo_21 : decode cX10_undo 21 = .ok (.bipush (-3), 2) := by decide +kernel
theorem dX10_undo_23 : decode cX10_undo 23 = .ok (.goto 4, 3) := by decide +kernel
theorem dX10_undo_26 : decode cX10_undo 26 = .ok (.iload_n 1, 1) := by decide +kernel
theorem dX10_undo_27 : decode cX10_undo 27 = .ok (.invokevirtual 310, 3) := by decide +kernel
theorem dX10_undo_30 : decode cX10_undo 30 = .ok (.ireturn, 1) := by decide +kernel
theorem dX10_second_0 : decode cX10_second 0 = .ok (.aload_n 0, 1) := by decide +kernel
theorem dX10_second_1 : decode cX10_second 1 = .ok (.getfield 16, 3) := by decide +kernel
theorem dX10_second_4 : decode cX10_second 4 = .ok (.iload_n 1, 1) := by decide +kernel
theorem dX10_second_5 : decode cX10_second 5 = .ok (.invokevirtual 133, 3) := by decide +kernel
theorem dX10_second_8 : decode cX10_second 8 = .ok (.ifCond .eq 14, 3) := by decide +kernel
theorem dX10_second_11 : decode cX10_second 11 = .ok (.aload_n 0, 1) := by decide +kernel
theorem dX10_second_12 : decode cX10_second 12 = .ok (.getfield 16, 3) := by decide +kernel
theorem dX10_second_15 : decode cX10_second 15 = .ok (.iload_n 2, 1) := by decide +kernel
theorem dX10_second_16 : decode cX10_second 16 = .ok (.invokevirtual 113, 3) := by decide +kernel
theorem dX10_second_19 : decode cX10_second 19 = .ok (.ifCond .ne 5, 3) := by decide +kernel
theorem dX10_second_22 : decode cX10_second 22 = .ok (.iconst (-1), 1) := by decide +kernel
theorem dX10_second_23 : decode cX10_second 23 = .ok (.ireturn, 1) := by decide +kernel
theorem dX10_second_24 : decode cX10_second 24 = .ok (.aload_n 0, 1) := by decide +kernel
theorem dX10_second_25 : decode cX10_second 25 = .ok (.getfield 63, 3) := by decide +kernel
theorem dX10_second_28 : decode cX10_second 28 = .ok (.aload_n 0, 1) := by decide +kernel
theorem dX10_second_29 : decode cX10_second 29 = .ok (.getfield 16, 3) := by decide +kernel
theorem dX10_second_32 : decode cX10_second 32 = .ok (.getfield 120, 3) := by decide +kernel
theorem dX10_second_35 : decode cX10_second 35 = .ok (.iload_n 1, 1) := by decide +kernel
theorem dX10_second_36 : decode cX10_second 36 = .ok (.iload_n 2, 1) := by decide +kernel
theorem dX10_second_37 : decode cX10_second 37 = .ok (.invokevirtual 316, 3) := by decide +kernel
theorem dX10_second_40 : decode cX10_second 40 = .ok (.ireturn, 1) := by decide +kernel
theorem dX10_richest_0 : decode cX10_richest 0 = .ok (.aload_n 0, 1) := by decide +kernel
theorem dX10_richest_1 : decode cX10_richest 1 = .ok (.getfield 72, 3) := by decide +kernel
theorem dX10_richest_4 : decode cX10_richest 4 = .ok (.aload_n 0, 1) := by decide +kernel
theorem dX10_richest_5 : decode cX10_richest 5 = .ok (.getfield 16, 3) := by decide +kernel
theorem dX10_richest_8 : decode cX10_richest 8 = .ok (.getfield 120, 3) := by decide +kernel
theorem dX10_richest_11 : decode cX10_richest 11 = .ok (.invokevirtual 319, 3) := by decide +kernel
theorem dX10_richest_14 : decode cX10_richest 14 = .ok (.aload_n 0, 1) := by decide +kernel
theorem dX10_richest_15 : decode cX10_richest 15 = .ok (.getfield 72, 3) := by decide +kernel
theorem dX10_richest_18 : decode cX10_richest 18 = .ok (.aload_n 0, 1) := by decide +kernel
theorem dX10_richest_19 : decode cX10_richest 19 = .ok (.getfield 16, 3) := by decide +kernel
theorem dX10_richest_22 : decode cX10_richest 22 = .ok (.getfield 120, 3) := by decide +kernel
theorem dX10_richest_25 : decode cX10_richest 25 = .ok (.getfield 277, 3) := by decide +kernel
theorem dX10_richest_28 : decode cX10_richest 28 = .ok (.iconst 0, 1) := by decide +kernel
theorem dX10_richest_29 : decode cX10_richest 29 = .ok (.iconst 0, 1) := by decide +kernel
theorem dX10_richest_30 : decode cX10_richest 30 = .ok (.aload_n 0, 1) := by decide +kernel
theorem dX10_richest_31 : decode cX10_richest 31 = .ok (.getfield 63, 3) := by decide +kernel
theorem dX10_richest_34 : decode cX10_richest 34 = .ok (.aload_n 0, 1) := by decide +kernel
theorem dX10_richest_35 : decode cX10_richest 35 = .ok (.getfield 16, 3) := by decide +kernel
theorem dX10_richest_38 : decode cX10_richest 38 = .ok (.getfield 120, 3) := by decide +kernel
theorem dX10_richest_41 : decode cX10_richest 41 = .ok (.invokevirtual 322, 3) := by decide +kernel
theorem dX10_richest_44 : decode cX10_richest 44 = .ok (.invokevirtual 325, 3) := by decide +kernel
theorem dX10_richest_47 : decode cX10_richest 47 = .ok (.iload_n 1, 1) := by decide +kernel
theorem dX10_richest_48 : decode cX10_richest 48 = .ok (.iconst (-1), 1) := by decide +kernel
theorem dX10_richest_49 : decode cX10_richest 49 = .ok (.if_icmp .ne 11, 3) := by decide +kernel
theorem dX10_richest_52 : decode cX10_richest 52 = .ok (.aload_n 0, 1) := by decide +kernel
theorem dX10_richest_53 : decode cX10_richest 53 = .ok (.getfield 72, 3) := by decide +kernel
theorem dX10_richest_56 : decode cX10_richest 56 = .ok (.getfield 329, 3) := by decide +kernel
theorem dX10_richest_59 : decode cX10_richest 59 = .ok (.ireturn, 1) := by decide +kernel
theorem dX10_richest_60 : decode cX10_richest 60 = .ok (.iload_n 1, 1) := by decide +kernel
theorem dX10_richest_61 : decode cX10_richest 61 = .ok (.ifCond .lt 32, 3) := by decide +kernel
theorem dX10_richest_64 : decode cX10_richest 64 = .ok (.iload_n 1, 1) := by decide +kernel
theorem dX10_richest_65 : decode cX10_richest 65 = .ok (.aload_n 0, 1) := by decide +kernel
theorem dX10_richest_66 : decode cX10_richest 66 = .ok (.getfield 72, 3) := by decide +kernel
theorem dX10_richest_69 : decode cX10_richest 69 = .ok (.getfield 332, 3) := by decide +kernel
theorem dX10_richest_72 : decode cX10_richest 72 = .ok (.if_icmp .ge 21, 3) := by decide +kernel
theorem dX10_richest_75 : decode cX10_richest 75 = .ok (.iload_n 1, 1) := by decide +kernel
theorem dX10_richest_76 : decode cX10_richest 76 = .ok (.bipush 6, 2) := by decide +kernel
theorem dX10_richest_78 : decode cX10_richest 78 = .ok (.if_icmp .ge 15, 3) := by decide +kernel
theorem dX10_richest_81 : decode cX10_richest 81 = .ok (.aload_n 0, 1) := by decide +kernel
theorem dX10_richest_82 : decode cX10_richest 82 = .ok (.getfield 72, 3) := by decide +kernel
theorem dX10_richest_85 : decode cX10_richest 85 = .ok (.getfield 335, 3) := by decide +kernel
theorem dX10_richest_88 : decode cX10_richest 88 = .ok (.iload_n 1, 1) := by decide +kernel
theorem dX10_richest_89 : decode cX10_richest 89 = .ok (.iaload, 1) := by decide +kernel
theorem dX10_richest_90 : decode cX10_richest 90 = .ok (.goto 4, 3) := by decide +kernel
theorem dX10_richest_93 : decode cX10_richest 93 = .ok (.iconst (-1), 1) := by decide +kernel
theorem dX10_richest_94 : decode cX10_richest 94 = .ok (.ireturn, 1) := by decide +kernel
theorem dX10_byClock_0 : decode cX10_byClock 0 = .ok (.iload_n 1, 1) := by decide +kernel
theorem dX10_byClock_1 : decode cX10_byClock 1 = .ok (.ifCond .lt 9, 3) := by decide +kernel
theorem dX10_byClock_4 : decode cX10_byClock 4 = .ok (.iload_n 1, 1) := by decide +kernel
theorem dX10_byClock_5 : decode cX10_byClock 5 = .ok (.bipush 48, 2) := by decide +kernel
theorem dX10_byClock_7 : decode cX10_byClock 7 = .ok (.if_icmp .le 5, 3) := by decide +kernel
theorem dX10_byClock_10 : decode cX10_byClock 10 = .ok (.iconst (-1), 1) := by decide +kernel
theorem dX10_byClock_11 : decode cX10_byClock 11 = .ok (.ireturn, 1) := by decide +kernel
theorem dX10_byClock_12 : decode cX10_byClock 12 = .ok (.aload_n 0, 1) := by decide +kernel
theorem dX10_byClock_13 : decode cX10_byClock 13 = .ok (.getfield 41, 3) := by decide +kernel
theorem dX10_byClock_16 : decode cX10_byClock 16 = .ok (.aload_n 0, 1) := by decide +kernel
theorem dX10_byClock_17 : decode cX10_byClock 17 = .ok (.getfield 16, 3) := by decide +kernel
theorem dX10_byClock_20 : decode cX10_byClock 20 = .ok (.getfield 120, 3) := by decide +kernel
theorem dX10_byClock_23 : decode cX10_byClock 23 = .ok (.invokevirtual 176, 3) := by decide +kernel
theorem dX10_byClock_26 : decode cX10_byClock 26 = .ok (.iconst 0, 1) := by decide +kernel
theorem dX10_byClock_27 : decode cX10_byClock 27 = .ok (.istore_n 2, 1) := by decide +kernel
theorem dX10_byClock_28 : decode cX10_byClock 28 = .ok (.iconst 0, 1) := by decide +kernel
theorem dX10_byClock_29 : decode cX10_byClock 29 = .ok (.istore_n 3, 1) := by decide +kernel
theorem dX10_byClock_30 : decode cX10_byClock 30 = .ok (.iload_n 3, 1) := by decide +kernel
theorem dX10_byClock_31 : decode cX10_byClock 31 = .ok (.aload_n 0, 1) := by decide +kernel
theorem dX10_byClock_32 : decode cX10_byClock 32 = .ok (.getfield 16, 3) := by decide +kernel
theorem dX10_byClock_35 : decode cX10_byClock 35 = .ok (.getfield 148, 3) := by decide +kernel
theorem dX10_byClock_38 : decode cX10_byClock 38 = .ok (.if_icmp .ge 72, 3) := by decide +kernel
theorem dX10_byClock_41 : decode cX10_byClock 41 = .ok (.aload_n 0, 1) := by decide +kernel
theorem dX10_byClock_42 : decode cX10_byClock 42 = .ok (.getfield 63, 3) := by decide +kernel
theorem dX10_byClock_45 : decode cX10_byClock 45 = .ok (.aload_n 0, 1) := by decide +kernel
theorem dX10_byClock_46 : decode cX10_byClock 46 = .ok (.getfield 41, 3) := by decide +kernel
theorem dX10_byClock_49 : decode cX10_byClock 49 = .ok (.iload_n 3, 1) := by decide +kernel
theorem dX10_byClock_50 : decode cX10_byClock 50 = .ok (.invokevirtual 180, 3) := by decide +kernel
theorem dX10_byClock_53 : decode cX10_byClock 53 = .ok (.ifCond .lt 20, 3) := by decide +kernel
theorem dX10_byClock_56 : decode cX10_byClock 56 = .ok (.aload_n 0, 1) := by decide +kernel
theorem dX10_byClock_57 : decode cX10_byClock 57 = .ok (.getfield 41, 3) := by decide +kernel
theorem dX10_byClock_60 : decode cX10_byClock 60 = .ok (.getfield 160, 3) := by decide +kernel
theorem dX10_byClock_63 : decode cX10_byClock 63 = .ok (.iload_n 3, 1) := by decide +kernel
theorem dX10_byClock_64 : decode cX10_byClock 64 = .ok (.iaload, 1) := by decide +kernel
theorem dX10_byClock_65 : decode cX10_byClock 65 = .ok (.iconst 2, 1) := by decide +kernel
theorem dX10_byClock_66 : decode cX10_byClock 66 = .ok (.if_icmp .ne 7, 3) := by decide +kernel
theorem dX10_byClock_69 : decode cX10_byClock 69 = .ok (.iconst 1, 1) := by decide +kernel
theorem dX10_byClock_70 : decode cX10_byClock 70 = .ok (.goto 4, 3) := by decide +kernel
theorem dX10_byClock_73 : decode cX10_byClock 73 = .ok (.iconst 0, 1) := by decide +kernel
theorem dX10_byClock_74 : decode cX10_byClock 74 = .ok (.istore 4, 2) := by decide +kernel
theorem dX10_byClock_76 : decode cX10_byClock 76 = .ok (.iload 4, 2) := by decide +kernel
theorem dX10_byClock_78 : decode cX10_byClock 78 = .ok (.ifCond .eq 26, 3) := by decide +kernel
theorem dX10_byClock_81 : decode cX10_byClock 81 = .ok (.aload_n 0, 1) := by decide +kernel
theorem dX10_byClock_82 : decode cX10_byClock 82 = .ok (.getfield 41, 3) := by decide +kernel
theorem dX10_byClock_85 : decode cX10_byClock 85 = .ok (.getfield 277, 3) := by decide +kernel
theorem dX10_byClock_88 : decode cX10_byClock 88 = .ok (.iload_n 1, 1) := by decide +kernel
theorem dX10_byClock_89 : decode cX10_byClock 89 = .ok (.if_icmp .gt 15, 3) := by decide +kernel
theorem dX10_byClock_92 : decode cX10_byClock 92 = .ok (.iload_n 2, 1) := by decide +kernel
theorem dX10_byClock_93 : decode cX10_byClock 93 = .ok (.aload_n 0, 1) := by decide +kernel
theorem dX10_byClock_94 : decode cX10_byClock 94 = .ok (.getfield 16, 3) := by decide +kernel
theorem dX10_byClock_97 : decode cX10_byClock 97 = .ok (.getfield 157, 3) := by decide +kernel
theorem dX10_byClock_100 : decode cX10_byClock 100 = .ok (.iload_n 3, 1) := by decide +kernel
theorem dX10_byClock_101 : decode cX10_byClock 101 = .ok (.iaload, 1) := by decide +kernel
theorem dX10_byClock_102 : decode cX10_byClock 102 = .ok (.iadd, 1) := by decide +kernel
theorem dX10_byClock_103 : decode cX10_byClock 103 = .ok (.istore_n 2, 1) := by decide +kernel
theorem dX10_byClock_104 : decode cX10_byClock 104 = .ok (.iinc 3 1, 3) := by decide +kernel
theorem dX10_byClock_107 : decode cX10_byClock 107 = .ok (.goto (-77), 3) := by decide +kernel
theorem dX10_byClock_110 : decode cX10_byClock 110 = .ok (.iload_n 2, 1) := by decide +kernel
theorem dX10_byClock_111 : decode cX10_byClock 111 = .ok (.ireturn, 1) := by decide +kernel
theorem dX10_spoilt_0 : decode cX10_spoilt 0 = .ok (.aload_n 0, 1) := by decide +kernel
theorem dX10_spoilt_1 : decode cX10_spoilt 1 = .ok (.getfield 16, 3) := by decide +kernel
theorem dX10_spoilt_4 : decode cX10_spoilt 4 = .ok (.iload_n 1, 1) := by decide +kernel
theorem dX10_spoilt_5 : decode cX10_spoilt 5 = .ok (.invokevirtual 133, 3) := by decide +kernel
theorem dX10_spoilt_8 : decode cX10_spoilt 8 = .ok (.ifCond .ne 5, 3) := by decide +kernel
theorem dX10_spoilt_11 : decode cX10_spoilt 11 = .ok (.iconst (-1), 1) := by decide +kernel
theorem dX10_spoilt_12 : decode cX10_spoilt 12 = .ok (.ireturn, 1) := by decide +kernel
theorem dX10_spoilt_13 : decode cX10_spoilt 13 = .ok (.aload_n 0, 1) := by decide +kernel
theorem dX10_spoilt_14 : decode cX10_spoilt 14 = .ok (.getfield 63, 3) := by decide +kernel
theorem dX10_spoilt_17 : decode cX10_spoilt 17 = .ok (.aload_n 0, 1) := by decide +kernel
theorem dX10_spoilt_18 : decode cX10_spoilt 18 = .ok (.getfield 16, 3) := by decide +kernel
theorem dX10_spoilt_21 : decode cX10_spoilt 21 = .ok (.getfield 120, 3) := by decide +kernel
theorem dX10_spoilt_24 : decode cX10_spoilt 24 = .ok (.iload_n 1, 1) := by decide +kernel
theorem dX10_spoilt_25 : decode cX10_spoilt 25 = .ok (.aload_n 0, 1) := by decide +kernel
theorem dX10_spoilt_26 : decode cX10_spoilt 26 = .ok (.getfield 16, 3) := by decide +kernel
theorem dX10_spoilt_29 : decode cX10_spoilt 29 = .ok (.invokevirtual 140, 3) := by decide +kernel
theorem dX10_spoilt_32 : decode cX10_spoilt 32 = .ok (.invokevirtual 166, 3) := by decide +kernel
theorem dX10_spoilt_35 : decode cX10_spoilt 35 = .ok (.aload_n 0, 1) := by decide +kernel
theorem dX10_spoilt_36 : decode cX10_spoilt 36 = .ok (.getfield 63, 3) := by decide +kernel
theorem dX10_spoilt_39 : decode cX10_spoilt 39 = .ok (.aload_n 0, 1) := by decide +kernel
theorem dX10_spoilt_40 : decode cX10_spoilt 40 = .ok (.getfield 63, 3) := by decide +kernel
theorem dX10_spoilt_43 : decode cX10_spoilt 43 = .ok (.getfield 170, 3) := by decide +kernel
theorem dX10_spoilt_46 : decode cX10_spoilt 46 = .ok (.aload_n 0, 1) := by decide +kernel
theorem dX10_spoilt_47 : decode cX10_spoilt 47 = .ok (.getfield 63, 3) := by decide +kernel
theorem dX10_spoilt_50 : decode cX10_spoilt 50 = .ok (.getfield 173, 3) := by decide +kernel
theorem dX10_spoilt_53 : decode cX10_spoilt 53 = .ok (.iconst 0, 1) := by decide +kernel
theorem dX10_spoilt_54 : decode cX10_spoilt 54 = .ok (.invokevirtual 338, 3) := by decide +kernel
theorem dX10_spoilt_57 : decode cX10_spoilt 57 = .ok (.iload_n 2, 1) := by decide +kernel
theorem dX10_spoilt_58 : decode cX10_spoilt 58 = .ok (.invokestatic 342, 3) := by decide +kernel
theorem dX10_spoilt_61 : decode cX10_spoilt 61 = .ok (.ireturn, 1) := by decide +kernel
theorem dX10_come_0 : decode cX10_come 0 = .ok (.aload_n 0, 1) := by decide +kernel
theorem dX10_come_1 : decode cX10_come 1 = .ok (.getfield 16, 3) := by decide +kernel
theorem dX10_come_4 : decode cX10_come 4 = .ok (.iload_n 1, 1) := by decide +kernel
theorem dX10_come_5 : decode cX10_come 5 = .ok (.invokevirtual 133, 3) := by decide +kernel
theorem dX10_come_8 : decode cX10_come 8 = .ok (.ifCond .ne 5, 3) := by decide +kernel
theorem dX10_come_11 : decode cX10_come 11 = .ok (.iconst (-1), 1) := by decide +kernel
theorem dX10_come_12 : decode cX10_come 12 = .ok (.ireturn, 1) := by decide +kernel
theorem dX10_come_13 : decode cX10_come 13 = .ok (.aload_n 0, 1) := by decide +kernel
theorem dX10_come_14 : decode cX10_come 14 = .ok (.getfield 41, 3) := by decide +kernel
theorem dX10_come_17 : decode cX10_come 17 = .ok (.aload_n 0, 1) := by decide +kernel
theorem dX10_come_18 : decode cX10_come 18 = .ok (.getfield 16, 3) := by decide +kernel
theorem dX10_come_21 : decode cX10_come 21 = .ok (.getfield 120, 3) := by decide +kernel
theorem dX10_come_24 : decode cX10_come 24 = .ok (.invokevirtual 176, 3) := by decide +kernel
theorem dX10_come_27 : decode cX10_come 27 = .ok (.iconst 0, 1) := by decide +kernel
theorem dX10_come_28 : decode cX10_come 28 = .ok (.istore_n 3, 1) := by decide +kernel
theorem dX10_come_29 : decode cX10_come 29 = .ok (.iload_n 3, 1) := by decide +kernel
theorem dX10_come_30 : decode cX10_come 30 = .ok (.aload_n 0, 1) := by decide +kernel
theorem dX10_come_31 : decode cX10_come 31 = .ok (.getfield 16, 3) := by decide +kernel
theorem dX10_come_34 : decode cX10_come 34 = .ok (.getfield 100, 3) := by decide +kernel
theorem dX10_come_37 : decode cX10_come 37 = .ok (.if_icmp .ge 36, 3) := by decide +kernel
theorem dX10_come_40 : decode cX10_come 40 = .ok (.aload_n 0, 1) := by decide +kernel
theorem dX10_come_41 : decode cX10_come 41 = .ok (.getfield 41, 3) := by decide +kernel
theorem dX10_come_44 : decode cX10_come 44 = .ok (.getfield 123, 3) := by decide +kernel
theorem dX10_come_47 : decode cX10_come 47 = .ok (.iload_n 3, 1) := by decide +kernel
theorem dX10_come_48 : decode cX10_come 48 = .ok (.aload_n 0, 1) := by decide +kernel
theorem dX10_come_49 : decode cX10_come 49 = .ok (.getfield 41, 3) := by decide +kernel
theorem dX10_come_52 : decode cX10_come 52 = .ok (.getfield 123, 3) := by decide +kernel
theorem dX10_come_55 : decode cX10_come 55 = .ok (.iload_n 3, 1) := by decide +kernel
theorem dX10_come_56 : decode cX10_come 56 = .ok (.iaload, 1) := by decide +kernel
theorem dX10_come_57 : decode cX10_come 57 = .ok (.iconst (-1), 1) := by decide +kernel
theorem dX10_come_58 : decode cX10_come 58 = .ok (.if_icmp .ne 7, 3) := by decide +kernel
theorem dX10_come_61 : decode cX10_come 61 = .ok (.iconst 0, 1) := by decide +kernel
theorem dX10_come_62 : decode cX10_come 62 = .ok (.goto 4, 3) := by decide +kernel
theorem dX10_come_65 : decode cX10_come 65 = .ok (.iconst (-1), 1) := by decide +kernel
theorem dX10_come_66 : decode cX10_come 66 = .ok (.iastore, 1) := by decide +kernel
theorem dX10_come_67 : decode cX10_come 67 = .ok (.iinc 3 1, 3) := by decide +kernel
theorem dX10_come_70 : decode cX10_come 70 = .ok (.goto (-41), 3) := by decide +kernel
theorem dX10_come_73 : decode cX10_come 73 = .ok (.aload_n 0, 1) := by decide +kernel
theorem dX10_come_74 : decode cX10_come 74 = .ok (.getfield 63, 3) := by decide +kernel
theorem dX10_come_77 : decode cX10_come 77 = .ok (.aload_n 0, 1) := by decide +kernel
theorem dX10_come_78 : decode cX10_come 78 = .ok (.getfield 41, 3) := by decide +kernel
theorem dX10_come_81 : decode cX10_come 81 = .ok (.iload_n 1, 1) := by decide +kernel
theorem dX10_come_82 : decode cX10_come 82 = .ok (.aload_n 0, 1) := by decide +kernel
theorem dX10_come_83 : decode cX10_come 83 = .ok (.getfield 16, 3) := by decide +kernel
theorem dX10_come_86 : decode cX10_come 86 = .ok (.invokevirtual 140, 3) := by decide +kernel
theorem dX10_come_89 : decode cX10_come 89 = .ok (.invokevirtual 166, 3) := by decide +kernel
theorem dX10_come_92 : decode cX10_come 92 = .ok (.aload_n 0, 1) := by decide +kernel
theorem dX10_come_93 : decode cX10_come 93 = .ok (.getfield 63, 3) := by decide +kernel
theorem dX10_come_96 : decode cX10_come 96 = .ok (.getfield 170, 3) := by decide +kernel
theorem dX10_come_99 : decode cX10_come 99 = .ok (.istore_n 3, 1) := by decide +kernel
theorem dX10_come_100 : decode cX10_come 100 = .ok (.aload_n 0, 1) := by decide +kernel
theorem dX10_come_101 : decode cX10_come 101 = .ok (.getfield 63, 3) := by decide +kernel
theorem dX10_come_104 : decode cX10_come 104 = .ok (.getfield 173, 3) := by decide +kernel
theorem dX10_come_107 : decode cX10_come 107 = .ok (.istore 4, 2) := by decide +kernel
theorem dX10_come_109 : decode cX10_come 109 = .ok (.aload_n 0, 1) := by decide +kernel
theorem dX10_come_110 : decode cX10_come 110 = .ok (.getfield 63, 3) := by decide +kernel
theorem dX10_come_113 : decode cX10_come 113 = .ok (.aload_n 0, 1) := by decide +kernel
theorem dX10_come_114 : decode cX10_come 114 = .ok (.getfield 16, 3) := by decide +kernel
theorem dX10_come_117 : decode cX10_come 117 = .ok (.getfield 120, 3) := by decide +kernel
theorem dX10_come_120 : decode cX10_come 120 = .ok (.iload_n 1, 1) := by decide +kernel
theorem dX10_come_121 : decode cX10_come 121 = .ok (.aload_n 0, 1) := by decide +kernel
theorem dX10_come_122 : decode cX10_come 122 = .ok (.getfield 16, 3) := by decide +kernel
theorem dX10_come_125 : decode cX10_come 125 = .ok (.invokevirtual 140, 3) := by decide +kernel
theorem dX10_come_128 : decode cX10_come 128 = .ok (.invokevirtual 166, 3) := by decide +kernel
theorem dX10_come_131 : decode cX10_come 131 = .ok (.aload_n 0, 1) := by decide +kernel
theorem dX10_come_132 : decode cX10_come 132 = .ok (.getfield 63, 3) := by decide +kernel
theorem dX10_come_135 : decode cX10_come 135 = .ok (.iload_n 3, 1) := by decide +kernel
theorem dX10_come_136 : decode cX10_come 136 = .ok (.iload 4, 2) := by decide +kernel
theorem dX10_come_138 : decode cX10_come 138 = .ok (.iconst 1, 1) := by decide +kernel
theorem dX10_come_139 : decode cX10_come 139 = .ok (.invokevirtual 338, 3) := by decide +kernel
theorem dX10_come_142 : decode cX10_come 142 = .ok (.iload_n 2, 1) := by decide +kernel
theorem dX10_come_143 : decode cX10_come 143 = .ok (.invokestatic 342, 3) := by decide +kernel
theorem dX10_come_146 : decode cX10_come 146 = .ok (.ireturn, 1) := by decide +kernel
theorem dX10_howManyOrWho_0 : decode cX10_howManyOrWho 0 = .ok (.iload_n 0, 1) := by decide +kernel
theorem dX10_howManyOrWho_1 : decode cX10_howManyOrWho 1 = .ok (.iconst (-1), 1) := by decide +kernel
theorem dX10_howManyOrWho_2 : decode cX10_howManyOrWho 2 = .ok (.if_icmp .ne 5, 3) := by decide +kernel
theorem dX10_howManyOrWho_5 : decode cX10_howManyOrWho 5 = .ok (.iconst (-1), 1) := by decide +kernel
theorem dX10_howManyOrWho_6 : decode cX10_howManyOrWho 6 = .ok (.ireturn, 1) := by decide +kernel
theorem dX10_howManyOrWho_7 : decode cX10_howManyOrWho 7 = .ok (.iload_n 1, 1) := by decide +kernel
theorem dX10_howManyOrWho_8 : decode cX10_howManyOrWho 8 = .ok (.ifCond .ne 10, 3) := by decide +kernel
theorem dX10_howManyOrWho_11 : decode cX10_howManyOrWho 11 = .ok (.iload_n 0, 1) := by decide +kernel
theorem dX10_howManyOrWho_12 : decode cX10_howManyOrWho 12 = .ok (.invokestatic 284, 3) := by decide +kernel
theorem dX10_howManyOrWho_15 : decode cX10_howManyOrWho 15 = .ok (.goto 13, 3) := by decide +kernel
theorem dX10_howManyOrWho_18 : decode cX10_howManyOrWho 18 = .ok (.iload_n 1, 1) := by decide +kernel
theorem dX10_howManyOrWho_19 : decode cX10_howManyOrWho 19 = .ok (.iconst 1, 1) := by decide +kernel
theorem dX10_howManyOrWho_20 : decode cX10_howManyOrWho 20 = .ok (.if_icmp .ne 7, 3) := by decide +kernel
theorem dX10_howManyOrWho_23 : decode cX10_howManyOrWho 23 = .ok (.iload_n 0, 1) := by decide +kernel
theorem dX10_howManyOrWho_24 : decode cX10_howManyOrWho 24 = .ok (.goto 4, 3) := by decide +kernel
theorem dX10_howManyOrWho_27 : decode cX10_howManyOrWho 27 = .ok (.iconst (-1), 1) := by decide +kernel
theorem dX10_howManyOrWho_28 : decode cX10_howManyOrWho 28 = .ok (.ireturn, 1) := by decide +kernel
theorem dX10_chain_0 : decode cX10_chain 0 = .ok (.aload_n 0, 1) := by decide +kernel
theorem dX10_chain_1 : decode cX10_chain 1 = .ok (.getfield 16, 3) := by decide +kernel
theorem dX10_chain_4 : decode cX10_chain 4 = .ok (.iload_n 1, 1) := by decide +kernel
theorem dX10_chain_5 : decode cX10_chain 5 = .ok (.invokevirtual 113, 3) := by decide +kernel
theorem dX10_chain_8 : decode cX10_chain 8 = .ok (.ifCond .eq 14, 3) := by decide +kernel
theorem dX10_chain_11 : decode cX10_chain 11 = .ok (.aload_n 0, 1) := by decide +kernel
theorem dX10_chain_12 : decode cX10_chain 12 = .ok (.getfield 16, 3) := by decide +kernel
theorem dX10_chain_15 : decode cX10_chain 15 = .ok (.iload_n 2, 1) := by decide +kernel
theorem dX10_chain_16 : decode cX10_chain 16 = .ok (.invokevirtual 113, 3) := by decide +kernel
theorem dX10_chain_19 : decode cX10_chain 19 = .ok (.ifCond .ne 5, 3) := by decide +kernel
theorem dX10_chain_22 : decode cX10_chain 22 = .ok (.iconst (-1), 1) := by decide +kernel
theorem dX10_chain_23 : decode cX10_chain 23 = .ok (.ireturn, 1) := by decide +kernel
theorem dX10_chain_24 : decode cX10_chain 24 = .ok (.aload_n 0, 1) := by decide +kernel
theorem dX10_chain_25 : decode cX10_chain 25 = .ok (.getfield 63, 3) := by decide +kernel
theorem dX10_chain_28 : decode cX10_chain 28 = .ok (.aload_n 0, 1) := by decide +kernel
theorem dX10_chain_29 : decode cX10_chain 29 = .ok (.getfield 16, 3) := by decide +kernel
theorem dX10_chain_32 : decode cX10_chain 32 = .ok (.getfield 120, 3) := by decide +kernel
theorem dX10_chain_35 : decode cX10_chain 35 = .ok (.iload_n 1, 1) := by decide +kernel
theorem dX10_chain_36 : decode cX10_chain 36 = .ok (.iload_n 2, 1) := by decide +kernel
theorem dX10_chain_37 : decode cX10_chain 37 = .ok (.invokevirtual 345, 3) := by decide +kernel
theorem dX10_chain_40 : decode cX10_chain 40 = .ok (.istore 4, 2) := by decide +kernel
theorem dX10_chain_42 : decode cX10_chain 42 = .ok (.iload_n 3, 1) := by decide +kernel
theorem dX10_chain_43 : decode cX10_chain 43 = .ok (.iconst (-1), 1) := by decide +kernel
theorem dX10_chain_44 : decode cX10_chain 44 = .ok (.if_icmp .eq 9, 3) := by decide +kernel
theorem dX10_chain_47 : decode cX10_chain 47 = .ok (.iload 4, 2) := by decide +kernel
theorem dX10_chain_49 : decode cX10_chain 49 = .ok (.iconst (-1), 1) := by decide +kernel
theorem dX10_chain_50 : decode cX10_chain 50 = .ok (.if_icmp .ne 6, 3) := by decide +kernel
theorem dX10_chain_53 : decode cX10_chain 53 = .ok (.iload 4, 2) := by decide +kernel
theorem dX10_chain_55 : decode cX10_chain 55 = .ok (.ireturn, 1) := by decide +kernel
theorem dX10_chain_56 : decode cX10_chain 56 = .ok (.iload_n 3, 1) := by decide +kernel
theorem dX10_chain_57 : decode cX10_chain 57 = .ok (.ifCond .lt 28, 3) := by decide +kernel
theorem dX10_chain_60 : decode cX10_chain 60 = .ok (.iload_n 3, 1) := by decide +kernel
theorem dX10_chain_61 : decode cX10_chain 61 = .ok (.iload 4, 2) := by decide +kernel
theorem dX10_chain_63 : decode cX10_chain 63 = .ok (.if_icmp .ge 22, 3) := by decide +kernel
theorem dX10_chain_66 : decode cX10_chain 66 = .ok (.aload_n 0, 1) := by decide +kernel
theorem dX10_chain_67 : decode cX10_chain 67 = .ok (.getfield 63, 3) := by decide +kernel
theorem dX10_chain_70 : decode cX10_chain 70 = .ok (.aload_n 0, 1) := by decide +kernel
theorem dX10_chain_71 : decode cX10_chain 71 = .ok (.getfield 16, 3) := by decide +kernel
theorem dX10_chain_74 : decode cX10_chain 74 = .ok (.getfield 120, 3) := by decide +kernel
theorem dX10_chain_77 : decode cX10_chain 77 = .ok (.iload_n 1, 1) := by decide +kernel
theorem dX10_chain_78 : decode cX10_chain 78 = .ok (.iload_n 3, 1) := by decide +kernel
theorem dX10_chain_79 : decode cX10_chain 79 = .ok (.invokevirtual 348, 3) := by decide +kernel
theorem dX10_chain_82 : decode cX10_chain 82 = .ok (.goto 4, 3) := by decide +kernel
theorem dX10_chain_85 : decode cX10_chain 85 = .ok (.iconst (-1), 1) := by decide +kernel
theorem dX10_chain_86 : decode cX10_chain 86 = .ok (.ireturn, 1) := by decide +kernel
theorem dX10_ears_0 : decode cX10_ears 0 = .ok (.aload_n 0, 1) := by decide +kernel
theorem dX10_ears_1 : decode cX10_ears 1 = .ok (.getfield 63, 3) := by decide +kernel
theorem dX10_ears_4 : decode cX10_ears 4 = .ok (.aload_n 0, 1) := by decide +kernel
theorem dX10_ears_5 : decode cX10_ears 5 = .ok (.getfield 16, 3) := by decide +kernel
theorem dX10_ears_8 : decode cX10_ears 8 = .ok (.getfield 120, 3) := by decide +kernel
theorem dX10_ears_11 : decode cX10_ears 11 = .ok (.invokevirtual 351, 3) := by decide +kernel
theorem dX10_ears_14 : decode cX10_ears 14 = .ok (.iload_n 1, 1) := by decide +kernel
theorem dX10_ears_15 : decode cX10_ears 15 = .ok (.invokestatic 342, 3) := by decide +kernel
theorem dX10_ears_18 : decode cX10_ears 18 = .ok (.ireturn, 1) := by decide +kernel
theorem dX10_loudest_0 : decode cX10_loudest 0 = .ok (.iconst (-1), 1) := by decide +kernel
theorem dX10_loudest_1 : decode cX10_loudest 1 = .ok (.istore_n 2, 1) := by decide +kernel
theorem dX10_loudest_2 : decode cX10_loudest 2 = .ok (.iconst (-1), 1) := by decide +kernel
theorem dX10_loudest_3 : decode cX10_loudest 3 = .ok (.istore_n 3, 1) := by decide +kernel
theorem dX10_loudest_4 : decode cX10_loudest 4 = .ok (.iconst 0, 1) := by decide +kernel
theorem dX10_loudest_5 : decode cX10_loudest 5 = .ok (.istore 4, 2) := by decide +kernel
theorem dX10_loudest_7 : decode cX10_loudest 7 = .ok (.iload 4, 2) := by decide +kernel
theorem dX10_loudest_9 : decode cX10_loudest 9 = .ok (.aload_n 0, 1) := by decide +kernel
theorem dX10_loudest_10 : decode cX10_loudest 10 = .ok (.getfield 16, 3) := by decide +kernel
theorem dX10_loudest_13 : decode cX10_loudest 13 = .ok (.getfield 100, 3) := by decide +kernel
theorem dX10_loudest_16 : decode cX10_loudest 16 = .ok (.if_icmp .ge 42, 3) := by decide +kernel
theorem dX10_loudest_19 : decode cX10_loudest 19 = .ok (.aload_n 0, 1) := by decide +kernel
theorem dX10_loudest_20 : decode cX10_loudest 20 = .ok (.getfield 63, 3) := by decide +kernel
theorem dX10_loudest_23 : decode cX10_loudest 23 = .ok (.aload_n 0, 1) := by decide +kernel
theorem dX10_loudest_24 : decode cX10_loudest 24 = .ok (.getfield 16, 3) := by decide +kernel
theorem dX10_loudest_27 : decode cX10_loudest 27 = .ok (.getfield 120, 3) := by decide +kernel
theorem dX10_loudest_30 : decode cX10_loudest 30 = .ok (.iload 4, 2) := by decide +kernel
theorem dX10_loudest_32 : decode cX10_loudest 32 = .ok (.invokevirtual 354, 3) := by decide +kernel
theorem dX10_loudest_35 : decode cX10_loudest 35 = .ok (.invokestatic 284, 3) := by decide +kernel
theorem dX10_loudest_38 : decode cX10_loudest 38 = .ok (.istore 5, 2) := by decide +kernel
theorem dX10_loudest_40 : decode cX10_loudest 40 = .ok (.iload 5, 2) := by decide +kernel
theorem dX10_loudest_42 : decode cX10_loudest 42 = .ok (.iload_n 3, 1) := by decide +kernel
theorem dX10_loudest_43 : decode cX10_loudest 43 = .ok (.if_icmp .le 9, 3) := by decide +kernel
theorem dX10_loudest_46 : decode cX10_loudest 46 = .ok (.iload 5, 2) := by decide +kernel
theorem dX10_loudest_48 : decode cX10_loudest 48 = .ok (.istore_n 3, 1) := by decide +kernel
theorem dX10_loudest_49 : decode cX10_loudest 49 = .ok (.iload 4, 2) := by decide +kernel
theorem dX10_loudest_51 : decode cX10_loudest 51 = .ok (.istore_n 2, 1) := by decide +kernel
theorem dX10_loudest_52 : decode cX10_loudest 52 = .ok (.iinc 4 1, 3) := by decide +kernel
theorem dX10_loudest_55 : decode cX10_loudest 55 = .ok (.goto (-48), 3) := by decide +kernel
theorem dX10_loudest_58 : decode cX10_loudest 58 = .ok (.iload_n 1, 1) := by decide +kernel
theorem dX10_loudest_59 : decode cX10_loudest 59 = .ok (.ifCond .ne 7, 3) := by decide +kernel
theorem dX10_loudest_62 : decode cX10_loudest 62 = .ok (.iload_n 2, 1) := by decide +kernel
theorem dX10_loudest_63 : decode cX10_loudest 63 = .ok (.goto 13, 3) := by decide +kernel
theorem dX10_loudest_66 : decode cX10_loudest 66 = .ok (.iload_n 1, 1) := by decide +kernel
theorem dX10_loudest_67 : decode cX10_loudest 67 = .ok (.iconst 1, 1) := by decide +kernel
theorem dX10_loudest_68 : decode cX10_loudest 68 = .ok (.if_icmp .ne 7, 3) := by decide +kernel
theorem dX10_loudest_71 : decode cX10_loudest 71 = .ok (.iload_n 3, 1) := by decide +kernel
theorem dX10_loudest_72 : decode cX10_loudest 72 = .ok (.goto 4, 3) := by decide +kernel
theorem dX10_loudest_75 : decode cX10_loudest 75 = .ok (.iconst (-1), 1) := by decide +kernel
theorem dX10_loudest_76 : decode cX10_loudest 76 = .ok (.ireturn, 1) := by decide +kernel
theorem dX10_nearest_0 : decode cX10_nearest 0 = .ok (.aload_n 0, 1) := by decide +kernel
theorem dX10_nearest_1 : decode cX10_nearest 1 = .ok (.getfield 16, 3) := by decide +kernel
theorem dX10_nearest_4 : decode cX10_nearest 4 = .ok (.iload_n 1, 1) := by decide +kernel
theorem dX10_nearest_5 : decode cX10_nearest 5 = .ok (.invokevirtual 113, 3) := by decide +kernel
theorem dX10_nearest_8 : decode cX10_nearest 8 = .ok (.ifCond .eq 14, 3) := by decide +kernel
theorem dX10_nearest_11 : decode cX10_nearest 11 = .ok (.aload_n 0, 1) := by decide +kernel
theorem dX10_nearest_12 : decode cX10_nearest 12 = .ok (.getfield 16, 3) := by decide +kernel
theorem dX10_nearest_15 : decode cX10_nearest 15 = .ok (.iload_n 2, 1) := by decide +kernel
theorem dX10_nearest_16 : decode cX10_nearest 16 = .ok (.invokevirtual 133, 3) := by decide +kernel
theorem dX10_nearest_19 : decode cX10_nearest 19 = .ok (.ifCond .ne 5, 3) := by decide +kernel
theorem dX10_nearest_22 : decode cX10_nearest 22 = .ok (.iconst (-1), 1) := by decide +kernel
theorem dX10_nearest_23 : decode cX10_nearest 23 = .ok (.ireturn, 1) := by decide +kernel
theorem dX10_nearest_24 : decode cX10_nearest 24 = .ok (.iconst 0, 1) := by decide +kernel
theorem dX10_nearest_25 : decode cX10_nearest 25 = .ok (.aload_n 0, 1) := by decide +kernel
theorem dX10_nearest_26 : decode cX10_nearest 26 = .ok (.getfield 16, 3) := by decide +kernel
theorem dX10_nearest_29 : decode cX10_nearest 29 = .ok (.getfield 120, 3) := by decide +kernel
theorem dX10_nearest_32 : decode cX10_nearest 32 = .ok (.getfield 123, 3) := by decide +kernel
theorem dX10_nearest_35 : decode cX10_nearest 35 = .ok (.iload_n 1, 1) := by decide +kernel
theorem dX10_nearest_36 : decode cX10_nearest 36 = .ok (.iaload, 1) := by decide +kernel
theorem dX10_nearest_37 : decode cX10_nearest 37 = .ok (.invokestatic 357, 3) := by decide +kernel
theorem dX10_nearest_40 : decode cX10_nearest 40 = .ok (.istore_n 3, 1) := by decide +kernel
theorem dX10_nearest_41 : decode cX10_nearest 41 = .ok (.iconst (-1), 1) := by decide +kernel
theorem dX10_nearest_42 : decode cX10_nearest 42 = .ok (.istore 4, 2) := by decide +kernel
theorem dX10_nearest_44 : decode cX10_nearest 44 = .ok (.aload_n 0, 1) := by decide +kernel
theorem dX10_nearest_45 : decode cX10_nearest 45 = .ok (.getfield 41, 3) := by decide +kernel
theorem dX10_nearest_48 : decode cX10_nearest 48 = .ok (.aload_n 0, 1) := by decide +kernel
theorem dX10_nearest_49 : decode cX10_nearest 49 = .ok (.getfield 16, 3) := by decide +kernel
theorem dX10_nearest_52 : decode cX10_nearest 52 = .ok (.getfield 120, 3) := by decide +kernel
theorem dX10_nearest_55 : decode cX10_nearest 55 = .ok (.invokevirtual 176, 3) := by decide +kernel
theorem dX10_nearest_58 : decode cX10_nearest 58 = .ok (.iconst 0, 1) := by decide +kernel
theorem dX10_nearest_59 : decode cX10_nearest 59 = .ok (.istore 5, 2) := by decide +kernel
theorem dX10_nearest_61 : decode cX10_nearest 61 = .ok (.iload 5, 2) := by decide +kernel
theorem dX10_nearest_63 : decode cX10_nearest 63 = .ok (.bipush 20, 2) := by decide +kernel
theorem dX10_nearest_65 : decode cX10_nearest 65 = .ok (.if_icmp .ge 90, 3) := by decide +kernel
theorem dX10_nearest_68 : decode cX10_nearest 68 = .ok (.iload 4, 2) := by decide +kernel
theorem dX10_nearest_70 : decode cX10_nearest 70 = .ok (.iconst (-1), 1) := by decide +kernel
theorem dX10_nearest_71 : decode cX10_nearest 71 = .ok (.if_icmp .eq 23, 3) := by decide +kernel
theorem dX10_nearest_74 : decode cX10_nearest 74 = .ok (.iload 5, 2) := by decide +kernel
theorem dX10_nearest_76 : decode cX10_nearest 76 = .ok (.iload_n 3, 1) := by decide +kernel
theorem dX10_nearest_77 : decode cX10_nearest 77 = .ok (.isub, 1) := by decide +kernel
theorem dX10_nearest_78 : decode cX10_nearest 78 = .ok (.invokestatic 362, 3) := by decide +kernel
theorem dX10_nearest_81 : decode cX10_nearest 81 = .ok (.iload 4, 2) := by decide +kernel
theorem dX10_nearest_83 : decode cX10_nearest 83 = .ok (.iload_n 3, 1) := by decide +kernel
theorem dX10_nearest_84 : decode cX10_nearest 84 = .ok (.isub, 1) := by decide +kernel
theorem dX10_nearest_85 : decode cX10_nearest 85 = .ok (.invokestatic 362, 3) := by decide +kernel
theorem dX10_nearest_88 : decode cX10_nearest 88 = .ok (.if_icmp .lt 6, 3) := by decide +kernel
theorem dX10_nearest_91 : decode cX10_nearest 91 = .ok (.goto 58, 3) := by decide +kernel
theorem dX10_nearest_94 : decode cX10_nearest 94 = .ok (.aload_n 0, 1) := by decide +kernel
theorem dX10_nearest_95 : decode cX10_nearest 95 = .ok (.getfield 41, 3) := by decide +kernel
theorem dX10_nearest_98 : decode cX10_nearest 98 = .ok (.getfield 123, 3) := by decide +kernel
theorem dX10_nearest_101 : decode cX10_nearest 101 = .ok (.iload_n 1, 1) := by decide +kernel
theorem dX10_nearest_102 : decode cX10_nearest 102 = .ok (.iload 5, 2) := by decide +kernel
theorem dX10_nearest_104 : decode cX10_nearest 104 = .ok (.iastore, 1) := by decide +kernel
theorem dX10_nearest_105 : decode cX10_nearest 105 = .ok (.aload_n 0, 1) := by decide +kernel
theorem dX10_nearest_106 : decode cX10_nearest 106 = .ok (.getfield 63, 3) := by decide +kernel
theorem dX10_nearest_109 : decode cX10_nearest 109 = .ok (.aload_n 0, 1) := by decide +kernel
theorem dX10_nearest_110 : decode cX10_nearest 110 = .ok (.getfield 41, 3) := by decide +kernel
theorem dX10_nearest_113 : decode cX10_nearest 113 = .ok (.iload_n 1, 1) := by decide +kernel
theorem dX10_nearest_114 : decode cX10_nearest 114 = .ok (.iload_n 2, 1) := by decide +kernel
theorem dX10_nearest_115 : decode cX10_nearest 115 = .ok (.aload_n 0, 1) := by decide +kernel
theorem dX10_nearest_116 : decode cX10_nearest 116 = .ok (.getfield 16, 3) := by decide +kernel
theorem dX10_nearest_119 : decode cX10_nearest 119 = .ok (.invokevirtual 140, 3) := by decide +kernel
theorem dX10_nearest_122 : decode cX10_nearest 122 = .ok (.invokevirtual 144, 3) := by decide +kernel
theorem dX10_nearest_125 : decode cX10_nearest 125 = .ok (.ifCond .eq 24, 3) := by decide +kernel
theorem dX10_nearest_128 : decode cX10_nearest 128 = .ok (.aload_n 0, 1) := by decide +kernel
theorem dX10_nearest_129 : decode cX10_nearest 129 = .ok (.getfield 63, 3) := by decide +kernel
theorem dX10_nearest_132 : decode cX10_nearest 132 = .ok (.aload_n 0, 1) := by decide +kernel
theorem dX10_nearest_133 : decode cX10_nearest 133 = .ok (.getfield 41, 3) := by decide +kernel
theorem dX10_nearest_136 : decode cX10_nearest 136 = .ok (.iload_n 2, 1) := by decide +kernel
theorem dX10_nearest_137 : decode cX10_nearest 137 = .ok (.iload_n 1, 1) := by decide +kernel
theorem dX10_nearest_138 : decode cX10_nearest 138 = .ok (.invokevirtual 316, 3) := by decide +kernel
theorem dX10_nearest_141 : decode cX10_nearest 141 = .ok (.iconst (-1), 1) := by decide +kernel
theorem dX10_nearest_142 : decode cX10_nearest 142 = .ok (.if_icmp .eq 7, 3) := by decide +kernel
theorem dX10_nearest_145 : decode cX10_nearest 145 = .ok (.iload 5, 2) := by decide +kernel
theorem dX10_nearest_147 : decode cX10_nearest 147 = .ok (.istore 4, 2) := by decide +kernel
theorem dX10_nearest_149 : decode cX10_nearest 149 = .ok (.iinc 5 1, 3) := by decide +kernel
theorem dX10_nearest_152 : decode cX10_nearest 152 = .ok (.goto (-91), 3) := by decide +kernel
theorem dX10_nearest_155 : decode cX10_nearest 155 = .ok (.iload 4, 2) := by decide +kernel
theorem dX10_nearest_157 : decode cX10_nearest 157 = .ok (.ireturn, 1) := by decide +kernel
theorem dX10_heard_0 : decode cX10_heard 0 = .ok (.iload_n 1, 1) := by decide +kernel
theorem dX10_heard_1 : decode cX10_heard 1 = .ok (.ifCond .lt 9, 3) := by decide +kernel
theorem dX10_heard_4 : decode cX10_heard 4 = .ok (.iload_n 1, 1) := by decide +kernel
theorem dX10_heard_5 : decode cX10_heard 5 = .ok (.bipush 7, 2) := by decide +kernel
theorem dX10_heard_7 : decode cX10_heard 7 = .ok (.if_icmp .le 9, 3) := by decide +kernel
theorem dX10_heard_10 : decode cX10_heard 10 = .ok (.aload_n 0, 1) := by decide +kernel
theorem dX10_heard_11 : decode cX10_heard 11 = .ok (.iconst (-1), 1) := by decide +kernel
theorem dX10_heard_12 : decode cX10_heard 12 = .ok (.invokevirtual 96, 3) := by decide +kernel
theorem dX10_heard_15 : decode cX10_heard 15 = .ok (.ireturn, 1) := by decide +kernel
theorem dX10_heard_16 : decode cX10_heard 16 = .ok (.aload_n 0, 1) := by decide +kernel
theorem dX10_heard_17 : decode cX10_heard 17 = .ok (.getfield 16, 3) := by decide +kernel
theorem dX10_heard_20 : decode cX10_heard 20 = .ok (.getfield 365, 3) := by decide +kernel
theorem dX10_heard_23 : decode cX10_heard 23 = .ok (.bipush 6, 2) := by decide +kernel
theorem dX10_heard_25 : decode cX10_heard 25 = .ok (.if_icmp .lt 10, 3) := by decide +kernel
theorem dX10_heard_28 : decode cX10_heard 28 = .ok (.aload_n 0, 1) := by decide +kernel
theorem dX10_heard_29 : decode cX10_heard 29 = .ok (.bipush (-5), 2) := by decide +kernel
theorem dX10_heard_31 : decode cX10_heard 31 = .ok (.invokevirtual 96, 3) := by decide +kernel
theorem dX10_heard_34 : decode cX10_heard 34 = .ok (.ireturn, 1) := by decide +kernel
theorem dX10_heard_35 : decode cX10_heard 35 = .ok (.aload_n 0, 1) := by decide +kernel
theorem dX10_heard_36 : decode cX10_heard 36 = .ok (.getfield 16, 3) := by decide +kernel
theorem dX10_heard_39 : decode cX10_heard 39 = .ok (.iload_n 1, 1) := by decide +kernel
theorem dX10_heard_40 : decode cX10_heard 40 = .ok (.invokevirtual 368, 3) := by decide +kernel
theorem dX10_heard_43 : decode cX10_heard 43 = .ok (.aload_n 0, 1) := by decide +kernel
theorem dX10_heard_44 : decode cX10_heard 44 = .ok (.aload_n 0, 1) := by decide +kernel
theorem dX10_heard_45 : decode cX10_heard 45 = .ok (.getfield 16, 3) := by decide +kernel
theorem dX10_heard_48 : decode cX10_heard 48 = .ok (.getfield 365, 3) := by decide +kernel
theorem dX10_heard_51 : decode cX10_heard 51 = .ok (.invokevirtual 110, 3) := by decide +kernel
theorem dX10_heard_54 : decode cX10_heard 54 = .ok (.ireturn, 1) := by decide +kernel
theorem dX10_forget_0 : decode cX10_forget 0 = .ok (.aload_n 0, 1) := by decide +kernel
theorem dX10_forget_1 : decode cX10_forget 1 = .ok (.getfield 16, 3) := by decide +kernel
theorem dX10_forget_4 : decode cX10_forget 4 = .ok (.getfield 365, 3) := by decide +kernel
theorem dX10_forget_7 : decode cX10_forget 7 = .ok (.istore_n 1, 1) := by decide +kernel
theorem dX10_forget_8 : decode cX10_forget 8 = .ok (.aload_n 0, 1) := by decide +kernel
theorem dX10_forget_9 : decode cX10_forget 9 = .ok (.getfield 16, 3) := by decide +kernel
theorem dX10_forget_12 : decode cX10_forget 12 = .ok (.iconst 0, 1) := by decide +kernel
theorem dX10_forget_13 : decode cX10_forget 13 = .ok (.putfield 365, 3) := by decide +kernel
theorem dX10_forget_16 : decode cX10_forget 16 = .ok (.iload_n 1, 1) := by decide +kernel
theorem dX10_forget_17 : decode cX10_forget 17 = .ok (.ireturn, 1) := by decide +kernel
theorem dX10_canBe_0 : decode cX10_canBe 0 = .ok (.aload_n 0, 1) := by decide +kernel
theorem dX10_canBe_1 : decode cX10_canBe 1 = .ok (.getfield 63, 3) := by decide +kernel
theorem dX10_canBe_4 : decode cX10_canBe 4 = .ok (.aload_n 0, 1) := by decide +kernel
theorem dX10_canBe_5 : decode cX10_canBe 5 = .ok (.getfield 16, 3) := by decide +kernel
theorem dX10_canBe_8 : decode cX10_canBe 8 = .ok (.getfield 120, 3) := by decide +kernel
theorem dX10_canBe_11 : decode cX10_canBe 11 = .ok (.invokevirtual 371, 3) := by decide +kernel
theorem dX10_canBe_14 : decode cX10_canBe 14 = .ok (.ireturn, 1) := by decide +kernel
theorem dX10_listen_0 : decode cX10_listen 0 = .ok (.aload_n 0, 1) := by decide +kernel
theorem dX10_listen_1 : decode cX10_listen 1 = .ok (.invokevirtual 374, 3) := by decide +kernel
theorem dX10_listen_4 : decode cX10_listen 4 = .ok (.istore_n 2, 1) := by decide +kernel
theorem dX10_listen_5 : decode cX10_listen 5 = .ok (.iload_n 2, 1) := by decide +kernel
theorem dX10_listen_6 : decode cX10_listen 6 = .ok (.ifCond .ne 5, 3) := by decide +kernel
theorem dX10_listen_9 : decode cX10_listen 9 = .ok (.iconst (-1), 1) := by decide +kernel
theorem dX10_listen_10 : decode cX10_listen 10 = .ok (.ireturn, 1) := by decide +kernel
theorem dX10_listen_11 : decode cX10_listen 11 = .ok (.iconst (-1), 1) := by decide +kernel
theorem dX10_listen_12 : decode cX10_listen 12 = .ok (.istore_n 3, 1) := by decide +kernel
theorem dX10_listen_13 : decode cX10_listen 13 = .ok (.bipush 7, 2) := by decide +kernel
theorem dX10_listen_15 : decode cX10_listen 15 = .ok (.istore 4, 2) := by decide +kernel
theorem dX10_listen_17 : decode cX10_listen 17 = .ok (.iconst 0, 1) := by decide +kernel
theorem dX10_listen_18 : decode cX10_listen 18 = .ok (.istore 5, 2) := by decide +kernel
theorem dX10_listen_20 : decode cX10_listen 20 = .ok (.iload 5, 2) := by decide +kernel
theorem dX10_listen_22 : decode cX10_listen 22 = .ok (.aload_n 0, 1) := by decide +kernel
theorem dX10_listen_23 : decode cX10_listen 23 = .ok (.getfield 16, 3) := by decide +kernel
theorem dX10_listen_26 : decode cX10_listen 26 = .ok (.getfield 100, 3) := by decide +kernel
theorem dX10_listen_29 : decode cX10_listen 29 = .ok (.if_icmp .ge 60, 3) := by decide +kernel
theorem dX10_listen_32 : decode cX10_listen 32 = .ok (.iload_n 2, 1) := by decide +kernel
theorem dX10_listen_33 : decode cX10_listen 33 = .ok (.aload_n 0, 1) := by decide +kernel
theorem dX10_listen_34 : decode cX10_listen 34 = .ok (.getfield 63, 3) := by decide +kernel
theorem dX10_listen_37 : decode cX10_listen 37 = .ok (.aload_n 0, 1) := by decide +kernel
theorem dX10_listen_38 : decode cX10_listen 38 = .ok (.getfield 16, 3) := by decide +kernel
theorem dX10_listen_41 : decode cX10_listen 41 = .ok (.getfield 120, 3) := by decide +kernel
theorem dX10_listen_44 : decode cX10_listen 44 = .ok (.iload 5, 2) := by decide +kernel
theorem dX10_listen_46 : decode cX10_listen 46 = .ok (.invokevirtual 377, 3) := by decide +kernel
theorem dX10_listen_49 : decode cX10_listen 49 = .ok (.iand, 1) := by decide +kernel
theorem dX10_listen_50 : decode cX10_listen 50 = .ok (.invokestatic 284, 3) := by decide +kernel
theorem dX10_listen_53 : decode cX10_listen 53 = .ok (.istore 6, 2) := by decide +kernel
theorem dX10_listen_55 : decode cX10_listen 55 = .ok (.iload 6, 2) := by decide +kernel
theorem dX10_listen_57 : decode cX10_listen 57 = .ok (.iload_n 2, 1) := by decide +kernel
theorem dX10_listen_58 : decode cX10_listen 58 = .ok (.invokestatic 284, 3) := by decide +kernel
theorem dX10_listen_61 : decode cX10_listen 61 = .ok (.iload 6, 2) := by decide +kernel
theorem dX10_listen_63 : decode cX10_listen 63 = .ok (.isub, 1) := by decide +kernel
theorem dX10_listen_64 : decode cX10_listen 64 = .ok (.invokestatic 357, 3) := by decide +kernel
theorem dX10_listen_67 : decode cX10_listen 67 = .ok (.istore 7, 2) := by decide +kernel
theorem dX10_listen_69 : decode cX10_listen 69 = .ok (.iload 7, 2) := by decide +kernel
theorem dX10_listen_71 : decode cX10_listen 71 = .ok (.iload 4, 2) := by decide +kernel
theorem dX10_listen_73 : decode cX10_listen 73 = .ok (.if_icmp .ge 10, 3) := by decide +kernel
theorem dX10_listen_76 : decode cX10_listen 76 = .ok (.iload 7, 2) := by decide +kernel
theorem dX10_listen_78 : decode cX10_listen 78 = .ok (.istore 4, 2) := by decide +kernel
theorem dX10_listen_80 : decode cX10_listen 80 = .ok (.iload 5, 2) := by decide +kernel
theorem dX10_listen_82 : decode cX10_listen 82 = .ok (.istore_n 3, 1) := by decide +kernel
theorem dX10_listen_83 : decode cX10_listen 83 = .ok (.iinc 5 1, 3) := by decide +kernel
theorem dX10_listen_86 : decode cX10_listen 86 = .ok (.goto (-66), 3) := by decide +kernel
theorem dX10_listen_89 : decode cX10_listen 89 = .ok (.iload_n 3, 1) := by decide +kernel
theorem dX10_listen_90 : decode cX10_listen 90 = .ok (.iconst (-1), 1) := by decide +kernel
theorem dX10_listen_91 : decode cX10_listen 91 = .ok (.if_icmp .ne 5, 3) := by decide +kernel
theorem dX10_listen_94 : decode cX10_listen 94 = .ok (.iconst (-1), 1) := by decide +kernel
theorem dX10_listen_95 : decode cX10_listen 95 = .ok (.ireturn, 1) := by decide +kernel
theorem dX10_listen_96 : decode cX10_listen 96 = .ok (.iload_n 1, 1) := by decide +kernel
theorem dX10_listen_97 : decode cX10_listen 97 = .ok (.ifCond .ne 7, 3) := by decide +kernel
theorem dX10_listen_100 : decode cX10_listen 100 = .ok (.iload_n 3, 1) := by decide +kernel
theorem dX10_listen_101 : decode cX10_listen 101 = .ok (.goto 14, 3) := by decide +kernel
theorem dX10_listen_104 : decode cX10_listen 104 = .ok (.iload_n 1, 1) := by decide +kernel
theorem dX10_listen_105 : decode cX10_listen 105 = .ok (.iconst 1, 1) := by decide +kernel
theorem dX10_listen_106 : decode cX10_listen 106 = .ok (.if_icmp .ne 8, 3) := by decide +kernel
theorem dX10_listen_109 : decode cX10_listen 109 = .ok (.iload 4, 2) := by decide +kernel
theorem dX10_listen_111 : decode cX10_listen 111 = .ok (.goto 4, 3) := by decide +kernel
theorem dX10_listen_114 : decode cX10_listen 114 = .ok (.iconst (-1), 1) := by decide +kernel
theorem dX10_listen_115 : decode cX10_listen 115 = .ok (.ireturn, 1) := by decide +kernel
theorem dX10_few_0 : decode cX10_few 0 = .ok (.iload_n 1, 1) := by decide +kernel
theorem dX10_few_1 : decode cX10_few 1 = .ok (.iconst 1, 1) := by decide +kernel
theorem dX10_few_2 : decode cX10_few 2 = .ok (.if_icmp .lt 19, 3) := by decide +kernel
theorem dX10_few_5 : decode cX10_few 5 = .ok (.iload_n 1, 1) := by decide +kernel
theorem dX10_few_6 : decode cX10_few 6 = .ok (.bipush 20, 2) := by decide +kernel
theorem dX10_few_8 : decode cX10_few 8 = .ok (.if_icmp .gt 13, 3) := by decide +kernel
theorem dX10_few_11 : decode cX10_few 11 = .ok (.iload_n 2, 1) := by decide +kernel
theorem dX10_few_12 : decode cX10_few 12 = .ok (.ifCond .lt 9, 3) := by decide +kernel
theorem dX10_few_15 : decode cX10_few 15 = .ok (.iload_n 2, 1) := by decide +kernel
theorem dX10_few_16 : decode cX10_few 16 = .ok (.bipush 99, 2) := by decide +kernel
theorem dX10_few_18 : decode cX10_few 18 = .ok (.if_icmp .le 7, 3) := by decide +kernel
theorem dX10_few_21 : decode cX10_few 21 = .ok (.ldc2_w 380, 3) := by decide +kernel
theorem dX10_few_24 : decode cX10_few 24 = .ok (.lreturn, 1) := by decide +kernel
theorem dX10_few_25 : decode cX10_few 25 = .ok (.bipush 20, 2) := by decide +kernel
theorem dX10_few_27 : decode cX10_few 27 = .ok (.newarray .long, 2) := by decide +kernel
theorem dX10_few_29 : decode cX10_few 29 = .ok (.astore_n 3, 1) := by decide +kernel
theorem dX10_few_30 : decode cX10_few 30 = .ok (.aload_n 3, 1) := by decide +kernel
theorem dX10_few_31 : decode cX10_few 31 = .ok (.iconst 0, 1) := by decide +kernel
theorem dX10_few_32 : decode cX10_few 32 = .ok (.ldc2_w 382, 3) := by decide +kernel
theorem dX10_few_35 : decode cX10_few 35 = .ok (.lastore, 1) := by decide +kernel
theorem dX10_few_36 : decode cX10_few 36 = .ok (.iconst 0, 1) := by decide +kernel
theorem dX10_few_37 : decode cX10_few 37 = .ok (.istore 4, 2) := by decide +kernel
theorem dX10_few_39 : decode cX10_few 39 = .ok (.iload 4, 2) := by decide +kernel
theorem dX10_few_41 : decode cX10_few 41 = .ok (.iload_n 2, 1) := by decide +kernel
theorem dX10_few_42 : decode cX10_few 42 = .ok (.if_icmp .ge 82, 3) := by decide +kernel
theorem dX10_few_45 : decode cX10_few 45 = .ok (.iload_n 1, 1) := by decide +kernel
theorem dX10_few_46 : decode cX10_few 46 = .ok (.iconst 1, 1) := by decide +kernel
theorem dX10_few_47 : decode cX10_few 47 = .ok (.isub, 1) := by decide +kernel
theorem dX10_few_48 : decode cX10_few 48 = .ok (.istore 5, 2) := by decide +kernel
theorem dX10_few_50 : decode cX10_few 50 = .ok (.iload 5, 2) := by decide +kernel
theorem dX10_few_52 : decode cX10_few 52 = .ok (.ifCond .lt 66, 3) := by decide +kernel
theorem dX10_few_55 : decode cX10_few 55 = .ok (.iload 5, 2) := by decide +kernel
theorem dX10_few_57 : decode cX10_few 57 = .ok (.ifCond .le 25, 3) := by decide +kernel
theorem dX10_few_60 : decode cX10_few 60 = .ok (.aload_n 3, 1) := by decide +kernel
theorem dX10_few_61 : decode cX10_few 61 = .ok (.iload 5, 2) := by decide +kernel
theorem dX10_few_63 : decode cX10_few 63 = .ok (.iconst 1, 1) := by decide +kernel
theorem dX10_few_64 : decode cX10_few 64 = .ok (.isub, 1) := by decide +kernel
theorem dX10_few_65 : decode cX10_few 65 = .ok (.laload, 1) := by decide +kernel
theorem dX10_few_66 : decode cX10_few 66 = .ok (.aload_n 0, 1) := by decide +kernel
theorem dX10_few_67 : decode cX10_few 67 = .ok (.getfield 16, 3) := by decide +kernel
theorem dX10_few_70 : decode cX10_few 70 = .ok (.getfield 192, 3) := by decide +kernel
theorem dX10_few_73 : decode cX10_few 73 = .ok (.i2l, 1) := by decide +kernel
theorem dX10_few_74 : decode cX10_few 74 = .ok (.lmul, 1) := by decide +kernel
theorem dX10_few_75 : decode cX10_few 75 = .ok (.ldc2_w 384, 3) := by decide +kernel
theorem dX10_few_78 : decode cX10_few 78 = .ok (.ldiv, 1) := by decide +kernel
theorem dX10_few_79 : decode cX10_few 79 = .ok (.goto 4, 3) := by decide +kernel
theorem dX10_few_82 : decode cX10_few 82 = .ok (.lconst 0, 1) := by decide +kernel
theorem dX10_few_83 : decode cX10_few 83 = .ok (.lstore 6, 2) := by decide +kernel
theorem dX10_few_85 : decode cX10_few 85 = .ok (.aload_n 3, 1) := by decide +kernel
theorem dX10_few_86 : decode cX10_few 86 = .ok (.iload 5, 2) := by decide +kernel
theorem dX10_few_88 : decode cX10_few 88 = .ok (.aload_n 3, 1) := by decide +kernel
theorem dX10_few_89 : decode cX10_few 89 = .ok (.iload 5, 2) := by decide +kernel
theorem dX10_few_91 : decode cX10_few 91 = .ok (.laload, 1) := by decide +kernel
theorem dX10_few_92 : decode cX10_few 92 = .ok (.bipush 10, 2) := by decide +kernel
theorem dX10_few_94 : decode cX10_few 94 = .ok (.aload_n 0, 1) := by decide +kernel
theorem dX10_few_95 : decode cX10_few 95 = .ok (.getfield 16, 3) := by decide +kernel
theorem dX10_few_98 : decode cX10_few 98 = .ok (.getfield 192, 3) := by decide +kernel
theorem dX10_few_101 : decode cX10_few 101 = .ok (.isub, 1) := by decide +kernel
theorem dX10_few_102 : decode cX10_few 102 = .ok (.i2l, 1) := by decide +kernel
theorem dX10_few_103 : decode cX10_few 103 = .ok (.lmul, 1) := by decide +kernel
theorem dX10_few_104 : decode cX10_few 104 = .ok (.ldc2_w 384, 3) := by decide +kernel
theorem dX10_few_107 : decode cX10_few 107 = .ok (.ldiv, 1) := by decide +kernel
theorem dX10_few_108 : decode cX10_few 108 = .ok (.lload 6, 2) := by decide +kernel
theorem dX10_few_110 : decode cX10_few 110 = .ok (.ladd, 1) := by decide +kernel
theorem dX10_few_111 : decode cX10_few 111 = .ok (.lastore, 1) := by decide +kernel
theorem dX10_few_112 : decode cX10_few 112 = .ok (.iinc 5 (-1), 3) := by decide +kernel
theorem dX10_few_115 : decode cX10_few 115 = .ok (.goto (-65), 3) := by decide +kernel
theorem dX10_few_118 : decode cX10_few 118 = .ok (.iinc 4 1, 3) := by decide +kernel
theorem dX10_few_121 : decode cX10_few 121 = .ok (.goto (-82), 3) := by decide +kernel
theorem dX10_few_124 : decode cX10_few 124 = .ok (.lconst 0, 1) := by decide +kernel
theorem dX10_few_125 : decode cX10_few 125 = .ok (.lstore 4, 2) := by decide +kernel
theorem dX10_few_127 : decode cX10_few 127 = .ok (.iconst 0, 1) := by decide +kernel
theorem dX10_few_128 : decode cX10_few 128 = .ok (.istore 6, 2) := by decide +kernel
theorem dX10_few_130 : decode cX10_few 130 = .ok (.iload 6, 2) := by decide +kernel
theorem dX10_few_132 : decode cX10_few 132 = .ok (.iload_n 1, 1) := by decide +kernel
theorem dX10_few_133 : decode cX10_few 133 = .ok (.if_icmp .ge 18, 3) := by decide +kernel
theorem dX10_few_136 : decode cX10_few 136 = .ok (.lload 4, 2) := by decide +kernel
theorem dX10_few_138 : decode cX10_few 138 = .ok (.aload_n 3, 1) := by decide +kernel
theorem dX10_few_139 : decode cX10_few 139 = .ok (.iload 6, 2) := by decide +kernel
theorem dX10_few_141 : decode cX10_few 141 = .ok (.laload, 1) := by decide +kernel
theorem dX10_few_142 : decode cX10_few 142 = .ok (.ladd, 1) := by decide +kernel
theorem dX10_few_143 : decode cX10_few 143 = .ok (.lstore 4, 2) := by decide +kernel
theorem dX10_few_145 : decode cX10_few 145 = .ok (.iinc 6 1, 3) := by decide +kernel
theorem dX10_few_148 : decode cX10_few 148 = .ok (.goto (-18), 3) := by decide +kernel
theorem dX10_few_151 : decode cX10_few 151 = .ok (.lload 4, 2) := by decide +kernel
theorem dX10_few_153 : decode cX10_few 153 = .ok (.lreturn, 1) := by decide +kernel
theorem dX10_compare_0 : decode cX10_compare 0 = .ok (.iload_n 1, 1) := by decide +kernel
theorem dX10_compare_1 : decode cX10_compare 1 = .ok (.iconst (-1), 1) := by decide +kernel
theorem dX10_compare_2 : decode cX10_compare 2 = .ok (.if_icmp .eq 14, 3) := by decide +kernel
theorem dX10_compare_5 : decode cX10_compare 5 = .ok (.aload_n 0, 1) := by decide +kernel
theorem dX10_compare_6 : decode cX10_compare 6 = .ok (.getfield 16, 3) := by decide +kernel
theorem dX10_compare_9 : decode cX10_compare 9 = .ok (.iload_n 1, 1) := by decide +kernel
theorem dX10_compare_10 : decode cX10_compare 10 = .ok (.invokevirtual 289, 3) := by decide +kernel
theorem dX10_compare_13 : decode cX10_compare 13 = .ok (.ifCond .eq 14, 3) := by decide +kernel
theorem dX10_compare_16 : decode cX10_compare 16 = .ok (.aload_n 0, 1) := by decide +kernel
theorem dX10_compare_17 : decode cX10_compare 17 = .ok (.getfield 16, 3) := by decide +kernel
theorem dX10_compare_20 : decode cX10_compare 20 = .ok (.iload_n 2, 1) := by decide +kernel
theorem dX10_compare_21 : decode cX10_compare 21 = .ok (.invokevirtual 133, 3) := by decide +kernel
theorem dX10_compare_24 : decode cX10_compare 24 = .ok (.ifCond .ne 5, 3) := by decide +kernel
theorem dX10_compare_27 : decode cX10_compare 27 = .ok (.iconst (-1), 1) := by decide +kernel
theorem dX10_compare_28 : decode cX10_compare 28 = .ok (.ireturn, 1) := by decide +kernel
theorem dX10_compare_29 : decode cX10_compare 29 = .ok (.aload_n 0, 1) := by decide +kernel
theorem dX10_compare_30 : decode cX10_compare 30 = .ok (.getfield 63, 3) := by decide +kernel
theorem dX10_compare_33 : decode cX10_compare 33 = .ok (.aload_n 0, 1) := by decide +kernel
theorem dX10_compare_34 : decode cX10_compare 34 = .ok (.getfield 16, 3) := by decide +kernel
theorem dX10_compare_37 : decode cX10_compare 37 = .ok (.getfield 120, 3) := by decide +kernel
theorem dX10_compare_40 : decode cX10_compare 40 = .ok (.iload_n 2, 1) := by decide +kernel
theorem dX10_compare_41 : decode cX10_compare 41 = .ok (.aload_n 0, 1) := by decide +kernel
theorem dX10_compare_42 : decode cX10_compare 42 = .ok (.getfield 16, 3) := by decide +kernel
theorem dX10_compare_45 : decode cX10_compare 45 = .ok (.iload_n 1, 1) := by decide +kernel
theorem dX10_compare_46 : decode cX10_compare 46 = .ok (.invokevirtual 386, 3) := by decide +kernel
theorem dX10_compare_49 : decode cX10_compare 49 = .ok (.invokevirtual 166, 3) := by decide +kernel
theorem dX10_compare_52 : decode cX10_compare 52 = .ok (.aload_n 0, 1) := by decide +kernel
theorem dX10_compare_53 : decode cX10_compare 53 = .ok (.getfield 63, 3) := by decide +kernel
theorem dX10_compare_56 : decode cX10_compare 56 = .ok (.getfield 173, 3) := by decide +kernel
theorem dX10_compare_59 : decode cX10_compare 59 = .ok (.invokestatic 284, 3) := by decide +kernel
theorem dX10_compare_62 : decode cX10_compare 62 = .ok (.ireturn, 1) := by decide +kernel
theorem dX10_mays_0 : decode cX10_mays 0 = .ok (.iload_n 1, 1) := by decide +kernel
theorem dX10_mays_1 : decode cX10_mays 1 = .ok (.ifCond .lt 21, 3) := by decide +kernel
theorem dX10_mays_4 : decode cX10_mays 4 = .ok (.iload_n 1, 1) := by decide +kernel
theorem dX10_mays_5 : decode cX10_mays 5 = .ok (.ldc_w 390, 3) := by decide +kernel
theorem dX10_mays_8 : decode cX10_mays 8 = .ok (.if_icmp .gt 14, 3) := by decide +kernel
theorem dX10_mays_11 : decode cX10_mays 11 = .ok (.iload_n 2, 1) := by decide +kernel
theorem dX10_mays_12 : decode cX10_mays 12 = .ok (.iconst 1, 1) := by decide +kernel
theorem dX10_mays_13 : decode cX10_mays 13 = .ok (.if_icmp .lt 9, 3) := by decide +kernel
theorem dX10_mays_16 : decode cX10_mays 16 = .ok (.iload_n 2, 1) := by decide +kernel
theorem dX10_mays_17 : decode cX10_mays 17 = .ok (.bipush 60, 2) := by decide +kernel
theorem dX10_mays_19 : decode cX10_mays 19 = .ok (.if_icmp .le 9, 3) := by decide +kernel
theorem dX10_mays_22 : decode cX10_mays 22 = .ok (.aload_n 0, 1) := by decide +kernel
theorem dX10_mays_23 : decode cX10_mays 23 = .ok (.iconst (-1), 1) := by decide +kernel
theorem dX10_mays_24 : decode cX10_mays 24 = .ok (.invokevirtual 96, 3) := by decide +kernel
theorem dX10_mays_27 : decode cX10_mays 27 = .ok (.ireturn, 1) := by decide +kernel
theorem dX10_mays_28 : decode cX10_mays 28 = .ok (.aload_n 0, 1) := by decide +kernel
theorem dX10_mays_29 : decode cX10_mays 29 = .ok (.getfield 16, 3) := by decide +kernel
theorem dX10_mays_32 : decode cX10_mays 32 = .ok (.getfield 100, 3) := by decide +kernel
theorem dX10_mays_35 : decode cX10_mays 35 = .ok (.iconst 1, 1) := by decide +kernel
theorem dX10_mays_36 : decode cX10_mays 36 = .ok (.if_icmp .lt 14, 3) := by decide +kernel
theorem dX10_mays_39 : decode cX10_mays 39 = .ok (.aload_n 0, 1) := by decide +kernel
theorem dX10_mays_40 : decode cX10_mays 40 = .ok (.getfield 16, 3) := by decide +kernel
theorem dX10_mays_43 : decode cX10_mays 43 = .ok (.getfield 148, 3) := by decide +kernel
theorem dX10_mays_46 : decode cX10_mays 46 = .ok (.iconst 1, 1) := by decide +kernel
theorem dX10_mays_47 : decode cX10_mays 47 = .ok (.if_icmp .ge 10, 3) := by decide +kernel
theorem dX10_mays_50 : decode cX10_mays 50 = .ok (.aload_n 0, 1) := by decide +kernel
theorem dX10_mays_51 : decode cX10_mays 51 = .ok (.bipush (-3), 2) := by decide +kernel
theorem dX10_mays_53 : decode cX10_mays 53 = .ok (.invokevirtual 96, 3) := by decide +kernel
theorem dX10_mays_56 : decode cX10_mays 56 = .ok (.ireturn, 1) := by decide +kernel
theorem dX10_mays_57 : decode cX10_mays 57 = .ok (.aload_n 0, 1) := by decide +kernel
theorem dX10_mays_58 : decode cX10_mays 58 = .ok (.getfield 47, 3) := by decide +kernel
theorem dX10_mays_61 : decode cX10_mays 61 = .ok (.aload_n 0, 1) := by decide +kernel
theorem dX10_mays_62 : decode cX10_mays 62 = .ok (.getfield 16, 3) := by decide +kernel
theorem dX10_mays_65 : decode cX10_mays 65 = .ok (.iload_n 1, 1) := by decide +kernel
theorem dX10_mays_66 : decode cX10_mays 66 = .ok (.invokevirtual 391, 3) := by decide +kernel
theorem dX10_mays_69 : decode cX10_mays 69 = .ok (.iconst 0, 1) := by decide +kernel
theorem dX10_mays_70 : decode cX10_mays 70 = .ok (.istore_n 3, 1) := by decide +kernel
theorem dX10_mays_71 : decode cX10_mays 71 = .ok (.iload_n 3, 1) := by decide +kernel
theorem dX10_mays_72 : decode cX10_mays 72 = .ok (.iload_n 2, 1) := by decide +kernel
theorem dX10_mays_73 : decode cX10_mays 73 = .ok (.if_icmp .ge 36, 3) := by decide +kernel
theorem dX10_mays_76 : decode cX10_mays 76 = .ok (.aload_n 0, 1) := by decide +kernel
theorem dX10_mays_77 : decode cX10_mays 77 = .ok (.getfield 47, 3) := by decide +kernel
theorem dX10_mays_80 : decode cX10_mays 80 = .ok (.getfield 394, 3) := by decide +kernel
theorem dX10_mays_83 : decode cX10_mays 83 = .ok (.getfield 189, 3) := by decide +kernel
theorem dX10_mays_86 : decode cX10_mays 86 = .ok (.sipush 999, 3) := by decide +kernel
theorem dX10_mays_89 : decode cX10_mays 89 = .ok (.if_icmp .ge 20, 3) := by decide +kernel
theorem dX10_mays_92 : decode cX10_mays 92 = .ok (.aload_n 0, 1) := by decide +kernel
theorem dX10_mays_93 : decode cX10_mays 93 = .ok (.getfield 47, 3) := by decide +kernel
theorem dX10_mays_96 : decode cX10_mays 96 = .ok (.aload_n 0, 1) := by decide +kernel
theorem dX10_mays_97 : decode cX10_mays 97 = .ok (.getfield 63, 3) := by decide +kernel
theorem dX10_mays_100 : decode cX10_mays 100 = .ok (.invokevirtual 395, 3) := by decide +kernel
theorem dX10_mays_103 : decode cX10_mays 103 = .ok (.iinc 3 1, 3) := by decide +kernel
theorem dX10_mays_106 : decode cX10_mays 106 = .ok (.goto (-35), 3) := by decide +kernel
theorem dX10_mays_109 : decode cX10_mays 109 = .ok (.iconst 0, 1) := by decide +kernel
theorem dX10_mays_110 : decode cX10_mays 110 = .ok (.istore_n 3, 1) := by decide +kernel
theorem dX10_mays_111 : decode cX10_mays 111 = .ok (.iconst 0, 1) := by decide +kernel
theorem dX10_mays_112 : decode cX10_mays 112 = .ok (.istore 4, 2) := by decide +kernel
theorem dX10_mays_114 : decode cX10_mays 114 = .ok (.iload 4, 2) := by decide +kernel
theorem dX10_mays_116 : decode cX10_mays 116 = .ok (.aload_n 0, 1) := by decide +kernel
theorem dX10_mays_117 : decode cX10_mays 117 = .ok (.getfield 16, 3) := by decide +kernel
theorem dX10_mays_120 : decode cX10_mays 120 = .ok (.getfield 148, 3) := by decide +kernel
theorem dX10_mays_123 : decode cX10_mays 123 = .ok (.if_icmp .ge 43, 3) := by decide +kernel
theorem dX10_mays_126 : decode cX10_mays 126 = .ok (.iload_n 3, 1) := by decide +kernel
theorem dX10_mays_127 : decode cX10_mays 127 = .ok (.aload_n 0, 1) := by decide +kernel
theorem dX10_mays_128 : decode cX10_mays 128 = .ok (.getfield 47, 3) := by decide +kernel
theorem dX10_mays_131 : decode cX10_mays 131 = .ok (.getfield 394, 3) := by decide +kernel
theorem dX10_mays_134 : decode cX10_mays 134 = .ok (.getfield 160, 3) := by decide +kernel
theorem dX10_mays_137 : decode cX10_mays 137 = .ok (.iload 4, 2) := by decide +kernel
theorem dX10_mays_139 : decode cX10_mays 139 = .ok (.iaload, 1) := by decide +kernel
theorem dX10_mays_140 : decode cX10_mays 140 = .ok (.iconst 2, 1) := by decide +kernel
theorem dX10_mays_141 : decode cX10_mays 141 = .ok (.if_icmp .ne 16, 3) := by decide +kernel
theorem dX10_mays_144 : decode cX10_mays 144 = .ok (.aload_n 0, 1) := by decide +kernel
theorem dX10_mays_145 : decode cX10_mays 145 = .ok (.getfield 16, 3) := by decide +kernel
theorem dX10_mays_148 : decode cX10_mays 148 = .ok (.getfield 157, 3) := by decide +kernel
theorem dX10_mays_151 : decode cX10_mays 151 = .ok (.iload 4, 2) := by decide +kernel
theorem dX10_mays_153 : decode cX10_mays 153 = .ok (.iaload, 1) := by decide +kernel
theorem dX10_mays_154 : decode cX10_mays 154 = .ok (.goto 4, 3) := by decide +kernel
theorem dX10_mays_157 : decode cX10_mays 157 = .ok (.iconst 0, 1) := by decide +kernel
theorem dX10_mays_158 : decode cX10_mays 158 = .ok (.iadd, 1) := by decide +kernel
theorem dX10_mays_159 : decode cX10_mays 159 = .ok (.istore_n 3, 1) := by decide +kernel
theorem dX10_mays_160 : decode cX10_mays 160 = .ok (.iinc 4 1, 3) := by decide +kernel
theorem dX10_mays_163 : decode cX10_mays 163 = .ok (.goto (-49), 3) := by decide +kernel
theorem dX10_mays_166 : decode cX10_mays 166 = .ok (.aload_n 0, 1) := by decide +kernel
theorem dX10_mays_167 : decode cX10_mays 167 = .ok (.iload_n 3, 1) := by decide +kernel
theorem dX10_mays_168 : decode cX10_mays 168 = .ok (.invokevirtual 110, 3) := by decide +kernel
theorem dX10_mays_171 : decode cX10_mays 171 = .ok (.ireturn, 1) := by decide +kernel
theorem dX10_drawn_0 : decode cX10_drawn 0 = .ok (.iload_n 1, 1) := by decide +kernel
theorem dX10_drawn_1 : decode cX10_drawn 1 = .ok (.ifCond .lt 13, 3) := by decide +kernel
theorem dX10_drawn_4 : decode cX10_drawn 4 = .ok (.aload_n 0, 1) := by decide +kernel
theorem dX10_drawn_5 : decode cX10_drawn 5 = .ok (.getfield 47, 3) := by decide +kernel
theorem dX10_drawn_8 : decode cX10_drawn 8 = .ok (.getfield 398, 3) := by decide +kernel
theorem dX10_drawn_11 : decode cX10_drawn 11 = .ok (.ifCond .ne 5, 3) := by decide +kernel
theorem dX10_drawn_14 : decode cX10_drawn 14 = .ok (.iconst (-1), 1) := by decide +kernel
theorem dX10_drawn_15 : decode cX10_drawn 15 = .ok (.ireturn, 1) := by decide +kernel
theorem dX10_drawn_16 : decode cX10_drawn 16 = .ok (.iload_n 2, 1) := by decide +kernel
theorem dX10_drawn_17 : decode cX10_drawn 17 = .ok (.tableswitch 137 0 3 #[31, 65, 99, 118], 31) := by decide +kernel
theorem dX10_drawn_48 : decode cX10_drawn 48 = .ok (.iload_n 1, 1) := by decide +kernel
theorem dX10_drawn_49 : decode cX10_drawn 49 = .ok (.aload_n 0, 1) := by decide +kernel
theorem dX10_drawn_50 : decode cX10_drawn 50 = .ok (.getfield 47, 3) := by decide +kernel
theorem dX10_drawn_53 : decode cX10_drawn 53 = .ok (.getfield 398, 3) := by decide +kernel
theorem dX10_drawn_56 : decode cX10_drawn 56 = .ok (.if_icmp .ge 24, 3) := by decide +kernel
theorem dX10_drawn_59 : decode cX10_drawn 59 = .ok (.iload_n 1, 1) := by decide +kernel
theorem dX10_drawn_60 : decode cX10_drawn 60 = .ok (.bipush 6, 2) := by decide +kernel
theorem dX10_drawn_62 : decode cX10_drawn 62 = .ok (.if_icmp .ge 18, 3) := by decide +kernel
theorem dX10_drawn_65 : decode cX10_drawn 65 = .ok (.aload_n 0, 1) := by decide +kernel
theorem dX10_drawn_66 : decode cX10_drawn 66 = .ok (.getfield 47, 3) := by decide +kernel
theorem dX10_drawn_69 : decode cX10_drawn 69 = .ok (.getfield 394, 3) := by decide +kernel
theorem dX10_drawn_72 : decode cX10_drawn 72 = .ok (.getfield 160, 3) := by decide +kernel
theorem dX10_drawn_75 : decode cX10_drawn 75 = .ok (.iload_n 1, 1) := by decide +kernel
theorem dX10_drawn_76 : decode cX10_drawn 76 = .ok (.iaload, 1) := by decide +kernel
theorem dX10_drawn_77 : decode cX10_drawn 77 = .ok (.goto 4, 3) := by decide +kernel
theorem dX10_drawn_80 : decode cX10_drawn 80 = .ok (.iconst (-1), 1) := by decide +kernel
theorem dX10_drawn_81 : decode cX10_drawn 81 = .ok (.ireturn, 1) := by decide +kernel
theorem dX10_drawn_82 : decode cX10_drawn 82 = .ok (.iload_n 1, 1) := by decide +kernel
theorem dX10_drawn_83 : decode cX10_drawn 83 = .ok (.aload_n 0, 1) := by decide +kernel
theorem dX10_drawn_84 : decode cX10_drawn 84 = .ok (.getfield 47, 3) := by decide +kernel
theorem dX10_drawn_87 : decode cX10_drawn 87 = .ok (.getfield 399, 3) := by decide +kernel
theorem dX10_drawn_90 : decode cX10_drawn 90 = .ok (.if_icmp .ge 24, 3) := by decide +kernel
theorem dX10_drawn_93 : decode cX10_drawn 93 = .ok (.iload_n 1, 1) := by decide +kernel
theorem dX10_drawn_94 : decode cX10_drawn 94 = .ok (.bipush 7, 2) := by decide +kernel
theorem dX10_drawn_96 : decode cX10_drawn 96 = .ok (.if_icmp .ge 18, 3) := by decide +kernel
theorem dX10_drawn_99 : decode cX10_drawn 99 = .ok (.aload_n 0, 1) := by decide +kernel
theorem dX10_drawn_100 : decode cX10_drawn 100 = .ok (.getfield 47, 3) := by decide +kernel
theorem dX10_drawn_103 : decode cX10_drawn 103 = .ok (.getfield 394, 3) := by decide +kernel
theorem dX10_drawn_106 : decode cX10_drawn 106 = .ok (.getfield 123, 3) := by decide +kernel
theorem dX10_drawn_109 : decode cX10_drawn 109 = .ok (.iload_n 1, 1) := by decide +kernel
theorem dX10_drawn_110 : decode cX10_drawn 110 = .ok (.iaload, 1) := by decide +kernel
theorem dX10_drawn_111 : decode cX10_drawn 111 = .ok (.goto 4, 3) := by decide +kernel
theorem dX10_drawn_114 : decode cX10_drawn 114 = .ok (.iconst (-1), 1) := by decide +kernel
theorem dX10_drawn_115 : decode cX10_drawn 115 = .ok (.ireturn, 1) := by decide +kernel
theorem dX10_drawn_116 : decode cX10_drawn 116 = .ok (.iload_n 1, 1) := by decide +kernel
theorem dX10_drawn_117 : decode cX10_drawn 117 = .ok (.ifCond .ne 16, 3) := by decide +kernel
theorem dX10_drawn_120 : decode cX10_drawn 120 = .ok (.aload_n 0, 1) := by decide +kernel
theorem dX10_drawn_121 : decode cX10_drawn 121 = .ok (.getfield 47, 3) := by decide +kernel
theorem dX10_drawn_124 : decode cX10_drawn 124 = .ok (.getfield 394, 3) := by decide +kernel
theorem dX10_drawn_127 : decode cX10_drawn 127 = .ok (.getfield 277, 3) := by decide +kernel
theorem dX10_drawn_130 : decode cX10_drawn 130 = .ok (.goto 4, 3) := by decide +kernel
theorem dX10_drawn_133 : decode cX10_drawn 133 = .ok (.iconst (-1), 1) := by decide +kernel
theorem dX10_drawn_134 : decode cX10_drawn 134 = .ok (.ireturn, 1) := by decide +kernel
theorem dX10_drawn_135 : decode cX10_drawn 135 = .ok (.iload_n 1, 1) := by decide +kernel
theorem dX10_drawn_136 : decode cX10_drawn 136 = .ok (.ifCond .ne 16, 3) := by decide +kernel
theorem dX10_drawn_139 : decode cX10_drawn 139 = .ok (.aload_n 0, 1) := by decide +kernel
theorem dX10_drawn_140 : decode cX10_drawn 140 = .ok (.getfield 47, 3) := by decide +kernel
theorem dX10_drawn_143 : decode cX10_drawn 143 = .ok (.getfield 394, 3) := by decide +kernel
theorem dX10_drawn_146 : decode cX10_drawn 146 = .ok (.getfield 189, 3) := by decide +kernel
theorem dX10_drawn_149 : decode cX10_drawn 149 = .ok (.goto 4, 3) := by decide +kernel
theorem dX10_drawn_152 : decode cX10_drawn 152 = .ok (.iconst (-1), 1) := by decide +kernel
theorem dX10_drawn_153 : decode cX10_drawn 153 = .ok (.ireturn, 1) := by decide +kernel
theorem dX10_drawn_154 : decode cX10_drawn 154 = .ok (.iconst (-1), 1) := by decide +kernel
theorem dX10_drawn_155 : decode cX10_drawn 155 = .ok (.ireturn, 1) := by decide +kernel
theorem dX10_image_0 : decode cX10_image 0 = .ok (.iload_n 1, 1) := by decide +kernel
theorem dX10_image_1 : decode cX10_image 1 = .ok (.ifCond .lt 17, 3) := by decide +kernel
theorem dX10_image_4 : decode cX10_image 4 = .ok (.iload_n 1, 1) := by decide +kernel
theorem dX10_image_5 : decode cX10_image 5 = .ok (.iconst 2, 1) := by decide +kernel
theorem dX10_image_6 : decode cX10_image 6 = .ok (.if_icmp .ge 12, 3) := by decide +kernel
theorem dX10_image_9 : decode cX10_image 9 = .ok (.aload_n 0, 1) := by decide +kernel
theorem dX10_image_10 : decode cX10_image 10 = .ok (.getfield 20, 3) := by decide +kernel
theorem dX10_image_13 : decode cX10_image 13 = .ok (.iload_n 1, 1) := by decide +kernel
theorem dX10_image_14 : decode cX10_image 14 = .ok (.aaload, 1) := by decide +kernel
theorem dX10_image_15 : decode cX10_image 15 = .ok (.ifnonnull 9, 3) := by decide +kernel
theorem dX10_image_18 : decode cX10_image 18 = .ok (.aload_n 0, 1) := by decide +kernel
theorem dX10_image_19 : decode cX10_image 19 = .ok (.iconst (-1), 1) := by decide +kernel
theorem dX10_image_20 : decode cX10_image 20 = .ok (.invokevirtual 96, 3) := by decide +kernel
theorem dX10_image_23 : decode cX10_image 23 = .ok (.ireturn, 1) := by decide +kernel
theorem dX10_image_24 : decode cX10_image 24 = .ok (.aload_n 0, 1) := by decide +kernel
theorem dX10_image_25 : decode cX10_image 25 = .ok (.getfield 20, 3) := by decide +kernel
theorem dX10_image_28 : decode cX10_image 28 = .ok (.iload_n 1, 1) := by decide +kernel
theorem dX10_image_29 : decode cX10_image 29 = .ok (.aaload, 1) := by decide +kernel
theorem dX10_image_30 : decode cX10_image 30 = .ok (.aload_n 0, 1) := by decide +kernel
theorem dX10_image_31 : decode cX10_image 31 = .ok (.getfield 16, 3) := by decide +kernel
theorem dX10_image_34 : decode cX10_image 34 = .ok (.invokevirtual 400, 3) := by decide +kernel
theorem dX10_image_37 : decode cX10_image 37 = .ok (.aload_n 0, 1) := by decide +kernel
theorem dX10_image_38 : decode cX10_image 38 = .ok (.getfield 20, 3) := by decide +kernel
theorem dX10_image_41 : decode cX10_image 41 = .ok (.iload_n 1, 1) := by decide +kernel
theorem dX10_image_42 : decode cX10_image 42 = .ok (.aaload, 1) := by decide +kernel
theorem dX10_image_43 : decode cX10_image 43 = .ok (.iconst 1, 1) := by decide +kernel
theorem dX10_image_44 : decode cX10_image 44 = .ok (.putfield 403, 3) := by decide +kernel
theorem dX10_image_47 : decode cX10_image 47 = .ok (.aload_n 0, 1) := by decide +kernel
theorem dX10_image_48 : decode cX10_image 48 = .ok (.iconst 0, 1) := by decide +kernel
theorem dX10_image_49 : decode cX10_image 49 = .ok (.invokevirtual 110, 3) := by decide +kernel
theorem dX10_image_52 : decode cX10_image 52 = .ok (.ireturn, 1) := by decide +kernel
theorem dX10_back_0 : decode cX10_back 0 = .ok (.iload_n 1, 1) := by decide +kernel
theorem dX10_back_1 : decode cX10_back 1 = .ok (.ifCond .lt 17, 3) := by decide +kernel
theorem dX10_back_4 : decode cX10_back 4 = .ok (.iload_n 1, 1) := by decide +kernel
theorem dX10_back_5 : decode cX10_back 5 = .ok (.iconst 2, 1) := by decide +kernel
theorem dX10_back_6 : decode cX10_back 6 = .ok (.if_icmp .ge 12, 3) := by decide +kernel
theorem dX10_back_9 : decode cX10_back 9 = .ok (.aload_n 0, 1) := by decide +kernel
theorem dX10_back_10 : decode cX10_back 10 = .ok (.getfield 20, 3) := by decide +kernel
theorem dX10_back_13 : decode cX10_back 13 = .ok (.iload_n 1, 1) := by decide +kernel
theorem dX10_back_14 : decode cX10_back 14 = .ok (.aaload, 1) := by decide +kernel
theorem dX10_back_15 : decode cX10_back 15 = .ok (.ifnonnull 9, 3) := by decide +kernel
theorem dX10_back_18 : decode cX10_back 18 = .ok (.aload_n 0, 1) := by decide +kernel
theorem dX10_back_19 : decode cX10_back 19 = .ok (.iconst (-1), 1) := by decide +kernel
theorem dX10_back_20 : decode cX10_back 20 = .ok (.invokevirtual 96, 3) := by decide +kernel
theorem dX10_back_23 : decode cX10_back 23 = .ok (.ireturn, 1) := by decide +kernel
theorem dX10_back_24 : decode cX10_back 24 = .ok (.aload_n 0, 1) := by decide +kernel
theorem dX10_back_25 : decode cX10_back 25 = .ok (.getfield 20, 3) := by decide +kernel
theorem dX10_back_28 : decode cX10_back 28 = .ok (.iload_n 1, 1) := by decide +kernel
theorem dX10_back_29 : decode cX10_back 29 = .ok (.aaload, 1) := by decide +kernel
theorem dX10_back_30 : decode cX10_back 30 = .ok (.getfield 403, 3) := by decide +kernel
theorem dX10_back_33 : decode cX10_back 33 = .ok (.ifCond .ne 10, 3) := by decide +kernel
theorem dX10_back_36 : decode cX10_back 36 = .ok (.aload_n 0, 1) := by decide +kernel
theorem dX10_back_37 : decode cX10_back 37 = .ok (.bipush (-2), 2) := by decide +kernel
theorem dX10_back_39 : decode cX10_back 39 = .ok (.invokevirtual 96, 3) := by decide +kernel
theorem dX10_back_42 : decode cX10_back 42 = .ok (.ireturn, 1) := by decide +kernel
theorem dX10_back_43 : decode cX10_back 43 = .ok (.aload_n 0, 1) := by decide +kernel
theorem dX10_back_44 : decode cX10_back 44 = .ok (.getfield 16, 3) := by decide +kernel
theorem dX10_back_47 : decode cX10_back 47 = .ok (.aload_n 0, 1) := by decide +kernel
theorem dX10_back_48 : decode cX10_back 48 = .ok (.getfield 20, 3) := by decide +kernel
theorem dX10_back_51 : decode cX10_back 51 = .ok (.iload_n 1, 1) := by decide +kernel
theorem dX10_back_52 : decode cX10_back 52 = .ok (.aaload, 1) := by decide +kernel
theorem dX10_back_53 : decode cX10_back 53 = .ok (.invokevirtual 400, 3) := by decide +kernel
theorem dX10_back_56 : decode cX10_back 56 = .ok (.aload_n 0, 1) := by decide +kernel
theorem dX10_back_57 : decode cX10_back 57 = .ok (.getfield 27, 3) := by decide +kernel
theorem dX10_back_60 : decode cX10_back 60 = .ok (.invokevirtual 103, 3) := by decide +kernel
theorem dX10_back_63 : decode cX10_back 63 = .ok (.aload_n 0, 1) := by decide +kernel
theorem dX10_back_64 : decode cX10_back 64 = .ok (.iconst 0, 1) := by decide +kernel
theorem dX10_back_65 : decode cX10_back 65 = .ok (.invokevirtual 110, 3) := by decide +kernel
theorem dX10_back_68 : decode cX10_back 68 = .ok (.ireturn, 1) := by decide +kernel
theorem dX10_count_0 : decode cX10_count 0 = .ok (.iload_n 1, 1) := by decide +kernel
theorem dX10_count_1 : decode cX10_count 1 = .ok (.bipush 8, 2) := by decide +kernel
theorem dX10_count_3 : decode cX10_count 3 = .ok (.if_icmp .lt 34, 3) := by decide +kernel
theorem dX10_count_6 : decode cX10_count 6 = .ok (.iload_n 1, 1) := by decide +kernel
theorem dX10_count_7 : decode cX10_count 7 = .ok (.bipush 12, 2) := by decide +kernel
theorem dX10_count_9 : decode cX10_count 9 = .ok (.if_icmp .gt 28, 3) := by decide +kernel
theorem dX10_count_12 : decode cX10_count 12 = .ok (.iload_n 1, 1) := by decide +kernel
theorem dX10_count_13 : decode cX10_count 13 = .ok (.bipush 11, 2) := by decide +kernel
theorem dX10_count_15 : decode cX10_count 15 = .ok (.if_icmp .ge 10, 3) := by decide +kernel
theorem dX10_count_18 : decode cX10_count 18 = .ok (.iload_n 1, 1) := by decide +kernel
theorem dX10_count_19 : decode cX10_count 19 = .ok (.bipush 7, 2) := by decide +kernel
theorem dX10_count_21 : decode cX10_count 21 = .ok (.isub, 1) := by decide +kernel
theorem dX10_count_22 : decode cX10_count 22 = .ok (.goto 7, 3) := by decide +kernel
theorem dX10_count_25 : decode cX10_count 25 = .ok (.iload_n 1, 1) := by decide +kernel
theorem dX10_count_26 : decode cX10_count 26 = .ok (.bipush 6, 2) := by decide +kernel
theorem dX10_count_28 : decode cX10_count 28 = .ok (.isub, 1) := by decide +kernel
theorem dX10_count_29 : decode cX10_count 29 = .ok (.istore_n 2, 1) := by decide +kernel
theorem dX10_count_30 : decode cX10_count 30 = .ok (.aload_n 0, 1) := by decide +kernel
theorem dX10_count_31 : decode cX10_count 31 = .ok (.getfield 83, 3) := by decide +kernel
theorem dX10_count_34 : decode cX10_count 34 = .ok (.iload_n 2, 1) := by decide +kernel
theorem dX10_count_35 : decode cX10_count 35 = .ok (.iaload, 1) := by decide +kernel
theorem dX10_count_36 : decode cX10_count 36 = .ok (.ireturn, 1) := by decide +kernel
theorem dX10_count_37 : decode cX10_count 37 = .ok (.iload_n 1, 1) := by decide +kernel
theorem dX10_count_38 : decode cX10_count 38 = .ok (.bipush 14, 2) := by decide +kernel
theorem dX10_count_40 : decode cX10_count 40 = .ok (.if_icmp .lt 18, 3) := by decide +kernel
theorem dX10_count_43 : decode cX10_count 43 = .ok (.iload_n 1, 1) := by decide +kernel
theorem dX10_count_44 : decode cX10_count 44 = .ok (.bipush 17, 2) := by decide +kernel
theorem dX10_count_46 : decode cX10_count 46 = .ok (.if_icmp .gt 12, 3) := by decide +kernel
theorem dX10_count_49 : decode cX10_count 49 = .ok (.aload_n 0, 1) := by decide +kernel
theorem dX10_count_50 : decode cX10_count 50 = .ok (.iload_n 1, 1) := by decide +kernel
theorem dX10_count_51 : decode cX10_count 51 = .ok (.bipush 14, 2) := by decide +kernel
theorem dX10_count_53 : decode cX10_count 53 = .ok (.isub, 1) := by decide +kernel
theorem dX10_count_54 : decode cX10_count 54 = .ok (.invokevirtual 186, 3) := by decide +kernel
theorem dX10_count_57 : decode cX10_count 57 = .ok (.ireturn, 1) := by decide +kernel
theorem dX10_count_58 : decode cX10_count 58 = .ok (.iload_n 1, 1) := by decide +kernel
theorem dX10_count_59 : decode cX10_count 59 = .ok (.tableswitch 151 0 13 #[69, 77, 95, 103, 114, 122, 130, 138, 151, 151, 151, 151, 151, 143], 69) := by decide +kernel
theorem dX10_count_128 : decode cX10_count 128 = .ok (.aload_n 0, 1) := by decide +kernel
theorem dX10_count_129 : decode cX10_count 129 = .ok (.getfield 16, 3) := by decide +kernel
theorem dX10_count_132 : decode cX10_count 132 = .ok (.getfield 100, 3) := by decide +kernel
theorem dX10_count_135 : decode cX10_count 135 = .ok (.ireturn, 1) := by decide +kernel
theorem dX10_count_136 : decode cX10_count 136 = .ok (.aload_n 0, 1) := by decide +kernel
theorem dX10_count_137 : decode cX10_count 137 = .ok (.getfield 63, 3) := by decide +kernel
theorem dX10_count_140 : decode cX10_count 140 = .ok (.aload_n 0, 1) := by decide +kernel
theorem dX10_count_141 : decode cX10_count 141 = .ok (.getfield 16, 3) := by decide +kernel
theorem dX10_count_144 : decode cX10_count 144 = .ok (.getfield 120, 3) := by decide +kernel
theorem dX10_count_147 : decode cX10_count 147 = .ok (.invokevirtual 280, 3) := by decide +kernel
theorem dX10_count_150 : decode cX10_count 150 = .ok (.invokestatic 284, 3) := by decide +kernel
theorem dX10_count_153 : decode cX10_count 153 = .ok (.ireturn, 1) := by decide +kernel
theorem dX10_count_154 : decode cX10_count 154 = .ok (.aload_n 0, 1) := by decide +kernel
theorem dX10_count_155 : decode cX10_count 155 = .ok (.getfield 16, 3) := by decide +kernel
theorem dX10_count_158 : decode cX10_count 158 = .ok (.getfield 148, 3) := by decide +kernel
theorem dX10_count_161 : decode cX10_count 161 = .ok (.ireturn, 1) := by decide +kernel
theorem dX10_count_162 : decode cX10_count 162 = .ok (.aload_n 0, 1) := by decide +kernel
theorem dX10_count_163 : decode cX10_count 163 = .ok (.getfield 16, 3) := by decide +kernel
theorem dX10_count_166 : decode cX10_count 166 = .ok (.getfield 120, 3) := by decide +kernel
theorem dX10_count_169 : decode cX10_count 169 = .ok (.getfield 277, 3) := by decide +kernel
theorem dX10_count_172 : decode cX10_count 172 = .ok (.ireturn, 1) := by decide +kernel
theorem dX10_count_173 : decode cX10_count 173 = .ok (.aload_n 0, 1) := by decide +kernel
theorem dX10_count_174 : decode cX10_count 174 = .ok (.getfield 16, 3) := by decide +kernel
theorem dX10_count_177 : decode cX10_count 177 = .ok (.getfield 365, 3) := by decide +kernel
theorem dX10_count_180 : decode cX10_count 180 = .ok (.ireturn, 1) := by decide +kernel
theorem dX10_count_181 : decode cX10_count 181 = .ok (.aload_n 0, 1) := by decide +kernel
theorem dX10_count_182 : decode cX10_count 182 = .ok (.getfield 16, 3) := by decide +kernel
theorem dX10_count_185 : decode cX10_count 185 = .ok (.getfield 217, 3) := by decide +kernel
theorem dX10_count_188 : decode cX10_count 188 = .ok (.ireturn, 1) := by decide +kernel
theorem dX10_count_189 : decode cX10_count 189 = .ok (.aload_n 0, 1) := by decide +kernel
theorem dX10_count_190 : decode cX10_count 190 = .ok (.getfield 27, 3) := by decide +kernel
theorem dX10_count_193 : decode cX10_count 193 = .ok (.getfield 407, 3) := by decide +kernel
theorem dX10_count_196 : decode cX10_count 196 = .ok (.ireturn, 1) := by decide +kernel
theorem dX10_count_197 : decode cX10_count 197 = .ok (.aload_n 0, 1) := by decide +kernel
theorem dX10_count_198 : decode cX10_count 198 = .ok (.getfield 201, 3) := by decide +kernel
theorem dX10_count_201 : decode cX10_count 201 = .ok (.ireturn, 1) := by decide +kernel
theorem dX10_count_202 : decode cX10_count 202 = .ok (.aload_n 0, 1) := by decide +kernel
theorem dX10_count_203 : decode cX10_count 203 = .ok (.getfield 16, 3) := by decide +kernel
theorem dX10_count_206 : decode cX10_count 206 = .ok (.getfield 292, 3) := by decide +kernel
theorem dX10_count_209 : decode cX10_count 209 = .ok (.ireturn, 1) := by decide +kernel
theorem dX10_count_210 : decode cX10_count 210 = .ok (.iconst (-1), 1) := by decide +kernel
theorem dX10_count_211 : decode cX10_count 211 = .ok (.ireturn, 1) := by decide +kernel
theorem dX10_status_0 : decode cX10_status 0 = .ok (.aload_n 0, 1) := by decide +kernel
theorem dX10_status_1 : decode cX10_status 1 = .ok (.getfield 410, 3) := by decide +kernel
theorem dX10_status_4 : decode cX10_status 4 = .ok (.ireturn, 1) := by decide +kernel
theorem dX10_accept_0 : decode cX10_accept 0 = .ok (.aload_n 0, 1) := by decide +kernel
theorem dX10_accept_1 : decode cX10_accept 1 = .ok (.iconst 0, 1) := by decide +kernel
theorem dX10_accept_2 : decode cX10_accept 2 = .ok (.putfield 410, 3) := by decide +kernel
theorem dX10_accept_5 : decode cX10_accept 5 = .ok (.iload_n 1, 1) := by decide +kernel
theorem dX10_accept_6 : decode cX10_accept 6 = .ok (.ireturn, 1) := by decide +kernel
theorem dX10_refuse_0 : decode cX10_refuse 0 = .ok (.aload_n 0, 1) := by decide +kernel
theorem dX10_refuse_1 : decode cX10_refuse 1 = .ok (.iload_n 1, 1) := by decide +kernel
theorem dX10_refuse_2 : decode cX10_refuse 2 = .ok (.putfield 410, 3) := by decide +kernel
theorem dX10_refuse_5 : decode cX10_refuse 5 = .ok (.iload_n 1, 1) := by decide +kernel
theorem dX10_refuse_6 : decode cX10_refuse 6 = .ok (.ifCond .ge 24, 3) := by decide +kernel
theorem dX10_refuse_9 : decode cX10_refuse 9 = .ok (.iload_n 1, 1) := by decide +kernel
theorem dX10_refuse_10 : decode cX10_refuse 10 = .ok (.ineg, 1) := by decide +kernel
theorem dX10_refuse_11 : decode cX10_refuse 11 = .ok (.aload_n 0, 1) := by decide +kernel
theorem dX10_refuse_12 : decode cX10_refuse 12 = .ok (.getfield 83, 3) := by decide +kernel
theorem dX10_refuse_15 : decode cX10_refuse 15 = .ok (.arraylength, 1) := by decide +kernel
theorem dX10_refuse_16 : decode cX10_refuse 16 = .ok (.if_icmp .ge 14, 3) := by decide +kernel
theorem dX10_refuse_19 : decode cX10_refuse 19 = .ok (.aload_n 0, 1) := by decide +kernel
theorem dX10_refuse_20 : decode cX10_refuse 20 = .ok (.getfield 83, 3) := by decide +kernel
theorem dX10_refuse_23 : decode cX10_refuse 23 = .ok (.iload_n 1, 1) := by decide +kernel
theorem dX10_refuse_24 : decode cX10_refuse 24 = .ok (.ineg, 1) := by decide +kernel
theorem dX10_refuse_25 : decode cX10_refuse 25 = .ok (.dup2, 1) := by decide +kernel
theorem dX10_refuse_26 : decode cX10_refuse 26 = .ok (.iaload, 1) := by decide +kernel
theorem dX10_refuse_27 : decode cX10_refuse 27 = .ok (.iconst 1, 1) := by decide +kernel
theorem dX10_refuse_28 : decode cX10_refuse 28 = .ok (.iadd, 1) := by decide +kernel
theorem dX10_refuse_29 : decode cX10_refuse 29 = .ok (.iastore, 1) := by decide +kernel
theorem dX10_refuse_30 : decode cX10_refuse 30 = .ok (.iload_n 1, 1) := by decide +kernel
theorem dX10_refuse_31 : decode cX10_refuse 31 = .ok (.ireturn, 1) := by decide +kernel
theorem dX10_answer_0 : decode cX10_answer 0 = .ok (.iload_n 1, 1) := by decide +kernel
theorem dX10_answer_1 : decode cX10_answer 1 = .ok (.ifCond .ge 11, 3) := by decide +kernel
theorem dX10_answer_4 : decode cX10_answer 4 = .ok (.aload_n 0, 1) := by decide +kernel
theorem dX10_answer_5 : decode cX10_answer 5 = .ok (.iload_n 1, 1) := by decide +kernel
theorem dX10_answer_6 : decode cX10_answer 6 = .ok (.invokevirtual 96, 3) := by decide +kernel
theorem dX10_answer_9 : decode cX10_answer 9 = .ok (.goto 8, 3) := by decide +kernel
theorem dX10_answer_12 : decode cX10_answer 12 = .ok (.aload_n 0, 1) := by decide +kernel
theorem dX10_answer_13 : decode cX10_answer 13 = .ok (.iload_n 1, 1) := by decide +kernel
theorem dX10_answer_14 : decode cX10_answer 14 = .ok (.invokevirtual 110, 3) := by decide +kernel
theorem dX10_answer_17 : decode cX10_answer 17 = .ok (.ireturn, 1) := by decide +kernel
theorem dX11_init_0 : decode cX11_init 0 = .ok (.aload_n 0, 1) := by decide +kernel
theorem dX11_init_1 : decode cX11_init 1 = .ok (.invokespecial 1, 3) := by decide +kernel
theorem dX11_init_4 : decode cX11_init 4 = .ok (.aload_n 0, 1) := by decide +kernel
theorem dX11_init_5 : decode cX11_init 5 = .ok (.bipush 7, 2) := by decide +kernel
theorem dX11_init_7 : decode cX11_init 7 = .ok (.newarray .int, 2) := by decide +kernel
theorem dX11_init_9 : decode cX11_init 9 = .ok (.putfield 7, 3) := by decide +kernel
theorem dX11_init_12 : decode cX11_init 12 = .ok (.aload_n 0, 1) := by decide +kernel
theorem dX11_init_13 : decode cX11_init 13 = .ok (.sipush 5490, 3) := by decide +kernel
theorem dX11_init_16 : decode cX11_init 16 = .ok (.newarray .int, 2) := by decide +kernel
theorem dX11_init_18 : decode cX11_init 18 = .ok (.putfield 13, 3) := by decide +kernel
theorem dX11_init_21 : decode cX11_init 21 = .ok (.aload_n 0, 1) := by decide +kernel
theorem dX11_init_22 : decode cX11_init 22 = .ok (.sipush 10980, 3) := by decide +kernel
theorem dX11_init_25 : decode cX11_init 25 = .ok (.newarray .int, 2) := by decide +kernel
theorem dX11_init_27 : decode cX11_init 27 = .ok (.putfield 16, 3) := by decide +kernel
theorem dX11_init_30 : decode cX11_init 30 = .ok (.aload_n 0, 1) := by decide +kernel
theorem dX11_init_31 : decode cX11_init 31 = .ok (.iconst 2, 1) := by decide +kernel
theorem dX11_init_32 : decode cX11_init 32 = .ok (.newarray .boolean, 2) := by decide +kernel
theorem dX11_init_34 : decode cX11_init 34 = .ok (.putfield 19, 3) := by decide +kernel
theorem dX11_init_37 : decode cX11_init 37 = .ok (.aload_n 0, 1) := by decide +kernel
theorem dX11_init_38 : decode cX11_init 38 = .ok (.sipush 324, 3) := by decide +kernel
theorem dX11_init_41 : decode cX11_init 41 = .ok (.newarray .int, 2) := by decide +kernel
theorem dX11_init_43 : decode cX11_init 43 = .ok (.putfield 23, 3) := by decide +kernel
theorem dX11_init_46 : decode cX11_init 46 = .ok (.aload_n 0, 1) := by decide +kernel
theorem dX11_init_47 : decode cX11_init 47 = .ok (.bipush 16, 2) := by decide +kernel
theorem dX11_init_49 : decode cX11_init 49 = .ok (.newarray .int, 2) := by decide +kernel
theorem dX11_init_51 : decode cX11_init 51 = .ok (.putfield 26, 3) := by decide +kernel
theorem dX11_init_54 : decode cX11_init 54 = .ok (.aload_n 0, 1) := by decide +kernel
theorem dX11_init_55 : decode cX11_init 55 = .ok (.sipush 288, 3) := by decide +kernel
theorem dX11_init_58 : decode cX11_init 58 = .ok (.newarray .int, 2) := by decide +kernel
theorem dX11_init_60 : decode cX11_init 60 = .ok (.putfield 29, 3) := by decide +kernel
theorem dX11_init_63 : decode cX11_init 63 = .ok (.aload_n 0, 1) := by decide +kernel
theorem dX11_init_64 : decode cX11_init 64 = .ok (.bipush 16, 2) := by decide +kernel
theorem dX11_init_66 : decode cX11_init 66 = .ok (.newarray .int, 2) := by decide +kernel
theorem dX11_init_68 : decode cX11_init 68 = .ok (.putfield 32, 3) := by decide +kernel
theorem dX11_init_71 : decode cX11_init 71 = .ok (.aload_n 0, 1) := by decide +kernel
theorem dX11_init_72 : decode cX11_init 72 = .ok (.sipush 400, 3) := by decide +kernel
theorem dX11_init_75 : decode cX11_init 75 = .ok (.newarray .int, 2) := by decide +kernel
theorem dX11_init_77 : decode cX11_init 77 = .ok (.putfield 35, 3) := by decide +kernel
theorem dX11_init_80 : decode cX11_init 80 = .ok (.aload_n 0, 1) := by decide +kernel
theorem dX11_init_81 : decode cX11_init 81 = .ok (.iconst (-1), 1) := by decide +kernel
theorem dX11_init_82 : decode cX11_init 82 = .ok (.putfield 38, 3) := by decide +kernel
theorem dX11_init_85 : decode cX11_init 85 = .ok (.aload_n 0, 1) := by decide +kernel
theorem dX11_init_86 : decode cX11_init 86 = .ok (.bipush 96, 2) := by decide +kernel
theorem dX11_init_88 : decode cX11_init 88 = .ok (.newarray .int, 2) := by decide +kernel
theorem dX11_init_90 : decode cX11_init 90 = .ok (.putfield 42, 3) := by decide +kernel
theorem dX11_init_93 : decode cX11_init 93 = .ok (.aload_n 0, 1) := by decide +kernel
theorem dX11_init_94 : decode cX11_init 94 = .ok (.sipush 400, 3) := by decide +kernel
theorem dX11_init_97 : decode cX11_init 97 = .ok (.newarray .int, 2) := by decide +kernel
theorem dX11_init_99 : decode cX11_init 99 = .ok (.putfield 45, 3) := by decide +kernel
theorem dX11_init_102 : decode cX11_init 102 = .ok (.aload_n 0, 1) := by decide +kernel
theorem dX11_init_103 : decode cX11_init 103 = .ok (.sipush 400, 3) := by decide +kernel
theorem dX11_init_106 : decode cX11_init 106 = .ok (.newarray .int, 2) := by decide +kernel
theorem dX11_init_108 : decode cX11_init 108 = .ok (.putfield 48, 3) := by decide +kernel
theorem dX11_init_111 : decode cX11_init 111 = .ok (.aload_n 0, 1) := by decide +kernel
theorem dX11_init_112 : decode cX11_init 112 = .ok (.sipush 400, 3) := by decide +kernel
theorem dX11_init_115 : decode cX11_init 115 = .ok (.newarray .int, 2) := by decide +kernel
theorem dX11_init_117 : decode cX11_init 117 = .ok (.putfield 51, 3) := by decide +kernel
theorem dX11_init_120 : decode cX11_init 120 = .ok (.aload_n 0, 1) := by decide +kernel
theorem dX11_init_121 : decode cX11_init 121 = .ok (.sipush 400, 3) := by decide +kernel
theorem dX11_init_124 : decode cX11_init 124 = .ok (.newarray .int, 2) := by decide +kernel
theorem dX11_init_126 : decode cX11_init 126 = .ok (.putfield 54, 3) := by decide +kernel
theorem dX11_init_129 : decode cX11_init 129 = .ok (.aload_n 0, 1) := by decide +kernel
theorem dX11_init_130 : decode cX11_init 130 = .ok (.bipush 9, 2) := by decide +kernel
theorem dX11_init_132 : decode cX11_init 132 = .ok (.newarray .long, 2) := by decide +kernel
theorem dX11_init_134 : decode cX11_init 134 = .ok (.dup, 1) := by decide +kernel
theorem dX11_init_135 : decode cX11_init 135 = .ok (.iconst 0, 1) := by decide +kernel
theorem dX11_init_136 : decode cX11_init 136 = .ok (.ldc2_w 57, 3) := by decide +kernel
theorem dX11_init_139 : decode cX11_init 139 = .ok (.lastore, 1) := by decide +kernel
theorem dX11_init_140 : decode cX11_init 140 = .ok (.dup, 1) := by decide +kernel
theorem dX11_init_141 : decode cX11_init 141 = .ok (.iconst 1, 1) := by decide +kernel
theorem dX11_init_142 : decode cX11_init 142 = .ok (.ldc2_w 59, 3) := by decide +kernel
theorem dX11_init_145 : decode cX11_init 145 = .ok (.lastore, 1) := by decide +kernel
theorem dX11_init_146 : decode cX11_init 146 = .ok (.dup, 1) := by decide +kernel
theorem dX11_init_147 : decode cX11_init 147 = .ok (.iconst 2, 1) := by decide +kernel
theorem dX11_init_148 : decode cX11_init 148 = .ok (.ldc2_w 61, 3) := by decide +kernel
theorem dX11_init_151 : decode cX11_init 151 = .ok (.lastore, 1) := by decide +kernel
theorem dX11_init_152 : decode cX11_init 152 = .ok (.dup, 1) := by decide +kernel
theorem dX11_init_153 : decode cX11_init 153 = .ok (.iconst 3, 1) := by decide +kernel
theorem dX11_init_154 : decode cX11_init 154 = .ok (.ldc2_w 63, 3) := by decide +kernel
theorem dX11_init_157 : decode cX11_init 157 = .ok (.lastore, 1) := by decide +kernel
theorem dX11_init_158 : decode cX11_init 158 = .ok (.dup, 1) := by decide +kernel
theorem dX11_init_159 : decode cX11_init 159 = .ok (.iconst 4, 1) := by decide +kernel
theorem dX11_init_160 : decode cX11_init 160 = .ok (.ldc2_w 65, 3) := by decide +kernel
theorem dX11_init_163 : decode cX11_init 163 = .ok (.lastore, 1) := by decide +kernel
theorem dX11_init_164 : decode cX11_init 164 = .ok (.dup, 1) := by decide +kernel
theorem dX11_init_165 : decode cX11_init 165 = .ok (.iconst 5, 1) := by decide +kernel
theorem dX11_init_166 : decode cX11_init 166 = .ok (.ldc2_w 67, 3) := by decide +kernel
theorem dX11_init_169 : decode cX11_init 169 = .ok (.lastore, 1) := by decide +kernel
theorem dX11_init_170 : decode cX11_init 170 = .ok (.dup, 1) := by decide +kernel
theorem dX11_init_171 : decode cX11_init 171 = .ok (.bipush 6, 2) := by decide +kernel
theorem dX11_init_173 : decode cX11_init 173 = .ok (.ldc2_w 69, 3) := by decide +kernel
theorem dX11_init_176 : decode cX11_init 176 = .ok (.lastore, 1) := by decide +kernel
theorem dX11_init_177 : decode cX11_init 177 = .ok (.dup, 1) := by decide +kernel
theorem dX11_init_178 : decode cX11_init 178 = .ok (.bipush 7, 2) := by decide +kernel
theorem dX11_init_180 : decode cX11_init 180 = .ok (.ldc2_w 71, 3) := by decide +kernel
theorem dX11_init_183 : decode cX11_init 183 = .ok (.lastore, 1) := by decide +kernel
theorem dX11_init_184 : decode cX11_init 184 = .ok (.dup, 1) := by decide +kernel
theorem dX11_init_185 : decode cX11_init 185 = .ok (.bipush 8, 2) := by decide +kernel
theorem dX11_init_187 : decode cX11_init 187 = .ok (.ldc2_w 73, 3) := by decide +kernel
theorem dX11_init_190 : decode cX11_init 190 = .ok (.lastore, 1) := by decide +kernel
theorem dX11_init_191 : decode cX11_init 191 = .ok (.putfield 75, 3) := by decide +kernel
theorem dX11_init_194 : decode cX11_init 194 = .ok (.aload_n 0, 1) := by decide +kernel
theorem dX11_init_195 : decode cX11_init 195 = .ok (.bipush 7, 2) := by decide +kernel
theorem dX11_init_197 : decode cX11_init 197 = .ok (.newarray .long, 2) := by decide +kernel
theorem dX11_init_199 : decode cX11_init 199 = .ok (.dup, 1) := by decide +kernel
theorem dX11_init_200 : decode cX11_init 200 = .ok (.iconst 0, 1) := by decide +kernel
theorem dX11_init_201 : decode cX11_init 201 = .ok (.ldc2_w 71, 3) := by decide +kernel
theorem dX11_init_204 : decode cX11_init 204 = .ok (.lastore, 1) := by decide +kernel
theorem dX11_init_205 : decode cX11_init 205 = .ok (.dup, 1) := by decide +kernel
theorem dX11_init_206 : decode cX11_init 206 = .ok (.iconst 1, 1) := by decide +kernel
theorem dX11_init_207 : decode cX11_init 207 = .ok (.ldc2_w 79, 3) := by decide +kernel
theorem dX11_init_210 : decode cX11_init 210 = .ok (.lastore, 1) := by decide +kernel
theorem dX11_init_211 : decode cX11_init 211 = .ok (.dup, 1) := by decide +kernel
theorem dX11_init_212 : decode cX11_init 212 = .ok (.iconst 2, 1) := by decide +kernel
theorem dX11_init_213 : decode cX11_init 213 = .ok (.ldc2_w 81, 3) := by decide +kernel
theorem dX11_init_216 : decode cX11_init 216 = .ok (.lastore, 1) := by decide +kernel
theorem dX11_init_217 : decode cX11_init 217 = .ok (.dup, 1) := by decide +kernel
theorem dX11_init_218 : decode cX11_init 218 = .ok (.iconst 3, 1) := by decide +kernel
theorem dX11_init_219 : decode cX11_init 219 = .ok (.ldc2_w 69, 3) := by decide +kernel
theorem dX11_init_222 : decode cX11_init 222 = .ok (.lastore, 1) := by decide +kernel
theorem dX11_init_223 : decode cX11_init 223 = .ok (.dup, 1) := by decide +kernel
theorem dX11_init_224 : decode cX11_init 224 = .ok (.iconst 4, 1) := by decide +kernel
theorem dX11_init_225 : decode cX11_init 225 = .ok (.ldc2_w 83, 3) := by decide +kernel
theorem dX11_init_228 : decode cX11_init 228 = .ok (.lastore, 1) := by decide +kernel
theorem dX11_init_229 : decode cX11_init 229 = .ok (.dup, 1) := by decide +kernel
theorem dX11_init_230 : decode cX11_init 230 = .ok (.iconst 5, 1) := by decide +kernel
theorem dX11_init_231 : decode cX11_init 231 = .ok (.ldc2_w 59, 3) := by decide +kernel
theorem dX11_init_234 : decode cX11_init 234 = .ok (.lastore, 1) := by decide +kernel
theorem dX11_init_235 : decode cX11_init 235 = .ok (.dup, 1) := by decide +kernel
theorem dX11_init_236 : decode cX11_init 236 = .ok (.bipush 6, 2) := by decide +kernel
theorem dX11_init_238 : decode cX11_init 238 = .ok (.ldc2_w 85, 3) := by decide +kernel
theorem dX11_init_241 : decode cX11_init 241 = .ok (.lastore, 1) := by decide +kernel
theorem dX11_init_242 : decode cX11_init 242 = .ok (.putfield 87, 3) := by decide +kernel
theorem dX11_init_245 : decode cX11_init 245 = .ok (.aload_n 0, 1) := by decide +kernel
theorem dX11_init_246 : decode cX11_init 246 = .ok (.iconst 3, 1) := by decide +kernel
theorem dX11_init_247 : decode cX11_init 247 = .ok (.newarray .long, 2) := by decide +kernel
theorem dX11_init_249 : decode cX11_init 249 = .ok (.dup, 1) := by decide +kernel
theorem dX11_init_250 : decode cX11_init 250 = .ok (.iconst 0, 1) := by decide +kernel
theorem dX11_init_251 : decode cX11_init 251 = .ok (.ldc2_w 90, 3) := by decide +kernel
theorem dX11_init_254 : decode cX11_init 254 = .ok (.lastore, 1) := by decide +kernel
theorem dX11_init_255 : decode cX11_init 255 = .ok (.dup, 1) := by decide +kernel
theorem dX11_init_256 : decode cX11_init 256 = .ok (.iconst 1, 1) := by decide +kernel
theorem dX11_init_257 : decode cX11_init 257 = .ok (.ldc2_w 92, 3) := by decide +kernel
theorem dX11_init_260 : decode cX11_init 260 = .ok (.lastore, 1) := by decide +kernel
theorem dX11_init_261 : decode cX11_init 261 = .ok (.dup, 1) := by decide +kernel
theorem dX11_init_262 : decode cX11_init 262 = .ok (.iconst 2, 1) := by decide +kernel
theorem dX11_init_263 : decode cX11_init 263 = .ok (.ldc2_w 94, 3) := by decide +kernel
theorem dX11_init_266 : decode cX11_init 266 = .ok (.lastore, 1) := by decide +kernel
theorem dX11_init_267 : decode cX11_init 267 = .ok (.putfield 96, 3) := by decide +kernel
theorem dX11_init_270 : decode cX11_init 270 = .ok (.aload_n 0, 1) := by decide +kernel
theorem dX11_init_271 : decode cX11_init 271 = .ok (.bipush 13, 2) := by decide +kernel
theorem dX11_init_273 : decode cX11_init 273 = .ok (.newarray .long, 2) := by decide +kernel
theorem dX11_init_275 : decode cX11_init 275 = .ok (.putfield 99, 3) := by decide +kernel
theorem dX11_init_278 : decode cX11_init 278 = .ok (.aload_n 0, 1) := by decide +kernel
theorem dX11_init_279 : decode cX11_init 279 = .ok (.bipush 13, 2) := by decide +kernel
theorem dX11_init_281 : decode cX11_init 281 = .ok (.newarray .long, 2) := by decide +kernel
theorem dX11_init_283 : decode cX11_init 283 = .ok (.putfield 102, 3) := by decide +kernel
theorem dX11_init_286 : decode cX11_init 286 = .ok (.aload_n 0, 1) := by decide +kernel
theorem dX11_init_287 : decode cX11_init 287 = .ok (.sipush 400, 3) := by decide +kernel
theorem dX11_init_290 : decode cX11_init 290 = .ok (.newarray .long, 2) := by decide +kernel
theorem dX11_init_292 : decode cX11_init 292 = .ok (.putfield 105, 3) := by decide +kernel
theorem dX11_init_295 : decode cX11_init 295 = .ok (.aload_n 0, 1) := by decide +kernel
theorem dX11_init_296 : decode cX11_init 296 = .ok (.bipush 7, 2) := by decide +kernel
theorem dX11_init_298 : decode cX11_init 298 = .ok (.newarray .int, 2) := by decide +kernel
theorem dX11_init_300 : decode cX11_init 300 = .ok (.putfield 108, 3) := by decide +kernel
theorem dX11_init_303 : decode cX11_init 303 = .ok (.aload_n 0, 1) := by decide +kernel
theorem dX11_init_304 : decode cX11_init 304 = .ok (.bipush 7, 2) := by decide +kernel
theorem dX11_init_306 : decode cX11_init 306 = .ok (.newarray .int, 2) := by decide +kernel
theorem dX11_init_308 : decode cX11_init 308 = .ok (.putfield 111, 3) := by decide +kernel
theorem dX11_init_311 : decode cX11_init 311 = .ok (.aload_n 0, 1) := by decide +kernel
theorem dX11_init_312 : decode cX11_init 312 = .ok (.bipush 7, 2) := by decide +kernel
theorem dX11_init_314 : decode cX11_init 314 = .ok (.newarray .int, 2) := by decide +kernel
theorem dX11_init_316 : decode cX11_init 316 = .ok (.putfield 114, 3) := by decide +kernel
theorem dX11_init_319 : decode cX11_init 319 = .ok (.aload_n 0, 1) := by decide +kernel
theorem dX11_init_320 : decode cX11_init 320 = .ok (.bipush 6, 2) := by decide +kernel
theorem dX11_init_322 : decode cX11_init 322 = .ok (.newarray .int, 2) := by decide +kernel
theorem dX11_init_324 : decode cX11_init 324 = .ok (.putfield 117, 3) := by decide +kernel
theorem dX11_init_327 : decode cX11_init 327 = .ok (.aload_n 0, 1) := by decide +kernel
theorem dX11_init_328 : decode cX11_init 328 = .ok (.bipush 7, 2) := by decide +kernel
theorem dX11_init_330 : decode cX11_init 330 = .ok (.newarray .int, 2) := by decide +kernel
theorem dX11_init_332 : decode cX11_init 332 = .ok (.putfield 120, 3) := by decide +kernel
theorem dX11_init_335 : decode cX11_init 335 = .ok (.aload_n 0, 1) := by decide +kernel
theorem dX11_init_336 : decode cX11_init 336 = .ok (.bipush 21, 2) := by decide +kernel
theorem dX11_init_338 : decode cX11_init 338 = .ok (.newarray .long, 2) := by decide +kernel
theorem dX11_init_340 : decode cX11_init 340 = .ok (.putfield 123, 3) := by decide +kernel
theorem dX11_init_343 : decode cX11_init 343 = .ok (.aload_n 0, 1) := by decide +kernel
theorem dX11_init_344 : decode cX11_init 344 = .ok (.iconst 4, 1) := by decide +kernel
theorem dX11_init_345 : decode cX11_init 345 = .ok (.newarray .long, 2) := by decide +kernel
theorem dX11_init_347 : decode cX11_init 347 = .ok (.dup, 1) := by decide +kernel
theorem dX11_init_348 : decode cX11_init 348 = .ok (.iconst 0, 1) := by decide +kernel
theorem dX11_init_349 : decode cX11_init 349 = .ok (.ldc2_w 126, 3) := by decide +kernel
theorem dX11_init_352 : decode cX11_init 352 = .ok (.lastore, 1) := by decide +kernel
theorem dX11_init_353 : decode cX11_init 353 = .ok (.dup, 1) := by decide +kernel
theorem dX11_init_354 : decode cX11_init 354 = .ok (.iconst 1, 1) := by decide +kernel
theorem dX11_init_355 : decode cX11_init 355 = .ok (.ldc2_w 128, 3) := by decide +kernel
theorem dX11_init_358 : decode cX11_init 358 = .ok (.lastore, 1) := by decide +kernel
theorem dX11_init_359 : decode cX11_init 359 = .ok (.dup, 1) := by decide +kernel
theorem dX11_init_360 : decode cX11_init 360 = .ok (.iconst 2, 1) := by decide +kernel
theorem dX11_init_361 : decode cX11_init 361 = .ok (.ldc2_w 130, 3) := by decide +kernel
theorem dX11_init_364 : decode cX11_init 364 = .ok (.lastore, 1) := by decide +kernel
theorem dX11_init_365 : decode cX11_init 365 = .ok (.dup, 1) := by decide +kernel
theorem dX11_init_366 : decode cX11_init 366 = .ok (.iconst 3, 1) := by decide +kernel
theorem dX11_init_367 : decode cX11_init 367 = .ok (.ldc2_w 132, 3) := by decide +kernel
theorem dX11_init_370 : decode cX11_init 370 = .ok (.lastore, 1) := by decide +kernel
theorem dX11_init_371 : decode cX11_init 371 = .ok (.putfield 134, 3) := by decide +kernel
theorem dX11_init_374 : decode cX11_init 374 = .ok (.aload_n 0, 1) := by decide +kernel
theorem dX11_init_375 : decode cX11_init 375 = .ok (.bipush 96, 2) := by decide +kernel
theorem dX11_init_377 : decode cX11_init 377 = .ok (.newarray .int, 2) := by decide +kernel
theorem dX11_init_379 : decode cX11_init 379 = .ok (.putfield 137, 3) := by decide +kernel
theorem dX11_init_382 : decode cX11_init 382 = .ok (.aload_n 0, 1) := by decide +kernel
theorem dX11_init_383 : decode cX11_init 383 = .ok (.iconst (-1), 1) := by decide +kernel
theorem dX11_init_384 : decode cX11_init 384 = .ok (.putfield 140, 3) := by decide +kernel
theorem dX11_init_387 : decode cX11_init 387 = .ok (.aload_n 0, 1) := by decide +kernel
theorem dX11_init_388 : decode cX11_init 388 = .ok (.bipush 18, 2) := by decide +kernel
theorem dX11_init_390 : decode cX11_init 390 = .ok (.newarray .int, 2) := by decide +kernel
theorem dX11_init_392 : decode cX11_init 392 = .ok (.putfield 143, 3) := by decide +kernel
theorem dX11_init_395 : decode cX11_init 395 = .ok (.aload_n 0, 1) := by decide +kernel
theorem dX11_init_396 : decode cX11_init 396 = .ok (.iconst (-1), 1) := by decide +kernel
theorem dX11_init_397 : decode cX11_init 397 = .ok (.putfield 146, 3) := by decide +kernel
theorem dX11_init_400 : decode cX11_init 400 = .ok (.aload_n 0, 1) := by decide +kernel
theorem dX11_init_401 : decode cX11_init 401 = .ok (.iconst (-1), 1) := by decide +kernel
theorem dX11_init_402 : decode cX11_init 402 = .ok (.putfield 149, 3) := by decide +kernel
theorem dX11_init_405 : decode cX11_init 405 = .ok (.aload_n 0, 1) := by decide +kernel
theorem dX11_init_406 : decode cX11_init 406 = .ok (.getfield 13, 3) := by decide +kernel
theorem dX11_init_409 : decode cX11_init 409 = .ok (.iconst 4, 1) := by decide +kernel
theorem dX11_init_410 : decode cX11_init 410 = .ok (.iconst (-1), 1) := by decide +kernel
theorem dX11_init_411 : decode cX11_init 411 = .ok (.iastore, 1) := by decide +kernel
theorem dX11_init_412 : decode cX11_init 412 = .ok (.aload_n 0, 1) := by decide +kernel
theorem dX11_init_413 : decode cX11_init 413 = .ok (.getfield 13, 3) := by decide +kernel
theorem dX11_init_416 : decode cX11_init 416 = .ok (.bipush 6, 2) := by decide +kernel
theorem dX11_init_418 : decode cX11_init 418 = .ok (.iconst 1, 1) := by decide +kernel
theorem dX11_init_419 : decode cX11_init 419 = .ok (.iastore, 1) := by decide +kernel
theorem dX11_init_420 : decode cX11_init 420 = .ok (.aload_n 0, 1) := by decide +kernel
theorem dX11_init_421 : decode cX11_init 421 = .ok (.getfield 13, 3) := by decide +kernel
theorem dX11_init_424 : decode cX11_init 424 = .ok (.bipush 8, 2) := by decide +kernel
theorem dX11_init_426 : decode cX11_init 426 = .ok (.iconst 1, 1) := by decide +kernel
theorem dX11_init_427 : decode cX11_init 427 = .ok (.iastore, 1) := by decide +kernel
theorem dX11_init_428 : decode cX11_init 428 = .ok (.return_, 1) := by decide +kernel
theorem dX11_in_0 : decode cX11_in 0 = .ok (.lload_n 0, 1) := by decide +kernel
theorem dX11_in_1 : decode cX11_in 1 = .ok (.lload_n 2, 1) := by decide +kernel
theorem dX11_in_2 : decode cX11_in 2 = .ok (.lcmp, 1) := by decide +kernel
theorem dX11_in_3 : decode cX11_in 3 = .ok (.ifCond .lt 14, 3) := by decide +kernel
theorem dX11_in_6 : decode cX11_in 6 = .ok (.lload_n 0, 1) := by decide +kernel
theorem dX11_in_7 : decode cX11_in 7 = .ok (.lload 4, 2) := by decide +kernel
theorem dX11_in_9 : decode cX11_in 9 = .ok (.lcmp, 1) := by decide +kernel
theorem dX11_in_10 : decode cX11_in 10 = .ok (.ifCond .gt 7, 3) := by decide +kernel
theorem dX11_in_13 : decode cX11_in 13 = .ok (.iconst 1, 1) := by decide +kernel
theorem dX11_in_14 : decode cX11_in 14 = .ok (.goto 4, 3) := by decide +kernel
theorem dX11_in_17 : decode cX11_in 17 = .ok (.iconst 0, 1) := by decide +kernel
theorem dX11_in_18 : decode cX11_in 18 = .ok (.ireturn, 1) := by decide +kernel
theorem dX11_is_0 : decode cX11_is 0 = .ok (.iload_n 0, 1) := by decide +kernel
theorem dX11_is_1 : decode cX11_is 1 = .ok (.iload_n 1, 1) := by decide +kernel
theorem dX11_is_2 : decode cX11_is 2 = .ok (.ishr, 1) := by decide +kernel
theorem dX11_is_3 : decode cX11_is 3 = .ok (.iconst 1, 1) := by decide +kernel
theorem dX11_is_4 : decode cX11_is 4 = .ok (.iand, 1) := by decide +kernel
theorem dX11_is_5 : decode cX11_is 5 = .ok (.iconst 1, 1) := by decide +kernel
theorem dX11_is_6 : decode cX11_is 6 = .ok (.if_icmp .ne 7, 3) := by decide +kernel
theorem dX11_is_9 : decode cX11_is 9 = .ok (.iconst 1, 1) := by decide +kernel
theorem dX11_is_10 : decode cX11_is 10 = .ok (.goto 4, 3) := by decide +kernel
theorem dX11_is_13 : decode cX11_is 13 = .ok (.iconst 0, 1) := by decide +kernel
theorem dX11_is_14 : decode cX11_is 14 = .ok (.ireturn, 1) := by decide +kernel
theorem dX11_ones_0 : decode cX11_ones 0 = .ok (.iconst 0, 1) := by decide +kernel
theorem dX11_ones_1 : decode cX11_ones 1 = .ok (.istore_n 1, 1) := by decide +kernel
theorem dX11_ones_2 : decode cX11_ones 2 = .ok (.iconst 0, 1) := by decide +kernel
theorem dX11_ones_3 : decode cX11_ones 3 = .ok (.istore_n 2, 1) := by decide +kernel
theorem dX11_ones_4 : decode cX11_ones 4 = .ok (.iload_n 2, 1) := by decide +kernel
theorem dX11_ones_5 : decode cX11_ones 5 = .ok (.bipush 7, 2) := by decide +kernel
theorem dX11_ones_7 : decode cX11_ones 7 = .ok (.if_icmp .ge 17, 3) := by decide +kernel
theorem dX11_ones_10 : decode cX11_ones 10 = .ok (.iload_n 1, 1) := by decide +kernel
theorem dX11_ones_11 : decode cX11_ones 11 = .ok (.iload_n 0, 1) := by decide +kernel
theorem dX11_ones_12 : decode cX11_ones 12 = .ok (.iload_n 2, 1) := by decide +kernel
theorem dX11_ones_13 : decode cX11_ones 13 = .ok (.ishr, 1) := by decide +kernel
theorem dX11_ones_14 : decode cX11_ones 14 = .ok (.iconst 1, 1) := by decide +kernel
theorem dX11_ones_15 : decode cX11_ones 15 = .ok (.iand, 1) := by decide +kernel
theorem dX11_ones_16 : decode cX11_ones 16 = .ok (.iadd, 1) := by decide +kernel
theorem dX11_ones_17 : decode cX11_ones 17 = .ok (.istore_n 1, 1) := by decide +kernel
theorem dX11_ones_18 : decode cX11_ones 18 = .ok (.iinc 2 1, 3) := by decide +kernel
theorem dX11_ones_21 : decode cX11_ones 21 = .ok (.goto (-17), 3) := by decide +kernel
theorem dX11_ones_24 : decode cX11_ones 24 = .ok (.iload_n 1, 1) := by decide +kernel
theorem dX11_ones_25 : decode cX11_ones 25 = .ok (.ireturn, 1) := by decide +kernel
theorem dX11_bounded_0 : decode cX11_bounded 0 = .ok (.lload_n 0, 1) := by decide +kernel
theorem dX11_bounded_1 : decode cX11_bounded 1 = .ok (.iload_n 2, 1) := by decide +kernel
theorem dX11_bounded_2 : decode cX11_bounded 2 = .ok (.i2l, 1) := by decide +kernel
theorem dX11_bounded_3 : decode cX11_bounded 3 = .ok (.lcmp, 1) := by decide +kernel
theorem dX11_bounded_4 : decode cX11_bounded 4 = .ok (.ifCond .ge 7, 3) := by decide +kernel
theorem dX11_bounded_7 : decode cX11_bounded 7 = .ok (.iload_n 2, 1) := by decide +kernel
theorem dX11_bounded_8 : decode cX11_bounded 8 = .ok (.goto 16, 3) := by decide +kernel
theorem dX11_bounded_11 : decode cX11_bounded 11 = .ok (.lload_n 0, 1) := by decide +kernel
theorem dX11_bounded_12 : decode cX11_bounded 12 = .ok (.iload_n 3, 1) := by decide +kernel
theorem dX11_bounded_13 : decode cX11_bounded 13 = .ok (.i2l, 1) := by decide +kernel
theorem dX11_bounded_14 : decode cX11_bounded 14 = .ok (.lcmp, 1) := by decide +kernel
theorem dX11_bounded_15 : decode cX11_bounded 15 = .ok (.ifCond .le 7, 3) := by decide +kernel
theorem dX11_bounded_18 : decode cX11_bounded 18 = .ok (.iload_n 3, 1) := by decide +kernel
theorem dX11_bounded_19 : decode cX11_bounded 19 = .ok (.goto 5, 3) := by decide +kernel
theorem dX11_bounded_22 : decode cX11_bounded 22 = .ok (.lload_n 0, 1) := by decide +kernel
theorem dX11_bounded_23 : decode cX11_bounded 23 = .ok (.l2i, 1) := by decide +kernel
theorem dX11_bounded_24 : decode cX11_bounded 24 = .ok (.ireturn, 1) := by decide +kernel
theorem dX11_tell_0 : decode cX11_tell 0 = .ok (.aload_n 0, 1) := by decide +kernel
theorem dX11_tell_1 : decode cX11_tell 1 = .ok (.iload_n 1, 1) := by decide +kernel
theorem dX11_tell_2 : decode cX11_tell 2 = .ok (.ifCond .ge 7, 3) := by decide +kernel
theorem dX11_tell_5 : decode cX11_tell 5 = .ok (.iload_n 1, 1) := by decide +kernel
theorem dX11_tell_6 : decode cX11_tell 6 = .ok (.goto 4, 3) := by decide +kernel
theorem dX11_tell_9 : decode cX11_tell 9 = .ok (.iconst 0, 1) := by decide +kernel
theorem dX11_tell_10 : decode cX11_tell 10 = .ok (.putfield 155, 3) := by decide +kernel
theorem dX11_tell_13 : decode cX11_tell 13 = .ok (.iload_n 1, 1) := by decide +kernel
theorem dX11_tell_14 : decode cX11_tell 14 = .ok (.ifCond .ge 14, 3) := by decide +kernel
theorem dX11_tell_17 : decode cX11_tell 17 = .ok (.aload_n 0, 1) := by decide +kernel
theorem dX11_tell_18 : decode cX11_tell 18 = .ok (.getfield 7, 3) := by decide +kernel
theorem dX11_tell_21 : decode cX11_tell 21 = .ok (.iload_n 1, 1) := by decide +kernel
theorem dX11_tell_22 : decode cX11_tell 22 = .ok (.ineg, 1) := by decide +kernel
theorem dX11_tell_23 : decode cX11_tell 23 = .ok (.dup2, 1) := by decide +kernel
theorem dX11_tell_24 : decode cX11_tell 24 = .ok (.iaload, 1) := by decide +kernel
theorem dX11_tell_25 : decode cX11_tell 25 = .ok (.iconst 1, 1) := by decide +kernel
theorem dX11_tell_26 : decode cX11_tell 26 = .ok (.iadd, 1) := by decide +kernel
theorem dX11_tell_27 : decode cX11_tell 27 = .ok (.iastore, 1) := by decide +kernel
theorem dX11_tell_28 : decode cX11_tell 28 = .ok (.iload_n 1, 1) := by decide +kernel
theorem dX11_tell_29 : decode cX11_tell 29 = .ok (.ireturn, 1) := by decide +kernel
theorem dX11_change_0 : decode cX11_change 0 = .ok (.aload_n 0, 1) := by decide +kernel
theorem dX11_change_1 : decode cX11_change 1 = .ok (.getfield 13, 3) := by decide +kernel
theorem dX11_change_4 : decode cX11_change 4 = .ok (.iload_n 1, 1) := by decide +kernel
theorem dX11_change_5 : decode cX11_change 5 = .ok (.iaload, 1) := by decide +kernel
theorem dX11_change_6 : decode cX11_change 6 = .ok (.istore_n 3, 1) := by decide +kernel
theorem dX11_change_7 : decode cX11_change 7 = .ok (.aload_n 0, 1) := by decide +kernel
theorem dX11_change_8 : decode cX11_change 8 = .ok (.getfield 13, 3) := by decide +kernel
theorem dX11_change_11 : decode cX11_change 11 = .ok (.iload_n 1, 1) := by decide +kernel
theorem dX11_change_12 : decode cX11_change 12 = .ok (.iload_n 2, 1) := by decide +kernel
theorem dX11_change_13 : decode cX11_change 13 = .ok (.iastore, 1) := by decide +kernel
theorem dX11_change_14 : decode cX11_change 14 = .ok (.aload_n 0, 1) := by decide +kernel
theorem dX11_change_15 : decode cX11_change 15 = .ok (.iconst 0, 1) := by decide +kernel
theorem dX11_change_16 : decode cX11_change 16 = .ok (.putfield 155, 3) := by decide +kernel
theorem dX11_change_19 : decode cX11_change 19 = .ok (.iload_n 3, 1) := by decide +kernel
theorem dX11_change_20 : decode cX11_change 20 = .ok (.ireturn, 1) := by decide +kernel
theorem dX11_lasting_0 : decode cX11_lasting 0 = .ok (.aload_n 0, 1) := by decide +kernel
theorem dX11_lasting_1 : decode cX11_lasting 1 = .ok (.iload_n 1, 1) := by decide +kernel
theorem dX11_lasting_2 : decode cX11_lasting 2 = .ok (.ifCond .ge 10, 3) := by decide +kernel
theorem dX11_lasting_5 : decode cX11_lasting 5 = .ok (.aload_n 0, 1) := by decide +kernel
theorem dX11_lasting_6 : decode cX11_lasting 6 = .ok (.getfield 158, 3) := by decide +kernel
theorem dX11_lasting_9 : decode cX11_lasting 9 = .ok (.goto 4, 3) := by decide +kernel
theorem dX11_lasting_12 : decode cX11_lasting 12 = .ok (.iconst 0, 1) := by decide +kernel
theorem dX11_lasting_13 : decode cX11_lasting 13 = .ok (.putfield 158, 3) := by decide +kernel
theorem dX11_lasting_16 : decode cX11_lasting 16 = .ok (.aload_n 0, 1) := by decide +kernel
theorem dX11_lasting_17 : decode cX11_lasting 17 = .ok (.iload_n 1, 1) := by decide +kernel
theorem dX11_lasting_18 : decode cX11_lasting 18 = .ok (.invokevirtual 161, 3) := by decide +kernel
theorem dX11_lasting_21 : decode cX11_lasting 21 = .ok (.ireturn, 1) := by decide +kernel
theorem dX11_keepAll_0 : decode cX11_keepAll 0 = .ok (.iconst 0, 1) := by decide +kernel
theorem dX11_keepAll_1 : decode cX11_keepAll 1 = .ok (.istore_n 2, 1) := by decide +kernel
theorem dX11_keepAll_2 : decode cX11_keepAll 2 = .ok (.iload_n 2, 1) := by decide +kernel
theorem dX11_keepAll_3 : decode cX11_keepAll 3 = .ok (.bipush 18, 2) := by decide +kernel
theorem dX11_keepAll_5 : decode cX11_keepAll 5 = .ok (.if_icmp .ge 28, 3) := by decide +kernel
theorem dX11_keepAll_8 : decode cX11_keepAll 8 = .ok (.aload_n 0, 1) := by decide +kernel
theorem dX11_keepAll_9 : decode cX11_keepAll 9 = .ok (.getfield 23, 3) := by decide +kernel
theorem dX11_keepAll_12 : decode cX11_keepAll 12 = .ok (.bipush 18, 2) := by decide +kernel
theorem dX11_keepAll_14 : decode cX11_keepAll 14 = .ok (.iload_n 1, 1) := by decide +kernel
theorem dX11_keepAll_15 : decode cX11_keepAll 15 = .ok (.imul, 1) := by decide +kernel
theorem dX11_keepAll_16 : decode cX11_keepAll 16 = .ok (.iload_n 2, 1) := by decide +kernel
theorem dX11_keepAll_17 : decode cX11_keepAll 17 = .ok (.iadd, 1) := by decide +kernel
theorem dX11_keepAll_18 : decode cX11_keepAll 18 = .ok (.aload_n 0, 1) := by decide +kernel
theorem dX11_keepAll_19 : decode cX11_keepAll 19 = .ok (.getfield 13, 3) := by decide +kernel
theorem dX11_keepAll_22 : decode cX11_keepAll 22 = .ok (.iconst 5, 1) := by decide +kernel
theorem dX11_keepAll_23 : decode cX11_keepAll 23 = .ok (.iload_n 2, 1) := by decide +kernel
theorem dX11_keepAll_24 : decode cX11_keepAll 24 = .ok (.iadd, 1) := by decide +kernel
theorem dX11_keepAll_25 : decode cX11_keepAll 25 = .ok (.iaload, 1) := by decide +kernel
theorem dX11_keepAll_26 : decode cX11_keepAll 26 = .ok (.iastore, 1) := by decide +kernel
theorem dX11_keepAll_27 : decode cX11_keepAll 27 = .ok (.iinc 2 1, 3) := by decide +kernel
theorem dX11_keepAll_30 : decode cX11_keepAll 30 = .ok (.goto (-28), 3) := by decide +kernel
theorem dX11_keepAll_33 : decode cX11_keepAll 33 = .ok (.return_, 1) := by decide +kernel
theorem dX11_putBack_0 : decode cX11_putBack 0 = .ok (.iconst 0, 1) := by decide +kernel
theorem dX11_putBack_1 : decode cX11_putBack 1 = .ok (.istore_n 2, 1) := by decide +kernel
theorem dX11_putBack_2 : decode cX11_putBack 2 = .ok (.iload_n 2, 1) := by decide +kernel
theorem dX11_putBack_3 : decode cX11_putBack 3 = .ok (.bipush 18, 2) := by decide +kernel
theorem dX11_putBack_5 : decode cX11_putBack 5 = .ok (.if_icmp .ge 28, 3) := by decide +kernel
theorem dX11_putBack_8 : decode cX11_putBack 8 = .ok (.aload_n 0, 1) := by decide +kernel
theorem dX11_putBack_9 : decode cX11_putBack 9 = .ok (.getfield 13, 3) := by decide +kernel
theorem dX11_putBack_12 : decode cX11_putBack 12 = .ok (.iconst 5, 1) := by decide +kernel
theorem dX11_putBack_13 : decode cX11_putBack 13 = .ok (.iload_n 2, 1) := by decide +kernel
theorem dX11_putBack_14 : decode cX11_putBack 14 = .ok (.iadd, 1) := by decide +kernel
theorem dX11_putBack_15 : decode cX11_putBack 15 = .ok (.aload_n 0, 1) := by decide +kernel
theorem dX11_putBack_16 : decode cX11_putBack 16 = .ok (.getfield 23, 3) := by decide +kernel
theorem dX11_putBack_19 : decode cX11_putBack 19 = .ok (.bipush 18, 2) := by decide +kernel
theorem dX11_putBack_21 : decode cX11_putBack 21 = .ok (.iload_n 1, 1) := by decide +kernel
theorem dX11_putBack_22 : decode cX11_putBack 22 = .ok (.imul, 1) := by decide +kernel
theorem dX11_putBack_23 : decode cX11_putBack 23 = .ok (.iload_n 2, 1) := by decide +kernel
theorem dX11_putBack_24 : decode cX11_putBack 24 = .ok (.iadd, 1) := by decide +kernel
theorem dX11_putBack_25 : decode cX11_putBack 25 = .ok (.iaload, 1) := by decide +kernel
theorem dX11_putBack_26 : decode cX11_putBack 26 = .ok (.iastore, 1) := by decide +kernel
theorem dX11_putBack_27 : decode cX11_putBack 27 = .ok (.iinc 2 1, 3) := by decide +kernel
theorem dX11_putBack_30 : decode cX11_putBack 30 = .ok (.goto (-28), 3) := by decide +kernel
theorem dX11_putBack_33 : decode cX11_putBack 33 = .ok (.return_, 1) := by decide +kernel
theorem dX11_remember_0 : decode cX11_remember 0 = .ok (.aload_n 0, 1) := by decide +kernel
theorem dX11_remember_1 : decode cX11_remember 1 = .ok (.getfield 158, 3) := by decide +kernel
theorem dX11_remember_4 : decode cX11_remember 4 = .ok (.bipush 16, 2) := by decide +kernel
theorem dX11_remember_6 : decode cX11_remember 6 = .ok (.if_icmp .ne 71, 3) := by decide +kernel
theorem dX11_remember_9 : decode cX11_remember 9 = .ok (.iconst 0, 1) := by decide +kernel
theorem dX11_remember_10 : decode cX11_remember 10 = .ok (.istore_n 2, 1) := by decide +kernel
theorem dX11_remember_11 : decode cX11_remember 11 = .ok (.iload_n 2, 1) := by decide +kernel
theorem dX11_remember_12 : decode cX11_remember 12 = .ok (.sipush 270, 3) := by decide +kernel
theorem dX11_remember_15 : decode cX11_remember 15 = .ok (.if_icmp .ge 24, 3) := by decide +kernel
theorem dX11_remember_18 : decode cX11_remember 18 = .ok (.aload_n 0, 1) := by decide +kernel
theorem dX11_remember_19 : decode cX11_remember 19 = .ok (.getfield 23, 3) := by decide +kernel
theorem dX11_remember_22 : decode cX11_remember 22 = .ok (.iload_n 2, 1) := by decide +kernel
theorem dX11_remember_23 : decode cX11_remember 23 = .ok (.aload_n 0, 1) := by decide +kernel
theorem dX11_remember_24 : decode cX11_remember 24 = .ok (.getfield 23, 3) := by decide +kernel
theorem dX11_remember_27 : decode cX11_remember 27 = .ok (.iload_n 2, 1) := by decide +kernel
theorem dX11_remember_28 : decode cX11_remember 28 = .ok (.bipush 18, 2) := by decide +kernel
theorem dX11_remember_30 : decode cX11_remember 30 = .ok (.iadd, 1) := by decide +kernel
theorem dX11_remember_31 : decode cX11_remember 31 = .ok (.iaload, 1) := by decide +kernel
theorem dX11_remember_32 : decode cX11_remember 32 = .ok (.iastore, 1) := by decide +kernel
theorem dX11_remember_33 : decode cX11_remember 33 = .ok (.iinc 2 1, 3) := by decide +kernel
theorem dX11_remember_36 : decode cX11_remember 36 = .ok (.goto (-25), 3) := by decide +kernel
theorem dX11_remember_39 : decode cX11_remember 39 = .ok (.iconst 0, 1) := by decide +kernel
theorem dX11_remember_40 : decode cX11_remember 40 = .ok (.istore_n 2, 1) := by decide +kernel
theorem dX11_remember_41 : decode cX11_remember 41 = .ok (.iload_n 2, 1) := by decide +kernel
theorem dX11_remember_42 : decode cX11_remember 42 = .ok (.bipush 15, 2) := by decide +kernel
theorem dX11_remember_44 : decode cX11_remember 44 = .ok (.if_icmp .ge 23, 3) := by decide +kernel
theorem dX11_remember_47 : decode cX11_remember 47 = .ok (.aload_n 0, 1) := by decide +kernel
theorem dX11_remember_48 : decode cX11_remember 48 = .ok (.getfield 26, 3) := by decide +kernel
theorem dX11_remember_51 : decode cX11_remember 51 = .ok (.iload_n 2, 1) := by decide +kernel
theorem dX11_remember_52 : decode cX11_remember 52 = .ok (.aload_n 0, 1) := by decide +kernel
theorem dX11_remember_53 : decode cX11_remember 53 = .ok (.getfield 26, 3) := by decide +kernel
theorem dX11_remember_56 : decode cX11_remember 56 = .ok (.iload_n 2, 1) := by decide +kernel
theorem dX11_remember_57 : decode cX11_remember 57 = .ok (.iconst 1, 1) := by decide +kernel
theorem dX11_remember_58 : decode cX11_remember 58 = .ok (.iadd, 1) := by decide +kernel
theorem dX11_remember_59 : decode cX11_remember 59 = .ok (.iaload, 1) := by decide +kernel
theorem dX11_remember_60 : decode cX11_remember 60 = .ok (.iastore, 1) := by decide +kernel
theorem dX11_remember_61 : decode cX11_remember 61 = .ok (.iinc 2 1, 3) := by decide +kernel
theorem dX11_remember_64 : decode cX11_remember 64 = .ok (.goto (-23), 3) := by decide +kernel
theorem dX11_remember_67 : decode cX11_remember 67 = .ok (.aload_n 0, 1) := by decide +kernel
theorem dX11_remember_68 : decode cX11_remember 68 = .ok (.dup, 1) := by decide +kernel
theorem dX11_remember_69 : decode cX11_remember 69 = .ok (.getfield 158, 3) := by decide +kernel
theorem dX11_remember_72 : decode cX11_remember 72 = .ok (.iconst 1, 1) := by decide +kernel
theorem dX11_remember_73 : decode cX11_remember 73 = .ok (.isub, 1) := by decide +kernel
theorem dX11_remember_74 : decode cX11_remember 74 = .ok (.putfield 158, 3) := by decide +kernel
theorem dX11_remember_77 : decode cX11_remember 77 = .ok (.aload_n 0, 1) := by decide +kernel
theorem dX11_remember_78 : decode cX11_remember 78 = .ok (.aload_n 0, 1) := by decide +kernel
theorem dX11_remember_79 : decode cX11_remember 79 = .ok (.getfield 158, 3) := by decide +kernel
theorem dX11_remember_82 : decode cX11_remember 82 = .ok (.invokevirtual 165, 3) := by decide +kernel
theorem dX11_remember_85 : decode cX11_remember 85 = .ok (.aload_n 0, 1) := by decide +kernel
theorem dX11_remember_86 : decode cX11_remember 86 = .ok (.getfield 26, 3) := by decide +kernel
theorem dX11_remember_89 : decode cX11_remember 89 = .ok (.aload_n 0, 1) := by decide +kernel
theorem dX11_remember_90 : decode cX11_remember 90 = .ok (.getfield 158, 3) := by decide +kernel
theorem dX11_remember_93 : decode cX11_remember 93 = .ok (.iload_n 1, 1) := by decide +kernel
theorem dX11_remember_94 : decode cX11_remember 94 = .ok (.iastore, 1) := by decide +kernel
theorem dX11_remember_95 : decode cX11_remember 95 = .ok (.aload_n 0, 1) := by decide +kernel
theorem dX11_remember_96 : decode cX11_remember 96 = .ok (.dup, 1) := by decide +kernel
theorem dX11_remember_97 : decode cX11_remember 97 = .ok (.getfield 158, 3) := by decide +kernel
theorem dX11_remember_100 : decode cX11_remember 100 = .ok (.iconst 1, 1) := by decide +kernel
theorem dX11_remember_101 : decode cX11_remember 101 = .ok (.iadd, 1) := by decide +kernel
theorem dX11_remember_102 : decode cX11_remember 102 = .ok (.putfield 158, 3) := by decide +kernel
theorem dX11_remember_105 : decode cX11_remember 105 = .ok (.return_, 1) := by decide +kernel
theorem dX11_undo_0 : decode cX11_undo 0 = .ok (.aload_n 0, 1) := by decide +kernel
theorem dX11_undo_1 : decode cX11_undo 1 = .ok (.iconst 0, 1) := by decide +kernel
theorem dX11_undo_2 : decode cX11_undo 2 = .ok (.putfield 152, 3) := by decide +kernel
theorem dX11_undo_5 : decode cX11_undo 5 = .ok (.aload_n 0, 1) := by decide +kernel
theorem dX11_undo_6 : decode cX11_undo 6 = .ok (.getfield 158, 3) := by decide +kernel
theorem dX11_undo_9 : decode cX11_undo 9 = .ok (.ifCond .ne 10, 3) := by decide +kernel
theorem dX11_undo_12 : decode cX11_undo 12 = .ok (.aload_n 0, 1) := by decide +kernel
theorem dX11_undo_13 : decode cX11_undo 13 = .ok (.bipush (-3), 2) := by decide +kernel
theorem dX11_undo_15 : decode cX11_undo 15 = .ok (.invokevirtual 161, 3) := by decide +kernel
theorem dX11_undo_18 : decode cX11_undo 18 = .ok (.ireturn, 1) := by decide +kernel
theorem dX11_undo_19 : decode cX11_undo 19 = .ok (.aload_n 0, 1) := by decide +kernel
theorem dX11_undo_20 : decode cX11_undo 20 = .ok (.dup, 1) := by decide +kernel
theorem dX11_undo_21 : decode cX11_undo 21 = .ok (.getfield 158, 3) := by decide +kernel
theorem dX11_undo_24 : decode cX11_undo 24 = .ok (.iconst 1, 1) := by decide +kernel
theorem dX11_undo_25 : decode cX11_undo 25 = .ok (.isub, 1) := by decide +kernel
theorem dX11_undo_26 : decode cX11_undo 26 = .ok (.putfield 158, 3) := by decide +kernel
theorem dX11_undo_29 : decode cX11_undo 29 = .ok (.aload_n 0, 1) := by decide +kernel
theorem dX11_undo_30 : decode cX11_undo 30 = .ok (.aload_n 0, 1) := by decide +kernel
theorem dX11_undo_31 : decode cX11_undo 31 = .ok (.getfield 158, 3) := by decide +kernel
theorem dX11_undo_34 : decode cX11_undo 34 = .ok (.invokevirtual 169, 3) := by decide +kernel
theorem dX11_undo_37 : decode cX11_undo 37 = .ok (.aload_n 0, 1) := by decide +kernel
theorem dX11_undo_38 : decode cX11_undo 38 = .ok (.aload_n 0, 1) := by decide +kernel
theorem dX11_undo_39 : decode cX11_undo 39 = .ok (.getfield 26, 3) := by decide +kernel
theorem dX11_undo_42 : decode cX11_undo 42 = .ok (.aload_n 0, 1) := by decide +kernel
theorem dX11_undo_43 : decode cX11_undo 43 = .ok (.getfield 158, 3) := by decide +kernel
theorem dX11_undo_46 : decode cX11_undo 46 = .ok (.iaload, 1) := by decide +kernel
theorem dX11_undo_47 : decode cX11_undo 47 = .ok (.invokevirtual 161, 3) := by decide +kernel
theorem dX11_undo_50 : decode cX11_undo 50 = .ok (.ireturn, 1) := by decide +kernel
theorem dX11_image_0 : decode cX11_image 0 = .ok (.aload_n 0, 1) := by decide +kernel
theorem dX11_image_1 : decode cX11_image 1 = .ok (.iconst 0, 1) := by decide +kernel
theorem dX11_image_2 : decode cX11_image 2 = .ok (.putfield 152, 3) := by decide +kernel
theorem dX11_image_5 : decode cX11_image 5 = .ok (.iload_n 1, 1) := by decide +kernel
theorem dX11_image_6 : decode cX11_image 6 = .ok (.i2l, 1) := by decide +kernel
theorem dX11_image_7 : decode cX11_image 7 = .ok (.lconst 0, 1) := by decide +kernel
theorem dX11_image_8 : decode cX11_image 8 = .ok (.lconst 1, 1) := by decide +kernel
theorem dX11_image_9 : decode cX11_image 9 = .ok (.invokestatic 172, 3) := by decide +kernel
theorem dX11_image_12 : decode cX11_image 12 = .ok (.ifCond .ne 9, 3) := by decide +kernel
theorem dX11_image_15 : decode cX11_image 15 = .ok (.aload_n 0, 1) := by decide +kernel
theorem dX11_image_16 : decode cX11_image 16 = .ok (.iconst (-1), 1) := by decide +kernel
theorem dX11_image_17 : decode cX11_image 17 = .ok (.invokevirtual 161, 3) := by decide +kernel
theorem dX11_image_20 : decode cX11_image 20 = .ok (.ireturn, 1) := by decide +kernel
theorem dX11_image_21 : decode cX11_image 21 = .ok (.iconst 0, 1) := by decide +kernel
theorem dX11_image_22 : decode cX11_image 22 = .ok (.istore_n 2, 1) := by decide +kernel
theorem dX11_image_23 : decode cX11_image 23 = .ok (.iload_n 2, 1) := by decide +kernel
theorem dX11_image_24 : decode cX11_image 24 = .ok (.sipush 5490, 3) := by decide +kernel
theorem dX11_image_27 : decode cX11_image 27 = .ok (.if_icmp .ge 27, 3) := by decide +kernel
theorem dX11_image_30 : decode cX11_image 30 = .ok (.aload_n 0, 1) := by decide +kernel
theorem dX11_image_31 : decode cX11_image 31 = .ok (.getfield 16, 3) := by decide +kernel
theorem dX11_image_34 : decode cX11_image 34 = .ok (.sipush 5490, 3) := by decide +kernel
theorem dX11_image_37 : decode cX11_image 37 = .ok (.iload_n 1, 1) := by decide +kernel
theorem dX11_image_38 : decode cX11_image 38 = .ok (.imul, 1) := by decide +kernel
theorem dX11_image_39 : decode cX11_image 39 = .ok (.iload_n 2, 1) := by decide +kernel
theorem dX11_image_40 : decode cX11_image 40 = .ok (.iadd, 1) := by decide +kernel
theorem dX11_image_41 : decode cX11_image 41 = .ok (.aload_n 0, 1) := by decide +kernel
theorem dX11_image_42 : decode cX11_image 42 = .ok (.getfield 13, 3) := by decide +kernel
theorem dX11_image_45 : decode cX11_image 45 = .ok (.iload_n 2, 1) := by decide +kernel
theorem dX11_image_46 : decode cX11_image 46 = .ok (.iaload, 1) := by decide +kernel
theorem dX11_image_47 : decode cX11_image 47 = .ok (.iastore, 1) := by decide +kernel
theorem dX11_image_48 : decode cX11_image 48 = .ok (.iinc 2 1, 3) := by decide +kernel
theorem dX11_image_51 : decode cX11_image 51 = .ok (.goto (-28), 3) := by decide +kernel
theorem dX11_image_54 : decode cX11_image 54 = .ok (.aload_n 0, 1) := by decide +kernel
theorem dX11_image_55 : decode cX11_image 55 = .ok (.getfield 19, 3) := by decide +kernel
theorem dX11_image_58 : decode cX11_image 58 = .ok (.iload_n 1, 1) := by decide +kernel
theorem dX11_image_59 : decode cX11_image 59 = .ok (.iconst 1, 1) := by decide +kernel
theorem dX11_image_60 : decode cX11_image 60 = .ok (.bastore, 1) := by decide +kernel
theorem dX11_image_61 : decode cX11_image 61 = .ok (.aload_n 0, 1) := by decide +kernel
theorem dX11_image_62 : decode cX11_image 62 = .ok (.iconst 0, 1) := by decide +kernel
theorem dX11_image_63 : decode cX11_image 63 = .ok (.invokevirtual 161, 3) := by decide +kernel
theorem dX11_image_66 : decode cX11_image 66 = .ok (.ireturn, 1) := by decide +kernel
theorem dX11_back_0 : decode cX11_back 0 = .ok (.aload_n 0, 1) := by decide +kernel
theorem dX11_back_1 : decode cX11_back 1 = .ok (.iconst 0, 1) := by decide +kernel
theorem dX11_back_2 : decode cX11_back 2 = .ok (.putfield 152, 3) := by decide +kernel
theorem dX11_back_5 : decode cX11_back 5 = .ok (.iload_n 1, 1) := by decide +kernel
theorem dX11_back_6 : decode cX11_back 6 = .ok (.i2l, 1) := by decide +kernel
theorem dX11_back_7 : decode cX11_back 7 = .ok (.lconst 0, 1) := by decide +kernel
theorem dX11_back_8 : decode cX11_back 8 = .ok (.lconst 1, 1) := by decide +kernel
theorem dX11_back_9 : decode cX11_back 9 = .ok (.invokestatic 172, 3) := by decide +kernel
theorem dX11_back_12 : decode cX11_back 12 = .ok (.ifCond .ne 9, 3) := by decide +kernel
theorem dX11_back_15 : decode cX11_back 15 = .ok (.aload_n 0, 1) := by decide +kernel
theorem dX11_back_16 : decode cX11_back 16 = .ok (.iconst (-1), 1) := by decide +kernel
theorem dX11_back_17 : decode cX11_back 17 = .ok (.invokevirtual 161, 3) := by decide +kernel
theorem dX11_back_20 : decode cX11_back 20 = .ok (.ireturn, 1) := by decide +kernel
theorem dX11_back_21 : decode cX11_back 21 = .ok (.aload_n 0, 1) := by decide +kernel
theorem dX11_back_22 : decode cX11_back 22 = .ok (.getfield 19, 3) := by decide +kernel
theorem dX11_back_25 : decode cX11_back 25 = .ok (.iload_n 1, 1) := by decide +kernel
theorem dX11_back_26 : decode cX11_back 26 = .ok (.baload, 1) := by decide +kernel
theorem dX11_back_27 : decode cX11_back 27 = .ok (.ifCond .ne 10, 3) := by decide +kernel
theorem dX11_back_30 : decode cX11_back 30 = .ok (.aload_n 0, 1) := by decide +kernel
theorem dX11_back_31 : decode cX11_back 31 = .ok (.bipush (-2), 2) := by decide +kernel
theorem dX11_back_33 : decode cX11_back 33 = .ok (.invokevirtual 161, 3) := by decide +kernel
theorem dX11_back_36 : decode cX11_back 36 = .ok (.ireturn, 1) := by decide +kernel
theorem dX11_back_37 : decode cX11_back 37 = .ok (.iconst 0, 1) := by decide +kernel
theorem dX11_back_38 : decode cX11_back 38 = .ok (.istore_n 2, 1) := by decide +kernel
theorem dX11_back_39 : decode cX11_back 39 = .ok (.iload_n 2, 1) := by decide +kernel
theorem dX11_back_40 : decode cX11_back 40 = .ok (.sipush 5490, 3) := by decide +kernel
theorem dX11_back_43 : decode cX11_back 43 = .ok (.if_icmp .ge 27, 3) := by decide +kernel
theorem dX11_back_46 : decode cX11_back 46 = .ok (.aload_n 0, 1) := by decide +kernel
theorem dX11_back_47 : decode cX11_back 47 = .ok (.getfield 13, 3) := by decide +kernel
theorem dX11_back_50 : decode cX11_back 50 = .ok (.iload_n 2, 1) := by decide +kernel
theorem dX11_back_51 : decode cX11_back 51 = .ok (.aload_n 0, 1) := by decide +kernel
theorem dX11_back_52 : decode cX11_back 52 = .ok (.getfield 16, 3) := by decide +kernel
theorem dX11_back_55 : decode cX11_back 55 = .ok (.sipush 5490, 3) := by decide +kernel
theorem dX11_back_58 : decode cX11_back 58 = .ok (.iload_n 1, 1) := by decide +kernel
theorem dX11_back_59 : decode cX11_back 59 = .ok (.imul, 1) := by decide +kernel
theorem dX11_back_60 : decode cX11_back 60 = .ok (.iload_n 2, 1) := by decide +kernel
theorem dX11_back_61 : decode cX11_back 61 = .ok (.iadd, 1) := by decide +kernel
theorem dX11_back_62 : decode cX11_back 62 = .ok (.iaload, 1) := by decide +kernel
theorem dX11_back_63 : decode cX11_back 63 = .ok (.iastore, 1) := by decide +kernel
theorem dX11_back_64 : decode cX11_back 64 = .ok (.iinc 2 1, 3) := by decide +kernel
theorem dX11_back_67 : decode cX11_back 67 = .ok (.goto (-28), 3) := by decide +kernel
theorem dX11_back_70 : decode cX11_back 70 = .ok (.aload_n 0, 1) := by decide +kernel
theorem dX11_back_71 : decode cX11_back 71 = .ok (.iconst 0, 1) := by decide +kernel
theorem dX11_back_72 : decode cX11_back 72 = .ok (.invokevirtual 176, 3) := by decide +kernel
theorem dX11_back_75 : decode cX11_back 75 = .ok (.ireturn, 1) := by decide +kernel
theorem dX11_isBird_0 : decode cX11_isBird 0 = .ok (.iload_n 1, 1) := by decide +kernel
theorem dX11_isBird_1 : decode cX11_isBird 1 = .ok (.i2l, 1) := by decide +kernel
theorem dX11_isBird_2 : decode cX11_isBird 2 = .ok (.lconst 0, 1) := by decide +kernel
theorem dX11_isBird_3 : decode cX11_isBird 3 = .ok (.aload_n 0, 1) := by decide +kernel
theorem dX11_isBird_4 : decode cX11_isBird 4 = .ok (.getfield 13, 3) := by decide +kernel
theorem dX11_isBird_7 : decode cX11_isBird 7 = .ok (.iconst 0, 1) := by decide +kernel
theorem dX11_isBird_8 : decode cX11_isBird 8 = .ok (.iaload, 1) := by decide +kernel
theorem dX11_isBird_9 : decode cX11_isBird 9 = .ok (.i2l, 1) := by decide +kernel
theorem dX11_isBird_10 : decode cX11_isBird 10 = .ok (.lconst 1, 1) := by decide +kernel
theorem dX11_isBird_11 : decode cX11_isBird 11 = .ok (.lsub, 1) := by decide +kernel
theorem dX11_isBird_12 : decode cX11_isBird 12 = .ok (.invokestatic 172, 3) := by decide +kernel
theorem dX11_isBird_15 : decode cX11_isBird 15 = .ok (.ireturn, 1) := by decide +kernel
theorem dX11_isMatter_0 : decode cX11_isMatter 0 = .ok (.iload_n 1, 1) := by decide +kernel
theorem dX11_isMatter_1 : decode cX11_isMatter 1 = .ok (.i2l, 1) := by decide +kernel
theorem dX11_isMatter_2 : decode cX11_isMatter 2 = .ok (.lconst 0, 1) := by decide +kernel
theorem dX11_isMatter_3 : decode cX11_isMatter 3 = .ok (.aload_n 0, 1) := by decide +kernel
theorem dX11_isMatter_4 : decode cX11_isMatter 4 = .ok (.getfield 13, 3) := by decide +kernel
