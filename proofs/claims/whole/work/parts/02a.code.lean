theorem dX0_init_0 : decode cX0_init 0 = .ok (.aload_n 0, 1) := by decide +kernel
theorem dX0_init_1 : decode cX0_init 1 = .ok (.invokespecial 3, 3) := by decide +kernel
theorem dX0_init_4 : decode cX0_init 4 = .ok (.aload_n 0, 1) := by decide +kernel
theorem dX0_init_5 : decode cX0_init 5 = .ok (.new 9, 3) := by decide +kernel
theorem dX0_init_8 : decode cX0_init 8 = .ok (.dup, 1) := by decide +kernel
theorem dX0_init_9 : decode cX0_init 9 = .ok (.invokespecial 11, 3) := by decide +kernel
theorem dX0_init_12 : decode cX0_init 12 = .ok (.putfield 12, 3) := by decide +kernel
theorem dX0_init_15 : decode cX0_init 15 = .ok (.aload_n 0, 1) := by decide +kernel
theorem dX0_init_16 : decode cX0_init 16 = .ok (.sipush 294, 3) := by decide +kernel
theorem dX0_init_19 : decode cX0_init 19 = .ok (.newarray .int, 2) := by decide +kernel
theorem dX0_init_21 : decode cX0_init 21 = .ok (.putfield 18, 3) := by decide +kernel
theorem dX0_init_24 : decode cX0_init 24 = .ok (.aload_n 0, 1) := by decide +kernel
theorem dX0_init_25 : decode cX0_init 25 = .ok (.bipush 6, 2) := by decide +kernel
theorem dX0_init_27 : decode cX0_init 27 = .ok (.newarray .int, 2) := by decide +kernel
theorem dX0_init_29 : decode cX0_init 29 = .ok (.putfield 22, 3) := by decide +kernel
theorem dX0_init_32 : decode cX0_init 32 = .ok (.aload_n 0, 1) := by decide +kernel
theorem dX0_init_33 : decode cX0_init 33 = .ok (.bipush 6, 2) := by decide +kernel
theorem dX0_init_35 : decode cX0_init 35 = .ok (.newarray .int, 2) := by decide +kernel
theorem dX0_init_37 : decode cX0_init 37 = .ok (.putfield 25, 3) := by decide +kernel
theorem dX0_init_40 : decode cX0_init 40 = .ok (.aload_n 0, 1) := by decide +kernel
theorem dX0_init_41 : decode cX0_init 41 = .ok (.aload_n 1, 1) := by decide +kernel
theorem dX0_init_42 : decode cX0_init 42 = .ok (.putfield 28, 3) := by decide +kernel
theorem dX0_init_45 : decode cX0_init 45 = .ok (.return_, 1) := by decide +kernel
theorem dX0_begin_0 : decode cX0_begin 0 = .ok (.aload_n 0, 1) := by decide +kernel
theorem dX0_begin_1 : decode cX0_begin 1 = .ok (.getfield 12, 3) := by decide +kernel
theorem dX0_begin_4 : decode cX0_begin 4 = .ok (.aload_n 1, 1) := by decide +kernel
theorem dX0_begin_5 : decode cX0_begin 5 = .ok (.invokevirtual 32, 3) := by decide +kernel
theorem dX0_begin_8 : decode cX0_begin 8 = .ok (.iconst 0, 1) := by decide +kernel
theorem dX0_begin_9 : decode cX0_begin 9 = .ok (.istore_n 2, 1) := by decide +kernel
theorem dX0_begin_10 : decode cX0_begin 10 = .ok (.iload_n 2, 1) := by decide +kernel
theorem dX0_begin_11 : decode cX0_begin 11 = .ok (.aload_n 0, 1) := by decide +kernel
theorem dX0_begin_12 : decode cX0_begin 12 = .ok (.getfield 18, 3) := by decide +kernel
theorem dX0_begin_15 : decode cX0_begin 15 = .ok (.arraylength, 1) := by decide +kernel
theorem dX0_begin_16 : decode cX0_begin 16 = .ok (.if_icmp .ge 16, 3) := by decide +kernel
theorem dX0_begin_19 : decode cX0_begin 19 = .ok (.aload_n 0, 1) := by decide +kernel
theorem dX0_begin_20 : decode cX0_begin 20 = .ok (.getfield 18, 3) := by decide +kernel
theorem dX0_begin_23 : decode cX0_begin 23 = .ok (.iload_n 2, 1) := by decide +kernel
theorem dX0_begin_24 : decode cX0_begin 24 = .ok (.iconst 0, 1) := by decide +kernel
theorem dX0_begin_25 : decode cX0_begin 25 = .ok (.iastore, 1) := by decide +kernel
theorem dX0_begin_26 : decode cX0_begin 26 = .ok (.iinc 2 1, 3) := by decide +kernel
theorem dX0_begin_29 : decode cX0_begin 29 = .ok (.goto (-19), 3) := by decide +kernel
theorem dX0_begin_32 : decode cX0_begin 32 = .ok (.aload_n 0, 1) := by decide +kernel
theorem dX0_begin_33 : decode cX0_begin 33 = .ok (.iconst 0, 1) := by decide +kernel
theorem dX0_begin_34 : decode cX0_begin 34 = .ok (.putfield 36, 3) := by decide +kernel
theorem dX0_begin_37 : decode cX0_begin 37 = .ok (.aload_n 0, 1) := by decide +kernel
theorem dX0_begin_38 : decode cX0_begin 38 = .ok (.iconst 0, 1) := by decide +kernel
theorem dX0_begin_39 : decode cX0_begin 39 = .ok (.putfield 40, 3) := by decide +kernel
theorem dX0_begin_42 : decode cX0_begin 42 = .ok (.return_, 1) := by decide +kernel
theorem dX0_goOn_0 : decode cX0_goOn 0 = .ok (.iload_n 3, 1) := by decide +kernel
theorem dX0_goOn_1 : decode cX0_goOn 1 = .ok (.aload_n 0, 1) := by decide +kernel
theorem dX0_goOn_2 : decode cX0_goOn 2 = .ok (.getfield 40, 3) := by decide +kernel
theorem dX0_goOn_5 : decode cX0_goOn 5 = .ok (.if_icmp .le 28, 3) := by decide +kernel
theorem dX0_goOn_8 : decode cX0_goOn 8 = .ok (.aload_n 0, 1) := by decide +kernel
theorem dX0_goOn_9 : decode cX0_goOn 9 = .ok (.iload_n 3, 1) := by decide +kernel
theorem dX0_goOn_10 : decode cX0_goOn 10 = .ok (.putfield 40, 3) := by decide +kernel
theorem dX0_goOn_13 : decode cX0_goOn 13 = .ok (.aload_n 0, 1) := by decide +kernel
theorem dX0_goOn_14 : decode cX0_goOn 14 = .ok (.iload_n 2, 1) := by decide +kernel
theorem dX0_goOn_15 : decode cX0_goOn 15 = .ok (.putfield 36, 3) := by decide +kernel
theorem dX0_goOn_18 : decode cX0_goOn 18 = .ok (.aload_n 0, 1) := by decide +kernel
theorem dX0_goOn_19 : decode cX0_goOn 19 = .ok (.getfield 22, 3) := by decide +kernel
theorem dX0_goOn_22 : decode cX0_goOn 22 = .ok (.iconst 0, 1) := by decide +kernel
theorem dX0_goOn_23 : decode cX0_goOn 23 = .ok (.aload_n 0, 1) := by decide +kernel
theorem dX0_goOn_24 : decode cX0_goOn 24 = .ok (.getfield 25, 3) := by decide +kernel
theorem dX0_goOn_27 : decode cX0_goOn 27 = .ok (.iconst 0, 1) := by decide +kernel
theorem dX0_goOn_28 : decode cX0_goOn 28 = .ok (.bipush 6, 2) := by decide +kernel
theorem dX0_goOn_30 : decode cX0_goOn 30 = .ok (.invokestatic 43, 3) := by decide +kernel
theorem dX0_goOn_33 : decode cX0_goOn 33 = .ok (.iconst 0, 1) := by decide +kernel
theorem dX0_goOn_34 : decode cX0_goOn 34 = .ok (.istore 5, 2) := by decide +kernel
theorem dX0_goOn_36 : decode cX0_goOn 36 = .ok (.iload 5, 2) := by decide +kernel
theorem dX0_goOn_38 : decode cX0_goOn 38 = .ok (.bipush 6, 2) := by decide +kernel
theorem dX0_goOn_40 : decode cX0_goOn 40 = .ok (.if_icmp .ge 105, 3) := by decide +kernel
theorem dX0_goOn_43 : decode cX0_goOn 43 = .ok (.iload_n 2, 1) := by decide +kernel
theorem dX0_goOn_44 : decode cX0_goOn 44 = .ok (.bipush 6, 2) := by decide +kernel
theorem dX0_goOn_46 : decode cX0_goOn 46 = .ok (.if_icmp .ge 99, 3) := by decide +kernel
theorem dX0_goOn_49 : decode cX0_goOn 49 = .ok (.iload 4, 2) := by decide +kernel
theorem dX0_goOn_51 : decode cX0_goOn 51 = .ok (.iconst 1, 1) := by decide +kernel
theorem dX0_goOn_52 : decode cX0_goOn 52 = .ok (.iload 5, 2) := by decide +kernel
theorem dX0_goOn_54 : decode cX0_goOn 54 = .ok (.ishl, 1) := by decide +kernel
theorem dX0_goOn_55 : decode cX0_goOn 55 = .ok (.iand, 1) := by decide +kernel
theorem dX0_goOn_56 : decode cX0_goOn 56 = .ok (.ifCond .eq 13, 3) := by decide +kernel
theorem dX0_goOn_59 : decode cX0_goOn 59 = .ok (.aload_n 0, 1) := by decide +kernel
theorem dX0_goOn_60 : decode cX0_goOn 60 = .ok (.iload_n 1, 1) := by decide +kernel
theorem dX0_goOn_61 : decode cX0_goOn 61 = .ok (.iload 5, 2) := by decide +kernel
theorem dX0_goOn_63 : decode cX0_goOn 63 = .ok (.invokevirtual 49, 3) := by decide +kernel
theorem dX0_goOn_66 : decode cX0_goOn 66 = .ok (.goto 4, 3) := by decide +kernel
theorem dX0_goOn_69 : decode cX0_goOn 69 = .ok (.iconst (-1), 1) := by decide +kernel
theorem dX0_goOn_70 : decode cX0_goOn 70 = .ok (.istore 6, 2) := by decide +kernel
theorem dX0_goOn_72 : decode cX0_goOn 72 = .ok (.iload 6, 2) := by decide +kernel
theorem dX0_goOn_74 : decode cX0_goOn 74 = .ok (.iconst (-1), 1) := by decide +kernel
theorem dX0_goOn_75 : decode cX0_goOn 75 = .ok (.if_icmp .eq 64, 3) := by decide +kernel
theorem dX0_goOn_78 : decode cX0_goOn 78 = .ok (.aload_n 0, 1) := by decide +kernel
theorem dX0_goOn_79 : decode cX0_goOn 79 = .ok (.getfield 22, 3) := by decide +kernel
theorem dX0_goOn_82 : decode cX0_goOn 82 = .ok (.iload_n 2, 1) := by decide +kernel
theorem dX0_goOn_83 : decode cX0_goOn 83 = .ok (.iload 5, 2) := by decide +kernel
theorem dX0_goOn_85 : decode cX0_goOn 85 = .ok (.iastore, 1) := by decide +kernel
theorem dX0_goOn_86 : decode cX0_goOn 86 = .ok (.iload 6, 2) := by decide +kernel
theorem dX0_goOn_88 : decode cX0_goOn 88 = .ok (.bipush 16, 2) := by decide +kernel
theorem dX0_goOn_90 : decode cX0_goOn 90 = .ok (.if_icmp .lt 19, 3) := by decide +kernel
theorem dX0_goOn_93 : decode cX0_goOn 93 = .ok (.aload_n 0, 1) := by decide +kernel
theorem dX0_goOn_94 : decode cX0_goOn 94 = .ok (.getfield 28, 3) := by decide +kernel
theorem dX0_goOn_97 : decode cX0_goOn 97 = .ok (.getfield 53, 3) := by decide +kernel
theorem dX0_goOn_100 : decode cX0_goOn 100 = .ok (.getfield 59, 3) := by decide +kernel
theorem dX0_goOn_103 : decode cX0_goOn 103 = .ok (.iload 5, 2) := by decide +kernel
theorem dX0_goOn_105 : decode cX0_goOn 105 = .ok (.iaload, 1) := by decide +kernel
theorem dX0_goOn_106 : decode cX0_goOn 106 = .ok (.goto 4, 3) := by decide +kernel
theorem dX0_goOn_109 : decode cX0_goOn 109 = .ok (.iconst 0, 1) := by decide +kernel
theorem dX0_goOn_110 : decode cX0_goOn 110 = .ok (.istore 7, 2) := by decide +kernel
theorem dX0_goOn_112 : decode cX0_goOn 112 = .ok (.aload_n 0, 1) := by decide +kernel
theorem dX0_goOn_113 : decode cX0_goOn 113 = .ok (.iload_n 1, 1) := by decide +kernel
theorem dX0_goOn_114 : decode cX0_goOn 114 = .ok (.iload 6, 2) := by decide +kernel
theorem dX0_goOn_116 : decode cX0_goOn 116 = .ok (.bipush 16, 2) := by decide +kernel
theorem dX0_goOn_118 : decode cX0_goOn 118 = .ok (.irem, 1) := by decide +kernel
theorem dX0_goOn_119 : decode cX0_goOn 119 = .ok (.iadd, 1) := by decide +kernel
theorem dX0_goOn_120 : decode cX0_goOn 120 = .ok (.iload_n 2, 1) := by decide +kernel
theorem dX0_goOn_121 : decode cX0_goOn 121 = .ok (.iconst 1, 1) := by decide +kernel
theorem dX0_goOn_122 : decode cX0_goOn 122 = .ok (.iadd, 1) := by decide +kernel
theorem dX0_goOn_123 : decode cX0_goOn 123 = .ok (.iload_n 3, 1) := by decide +kernel
theorem dX0_goOn_124 : decode cX0_goOn 124 = .ok (.iload 7, 2) := by decide +kernel
theorem dX0_goOn_126 : decode cX0_goOn 126 = .ok (.iadd, 1) := by decide +kernel
theorem dX0_goOn_127 : decode cX0_goOn 127 = .ok (.iload 4, 2) := by decide +kernel
theorem dX0_goOn_129 : decode cX0_goOn 129 = .ok (.iconst 1, 1) := by decide +kernel
theorem dX0_goOn_130 : decode cX0_goOn 130 = .ok (.iload 5, 2) := by decide +kernel
theorem dX0_goOn_132 : decode cX0_goOn 132 = .ok (.ishl, 1) := by decide +kernel
theorem dX0_goOn_133 : decode cX0_goOn 133 = .ok (.iconst (-1), 1) := by decide +kernel
theorem dX0_goOn_134 : decode cX0_goOn 134 = .ok (.ixor, 1) := by decide +kernel
theorem dX0_goOn_135 : decode cX0_goOn 135 = .ok (.iand, 1) := by decide +kernel
theorem dX0_goOn_136 : decode cX0_goOn 136 = .ok (.invokevirtual 64, 3) := by decide +kernel
theorem dX0_goOn_139 : decode cX0_goOn 139 = .ok (.iinc 5 1, 3) := by decide +kernel
theorem dX0_goOn_142 : decode cX0_goOn 142 = .ok (.goto (-106), 3) := by decide +kernel
theorem dX0_goOn_145 : decode cX0_goOn 145 = .ok (.return_, 1) := by decide +kernel
theorem dX0_divisionAt_0 : decode cX0_divisionAt 0 = .ok (.iload_n 1, 1) := by decide +kernel
theorem dX0_divisionAt_1 : decode cX0_divisionAt 1 = .ok (.bipush 6, 2) := by decide +kernel
theorem dX0_divisionAt_3 : decode cX0_divisionAt 3 = .ok (.imul, 1) := by decide +kernel
theorem dX0_divisionAt_4 : decode cX0_divisionAt 4 = .ok (.iload_n 2, 1) := by decide +kernel
theorem dX0_divisionAt_5 : decode cX0_divisionAt 5 = .ok (.iadd, 1) := by decide +kernel
theorem dX0_divisionAt_6 : decode cX0_divisionAt 6 = .ok (.istore_n 3, 1) := by decide +kernel
theorem dX0_divisionAt_7 : decode cX0_divisionAt 7 = .ok (.iload_n 3, 1) := by decide +kernel
theorem dX0_divisionAt_8 : decode cX0_divisionAt 8 = .ok (.ifCond .lt 12, 3) := by decide +kernel
theorem dX0_divisionAt_11 : decode cX0_divisionAt 11 = .ok (.iload_n 3, 1) := by decide +kernel
theorem dX0_divisionAt_12 : decode cX0_divisionAt 12 = .ok (.aload_n 0, 1) := by decide +kernel
theorem dX0_divisionAt_13 : decode cX0_divisionAt 13 = .ok (.getfield 18, 3) := by decide +kernel
theorem dX0_divisionAt_16 : decode cX0_divisionAt 16 = .ok (.arraylength, 1) := by decide +kernel
theorem dX0_divisionAt_17 : decode cX0_divisionAt 17 = .ok (.if_icmp .lt 5, 3) := by decide +kernel
theorem dX0_divisionAt_20 : decode cX0_divisionAt 20 = .ok (.iconst (-1), 1) := by decide +kernel
theorem dX0_divisionAt_21 : decode cX0_divisionAt 21 = .ok (.ireturn, 1) := by decide +kernel
theorem dX0_divisionAt_22 : decode cX0_divisionAt 22 = .ok (.aload_n 0, 1) := by decide +kernel
theorem dX0_divisionAt_23 : decode cX0_divisionAt 23 = .ok (.getfield 18, 3) := by decide +kernel
theorem dX0_divisionAt_26 : decode cX0_divisionAt 26 = .ok (.iload_n 3, 1) := by decide +kernel
theorem dX0_divisionAt_27 : decode cX0_divisionAt 27 = .ok (.iaload, 1) := by decide +kernel
theorem dX0_divisionAt_28 : decode cX0_divisionAt 28 = .ok (.ifCond .ne 91, 3) := by decide +kernel
theorem dX0_divisionAt_31 : decode cX0_divisionAt 31 = .ok (.aload_n 0, 1) := by decide +kernel
theorem dX0_divisionAt_32 : decode cX0_divisionAt 32 = .ok (.getfield 12, 3) := by decide +kernel
theorem dX0_divisionAt_35 : decode cX0_divisionAt 35 = .ok (.iload_n 1, 1) := by decide +kernel
theorem dX0_divisionAt_36 : decode cX0_divisionAt 36 = .ok (.putfield 68, 3) := by decide +kernel
theorem dX0_divisionAt_39 : decode cX0_divisionAt 39 = .ok (.aload_n 0, 1) := by decide +kernel
theorem dX0_divisionAt_40 : decode cX0_divisionAt 40 = .ok (.getfield 12, 3) := by decide +kernel
theorem dX0_divisionAt_43 : decode cX0_divisionAt 43 = .ok (.getfield 71, 3) := by decide +kernel
theorem dX0_divisionAt_46 : decode cX0_divisionAt 46 = .ok (.iload_n 2, 1) := by decide +kernel
theorem dX0_divisionAt_47 : decode cX0_divisionAt 47 = .ok (.iconst 1, 1) := by decide +kernel
theorem dX0_divisionAt_48 : decode cX0_divisionAt 48 = .ok (.iastore, 1) := by decide +kernel
theorem dX0_divisionAt_49 : decode cX0_divisionAt 49 = .ok (.aload_n 0, 1) := by decide +kernel
theorem dX0_divisionAt_50 : decode cX0_divisionAt 50 = .ok (.getfield 28, 3) := by decide +kernel
theorem dX0_divisionAt_53 : decode cX0_divisionAt 53 = .ok (.aload_n 0, 1) := by decide +kernel
theorem dX0_divisionAt_54 : decode cX0_divisionAt 54 = .ok (.getfield 12, 3) := by decide +kernel
theorem dX0_divisionAt_57 : decode cX0_divisionAt 57 = .ok (.iload_n 2, 1) := by decide +kernel
theorem dX0_divisionAt_58 : decode cX0_divisionAt 58 = .ok (.invokevirtual 74, 3) := by decide +kernel
theorem dX0_divisionAt_61 : decode cX0_divisionAt 61 = .ok (.ifCond .lt 7, 3) := by decide +kernel
theorem dX0_divisionAt_64 : decode cX0_divisionAt 64 = .ok (.iconst 1, 1) := by decide +kernel
theorem dX0_divisionAt_65 : decode cX0_divisionAt 65 = .ok (.goto 4, 3) := by decide +kernel
theorem dX0_divisionAt_68 : decode cX0_divisionAt 68 = .ok (.iconst 0, 1) := by decide +kernel
theorem dX0_divisionAt_69 : decode cX0_divisionAt 69 = .ok (.istore 4, 2) := by decide +kernel
theorem dX0_divisionAt_71 : decode cX0_divisionAt 71 = .ok (.aload_n 0, 1) := by decide +kernel
theorem dX0_divisionAt_72 : decode cX0_divisionAt 72 = .ok (.getfield 12, 3) := by decide +kernel
theorem dX0_divisionAt_75 : decode cX0_divisionAt 75 = .ok (.getfield 71, 3) := by decide +kernel
theorem dX0_divisionAt_78 : decode cX0_divisionAt 78 = .ok (.iload_n 2, 1) := by decide +kernel
theorem dX0_divisionAt_79 : decode cX0_divisionAt 79 = .ok (.iaload, 1) := by decide +kernel
theorem dX0_divisionAt_80 : decode cX0_divisionAt 80 = .ok (.iconst 2, 1) := by decide +kernel
theorem dX0_divisionAt_81 : decode cX0_divisionAt 81 = .ok (.if_icmp .ne 8, 3) := by decide +kernel
theorem dX0_divisionAt_84 : decode cX0_divisionAt 84 = .ok (.bipush 16, 2) := by decide +kernel
theorem dX0_divisionAt_86 : decode cX0_divisionAt 86 = .ok (.goto 4, 3) := by decide +kernel
theorem dX0_divisionAt_89 : decode cX0_divisionAt 89 = .ok (.iconst 0, 1) := by decide +kernel
theorem dX0_divisionAt_90 : decode cX0_divisionAt 90 = .ok (.istore 5, 2) := by decide +kernel
theorem dX0_divisionAt_92 : decode cX0_divisionAt 92 = .ok (.aload_n 0, 1) := by decide +kernel
theorem dX0_divisionAt_93 : decode cX0_divisionAt 93 = .ok (.getfield 18, 3) := by decide +kernel
theorem dX0_divisionAt_96 : decode cX0_divisionAt 96 = .ok (.iload_n 3, 1) := by decide +kernel
theorem dX0_divisionAt_97 : decode cX0_divisionAt 97 = .ok (.iload 4, 2) := by decide +kernel
theorem dX0_divisionAt_99 : decode cX0_divisionAt 99 = .ok (.ifCond .eq 18, 3) := by decide +kernel
theorem dX0_divisionAt_102 : decode cX0_divisionAt 102 = .ok (.aload_n 0, 1) := by decide +kernel
theorem dX0_divisionAt_103 : decode cX0_divisionAt 103 = .ok (.getfield 12, 3) := by decide +kernel
theorem dX0_divisionAt_106 : decode cX0_divisionAt 106 = .ok (.getfield 68, 3) := by decide +kernel
theorem dX0_divisionAt_109 : decode cX0_divisionAt 109 = .ok (.iload_n 1, 1) := by decide +kernel
theorem dX0_divisionAt_110 : decode cX0_divisionAt 110 = .ok (.isub, 1) := by decide +kernel
theorem dX0_divisionAt_111 : decode cX0_divisionAt 111 = .ok (.iload 5, 2) := by decide +kernel
theorem dX0_divisionAt_113 : decode cX0_divisionAt 113 = .ok (.iadd, 1) := by decide +kernel
theorem dX0_divisionAt_114 : decode cX0_divisionAt 114 = .ok (.goto 4, 3) := by decide +kernel
theorem dX0_divisionAt_117 : decode cX0_divisionAt 117 = .ok (.iconst (-1), 1) := by decide +kernel
theorem dX0_divisionAt_118 : decode cX0_divisionAt 118 = .ok (.iastore, 1) := by decide +kernel
theorem dX0_divisionAt_119 : decode cX0_divisionAt 119 = .ok (.aload_n 0, 1) := by decide +kernel
theorem dX0_divisionAt_120 : decode cX0_divisionAt 120 = .ok (.getfield 18, 3) := by decide +kernel
theorem dX0_divisionAt_123 : decode cX0_divisionAt 123 = .ok (.iload_n 3, 1) := by decide +kernel
theorem dX0_divisionAt_124 : decode cX0_divisionAt 124 = .ok (.iaload, 1) := by decide +kernel
theorem dX0_divisionAt_125 : decode cX0_divisionAt 125 = .ok (.ireturn, 1) := by decide +kernel
theorem dX1_init_0 : decode cX1_init 0 = .ok (.aload_n 0, 1) := by decide +kernel
theorem dX1_init_1 : decode cX1_init 1 = .ok (.invokespecial 3, 3) := by decide +kernel
theorem dX1_init_4 : decode cX1_init 4 = .ok (.aload_n 0, 1) := by decide +kernel
theorem dX1_init_5 : decode cX1_init 5 = .ok (.bipush 7, 2) := by decide +kernel
theorem dX1_init_7 : decode cX1_init 7 = .ok (.newarray .int, 2) := by decide +kernel
theorem dX1_init_9 : decode cX1_init 9 = .ok (.putfield 9, 3) := by decide +kernel
theorem dX1_init_12 : decode cX1_init 12 = .ok (.aload_n 0, 1) := by decide +kernel
theorem dX1_init_13 : decode cX1_init 13 = .ok (.bipush 7, 2) := by decide +kernel
theorem dX1_init_15 : decode cX1_init 15 = .ok (.newarray .int, 2) := by decide +kernel
theorem dX1_init_17 : decode cX1_init 17 = .ok (.putfield 15, 3) := by decide +kernel
theorem dX1_init_20 : decode cX1_init 20 = .ok (.aload_n 0, 1) := by decide +kernel
theorem dX1_init_21 : decode cX1_init 21 = .ok (.aload_n 1, 1) := by decide +kernel
theorem dX1_init_22 : decode cX1_init 22 = .ok (.putfield 18, 3) := by decide +kernel
theorem dX1_init_25 : decode cX1_init 25 = .ok (.aload_n 0, 1) := by decide +kernel
theorem dX1_init_26 : decode cX1_init 26 = .ok (.aload_n 2, 1) := by decide +kernel
theorem dX1_init_27 : decode cX1_init 27 = .ok (.putfield 22, 3) := by decide +kernel
theorem dX1_init_30 : decode cX1_init 30 = .ok (.return_, 1) := by decide +kernel
theorem dX1_tellLaw_0 : decode cX1_tellLaw 0 = .ok (.aload_n 0, 1) := by decide +kernel
theorem dX1_tellLaw_1 : decode cX1_tellLaw 1 = .ok (.getfield 22, 3) := by decide +kernel
theorem dX1_tellLaw_4 : decode cX1_tellLaw 4 = .ok (.getfield 26, 3) := by decide +kernel
theorem dX1_tellLaw_7 : decode cX1_tellLaw 7 = .ok (.astore 6, 2) := by decide +kernel
theorem dX1_tellLaw_9 : decode cX1_tellLaw 9 = .ok (.aload 6, 2) := by decide +kernel
theorem dX1_tellLaw_11 : decode cX1_tellLaw 11 = .ok (.iconst 0, 1) := by decide +kernel
theorem dX1_tellLaw_12 : decode cX1_tellLaw 12 = .ok (.iload_n 2, 1) := by decide +kernel
theorem dX1_tellLaw_13 : decode cX1_tellLaw 13 = .ok (.iastore, 1) := by decide +kernel
theorem dX1_tellLaw_14 : decode cX1_tellLaw 14 = .ok (.aload 6, 2) := by decide +kernel
theorem dX1_tellLaw_16 : decode cX1_tellLaw 16 = .ok (.iconst 1, 1) := by decide +kernel
theorem dX1_tellLaw_17 : decode cX1_tellLaw 17 = .ok (.iload_n 3, 1) := by decide +kernel
theorem dX1_tellLaw_18 : decode cX1_tellLaw 18 = .ok (.iastore, 1) := by decide +kernel
theorem dX1_tellLaw_19 : decode cX1_tellLaw 19 = .ok (.aload 6, 2) := by decide +kernel
theorem dX1_tellLaw_21 : decode cX1_tellLaw 21 = .ok (.iconst 2, 1) := by decide +kernel
theorem dX1_tellLaw_22 : decode cX1_tellLaw 22 = .ok (.iload 4, 2) := by decide +kernel
theorem dX1_tellLaw_24 : decode cX1_tellLaw 24 = .ok (.iastore, 1) := by decide +kernel
theorem dX1_tellLaw_25 : decode cX1_tellLaw 25 = .ok (.aload 6, 2) := by decide +kernel
theorem dX1_tellLaw_27 : decode cX1_tellLaw 27 = .ok (.iconst 3, 1) := by decide +kernel
theorem dX1_tellLaw_28 : decode cX1_tellLaw 28 = .ok (.iload 5, 2) := by decide +kernel
theorem dX1_tellLaw_30 : decode cX1_tellLaw 30 = .ok (.iastore, 1) := by decide +kernel
theorem dX1_tellLaw_31 : decode cX1_tellLaw 31 = .ok (.aload 6, 2) := by decide +kernel
theorem dX1_tellLaw_33 : decode cX1_tellLaw 33 = .ok (.iconst 4, 1) := by decide +kernel
theorem dX1_tellLaw_34 : decode cX1_tellLaw 34 = .ok (.aload_n 0, 1) := by decide +kernel
theorem dX1_tellLaw_35 : decode cX1_tellLaw 35 = .ok (.getfield 18, 3) := by decide +kernel
theorem dX1_tellLaw_38 : decode cX1_tellLaw 38 = .ok (.getfield 31, 3) := by decide +kernel
theorem dX1_tellLaw_41 : decode cX1_tellLaw 41 = .ok (.iload 5, 2) := by decide +kernel
theorem dX1_tellLaw_43 : decode cX1_tellLaw 43 = .ok (.iaload, 1) := by decide +kernel
theorem dX1_tellLaw_44 : decode cX1_tellLaw 44 = .ok (.iastore, 1) := by decide +kernel
theorem dX1_tellLaw_45 : decode cX1_tellLaw 45 = .ok (.aload 6, 2) := by decide +kernel
theorem dX1_tellLaw_47 : decode cX1_tellLaw 47 = .ok (.iconst 5, 1) := by decide +kernel
theorem dX1_tellLaw_48 : decode cX1_tellLaw 48 = .ok (.aload_n 0, 1) := by decide +kernel
theorem dX1_tellLaw_49 : decode cX1_tellLaw 49 = .ok (.getfield 18, 3) := by decide +kernel
theorem dX1_tellLaw_52 : decode cX1_tellLaw 52 = .ok (.getfield 36, 3) := by decide +kernel
theorem dX1_tellLaw_55 : decode cX1_tellLaw 55 = .ok (.iload 5, 2) := by decide +kernel
theorem dX1_tellLaw_57 : decode cX1_tellLaw 57 = .ok (.iaload, 1) := by decide +kernel
theorem dX1_tellLaw_58 : decode cX1_tellLaw 58 = .ok (.iastore, 1) := by decide +kernel
theorem dX1_tellLaw_59 : decode cX1_tellLaw 59 = .ok (.aload 6, 2) := by decide +kernel
theorem dX1_tellLaw_61 : decode cX1_tellLaw 61 = .ok (.bipush 6, 2) := by decide +kernel
theorem dX1_tellLaw_63 : decode cX1_tellLaw 63 = .ok (.aload_n 1, 1) := by decide +kernel
theorem dX1_tellLaw_64 : decode cX1_tellLaw 64 = .ok (.getfield 39, 3) := by decide +kernel
theorem dX1_tellLaw_67 : decode cX1_tellLaw 67 = .ok (.iastore, 1) := by decide +kernel
theorem dX1_tellLaw_68 : decode cX1_tellLaw 68 = .ok (.aload 6, 2) := by decide +kernel
theorem dX1_tellLaw_70 : decode cX1_tellLaw 70 = .ok (.bipush 7, 2) := by decide +kernel
theorem dX1_tellLaw_72 : decode cX1_tellLaw 72 = .ok (.aload_n 1, 1) := by decide +kernel
theorem dX1_tellLaw_73 : decode cX1_tellLaw 73 = .ok (.getfield 45, 3) := by decide +kernel
theorem dX1_tellLaw_76 : decode cX1_tellLaw 76 = .ok (.iastore, 1) := by decide +kernel
theorem dX1_tellLaw_77 : decode cX1_tellLaw 77 = .ok (.aload 6, 2) := by decide +kernel
theorem dX1_tellLaw_79 : decode cX1_tellLaw 79 = .ok (.bipush 8, 2) := by decide +kernel
theorem dX1_tellLaw_81 : decode cX1_tellLaw 81 = .ok (.aload_n 0, 1) := by decide +kernel
theorem dX1_tellLaw_82 : decode cX1_tellLaw 82 = .ok (.getfield 18, 3) := by decide +kernel
theorem dX1_tellLaw_85 : decode cX1_tellLaw 85 = .ok (.getfield 48, 3) := by decide +kernel
theorem dX1_tellLaw_88 : decode cX1_tellLaw 88 = .ok (.iastore, 1) := by decide +kernel
theorem dX1_tellLaw_89 : decode cX1_tellLaw 89 = .ok (.return_, 1) := by decide +kernel
theorem dX1_tellBird_0 : decode cX1_tellBird 0 = .ok (.aload_n 0, 1) := by decide +kernel
theorem dX1_tellBird_1 : decode cX1_tellBird 1 = .ok (.aload_n 1, 1) := by decide +kernel
theorem dX1_tellBird_2 : decode cX1_tellBird 2 = .ok (.iload_n 2, 1) := by decide +kernel
theorem dX1_tellBird_3 : decode cX1_tellBird 3 = .ok (.aload_n 1, 1) := by decide +kernel
theorem dX1_tellBird_4 : decode cX1_tellBird 4 = .ok (.getfield 51, 3) := by decide +kernel
theorem dX1_tellBird_7 : decode cX1_tellBird 7 = .ok (.iload_n 2, 1) := by decide +kernel
theorem dX1_tellBird_8 : decode cX1_tellBird 8 = .ok (.iaload, 1) := by decide +kernel
theorem dX1_tellBird_9 : decode cX1_tellBird 9 = .ok (.aload_n 0, 1) := by decide +kernel
theorem dX1_tellBird_10 : decode cX1_tellBird 10 = .ok (.getfield 18, 3) := by decide +kernel
theorem dX1_tellBird_13 : decode cX1_tellBird 13 = .ok (.getfield 54, 3) := by decide +kernel
theorem dX1_tellBird_16 : decode cX1_tellBird 16 = .ok (.iload_n 2, 1) := by decide +kernel
theorem dX1_tellBird_17 : decode cX1_tellBird 17 = .ok (.bipush 6, 2) := by decide +kernel
theorem dX1_tellBird_19 : decode cX1_tellBird 19 = .ok (.imul, 1) := by decide +kernel
theorem dX1_tellBird_20 : decode cX1_tellBird 20 = .ok (.iload_n 3, 1) := by decide +kernel
theorem dX1_tellBird_21 : decode cX1_tellBird 21 = .ok (.iadd, 1) := by decide +kernel
theorem dX1_tellBird_22 : decode cX1_tellBird 22 = .ok (.iaload, 1) := by decide +kernel
theorem dX1_tellBird_23 : decode cX1_tellBird 23 = .ok (.iload_n 3, 1) := by decide +kernel
theorem dX1_tellBird_24 : decode cX1_tellBird 24 = .ok (.invokevirtual 57, 3) := by decide +kernel
theorem dX1_tellBird_27 : decode cX1_tellBird 27 = .ok (.return_, 1) := by decide +kernel
theorem dX1_within_0 : decode cX1_within 0 = .ok (.iload_n 0, 1) := by decide +kernel
theorem dX1_within_1 : decode cX1_within 1 = .ok (.iload_n 1, 1) := by decide +kernel
theorem dX1_within_2 : decode cX1_within 2 = .ok (.iload_n 2, 1) := by decide +kernel
theorem dX1_within_3 : decode cX1_within 3 = .ok (.invokestatic 61, 3) := by decide +kernel
theorem dX1_within_6 : decode cX1_within 6 = .ok (.invokestatic 67, 3) := by decide +kernel
theorem dX1_within_9 : decode cX1_within 9 = .ok (.ireturn, 1) := by decide +kernel
theorem dX1_swayed_0 : decode cX1_swayed 0 = .ok (.aload_n 0, 1) := by decide +kernel
theorem dX1_swayed_1 : decode cX1_swayed 1 = .ok (.aload_n 1, 1) := by decide +kernel
theorem dX1_swayed_2 : decode cX1_swayed 2 = .ok (.iload_n 2, 1) := by decide +kernel
theorem dX1_swayed_3 : decode cX1_swayed 3 = .ok (.iload_n 3, 1) := by decide +kernel
theorem dX1_swayed_4 : decode cX1_swayed 4 = .ok (.invokevirtual 70, 3) := by decide +kernel
theorem dX1_swayed_7 : decode cX1_swayed 7 = .ok (.aload_n 0, 1) := by decide +kernel
theorem dX1_swayed_8 : decode cX1_swayed 8 = .ok (.getfield 22, 3) := by decide +kernel
theorem dX1_swayed_11 : decode cX1_swayed 11 = .ok (.aload_n 0, 1) := by decide +kernel
theorem dX1_swayed_12 : decode cX1_swayed 12 = .ok (.getfield 18, 3) := by decide +kernel
theorem dX1_swayed_15 : decode cX1_swayed 15 = .ok (.invokevirtual 74, 3) := by decide +kernel
theorem dX1_swayed_18 : decode cX1_swayed 18 = .ok (.sipush 263, 3) := by decide +kernel
theorem dX1_swayed_21 : decode cX1_swayed 21 = .ok (.invokevirtual 78, 3) := by decide +kernel
theorem dX1_swayed_24 : decode cX1_swayed 24 = .ok (.istore 4, 2) := by decide +kernel
theorem dX1_swayed_26 : decode cX1_swayed 26 = .ok (.iload 4, 2) := by decide +kernel
theorem dX1_swayed_28 : decode cX1_swayed 28 = .ok (.ifCond .eq 19, 3) := by decide +kernel
theorem dX1_swayed_31 : decode cX1_swayed 31 = .ok (.iconst 0, 1) := by decide +kernel
theorem dX1_swayed_32 : decode cX1_swayed 32 = .ok (.aload_n 0, 1) := by decide +kernel
theorem dX1_swayed_33 : decode cX1_swayed 33 = .ok (.getfield 22, 3) := by decide +kernel
theorem dX1_swayed_36 : decode cX1_swayed 36 = .ok (.getfield 82, 3) := by decide +kernel
theorem dX1_swayed_39 : decode cX1_swayed 39 = .ok (.bipush 9, 2) := by decide +kernel
theorem dX1_swayed_41 : decode cX1_swayed 41 = .ok (.invokestatic 85, 3) := by decide +kernel
theorem dX1_swayed_44 : decode cX1_swayed 44 = .ok (.goto 17, 3) := by decide +kernel
theorem dX1_swayed_47 : decode cX1_swayed 47 = .ok (.aload_n 0, 1) := by decide +kernel
theorem dX1_swayed_48 : decode cX1_swayed 48 = .ok (.getfield 18, 3) := by decide +kernel
theorem dX1_swayed_51 : decode cX1_swayed 51 = .ok (.getfield 54, 3) := by decide +kernel
theorem dX1_swayed_54 : decode cX1_swayed 54 = .ok (.iload_n 2, 1) := by decide +kernel
theorem dX1_swayed_55 : decode cX1_swayed 55 = .ok (.bipush 6, 2) := by decide +kernel
theorem dX1_swayed_57 : decode cX1_swayed 57 = .ok (.imul, 1) := by decide +kernel
theorem dX1_swayed_58 : decode cX1_swayed 58 = .ok (.iload_n 3, 1) := by decide +kernel
theorem dX1_swayed_59 : decode cX1_swayed 59 = .ok (.iadd, 1) := by decide +kernel
theorem dX1_swayed_60 : decode cX1_swayed 60 = .ok (.iaload, 1) := by decide +kernel
theorem dX1_swayed_61 : decode cX1_swayed 61 = .ok (.ireturn, 1) := by decide +kernel
theorem dX1_timeTaken_0 : decode cX1_timeTaken 0 = .ok (.aload_n 0, 1) := by decide +kernel
theorem dX1_timeTaken_1 : decode cX1_timeTaken 1 = .ok (.aload_n 1, 1) := by decide +kernel
theorem dX1_timeTaken_2 : decode cX1_timeTaken 2 = .ok (.iconst (-1), 1) := by decide +kernel
theorem dX1_timeTaken_3 : decode cX1_timeTaken 3 = .ok (.iconst (-1), 1) := by decide +kernel
theorem dX1_timeTaken_4 : decode cX1_timeTaken 4 = .ok (.iconst (-1), 1) := by decide +kernel
theorem dX1_timeTaken_5 : decode cX1_timeTaken 5 = .ok (.iload_n 2, 1) := by decide +kernel
theorem dX1_timeTaken_6 : decode cX1_timeTaken 6 = .ok (.invokevirtual 57, 3) := by decide +kernel
theorem dX1_timeTaken_9 : decode cX1_timeTaken 9 = .ok (.aload_n 0, 1) := by decide +kernel
theorem dX1_timeTaken_10 : decode cX1_timeTaken 10 = .ok (.getfield 22, 3) := by decide +kernel
theorem dX1_timeTaken_13 : decode cX1_timeTaken 13 = .ok (.aload_n 0, 1) := by decide +kernel
theorem dX1_timeTaken_14 : decode cX1_timeTaken 14 = .ok (.getfield 18, 3) := by decide +kernel
theorem dX1_timeTaken_17 : decode cX1_timeTaken 17 = .ok (.invokevirtual 74, 3) := by decide +kernel
theorem dX1_timeTaken_20 : decode cX1_timeTaken 20 = .ok (.sipush 264, 3) := by decide +kernel
theorem dX1_timeTaken_23 : decode cX1_timeTaken 23 = .ok (.invokevirtual 78, 3) := by decide +kernel
theorem dX1_timeTaken_26 : decode cX1_timeTaken 26 = .ok (.istore_n 3, 1) := by decide +kernel
theorem dX1_timeTaken_27 : decode cX1_timeTaken 27 = .ok (.iload_n 3, 1) := by decide +kernel
theorem dX1_timeTaken_28 : decode cX1_timeTaken 28 = .ok (.ifCond .eq 19, 3) := by decide +kernel
theorem dX1_timeTaken_31 : decode cX1_timeTaken 31 = .ok (.iconst 1, 1) := by decide +kernel
theorem dX1_timeTaken_32 : decode cX1_timeTaken 32 = .ok (.aload_n 0, 1) := by decide +kernel
theorem dX1_timeTaken_33 : decode cX1_timeTaken 33 = .ok (.getfield 22, 3) := by decide +kernel
theorem dX1_timeTaken_36 : decode cX1_timeTaken 36 = .ok (.getfield 82, 3) := by decide +kernel
theorem dX1_timeTaken_39 : decode cX1_timeTaken 39 = .ok (.bipush 9, 2) := by decide +kernel
theorem dX1_timeTaken_41 : decode cX1_timeTaken 41 = .ok (.invokestatic 85, 3) := by decide +kernel
theorem dX1_timeTaken_44 : decode cX1_timeTaken 44 = .ok (.goto 12, 3) := by decide +kernel
theorem dX1_timeTaken_47 : decode cX1_timeTaken 47 = .ok (.aload_n 0, 1) := by decide +kernel
theorem dX1_timeTaken_48 : decode cX1_timeTaken 48 = .ok (.getfield 18, 3) := by decide +kernel
theorem dX1_timeTaken_51 : decode cX1_timeTaken 51 = .ok (.getfield 31, 3) := by decide +kernel
theorem dX1_timeTaken_54 : decode cX1_timeTaken 54 = .ok (.iload_n 2, 1) := by decide +kernel
theorem dX1_timeTaken_55 : decode cX1_timeTaken 55 = .ok (.iaload, 1) := by decide +kernel
theorem dX1_timeTaken_56 : decode cX1_timeTaken 56 = .ok (.ireturn, 1) := by decide +kernel
theorem dX1_vote_0 : decode cX1_vote 0 = .ok (.aload_n 1, 1) := by decide +kernel
theorem dX1_vote_1 : decode cX1_vote 1 = .ok (.getfield 51, 3) := by decide +kernel
theorem dX1_vote_4 : decode cX1_vote 4 = .ok (.iload_n 2, 1) := by decide +kernel
theorem dX1_vote_5 : decode cX1_vote 5 = .ok (.iaload, 1) := by decide +kernel
theorem dX1_vote_6 : decode cX1_vote 6 = .ok (.iconst (-1), 1) := by decide +kernel
theorem dX1_vote_7 : decode cX1_vote 7 = .ok (.if_icmp .ne 5, 3) := by decide +kernel
theorem dX1_vote_10 : decode cX1_vote 10 = .ok (.iconst 0, 1) := by decide +kernel
theorem dX1_vote_11 : decode cX1_vote 11 = .ok (.ireturn, 1) := by decide +kernel
theorem dX1_vote_12 : decode cX1_vote 12 = .ok (.aload_n 0, 1) := by decide +kernel
theorem dX1_vote_13 : decode cX1_vote 13 = .ok (.aload_n 1, 1) := by decide +kernel
theorem dX1_vote_14 : decode cX1_vote 14 = .ok (.iload_n 2, 1) := by decide +kernel
theorem dX1_vote_15 : decode cX1_vote 15 = .ok (.iload_n 3, 1) := by decide +kernel
theorem dX1_vote_16 : decode cX1_vote 16 = .ok (.invokevirtual 70, 3) := by decide +kernel
theorem dX1_vote_19 : decode cX1_vote 19 = .ok (.aload_n 0, 1) := by decide +kernel
theorem dX1_vote_20 : decode cX1_vote 20 = .ok (.getfield 22, 3) := by decide +kernel
theorem dX1_vote_23 : decode cX1_vote 23 = .ok (.aload 4, 2) := by decide +kernel
theorem dX1_vote_25 : decode cX1_vote 25 = .ok (.sipush 265, 3) := by decide +kernel
theorem dX1_vote_28 : decode cX1_vote 28 = .ok (.invokevirtual 78, 3) := by decide +kernel
theorem dX1_vote_31 : decode cX1_vote 31 = .ok (.ifCond .eq 5, 3) := by decide +kernel
theorem dX1_vote_34 : decode cX1_vote 34 = .ok (.iconst 0, 1) := by decide +kernel
theorem dX1_vote_35 : decode cX1_vote 35 = .ok (.ireturn, 1) := by decide +kernel
theorem dX1_vote_36 : decode cX1_vote 36 = .ok (.aload_n 0, 1) := by decide +kernel
theorem dX1_vote_37 : decode cX1_vote 37 = .ok (.getfield 22, 3) := by decide +kernel
theorem dX1_vote_40 : decode cX1_vote 40 = .ok (.aload 4, 2) := by decide +kernel
theorem dX1_vote_42 : decode cX1_vote 42 = .ok (.sipush 263, 3) := by decide +kernel
theorem dX1_vote_45 : decode cX1_vote 45 = .ok (.invokevirtual 78, 3) := by decide +kernel
theorem dX1_vote_48 : decode cX1_vote 48 = .ok (.istore 5, 2) := by decide +kernel
theorem dX1_vote_50 : decode cX1_vote 50 = .ok (.iload 5, 2) := by decide +kernel
theorem dX1_vote_52 : decode cX1_vote 52 = .ok (.ifCond .eq 13, 3) := by decide +kernel
theorem dX1_vote_55 : decode cX1_vote 55 = .ok (.aload_n 0, 1) := by decide +kernel
theorem dX1_vote_56 : decode cX1_vote 56 = .ok (.getfield 22, 3) := by decide +kernel
theorem dX1_vote_59 : decode cX1_vote 59 = .ok (.getfield 82, 3) := by decide +kernel
theorem dX1_vote_62 : decode cX1_vote 62 = .ok (.goto 17, 3) := by decide +kernel
theorem dX1_vote_65 : decode cX1_vote 65 = .ok (.aload_n 0, 1) := by decide +kernel
theorem dX1_vote_66 : decode cX1_vote 66 = .ok (.getfield 18, 3) := by decide +kernel
theorem dX1_vote_69 : decode cX1_vote 69 = .ok (.getfield 54, 3) := by decide +kernel
theorem dX1_vote_72 : decode cX1_vote 72 = .ok (.iload_n 2, 1) := by decide +kernel
theorem dX1_vote_73 : decode cX1_vote 73 = .ok (.bipush 6, 2) := by decide +kernel
theorem dX1_vote_75 : decode cX1_vote 75 = .ok (.imul, 1) := by decide +kernel
theorem dX1_vote_76 : decode cX1_vote 76 = .ok (.iload_n 3, 1) := by decide +kernel
theorem dX1_vote_77 : decode cX1_vote 77 = .ok (.iadd, 1) := by decide +kernel
theorem dX1_vote_78 : decode cX1_vote 78 = .ok (.iaload, 1) := by decide +kernel
theorem dX1_vote_79 : decode cX1_vote 79 = .ok (.istore 6, 2) := by decide +kernel
theorem dX1_vote_81 : decode cX1_vote 81 = .ok (.iload 6, 2) := by decide +kernel
theorem dX1_vote_83 : decode cX1_vote 83 = .ok (.iconst 5, 1) := by decide +kernel
theorem dX1_vote_84 : decode cX1_vote 84 = .ok (.if_icmp .lt 7, 3) := by decide +kernel
theorem dX1_vote_87 : decode cX1_vote 87 = .ok (.iconst 2, 1) := by decide +kernel
theorem dX1_vote_88 : decode cX1_vote 88 = .ok (.goto 4, 3) := by decide +kernel
theorem dX1_vote_91 : decode cX1_vote 91 = .ok (.iconst 1, 1) := by decide +kernel
theorem dX1_vote_92 : decode cX1_vote 92 = .ok (.ireturn, 1) := by decide +kernel
theorem dX1_poll_0 : decode cX1_poll 0 = .ok (.aload_n 0, 1) := by decide +kernel
theorem dX1_poll_1 : decode cX1_poll 1 = .ok (.iconst 0, 1) := by decide +kernel
theorem dX1_poll_2 : decode cX1_poll 2 = .ok (.putfield 89, 3) := by decide +kernel
theorem dX1_poll_5 : decode cX1_poll 5 = .ok (.aload_n 0, 1) := by decide +kernel
theorem dX1_poll_6 : decode cX1_poll 6 = .ok (.iconst 0, 1) := by decide +kernel
theorem dX1_poll_7 : decode cX1_poll 7 = .ok (.putfield 92, 3) := by decide +kernel
theorem dX1_poll_10 : decode cX1_poll 10 = .ok (.iconst 0, 1) := by decide +kernel
theorem dX1_poll_11 : decode cX1_poll 11 = .ok (.istore 4, 2) := by decide +kernel
theorem dX1_poll_13 : decode cX1_poll 13 = .ok (.iload 4, 2) := by decide +kernel
theorem dX1_poll_15 : decode cX1_poll 15 = .ok (.aload_n 0, 1) := by decide +kernel
theorem dX1_poll_16 : decode cX1_poll 16 = .ok (.getfield 18, 3) := by decide +kernel
theorem dX1_poll_19 : decode cX1_poll 19 = .ok (.getfield 95, 3) := by decide +kernel
theorem dX1_poll_22 : decode cX1_poll 22 = .ok (.if_icmp .ge 65, 3) := by decide +kernel
theorem dX1_poll_25 : decode cX1_poll 25 = .ok (.aload_n 0, 1) := by decide +kernel
theorem dX1_poll_26 : decode cX1_poll 26 = .ok (.aload_n 1, 1) := by decide +kernel
theorem dX1_poll_27 : decode cX1_poll 27 = .ok (.iload 4, 2) := by decide +kernel
theorem dX1_poll_29 : decode cX1_poll 29 = .ok (.iload_n 2, 1) := by decide +kernel
theorem dX1_poll_30 : decode cX1_poll 30 = .ok (.aload_n 3, 1) := by decide +kernel
theorem dX1_poll_31 : decode cX1_poll 31 = .ok (.invokevirtual 98, 3) := by decide +kernel
theorem dX1_poll_34 : decode cX1_poll 34 = .ok (.istore 5, 2) := by decide +kernel
theorem dX1_poll_36 : decode cX1_poll 36 = .ok (.aload_n 0, 1) := by decide +kernel
theorem dX1_poll_37 : decode cX1_poll 37 = .ok (.dup, 1) := by decide +kernel
theorem dX1_poll_38 : decode cX1_poll 38 = .ok (.getfield 89, 3) := by decide +kernel
theorem dX1_poll_41 : decode cX1_poll 41 = .ok (.iload 5, 2) := by decide +kernel
theorem dX1_poll_43 : decode cX1_poll 43 = .ok (.ifCond .ne 7, 3) := by decide +kernel
theorem dX1_poll_46 : decode cX1_poll 46 = .ok (.iconst 0, 1) := by decide +kernel
theorem dX1_poll_47 : decode cX1_poll 47 = .ok (.goto 7, 3) := by decide +kernel
theorem dX1_poll_50 : decode cX1_poll 50 = .ok (.iconst 1, 1) := by decide +kernel
theorem dX1_poll_51 : decode cX1_poll 51 = .ok (.iload 4, 2) := by decide +kernel
theorem dX1_poll_53 : decode cX1_poll 53 = .ok (.ishl, 1) := by decide +kernel
theorem dX1_poll_54 : decode cX1_poll 54 = .ok (.ior, 1) := by decide +kernel
theorem dX1_poll_55 : decode cX1_poll 55 = .ok (.putfield 89, 3) := by decide +kernel
theorem dX1_poll_58 : decode cX1_poll 58 = .ok (.aload_n 0, 1) := by decide +kernel
theorem dX1_poll_59 : decode cX1_poll 59 = .ok (.dup, 1) := by decide +kernel
theorem dX1_poll_60 : decode cX1_poll 60 = .ok (.getfield 92, 3) := by decide +kernel
theorem dX1_poll_63 : decode cX1_poll 63 = .ok (.iload 5, 2) := by decide +kernel
theorem dX1_poll_65 : decode cX1_poll 65 = .ok (.iconst 2, 1) := by decide +kernel
theorem dX1_poll_66 : decode cX1_poll 66 = .ok (.if_icmp .ne 10, 3) := by decide +kernel
theorem dX1_poll_69 : decode cX1_poll 69 = .ok (.iconst 1, 1) := by decide +kernel
theorem dX1_poll_70 : decode cX1_poll 70 = .ok (.iload 4, 2) := by decide +kernel
theorem dX1_poll_72 : decode cX1_poll 72 = .ok (.ishl, 1) := by decide +kernel
theorem dX1_poll_73 : decode cX1_poll 73 = .ok (.goto 4, 3) := by decide +kernel
theorem dX1_poll_76 : decode cX1_poll 76 = .ok (.iconst 0, 1) := by decide +kernel
theorem dX1_poll_77 : decode cX1_poll 77 = .ok (.ior, 1) := by decide +kernel
theorem dX1_poll_78 : decode cX1_poll 78 = .ok (.putfield 92, 3) := by decide +kernel
theorem dX1_poll_81 : decode cX1_poll 81 = .ok (.iinc 4 1, 3) := by decide +kernel
theorem dX1_poll_84 : decode cX1_poll 84 = .ok (.goto (-71), 3) := by decide +kernel
theorem dX1_poll_87 : decode cX1_poll 87 = .ok (.return_, 1) := by decide +kernel
theorem dX1_present_0 : decode cX1_present 0 = .ok (.iconst 0, 1) := by decide +kernel
theorem dX1_present_1 : decode cX1_present 1 = .ok (.istore_n 2, 1) := by decide +kernel
theorem dX1_present_2 : decode cX1_present 2 = .ok (.iconst 0, 1) := by decide +kernel
theorem dX1_present_3 : decode cX1_present 3 = .ok (.istore_n 3, 1) := by decide +kernel
theorem dX1_present_4 : decode cX1_present 4 = .ok (.iload_n 3, 1) := by decide +kernel
theorem dX1_present_5 : decode cX1_present 5 = .ok (.aload_n 0, 1) := by decide +kernel
theorem dX1_present_6 : decode cX1_present 6 = .ok (.getfield 18, 3) := by decide +kernel
theorem dX1_present_9 : decode cX1_present 9 = .ok (.getfield 95, 3) := by decide +kernel
theorem dX1_present_12 : decode cX1_present 12 = .ok (.if_icmp .ge 29, 3) := by decide +kernel
theorem dX1_present_15 : decode cX1_present 15 = .ok (.iload_n 2, 1) := by decide +kernel
theorem dX1_present_16 : decode cX1_present 16 = .ok (.aload_n 1, 1) := by decide +kernel
theorem dX1_present_17 : decode cX1_present 17 = .ok (.getfield 51, 3) := by decide +kernel
theorem dX1_present_20 : decode cX1_present 20 = .ok (.iload_n 3, 1) := by decide +kernel
theorem dX1_present_21 : decode cX1_present 21 = .ok (.iaload, 1) := by decide +kernel
theorem dX1_present_22 : decode cX1_present 22 = .ok (.iconst (-1), 1) := by decide +kernel
theorem dX1_present_23 : decode cX1_present 23 = .ok (.if_icmp .ne 7, 3) := by decide +kernel
theorem dX1_present_26 : decode cX1_present 26 = .ok (.iconst 0, 1) := by decide +kernel
theorem dX1_present_27 : decode cX1_present 27 = .ok (.goto 6, 3) := by decide +kernel
theorem dX1_present_30 : decode cX1_present 30 = .ok (.iconst 1, 1) := by decide +kernel
theorem dX1_present_31 : decode cX1_present 31 = .ok (.iload_n 3, 1) := by decide +kernel
theorem dX1_present_32 : decode cX1_present 32 = .ok (.ishl, 1) := by decide +kernel
theorem dX1_present_33 : decode cX1_present 33 = .ok (.ior, 1) := by decide +kernel
theorem dX1_present_34 : decode cX1_present 34 = .ok (.istore_n 2, 1) := by decide +kernel
theorem dX1_present_35 : decode cX1_present 35 = .ok (.iinc 3 1, 3) := by decide +kernel
theorem dX1_present_38 : decode cX1_present 38 = .ok (.goto (-34), 3) := by decide +kernel
theorem dX1_present_41 : decode cX1_present 41 = .ok (.iload_n 2, 1) := by decide +kernel
theorem dX1_present_42 : decode cX1_present 42 = .ok (.ireturn, 1) := by decide +kernel
theorem dX1_moved_0 : decode cX1_moved 0 = .ok (.iconst 0, 1) := by decide +kernel
theorem dX1_moved_1 : decode cX1_moved 1 = .ok (.istore_n 2, 1) := by decide +kernel
theorem dX1_moved_2 : decode cX1_moved 2 = .ok (.iconst 0, 1) := by decide +kernel
theorem dX1_moved_3 : decode cX1_moved 3 = .ok (.istore_n 3, 1) := by decide +kernel
theorem dX1_moved_4 : decode cX1_moved 4 = .ok (.iload_n 3, 1) := by decide +kernel
theorem dX1_moved_5 : decode cX1_moved 5 = .ok (.aload_n 0, 1) := by decide +kernel
theorem dX1_moved_6 : decode cX1_moved 6 = .ok (.getfield 18, 3) := by decide +kernel
theorem dX1_moved_9 : decode cX1_moved 9 = .ok (.getfield 102, 3) := by decide +kernel
theorem dX1_moved_12 : decode cX1_moved 12 = .ok (.if_icmp .ge 29, 3) := by decide +kernel
theorem dX1_moved_15 : decode cX1_moved 15 = .ok (.iload_n 2, 1) := by decide +kernel
theorem dX1_moved_16 : decode cX1_moved 16 = .ok (.aload_n 1, 1) := by decide +kernel
theorem dX1_moved_17 : decode cX1_moved 17 = .ok (.getfield 105, 3) := by decide +kernel
theorem dX1_moved_20 : decode cX1_moved 20 = .ok (.iload_n 3, 1) := by decide +kernel
theorem dX1_moved_21 : decode cX1_moved 21 = .ok (.iaload, 1) := by decide +kernel
theorem dX1_moved_22 : decode cX1_moved 22 = .ok (.iconst 1, 1) := by decide +kernel
theorem dX1_moved_23 : decode cX1_moved 23 = .ok (.if_icmp .ne 9, 3) := by decide +kernel
theorem dX1_moved_26 : decode cX1_moved 26 = .ok (.iconst 1, 1) := by decide +kernel
theorem dX1_moved_27 : decode cX1_moved 27 = .ok (.iload_n 3, 1) := by decide +kernel
theorem dX1_moved_28 : decode cX1_moved 28 = .ok (.ishl, 1) := by decide +kernel
theorem dX1_moved_29 : decode cX1_moved 29 = .ok (.goto 4, 3) := by decide +kernel
theorem dX1_moved_32 : decode cX1_moved 32 = .ok (.iconst 0, 1) := by decide +kernel
theorem dX1_moved_33 : decode cX1_moved 33 = .ok (.ior, 1) := by decide +kernel
theorem dX1_moved_34 : decode cX1_moved 34 = .ok (.istore_n 2, 1) := by decide +kernel
theorem dX1_moved_35 : decode cX1_moved 35 = .ok (.iinc 3 1, 3) := by decide +kernel
theorem dX1_moved_38 : decode cX1_moved 38 = .ok (.goto (-34), 3) := by decide +kernel
theorem dX1_moved_41 : decode cX1_moved 41 = .ok (.iload_n 2, 1) := by decide +kernel
theorem dX1_moved_42 : decode cX1_moved 42 = .ok (.ireturn, 1) := by decide +kernel
theorem dX1_hears_0 : decode cX1_hears 0 = .ok (.iload_n 2, 1) := by decide +kernel
theorem dX1_hears_1 : decode cX1_hears 1 = .ok (.iload_n 3, 1) := by decide +kernel
theorem dX1_hears_2 : decode cX1_hears 2 = .ok (.if_icmp .eq 55, 3) := by decide +kernel
theorem dX1_hears_5 : decode cX1_hears 5 = .ok (.aload_n 1, 1) := by decide +kernel
theorem dX1_hears_6 : decode cX1_hears 6 = .ok (.getfield 51, 3) := by decide +kernel
theorem dX1_hears_9 : decode cX1_hears 9 = .ok (.iload_n 2, 1) := by decide +kernel
theorem dX1_hears_10 : decode cX1_hears 10 = .ok (.iaload, 1) := by decide +kernel
theorem dX1_hears_11 : decode cX1_hears 11 = .ok (.iconst (-1), 1) := by decide +kernel
theorem dX1_hears_12 : decode cX1_hears 12 = .ok (.if_icmp .eq 45, 3) := by decide +kernel
theorem dX1_hears_15 : decode cX1_hears 15 = .ok (.aload_n 1, 1) := by decide +kernel
theorem dX1_hears_16 : decode cX1_hears 16 = .ok (.getfield 51, 3) := by decide +kernel
theorem dX1_hears_19 : decode cX1_hears 19 = .ok (.iload_n 3, 1) := by decide +kernel
theorem dX1_hears_20 : decode cX1_hears 20 = .ok (.iaload, 1) := by decide +kernel
theorem dX1_hears_21 : decode cX1_hears 21 = .ok (.iconst (-1), 1) := by decide +kernel
theorem dX1_hears_22 : decode cX1_hears 22 = .ok (.if_icmp .eq 35, 3) := by decide +kernel
theorem dX1_hears_25 : decode cX1_hears 25 = .ok (.aload_n 1, 1) := by decide +kernel
theorem dX1_hears_26 : decode cX1_hears 26 = .ok (.getfield 51, 3) := by decide +kernel
theorem dX1_hears_29 : decode cX1_hears 29 = .ok (.iload_n 2, 1) := by decide +kernel
theorem dX1_hears_30 : decode cX1_hears 30 = .ok (.iaload, 1) := by decide +kernel
theorem dX1_hears_31 : decode cX1_hears 31 = .ok (.aload_n 1, 1) := by decide +kernel
theorem dX1_hears_32 : decode cX1_hears 32 = .ok (.getfield 51, 3) := by decide +kernel
theorem dX1_hears_35 : decode cX1_hears 35 = .ok (.iload_n 3, 1) := by decide +kernel
theorem dX1_hears_36 : decode cX1_hears 36 = .ok (.iaload, 1) := by decide +kernel
theorem dX1_hears_37 : decode cX1_hears 37 = .ok (.isub, 1) := by decide +kernel
theorem dX1_hears_38 : decode cX1_hears 38 = .ok (.invokestatic 108, 3) := by decide +kernel
theorem dX1_hears_41 : decode cX1_hears 41 = .ok (.aload_n 0, 1) := by decide +kernel
theorem dX1_hears_42 : decode cX1_hears 42 = .ok (.getfield 18, 3) := by decide +kernel
theorem dX1_hears_45 : decode cX1_hears 45 = .ok (.getfield 112, 3) := by decide +kernel
theorem dX1_hears_48 : decode cX1_hears 48 = .ok (.iload_n 3, 1) := by decide +kernel
theorem dX1_hears_49 : decode cX1_hears 49 = .ok (.iaload, 1) := by decide +kernel
theorem dX1_hears_50 : decode cX1_hears 50 = .ok (.if_icmp .gt 7, 3) := by decide +kernel
theorem dX1_hears_53 : decode cX1_hears 53 = .ok (.iconst 1, 1) := by decide +kernel
theorem dX1_hears_54 : decode cX1_hears 54 = .ok (.goto 4, 3) := by decide +kernel
theorem dX1_hears_57 : decode cX1_hears 57 = .ok (.iconst 0, 1) := by decide +kernel
theorem dX1_hears_58 : decode cX1_hears 58 = .ok (.ireturn, 1) := by decide +kernel
theorem dX1_whomHears_0 : decode cX1_whomHears 0 = .ok (.iconst 0, 1) := by decide +kernel
theorem dX1_whomHears_1 : decode cX1_whomHears 1 = .ok (.istore_n 3, 1) := by decide +kernel
theorem dX1_whomHears_2 : decode cX1_whomHears 2 = .ok (.iconst 0, 1) := by decide +kernel
theorem dX1_whomHears_3 : decode cX1_whomHears 3 = .ok (.istore 4, 2) := by decide +kernel
theorem dX1_whomHears_5 : decode cX1_whomHears 5 = .ok (.iload 4, 2) := by decide +kernel
theorem dX1_whomHears_7 : decode cX1_whomHears 7 = .ok (.aload_n 0, 1) := by decide +kernel
theorem dX1_whomHears_8 : decode cX1_whomHears 8 = .ok (.getfield 18, 3) := by decide +kernel
theorem dX1_whomHears_11 : decode cX1_whomHears 11 = .ok (.getfield 95, 3) := by decide +kernel
theorem dX1_whomHears_14 : decode cX1_whomHears 14 = .ok (.if_icmp .ge 31, 3) := by decide +kernel
theorem dX1_whomHears_17 : decode cX1_whomHears 17 = .ok (.iload_n 3, 1) := by decide +kernel
theorem dX1_whomHears_18 : decode cX1_whomHears 18 = .ok (.aload_n 0, 1) := by decide +kernel
theorem dX1_whomHears_19 : decode cX1_whomHears 19 = .ok (.aload_n 1, 1) := by decide +kernel
theorem dX1_whomHears_20 : decode cX1_whomHears 20 = .ok (.iload_n 2, 1) := by decide +kernel
theorem dX1_whomHears_21 : decode cX1_whomHears 21 = .ok (.iload 4, 2) := by decide +kernel
theorem dX1_whomHears_23 : decode cX1_whomHears 23 = .ok (.invokevirtual 115, 3) := by decide +kernel
theorem dX1_whomHears_26 : decode cX1_whomHears 26 = .ok (.ifCond .eq 10, 3) := by decide +kernel
theorem dX1_whomHears_29 : decode cX1_whomHears 29 = .ok (.iconst 1, 1) := by decide +kernel
theorem dX1_whomHears_30 : decode cX1_whomHears 30 = .ok (.iload 4, 2) := by decide +kernel
theorem dX1_whomHears_32 : decode cX1_whomHears 32 = .ok (.ishl, 1) := by decide +kernel
theorem dX1_whomHears_33 : decode cX1_whomHears 33 = .ok (.goto 4, 3) := by decide +kernel
theorem dX1_whomHears_36 : decode cX1_whomHears 36 = .ok (.iconst 0, 1) := by decide +kernel
theorem dX1_whomHears_37 : decode cX1_whomHears 37 = .ok (.ior, 1) := by decide +kernel
theorem dX1_whomHears_38 : decode cX1_whomHears 38 = .ok (.istore_n 3, 1) := by decide +kernel
theorem dX1_whomHears_39 : decode cX1_whomHears 39 = .ok (.iinc 4 1, 3) := by decide +kernel
theorem dX1_whomHears_42 : decode cX1_whomHears 42 = .ok (.goto (-37), 3) := by decide +kernel
theorem dX1_whomHears_45 : decode cX1_whomHears 45 = .ok (.iload_n 3, 1) := by decide +kernel
theorem dX1_whomHears_46 : decode cX1_whomHears 46 = .ok (.ireturn, 1) := by decide +kernel
theorem dX1_hearers_0 : decode cX1_hearers 0 = .ok (.iconst 0, 1) := by decide +kernel
theorem dX1_hearers_1 : decode cX1_hearers 1 = .ok (.istore_n 3, 1) := by decide +kernel
theorem dX1_hearers_2 : decode cX1_hearers 2 = .ok (.iconst 0, 1) := by decide +kernel
theorem dX1_hearers_3 : decode cX1_hearers 3 = .ok (.istore 4, 2) := by decide +kernel
theorem dX1_hearers_5 : decode cX1_hearers 5 = .ok (.iload 4, 2) := by decide +kernel
theorem dX1_hearers_7 : decode cX1_hearers 7 = .ok (.aload_n 0, 1) := by decide +kernel
theorem dX1_hearers_8 : decode cX1_hearers 8 = .ok (.getfield 18, 3) := by decide +kernel
theorem dX1_hearers_11 : decode cX1_hearers 11 = .ok (.getfield 95, 3) := by decide +kernel
theorem dX1_hearers_14 : decode cX1_hearers 14 = .ok (.if_icmp .ge 31, 3) := by decide +kernel
theorem dX1_hearers_17 : decode cX1_hearers 17 = .ok (.iload_n 3, 1) := by decide +kernel
theorem dX1_hearers_18 : decode cX1_hearers 18 = .ok (.aload_n 0, 1) := by decide +kernel
theorem dX1_hearers_19 : decode cX1_hearers 19 = .ok (.aload_n 1, 1) := by decide +kernel
theorem dX1_hearers_20 : decode cX1_hearers 20 = .ok (.iload 4, 2) := by decide +kernel
theorem dX1_hearers_22 : decode cX1_hearers 22 = .ok (.iload_n 2, 1) := by decide +kernel
theorem dX1_hearers_23 : decode cX1_hearers 23 = .ok (.invokevirtual 115, 3) := by decide +kernel
theorem dX1_hearers_26 : decode cX1_hearers 26 = .ok (.ifCond .eq 10, 3) := by decide +kernel
theorem dX1_hearers_29 : decode cX1_hearers 29 = .ok (.iconst 1, 1) := by decide +kernel
theorem dX1_hearers_30 : decode cX1_hearers 30 = .ok (.iload 4, 2) := by decide +kernel
theorem dX1_hearers_32 : decode cX1_hearers 32 = .ok (.ishl, 1) := by decide +kernel
theorem dX1_hearers_33 : decode cX1_hearers 33 = .ok (.goto 4, 3) := by decide +kernel
theorem dX1_hearers_36 : decode cX1_hearers 36 = .ok (.iconst 0, 1) := by decide +kernel
theorem dX1_hearers_37 : decode cX1_hearers 37 = .ok (.ior, 1) := by decide +kernel
theorem dX1_hearers_38 : decode cX1_hearers 38 = .ok (.istore_n 3, 1) := by decide +kernel
theorem dX1_hearers_39 : decode cX1_hearers 39 = .ok (.iinc 4 1, 3) := by decide +kernel
theorem dX1_hearers_42 : decode cX1_hearers 42 = .ok (.goto (-37), 3) := by decide +kernel
theorem dX1_hearers_45 : decode cX1_hearers 45 = .ok (.iload_n 3, 1) := by decide +kernel
theorem dX1_hearers_46 : decode cX1_hearers 46 = .ok (.ireturn, 1) := by decide +kernel
theorem dX1_seconder_0 : decode cX1_seconder 0 = .ok (.iconst 0, 1) := by decide +kernel
theorem dX1_seconder_1 : decode cX1_seconder 1 = .ok (.istore 4, 2) := by decide +kernel
theorem dX1_seconder_3 : decode cX1_seconder 3 = .ok (.iload 4, 2) := by decide +kernel
theorem dX1_seconder_5 : decode cX1_seconder 5 = .ok (.aload_n 0, 1) := by decide +kernel
theorem dX1_seconder_6 : decode cX1_seconder 6 = .ok (.getfield 18, 3) := by decide +kernel
theorem dX1_seconder_9 : decode cX1_seconder 9 = .ok (.getfield 95, 3) := by decide +kernel
theorem dX1_seconder_12 : decode cX1_seconder 12 = .ok (.if_icmp .ge 42, 3) := by decide +kernel
theorem dX1_seconder_15 : decode cX1_seconder 15 = .ok (.aload_n 0, 1) := by decide +kernel
theorem dX1_seconder_16 : decode cX1_seconder 16 = .ok (.aload_n 1, 1) := by decide +kernel
theorem dX1_seconder_17 : decode cX1_seconder 17 = .ok (.iload 4, 2) := by decide +kernel
theorem dX1_seconder_19 : decode cX1_seconder 19 = .ok (.iload_n 3, 1) := by decide +kernel
theorem dX1_seconder_20 : decode cX1_seconder 20 = .ok (.invokevirtual 115, 3) := by decide +kernel
theorem dX1_seconder_23 : decode cX1_seconder 23 = .ok (.ifCond .eq 25, 3) := by decide +kernel
theorem dX1_seconder_26 : decode cX1_seconder 26 = .ok (.aload_n 0, 1) := by decide +kernel
theorem dX1_seconder_27 : decode cX1_seconder 27 = .ok (.aload_n 1, 1) := by decide +kernel
theorem dX1_seconder_28 : decode cX1_seconder 28 = .ok (.iload 4, 2) := by decide +kernel
theorem dX1_seconder_30 : decode cX1_seconder 30 = .ok (.iload_n 2, 1) := by decide +kernel
theorem dX1_seconder_31 : decode cX1_seconder 31 = .ok (.aload_n 0, 1) := by decide +kernel
theorem dX1_seconder_32 : decode cX1_seconder 32 = .ok (.getfield 18, 3) := by decide +kernel
theorem dX1_seconder_35 : decode cX1_seconder 35 = .ok (.invokevirtual 74, 3) := by decide +kernel
theorem dX1_seconder_38 : decode cX1_seconder 38 = .ok (.invokevirtual 98, 3) := by decide +kernel
theorem dX1_seconder_41 : decode cX1_seconder 41 = .ok (.iconst 2, 1) := by decide +kernel
theorem dX1_seconder_42 : decode cX1_seconder 42 = .ok (.if_icmp .ne 6, 3) := by decide +kernel
theorem dX1_seconder_45 : decode cX1_seconder 45 = .ok (.iload 4, 2) := by decide +kernel
theorem dX1_seconder_47 : decode cX1_seconder 47 = .ok (.ireturn, 1) := by decide +kernel
theorem dX1_seconder_48 : decode cX1_seconder 48 = .ok (.iinc 4 1, 3) := by decide +kernel
theorem dX1_seconder_51 : decode cX1_seconder 51 = .ok (.goto (-48), 3) := by decide +kernel
theorem dX1_seconder_54 : decode cX1_seconder 54 = .ok (.iconst (-1), 1) := by decide +kernel
theorem dX1_seconder_55 : decode cX1_seconder 55 = .ok (.ireturn, 1) := by decide +kernel
theorem dX1_moving_0 : decode cX1_moving 0 = .ok (.aload_n 0, 1) := by decide +kernel
theorem dX1_moving_1 : decode cX1_moving 1 = .ok (.getfield 18, 3) := by decide +kernel
theorem dX1_moving_4 : decode cX1_moving 4 = .ok (.iload_n 2, 1) := by decide +kernel
theorem dX1_moving_5 : decode cX1_moving 5 = .ok (.invokevirtual 119, 3) := by decide +kernel
theorem dX1_moving_8 : decode cX1_moving 8 = .ok (.ifCond .eq 14, 3) := by decide +kernel
theorem dX1_moving_11 : decode cX1_moving 11 = .ok (.aload_n 0, 1) := by decide +kernel
theorem dX1_moving_12 : decode cX1_moving 12 = .ok (.getfield 18, 3) := by decide +kernel
theorem dX1_moving_15 : decode cX1_moving 15 = .ok (.iload_n 3, 1) := by decide +kernel
theorem dX1_moving_16 : decode cX1_moving 16 = .ok (.invokevirtual 123, 3) := by decide +kernel
theorem dX1_moving_19 : decode cX1_moving 19 = .ok (.ifCond .ne 6, 3) := by decide +kernel
theorem dX1_moving_22 : decode cX1_moving 22 = .ok (.bipush (-2), 2) := by decide +kernel
theorem dX1_moving_24 : decode cX1_moving 24 = .ok (.ireturn, 1) := by decide +kernel
theorem dX1_moving_25 : decode cX1_moving 25 = .ok (.aload_n 1, 1) := by decide +kernel
theorem dX1_moving_26 : decode cX1_moving 26 = .ok (.getfield 105, 3) := by decide +kernel
theorem dX1_moving_29 : decode cX1_moving 29 = .ok (.iload_n 2, 1) := by decide +kernel
theorem dX1_moving_30 : decode cX1_moving 30 = .ok (.iaload, 1) := by decide +kernel
theorem dX1_moving_31 : decode cX1_moving 31 = .ok (.ifCond .ne 20, 3) := by decide +kernel
theorem dX1_moving_34 : decode cX1_moving 34 = .ok (.aload_n 0, 1) := by decide +kernel
theorem dX1_moving_35 : decode cX1_moving 35 = .ok (.aload_n 1, 1) := by decide +kernel
theorem dX1_moving_36 : decode cX1_moving 36 = .ok (.iload_n 3, 1) := by decide +kernel
theorem dX1_moving_37 : decode cX1_moving 37 = .ok (.iload_n 2, 1) := by decide +kernel
theorem dX1_moving_38 : decode cX1_moving 38 = .ok (.aload_n 0, 1) := by decide +kernel
theorem dX1_moving_39 : decode cX1_moving 39 = .ok (.getfield 18, 3) := by decide +kernel
theorem dX1_moving_42 : decode cX1_moving 42 = .ok (.invokevirtual 74, 3) := by decide +kernel
theorem dX1_moving_45 : decode cX1_moving 45 = .ok (.invokevirtual 98, 3) := by decide +kernel
theorem dX1_moving_48 : decode cX1_moving 48 = .ok (.ifCond .ne 6, 3) := by decide +kernel
theorem dX1_moving_51 : decode cX1_moving 51 = .ok (.bipush (-3), 2) := by decide +kernel
theorem dX1_moving_53 : decode cX1_moving 53 = .ok (.ireturn, 1) := by decide +kernel
theorem dX1_moving_54 : decode cX1_moving 54 = .ok (.aload_n 0, 1) := by decide +kernel
theorem dX1_moving_55 : decode cX1_moving 55 = .ok (.aload_n 1, 1) := by decide +kernel
theorem dX1_moving_56 : decode cX1_moving 56 = .ok (.iload_n 2, 1) := by decide +kernel
theorem dX1_moving_57 : decode cX1_moving 57 = .ok (.iload_n 3, 1) := by decide +kernel
theorem dX1_moving_58 : decode cX1_moving 58 = .ok (.invokevirtual 126, 3) := by decide +kernel
theorem dX1_moving_61 : decode cX1_moving 61 = .ok (.istore 4, 2) := by decide +kernel
theorem dX1_moving_63 : decode cX1_moving 63 = .ok (.iload 4, 2) := by decide +kernel
theorem dX1_moving_65 : decode cX1_moving 65 = .ok (.iconst (-1), 1) := by decide +kernel
theorem dX1_moving_66 : decode cX1_moving 66 = .ok (.if_icmp .ne 6, 3) := by decide +kernel
theorem dX1_moving_69 : decode cX1_moving 69 = .ok (.bipush (-3), 2) := by decide +kernel
theorem dX1_moving_71 : decode cX1_moving 71 = .ok (.ireturn, 1) := by decide +kernel
theorem dX1_moving_72 : decode cX1_moving 72 = .ok (.aload_n 1, 1) := by decide +kernel
theorem dX1_moving_73 : decode cX1_moving 73 = .ok (.getfield 105, 3) := by decide +kernel
theorem dX1_moving_76 : decode cX1_moving 76 = .ok (.iload_n 2, 1) := by decide +kernel
theorem dX1_moving_77 : decode cX1_moving 77 = .ok (.iconst 1, 1) := by decide +kernel
theorem dX1_moving_78 : decode cX1_moving 78 = .ok (.iastore, 1) := by decide +kernel
theorem dX1_moving_79 : decode cX1_moving 79 = .ok (.iload 4, 2) := by decide +kernel
theorem dX1_moving_81 : decode cX1_moving 81 = .ok (.ireturn, 1) := by decide +kernel
theorem dX1_dividing_0 : decode cX1_dividing 0 = .ok (.aload_n 0, 1) := by decide +kernel
theorem dX1_dividing_1 : decode cX1_dividing 1 = .ok (.getfield 18, 3) := by decide +kernel
theorem dX1_dividing_4 : decode cX1_dividing 4 = .ok (.iload_n 2, 1) := by decide +kernel
theorem dX1_dividing_5 : decode cX1_dividing 5 = .ok (.invokevirtual 119, 3) := by decide +kernel
theorem dX1_dividing_8 : decode cX1_dividing 8 = .ok (.ifCond .ne 6, 3) := by decide +kernel
theorem dX1_dividing_11 : decode cX1_dividing 11 = .ok (.bipush (-2), 2) := by decide +kernel
theorem dX1_dividing_13 : decode cX1_dividing 13 = .ok (.ireturn, 1) := by decide +kernel
theorem dX1_dividing_14 : decode cX1_dividing 14 = .ok (.aload_n 1, 1) := by decide +kernel
theorem dX1_dividing_15 : decode cX1_dividing 15 = .ok (.getfield 105, 3) := by decide +kernel
theorem dX1_dividing_18 : decode cX1_dividing 18 = .ok (.iload_n 2, 1) := by decide +kernel
theorem dX1_dividing_19 : decode cX1_dividing 19 = .ok (.iaload, 1) := by decide +kernel
theorem dX1_dividing_20 : decode cX1_dividing 20 = .ok (.iconst 1, 1) := by decide +kernel
theorem dX1_dividing_21 : decode cX1_dividing 21 = .ok (.if_icmp .eq 6, 3) := by decide +kernel
theorem dX1_dividing_24 : decode cX1_dividing 24 = .ok (.bipush (-3), 2) := by decide +kernel
theorem dX1_dividing_26 : decode cX1_dividing 26 = .ok (.ireturn, 1) := by decide +kernel
theorem dX1_dividing_27 : decode cX1_dividing 27 = .ok (.aload_n 0, 1) := by decide +kernel
theorem dX1_dividing_28 : decode cX1_dividing 28 = .ok (.aload_n 1, 1) := by decide +kernel
theorem dX1_dividing_29 : decode cX1_dividing 29 = .ok (.iload_n 2, 1) := by decide +kernel
theorem dX1_dividing_30 : decode cX1_dividing 30 = .ok (.aload_n 0, 1) := by decide +kernel
theorem dX1_dividing_31 : decode cX1_dividing 31 = .ok (.getfield 18, 3) := by decide +kernel
theorem dX1_dividing_34 : decode cX1_dividing 34 = .ok (.invokevirtual 74, 3) := by decide +kernel
theorem dX1_dividing_37 : decode cX1_dividing 37 = .ok (.invokevirtual 130, 3) := by decide +kernel
theorem dX1_dividing_40 : decode cX1_dividing 40 = .ok (.aload_n 0, 1) := by decide +kernel
theorem dX1_dividing_41 : decode cX1_dividing 41 = .ok (.aload_n 1, 1) := by decide +kernel
theorem dX1_dividing_42 : decode cX1_dividing 42 = .ok (.iload_n 2, 1) := by decide +kernel
theorem dX1_dividing_43 : decode cX1_dividing 43 = .ok (.invokevirtual 134, 3) := by decide +kernel
theorem dX1_dividing_46 : decode cX1_dividing 46 = .ok (.istore_n 3, 1) := by decide +kernel
theorem dX1_dividing_47 : decode cX1_dividing 47 = .ok (.aload_n 0, 1) := by decide +kernel
theorem dX1_dividing_48 : decode cX1_dividing 48 = .ok (.getfield 89, 3) := by decide +kernel
theorem dX1_dividing_51 : decode cX1_dividing 51 = .ok (.invokestatic 138, 3) := by decide +kernel
theorem dX1_dividing_54 : decode cX1_dividing 54 = .ok (.aload_n 0, 1) := by decide +kernel
theorem dX1_dividing_55 : decode cX1_dividing 55 = .ok (.getfield 18, 3) := by decide +kernel
theorem dX1_dividing_58 : decode cX1_dividing 58 = .ok (.getfield 143, 3) := by decide +kernel
theorem dX1_dividing_61 : decode cX1_dividing 61 = .ok (.if_icmp .lt 14, 3) := by decide +kernel
theorem dX1_dividing_64 : decode cX1_dividing 64 = .ok (.aload_n 1, 1) := by decide +kernel
theorem dX1_dividing_65 : decode cX1_dividing 65 = .ok (.getfield 39, 3) := by decide +kernel
theorem dX1_dividing_68 : decode cX1_dividing 68 = .ok (.iload_n 3, 1) := by decide +kernel
theorem dX1_dividing_69 : decode cX1_dividing 69 = .ok (.iadd, 1) := by decide +kernel
theorem dX1_dividing_70 : decode cX1_dividing 70 = .ok (.bipush 48, 2) := by decide +kernel
theorem dX1_dividing_72 : decode cX1_dividing 72 = .ok (.if_icmp .le 6, 3) := by decide +kernel
theorem dX1_dividing_75 : decode cX1_dividing 75 = .ok (.bipush (-3), 2) := by decide +kernel
theorem dX1_dividing_77 : decode cX1_dividing 77 = .ok (.ireturn, 1) := by decide +kernel
theorem dX1_dividing_78 : decode cX1_dividing 78 = .ok (.aload_n 1, 1) := by decide +kernel
theorem dX1_dividing_79 : decode cX1_dividing 79 = .ok (.getfield 105, 3) := by decide +kernel
theorem dX1_dividing_82 : decode cX1_dividing 82 = .ok (.iload_n 2, 1) := by decide +kernel
theorem dX1_dividing_83 : decode cX1_dividing 83 = .ok (.aload_n 0, 1) := by decide +kernel
theorem dX1_dividing_84 : decode cX1_dividing 84 = .ok (.aload_n 0, 1) := by decide +kernel
theorem dX1_dividing_85 : decode cX1_dividing 85 = .ok (.getfield 89, 3) := by decide +kernel
theorem dX1_dividing_88 : decode cX1_dividing 88 = .ok (.aload_n 0, 1) := by decide +kernel
theorem dX1_dividing_89 : decode cX1_dividing 89 = .ok (.getfield 92, 3) := by decide +kernel
theorem dX1_dividing_92 : decode cX1_dividing 92 = .ok (.invokevirtual 146, 3) := by decide +kernel
theorem dX1_dividing_95 : decode cX1_dividing 95 = .ok (.ifCond .eq 7, 3) := by decide +kernel
theorem dX1_dividing_98 : decode cX1_dividing 98 = .ok (.iconst 2, 1) := by decide +kernel
theorem dX1_dividing_99 : decode cX1_dividing 99 = .ok (.goto 4, 3) := by decide +kernel
theorem dX1_dividing_102 : decode cX1_dividing 102 = .ok (.iconst 3, 1) := by decide +kernel
theorem dX1_dividing_103 : decode cX1_dividing 103 = .ok (.iastore, 1) := by decide +kernel
theorem dX1_dividing_104 : decode cX1_dividing 104 = .ok (.aload_n 1, 1) := by decide +kernel
theorem dX1_dividing_105 : decode cX1_dividing 105 = .ok (.dup, 1) := by decide +kernel
theorem dX1_dividing_106 : decode cX1_dividing 106 = .ok (.getfield 39, 3) := by decide +kernel
theorem dX1_dividing_109 : decode cX1_dividing 109 = .ok (.iload_n 3, 1) := by decide +kernel
theorem dX1_dividing_110 : decode cX1_dividing 110 = .ok (.iadd, 1) := by decide +kernel
theorem dX1_dividing_111 : decode cX1_dividing 111 = .ok (.putfield 39, 3) := by decide +kernel
theorem dX1_dividing_114 : decode cX1_dividing 114 = .ok (.aload_n 0, 1) := by decide +kernel
theorem dX1_dividing_115 : decode cX1_dividing 115 = .ok (.getfield 92, 3) := by decide +kernel
theorem dX1_dividing_118 : decode cX1_dividing 118 = .ok (.invokestatic 138, 3) := by decide +kernel
theorem dX1_dividing_121 : decode cX1_dividing 121 = .ok (.ireturn, 1) := by decide +kernel
theorem dX1_flying_0 : decode cX1_flying 0 = .ok (.iload_n 3, 1) := by decide +kernel
theorem dX1_flying_1 : decode cX1_flying 1 = .ok (.iconst (-1), 1) := by decide +kernel
theorem dX1_flying_2 : decode cX1_flying 2 = .ok (.if_icmp .lt 9, 3) := by decide +kernel
theorem dX1_flying_5 : decode cX1_flying 5 = .ok (.iload_n 3, 1) := by decide +kernel
theorem dX1_flying_6 : decode cX1_flying 6 = .ok (.bipush 20, 2) := by decide +kernel
theorem dX1_flying_8 : decode cX1_flying 8 = .ok (.if_icmp .lt 5, 3) := by decide +kernel
theorem dX1_flying_11 : decode cX1_flying 11 = .ok (.iconst (-1), 1) := by decide +kernel
theorem dX1_flying_12 : decode cX1_flying 12 = .ok (.ireturn, 1) := by decide +kernel
theorem dX1_flying_13 : decode cX1_flying 13 = .ok (.aload_n 0, 1) := by decide +kernel
theorem dX1_flying_14 : decode cX1_flying 14 = .ok (.getfield 18, 3) := by decide +kernel
theorem dX1_flying_17 : decode cX1_flying 17 = .ok (.iload_n 2, 1) := by decide +kernel
theorem dX1_flying_18 : decode cX1_flying 18 = .ok (.invokevirtual 123, 3) := by decide +kernel
theorem dX1_flying_21 : decode cX1_flying 21 = .ok (.ifCond .ne 6, 3) := by decide +kernel
theorem dX1_flying_24 : decode cX1_flying 24 = .ok (.bipush (-2), 2) := by decide +kernel
theorem dX1_flying_26 : decode cX1_flying 26 = .ok (.ireturn, 1) := by decide +kernel
theorem dX1_flying_27 : decode cX1_flying 27 = .ok (.aload_n 1, 1) := by decide +kernel
theorem dX1_flying_28 : decode cX1_flying 28 = .ok (.getfield 51, 3) := by decide +kernel
theorem dX1_flying_31 : decode cX1_flying 31 = .ok (.iload_n 2, 1) := by decide +kernel
theorem dX1_flying_32 : decode cX1_flying 32 = .ok (.iaload, 1) := by decide +kernel
theorem dX1_flying_33 : decode cX1_flying 33 = .ok (.istore 4, 2) := by decide +kernel
theorem dX1_flying_35 : decode cX1_flying 35 = .ok (.iload 4, 2) := by decide +kernel
theorem dX1_flying_37 : decode cX1_flying 37 = .ok (.iload_n 3, 1) := by decide +kernel
theorem dX1_flying_38 : decode cX1_flying 38 = .ok (.if_icmp .ne 6, 3) := by decide +kernel
theorem dX1_flying_41 : decode cX1_flying 41 = .ok (.bipush (-3), 2) := by decide +kernel
theorem dX1_flying_43 : decode cX1_flying 43 = .ok (.ireturn, 1) := by decide +kernel
theorem dX1_flying_44 : decode cX1_flying 44 = .ok (.aload_n 1, 1) := by decide +kernel
theorem dX1_flying_45 : decode cX1_flying 45 = .ok (.getfield 51, 3) := by decide +kernel
theorem dX1_flying_48 : decode cX1_flying 48 = .ok (.iload_n 2, 1) := by decide +kernel
theorem dX1_flying_49 : decode cX1_flying 49 = .ok (.iload_n 3, 1) := by decide +kernel
theorem dX1_flying_50 : decode cX1_flying 50 = .ok (.iastore, 1) := by decide +kernel
theorem dX1_flying_51 : decode cX1_flying 51 = .ok (.iload 4, 2) := by decide +kernel
theorem dX1_flying_53 : decode cX1_flying 53 = .ok (.iconst (-1), 1) := by decide +kernel
theorem dX1_flying_54 : decode cX1_flying 54 = .ok (.if_icmp .ne 8, 3) := by decide +kernel
theorem dX1_flying_57 : decode cX1_flying 57 = .ok (.bipush 20, 2) := by decide +kernel
theorem dX1_flying_59 : decode cX1_flying 59 = .ok (.goto 5, 3) := by decide +kernel
theorem dX1_flying_62 : decode cX1_flying 62 = .ok (.iload 4, 2) := by decide +kernel
theorem dX1_flying_64 : decode cX1_flying 64 = .ok (.ireturn, 1) := by decide +kernel
theorem dX1_passing_0 : decode cX1_passing 0 = .ok (.aload_n 1, 1) := by decide +kernel
theorem dX1_passing_1 : decode cX1_passing 1 = .ok (.getfield 45, 3) := by decide +kernel
theorem dX1_passing_4 : decode cX1_passing 4 = .ok (.sipush 999, 3) := by decide +kernel
theorem dX1_passing_7 : decode cX1_passing 7 = .ok (.if_icmp .lt 6, 3) := by decide +kernel
theorem dX1_passing_10 : decode cX1_passing 10 = .ok (.bipush (-3), 2) := by decide +kernel
theorem dX1_passing_12 : decode cX1_passing 12 = .ok (.ireturn, 1) := by decide +kernel
theorem dX1_passing_13 : decode cX1_passing 13 = .ok (.aload_n 1, 1) := by decide +kernel
theorem dX1_passing_14 : decode cX1_passing 14 = .ok (.dup, 1) := by decide +kernel
theorem dX1_passing_15 : decode cX1_passing 15 = .ok (.getfield 45, 3) := by decide +kernel
theorem dX1_passing_18 : decode cX1_passing 18 = .ok (.iconst 1, 1) := by decide +kernel
theorem dX1_passing_19 : decode cX1_passing 19 = .ok (.iadd, 1) := by decide +kernel
theorem dX1_passing_20 : decode cX1_passing 20 = .ok (.putfield 45, 3) := by decide +kernel
theorem dX1_passing_23 : decode cX1_passing 23 = .ok (.aload_n 1, 1) := by decide +kernel
theorem dX1_passing_24 : decode cX1_passing 24 = .ok (.iconst 0, 1) := by decide +kernel
theorem dX1_passing_25 : decode cX1_passing 25 = .ok (.putfield 39, 3) := by decide +kernel
theorem dX1_passing_28 : decode cX1_passing 28 = .ok (.iconst 0, 1) := by decide +kernel
theorem dX1_passing_29 : decode cX1_passing 29 = .ok (.istore_n 2, 1) := by decide +kernel
theorem dX1_passing_30 : decode cX1_passing 30 = .ok (.iconst 0, 1) := by decide +kernel
theorem dX1_passing_31 : decode cX1_passing 31 = .ok (.istore_n 3, 1) := by decide +kernel
theorem dX1_passing_32 : decode cX1_passing 32 = .ok (.iload_n 3, 1) := by decide +kernel
theorem dX1_passing_33 : decode cX1_passing 33 = .ok (.aload_n 0, 1) := by decide +kernel
theorem dX1_passing_34 : decode cX1_passing 34 = .ok (.getfield 18, 3) := by decide +kernel
theorem dX1_passing_37 : decode cX1_passing 37 = .ok (.getfield 102, 3) := by decide +kernel
theorem dX1_passing_40 : decode cX1_passing 40 = .ok (.if_icmp .ge 29, 3) := by decide +kernel
theorem dX1_passing_43 : decode cX1_passing 43 = .ok (.aload_n 1, 1) := by decide +kernel
theorem dX1_passing_44 : decode cX1_passing 44 = .ok (.getfield 105, 3) := by decide +kernel
theorem dX1_passing_47 : decode cX1_passing 47 = .ok (.iload_n 3, 1) := by decide +kernel
theorem dX1_passing_48 : decode cX1_passing 48 = .ok (.iaload, 1) := by decide +kernel
theorem dX1_passing_49 : decode cX1_passing 49 = .ok (.iconst 2, 1) := by decide +kernel
theorem dX1_passing_50 : decode cX1_passing 50 = .ok (.if_icmp .eq 13, 3) := by decide +kernel
theorem dX1_passing_53 : decode cX1_passing 53 = .ok (.aload_n 1, 1) := by decide +kernel
theorem dX1_passing_54 : decode cX1_passing 54 = .ok (.getfield 105, 3) := by decide +kernel
theorem dX1_passing_57 : decode cX1_passing 57 = .ok (.iload_n 3, 1) := by decide +kernel
theorem dX1_passing_58 : decode cX1_passing 58 = .ok (.iconst 0, 1) := by decide +kernel
theorem dX1_passing_59 : decode cX1_passing 59 = .ok (.iastore, 1) := by decide +kernel
theorem dX1_passing_60 : decode cX1_passing 60 = .ok (.iinc 2 1, 3) := by decide +kernel
theorem dX1_passing_63 : decode cX1_passing 63 = .ok (.iinc 3 1, 3) := by decide +kernel
theorem dX1_passing_66 : decode cX1_passing 66 = .ok (.goto (-34), 3) := by decide +kernel
theorem dX1_passing_69 : decode cX1_passing 69 = .ok (.iload_n 2, 1) := by decide +kernel
theorem dX1_passing_70 : decode cX1_passing 70 = .ok (.ireturn, 1) := by decide +kernel
theorem dX1_wouldCarry_0 : decode cX1_wouldCarry 0 = .ok (.iload_n 1, 1) := by decide +kernel
theorem dX1_wouldCarry_1 : decode cX1_wouldCarry 1 = .ok (.invokestatic 138, 3) := by decide +kernel
theorem dX1_wouldCarry_4 : decode cX1_wouldCarry 4 = .ok (.istore_n 3, 1) := by decide +kernel
theorem dX1_wouldCarry_5 : decode cX1_wouldCarry 5 = .ok (.iload_n 3, 1) := by decide +kernel
theorem dX1_wouldCarry_6 : decode cX1_wouldCarry 6 = .ok (.aload_n 0, 1) := by decide +kernel
theorem dX1_wouldCarry_7 : decode cX1_wouldCarry 7 = .ok (.getfield 18, 3) := by decide +kernel
theorem dX1_wouldCarry_10 : decode cX1_wouldCarry 10 = .ok (.getfield 143, 3) := by decide +kernel
theorem dX1_wouldCarry_13 : decode cX1_wouldCarry 13 = .ok (.if_icmp .lt 17, 3) := by decide +kernel
theorem dX1_wouldCarry_16 : decode cX1_wouldCarry 16 = .ok (.iconst 2, 1) := by decide +kernel
theorem dX1_wouldCarry_17 : decode cX1_wouldCarry 17 = .ok (.iload_n 2, 1) := by decide +kernel
theorem dX1_wouldCarry_18 : decode cX1_wouldCarry 18 = .ok (.invokestatic 138, 3) := by decide +kernel
theorem dX1_wouldCarry_21 : decode cX1_wouldCarry 21 = .ok (.imul, 1) := by decide +kernel
theorem dX1_wouldCarry_22 : decode cX1_wouldCarry 22 = .ok (.iload_n 3, 1) := by decide +kernel
theorem dX1_wouldCarry_23 : decode cX1_wouldCarry 23 = .ok (.if_icmp .le 7, 3) := by decide +kernel
theorem dX1_wouldCarry_26 : decode cX1_wouldCarry 26 = .ok (.iconst 1, 1) := by decide +kernel
theorem dX1_wouldCarry_27 : decode cX1_wouldCarry 27 = .ok (.goto 4, 3) := by decide +kernel
theorem dX1_wouldCarry_30 : decode cX1_wouldCarry 30 = .ok (.iconst 0, 1) := by decide +kernel
theorem dX1_wouldCarry_31 : decode cX1_wouldCarry 31 = .ok (.ireturn, 1) := by decide +kernel
theorem dX1_fewest_0 : decode cX1_fewest 0 = .ok (.iconst (-1), 1) := by decide +kernel
theorem dX1_fewest_1 : decode cX1_fewest 1 = .ok (.istore 4, 2) := by decide +kernel
theorem dX1_fewest_3 : decode cX1_fewest 3 = .ok (.iconst 0, 1) := by decide +kernel
theorem dX1_fewest_4 : decode cX1_fewest 4 = .ok (.istore 5, 2) := by decide +kernel
theorem dX1_fewest_6 : decode cX1_fewest 6 = .ok (.iload 5, 2) := by decide +kernel
theorem dX1_fewest_8 : decode cX1_fewest 8 = .ok (.sipush 128, 3) := by decide +kernel
theorem dX1_fewest_11 : decode cX1_fewest 11 = .ok (.if_icmp .ge 77, 3) := by decide +kernel
theorem dX1_fewest_14 : decode cX1_fewest 14 = .ok (.iload 4, 2) := by decide +kernel
theorem dX1_fewest_16 : decode cX1_fewest 16 = .ok (.iconst (-1), 1) := by decide +kernel
theorem dX1_fewest_17 : decode cX1_fewest 17 = .ok (.if_icmp .eq 16, 3) := by decide +kernel
theorem dX1_fewest_20 : decode cX1_fewest 20 = .ok (.iload 5, 2) := by decide +kernel
theorem dX1_fewest_22 : decode cX1_fewest 22 = .ok (.invokestatic 138, 3) := by decide +kernel
theorem dX1_fewest_25 : decode cX1_fewest 25 = .ok (.iload 4, 2) := by decide +kernel
theorem dX1_fewest_27 : decode cX1_fewest 27 = .ok (.invokestatic 138, 3) := by decide +kernel
theorem dX1_fewest_30 : decode cX1_fewest 30 = .ok (.if_icmp .ge 7, 3) := by decide +kernel
theorem dX1_fewest_33 : decode cX1_fewest 33 = .ok (.iconst 1, 1) := by decide +kernel
theorem dX1_fewest_34 : decode cX1_fewest 34 = .ok (.goto 4, 3) := by decide +kernel
theorem dX1_fewest_37 : decode cX1_fewest 37 = .ok (.iconst 0, 1) := by decide +kernel
theorem dX1_fewest_38 : decode cX1_fewest 38 = .ok (.istore 6, 2) := by decide +kernel
theorem dX1_fewest_40 : decode cX1_fewest 40 = .ok (.iload 6, 2) := by decide +kernel
theorem dX1_fewest_42 : decode cX1_fewest 42 = .ok (.ifCond .eq 40, 3) := by decide +kernel
theorem dX1_fewest_45 : decode cX1_fewest 45 = .ok (.iload 5, 2) := by decide +kernel
theorem dX1_fewest_47 : decode cX1_fewest 47 = .ok (.iload_n 1, 1) := by decide +kernel
theorem dX1_fewest_48 : decode cX1_fewest 48 = .ok (.iconst (-1), 1) := by decide +kernel
theorem dX1_fewest_49 : decode cX1_fewest 49 = .ok (.ixor, 1) := by decide +kernel
theorem dX1_fewest_50 : decode cX1_fewest 50 = .ok (.iand, 1) := by decide +kernel
theorem dX1_fewest_51 : decode cX1_fewest 51 = .ok (.ifCond .ne 31, 3) := by decide +kernel
theorem dX1_fewest_54 : decode cX1_fewest 54 = .ok (.aload_n 0, 1) := by decide +kernel
theorem dX1_fewest_55 : decode cX1_fewest 55 = .ok (.aload_n 0, 1) := by decide +kernel
theorem dX1_fewest_56 : decode cX1_fewest 56 = .ok (.getfield 89, 3) := by decide +kernel
theorem dX1_fewest_59 : decode cX1_fewest 59 = .ok (.iload 5, 2) := by decide +kernel
theorem dX1_fewest_61 : decode cX1_fewest 61 = .ok (.ixor, 1) := by decide +kernel
theorem dX1_fewest_62 : decode cX1_fewest 62 = .ok (.aload_n 0, 1) := by decide +kernel
theorem dX1_fewest_63 : decode cX1_fewest 63 = .ok (.getfield 92, 3) := by decide +kernel
theorem dX1_fewest_66 : decode cX1_fewest 66 = .ok (.iload 5, 2) := by decide +kernel
theorem dX1_fewest_68 : decode cX1_fewest 68 = .ok (.iload_n 2, 1) := by decide +kernel
theorem dX1_fewest_69 : decode cX1_fewest 69 = .ok (.iand, 1) := by decide +kernel
theorem dX1_fewest_70 : decode cX1_fewest 70 = .ok (.ixor, 1) := by decide +kernel
theorem dX1_fewest_71 : decode cX1_fewest 71 = .ok (.invokevirtual 146, 3) := by decide +kernel
theorem dX1_fewest_74 : decode cX1_fewest 74 = .ok (.iload_n 3, 1) := by decide +kernel
theorem dX1_fewest_75 : decode cX1_fewest 75 = .ok (.if_icmp .ne 7, 3) := by decide +kernel
theorem dX1_fewest_78 : decode cX1_fewest 78 = .ok (.iload 5, 2) := by decide +kernel
theorem dX1_fewest_80 : decode cX1_fewest 80 = .ok (.istore 4, 2) := by decide +kernel
theorem dX1_fewest_82 : decode cX1_fewest 82 = .ok (.iinc 5 1, 3) := by decide +kernel
theorem dX1_fewest_85 : decode cX1_fewest 85 = .ok (.goto (-79), 3) := by decide +kernel
theorem dX1_fewest_88 : decode cX1_fewest 88 = .ok (.iload 4, 2) := by decide +kernel
theorem dX1_fewest_90 : decode cX1_fewest 90 = .ok (.ireturn, 1) := by decide +kernel
theorem dX1_hops_0 : decode cX1_hops 0 = .ok (.iconst 0, 1) := by decide +kernel
theorem dX1_hops_1 : decode cX1_hops 1 = .ok (.istore 4, 2) := by decide +kernel
theorem dX1_hops_3 : decode cX1_hops 3 = .ok (.iload 4, 2) := by decide +kernel
theorem dX1_hops_5 : decode cX1_hops 5 = .ok (.bipush 7, 2) := by decide +kernel
theorem dX1_hops_7 : decode cX1_hops 7 = .ok (.if_icmp .ge 27, 3) := by decide +kernel
theorem dX1_hops_10 : decode cX1_hops 10 = .ok (.aload_n 0, 1) := by decide +kernel
theorem dX1_hops_11 : decode cX1_hops 11 = .ok (.getfield 9, 3) := by decide +kernel
theorem dX1_hops_14 : decode cX1_hops 14 = .ok (.iload 4, 2) := by decide +kernel
theorem dX1_hops_16 : decode cX1_hops 16 = .ok (.iload 4, 2) := by decide +kernel
theorem dX1_hops_18 : decode cX1_hops 18 = .ok (.iload_n 3, 1) := by decide +kernel
theorem dX1_hops_19 : decode cX1_hops 19 = .ok (.if_icmp .ne 7, 3) := by decide +kernel
theorem dX1_hops_22 : decode cX1_hops 22 = .ok (.iconst 0, 1) := by decide +kernel
theorem dX1_hops_23 : decode cX1_hops 23 = .ok (.goto 4, 3) := by decide +kernel
theorem dX1_hops_26 : decode cX1_hops 26 = .ok (.iconst (-1), 1) := by decide +kernel
theorem dX1_hops_27 : decode cX1_hops 27 = .ok (.iastore, 1) := by decide +kernel
theorem dX1_hops_28 : decode cX1_hops 28 = .ok (.iinc 4 1, 3) := by decide +kernel
theorem dX1_hops_31 : decode cX1_hops 31 = .ok (.goto (-28), 3) := by decide +kernel
theorem dX1_hops_34 : decode cX1_hops 34 = .ok (.iconst 1, 1) := by decide +kernel
theorem dX1_hops_35 : decode cX1_hops 35 = .ok (.istore 4, 2) := by decide +kernel
theorem dX1_hops_37 : decode cX1_hops 37 = .ok (.iload 4, 2) := by decide +kernel
theorem dX1_hops_39 : decode cX1_hops 39 = .ok (.bipush 7, 2) := by decide +kernel
theorem dX1_hops_41 : decode cX1_hops 41 = .ok (.if_icmp .ge 65, 3) := by decide +kernel
theorem dX1_hops_44 : decode cX1_hops 44 = .ok (.iconst 0, 1) := by decide +kernel
theorem dX1_hops_45 : decode cX1_hops 45 = .ok (.istore 5, 2) := by decide +kernel
theorem dX1_hops_47 : decode cX1_hops 47 = .ok (.iload 5, 2) := by decide +kernel
theorem dX1_hops_49 : decode cX1_hops 49 = .ok (.aload_n 0, 1) := by decide +kernel
theorem dX1_hops_50 : decode cX1_hops 50 = .ok (.getfield 18, 3) := by decide +kernel
theorem dX1_hops_53 : decode cX1_hops 53 = .ok (.getfield 95, 3) := by decide +kernel
theorem dX1_hops_56 : decode cX1_hops 56 = .ok (.if_icmp .ge 44, 3) := by decide +kernel
theorem dX1_hops_59 : decode cX1_hops 59 = .ok (.aload_n 0, 1) := by decide +kernel
theorem dX1_hops_60 : decode cX1_hops 60 = .ok (.getfield 9, 3) := by decide +kernel
theorem dX1_hops_63 : decode cX1_hops 63 = .ok (.iload 5, 2) := by decide +kernel
theorem dX1_hops_65 : decode cX1_hops 65 = .ok (.iaload, 1) := by decide +kernel
theorem dX1_hops_66 : decode cX1_hops 66 = .ok (.iconst (-1), 1) := by decide +kernel
theorem dX1_hops_67 : decode cX1_hops 67 = .ok (.if_icmp .ne 27, 3) := by decide +kernel
theorem dX1_hops_70 : decode cX1_hops 70 = .ok (.aload_n 0, 1) := by decide +kernel
theorem dX1_hops_71 : decode cX1_hops 71 = .ok (.aload_n 1, 1) := by decide +kernel
theorem dX1_hops_72 : decode cX1_hops 72 = .ok (.iload 5, 2) := by decide +kernel
theorem dX1_hops_74 : decode cX1_hops 74 = .ok (.iload 4, 2) := by decide +kernel
theorem dX1_hops_76 : decode cX1_hops 76 = .ok (.iconst 1, 1) := by decide +kernel
theorem dX1_hops_77 : decode cX1_hops 77 = .ok (.isub, 1) := by decide +kernel
theorem dX1_hops_78 : decode cX1_hops 78 = .ok (.invokevirtual 150, 3) := by decide +kernel
theorem dX1_hops_81 : decode cX1_hops 81 = .ok (.iconst (-1), 1) := by decide +kernel
theorem dX1_hops_82 : decode cX1_hops 82 = .ok (.if_icmp .eq 12, 3) := by decide +kernel
theorem dX1_hops_85 : decode cX1_hops 85 = .ok (.aload_n 0, 1) := by decide +kernel
theorem dX1_hops_86 : decode cX1_hops 86 = .ok (.getfield 9, 3) := by decide +kernel
theorem dX1_hops_89 : decode cX1_hops 89 = .ok (.iload 5, 2) := by decide +kernel
theorem dX1_hops_91 : decode cX1_hops 91 = .ok (.iload 4, 2) := by decide +kernel
theorem dX1_hops_93 : decode cX1_hops 93 = .ok (.iastore, 1) := by decide +kernel
theorem dX1_hops_94 : decode cX1_hops 94 = .ok (.iinc 5 1, 3) := by decide +kernel
theorem dX1_hops_97 : decode cX1_hops 97 = .ok (.goto (-50), 3) := by decide +kernel
theorem dX1_hops_100 : decode cX1_hops 100 = .ok (.iinc 4 1, 3) := by decide +kernel
theorem dX1_hops_103 : decode cX1_hops 103 = .ok (.goto (-66), 3) := by decide +kernel
theorem dX1_hops_106 : decode cX1_hops 106 = .ok (.aload_n 0, 1) := by decide +kernel
theorem dX1_hops_107 : decode cX1_hops 107 = .ok (.getfield 9, 3) := by decide +kernel
theorem dX1_hops_110 : decode cX1_hops 110 = .ok (.iload_n 2, 1) := by decide +kernel
theorem dX1_hops_111 : decode cX1_hops 111 = .ok (.iaload, 1) := by decide +kernel
theorem dX1_hops_112 : decode cX1_hops 112 = .ok (.ireturn, 1) := by decide +kernel
theorem dX1_nextInChain_0 : decode cX1_nextInChain 0 = .ok (.iconst 0, 1) := by decide +kernel
theorem dX1_nextInChain_1 : decode cX1_nextInChain 1 = .ok (.istore 4, 2) := by decide +kernel
theorem dX1_nextInChain_3 : decode cX1_nextInChain 3 = .ok (.iload 4, 2) := by decide +kernel
theorem dX1_nextInChain_5 : decode cX1_nextInChain 5 = .ok (.aload_n 0, 1) := by decide +kernel
theorem dX1_nextInChain_6 : decode cX1_nextInChain 6 = .ok (.getfield 18, 3) := by decide +kernel
theorem dX1_nextInChain_9 : decode cX1_nextInChain 9 = .ok (.getfield 95, 3) := by decide +kernel
theorem dX1_nextInChain_12 : decode cX1_nextInChain 12 = .ok (.if_icmp .ge 34, 3) := by decide +kernel
theorem dX1_nextInChain_15 : decode cX1_nextInChain 15 = .ok (.aload_n 0, 1) := by decide +kernel
theorem dX1_nextInChain_16 : decode cX1_nextInChain 16 = .ok (.getfield 9, 3) := by decide +kernel
theorem dX1_nextInChain_19 : decode cX1_nextInChain 19 = .ok (.iload 4, 2) := by decide +kernel
theorem dX1_nextInChain_21 : decode cX1_nextInChain 21 = .ok (.iaload, 1) := by decide +kernel
theorem dX1_nextInChain_22 : decode cX1_nextInChain 22 = .ok (.iload_n 3, 1) := by decide +kernel
theorem dX1_nextInChain_23 : decode cX1_nextInChain 23 = .ok (.if_icmp .ne 17, 3) := by decide +kernel
theorem dX1_nextInChain_26 : decode cX1_nextInChain 26 = .ok (.aload_n 0, 1) := by decide +kernel
theorem dX1_nextInChain_27 : decode cX1_nextInChain 27 = .ok (.aload_n 1, 1) := by decide +kernel
theorem dX1_nextInChain_28 : decode cX1_nextInChain 28 = .ok (.iload 4, 2) := by decide +kernel
theorem dX1_nextInChain_30 : decode cX1_nextInChain 30 = .ok (.iload_n 2, 1) := by decide +kernel
theorem dX1_nextInChain_31 : decode cX1_nextInChain 31 = .ok (.invokevirtual 115, 3) := by decide +kernel
theorem dX1_nextInChain_34 : decode cX1_nextInChain 34 = .ok (.ifCond .eq 6, 3) := by decide +kernel
theorem dX1_nextInChain_37 : decode cX1_nextInChain 37 = .ok (.iload 4, 2) := by decide +kernel
theorem dX1_nextInChain_39 : decode cX1_nextInChain 39 = .ok (.ireturn, 1) := by decide +kernel
theorem dX1_nextInChain_40 : decode cX1_nextInChain 40 = .ok (.iinc 4 1, 3) := by decide +kernel
theorem dX1_nextInChain_43 : decode cX1_nextInChain 43 = .ok (.goto (-40), 3) := by decide +kernel
theorem dX1_nextInChain_46 : decode cX1_nextInChain 46 = .ok (.iconst (-1), 1) := by decide +kernel
theorem dX1_nextInChain_47 : decode cX1_nextInChain 47 = .ok (.ireturn, 1) := by decide +kernel
theorem dX1_chainBird_0 : decode cX1_chainBird 0 = .ok (.iload_n 2, 1) := by decide +kernel
theorem dX1_chainBird_1 : decode cX1_chainBird 1 = .ok (.istore 4, 2) := by decide +kernel
theorem dX1_chainBird_3 : decode cX1_chainBird 3 = .ok (.iconst 0, 1) := by decide +kernel
theorem dX1_chainBird_4 : decode cX1_chainBird 4 = .ok (.istore 5, 2) := by decide +kernel
theorem dX1_chainBird_6 : decode cX1_chainBird 6 = .ok (.iload 5, 2) := by decide +kernel
theorem dX1_chainBird_8 : decode cX1_chainBird 8 = .ok (.iload_n 3, 1) := by decide +kernel
theorem dX1_chainBird_9 : decode cX1_chainBird 9 = .ok (.if_icmp .gt 46, 3) := by decide +kernel
theorem dX1_chainBird_12 : decode cX1_chainBird 12 = .ok (.iload 5, 2) := by decide +kernel
theorem dX1_chainBird_14 : decode cX1_chainBird 14 = .ok (.bipush 7, 2) := by decide +kernel
theorem dX1_chainBird_16 : decode cX1_chainBird 16 = .ok (.if_icmp .ge 39, 3) := by decide +kernel
theorem dX1_chainBird_19 : decode cX1_chainBird 19 = .ok (.aload_n 0, 1) := by decide +kernel
theorem dX1_chainBird_20 : decode cX1_chainBird 20 = .ok (.getfield 18, 3) := by decide +kernel
theorem dX1_chainBird_23 : decode cX1_chainBird 23 = .ok (.iload 4, 2) := by decide +kernel
theorem dX1_chainBird_25 : decode cX1_chainBird 25 = .ok (.invokevirtual 123, 3) := by decide +kernel
theorem dX1_chainBird_28 : decode cX1_chainBird 28 = .ok (.ifCond .eq 27, 3) := by decide +kernel
theorem dX1_chainBird_31 : decode cX1_chainBird 31 = .ok (.aload_n 0, 1) := by decide +kernel
theorem dX1_chainBird_32 : decode cX1_chainBird 32 = .ok (.aload_n 1, 1) := by decide +kernel
theorem dX1_chainBird_33 : decode cX1_chainBird 33 = .ok (.iload 4, 2) := by decide +kernel
theorem dX1_chainBird_35 : decode cX1_chainBird 35 = .ok (.aload_n 0, 1) := by decide +kernel
theorem dX1_chainBird_36 : decode cX1_chainBird 36 = .ok (.getfield 9, 3) := by decide +kernel
theorem dX1_chainBird_39 : decode cX1_chainBird 39 = .ok (.iload 4, 2) := by decide +kernel
theorem dX1_chainBird_41 : decode cX1_chainBird 41 = .ok (.iaload, 1) := by decide +kernel
theorem dX1_chainBird_42 : decode cX1_chainBird 42 = .ok (.iconst 1, 1) := by decide +kernel
theorem dX1_chainBird_43 : decode cX1_chainBird 43 = .ok (.isub, 1) := by decide +kernel
theorem dX1_chainBird_44 : decode cX1_chainBird 44 = .ok (.invokevirtual 150, 3) := by decide +kernel
theorem dX1_chainBird_47 : decode cX1_chainBird 47 = .ok (.istore 4, 2) := by decide +kernel
theorem dX1_chainBird_49 : decode cX1_chainBird 49 = .ok (.iinc 5 1, 3) := by decide +kernel
theorem dX1_chainBird_52 : decode cX1_chainBird 52 = .ok (.goto (-46), 3) := by decide +kernel
theorem dX1_chainBird_55 : decode cX1_chainBird 55 = .ok (.iload 4, 2) := by decide +kernel
theorem dX1_chainBird_57 : decode cX1_chainBird 57 = .ok (.ireturn, 1) := by decide +kernel
theorem dX1_fewestEars_0 : decode cX1_fewestEars 0 = .ok (.aload_n 0, 1) := by decide +kernel
theorem dX1_fewestEars_1 : decode cX1_fewestEars 1 = .ok (.aload_n 1, 1) := by decide +kernel
theorem dX1_fewestEars_2 : decode cX1_fewestEars 2 = .ok (.invokevirtual 153, 3) := by decide +kernel
theorem dX1_fewestEars_5 : decode cX1_fewestEars 5 = .ok (.istore_n 2, 1) := by decide +kernel
theorem dX1_fewestEars_6 : decode cX1_fewestEars 6 = .ok (.iconst 0, 1) := by decide +kernel
theorem dX1_fewestEars_7 : decode cX1_fewestEars 7 = .ok (.istore_n 3, 1) := by decide +kernel
theorem dX1_fewestEars_8 : decode cX1_fewestEars 8 = .ok (.iload_n 3, 1) := by decide +kernel
theorem dX1_fewestEars_9 : decode cX1_fewestEars 9 = .ok (.bipush 7, 2) := by decide +kernel
theorem dX1_fewestEars_11 : decode cX1_fewestEars 11 = .ok (.if_icmp .ge 36, 3) := by decide +kernel
theorem dX1_fewestEars_14 : decode cX1_fewestEars 14 = .ok (.aload_n 0, 1) := by decide +kernel
theorem dX1_fewestEars_15 : decode cX1_fewestEars 15 = .ok (.getfield 15, 3) := by decide +kernel
theorem dX1_fewestEars_18 : decode cX1_fewestEars 18 = .ok (.iload_n 3, 1) := by decide +kernel
theorem dX1_fewestEars_19 : decode cX1_fewestEars 19 = .ok (.iload_n 3, 1) := by decide +kernel
theorem dX1_fewestEars_20 : decode cX1_fewestEars 20 = .ok (.aload_n 0, 1) := by decide +kernel
theorem dX1_fewestEars_21 : decode cX1_fewestEars 21 = .ok (.getfield 18, 3) := by decide +kernel
theorem dX1_fewestEars_24 : decode cX1_fewestEars 24 = .ok (.getfield 95, 3) := by decide +kernel
theorem dX1_fewestEars_27 : decode cX1_fewestEars 27 = .ok (.if_icmp .ge 12, 3) := by decide +kernel
theorem dX1_fewestEars_30 : decode cX1_fewestEars 30 = .ok (.aload_n 0, 1) := by decide +kernel
theorem dX1_fewestEars_31 : decode cX1_fewestEars 31 = .ok (.aload_n 1, 1) := by decide +kernel
theorem dX1_fewestEars_32 : decode cX1_fewestEars 32 = .ok (.iload_n 3, 1) := by decide +kernel
theorem dX1_fewestEars_33 : decode cX1_fewestEars 33 = .ok (.invokevirtual 157, 3) := by decide +kernel
theorem dX1_fewestEars_36 : decode cX1_fewestEars 36 = .ok (.goto 4, 3) := by decide +kernel
theorem dX1_fewestEars_39 : decode cX1_fewestEars 39 = .ok (.iconst 0, 1) := by decide +kernel
theorem dX1_fewestEars_40 : decode cX1_fewestEars 40 = .ok (.iastore, 1) := by decide +kernel
theorem dX1_fewestEars_41 : decode cX1_fewestEars 41 = .ok (.iinc 3 1, 3) := by decide +kernel
theorem dX1_fewestEars_44 : decode cX1_fewestEars 44 = .ok (.goto (-36), 3) := by decide +kernel
theorem dX1_fewestEars_47 : decode cX1_fewestEars 47 = .ok (.iload_n 2, 1) := by decide +kernel
theorem dX1_fewestEars_48 : decode cX1_fewestEars 48 = .ok (.istore_n 3, 1) := by decide +kernel
theorem dX1_fewestEars_49 : decode cX1_fewestEars 49 = .ok (.iconst 0, 1) := by decide +kernel
theorem dX1_fewestEars_50 : decode cX1_fewestEars 50 = .ok (.istore 4, 2) := by decide +kernel
theorem dX1_fewestEars_52 : decode cX1_fewestEars 52 = .ok (.iload 4, 2) := by decide +kernel
theorem dX1_fewestEars_54 : decode cX1_fewestEars 54 = .ok (.iload_n 2, 1) := by decide +kernel
theorem dX1_fewestEars_55 : decode cX1_fewestEars 55 = .ok (.if_icmp .ge 55, 3) := by decide +kernel
theorem dX1_fewestEars_58 : decode cX1_fewestEars 58 = .ok (.iload 4, 2) := by decide +kernel
theorem dX1_fewestEars_60 : decode cX1_fewestEars 60 = .ok (.invokestatic 138, 3) := by decide +kernel
theorem dX1_fewestEars_63 : decode cX1_fewestEars 63 = .ok (.iload_n 3, 1) := by decide +kernel
theorem dX1_fewestEars_64 : decode cX1_fewestEars 64 = .ok (.invokestatic 138, 3) := by decide +kernel
theorem dX1_fewestEars_67 : decode cX1_fewestEars 67 = .ok (.if_icmp .ge 7, 3) := by decide +kernel
theorem dX1_fewestEars_70 : decode cX1_fewestEars 70 = .ok (.iconst 1, 1) := by decide +kernel
theorem dX1_fewestEars_71 : decode cX1_fewestEars 71 = .ok (.goto 4, 3) := by decide +kernel
theorem dX1_fewestEars_74 : decode cX1_fewestEars 74 = .ok (.iconst 0, 1) := by decide +kernel
theorem dX1_fewestEars_75 : decode cX1_fewestEars 75 = .ok (.istore 5, 2) := by decide +kernel
theorem dX1_fewestEars_77 : decode cX1_fewestEars 77 = .ok (.iload 5, 2) := by decide +kernel
theorem dX1_fewestEars_79 : decode cX1_fewestEars 79 = .ok (.ifCond .eq 25, 3) := by decide +kernel
theorem dX1_fewestEars_82 : decode cX1_fewestEars 82 = .ok (.iload 4, 2) := by decide +kernel
theorem dX1_fewestEars_84 : decode cX1_fewestEars 84 = .ok (.iload_n 2, 1) := by decide +kernel
theorem dX1_fewestEars_85 : decode cX1_fewestEars 85 = .ok (.iconst (-1), 1) := by decide +kernel
theorem dX1_fewestEars_86 : decode cX1_fewestEars 86 = .ok (.ixor, 1) := by decide +kernel
theorem dX1_fewestEars_87 : decode cX1_fewestEars 87 = .ok (.iand, 1) := by decide +kernel
theorem dX1_fewestEars_88 : decode cX1_fewestEars 88 = .ok (.ifCond .ne 16, 3) := by decide +kernel
theorem dX1_fewestEars_91 : decode cX1_fewestEars 91 = .ok (.aload_n 0, 1) := by decide +kernel
theorem dX1_fewestEars_92 : decode cX1_fewestEars 92 = .ok (.iload 4, 2) := by decide +kernel
theorem dX1_fewestEars_94 : decode cX1_fewestEars 94 = .ok (.iload_n 2, 1) := by decide +kernel
theorem dX1_fewestEars_95 : decode cX1_fewestEars 95 = .ok (.invokevirtual 160, 3) := by decide +kernel
theorem dX1_fewestEars_98 : decode cX1_fewestEars 98 = .ok (.ifCond .eq 6, 3) := by decide +kernel
theorem dX1_fewestEars_101 : decode cX1_fewestEars 101 = .ok (.iload 4, 2) := by decide +kernel
theorem dX1_fewestEars_103 : decode cX1_fewestEars 103 = .ok (.istore_n 3, 1) := by decide +kernel
theorem dX1_fewestEars_104 : decode cX1_fewestEars 104 = .ok (.iinc 4 1, 3) := by decide +kernel
theorem dX1_fewestEars_107 : decode cX1_fewestEars 107 = .ok (.goto (-55), 3) := by decide +kernel
theorem dX1_fewestEars_110 : decode cX1_fewestEars 110 = .ok (.iload_n 3, 1) := by decide +kernel
theorem dX1_fewestEars_111 : decode cX1_fewestEars 111 = .ok (.ireturn, 1) := by decide +kernel
theorem dX1_hearAll_0 : decode cX1_hearAll 0 = .ok (.iconst 0, 1) := by decide +kernel
theorem dX1_hearAll_1 : decode cX1_hearAll 1 = .ok (.istore_n 3, 1) := by decide +kernel
theorem dX1_hearAll_2 : decode cX1_hearAll 2 = .ok (.iload_n 3, 1) := by decide +kernel
theorem dX1_hearAll_3 : decode cX1_hearAll 3 = .ok (.bipush 7, 2) := by decide +kernel
theorem dX1_hearAll_5 : decode cX1_hearAll 5 = .ok (.if_icmp .ge 46, 3) := by decide +kernel
theorem dX1_hearAll_8 : decode cX1_hearAll 8 = .ok (.iload_n 2, 1) := by decide +kernel
theorem dX1_hearAll_9 : decode cX1_hearAll 9 = .ok (.iload_n 1, 1) := by decide +kernel
theorem dX1_hearAll_10 : decode cX1_hearAll 10 = .ok (.iconst (-1), 1) := by decide +kernel
theorem dX1_hearAll_11 : decode cX1_hearAll 11 = .ok (.ixor, 1) := by decide +kernel
theorem dX1_hearAll_12 : decode cX1_hearAll 12 = .ok (.iand, 1) := by decide +kernel
theorem dX1_hearAll_13 : decode cX1_hearAll 13 = .ok (.iconst 1, 1) := by decide +kernel
theorem dX1_hearAll_14 : decode cX1_hearAll 14 = .ok (.iload_n 3, 1) := by decide +kernel
theorem dX1_hearAll_15 : decode cX1_hearAll 15 = .ok (.ishl, 1) := by decide +kernel
theorem dX1_hearAll_16 : decode cX1_hearAll 16 = .ok (.iand, 1) := by decide +kernel
theorem dX1_hearAll_17 : decode cX1_hearAll 17 = .ok (.ifCond .eq 7, 3) := by decide +kernel
theorem dX1_hearAll_20 : decode cX1_hearAll 20 = .ok (.iconst 1, 1) := by decide +kernel
theorem dX1_hearAll_21 : decode cX1_hearAll 21 = .ok (.goto 4, 3) := by decide +kernel
theorem dX1_hearAll_24 : decode cX1_hearAll 24 = .ok (.iconst 0, 1) := by decide +kernel
theorem dX1_hearAll_25 : decode cX1_hearAll 25 = .ok (.istore 4, 2) := by decide +kernel
theorem dX1_hearAll_27 : decode cX1_hearAll 27 = .ok (.iload 4, 2) := by decide +kernel
theorem dX1_hearAll_29 : decode cX1_hearAll 29 = .ok (.ifCond .eq 16, 3) := by decide +kernel
theorem dX1_hearAll_32 : decode cX1_hearAll 32 = .ok (.aload_n 0, 1) := by decide +kernel
theorem dX1_hearAll_33 : decode cX1_hearAll 33 = .ok (.getfield 15, 3) := by decide +kernel
theorem dX1_hearAll_36 : decode cX1_hearAll 36 = .ok (.iload_n 3, 1) := by decide +kernel
theorem dX1_hearAll_37 : decode cX1_hearAll 37 = .ok (.iaload, 1) := by decide +kernel
theorem dX1_hearAll_38 : decode cX1_hearAll 38 = .ok (.iload_n 1, 1) := by decide +kernel
theorem dX1_hearAll_39 : decode cX1_hearAll 39 = .ok (.iand, 1) := by decide +kernel
theorem dX1_hearAll_40 : decode cX1_hearAll 40 = .ok (.ifCond .ne 5, 3) := by decide +kernel
theorem dX1_hearAll_43 : decode cX1_hearAll 43 = .ok (.iconst 0, 1) := by decide +kernel
theorem dX1_hearAll_44 : decode cX1_hearAll 44 = .ok (.ireturn, 1) := by decide +kernel
theorem dX1_hearAll_45 : decode cX1_hearAll 45 = .ok (.iinc 3 1, 3) := by decide +kernel
theorem dX1_hearAll_48 : decode cX1_hearAll 48 = .ok (.goto (-46), 3) := by decide +kernel
theorem dX1_hearAll_51 : decode cX1_hearAll 51 = .ok (.iconst 1, 1) := by decide +kernel
theorem dX1_hearAll_52 : decode cX1_hearAll 52 = .ok (.ireturn, 1) := by decide +kernel
theorem dX1_mattersAsHeard_0 : decode cX1_mattersAsHeard 0 = .ok (.iconst 0, 1) := by decide +kernel
theorem dX1_mattersAsHeard_1 : decode cX1_mattersAsHeard 1 = .ok (.istore_n 2, 1) := by decide +kernel
theorem dX1_mattersAsHeard_2 : decode cX1_mattersAsHeard 2 = .ok (.iconst 0, 1) := by decide +kernel
theorem dX1_mattersAsHeard_3 : decode cX1_mattersAsHeard 3 = .ok (.istore_n 3, 1) := by decide +kernel
theorem dX1_mattersAsHeard_4 : decode cX1_mattersAsHeard 4 = .ok (.iload_n 3, 1) := by decide +kernel
theorem dX1_mattersAsHeard_5 : decode cX1_mattersAsHeard 5 = .ok (.aload_n 0, 1) := by decide +kernel
theorem dX1_mattersAsHeard_6 : decode cX1_mattersAsHeard 6 = .ok (.getfield 18, 3) := by decide +kernel
theorem dX1_mattersAsHeard_9 : decode cX1_mattersAsHeard 9 = .ok (.getfield 102, 3) := by decide +kernel
theorem dX1_mattersAsHeard_12 : decode cX1_mattersAsHeard 12 = .ok (.if_icmp .ge 49, 3) := by decide +kernel
theorem dX1_mattersAsHeard_15 : decode cX1_mattersAsHeard 15 = .ok (.aload_n 0, 1) := by decide +kernel
theorem dX1_mattersAsHeard_16 : decode cX1_mattersAsHeard 16 = .ok (.aload_n 1, 1) := by decide +kernel
theorem dX1_mattersAsHeard_17 : decode cX1_mattersAsHeard 17 = .ok (.iload_n 3, 1) := by decide +kernel
theorem dX1_mattersAsHeard_18 : decode cX1_mattersAsHeard 18 = .ok (.aload_n 0, 1) := by decide +kernel
theorem dX1_mattersAsHeard_19 : decode cX1_mattersAsHeard 19 = .ok (.getfield 18, 3) := by decide +kernel
theorem dX1_mattersAsHeard_22 : decode cX1_mattersAsHeard 22 = .ok (.invokevirtual 74, 3) := by decide +kernel
theorem dX1_mattersAsHeard_25 : decode cX1_mattersAsHeard 25 = .ok (.invokevirtual 130, 3) := by decide +kernel
theorem dX1_mattersAsHeard_28 : decode cX1_mattersAsHeard 28 = .ok (.iload_n 2, 1) := by decide +kernel
theorem dX1_mattersAsHeard_29 : decode cX1_mattersAsHeard 29 = .ok (.aload_n 0, 1) := by decide +kernel
theorem dX1_mattersAsHeard_30 : decode cX1_mattersAsHeard 30 = .ok (.getfield 18, 3) := by decide +kernel
theorem dX1_mattersAsHeard_33 : decode cX1_mattersAsHeard 33 = .ok (.aload_n 0, 1) := by decide +kernel
theorem dX1_mattersAsHeard_34 : decode cX1_mattersAsHeard 34 = .ok (.getfield 92, 3) := by decide +kernel
theorem dX1_mattersAsHeard_37 : decode cX1_mattersAsHeard 37 = .ok (.invokestatic 138, 3) := by decide +kernel
theorem dX1_mattersAsHeard_40 : decode cX1_mattersAsHeard 40 = .ok (.invokevirtual 163, 3) := by decide +kernel
theorem dX1_mattersAsHeard_43 : decode cX1_mattersAsHeard 43 = .ok (.ifCond .eq 9, 3) := by decide +kernel
theorem dX1_mattersAsHeard_46 : decode cX1_mattersAsHeard 46 = .ok (.iconst 1, 1) := by decide +kernel
theorem dX1_mattersAsHeard_47 : decode cX1_mattersAsHeard 47 = .ok (.iload_n 3, 1) := by decide +kernel
theorem dX1_mattersAsHeard_48 : decode cX1_mattersAsHeard 48 = .ok (.ishl, 1) := by decide +kernel
theorem dX1_mattersAsHeard_49 : decode cX1_mattersAsHeard 49 = .ok (.goto 4, 3) := by decide +kernel
theorem dX1_mattersAsHeard_52 : decode cX1_mattersAsHeard 52 = .ok (.iconst 0, 1) := by decide +kernel
theorem dX1_mattersAsHeard_53 : decode cX1_mattersAsHeard 53 = .ok (.ior, 1) := by decide +kernel
theorem dX1_mattersAsHeard_54 : decode cX1_mattersAsHeard 54 = .ok (.istore_n 2, 1) := by decide +kernel
theorem dX1_mattersAsHeard_55 : decode cX1_mattersAsHeard 55 = .ok (.iinc 3 1, 3) := by decide +kernel
theorem dX1_mattersAsHeard_58 : decode cX1_mattersAsHeard 58 = .ok (.goto (-54), 3) := by decide +kernel
theorem dX1_mattersAsHeard_61 : decode cX1_mattersAsHeard 61 = .ok (.iload_n 2, 1) := by decide +kernel
theorem dX1_mattersAsHeard_62 : decode cX1_mattersAsHeard 62 = .ok (.ireturn, 1) := by decide +kernel
theorem dX1_mattersAyeOn_0 : decode cX1_mattersAyeOn 0 = .ok (.iconst 0, 1) := by decide +kernel
theorem dX1_mattersAyeOn_1 : decode cX1_mattersAyeOn 1 = .ok (.istore_n 3, 1) := by decide +kernel
theorem dX1_mattersAyeOn_2 : decode cX1_mattersAyeOn 2 = .ok (.iconst 0, 1) := by decide +kernel
theorem dX1_mattersAyeOn_3 : decode cX1_mattersAyeOn 3 = .ok (.istore 4, 2) := by decide +kernel
theorem dX1_mattersAyeOn_5 : decode cX1_mattersAyeOn 5 = .ok (.iload 4, 2) := by decide +kernel
theorem dX1_mattersAyeOn_7 : decode cX1_mattersAyeOn 7 = .ok (.aload_n 0, 1) := by decide +kernel
theorem dX1_mattersAyeOn_8 : decode cX1_mattersAyeOn 8 = .ok (.getfield 18, 3) := by decide +kernel
theorem dX1_mattersAyeOn_11 : decode cX1_mattersAyeOn 11 = .ok (.getfield 102, 3) := by decide +kernel
theorem dX1_mattersAyeOn_14 : decode cX1_mattersAyeOn 14 = .ok (.if_icmp .ge 39, 3) := by decide +kernel
theorem dX1_mattersAyeOn_17 : decode cX1_mattersAyeOn 17 = .ok (.iload_n 3, 1) := by decide +kernel
theorem dX1_mattersAyeOn_18 : decode cX1_mattersAyeOn 18 = .ok (.aload_n 0, 1) := by decide +kernel
theorem dX1_mattersAyeOn_19 : decode cX1_mattersAyeOn 19 = .ok (.aload_n 1, 1) := by decide +kernel
theorem dX1_mattersAyeOn_20 : decode cX1_mattersAyeOn 20 = .ok (.iload_n 2, 1) := by decide +kernel
theorem dX1_mattersAyeOn_21 : decode cX1_mattersAyeOn 21 = .ok (.iload 4, 2) := by decide +kernel
theorem dX1_mattersAyeOn_23 : decode cX1_mattersAyeOn 23 = .ok (.aload_n 0, 1) := by decide +kernel
theorem dX1_mattersAyeOn_24 : decode cX1_mattersAyeOn 24 = .ok (.getfield 18, 3) := by decide +kernel
theorem dX1_mattersAyeOn_27 : decode cX1_mattersAyeOn 27 = .ok (.invokevirtual 74, 3) := by decide +kernel
theorem dX1_mattersAyeOn_30 : decode cX1_mattersAyeOn 30 = .ok (.invokevirtual 98, 3) := by decide +kernel
theorem dX1_mattersAyeOn_33 : decode cX1_mattersAyeOn 33 = .ok (.iconst 2, 1) := by decide +kernel
theorem dX1_mattersAyeOn_34 : decode cX1_mattersAyeOn 34 = .ok (.if_icmp .ne 10, 3) := by decide +kernel
theorem dX1_mattersAyeOn_37 : decode cX1_mattersAyeOn 37 = .ok (.iconst 1, 1) := by decide +kernel
theorem dX1_mattersAyeOn_38 : decode cX1_mattersAyeOn 38 = .ok (.iload 4, 2) := by decide +kernel
theorem dX1_mattersAyeOn_40 : decode cX1_mattersAyeOn 40 = .ok (.ishl, 1) := by decide +kernel
theorem dX1_mattersAyeOn_41 : decode cX1_mattersAyeOn 41 = .ok (.goto 4, 3) := by decide +kernel
theorem dX1_mattersAyeOn_44 : decode cX1_mattersAyeOn 44 = .ok (.iconst 0, 1) := by decide +kernel
theorem dX1_mattersAyeOn_45 : decode cX1_mattersAyeOn 45 = .ok (.ior, 1) := by decide +kernel
theorem dX1_mattersAyeOn_46 : decode cX1_mattersAyeOn 46 = .ok (.istore_n 3, 1) := by decide +kernel
theorem dX1_mattersAyeOn_47 : decode cX1_mattersAyeOn 47 = .ok (.iinc 4 1, 3) := by decide +kernel
theorem dX1_mattersAyeOn_50 : decode cX1_mattersAyeOn 50 = .ok (.goto (-45), 3) := by decide +kernel
theorem dX1_mattersAyeOn_53 : decode cX1_mattersAyeOn 53 = .ok (.iload_n 3, 1) := by decide +kernel
theorem dX1_mattersAyeOn_54 : decode cX1_mattersAyeOn 54 = .ok (.ireturn, 1) := by decide +kernel
theorem dX2_init_0 : decode cX2_init 0 = .ok (.aload_n 0, 1) := by decide +kernel
theorem dX2_init_1 : decode cX2_init 1 = .ok (.invokespecial 3, 3) := by decide +kernel
theorem dX2_init_4 : decode cX2_init 4 = .ok (.aload_n 0, 1) := by decide +kernel
theorem dX2_init_5 : decode cX2_init 5 = .ok (.new 9, 3) := by decide +kernel
theorem dX2_init_8 : decode cX2_init 8 = .ok (.dup, 1) := by decide +kernel
theorem dX2_init_9 : decode cX2_init 9 = .ok (.invokespecial 11, 3) := by decide +kernel
theorem dX2_init_12 : decode cX2_init 12 = .ok (.putfield 12, 3) := by decide +kernel
theorem dX2_init_15 : decode cX2_init 15 = .ok (.return_, 1) := by decide +kernel
theorem dX2_begin_0 : decode cX2_begin 0 = .ok (.aload_n 0, 1) := by decide +kernel
theorem dX2_begin_1 : decode cX2_begin 1 = .ok (.getfield 12, 3) := by decide +kernel
theorem dX2_begin_4 : decode cX2_begin 4 = .ok (.aload_n 1, 1) := by decide +kernel
theorem dX2_begin_5 : decode cX2_begin 5 = .ok (.getfield 18, 3) := by decide +kernel
theorem dX2_begin_8 : decode cX2_begin 8 = .ok (.invokevirtual 21, 3) := by decide +kernel
theorem dX2_begin_11 : decode cX2_begin 11 = .ok (.aload_n 0, 1) := by decide +kernel
theorem dX2_begin_12 : decode cX2_begin 12 = .ok (.aload_n 1, 1) := by decide +kernel
theorem dX2_begin_13 : decode cX2_begin 13 = .ok (.getfield 25, 3) := by decide +kernel
theorem dX2_begin_16 : decode cX2_begin 16 = .ok (.putfield 29, 3) := by decide +kernel
theorem dX2_begin_19 : decode cX2_begin 19 = .ok (.aload_n 0, 1) := by decide +kernel
theorem dX2_begin_20 : decode cX2_begin 20 = .ok (.aload_n 1, 1) := by decide +kernel
theorem dX2_begin_21 : decode cX2_begin 21 = .ok (.getfield 30, 3) := by decide +kernel
theorem dX2_begin_24 : decode cX2_begin 24 = .ok (.putfield 33, 3) := by decide +kernel
theorem dX2_begin_27 : decode cX2_begin 27 = .ok (.aload_n 0, 1) := by decide +kernel
theorem dX2_begin_28 : decode cX2_begin 28 = .ok (.iload_n 2, 1) := by decide +kernel
theorem dX2_begin_29 : decode cX2_begin 29 = .ok (.putfield 34, 3) := by decide +kernel
theorem dX2_begin_32 : decode cX2_begin 32 = .ok (.return_, 1) := by decide +kernel
theorem dX2_draw_0 : decode cX2_draw 0 = .ok (.aload_n 0, 1) := by decide +kernel
theorem dX2_draw_1 : decode cX2_draw 1 = .ok (.aload_n 0, 1) := by decide +kernel
theorem dX2_draw_2 : decode cX2_draw 2 = .ok (.getfield 34, 3) := by decide +kernel
theorem dX2_draw_5 : decode cX2_draw 5 = .ok (.sipush 1103, 3) := by decide +kernel
theorem dX2_draw_8 : decode cX2_draw 8 = .ok (.imul, 1) := by decide +kernel
theorem dX2_draw_9 : decode cX2_draw 9 = .ok (.sipush 12345, 3) := by decide +kernel
theorem dX2_draw_12 : decode cX2_draw 12 = .ok (.iadd, 1) := by decide +kernel
theorem dX2_draw_13 : decode cX2_draw 13 = .ok (.ldc 37, 2) := by decide +kernel
theorem dX2_draw_15 : decode cX2_draw 15 = .ok (.irem, 1) := by decide +kernel
theorem dX2_draw_16 : decode cX2_draw 16 = .ok (.putfield 34, 3) := by decide +kernel
theorem dX2_draw_19 : decode cX2_draw 19 = .ok (.iload_n 1, 1) := by decide +kernel
theorem dX2_draw_20 : decode cX2_draw 20 = .ok (.ifCond .le 12, 3) := by decide +kernel
theorem dX2_draw_23 : decode cX2_draw 23 = .ok (.aload_n 0, 1) := by decide +kernel
theorem dX2_draw_24 : decode cX2_draw 24 = .ok (.getfield 34, 3) := by decide +kernel
theorem dX2_draw_27 : decode cX2_draw 27 = .ok (.iload_n 1, 1) := by decide +kernel
theorem dX2_draw_28 : decode cX2_draw 28 = .ok (.irem, 1) := by decide +kernel
theorem dX2_draw_29 : decode cX2_draw 29 = .ok (.goto 4, 3) := by decide +kernel
theorem dX2_draw_32 : decode cX2_draw 32 = .ok (.iconst 0, 1) := by decide +kernel
theorem dX2_draw_33 : decode cX2_draw 33 = .ok (.ireturn, 1) := by decide +kernel
theorem dX2_step_0 : decode cX2_step 0 = .ok (.aload_n 0, 1) := by decide +kernel
theorem dX2_step_1 : decode cX2_step 1 = .ok (.aload_n 0, 1) := by decide +kernel
theorem dX2_step_2 : decode cX2_step 2 = .ok (.getfield 29, 3) := by decide +kernel
theorem dX2_step_5 : decode cX2_step 5 = .ok (.invokevirtual 38, 3) := by decide +kernel
theorem dX2_step_8 : decode cX2_step 8 = .ok (.istore_n 2, 1) := by decide +kernel
theorem dX2_step_9 : decode cX2_step 9 = .ok (.aload_n 0, 1) := by decide +kernel
theorem dX2_step_10 : decode cX2_step 10 = .ok (.aload_n 0, 1) := by decide +kernel
theorem dX2_step_11 : decode cX2_step 11 = .ok (.getfield 33, 3) := by decide +kernel
theorem dX2_step_14 : decode cX2_step 14 = .ok (.invokevirtual 38, 3) := by decide +kernel
theorem dX2_step_17 : decode cX2_step 17 = .ok (.istore_n 3, 1) := by decide +kernel
theorem dX2_step_18 : decode cX2_step 18 = .ok (.aload_n 0, 1) := by decide +kernel
theorem dX2_step_19 : decode cX2_step 19 = .ok (.bipush 20, 2) := by decide +kernel
theorem dX2_step_21 : decode cX2_step 21 = .ok (.invokevirtual 38, 3) := by decide +kernel
theorem dX2_step_24 : decode cX2_step 24 = .ok (.istore 4, 2) := by decide +kernel
theorem dX2_step_26 : decode cX2_step 26 = .ok (.aload_n 0, 1) := by decide +kernel
theorem dX2_step_27 : decode cX2_step 27 = .ok (.iconst 4, 1) := by decide +kernel
theorem dX2_step_28 : decode cX2_step 28 = .ok (.invokevirtual 38, 3) := by decide +kernel
theorem dX2_step_31 : decode cX2_step 31 = .ok (.tableswitch 67 0 2 #[25, 39, 52], 25) := by decide +kernel
theorem dX2_step_56 : decode cX2_step 56 = .ok (.aload_n 1, 1) := by decide +kernel
theorem dX2_step_57 : decode cX2_step 57 = .ok (.aload_n 0, 1) := by decide +kernel
theorem dX2_step_58 : decode cX2_step 58 = .ok (.getfield 12, 3) := by decide +kernel
theorem dX2_step_61 : decode cX2_step 61 = .ok (.iload_n 3, 1) := by decide +kernel
theorem dX2_step_62 : decode cX2_step 62 = .ok (.iload_n 2, 1) := by decide +kernel
theorem dX2_step_63 : decode cX2_step 63 = .ok (.invokevirtual 42, 3) := by decide +kernel
theorem dX2_step_66 : decode cX2_step 66 = .ok (.pop, 1) := by decide +kernel
theorem dX2_step_67 : decode cX2_step 67 = .ok (.goto 40, 3) := by decide +kernel
theorem dX2_step_70 : decode cX2_step 70 = .ok (.aload_n 1, 1) := by decide +kernel
theorem dX2_step_71 : decode cX2_step 71 = .ok (.aload_n 0, 1) := by decide +kernel
theorem dX2_step_72 : decode cX2_step 72 = .ok (.getfield 12, 3) := by decide +kernel
theorem dX2_step_75 : decode cX2_step 75 = .ok (.iload_n 3, 1) := by decide +kernel
theorem dX2_step_76 : decode cX2_step 76 = .ok (.invokevirtual 48, 3) := by decide +kernel
theorem dX2_step_79 : decode cX2_step 79 = .ok (.pop, 1) := by decide +kernel
theorem dX2_step_80 : decode cX2_step 80 = .ok (.goto 27, 3) := by decide +kernel
theorem dX2_step_83 : decode cX2_step 83 = .ok (.aload_n 1, 1) := by decide +kernel
theorem dX2_step_84 : decode cX2_step 84 = .ok (.aload_n 0, 1) := by decide +kernel
theorem dX2_step_85 : decode cX2_step 85 = .ok (.getfield 12, 3) := by decide +kernel
theorem dX2_step_88 : decode cX2_step 88 = .ok (.iload_n 2, 1) := by decide +kernel
theorem dX2_step_89 : decode cX2_step 89 = .ok (.iload 4, 2) := by decide +kernel
theorem dX2_step_91 : decode cX2_step 91 = .ok (.invokevirtual 52, 3) := by decide +kernel
theorem dX2_step_94 : decode cX2_step 94 = .ok (.pop, 1) := by decide +kernel
theorem dX2_step_95 : decode cX2_step 95 = .ok (.goto 12, 3) := by decide +kernel
theorem dX2_step_98 : decode cX2_step 98 = .ok (.aload_n 1, 1) := by decide +kernel
theorem dX2_step_99 : decode cX2_step 99 = .ok (.aload_n 0, 1) := by decide +kernel
theorem dX2_step_100 : decode cX2_step 100 = .ok (.getfield 12, 3) := by decide +kernel
theorem dX2_step_103 : decode cX2_step 103 = .ok (.invokevirtual 55, 3) := by decide +kernel
theorem dX2_step_106 : decode cX2_step 106 = .ok (.pop, 1) := by decide +kernel
theorem dX2_step_107 : decode cX2_step 107 = .ok (.return_, 1) := by decide +kernel
theorem dX3_init_0 : decode cX3_init 0 = .ok (.aload_n 0, 1) := by decide +kernel
theorem dX3_init_1 : decode cX3_init 1 = .ok (.invokespecial 3, 3) := by decide +kernel
theorem dX3_init_4 : decode cX3_init 4 = .ok (.aload_n 0, 1) := by decide +kernel
theorem dX3_init_5 : decode cX3_init 5 = .ok (.new 9, 3) := by decide +kernel
theorem dX3_init_8 : decode cX3_init 8 = .ok (.dup, 1) := by decide +kernel
theorem dX3_init_9 : decode cX3_init 9 = .ok (.invokespecial 11, 3) := by decide +kernel
theorem dX3_init_12 : decode cX3_init 12 = .ok (.putfield 12, 3) := by decide +kernel
theorem dX3_init_15 : decode cX3_init 15 = .ok (.aload_n 0, 1) := by decide +kernel
theorem dX3_init_16 : decode cX3_init 16 = .ok (.new 18, 3) := by decide +kernel
theorem dX3_init_19 : decode cX3_init 19 = .ok (.dup, 1) := by decide +kernel
theorem dX3_init_20 : decode cX3_init 20 = .ok (.sipush 400, 3) := by decide +kernel
theorem dX3_init_23 : decode cX3_init 23 = .ok (.bipush 12, 2) := by decide +kernel
theorem dX3_init_25 : decode cX3_init 25 = .ok (.invokespecial 20, 3) := by decide +kernel
theorem dX3_init_28 : decode cX3_init 28 = .ok (.putfield 23, 3) := by decide +kernel
theorem dX3_init_31 : decode cX3_init 31 = .ok (.return_, 1) := by decide +kernel
theorem dX3_read_0 : decode cX3_read 0 = .ok (.aload_n 0, 1) := by decide +kernel
theorem dX3_read_1 : decode cX3_read 1 = .ok (.getfield 12, 3) := by decide +kernel
theorem dX3_read_4 : decode cX3_read 4 = .ok (.aload_n 1, 1) := by decide +kernel
theorem dX3_read_5 : decode cX3_read 5 = .ok (.iload_n 2, 1) := by decide +kernel
theorem dX3_read_6 : decode cX3_read 6 = .ok (.invokevirtual 27, 3) := by decide +kernel
theorem dX3_read_9 : decode cX3_read 9 = .ok (.aload_n 0, 1) := by decide +kernel
theorem dX3_read_10 : decode cX3_read 10 = .ok (.iload_n 3, 1) := by decide +kernel
theorem dX3_read_11 : decode cX3_read 11 = .ok (.putfield 31, 3) := by decide +kernel
theorem dX3_read_14 : decode cX3_read 14 = .ok (.aload_n 0, 1) := by decide +kernel
theorem dX3_read_15 : decode cX3_read 15 = .ok (.iconst 0, 1) := by decide +kernel
theorem dX3_read_16 : decode cX3_read 16 = .ok (.putfield 35, 3) := by decide +kernel
theorem dX3_read_19 : decode cX3_read 19 = .ok (.aload_n 0, 1) := by decide +kernel
theorem dX3_read_20 : decode cX3_read 20 = .ok (.iconst 0, 1) := by decide +kernel
theorem dX3_read_21 : decode cX3_read 21 = .ok (.putfield 39, 3) := by decide +kernel
theorem dX3_read_24 : decode cX3_read 24 = .ok (.aload_n 0, 1) := by decide +kernel
theorem dX3_read_25 : decode cX3_read 25 = .ok (.getfield 23, 3) := by decide +kernel
theorem dX3_read_28 : decode cX3_read 28 = .ok (.iconst 0, 1) := by decide +kernel
theorem dX3_read_29 : decode cX3_read 29 = .ok (.putfield 42, 3) := by decide +kernel
theorem dX3_read_32 : decode cX3_read 32 = .ok (.aload_n 0, 1) := by decide +kernel
theorem dX3_read_33 : decode cX3_read 33 = .ok (.getfield 23, 3) := by decide +kernel
theorem dX3_read_36 : decode cX3_read 36 = .ok (.iconst 0, 1) := by decide +kernel
theorem dX3_read_37 : decode cX3_read 37 = .ok (.putfield 45, 3) := by decide +kernel
theorem dX3_read_40 : decode cX3_read 40 = .ok (.iconst 0, 1) := by decide +kernel
theorem dX3_read_41 : decode cX3_read 41 = .ok (.istore 4, 2) := by decide +kernel
theorem dX3_read_43 : decode cX3_read 43 = .ok (.iload 4, 2) := by decide +kernel
theorem dX3_read_45 : decode cX3_read 45 = .ok (.bipush 12, 2) := by decide +kernel
theorem dX3_read_47 : decode cX3_read 47 = .ok (.if_icmp .ge 140, 3) := by decide +kernel
theorem dX3_read_50 : decode cX3_read 50 = .ok (.aload_n 0, 1) := by decide +kernel
theorem dX3_read_51 : decode cX3_read 51 = .ok (.iconst 0, 1) := by decide +kernel
theorem dX3_read_52 : decode cX3_read 52 = .ok (.aload_n 0, 1) := by decide +kernel
theorem dX3_read_53 : decode cX3_read 53 = .ok (.invokevirtual 48, 3) := by decide +kernel
theorem dX3_read_56 : decode cX3_read 56 = .ok (.invokevirtual 52, 3) := by decide +kernel
theorem dX3_read_59 : decode cX3_read 59 = .ok (.aload_n 0, 1) := by decide +kernel
theorem dX3_read_60 : decode cX3_read 60 = .ok (.iconst 1, 1) := by decide +kernel
theorem dX3_read_61 : decode cX3_read 61 = .ok (.iconst 1, 1) := by decide +kernel
theorem dX3_read_62 : decode cX3_read 62 = .ok (.invokevirtual 52, 3) := by decide +kernel
theorem dX3_read_65 : decode cX3_read 65 = .ok (.aload_n 0, 1) := by decide +kernel
theorem dX3_read_66 : decode cX3_read 66 = .ok (.iconst 2, 1) := by decide +kernel
theorem dX3_read_67 : decode cX3_read 67 = .ok (.aload_n 0, 1) := by decide +kernel
theorem dX3_read_68 : decode cX3_read 68 = .ok (.getfield 23, 3) := by decide +kernel
theorem dX3_read_71 : decode cX3_read 71 = .ok (.getfield 42, 3) := by decide +kernel
theorem dX3_read_74 : decode cX3_read 74 = .ok (.invokevirtual 52, 3) := by decide +kernel
theorem dX3_read_77 : decode cX3_read 77 = .ok (.aload_n 0, 1) := by decide +kernel
theorem dX3_read_78 : decode cX3_read 78 = .ok (.getfield 31, 3) := by decide +kernel
theorem dX3_read_81 : decode cX3_read 81 = .ok (.ifCond .eq 13, 3) := by decide +kernel
theorem dX3_read_84 : decode cX3_read 84 = .ok (.aload_n 0, 1) := by decide +kernel
theorem dX3_read_85 : decode cX3_read 85 = .ok (.invokevirtual 55, 3) := by decide +kernel
theorem dX3_read_88 : decode cX3_read 88 = .ok (.ifCond .eq 13, 3) := by decide +kernel
theorem dX3_read_91 : decode cX3_read 91 = .ok (.goto 12, 3) := by decide +kernel
theorem dX3_read_94 : decode cX3_read 94 = .ok (.aload_n 0, 1) := by decide +kernel
theorem dX3_read_95 : decode cX3_read 95 = .ok (.invokevirtual 59, 3) := by decide +kernel
theorem dX3_read_98 : decode cX3_read 98 = .ok (.ifCond .ne 5, 3) := by decide +kernel
theorem dX3_read_101 : decode cX3_read 101 = .ok (.iconst 0, 1) := by decide +kernel
theorem dX3_read_102 : decode cX3_read 102 = .ok (.ireturn, 1) := by decide +kernel
theorem dX3_read_103 : decode cX3_read 103 = .ok (.aload_n 0, 1) := by decide +kernel
theorem dX3_read_104 : decode cX3_read 104 = .ok (.invokevirtual 48, 3) := by decide +kernel
theorem dX3_read_107 : decode cX3_read 107 = .ok (.sipush 259, 3) := by decide +kernel
theorem dX3_read_110 : decode cX3_read 110 = .ok (.if_icmp .ne 17, 3) := by decide +kernel
theorem dX3_read_113 : decode cX3_read 113 = .ok (.aload_n 0, 1) := by decide +kernel
theorem dX3_read_114 : decode cX3_read 114 = .ok (.invokevirtual 62, 3) := by decide +kernel
theorem dX3_read_117 : decode cX3_read 117 = .ok (.aload_n 0, 1) := by decide +kernel
theorem dX3_read_118 : decode cX3_read 118 = .ok (.iconst 0, 1) := by decide +kernel
theorem dX3_read_119 : decode cX3_read 119 = .ok (.invokevirtual 65, 3) := by decide +kernel
theorem dX3_read_122 : decode cX3_read 122 = .ok (.ifCond .ne 5, 3) := by decide +kernel
theorem dX3_read_125 : decode cX3_read 125 = .ok (.iconst 0, 1) := by decide +kernel
theorem dX3_read_126 : decode cX3_read 126 = .ok (.ireturn, 1) := by decide +kernel
theorem dX3_read_127 : decode cX3_read 127 = .ok (.aload_n 0, 1) := by decide +kernel
theorem dX3_read_128 : decode cX3_read 128 = .ok (.iconst 5, 1) := by decide +kernel
theorem dX3_read_129 : decode cX3_read 129 = .ok (.aload_n 0, 1) := by decide +kernel
theorem dX3_read_130 : decode cX3_read 130 = .ok (.getfield 23, 3) := by decide +kernel
theorem dX3_read_133 : decode cX3_read 133 = .ok (.getfield 42, 3) := by decide +kernel
theorem dX3_read_136 : decode cX3_read 136 = .ok (.invokevirtual 52, 3) := by decide +kernel
theorem dX3_read_139 : decode cX3_read 139 = .ok (.aload_n 0, 1) := by decide +kernel
theorem dX3_read_140 : decode cX3_read 140 = .ok (.getfield 23, 3) := by decide +kernel
theorem dX3_read_143 : decode cX3_read 143 = .ok (.dup, 1) := by decide +kernel
theorem dX3_read_144 : decode cX3_read 144 = .ok (.getfield 45, 3) := by decide +kernel
theorem dX3_read_147 : decode cX3_read 147 = .ok (.iconst 1, 1) := by decide +kernel
theorem dX3_read_148 : decode cX3_read 148 = .ok (.iadd, 1) := by decide +kernel
theorem dX3_read_149 : decode cX3_read 149 = .ok (.putfield 45, 3) := by decide +kernel
theorem dX3_read_152 : decode cX3_read 152 = .ok (.aload_n 0, 1) := by decide +kernel
theorem dX3_read_153 : decode cX3_read 153 = .ok (.invokevirtual 48, 3) := by decide +kernel
theorem dX3_read_156 : decode cX3_read 156 = .ok (.bipush 59, 2) := by decide +kernel
theorem dX3_read_158 : decode cX3_read 158 = .ok (.if_icmp .eq 19, 3) := by decide +kernel
theorem dX3_read_161 : decode cX3_read 161 = .ok (.aload_n 0, 1) := by decide +kernel
theorem dX3_read_162 : decode cX3_read 162 = .ok (.invokevirtual 48, 3) := by decide +kernel
theorem dX3_read_165 : decode cX3_read 165 = .ok (.sipush 285, 3) := by decide +kernel
theorem dX3_read_168 : decode cX3_read 168 = .ok (.if_icmp .ne 7, 3) := by decide +kernel
theorem dX3_read_171 : decode cX3_read 171 = .ok (.iconst 1, 1) := by decide +kernel
theorem dX3_read_172 : decode cX3_read 172 = .ok (.goto 4, 3) := by decide +kernel
theorem dX3_read_175 : decode cX3_read 175 = .ok (.iconst 0, 1) := by decide +kernel
theorem dX3_read_176 : decode cX3_read 176 = .ok (.ireturn, 1) := by decide +kernel
theorem dX3_read_177 : decode cX3_read 177 = .ok (.aload_n 0, 1) := by decide +kernel
theorem dX3_read_178 : decode cX3_read 178 = .ok (.invokevirtual 62, 3) := by decide +kernel
theorem dX3_read_181 : decode cX3_read 181 = .ok (.iinc 4 1, 3) := by decide +kernel
theorem dX3_read_184 : decode cX3_read 184 = .ok (.goto (-141), 3) := by decide +kernel
theorem dX3_read_187 : decode cX3_read 187 = .ok (.iconst 0, 1) := by decide +kernel
theorem dX3_read_188 : decode cX3_read 188 = .ok (.ireturn, 1) := by decide +kernel
theorem dX3_place_0 : decode cX3_place 0 = .ok (.aload_n 0, 1) := by decide +kernel
theorem dX3_place_1 : decode cX3_place 1 = .ok (.getfield 35, 3) := by decide +kernel
theorem dX3_place_4 : decode cX3_place 4 = .ok (.ifCond .lt 32, 3) := by decide +kernel
theorem dX3_place_7 : decode cX3_place 7 = .ok (.aload_n 0, 1) := by decide +kernel
theorem dX3_place_8 : decode cX3_place 8 = .ok (.getfield 35, 3) := by decide +kernel
theorem dX3_place_11 : decode cX3_place 11 = .ok (.aload_n 0, 1) := by decide +kernel
theorem dX3_place_12 : decode cX3_place 12 = .ok (.getfield 12, 3) := by decide +kernel
theorem dX3_place_15 : decode cX3_place 15 = .ok (.getfield 69, 3) := by decide +kernel
theorem dX3_place_18 : decode cX3_place 18 = .ok (.if_icmp .ge 18, 3) := by decide +kernel
theorem dX3_place_21 : decode cX3_place 21 = .ok (.aload_n 0, 1) := by decide +kernel
theorem dX3_place_22 : decode cX3_place 22 = .ok (.getfield 12, 3) := by decide +kernel
theorem dX3_place_25 : decode cX3_place 25 = .ok (.getfield 72, 3) := by decide +kernel
theorem dX3_place_28 : decode cX3_place 28 = .ok (.aload_n 0, 1) := by decide +kernel
theorem dX3_place_29 : decode cX3_place 29 = .ok (.getfield 35, 3) := by decide +kernel
theorem dX3_place_32 : decode cX3_place 32 = .ok (.iaload, 1) := by decide +kernel
theorem dX3_place_33 : decode cX3_place 33 = .ok (.goto 4, 3) := by decide +kernel
theorem dX3_place_36 : decode cX3_place 36 = .ok (.iconst 0, 1) := by decide +kernel
theorem dX3_place_37 : decode cX3_place 37 = .ok (.ireturn, 1) := by decide +kernel
theorem dX3_kind_0 : decode cX3_kind 0 = .ok (.aload_n 0, 1) := by decide +kernel
theorem dX3_kind_1 : decode cX3_kind 1 = .ok (.getfield 35, 3) := by decide +kernel
theorem dX3_kind_4 : decode cX3_kind 4 = .ok (.ifCond .lt 32, 3) := by decide +kernel
theorem dX3_kind_7 : decode cX3_kind 7 = .ok (.aload_n 0, 1) := by decide +kernel
theorem dX3_kind_8 : decode cX3_kind 8 = .ok (.getfield 35, 3) := by decide +kernel
theorem dX3_kind_11 : decode cX3_kind 11 = .ok (.aload_n 0, 1) := by decide +kernel
theorem dX3_kind_12 : decode cX3_kind 12 = .ok (.getfield 12, 3) := by decide +kernel
theorem dX3_kind_15 : decode cX3_kind 15 = .ok (.getfield 69, 3) := by decide +kernel
theorem dX3_kind_18 : decode cX3_kind 18 = .ok (.if_icmp .ge 18, 3) := by decide +kernel
theorem dX3_kind_21 : decode cX3_kind 21 = .ok (.aload_n 0, 1) := by decide +kernel
theorem dX3_kind_22 : decode cX3_kind 22 = .ok (.getfield 12, 3) := by decide +kernel
theorem dX3_kind_25 : decode cX3_kind 25 = .ok (.getfield 76, 3) := by decide +kernel
theorem dX3_kind_28 : decode cX3_kind 28 = .ok (.aload_n 0, 1) := by decide +kernel
theorem dX3_kind_29 : decode cX3_kind 29 = .ok (.getfield 35, 3) := by decide +kernel
theorem dX3_kind_32 : decode cX3_kind 32 = .ok (.iaload, 1) := by decide +kernel
theorem dX3_kind_33 : decode cX3_kind 33 = .ok (.goto 6, 3) := by decide +kernel
theorem dX3_kind_36 : decode cX3_kind 36 = .ok (.sipush 285, 3) := by decide +kernel
theorem dX3_kind_39 : decode cX3_kind 39 = .ok (.ireturn, 1) := by decide +kernel
theorem dX3_number_0 : decode cX3_number 0 = .ok (.aload_n 0, 1) := by decide +kernel
theorem dX3_number_1 : decode cX3_number 1 = .ok (.getfield 35, 3) := by decide +kernel
theorem dX3_number_4 : decode cX3_number 4 = .ok (.ifCond .lt 32, 3) := by decide +kernel
theorem dX3_number_7 : decode cX3_number 7 = .ok (.aload_n 0, 1) := by decide +kernel
theorem dX3_number_8 : decode cX3_number 8 = .ok (.getfield 35, 3) := by decide +kernel
theorem dX3_number_11 : decode cX3_number 11 = .ok (.aload_n 0, 1) := by decide +kernel
theorem dX3_number_12 : decode cX3_number 12 = .ok (.getfield 12, 3) := by decide +kernel
theorem dX3_number_15 : decode cX3_number 15 = .ok (.getfield 69, 3) := by decide +kernel
theorem dX3_number_18 : decode cX3_number 18 = .ok (.if_icmp .ge 18, 3) := by decide +kernel
theorem dX3_number_21 : decode cX3_number 21 = .ok (.aload_n 0, 1) := by decide +kernel
theorem dX3_number_22 : decode cX3_number 22 = .ok (.getfield 12, 3) := by decide +kernel
theorem dX3_number_25 : decode cX3_number 25 = .ok (.getfield 79, 3) := by decide +kernel
theorem dX3_number_28 : decode cX3_number 28 = .ok (.aload_n 0, 1) := by decide +kernel
theorem dX3_number_29 : decode cX3_number 29 = .ok (.getfield 35, 3) := by decide +kernel
theorem dX3_number_32 : decode cX3_number 32 = .ok (.iaload, 1) := by decide +kernel
theorem dX3_number_33 : decode cX3_number 33 = .ok (.goto 4, 3) := by decide +kernel
theorem dX3_number_36 : decode cX3_number 36 = .ok (.iconst 0, 1) := by decide +kernel
theorem dX3_number_37 : decode cX3_number 37 = .ok (.ireturn, 1) := by decide +kernel
theorem dX3_next_0 : decode cX3_next 0 = .ok (.aload_n 0, 1) := by decide +kernel
theorem dX3_next_1 : decode cX3_next 1 = .ok (.dup, 1) := by decide +kernel
theorem dX3_next_2 : decode cX3_next 2 = .ok (.getfield 35, 3) := by decide +kernel
theorem dX3_next_5 : decode cX3_next 5 = .ok (.iconst 1, 1) := by decide +kernel
theorem dX3_next_6 : decode cX3_next 6 = .ok (.iadd, 1) := by decide +kernel
theorem dX3_next_7 : decode cX3_next 7 = .ok (.putfield 35, 3) := by decide +kernel
theorem dX3_next_10 : decode cX3_next 10 = .ok (.return_, 1) := by decide +kernel
theorem dX3_isNumber_0 : decode cX3_isNumber 0 = .ok (.aload_n 0, 1) := by decide +kernel
theorem dX3_isNumber_1 : decode cX3_isNumber 1 = .ok (.getfield 35, 3) := by decide +kernel
theorem dX3_isNumber_4 : decode cX3_isNumber 4 = .ok (.ifCond .lt 71, 3) := by decide +kernel
theorem dX3_isNumber_7 : decode cX3_isNumber 7 = .ok (.aload_n 0, 1) := by decide +kernel
theorem dX3_isNumber_8 : decode cX3_isNumber 8 = .ok (.getfield 35, 3) := by decide +kernel
theorem dX3_isNumber_11 : decode cX3_isNumber 11 = .ok (.aload_n 0, 1) := by decide +kernel
theorem dX3_isNumber_12 : decode cX3_isNumber 12 = .ok (.getfield 12, 3) := by decide +kernel
theorem dX3_isNumber_15 : decode cX3_isNumber 15 = .ok (.getfield 69, 3) := by decide +kernel
theorem dX3_isNumber_18 : decode cX3_isNumber 18 = .ok (.if_icmp .ge 57, 3) := by decide +kernel
theorem dX3_isNumber_21 : decode cX3_isNumber 21 = .ok (.aload_n 0, 1) := by decide +kernel
theorem dX3_isNumber_22 : decode cX3_isNumber 22 = .ok (.getfield 12, 3) := by decide +kernel
theorem dX3_isNumber_25 : decode cX3_isNumber 25 = .ok (.getfield 76, 3) := by decide +kernel
theorem dX3_isNumber_28 : decode cX3_isNumber 28 = .ok (.aload_n 0, 1) := by decide +kernel
theorem dX3_isNumber_29 : decode cX3_isNumber 29 = .ok (.getfield 35, 3) := by decide +kernel
theorem dX3_isNumber_32 : decode cX3_isNumber 32 = .ok (.iaload, 1) := by decide +kernel
theorem dX3_isNumber_33 : decode cX3_isNumber 33 = .ok (.sipush 284, 3) := by decide +kernel
theorem dX3_isNumber_36 : decode cX3_isNumber 36 = .ok (.if_icmp .ne 39, 3) := by decide +kernel
theorem dX3_isNumber_39 : decode cX3_isNumber 39 = .ok (.aload_n 0, 1) := by decide +kernel
theorem dX3_isNumber_40 : decode cX3_isNumber 40 = .ok (.getfield 12, 3) := by decide +kernel
theorem dX3_isNumber_43 : decode cX3_isNumber 43 = .ok (.getfield 79, 3) := by decide +kernel
theorem dX3_isNumber_46 : decode cX3_isNumber 46 = .ok (.aload_n 0, 1) := by decide +kernel
theorem dX3_isNumber_47 : decode cX3_isNumber 47 = .ok (.getfield 35, 3) := by decide +kernel
theorem dX3_isNumber_50 : decode cX3_isNumber 50 = .ok (.iaload, 1) := by decide +kernel
theorem dX3_isNumber_51 : decode cX3_isNumber 51 = .ok (.iload_n 1, 1) := by decide +kernel
theorem dX3_isNumber_52 : decode cX3_isNumber 52 = .ok (.if_icmp .lt 23, 3) := by decide +kernel
theorem dX3_isNumber_55 : decode cX3_isNumber 55 = .ok (.aload_n 0, 1) := by decide +kernel
theorem dX3_isNumber_56 : decode cX3_isNumber 56 = .ok (.getfield 12, 3) := by decide +kernel
theorem dX3_isNumber_59 : decode cX3_isNumber 59 = .ok (.getfield 79, 3) := by decide +kernel
theorem dX3_isNumber_62 : decode cX3_isNumber 62 = .ok (.aload_n 0, 1) := by decide +kernel
theorem dX3_isNumber_63 : decode cX3_isNumber 63 = .ok (.getfield 35, 3) := by decide +kernel
theorem dX3_isNumber_66 : decode cX3_isNumber 66 = .ok (.iaload, 1) := by decide +kernel
theorem dX3_isNumber_67 : decode cX3_isNumber 67 = .ok (.iload_n 2, 1) := by decide +kernel
theorem dX3_isNumber_68 : decode cX3_isNumber 68 = .ok (.if_icmp .gt 7, 3) := by decide +kernel
theorem dX3_isNumber_71 : decode cX3_isNumber 71 = .ok (.iconst 1, 1) := by decide +kernel
theorem dX3_isNumber_72 : decode cX3_isNumber 72 = .ok (.goto 4, 3) := by decide +kernel
theorem dX3_isNumber_75 : decode cX3_isNumber 75 = .ok (.iconst 0, 1) := by decide +kernel
theorem dX3_isNumber_76 : decode cX3_isNumber 76 = .ok (.ireturn, 1) := by decide +kernel
theorem dX3_setHead_0 : decode cX3_setHead 0 = .ok (.aload_n 0, 1) := by decide +kernel
theorem dX3_setHead_1 : decode cX3_setHead 1 = .ok (.getfield 23, 3) := by decide +kernel
theorem dX3_setHead_4 : decode cX3_setHead 4 = .ok (.aload_n 0, 1) := by decide +kernel
theorem dX3_setHead_5 : decode cX3_setHead 5 = .ok (.getfield 23, 3) := by decide +kernel
theorem dX3_setHead_8 : decode cX3_setHead 8 = .ok (.getfield 45, 3) := by decide +kernel
theorem dX3_setHead_11 : decode cX3_setHead 11 = .ok (.iload_n 1, 1) := by decide +kernel
theorem dX3_setHead_12 : decode cX3_setHead 12 = .ok (.iload_n 2, 1) := by decide +kernel
theorem dX3_setHead_13 : decode cX3_setHead 13 = .ok (.invokevirtual 82, 3) := by decide +kernel
theorem dX3_setHead_16 : decode cX3_setHead 16 = .ok (.return_, 1) := by decide +kernel
theorem dX3_emit_0 : decode cX3_emit 0 = .ok (.aload_n 0, 1) := by decide +kernel
theorem dX3_emit_1 : decode cX3_emit 1 = .ok (.getfield 23, 3) := by decide +kernel
theorem dX3_emit_4 : decode cX3_emit 4 = .ok (.getfield 42, 3) := by decide +kernel
theorem dX3_emit_7 : decode cX3_emit 7 = .ok (.ifCond .lt 59, 3) := by decide +kernel
theorem dX3_emit_10 : decode cX3_emit 10 = .ok (.aload_n 0, 1) := by decide +kernel
theorem dX3_emit_11 : decode cX3_emit 11 = .ok (.getfield 23, 3) := by decide +kernel
theorem dX3_emit_14 : decode cX3_emit 14 = .ok (.getfield 42, 3) := by decide +kernel
theorem dX3_emit_17 : decode cX3_emit 17 = .ok (.aload_n 0, 1) := by decide +kernel
theorem dX3_emit_18 : decode cX3_emit 18 = .ok (.getfield 23, 3) := by decide +kernel
theorem dX3_emit_21 : decode cX3_emit 21 = .ok (.getfield 85, 3) := by decide +kernel
theorem dX3_emit_24 : decode cX3_emit 24 = .ok (.arraylength, 1) := by decide +kernel
theorem dX3_emit_25 : decode cX3_emit 25 = .ok (.if_icmp .ge 41, 3) := by decide +kernel
theorem dX3_emit_28 : decode cX3_emit 28 = .ok (.aload_n 0, 1) := by decide +kernel
theorem dX3_emit_29 : decode cX3_emit 29 = .ok (.getfield 23, 3) := by decide +kernel
theorem dX3_emit_32 : decode cX3_emit 32 = .ok (.getfield 85, 3) := by decide +kernel
theorem dX3_emit_35 : decode cX3_emit 35 = .ok (.aload_n 0, 1) := by decide +kernel
theorem dX3_emit_36 : decode cX3_emit 36 = .ok (.getfield 23, 3) := by decide +kernel
theorem dX3_emit_39 : decode cX3_emit 39 = .ok (.getfield 42, 3) := by decide +kernel
theorem dX3_emit_42 : decode cX3_emit 42 = .ok (.iload_n 1, 1) := by decide +kernel
theorem dX3_emit_43 : decode cX3_emit 43 = .ok (.bipush 10, 2) := by decide +kernel
theorem dX3_emit_45 : decode cX3_emit 45 = .ok (.ishl, 1) := by decide +kernel
theorem dX3_emit_46 : decode cX3_emit 46 = .ok (.iload_n 2, 1) := by decide +kernel
theorem dX3_emit_47 : decode cX3_emit 47 = .ok (.sipush 1023, 3) := by decide +kernel
theorem dX3_emit_50 : decode cX3_emit 50 = .ok (.iand, 1) := by decide +kernel
theorem dX3_emit_51 : decode cX3_emit 51 = .ok (.ior, 1) := by decide +kernel
theorem dX3_emit_52 : decode cX3_emit 52 = .ok (.iastore, 1) := by decide +kernel
theorem dX3_emit_53 : decode cX3_emit 53 = .ok (.aload_n 0, 1) := by decide +kernel
theorem dX3_emit_54 : decode cX3_emit 54 = .ok (.getfield 23, 3) := by decide +kernel
theorem dX3_emit_57 : decode cX3_emit 57 = .ok (.dup, 1) := by decide +kernel
theorem dX3_emit_58 : decode cX3_emit 58 = .ok (.getfield 42, 3) := by decide +kernel
theorem dX3_emit_61 : decode cX3_emit 61 = .ok (.iconst 1, 1) := by decide +kernel
theorem dX3_emit_62 : decode cX3_emit 62 = .ok (.iadd, 1) := by decide +kernel
theorem dX3_emit_63 : decode cX3_emit 63 = .ok (.putfield 42, 3) := by decide +kernel
theorem dX3_emit_66 : decode cX3_emit 66 = .ok (.return_, 1) := by decide +kernel
theorem dX3_lawClause_0 : decode cX3_lawClause 0 = .ok (.aload_n 0, 1) := by decide +kernel
theorem dX3_lawClause_1 : decode cX3_lawClause 1 = .ok (.invokevirtual 48, 3) := by decide +kernel
theorem dX3_lawClause_4 : decode cX3_lawClause 4 = .ok (.istore_n 1, 1) := by decide +kernel
theorem dX3_lawClause_5 : decode cX3_lawClause 5 = .ok (.iload_n 1, 1) := by decide +kernel
theorem dX3_lawClause_6 : decode cX3_lawClause 6 = .ok (.sipush 263, 3) := by decide +kernel
theorem dX3_lawClause_9 : decode cX3_lawClause 9 = .ok (.if_icmp .lt 10, 3) := by decide +kernel
theorem dX3_lawClause_12 : decode cX3_lawClause 12 = .ok (.iload_n 1, 1) := by decide +kernel
theorem dX3_lawClause_13 : decode cX3_lawClause 13 = .ok (.sipush 265, 3) := by decide +kernel
theorem dX3_lawClause_16 : decode cX3_lawClause 16 = .ok (.if_icmp .le 5, 3) := by decide +kernel
theorem dX3_lawClause_19 : decode cX3_lawClause 19 = .ok (.iconst 0, 1) := by decide +kernel
theorem dX3_lawClause_20 : decode cX3_lawClause 20 = .ok (.ireturn, 1) := by decide +kernel
theorem dX3_lawClause_21 : decode cX3_lawClause 21 = .ok (.aload_n 0, 1) := by decide +kernel
theorem dX3_lawClause_22 : decode cX3_lawClause 22 = .ok (.invokevirtual 62, 3) := by decide +kernel
theorem dX3_lawClause_25 : decode cX3_lawClause 25 = .ok (.iload_n 1, 1) := by decide +kernel
theorem dX3_lawClause_26 : decode cX3_lawClause 26 = .ok (.sipush 265, 3) := by decide +kernel
theorem dX3_lawClause_29 : decode cX3_lawClause 29 = .ok (.if_icmp .eq 13, 3) := by decide +kernel
theorem dX3_lawClause_32 : decode cX3_lawClause 32 = .ok (.aload_n 0, 1) := by decide +kernel
theorem dX3_lawClause_33 : decode cX3_lawClause 33 = .ok (.iconst 0, 1) := by decide +kernel
theorem dX3_lawClause_34 : decode cX3_lawClause 34 = .ok (.invokevirtual 88, 3) := by decide +kernel
theorem dX3_lawClause_37 : decode cX3_lawClause 37 = .ok (.ifCond .ne 5, 3) := by decide +kernel
theorem dX3_lawClause_40 : decode cX3_lawClause 40 = .ok (.iconst 0, 1) := by decide +kernel
theorem dX3_lawClause_41 : decode cX3_lawClause 41 = .ok (.ireturn, 1) := by decide +kernel
theorem dX3_lawClause_42 : decode cX3_lawClause 42 = .ok (.aload_n 0, 1) := by decide +kernel
theorem dX3_lawClause_43 : decode cX3_lawClause 43 = .ok (.iconst 3, 1) := by decide +kernel
theorem dX3_lawClause_44 : decode cX3_lawClause 44 = .ok (.aload_n 0, 1) := by decide +kernel
theorem dX3_lawClause_45 : decode cX3_lawClause 45 = .ok (.getfield 23, 3) := by decide +kernel
theorem dX3_lawClause_48 : decode cX3_lawClause 48 = .ok (.getfield 42, 3) := by decide +kernel
theorem dX3_lawClause_51 : decode cX3_lawClause 51 = .ok (.invokevirtual 52, 3) := by decide +kernel
theorem dX3_lawClause_54 : decode cX3_lawClause 54 = .ok (.aload_n 0, 1) := by decide +kernel
theorem dX3_lawClause_55 : decode cX3_lawClause 55 = .ok (.iconst 4, 1) := by decide +kernel
theorem dX3_lawClause_56 : decode cX3_lawClause 56 = .ok (.aload_n 0, 1) := by decide +kernel
theorem dX3_lawClause_57 : decode cX3_lawClause 57 = .ok (.getfield 23, 3) := by decide +kernel
theorem dX3_lawClause_60 : decode cX3_lawClause 60 = .ok (.getfield 42, 3) := by decide +kernel
theorem dX3_lawClause_63 : decode cX3_lawClause 63 = .ok (.invokevirtual 52, 3) := by decide +kernel
theorem dX3_lawClause_66 : decode cX3_lawClause 66 = .ok (.iconst 1, 1) := by decide +kernel
theorem dX3_lawClause_67 : decode cX3_lawClause 67 = .ok (.ireturn, 1) := by decide +kernel
theorem dX3_orderClause_0 : decode cX3_orderClause 0 = .ok (.aload_n 0, 1) := by decide +kernel
theorem dX3_orderClause_1 : decode cX3_orderClause 1 = .ok (.invokevirtual 48, 3) := by decide +kernel
theorem dX3_orderClause_4 : decode cX3_orderClause 4 = .ok (.istore_n 1, 1) := by decide +kernel
theorem dX3_orderClause_5 : decode cX3_orderClause 5 = .ok (.iload_n 1, 1) := by decide +kernel
theorem dX3_orderClause_6 : decode cX3_orderClause 6 = .ok (.sipush 266, 3) := by decide +kernel
theorem dX3_orderClause_9 : decode cX3_orderClause 9 = .ok (.if_icmp .lt 10, 3) := by decide +kernel
theorem dX3_orderClause_12 : decode cX3_orderClause 12 = .ok (.iload_n 1, 1) := by decide +kernel
theorem dX3_orderClause_13 : decode cX3_orderClause 13 = .ok (.sipush 269, 3) := by decide +kernel
theorem dX3_orderClause_16 : decode cX3_orderClause 16 = .ok (.if_icmp .le 5, 3) := by decide +kernel
theorem dX3_orderClause_19 : decode cX3_orderClause 19 = .ok (.iconst 0, 1) := by decide +kernel
theorem dX3_orderClause_20 : decode cX3_orderClause 20 = .ok (.ireturn, 1) := by decide +kernel
theorem dX3_orderClause_21 : decode cX3_orderClause 21 = .ok (.aload_n 0, 1) := by decide +kernel
theorem dX3_orderClause_22 : decode cX3_orderClause 22 = .ok (.invokevirtual 62, 3) := by decide +kernel
theorem dX3_orderClause_25 : decode cX3_orderClause 25 = .ok (.iload_n 1, 1) := by decide +kernel
theorem dX3_orderClause_26 : decode cX3_orderClause 26 = .ok (.sipush 269, 3) := by decide +kernel
theorem dX3_orderClause_29 : decode cX3_orderClause 29 = .ok (.if_icmp .eq 13, 3) := by decide +kernel
theorem dX3_orderClause_32 : decode cX3_orderClause 32 = .ok (.aload_n 0, 1) := by decide +kernel
theorem dX3_orderClause_33 : decode cX3_orderClause 33 = .ok (.iconst 0, 1) := by decide +kernel
theorem dX3_orderClause_34 : decode cX3_orderClause 34 = .ok (.invokevirtual 88, 3) := by decide +kernel
theorem dX3_orderClause_37 : decode cX3_orderClause 37 = .ok (.ifCond .ne 5, 3) := by decide +kernel
theorem dX3_orderClause_40 : decode cX3_orderClause 40 = .ok (.iconst 0, 1) := by decide +kernel
theorem dX3_orderClause_41 : decode cX3_orderClause 41 = .ok (.ireturn, 1) := by decide +kernel
theorem dX3_orderClause_42 : decode cX3_orderClause 42 = .ok (.aload_n 0, 1) := by decide +kernel
theorem dX3_orderClause_43 : decode cX3_orderClause 43 = .ok (.iconst 3, 1) := by decide +kernel
theorem dX3_orderClause_44 : decode cX3_orderClause 44 = .ok (.aload_n 0, 1) := by decide +kernel
theorem dX3_orderClause_45 : decode cX3_orderClause 45 = .ok (.getfield 23, 3) := by decide +kernel
theorem dX3_orderClause_48 : decode cX3_orderClause 48 = .ok (.getfield 42, 3) := by decide +kernel
theorem dX3_orderClause_51 : decode cX3_orderClause 51 = .ok (.invokevirtual 52, 3) := by decide +kernel
theorem dX3_orderClause_54 : decode cX3_orderClause 54 = .ok (.iload_n 1, 1) := by decide +kernel
theorem dX3_orderClause_55 : decode cX3_orderClause 55 = .ok (.sipush 266, 3) := by decide +kernel
theorem dX3_orderClause_58 : decode cX3_orderClause 58 = .ok (.if_icmp .eq 10, 3) := by decide +kernel
theorem dX3_orderClause_61 : decode cX3_orderClause 61 = .ok (.iload_n 1, 1) := by decide +kernel
theorem dX3_orderClause_62 : decode cX3_orderClause 62 = .ok (.sipush 268, 3) := by decide +kernel
theorem dX3_orderClause_65 : decode cX3_orderClause 65 = .ok (.if_icmp .ne 42, 3) := by decide +kernel
theorem dX3_orderClause_68 : decode cX3_orderClause 68 = .ok (.aload_n 0, 1) := by decide +kernel
theorem dX3_orderClause_69 : decode cX3_orderClause 69 = .ok (.invokevirtual 48, 3) := by decide +kernel
theorem dX3_orderClause_72 : decode cX3_orderClause 72 = .ok (.iload_n 1, 1) := by decide +kernel
theorem dX3_orderClause_73 : decode cX3_orderClause 73 = .ok (.sipush 266, 3) := by decide +kernel
theorem dX3_orderClause_76 : decode cX3_orderClause 76 = .ok (.if_icmp .ne 9, 3) := by decide +kernel
theorem dX3_orderClause_79 : decode cX3_orderClause 79 = .ok (.sipush 261, 3) := by decide +kernel
theorem dX3_orderClause_82 : decode cX3_orderClause 82 = .ok (.goto 6, 3) := by decide +kernel
theorem dX3_orderClause_85 : decode cX3_orderClause 85 = .ok (.sipush 262, 3) := by decide +kernel
theorem dX3_orderClause_88 : decode cX3_orderClause 88 = .ok (.if_icmp .eq 5, 3) := by decide +kernel
theorem dX3_orderClause_91 : decode cX3_orderClause 91 = .ok (.iconst 0, 1) := by decide +kernel
theorem dX3_orderClause_92 : decode cX3_orderClause 92 = .ok (.ireturn, 1) := by decide +kernel
theorem dX3_orderClause_93 : decode cX3_orderClause 93 = .ok (.aload_n 0, 1) := by decide +kernel
theorem dX3_orderClause_94 : decode cX3_orderClause 94 = .ok (.invokevirtual 62, 3) := by decide +kernel
theorem dX3_orderClause_97 : decode cX3_orderClause 97 = .ok (.aload_n 0, 1) := by decide +kernel
theorem dX3_orderClause_98 : decode cX3_orderClause 98 = .ok (.iconst 0, 1) := by decide +kernel
theorem dX3_orderClause_99 : decode cX3_orderClause 99 = .ok (.invokevirtual 88, 3) := by decide +kernel
theorem dX3_orderClause_102 : decode cX3_orderClause 102 = .ok (.ifCond .ne 5, 3) := by decide +kernel
theorem dX3_orderClause_105 : decode cX3_orderClause 105 = .ok (.iconst 0, 1) := by decide +kernel
theorem dX3_orderClause_106 : decode cX3_orderClause 106 = .ok (.ireturn, 1) := by decide +kernel
theorem dX3_orderClause_107 : decode cX3_orderClause 107 = .ok (.aload_n 0, 1) := by decide +kernel
theorem dX3_orderClause_108 : decode cX3_orderClause 108 = .ok (.iconst 4, 1) := by decide +kernel
theorem dX3_orderClause_109 : decode cX3_orderClause 109 = .ok (.aload_n 0, 1) := by decide +kernel
theorem dX3_orderClause_110 : decode cX3_orderClause 110 = .ok (.getfield 23, 3) := by decide +kernel
theorem dX3_orderClause_113 : decode cX3_orderClause 113 = .ok (.getfield 42, 3) := by decide +kernel
theorem dX3_orderClause_116 : decode cX3_orderClause 116 = .ok (.invokevirtual 52, 3) := by decide +kernel
theorem dX3_orderClause_119 : decode cX3_orderClause 119 = .ok (.aload_n 0, 1) := by decide +kernel
theorem dX3_orderClause_120 : decode cX3_orderClause 120 = .ok (.invokevirtual 91, 3) := by decide +kernel
theorem dX3_orderClause_123 : decode cX3_orderClause 123 = .ok (.ireturn, 1) := by decide +kernel
theorem dX3_times_0 : decode cX3_times 0 = .ok (.aload_n 0, 1) := by decide +kernel
theorem dX3_times_1 : decode cX3_times 1 = .ok (.invokevirtual 48, 3) := by decide +kernel
theorem dX3_times_4 : decode cX3_times 4 = .ok (.sipush 260, 3) := by decide +kernel
theorem dX3_times_7 : decode cX3_times 7 = .ok (.if_icmp .eq 5, 3) := by decide +kernel
theorem dX3_times_10 : decode cX3_times 10 = .ok (.iconst 1, 1) := by decide +kernel
theorem dX3_times_11 : decode cX3_times 11 = .ok (.ireturn, 1) := by decide +kernel
theorem dX3_times_12 : decode cX3_times 12 = .ok (.aload_n 0, 1) := by decide +kernel
theorem dX3_times_13 : decode cX3_times 13 = .ok (.invokevirtual 62, 3) := by decide +kernel
theorem dX3_times_16 : decode cX3_times 16 = .ok (.aload_n 0, 1) := by decide +kernel
theorem dX3_times_17 : decode cX3_times 17 = .ok (.iconst 1, 1) := by decide +kernel
theorem dX3_times_18 : decode cX3_times 18 = .ok (.bipush 20, 2) := by decide +kernel
theorem dX3_times_20 : decode cX3_times 20 = .ok (.invokevirtual 94, 3) := by decide +kernel
theorem dX3_times_23 : decode cX3_times 23 = .ok (.ifCond .ne 5, 3) := by decide +kernel
theorem dX3_times_26 : decode cX3_times 26 = .ok (.iconst 0, 1) := by decide +kernel
theorem dX3_times_27 : decode cX3_times 27 = .ok (.ireturn, 1) := by decide +kernel
theorem dX3_times_28 : decode cX3_times 28 = .ok (.aload_n 0, 1) := by decide +kernel
theorem dX3_times_29 : decode cX3_times 29 = .ok (.iconst 1, 1) := by decide +kernel
theorem dX3_times_30 : decode cX3_times 30 = .ok (.aload_n 0, 1) := by decide +kernel
theorem dX3_times_31 : decode cX3_times 31 = .ok (.invokevirtual 98, 3) := by decide +kernel
theorem dX3_times_34 : decode cX3_times 34 = .ok (.invokevirtual 52, 3) := by decide +kernel
theorem dX3_times_37 : decode cX3_times 37 = .ok (.aload_n 0, 1) := by decide +kernel
theorem dX3_times_38 : decode cX3_times 38 = .ok (.invokevirtual 62, 3) := by decide +kernel
theorem dX3_times_41 : decode cX3_times 41 = .ok (.iconst 1, 1) := by decide +kernel
theorem dX3_times_42 : decode cX3_times 42 = .ok (.ireturn, 1) := by decide +kernel
theorem dX3_test_0 : decode cX3_test 0 = .ok (.iconst (-1), 1) := by decide +kernel
theorem dX3_test_1 : decode cX3_test 1 = .ok (.istore_n 2, 1) := by decide +kernel
theorem dX3_test_2 : decode cX3_test 2 = .ok (.iconst (-1), 1) := by decide +kernel
theorem dX3_test_3 : decode cX3_test 3 = .ok (.istore_n 3, 1) := by decide +kernel
theorem dX3_test_4 : decode cX3_test 4 = .ok (.iconst 0, 1) := by decide +kernel
theorem dX3_test_5 : decode cX3_test 5 = .ok (.istore 4, 2) := by decide +kernel
theorem dX3_test_7 : decode cX3_test 7 = .ok (.iload 4, 2) := by decide +kernel
theorem dX3_test_9 : decode cX3_test 9 = .ok (.sipush 400, 3) := by decide +kernel
theorem dX3_test_12 : decode cX3_test 12 = .ok (.if_icmp .ge 93, 3) := by decide +kernel
theorem dX3_test_15 : decode cX3_test 15 = .ok (.aload_n 0, 1) := by decide +kernel
theorem dX3_test_16 : decode cX3_test 16 = .ok (.iload_n 1, 1) := by decide +kernel
theorem dX3_test_17 : decode cX3_test 17 = .ok (.invokevirtual 101, 3) := by decide +kernel
theorem dX3_test_20 : decode cX3_test 20 = .ok (.ifCond .ne 5, 3) := by decide +kernel
theorem dX3_test_23 : decode cX3_test 23 = .ok (.iconst 0, 1) := by decide +kernel
theorem dX3_test_24 : decode cX3_test 24 = .ok (.ireturn, 1) := by decide +kernel
theorem dX3_test_25 : decode cX3_test 25 = .ok (.aload_n 0, 1) := by decide +kernel
theorem dX3_test_26 : decode cX3_test 26 = .ok (.iload_n 2, 1) := by decide +kernel
theorem dX3_test_27 : decode cX3_test 27 = .ok (.invokevirtual 104, 3) := by decide +kernel
theorem dX3_test_30 : decode cX3_test 30 = .ok (.aload_n 0, 1) := by decide +kernel
theorem dX3_test_31 : decode cX3_test 31 = .ok (.invokevirtual 48, 3) := by decide +kernel
theorem dX3_test_34 : decode cX3_test 34 = .ok (.istore 5, 2) := by decide +kernel
theorem dX3_test_36 : decode cX3_test 36 = .ok (.iload 5, 2) := by decide +kernel
theorem dX3_test_38 : decode cX3_test 38 = .ok (.sipush 257, 3) := by decide +kernel
theorem dX3_test_41 : decode cX3_test 41 = .ok (.if_icmp .ne 14, 3) := by decide +kernel
theorem dX3_test_44 : decode cX3_test 44 = .ok (.aload_n 0, 1) := by decide +kernel
theorem dX3_test_45 : decode cX3_test 45 = .ok (.getfield 23, 3) := by decide +kernel
theorem dX3_test_48 : decode cX3_test 48 = .ok (.getfield 42, 3) := by decide +kernel
theorem dX3_test_51 : decode cX3_test 51 = .ok (.istore_n 2, 1) := by decide +kernel
theorem dX3_test_52 : decode cX3_test 52 = .ok (.goto 18, 3) := by decide +kernel
theorem dX3_test_55 : decode cX3_test 55 = .ok (.aload_n 0, 1) := by decide +kernel
theorem dX3_test_56 : decode cX3_test 56 = .ok (.iload_n 3, 1) := by decide +kernel
theorem dX3_test_57 : decode cX3_test 57 = .ok (.invokevirtual 104, 3) := by decide +kernel
theorem dX3_test_60 : decode cX3_test 60 = .ok (.iconst (-1), 1) := by decide +kernel
theorem dX3_test_61 : decode cX3_test 61 = .ok (.istore_n 2, 1) := by decide +kernel
theorem dX3_test_62 : decode cX3_test 62 = .ok (.aload_n 0, 1) := by decide +kernel
theorem dX3_test_63 : decode cX3_test 63 = .ok (.getfield 23, 3) := by decide +kernel
theorem dX3_test_66 : decode cX3_test 66 = .ok (.getfield 42, 3) := by decide +kernel
theorem dX3_test_69 : decode cX3_test 69 = .ok (.istore_n 3, 1) := by decide +kernel
theorem dX3_test_70 : decode cX3_test 70 = .ok (.iload 5, 2) := by decide +kernel
theorem dX3_test_72 : decode cX3_test 72 = .ok (.sipush 257, 3) := by decide +kernel
theorem dX3_test_75 : decode cX3_test 75 = .ok (.if_icmp .eq 13, 3) := by decide +kernel
theorem dX3_test_78 : decode cX3_test 78 = .ok (.iload 5, 2) := by decide +kernel
theorem dX3_test_80 : decode cX3_test 80 = .ok (.sipush 256, 3) := by decide +kernel
theorem dX3_test_83 : decode cX3_test 83 = .ok (.if_icmp .eq 5, 3) := by decide +kernel
theorem dX3_test_86 : decode cX3_test 86 = .ok (.iconst 1, 1) := by decide +kernel
theorem dX3_test_87 : decode cX3_test 87 = .ok (.ireturn, 1) := by decide +kernel
theorem dX3_test_88 : decode cX3_test 88 = .ok (.aload_n 0, 1) := by decide +kernel
theorem dX3_test_89 : decode cX3_test 89 = .ok (.iload 5, 2) := by decide +kernel
theorem dX3_test_91 : decode cX3_test 91 = .ok (.iconst 0, 1) := by decide +kernel
theorem dX3_test_92 : decode cX3_test 92 = .ok (.invokevirtual 108, 3) := by decide +kernel
theorem dX3_test_95 : decode cX3_test 95 = .ok (.aload_n 0, 1) := by decide +kernel
theorem dX3_test_96 : decode cX3_test 96 = .ok (.invokevirtual 62, 3) := by decide +kernel
theorem dX3_test_99 : decode cX3_test 99 = .ok (.iinc 4 1, 3) := by decide +kernel
theorem dX3_test_102 : decode cX3_test 102 = .ok (.goto (-95), 3) := by decide +kernel
theorem dX3_test_105 : decode cX3_test 105 = .ok (.iconst 0, 1) := by decide +kernel
theorem dX3_test_106 : decode cX3_test 106 = .ok (.ireturn, 1) := by decide +kernel
theorem dX3_leapHere_0 : decode cX3_leapHere 0 = .ok (.iload_n 1, 1) := by decide +kernel
theorem dX3_leapHere_1 : decode cX3_leapHere 1 = .ok (.ifCond .lt 38, 3) := by decide +kernel
theorem dX3_leapHere_4 : decode cX3_leapHere 4 = .ok (.iload_n 1, 1) := by decide +kernel
theorem dX3_leapHere_5 : decode cX3_leapHere 5 = .ok (.aload_n 0, 1) := by decide +kernel
theorem dX3_leapHere_6 : decode cX3_leapHere 6 = .ok (.getfield 23, 3) := by decide +kernel
theorem dX3_leapHere_9 : decode cX3_leapHere 9 = .ok (.getfield 85, 3) := by decide +kernel
theorem dX3_leapHere_12 : decode cX3_leapHere 12 = .ok (.arraylength, 1) := by decide +kernel
theorem dX3_leapHere_13 : decode cX3_leapHere 13 = .ok (.if_icmp .ge 26, 3) := by decide +kernel
theorem dX3_leapHere_16 : decode cX3_leapHere 16 = .ok (.aload_n 0, 1) := by decide +kernel
theorem dX3_leapHere_17 : decode cX3_leapHere 17 = .ok (.getfield 23, 3) := by decide +kernel
theorem dX3_leapHere_20 : decode cX3_leapHere 20 = .ok (.getfield 85, 3) := by decide +kernel
theorem dX3_leapHere_23 : decode cX3_leapHere 23 = .ok (.iload_n 1, 1) := by decide +kernel
theorem dX3_leapHere_24 : decode cX3_leapHere 24 = .ok (.dup2, 1) := by decide +kernel
theorem dX3_leapHere_25 : decode cX3_leapHere 25 = .ok (.iaload, 1) := by decide +kernel
theorem dX3_leapHere_26 : decode cX3_leapHere 26 = .ok (.aload_n 0, 1) := by decide +kernel
theorem dX3_leapHere_27 : decode cX3_leapHere 27 = .ok (.getfield 23, 3) := by decide +kernel
theorem dX3_leapHere_30 : decode cX3_leapHere 30 = .ok (.getfield 42, 3) := by decide +kernel
theorem dX3_leapHere_33 : decode cX3_leapHere 33 = .ok (.sipush 1023, 3) := by decide +kernel
theorem dX3_leapHere_36 : decode cX3_leapHere 36 = .ok (.iand, 1) := by decide +kernel
theorem dX3_leapHere_37 : decode cX3_leapHere 37 = .ok (.ior, 1) := by decide +kernel
theorem dX3_leapHere_38 : decode cX3_leapHere 38 = .ok (.iastore, 1) := by decide +kernel
theorem dX3_leapHere_39 : decode cX3_leapHere 39 = .ok (.return_, 1) := by decide +kernel
theorem dX3_plain_0 : decode cX3_plain 0 = .ok (.iconst 0, 1) := by decide +kernel
theorem dX3_plain_1 : decode cX3_plain 1 = .ok (.istore_n 2, 1) := by decide +kernel
theorem dX3_plain_2 : decode cX3_plain 2 = .ok (.iload_n 2, 1) := by decide +kernel
theorem dX3_plain_3 : decode cX3_plain 3 = .ok (.sipush 400, 3) := by decide +kernel
theorem dX3_plain_6 : decode cX3_plain 6 = .ok (.if_icmp .ge 23, 3) := by decide +kernel
theorem dX3_plain_9 : decode cX3_plain 9 = .ok (.aload_n 0, 1) := by decide +kernel
theorem dX3_plain_10 : decode cX3_plain 10 = .ok (.invokevirtual 48, 3) := by decide +kernel
theorem dX3_plain_13 : decode cX3_plain 13 = .ok (.sipush 258, 3) := by decide +kernel
theorem dX3_plain_16 : decode cX3_plain 16 = .ok (.if_icmp .ne 13, 3) := by decide +kernel
theorem dX3_plain_19 : decode cX3_plain 19 = .ok (.iinc 2 1, 3) := by decide +kernel
theorem dX3_plain_22 : decode cX3_plain 22 = .ok (.aload_n 0, 1) := by decide +kernel
theorem dX3_plain_23 : decode cX3_plain 23 = .ok (.invokevirtual 62, 3) := by decide +kernel
theorem dX3_plain_26 : decode cX3_plain 26 = .ok (.goto (-24), 3) := by decide +kernel
theorem dX3_plain_29 : decode cX3_plain 29 = .ok (.aload_n 0, 1) := by decide +kernel
theorem dX3_plain_30 : decode cX3_plain 30 = .ok (.invokevirtual 48, 3) := by decide +kernel
theorem dX3_plain_33 : decode cX3_plain 33 = .ok (.bipush 40, 2) := by decide +kernel
theorem dX3_plain_35 : decode cX3_plain 35 = .ok (.if_icmp .ne 13, 3) := by decide +kernel
theorem dX3_plain_38 : decode cX3_plain 38 = .ok (.aload_n 0, 1) := by decide +kernel
theorem dX3_plain_39 : decode cX3_plain 39 = .ok (.iload_n 1, 1) := by decide +kernel
theorem dX3_plain_40 : decode cX3_plain 40 = .ok (.invokevirtual 111, 3) := by decide +kernel
theorem dX3_plain_43 : decode cX3_plain 43 = .ok (.ifCond .ne 60, 3) := by decide +kernel
theorem dX3_plain_46 : decode cX3_plain 46 = .ok (.iconst 0, 1) := by decide +kernel
theorem dX3_plain_47 : decode cX3_plain 47 = .ok (.ireturn, 1) := by decide +kernel
theorem dX3_plain_48 : decode cX3_plain 48 = .ok (.aload_n 0, 1) := by decide +kernel
theorem dX3_plain_49 : decode cX3_plain 49 = .ok (.iload_n 1, 1) := by decide +kernel
theorem dX3_plain_50 : decode cX3_plain 50 = .ok (.invokevirtual 88, 3) := by decide +kernel
theorem dX3_plain_53 : decode cX3_plain 53 = .ok (.ifCond .ne 5, 3) := by decide +kernel
theorem dX3_plain_56 : decode cX3_plain 56 = .ok (.iconst 0, 1) := by decide +kernel
theorem dX3_plain_57 : decode cX3_plain 57 = .ok (.ireturn, 1) := by decide +kernel
theorem dX3_plain_58 : decode cX3_plain 58 = .ok (.aload_n 0, 1) := by decide +kernel
theorem dX3_plain_59 : decode cX3_plain 59 = .ok (.invokevirtual 48, 3) := by decide +kernel
theorem dX3_plain_62 : decode cX3_plain 62 = .ok (.istore_n 3, 1) := by decide +kernel
theorem dX3_plain_63 : decode cX3_plain 63 = .ok (.iload_n 3, 1) := by decide +kernel
theorem dX3_plain_64 : decode cX3_plain 64 = .ok (.bipush 60, 2) := by decide +kernel
theorem dX3_plain_66 : decode cX3_plain 66 = .ok (.if_icmp .eq 17, 3) := by decide +kernel
theorem dX3_plain_69 : decode cX3_plain 69 = .ok (.iload_n 3, 1) := by decide +kernel
theorem dX3_plain_70 : decode cX3_plain 70 = .ok (.bipush 62, 2) := by decide +kernel
theorem dX3_plain_72 : decode cX3_plain 72 = .ok (.if_icmp .eq 11, 3) := by decide +kernel
theorem dX3_plain_75 : decode cX3_plain 75 = .ok (.iload_n 3, 1) := by decide +kernel
theorem dX3_plain_76 : decode cX3_plain 76 = .ok (.bipush 61, 2) := by decide +kernel
theorem dX3_plain_78 : decode cX3_plain 78 = .ok (.if_icmp .eq 5, 3) := by decide +kernel
theorem dX3_plain_81 : decode cX3_plain 81 = .ok (.iconst 0, 1) := by decide +kernel
theorem dX3_plain_82 : decode cX3_plain 82 = .ok (.ireturn, 1) := by decide +kernel
theorem dX3_plain_83 : decode cX3_plain 83 = .ok (.aload_n 0, 1) := by decide +kernel
theorem dX3_plain_84 : decode cX3_plain 84 = .ok (.invokevirtual 62, 3) := by decide +kernel
theorem dX3_plain_87 : decode cX3_plain 87 = .ok (.aload_n 0, 1) := by decide +kernel
theorem dX3_plain_88 : decode cX3_plain 88 = .ok (.iload_n 1, 1) := by decide +kernel
theorem dX3_plain_89 : decode cX3_plain 89 = .ok (.invokevirtual 88, 3) := by decide +kernel
theorem dX3_plain_92 : decode cX3_plain 92 = .ok (.ifCond .ne 5, 3) := by decide +kernel
theorem dX3_plain_95 : decode cX3_plain 95 = .ok (.iconst 0, 1) := by decide +kernel
theorem dX3_plain_96 : decode cX3_plain 96 = .ok (.ireturn, 1) := by decide +kernel
theorem dX3_plain_97 : decode cX3_plain 97 = .ok (.aload_n 0, 1) := by decide +kernel
theorem dX3_plain_98 : decode cX3_plain 98 = .ok (.iload_n 3, 1) := by decide +kernel
theorem dX3_plain_99 : decode cX3_plain 99 = .ok (.iconst 0, 1) := by decide +kernel
theorem dX3_plain_100 : decode cX3_plain 100 = .ok (.invokevirtual 108, 3) := by decide +kernel
theorem dX3_plain_103 : decode cX3_plain 103 = .ok (.iload_n 2, 1) := by decide +kernel
theorem dX3_plain_104 : decode cX3_plain 104 = .ok (.iconst 2, 1) := by decide +kernel
theorem dX3_plain_105 : decode cX3_plain 105 = .ok (.irem, 1) := by decide +kernel
theorem dX3_plain_106 : decode cX3_plain 106 = .ok (.ifCond .eq 11, 3) := by decide +kernel
theorem dX3_plain_109 : decode cX3_plain 109 = .ok (.aload_n 0, 1) := by decide +kernel
theorem dX3_plain_110 : decode cX3_plain 110 = .ok (.sipush 258, 3) := by decide +kernel
theorem dX3_plain_113 : decode cX3_plain 113 = .ok (.iconst 0, 1) := by decide +kernel
theorem dX3_plain_114 : decode cX3_plain 114 = .ok (.invokevirtual 108, 3) := by decide +kernel
theorem dX3_plain_117 : decode cX3_plain 117 = .ok (.iconst 1, 1) := by decide +kernel
theorem dX3_plain_118 : decode cX3_plain 118 = .ok (.ireturn, 1) := by decide +kernel
theorem dX3_testInBrackets_0 : decode cX3_testInBrackets 0 = .ok (.iload_n 1, 1) := by decide +kernel
theorem dX3_testInBrackets_1 : decode cX3_testInBrackets 1 = .ok (.bipush 8, 2) := by decide +kernel
theorem dX3_testInBrackets_3 : decode cX3_testInBrackets 3 = .ok (.if_icmp .lt 5, 3) := by decide +kernel
theorem dX3_testInBrackets_6 : decode cX3_testInBrackets 6 = .ok (.iconst 0, 1) := by decide +kernel
theorem dX3_testInBrackets_7 : decode cX3_testInBrackets 7 = .ok (.ireturn, 1) := by decide +kernel
theorem dX3_testInBrackets_8 : decode cX3_testInBrackets 8 = .ok (.aload_n 0, 1) := by decide +kernel
theorem dX3_testInBrackets_9 : decode cX3_testInBrackets 9 = .ok (.invokevirtual 62, 3) := by decide +kernel
theorem dX3_testInBrackets_12 : decode cX3_testInBrackets 12 = .ok (.aload_n 0, 1) := by decide +kernel
theorem dX3_testInBrackets_13 : decode cX3_testInBrackets 13 = .ok (.iload_n 1, 1) := by decide +kernel
theorem dX3_testInBrackets_14 : decode cX3_testInBrackets 14 = .ok (.iconst 1, 1) := by decide +kernel
theorem dX3_testInBrackets_15 : decode cX3_testInBrackets 15 = .ok (.iadd, 1) := by decide +kernel
theorem dX3_testInBrackets_16 : decode cX3_testInBrackets 16 = .ok (.invokevirtual 65, 3) := by decide +kernel
theorem dX3_testInBrackets_19 : decode cX3_testInBrackets 19 = .ok (.ifCond .eq 12, 3) := by decide +kernel
theorem dX3_testInBrackets_22 : decode cX3_testInBrackets 22 = .ok (.aload_n 0, 1) := by decide +kernel
theorem dX3_testInBrackets_23 : decode cX3_testInBrackets 23 = .ok (.invokevirtual 48, 3) := by decide +kernel
theorem dX3_testInBrackets_26 : decode cX3_testInBrackets 26 = .ok (.bipush 41, 2) := by decide +kernel
theorem dX3_testInBrackets_28 : decode cX3_testInBrackets 28 = .ok (.if_icmp .eq 5, 3) := by decide +kernel
theorem dX3_testInBrackets_31 : decode cX3_testInBrackets 31 = .ok (.iconst 0, 1) := by decide +kernel
theorem dX3_testInBrackets_32 : decode cX3_testInBrackets 32 = .ok (.ireturn, 1) := by decide +kernel
theorem dX3_testInBrackets_33 : decode cX3_testInBrackets 33 = .ok (.aload_n 0, 1) := by decide +kernel
theorem dX3_testInBrackets_34 : decode cX3_testInBrackets 34 = .ok (.invokevirtual 62, 3) := by decide +kernel
theorem dX3_testInBrackets_37 : decode cX3_testInBrackets 37 = .ok (.iconst 1, 1) := by decide +kernel
theorem dX3_testInBrackets_38 : decode cX3_testInBrackets 38 = .ok (.ireturn, 1) := by decide +kernel
theorem dX3_sum_0 : decode cX3_sum 0 = .ok (.iconst (-1), 1) := by decide +kernel
theorem dX3_sum_1 : decode cX3_sum 1 = .ok (.istore_n 2, 1) := by decide +kernel
theorem dX3_sum_2 : decode cX3_sum 2 = .ok (.iconst (-1), 1) := by decide +kernel
theorem dX3_sum_3 : decode cX3_sum 3 = .ok (.istore_n 3, 1) := by decide +kernel
theorem dX3_sum_4 : decode cX3_sum 4 = .ok (.iconst 0, 1) := by decide +kernel
theorem dX3_sum_5 : decode cX3_sum 5 = .ok (.istore 4, 2) := by decide +kernel
theorem dX3_sum_7 : decode cX3_sum 7 = .ok (.iload 4, 2) := by decide +kernel
theorem dX3_sum_9 : decode cX3_sum 9 = .ok (.sipush 400, 3) := by decide +kernel
theorem dX3_sum_12 : decode cX3_sum 12 = .ok (.if_icmp .ge 103, 3) := by decide +kernel
theorem dX3_sum_15 : decode cX3_sum 15 = .ok (.aload_n 0, 1) := by decide +kernel
theorem dX3_sum_16 : decode cX3_sum 16 = .ok (.iload_n 1, 1) := by decide +kernel
theorem dX3_sum_17 : decode cX3_sum 17 = .ok (.invokevirtual 114, 3) := by decide +kernel
theorem dX3_sum_20 : decode cX3_sum 20 = .ok (.ifCond .ne 5, 3) := by decide +kernel
theorem dX3_sum_23 : decode cX3_sum 23 = .ok (.iconst 0, 1) := by decide +kernel
theorem dX3_sum_24 : decode cX3_sum 24 = .ok (.ireturn, 1) := by decide +kernel
theorem dX3_sum_25 : decode cX3_sum 25 = .ok (.iload_n 3, 1) := by decide +kernel
theorem dX3_sum_26 : decode cX3_sum 26 = .ok (.iconst (-1), 1) := by decide +kernel
theorem dX3_sum_27 : decode cX3_sum 27 = .ok (.if_icmp .eq 9, 3) := by decide +kernel
theorem dX3_sum_30 : decode cX3_sum 30 = .ok (.aload_n 0, 1) := by decide +kernel
theorem dX3_sum_31 : decode cX3_sum 31 = .ok (.iload_n 3, 1) := by decide +kernel
theorem dX3_sum_32 : decode cX3_sum 32 = .ok (.iconst 0, 1) := by decide +kernel
theorem dX3_sum_33 : decode cX3_sum 33 = .ok (.invokevirtual 108, 3) := by decide +kernel
theorem dX3_sum_36 : decode cX3_sum 36 = .ok (.aload_n 0, 1) := by decide +kernel
theorem dX3_sum_37 : decode cX3_sum 37 = .ok (.invokevirtual 48, 3) := by decide +kernel
theorem dX3_sum_40 : decode cX3_sum 40 = .ok (.istore 5, 2) := by decide +kernel
theorem dX3_sum_42 : decode cX3_sum 42 = .ok (.iload 5, 2) := by decide +kernel
theorem dX3_sum_44 : decode cX3_sum 44 = .ok (.bipush 42, 2) := by decide +kernel
theorem dX3_sum_46 : decode cX3_sum 46 = .ok (.if_icmp .eq 17, 3) := by decide +kernel
theorem dX3_sum_49 : decode cX3_sum 49 = .ok (.iload 5, 2) := by decide +kernel
theorem dX3_sum_51 : decode cX3_sum 51 = .ok (.bipush 47, 2) := by decide +kernel
theorem dX3_sum_53 : decode cX3_sum 53 = .ok (.if_icmp .eq 10, 3) := by decide +kernel
theorem dX3_sum_56 : decode cX3_sum 56 = .ok (.iload 5, 2) := by decide +kernel
theorem dX3_sum_58 : decode cX3_sum 58 = .ok (.bipush 37, 2) := by decide +kernel
theorem dX3_sum_60 : decode cX3_sum 60 = .ok (.if_icmp .ne 8, 3) := by decide +kernel
theorem dX3_sum_63 : decode cX3_sum 63 = .ok (.iload 5, 2) := by decide +kernel
theorem dX3_sum_65 : decode cX3_sum 65 = .ok (.goto 4, 3) := by decide +kernel
theorem dX3_sum_68 : decode cX3_sum 68 = .ok (.iconst (-1), 1) := by decide +kernel
theorem dX3_sum_69 : decode cX3_sum 69 = .ok (.istore_n 3, 1) := by decide +kernel
theorem dX3_sum_70 : decode cX3_sum 70 = .ok (.iload_n 3, 1) := by decide +kernel
theorem dX3_sum_71 : decode cX3_sum 71 = .ok (.iconst (-1), 1) := by decide +kernel
theorem dX3_sum_72 : decode cX3_sum 72 = .ok (.if_icmp .ne 33, 3) := by decide +kernel
theorem dX3_sum_75 : decode cX3_sum 75 = .ok (.iload_n 2, 1) := by decide +kernel
theorem dX3_sum_76 : decode cX3_sum 76 = .ok (.iconst (-1), 1) := by decide +kernel
theorem dX3_sum_77 : decode cX3_sum 77 = .ok (.if_icmp .eq 9, 3) := by decide +kernel
theorem dX3_sum_80 : decode cX3_sum 80 = .ok (.aload_n 0, 1) := by decide +kernel
theorem dX3_sum_81 : decode cX3_sum 81 = .ok (.iload_n 2, 1) := by decide +kernel
theorem dX3_sum_82 : decode cX3_sum 82 = .ok (.iconst 0, 1) := by decide +kernel
theorem dX3_sum_83 : decode cX3_sum 83 = .ok (.invokevirtual 108, 3) := by decide +kernel
theorem dX3_sum_86 : decode cX3_sum 86 = .ok (.iload 5, 2) := by decide +kernel
theorem dX3_sum_88 : decode cX3_sum 88 = .ok (.istore_n 2, 1) := by decide +kernel
theorem dX3_sum_89 : decode cX3_sum 89 = .ok (.iload 5, 2) := by decide +kernel
theorem dX3_sum_91 : decode cX3_sum 91 = .ok (.bipush 43, 2) := by decide +kernel
theorem dX3_sum_93 : decode cX3_sum 93 = .ok (.if_icmp .eq 12, 3) := by decide +kernel
theorem dX3_sum_96 : decode cX3_sum 96 = .ok (.iload 5, 2) := by decide +kernel
theorem dX3_sum_98 : decode cX3_sum 98 = .ok (.bipush 45, 2) := by decide +kernel
theorem dX3_sum_100 : decode cX3_sum 100 = .ok (.if_icmp .eq 5, 3) := by decide +kernel
theorem dX3_sum_103 : decode cX3_sum 103 = .ok (.iconst 1, 1) := by decide +kernel
theorem dX3_sum_104 : decode cX3_sum 104 = .ok (.ireturn, 1) := by decide +kernel
theorem dX3_sum_105 : decode cX3_sum 105 = .ok (.aload_n 0, 1) := by decide +kernel
theorem dX3_sum_106 : decode cX3_sum 106 = .ok (.invokevirtual 62, 3) := by decide +kernel
theorem dX3_sum_109 : decode cX3_sum 109 = .ok (.iinc 4 1, 3) := by decide +kernel
theorem dX3_sum_112 : decode cX3_sum 112 = .ok (.goto (-105), 3) := by decide +kernel
theorem dX3_sum_115 : decode cX3_sum 115 = .ok (.iconst 0, 1) := by decide +kernel
theorem dX3_sum_116 : decode cX3_sum 116 = .ok (.ireturn, 1) := by decide +kernel
theorem dX3_part_0 : decode cX3_part 0 = .ok (.aload_n 0, 1) := by decide +kernel
theorem dX3_part_1 : decode cX3_part 1 = .ok (.invokevirtual 48, 3) := by decide +kernel
theorem dX3_part_4 : decode cX3_part 4 = .ok (.bipush 91, 2) := by decide +kernel
theorem dX3_part_6 : decode cX3_part 6 = .ok (.if_icmp .ne 9, 3) := by decide +kernel
theorem dX3_part_9 : decode cX3_part 9 = .ok (.aload_n 0, 1) := by decide +kernel
theorem dX3_part_10 : decode cX3_part 10 = .ok (.iload_n 1, 1) := by decide +kernel
theorem dX3_part_11 : decode cX3_part 11 = .ok (.invokevirtual 117, 3) := by decide +kernel
theorem dX3_part_14 : decode cX3_part 14 = .ok (.ireturn, 1) := by decide +kernel
theorem dX3_part_15 : decode cX3_part 15 = .ok (.aload_n 0, 1) := by decide +kernel
theorem dX3_part_16 : decode cX3_part 16 = .ok (.getfield 39, 3) := by decide +kernel
theorem dX3_part_19 : decode cX3_part 19 = .ok (.bipush 50, 2) := by decide +kernel
theorem dX3_part_21 : decode cX3_part 21 = .ok (.if_icmp .lt 5, 3) := by decide +kernel
theorem dX3_part_24 : decode cX3_part 24 = .ok (.iconst 0, 1) := by decide +kernel
theorem dX3_part_25 : decode cX3_part 25 = .ok (.ireturn, 1) := by decide +kernel
theorem dX3_part_26 : decode cX3_part 26 = .ok (.aload_n 0, 1) := by decide +kernel
theorem dX3_part_27 : decode cX3_part 27 = .ok (.dup, 1) := by decide +kernel
theorem dX3_part_28 : decode cX3_part 28 = .ok (.getfield 39, 3) := by decide +kernel
theorem dX3_part_31 : decode cX3_part 31 = .ok (.iconst 1, 1) := by decide +kernel
theorem dX3_part_32 : decode cX3_part 32 = .ok (.iadd, 1) := by decide +kernel
theorem dX3_part_33 : decode cX3_part 33 = .ok (.putfield 39, 3) := by decide +kernel
theorem dX3_part_36 : decode cX3_part 36 = .ok (.aload_n 0, 1) := by decide +kernel
theorem dX3_part_37 : decode cX3_part 37 = .ok (.iconst 0, 1) := by decide +kernel
theorem dX3_part_38 : decode cX3_part 38 = .ok (.sipush 1000, 3) := by decide +kernel
theorem dX3_part_41 : decode cX3_part 41 = .ok (.invokevirtual 94, 3) := by decide +kernel
theorem dX3_part_44 : decode cX3_part 44 = .ok (.ifCond .eq 20, 3) := by decide +kernel
theorem dX3_part_47 : decode cX3_part 47 = .ok (.aload_n 0, 1) := by decide +kernel
theorem dX3_part_48 : decode cX3_part 48 = .ok (.sipush 284, 3) := by decide +kernel
theorem dX3_part_51 : decode cX3_part 51 = .ok (.aload_n 0, 1) := by decide +kernel
theorem dX3_part_52 : decode cX3_part 52 = .ok (.invokevirtual 98, 3) := by decide +kernel
theorem dX3_part_55 : decode cX3_part 55 = .ok (.invokevirtual 108, 3) := by decide +kernel
theorem dX3_part_58 : decode cX3_part 58 = .ok (.aload_n 0, 1) := by decide +kernel
theorem dX3_part_59 : decode cX3_part 59 = .ok (.invokevirtual 62, 3) := by decide +kernel
theorem dX3_part_62 : decode cX3_part 62 = .ok (.iconst 1, 1) := by decide +kernel
theorem dX3_part_63 : decode cX3_part 63 = .ok (.ireturn, 1) := by decide +kernel
theorem dX3_part_64 : decode cX3_part 64 = .ok (.aload_n 0, 1) := by decide +kernel
theorem dX3_part_65 : decode cX3_part 65 = .ok (.getfield 31, 3) := by decide +kernel
theorem dX3_part_68 : decode cX3_part 68 = .ok (.ifCond .eq 10, 3) := by decide +kernel
theorem dX3_part_71 : decode cX3_part 71 = .ok (.aload_n 0, 1) := by decide +kernel
theorem dX3_part_72 : decode cX3_part 72 = .ok (.invokevirtual 120, 3) := by decide +kernel
theorem dX3_part_75 : decode cX3_part 75 = .ok (.goto 7, 3) := by decide +kernel
theorem dX3_part_78 : decode cX3_part 78 = .ok (.aload_n 0, 1) := by decide +kernel
theorem dX3_part_79 : decode cX3_part 79 = .ok (.invokevirtual 123, 3) := by decide +kernel
theorem dX3_part_82 : decode cX3_part 82 = .ok (.ireturn, 1) := by decide +kernel
theorem dX3_sumInBrackets_0 : decode cX3_sumInBrackets 0 = .ok (.iload_n 1, 1) := by decide +kernel
theorem dX3_sumInBrackets_1 : decode cX3_sumInBrackets 1 = .ok (.bipush 8, 2) := by decide +kernel
theorem dX3_sumInBrackets_3 : decode cX3_sumInBrackets 3 = .ok (.if_icmp .lt 5, 3) := by decide +kernel
theorem dX3_sumInBrackets_6 : decode cX3_sumInBrackets 6 = .ok (.iconst 0, 1) := by decide +kernel
theorem dX3_sumInBrackets_7 : decode cX3_sumInBrackets 7 = .ok (.ireturn, 1) := by decide +kernel
theorem dX3_sumInBrackets_8 : decode cX3_sumInBrackets 8 = .ok (.aload_n 0, 1) := by decide +kernel
theorem dX3_sumInBrackets_9 : decode cX3_sumInBrackets 9 = .ok (.invokevirtual 62, 3) := by decide +kernel
theorem dX3_sumInBrackets_12 : decode cX3_sumInBrackets 12 = .ok (.aload_n 0, 1) := by decide +kernel
theorem dX3_sumInBrackets_13 : decode cX3_sumInBrackets 13 = .ok (.iload_n 1, 1) := by decide +kernel
theorem dX3_sumInBrackets_14 : decode cX3_sumInBrackets 14 = .ok (.iconst 1, 1) := by decide +kernel
theorem dX3_sumInBrackets_15 : decode cX3_sumInBrackets 15 = .ok (.iadd, 1) := by decide +kernel
theorem dX3_sumInBrackets_16 : decode cX3_sumInBrackets 16 = .ok (.invokevirtual 88, 3) := by decide +kernel
theorem dX3_sumInBrackets_19 : decode cX3_sumInBrackets 19 = .ok (.ifCond .eq 12, 3) := by decide +kernel
theorem dX3_sumInBrackets_22 : decode cX3_sumInBrackets 22 = .ok (.aload_n 0, 1) := by decide +kernel
theorem dX3_sumInBrackets_23 : decode cX3_sumInBrackets 23 = .ok (.invokevirtual 48, 3) := by decide +kernel
theorem dX3_sumInBrackets_26 : decode cX3_sumInBrackets 26 = .ok (.bipush 93, 2) := by decide +kernel
theorem dX3_sumInBrackets_28 : decode cX3_sumInBrackets 28 = .ok (.if_icmp .eq 5, 3) := by decide +kernel
theorem dX3_sumInBrackets_31 : decode cX3_sumInBrackets 31 = .ok (.iconst 0, 1) := by decide +kernel
theorem dX3_sumInBrackets_32 : decode cX3_sumInBrackets 32 = .ok (.ireturn, 1) := by decide +kernel
theorem dX3_sumInBrackets_33 : decode cX3_sumInBrackets 33 = .ok (.aload_n 0, 1) := by decide +kernel
theorem dX3_sumInBrackets_34 : decode cX3_sumInBrackets 34 = .ok (.invokevirtual 62, 3) := by decide +kernel
theorem dX3_sumInBrackets_37 : decode cX3_sumInBrackets 37 = .ok (.iconst 1, 1) := by decide +kernel
theorem dX3_sumInBrackets_38 : decode cX3_sumInBrackets 38 = .ok (.ireturn, 1) := by decide +kernel
theorem dX3_lawWord_0 : decode cX3_lawWord 0 = .ok (.aload_n 0, 1) := by decide +kernel
theorem dX3_lawWord_1 : decode cX3_lawWord 1 = .ok (.invokevirtual 48, 3) := by decide +kernel
theorem dX3_lawWord_4 : decode cX3_lawWord 4 = .ok (.istore_n 1, 1) := by decide +kernel
theorem dX3_lawWord_5 : decode cX3_lawWord 5 = .ok (.iload_n 1, 1) := by decide +kernel
theorem dX3_lawWord_6 : decode cX3_lawWord 6 = .ok (.sipush 270, 3) := by decide +kernel
theorem dX3_lawWord_9 : decode cX3_lawWord 9 = .ok (.if_icmp .lt 10, 3) := by decide +kernel
theorem dX3_lawWord_12 : decode cX3_lawWord 12 = .ok (.iload_n 1, 1) := by decide +kernel
theorem dX3_lawWord_13 : decode cX3_lawWord 13 = .ok (.sipush 278, 3) := by decide +kernel
theorem dX3_lawWord_16 : decode cX3_lawWord 16 = .ok (.if_icmp .le 5, 3) := by decide +kernel
theorem dX3_lawWord_19 : decode cX3_lawWord 19 = .ok (.iconst 0, 1) := by decide +kernel
theorem dX3_lawWord_20 : decode cX3_lawWord 20 = .ok (.ireturn, 1) := by decide +kernel
theorem dX3_lawWord_21 : decode cX3_lawWord 21 = .ok (.aload_n 0, 1) := by decide +kernel
theorem dX3_lawWord_22 : decode cX3_lawWord 22 = .ok (.sipush 283, 3) := by decide +kernel
theorem dX3_lawWord_25 : decode cX3_lawWord 25 = .ok (.iload_n 1, 1) := by decide +kernel
theorem dX3_lawWord_26 : decode cX3_lawWord 26 = .ok (.sipush 270, 3) := by decide +kernel
theorem dX3_lawWord_29 : decode cX3_lawWord 29 = .ok (.isub, 1) := by decide +kernel
theorem dX3_lawWord_30 : decode cX3_lawWord 30 = .ok (.invokevirtual 108, 3) := by decide +kernel
theorem dX3_lawWord_33 : decode cX3_lawWord 33 = .ok (.aload_n 0, 1) := by decide +kernel
theorem dX3_lawWord_34 : decode cX3_lawWord 34 = .ok (.invokevirtual 62, 3) := by decide +kernel
theorem dX3_lawWord_37 : decode cX3_lawWord 37 = .ok (.iconst 1, 1) := by decide +kernel
theorem dX3_lawWord_38 : decode cX3_lawWord 38 = .ok (.ireturn, 1) := by decide +kernel
theorem dX3_orderWord_0 : decode cX3_orderWord 0 = .ok (.aload_n 0, 1) := by decide +kernel
theorem dX3_orderWord_1 : decode cX3_orderWord 1 = .ok (.invokevirtual 48, 3) := by decide +kernel
theorem dX3_orderWord_4 : decode cX3_orderWord 4 = .ok (.istore_n 1, 1) := by decide +kernel
theorem dX3_orderWord_5 : decode cX3_orderWord 5 = .ok (.iload_n 1, 1) := by decide +kernel
theorem dX3_orderWord_6 : decode cX3_orderWord 6 = .ok (.sipush 271, 3) := by decide +kernel
theorem dX3_orderWord_9 : decode cX3_orderWord 9 = .ok (.if_icmp .eq 10, 3) := by decide +kernel
theorem dX3_orderWord_12 : decode cX3_orderWord 12 = .ok (.iload_n 1, 1) := by decide +kernel
theorem dX3_orderWord_13 : decode cX3_orderWord 13 = .ok (.sipush 282, 3) := by decide +kernel
theorem dX3_orderWord_16 : decode cX3_orderWord 16 = .ok (.if_icmp .ne 59, 3) := by decide +kernel
theorem dX3_orderWord_19 : decode cX3_orderWord 19 = .ok (.aload_n 0, 1) := by decide +kernel
theorem dX3_orderWord_20 : decode cX3_orderWord 20 = .ok (.invokevirtual 62, 3) := by decide +kernel
theorem dX3_orderWord_23 : decode cX3_orderWord 23 = .ok (.aload_n 0, 1) := by decide +kernel
theorem dX3_orderWord_24 : decode cX3_orderWord 24 = .ok (.iconst 0, 1) := by decide +kernel
theorem dX3_orderWord_25 : decode cX3_orderWord 25 = .ok (.iload_n 1, 1) := by decide +kernel
theorem dX3_orderWord_26 : decode cX3_orderWord 26 = .ok (.sipush 271, 3) := by decide +kernel
theorem dX3_orderWord_29 : decode cX3_orderWord 29 = .ok (.if_icmp .ne 8, 3) := by decide +kernel
theorem dX3_orderWord_32 : decode cX3_orderWord 32 = .ok (.bipush 6, 2) := by decide +kernel
theorem dX3_orderWord_34 : decode cX3_orderWord 34 = .ok (.goto 4, 3) := by decide +kernel
theorem dX3_orderWord_37 : decode cX3_orderWord 37 = .ok (.iconst 5, 1) := by decide +kernel
theorem dX3_orderWord_38 : decode cX3_orderWord 38 = .ok (.invokevirtual 94, 3) := by decide +kernel
theorem dX3_orderWord_41 : decode cX3_orderWord 41 = .ok (.ifCond .ne 5, 3) := by decide +kernel
theorem dX3_orderWord_44 : decode cX3_orderWord 44 = .ok (.iconst 0, 1) := by decide +kernel
theorem dX3_orderWord_45 : decode cX3_orderWord 45 = .ok (.ireturn, 1) := by decide +kernel
theorem dX3_orderWord_46 : decode cX3_orderWord 46 = .ok (.aload_n 0, 1) := by decide +kernel
theorem dX3_orderWord_47 : decode cX3_orderWord 47 = .ok (.sipush 283, 3) := by decide +kernel
theorem dX3_orderWord_50 : decode cX3_orderWord 50 = .ok (.iload_n 1, 1) := by decide +kernel
theorem dX3_orderWord_51 : decode cX3_orderWord 51 = .ok (.sipush 271, 3) := by decide +kernel
theorem dX3_orderWord_54 : decode cX3_orderWord 54 = .ok (.if_icmp .ne 8, 3) := by decide +kernel
theorem dX3_orderWord_57 : decode cX3_orderWord 57 = .ok (.bipush 18, 2) := by decide +kernel
theorem dX3_orderWord_59 : decode cX3_orderWord 59 = .ok (.goto 5, 3) := by decide +kernel
theorem dX3_orderWord_62 : decode cX3_orderWord 62 = .ok (.bipush 12, 2) := by decide +kernel
theorem dX3_orderWord_64 : decode cX3_orderWord 64 = .ok (.aload_n 0, 1) := by decide +kernel
theorem dX3_orderWord_65 : decode cX3_orderWord 65 = .ok (.invokevirtual 98, 3) := by decide +kernel
theorem dX3_orderWord_68 : decode cX3_orderWord 68 = .ok (.iadd, 1) := by decide +kernel
theorem dX3_orderWord_69 : decode cX3_orderWord 69 = .ok (.invokevirtual 108, 3) := by decide +kernel
theorem dX3_orderWord_72 : decode cX3_orderWord 72 = .ok (.goto 55, 3) := by decide +kernel
theorem dX3_orderWord_75 : decode cX3_orderWord 75 = .ok (.iload_n 1, 1) := by decide +kernel
theorem dX3_orderWord_76 : decode cX3_orderWord 76 = .ok (.sipush 276, 3) := by decide +kernel
