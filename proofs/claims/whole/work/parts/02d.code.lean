theorem dX11_isMatter_7 : decode cX11_isMatter 7 = .ok (.iconst 1, 1) := by decide +kernel
theorem dX11_isMatter_8 : decode cX11_isMatter 8 = .ok (.iaload, 1) := by decide +kernel
theorem dX11_isMatter_9 : decode cX11_isMatter 9 = .ok (.i2l, 1) := by decide +kernel
theorem dX11_isMatter_10 : decode cX11_isMatter 10 = .ok (.lconst 1, 1) := by decide +kernel
theorem dX11_isMatter_11 : decode cX11_isMatter 11 = .ok (.lsub, 1) := by decide +kernel
theorem dX11_isMatter_12 : decode cX11_isMatter 12 = .ok (.invokestatic 172, 3) := by decide +kernel
theorem dX11_isMatter_15 : decode cX11_isMatter 15 = .ok (.ireturn, 1) := by decide +kernel
theorem dX11_isTree_0 : decode cX11_isTree 0 = .ok (.iload_n 0, 1) := by decide +kernel
theorem dX11_isTree_1 : decode cX11_isTree 1 = .ok (.i2l, 1) := by decide +kernel
theorem dX11_isTree_2 : decode cX11_isTree 2 = .ok (.ldc2_w 179, 3) := by decide +kernel
theorem dX11_isTree_5 : decode cX11_isTree 5 = .ok (.ldc2_w 181, 3) := by decide +kernel
theorem dX11_isTree_8 : decode cX11_isTree 8 = .ok (.invokestatic 172, 3) := by decide +kernel
theorem dX11_isTree_11 : decode cX11_isTree 11 = .ok (.ireturn, 1) := by decide +kernel
theorem dX11_isAway_0 : decode cX11_isAway 0 = .ok (.aload_n 0, 1) := by decide +kernel
theorem dX11_isAway_1 : decode cX11_isAway 1 = .ok (.getfield 13, 3) := by decide +kernel
theorem dX11_isAway_4 : decode cX11_isAway 4 = .ok (.bipush 10, 2) := by decide +kernel
theorem dX11_isAway_6 : decode cX11_isAway 6 = .ok (.iload_n 1, 1) := by decide +kernel
theorem dX11_isAway_7 : decode cX11_isAway 7 = .ok (.iadd, 1) := by decide +kernel
theorem dX11_isAway_8 : decode cX11_isAway 8 = .ok (.iaload, 1) := by decide +kernel
theorem dX11_isAway_9 : decode cX11_isAway 9 = .ok (.iconst (-1), 1) := by decide +kernel
theorem dX11_isAway_10 : decode cX11_isAway 10 = .ok (.if_icmp .ne 7, 3) := by decide +kernel
theorem dX11_isAway_13 : decode cX11_isAway 13 = .ok (.iconst 1, 1) := by decide +kernel
theorem dX11_isAway_14 : decode cX11_isAway 14 = .ok (.goto 4, 3) := by decide +kernel
theorem dX11_isAway_17 : decode cX11_isAway 17 = .ok (.iconst 0, 1) := by decide +kernel
theorem dX11_isAway_18 : decode cX11_isAway 18 = .ok (.ireturn, 1) := by decide +kernel
theorem dX11_present_0 : decode cX11_present 0 = .ok (.iconst 0, 1) := by decide +kernel
theorem dX11_present_1 : decode cX11_present 1 = .ok (.istore_n 1, 1) := by decide +kernel
theorem dX11_present_2 : decode cX11_present 2 = .ok (.iconst 0, 1) := by decide +kernel
theorem dX11_present_3 : decode cX11_present 3 = .ok (.istore_n 2, 1) := by decide +kernel
theorem dX11_present_4 : decode cX11_present 4 = .ok (.iload_n 2, 1) := by decide +kernel
theorem dX11_present_5 : decode cX11_present 5 = .ok (.aload_n 0, 1) := by decide +kernel
theorem dX11_present_6 : decode cX11_present 6 = .ok (.getfield 13, 3) := by decide +kernel
theorem dX11_present_9 : decode cX11_present 9 = .ok (.iconst 0, 1) := by decide +kernel
theorem dX11_present_10 : decode cX11_present 10 = .ok (.iaload, 1) := by decide +kernel
theorem dX11_present_11 : decode cX11_present 11 = .ok (.if_icmp .ge 27, 3) := by decide +kernel
theorem dX11_present_14 : decode cX11_present 14 = .ok (.iload_n 1, 1) := by decide +kernel
theorem dX11_present_15 : decode cX11_present 15 = .ok (.aload_n 0, 1) := by decide +kernel
theorem dX11_present_16 : decode cX11_present 16 = .ok (.iload_n 2, 1) := by decide +kernel
theorem dX11_present_17 : decode cX11_present 17 = .ok (.invokevirtual 183, 3) := by decide +kernel
theorem dX11_present_20 : decode cX11_present 20 = .ok (.ifCond .eq 7, 3) := by decide +kernel
theorem dX11_present_23 : decode cX11_present 23 = .ok (.iconst 0, 1) := by decide +kernel
theorem dX11_present_24 : decode cX11_present 24 = .ok (.goto 6, 3) := by decide +kernel
theorem dX11_present_27 : decode cX11_present 27 = .ok (.iconst 1, 1) := by decide +kernel
theorem dX11_present_28 : decode cX11_present 28 = .ok (.iload_n 2, 1) := by decide +kernel
theorem dX11_present_29 : decode cX11_present 29 = .ok (.ishl, 1) := by decide +kernel
theorem dX11_present_30 : decode cX11_present 30 = .ok (.ior, 1) := by decide +kernel
theorem dX11_present_31 : decode cX11_present 31 = .ok (.istore_n 1, 1) := by decide +kernel
theorem dX11_present_32 : decode cX11_present 32 = .ok (.iinc 2 1, 3) := by decide +kernel
theorem dX11_present_35 : decode cX11_present 35 = .ok (.goto (-31), 3) := by decide +kernel
theorem dX11_present_38 : decode cX11_present 38 = .ok (.iload_n 1, 1) := by decide +kernel
theorem dX11_present_39 : decode cX11_present 39 = .ok (.ireturn, 1) := by decide +kernel
theorem dX11_hears_0 : decode cX11_hears 0 = .ok (.aload_n 0, 1) := by decide +kernel
theorem dX11_hears_1 : decode cX11_hears 1 = .ok (.getfield 13, 3) := by decide +kernel
theorem dX11_hears_4 : decode cX11_hears 4 = .ok (.bipush 10, 2) := by decide +kernel
theorem dX11_hears_6 : decode cX11_hears 6 = .ok (.iload_n 1, 1) := by decide +kernel
theorem dX11_hears_7 : decode cX11_hears 7 = .ok (.iadd, 1) := by decide +kernel
theorem dX11_hears_8 : decode cX11_hears 8 = .ok (.iaload, 1) := by decide +kernel
theorem dX11_hears_9 : decode cX11_hears 9 = .ok (.aload_n 0, 1) := by decide +kernel
theorem dX11_hears_10 : decode cX11_hears 10 = .ok (.getfield 13, 3) := by decide +kernel
theorem dX11_hears_13 : decode cX11_hears 13 = .ok (.bipush 10, 2) := by decide +kernel
theorem dX11_hears_15 : decode cX11_hears 15 = .ok (.iload_n 2, 1) := by decide +kernel
theorem dX11_hears_16 : decode cX11_hears 16 = .ok (.iadd, 1) := by decide +kernel
theorem dX11_hears_17 : decode cX11_hears 17 = .ok (.iaload, 1) := by decide +kernel
theorem dX11_hears_18 : decode cX11_hears 18 = .ok (.isub, 1) := by decide +kernel
theorem dX11_hears_19 : decode cX11_hears 19 = .ok (.istore_n 3, 1) := by decide +kernel
theorem dX11_hears_20 : decode cX11_hears 20 = .ok (.iload_n 3, 1) := by decide +kernel
theorem dX11_hears_21 : decode cX11_hears 21 = .ok (.ifCond .ge 8, 3) := by decide +kernel
theorem dX11_hears_24 : decode cX11_hears 24 = .ok (.iload_n 3, 1) := by decide +kernel
theorem dX11_hears_25 : decode cX11_hears 25 = .ok (.ineg, 1) := by decide +kernel
theorem dX11_hears_26 : decode cX11_hears 26 = .ok (.goto 4, 3) := by decide +kernel
theorem dX11_hears_29 : decode cX11_hears 29 = .ok (.iload_n 3, 1) := by decide +kernel
theorem dX11_hears_30 : decode cX11_hears 30 = .ok (.istore_n 3, 1) := by decide +kernel
theorem dX11_hears_31 : decode cX11_hears 31 = .ok (.iload_n 1, 1) := by decide +kernel
theorem dX11_hears_32 : decode cX11_hears 32 = .ok (.iload_n 2, 1) := by decide +kernel
theorem dX11_hears_33 : decode cX11_hears 33 = .ok (.if_icmp .eq 36, 3) := by decide +kernel
theorem dX11_hears_36 : decode cX11_hears 36 = .ok (.aload_n 0, 1) := by decide +kernel
theorem dX11_hears_37 : decode cX11_hears 37 = .ok (.iload_n 1, 1) := by decide +kernel
theorem dX11_hears_38 : decode cX11_hears 38 = .ok (.invokevirtual 183, 3) := by decide +kernel
theorem dX11_hears_41 : decode cX11_hears 41 = .ok (.ifCond .ne 28, 3) := by decide +kernel
theorem dX11_hears_44 : decode cX11_hears 44 = .ok (.aload_n 0, 1) := by decide +kernel
theorem dX11_hears_45 : decode cX11_hears 45 = .ok (.iload_n 2, 1) := by decide +kernel
theorem dX11_hears_46 : decode cX11_hears 46 = .ok (.invokevirtual 183, 3) := by decide +kernel
theorem dX11_hears_49 : decode cX11_hears 49 = .ok (.ifCond .ne 20, 3) := by decide +kernel
theorem dX11_hears_52 : decode cX11_hears 52 = .ok (.iload_n 3, 1) := by decide +kernel
theorem dX11_hears_53 : decode cX11_hears 53 = .ok (.aload_n 0, 1) := by decide +kernel
theorem dX11_hears_54 : decode cX11_hears 54 = .ok (.getfield 13, 3) := by decide +kernel
theorem dX11_hears_57 : decode cX11_hears 57 = .ok (.bipush 23, 2) := by decide +kernel
theorem dX11_hears_59 : decode cX11_hears 59 = .ok (.iload_n 2, 1) := by decide +kernel
theorem dX11_hears_60 : decode cX11_hears 60 = .ok (.iadd, 1) := by decide +kernel
theorem dX11_hears_61 : decode cX11_hears 61 = .ok (.iaload, 1) := by decide +kernel
theorem dX11_hears_62 : decode cX11_hears 62 = .ok (.if_icmp .gt 7, 3) := by decide +kernel
theorem dX11_hears_65 : decode cX11_hears 65 = .ok (.iconst 1, 1) := by decide +kernel
theorem dX11_hears_66 : decode cX11_hears 66 = .ok (.goto 4, 3) := by decide +kernel
theorem dX11_hears_69 : decode cX11_hears 69 = .ok (.iconst 0, 1) := by decide +kernel
theorem dX11_hears_70 : decode cX11_hears 70 = .ok (.ireturn, 1) := by decide +kernel
theorem dX11_comes_0 : decode cX11_comes 0 = .ok (.iload_n 1, 1) := by decide +kernel
theorem dX11_comes_1 : decode cX11_comes 1 = .ok (.invokestatic 187, 3) := by decide +kernel
theorem dX11_comes_4 : decode cX11_comes 4 = .ok (.ifCond .eq 15, 3) := by decide +kernel
theorem dX11_comes_7 : decode cX11_comes 7 = .ok (.iload_n 2, 1) := by decide +kernel
theorem dX11_comes_8 : decode cX11_comes 8 = .ok (.i2l, 1) := by decide +kernel
theorem dX11_comes_9 : decode cX11_comes 9 = .ok (.lconst 0, 1) := by decide +kernel
theorem dX11_comes_10 : decode cX11_comes 10 = .ok (.ldc2_w 190, 3) := by decide +kernel
theorem dX11_comes_13 : decode cX11_comes 13 = .ok (.invokestatic 172, 3) := by decide +kernel
theorem dX11_comes_16 : decode cX11_comes 16 = .ok (.ifCond .ne 5, 3) := by decide +kernel
theorem dX11_comes_19 : decode cX11_comes 19 = .ok (.iconst (-1), 1) := by decide +kernel
theorem dX11_comes_20 : decode cX11_comes 20 = .ok (.ireturn, 1) := by decide +kernel
theorem dX11_comes_21 : decode cX11_comes 21 = .ok (.aload_n 0, 1) := by decide +kernel
theorem dX11_comes_22 : decode cX11_comes 22 = .ok (.getfield 13, 3) := by decide +kernel
theorem dX11_comes_25 : decode cX11_comes 25 = .ok (.iconst 0, 1) := by decide +kernel
theorem dX11_comes_26 : decode cX11_comes 26 = .ok (.iaload, 1) := by decide +kernel
theorem dX11_comes_27 : decode cX11_comes 27 = .ok (.istore_n 3, 1) := by decide +kernel
theorem dX11_comes_28 : decode cX11_comes 28 = .ok (.iload_n 3, 1) := by decide +kernel
theorem dX11_comes_29 : decode cX11_comes 29 = .ok (.bipush 7, 2) := by decide +kernel
theorem dX11_comes_31 : decode cX11_comes 31 = .ok (.if_icmp .ne 6, 3) := by decide +kernel
theorem dX11_comes_34 : decode cX11_comes 34 = .ok (.bipush (-5), 2) := by decide +kernel
theorem dX11_comes_36 : decode cX11_comes 36 = .ok (.ireturn, 1) := by decide +kernel
theorem dX11_comes_37 : decode cX11_comes 37 = .ok (.aload_n 0, 1) := by decide +kernel
theorem dX11_comes_38 : decode cX11_comes 38 = .ok (.getfield 13, 3) := by decide +kernel
theorem dX11_comes_41 : decode cX11_comes 41 = .ok (.bipush 10, 2) := by decide +kernel
theorem dX11_comes_43 : decode cX11_comes 43 = .ok (.iload_n 3, 1) := by decide +kernel
theorem dX11_comes_44 : decode cX11_comes 44 = .ok (.iadd, 1) := by decide +kernel
theorem dX11_comes_45 : decode cX11_comes 45 = .ok (.iload_n 1, 1) := by decide +kernel
theorem dX11_comes_46 : decode cX11_comes 46 = .ok (.iastore, 1) := by decide +kernel
theorem dX11_comes_47 : decode cX11_comes 47 = .ok (.aload_n 0, 1) := by decide +kernel
theorem dX11_comes_48 : decode cX11_comes 48 = .ok (.getfield 13, 3) := by decide +kernel
theorem dX11_comes_51 : decode cX11_comes 51 = .ok (.bipush 23, 2) := by decide +kernel
theorem dX11_comes_53 : decode cX11_comes 53 = .ok (.iload_n 3, 1) := by decide +kernel
theorem dX11_comes_54 : decode cX11_comes 54 = .ok (.iadd, 1) := by decide +kernel
theorem dX11_comes_55 : decode cX11_comes 55 = .ok (.iload_n 2, 1) := by decide +kernel
theorem dX11_comes_56 : decode cX11_comes 56 = .ok (.iastore, 1) := by decide +kernel
theorem dX11_comes_57 : decode cX11_comes 57 = .ok (.iconst 0, 1) := by decide +kernel
theorem dX11_comes_58 : decode cX11_comes 58 = .ok (.istore 4, 2) := by decide +kernel
theorem dX11_comes_60 : decode cX11_comes 60 = .ok (.iload 4, 2) := by decide +kernel
theorem dX11_comes_62 : decode cX11_comes 62 = .ok (.bipush 6, 2) := by decide +kernel
theorem dX11_comes_64 : decode cX11_comes 64 = .ok (.if_icmp .ge 25, 3) := by decide +kernel
theorem dX11_comes_67 : decode cX11_comes 67 = .ok (.aload_n 0, 1) := by decide +kernel
theorem dX11_comes_68 : decode cX11_comes 68 = .ok (.getfield 13, 3) := by decide +kernel
theorem dX11_comes_71 : decode cX11_comes 71 = .ok (.bipush 30, 2) := by decide +kernel
theorem dX11_comes_73 : decode cX11_comes 73 = .ok (.bipush 6, 2) := by decide +kernel
theorem dX11_comes_75 : decode cX11_comes 75 = .ok (.iload_n 3, 1) := by decide +kernel
theorem dX11_comes_76 : decode cX11_comes 76 = .ok (.imul, 1) := by decide +kernel
theorem dX11_comes_77 : decode cX11_comes 77 = .ok (.iadd, 1) := by decide +kernel
theorem dX11_comes_78 : decode cX11_comes 78 = .ok (.iload 4, 2) := by decide +kernel
theorem dX11_comes_80 : decode cX11_comes 80 = .ok (.iadd, 1) := by decide +kernel
theorem dX11_comes_81 : decode cX11_comes 81 = .ok (.iconst 0, 1) := by decide +kernel
theorem dX11_comes_82 : decode cX11_comes 82 = .ok (.iastore, 1) := by decide +kernel
theorem dX11_comes_83 : decode cX11_comes 83 = .ok (.iinc 4 1, 3) := by decide +kernel
theorem dX11_comes_86 : decode cX11_comes 86 = .ok (.goto (-26), 3) := by decide +kernel
theorem dX11_comes_89 : decode cX11_comes 89 = .ok (.aload_n 0, 1) := by decide +kernel
theorem dX11_comes_90 : decode cX11_comes 90 = .ok (.getfield 13, 3) := by decide +kernel
theorem dX11_comes_93 : decode cX11_comes 93 = .ok (.iconst 0, 1) := by decide +kernel
theorem dX11_comes_94 : decode cX11_comes 94 = .ok (.dup2, 1) := by decide +kernel
theorem dX11_comes_95 : decode cX11_comes 95 = .ok (.iaload, 1) := by decide +kernel
theorem dX11_comes_96 : decode cX11_comes 96 = .ok (.iconst 1, 1) := by decide +kernel
theorem dX11_comes_97 : decode cX11_comes 97 = .ok (.iadd, 1) := by decide +kernel
theorem dX11_comes_98 : decode cX11_comes 98 = .ok (.iastore, 1) := by decide +kernel
theorem dX11_comes_99 : decode cX11_comes 99 = .ok (.iload_n 3, 1) := by decide +kernel
theorem dX11_comes_100 : decode cX11_comes 100 = .ok (.ireturn, 1) := by decide +kernel
theorem dX11_bird_0 : decode cX11_bird 0 = .ok (.aload_n 0, 1) := by decide +kernel
theorem dX11_bird_1 : decode cX11_bird 1 = .ok (.iconst 0, 1) := by decide +kernel
theorem dX11_bird_2 : decode cX11_bird 2 = .ok (.putfield 152, 3) := by decide +kernel
theorem dX11_bird_5 : decode cX11_bird 5 = .ok (.aload_n 0, 1) := by decide +kernel
theorem dX11_bird_6 : decode cX11_bird 6 = .ok (.aload_n 0, 1) := by decide +kernel
theorem dX11_bird_7 : decode cX11_bird 7 = .ok (.iload_n 1, 1) := by decide +kernel
theorem dX11_bird_8 : decode cX11_bird 8 = .ok (.iload_n 2, 1) := by decide +kernel
theorem dX11_bird_9 : decode cX11_bird 9 = .ok (.invokevirtual 192, 3) := by decide +kernel
theorem dX11_bird_12 : decode cX11_bird 12 = .ok (.invokevirtual 176, 3) := by decide +kernel
theorem dX11_bird_15 : decode cX11_bird 15 = .ok (.ireturn, 1) := by decide +kernel
theorem dX11_favour_0 : decode cX11_favour 0 = .ok (.aload_n 0, 1) := by decide +kernel
theorem dX11_favour_1 : decode cX11_favour 1 = .ok (.iconst 0, 1) := by decide +kernel
theorem dX11_favour_2 : decode cX11_favour 2 = .ok (.putfield 152, 3) := by decide +kernel
theorem dX11_favour_5 : decode cX11_favour 5 = .ok (.iload_n 2, 1) := by decide +kernel
theorem dX11_favour_6 : decode cX11_favour 6 = .ok (.i2l, 1) := by decide +kernel
theorem dX11_favour_7 : decode cX11_favour 7 = .ok (.lconst 0, 1) := by decide +kernel
theorem dX11_favour_8 : decode cX11_favour 8 = .ok (.ldc2_w 196, 3) := by decide +kernel
theorem dX11_favour_11 : decode cX11_favour 11 = .ok (.invokestatic 172, 3) := by decide +kernel
theorem dX11_favour_14 : decode cX11_favour 14 = .ok (.ifCond .eq 15, 3) := by decide +kernel
theorem dX11_favour_17 : decode cX11_favour 17 = .ok (.iload_n 3, 1) := by decide +kernel
theorem dX11_favour_18 : decode cX11_favour 18 = .ok (.i2l, 1) := by decide +kernel
theorem dX11_favour_19 : decode cX11_favour 19 = .ok (.lconst 0, 1) := by decide +kernel
theorem dX11_favour_20 : decode cX11_favour 20 = .ok (.ldc2_w 190, 3) := by decide +kernel
theorem dX11_favour_23 : decode cX11_favour 23 = .ok (.invokestatic 172, 3) := by decide +kernel
theorem dX11_favour_26 : decode cX11_favour 26 = .ok (.ifCond .ne 9, 3) := by decide +kernel
theorem dX11_favour_29 : decode cX11_favour 29 = .ok (.aload_n 0, 1) := by decide +kernel
theorem dX11_favour_30 : decode cX11_favour 30 = .ok (.iconst (-1), 1) := by decide +kernel
theorem dX11_favour_31 : decode cX11_favour 31 = .ok (.invokevirtual 161, 3) := by decide +kernel
theorem dX11_favour_34 : decode cX11_favour 34 = .ok (.ireturn, 1) := by decide +kernel
theorem dX11_favour_35 : decode cX11_favour 35 = .ok (.aload_n 0, 1) := by decide +kernel
theorem dX11_favour_36 : decode cX11_favour 36 = .ok (.iload_n 1, 1) := by decide +kernel
theorem dX11_favour_37 : decode cX11_favour 37 = .ok (.invokevirtual 198, 3) := by decide +kernel
theorem dX11_favour_40 : decode cX11_favour 40 = .ok (.ifCond .ne 10, 3) := by decide +kernel
theorem dX11_favour_43 : decode cX11_favour 43 = .ok (.aload_n 0, 1) := by decide +kernel
theorem dX11_favour_44 : decode cX11_favour 44 = .ok (.bipush (-2), 2) := by decide +kernel
theorem dX11_favour_46 : decode cX11_favour 46 = .ok (.invokevirtual 161, 3) := by decide +kernel
theorem dX11_favour_49 : decode cX11_favour 49 = .ok (.ireturn, 1) := by decide +kernel
theorem dX11_favour_50 : decode cX11_favour 50 = .ok (.aload_n 0, 1) := by decide +kernel
theorem dX11_favour_51 : decode cX11_favour 51 = .ok (.bipush 30, 2) := by decide +kernel
theorem dX11_favour_53 : decode cX11_favour 53 = .ok (.bipush 6, 2) := by decide +kernel
theorem dX11_favour_55 : decode cX11_favour 55 = .ok (.iload_n 1, 1) := by decide +kernel
theorem dX11_favour_56 : decode cX11_favour 56 = .ok (.imul, 1) := by decide +kernel
theorem dX11_favour_57 : decode cX11_favour 57 = .ok (.iadd, 1) := by decide +kernel
theorem dX11_favour_58 : decode cX11_favour 58 = .ok (.iload_n 2, 1) := by decide +kernel
theorem dX11_favour_59 : decode cX11_favour 59 = .ok (.iadd, 1) := by decide +kernel
theorem dX11_favour_60 : decode cX11_favour 60 = .ok (.iload_n 3, 1) := by decide +kernel
theorem dX11_favour_61 : decode cX11_favour 61 = .ok (.invokevirtual 201, 3) := by decide +kernel
theorem dX11_favour_64 : decode cX11_favour 64 = .ok (.ireturn, 1) := by decide +kernel
theorem dX11_hearsAll_0 : decode cX11_hearsAll 0 = .ok (.iconst 0, 1) := by decide +kernel
theorem dX11_hearsAll_1 : decode cX11_hearsAll 1 = .ok (.istore_n 2, 1) := by decide +kernel
theorem dX11_hearsAll_2 : decode cX11_hearsAll 2 = .ok (.iconst 0, 1) := by decide +kernel
theorem dX11_hearsAll_3 : decode cX11_hearsAll 3 = .ok (.istore_n 3, 1) := by decide +kernel
theorem dX11_hearsAll_4 : decode cX11_hearsAll 4 = .ok (.iload_n 3, 1) := by decide +kernel
theorem dX11_hearsAll_5 : decode cX11_hearsAll 5 = .ok (.aload_n 0, 1) := by decide +kernel
theorem dX11_hearsAll_6 : decode cX11_hearsAll 6 = .ok (.getfield 13, 3) := by decide +kernel
theorem dX11_hearsAll_9 : decode cX11_hearsAll 9 = .ok (.iconst 0, 1) := by decide +kernel
theorem dX11_hearsAll_10 : decode cX11_hearsAll 10 = .ok (.iaload, 1) := by decide +kernel
theorem dX11_hearsAll_11 : decode cX11_hearsAll 11 = .ok (.if_icmp .ge 28, 3) := by decide +kernel
theorem dX11_hearsAll_14 : decode cX11_hearsAll 14 = .ok (.iload_n 2, 1) := by decide +kernel
theorem dX11_hearsAll_15 : decode cX11_hearsAll 15 = .ok (.aload_n 0, 1) := by decide +kernel
theorem dX11_hearsAll_16 : decode cX11_hearsAll 16 = .ok (.iload_n 1, 1) := by decide +kernel
theorem dX11_hearsAll_17 : decode cX11_hearsAll 17 = .ok (.iload_n 3, 1) := by decide +kernel
theorem dX11_hearsAll_18 : decode cX11_hearsAll 18 = .ok (.invokevirtual 204, 3) := by decide +kernel
theorem dX11_hearsAll_21 : decode cX11_hearsAll 21 = .ok (.ifCond .eq 9, 3) := by decide +kernel
theorem dX11_hearsAll_24 : decode cX11_hearsAll 24 = .ok (.iconst 1, 1) := by decide +kernel
theorem dX11_hearsAll_25 : decode cX11_hearsAll 25 = .ok (.iload_n 3, 1) := by decide +kernel
theorem dX11_hearsAll_26 : decode cX11_hearsAll 26 = .ok (.ishl, 1) := by decide +kernel
theorem dX11_hearsAll_27 : decode cX11_hearsAll 27 = .ok (.goto 4, 3) := by decide +kernel
theorem dX11_hearsAll_30 : decode cX11_hearsAll 30 = .ok (.iconst 0, 1) := by decide +kernel
theorem dX11_hearsAll_31 : decode cX11_hearsAll 31 = .ok (.ior, 1) := by decide +kernel
theorem dX11_hearsAll_32 : decode cX11_hearsAll 32 = .ok (.istore_n 2, 1) := by decide +kernel
theorem dX11_hearsAll_33 : decode cX11_hearsAll 33 = .ok (.iinc 3 1, 3) := by decide +kernel
theorem dX11_hearsAll_36 : decode cX11_hearsAll 36 = .ok (.goto (-32), 3) := by decide +kernel
theorem dX11_hearsAll_39 : decode cX11_hearsAll 39 = .ok (.iload_n 2, 1) := by decide +kernel
theorem dX11_hearsAll_40 : decode cX11_hearsAll 40 = .ok (.ireturn, 1) := by decide +kernel
theorem dX11_of_0 : decode cX11_of 0 = .ok (.aload_n 0, 1) := by decide +kernel
theorem dX11_of_1 : decode cX11_of 1 = .ok (.iconst 0, 1) := by decide +kernel
theorem dX11_of_2 : decode cX11_of 2 = .ok (.putfield 152, 3) := by decide +kernel
theorem dX11_of_5 : decode cX11_of 5 = .ok (.aload_n 0, 1) := by decide +kernel
theorem dX11_of_6 : decode cX11_of 6 = .ok (.iload_n 1, 1) := by decide +kernel
theorem dX11_of_7 : decode cX11_of 7 = .ok (.invokevirtual 198, 3) := by decide +kernel
theorem dX11_of_10 : decode cX11_of 10 = .ok (.ifCond .eq 15, 3) := by decide +kernel
theorem dX11_of_13 : decode cX11_of 13 = .ok (.iload_n 2, 1) := by decide +kernel
theorem dX11_of_14 : decode cX11_of 14 = .ok (.i2l, 1) := by decide +kernel
theorem dX11_of_15 : decode cX11_of 15 = .ok (.lconst 0, 1) := by decide +kernel
theorem dX11_of_16 : decode cX11_of 16 = .ok (.ldc2_w 208, 3) := by decide +kernel
theorem dX11_of_19 : decode cX11_of 19 = .ok (.invokestatic 172, 3) := by decide +kernel
theorem dX11_of_22 : decode cX11_of 22 = .ok (.ifCond .ne 5, 3) := by decide +kernel
theorem dX11_of_25 : decode cX11_of 25 = .ok (.iconst (-1), 1) := by decide +kernel
theorem dX11_of_26 : decode cX11_of 26 = .ok (.ireturn, 1) := by decide +kernel
theorem dX11_of_27 : decode cX11_of 27 = .ok (.iload_n 2, 1) := by decide +kernel
theorem dX11_of_28 : decode cX11_of 28 = .ok (.tableswitch 54 0 2 #[28, 38, 48], 28) := by decide +kernel
theorem dX11_of_56 : decode cX11_of 56 = .ok (.aload_n 0, 1) := by decide +kernel
theorem dX11_of_57 : decode cX11_of 57 = .ok (.getfield 13, 3) := by decide +kernel
theorem dX11_of_60 : decode cX11_of 60 = .ok (.bipush 10, 2) := by decide +kernel
theorem dX11_of_62 : decode cX11_of 62 = .ok (.iload_n 1, 1) := by decide +kernel
theorem dX11_of_63 : decode cX11_of 63 = .ok (.iadd, 1) := by decide +kernel
theorem dX11_of_64 : decode cX11_of 64 = .ok (.iaload, 1) := by decide +kernel
theorem dX11_of_65 : decode cX11_of 65 = .ok (.ireturn, 1) := by decide +kernel
theorem dX11_of_66 : decode cX11_of 66 = .ok (.aload_n 0, 1) := by decide +kernel
theorem dX11_of_67 : decode cX11_of 67 = .ok (.getfield 13, 3) := by decide +kernel
theorem dX11_of_70 : decode cX11_of 70 = .ok (.bipush 23, 2) := by decide +kernel
theorem dX11_of_72 : decode cX11_of 72 = .ok (.iload_n 1, 1) := by decide +kernel
theorem dX11_of_73 : decode cX11_of 73 = .ok (.iadd, 1) := by decide +kernel
theorem dX11_of_74 : decode cX11_of 74 = .ok (.iaload, 1) := by decide +kernel
theorem dX11_of_75 : decode cX11_of 75 = .ok (.ireturn, 1) := by decide +kernel
theorem dX11_of_76 : decode cX11_of 76 = .ok (.aload_n 0, 1) := by decide +kernel
theorem dX11_of_77 : decode cX11_of 77 = .ok (.iload_n 1, 1) := by decide +kernel
theorem dX11_of_78 : decode cX11_of 78 = .ok (.invokevirtual 210, 3) := by decide +kernel
theorem dX11_of_81 : decode cX11_of 81 = .ok (.ireturn, 1) := by decide +kernel
theorem dX11_of_82 : decode cX11_of 82 = .ok (.iload_n 2, 1) := by decide +kernel
theorem dX11_of_83 : decode cX11_of 83 = .ok (.iconst 3, 1) := by decide +kernel
theorem dX11_of_84 : decode cX11_of 84 = .ok (.isub, 1) := by decide +kernel
theorem dX11_of_85 : decode cX11_of 85 = .ok (.bipush 6, 2) := by decide +kernel
theorem dX11_of_87 : decode cX11_of 87 = .ok (.irem, 1) := by decide +kernel
theorem dX11_of_88 : decode cX11_of 88 = .ok (.istore_n 3, 1) := by decide +kernel
theorem dX11_of_89 : decode cX11_of 89 = .ok (.iload_n 2, 1) := by decide +kernel
theorem dX11_of_90 : decode cX11_of 90 = .ok (.bipush 9, 2) := by decide +kernel
theorem dX11_of_92 : decode cX11_of 92 = .ok (.if_icmp .ge 18, 3) := by decide +kernel
theorem dX11_of_95 : decode cX11_of 95 = .ok (.aload_n 0, 1) := by decide +kernel
theorem dX11_of_96 : decode cX11_of 96 = .ok (.getfield 13, 3) := by decide +kernel
theorem dX11_of_99 : decode cX11_of 99 = .ok (.bipush 30, 2) := by decide +kernel
theorem dX11_of_101 : decode cX11_of 101 = .ok (.bipush 6, 2) := by decide +kernel
theorem dX11_of_103 : decode cX11_of 103 = .ok (.iload_n 1, 1) := by decide +kernel
theorem dX11_of_104 : decode cX11_of 104 = .ok (.imul, 1) := by decide +kernel
theorem dX11_of_105 : decode cX11_of 105 = .ok (.iadd, 1) := by decide +kernel
theorem dX11_of_106 : decode cX11_of 106 = .ok (.iload_n 3, 1) := by decide +kernel
theorem dX11_of_107 : decode cX11_of 107 = .ok (.iadd, 1) := by decide +kernel
theorem dX11_of_108 : decode cX11_of 108 = .ok (.iaload, 1) := by decide +kernel
theorem dX11_of_109 : decode cX11_of 109 = .ok (.ireturn, 1) := by decide +kernel
theorem dX11_of_110 : decode cX11_of 110 = .ok (.aload_n 0, 1) := by decide +kernel
theorem dX11_of_111 : decode cX11_of 111 = .ok (.iload_n 3, 1) := by decide +kernel
theorem dX11_of_112 : decode cX11_of 112 = .ok (.invokevirtual 213, 3) := by decide +kernel
theorem dX11_of_115 : decode cX11_of 115 = .ok (.ifCond .ne 5, 3) := by decide +kernel
theorem dX11_of_118 : decode cX11_of 118 = .ok (.iconst (-1), 1) := by decide +kernel
theorem dX11_of_119 : decode cX11_of 119 = .ok (.ireturn, 1) := by decide +kernel
theorem dX11_of_120 : decode cX11_of 120 = .ok (.iload_n 2, 1) := by decide +kernel
theorem dX11_of_121 : decode cX11_of 121 = .ok (.bipush 15, 2) := by decide +kernel
theorem dX11_of_123 : decode cX11_of 123 = .ok (.if_icmp .ge 10, 3) := by decide +kernel
theorem dX11_of_126 : decode cX11_of 126 = .ok (.aload_n 0, 1) := by decide +kernel
theorem dX11_of_127 : decode cX11_of 127 = .ok (.iload_n 1, 1) := by decide +kernel
theorem dX11_of_128 : decode cX11_of 128 = .ok (.iload_n 3, 1) := by decide +kernel
theorem dX11_of_129 : decode cX11_of 129 = .ok (.invokevirtual 216, 3) := by decide +kernel
theorem dX11_of_132 : decode cX11_of 132 = .ok (.ireturn, 1) := by decide +kernel
theorem dX11_of_133 : decode cX11_of 133 = .ok (.aload_n 0, 1) := by decide +kernel
theorem dX11_of_134 : decode cX11_of 134 = .ok (.iload_n 1, 1) := by decide +kernel
theorem dX11_of_135 : decode cX11_of 135 = .ok (.iload_n 3, 1) := by decide +kernel
theorem dX11_of_136 : decode cX11_of 136 = .ok (.invokevirtual 219, 3) := by decide +kernel
theorem dX11_of_139 : decode cX11_of 139 = .ok (.ifCond .ne 7, 3) := by decide +kernel
theorem dX11_of_142 : decode cX11_of 142 = .ok (.iconst 0, 1) := by decide +kernel
theorem dX11_of_143 : decode cX11_of 143 = .ok (.goto 17, 3) := by decide +kernel
theorem dX11_of_146 : decode cX11_of 146 = .ok (.aload_n 0, 1) := by decide +kernel
theorem dX11_of_147 : decode cX11_of 147 = .ok (.iload_n 1, 1) := by decide +kernel
theorem dX11_of_148 : decode cX11_of 148 = .ok (.iload_n 3, 1) := by decide +kernel
theorem dX11_of_149 : decode cX11_of 149 = .ok (.invokevirtual 222, 3) := by decide +kernel
theorem dX11_of_152 : decode cX11_of 152 = .ok (.ifCond .eq 7, 3) := by decide +kernel
theorem dX11_of_155 : decode cX11_of 155 = .ok (.iconst 2, 1) := by decide +kernel
theorem dX11_of_156 : decode cX11_of 156 = .ok (.goto 4, 3) := by decide +kernel
theorem dX11_of_159 : decode cX11_of 159 = .ok (.iconst 1, 1) := by decide +kernel
theorem dX11_of_160 : decode cX11_of 160 = .ok (.ireturn, 1) := by decide +kernel
theorem dX11_matter_0 : decode cX11_matter 0 = .ok (.aload_n 0, 1) := by decide +kernel
theorem dX11_matter_1 : decode cX11_matter 1 = .ok (.iconst 0, 1) := by decide +kernel
theorem dX11_matter_2 : decode cX11_matter 2 = .ok (.putfield 152, 3) := by decide +kernel
theorem dX11_matter_5 : decode cX11_matter 5 = .ok (.iload_n 1, 1) := by decide +kernel
theorem dX11_matter_6 : decode cX11_matter 6 = .ok (.i2l, 1) := by decide +kernel
theorem dX11_matter_7 : decode cX11_matter 7 = .ok (.lconst 1, 1) := by decide +kernel
theorem dX11_matter_8 : decode cX11_matter 8 = .ok (.ldc2_w 190, 3) := by decide +kernel
theorem dX11_matter_11 : decode cX11_matter 11 = .ok (.invokestatic 172, 3) := by decide +kernel
theorem dX11_matter_14 : decode cX11_matter 14 = .ok (.ifCond .eq 15, 3) := by decide +kernel
theorem dX11_matter_17 : decode cX11_matter 17 = .ok (.iload_n 2, 1) := by decide +kernel
theorem dX11_matter_18 : decode cX11_matter 18 = .ok (.i2l, 1) := by decide +kernel
theorem dX11_matter_19 : decode cX11_matter 19 = .ok (.lconst 0, 1) := by decide +kernel
theorem dX11_matter_20 : decode cX11_matter 20 = .ok (.ldc2_w 190, 3) := by decide +kernel
theorem dX11_matter_23 : decode cX11_matter 23 = .ok (.invokestatic 172, 3) := by decide +kernel
theorem dX11_matter_26 : decode cX11_matter 26 = .ok (.ifCond .ne 9, 3) := by decide +kernel
theorem dX11_matter_29 : decode cX11_matter 29 = .ok (.aload_n 0, 1) := by decide +kernel
theorem dX11_matter_30 : decode cX11_matter 30 = .ok (.iconst (-1), 1) := by decide +kernel
theorem dX11_matter_31 : decode cX11_matter 31 = .ok (.invokevirtual 161, 3) := by decide +kernel
theorem dX11_matter_34 : decode cX11_matter 34 = .ok (.ireturn, 1) := by decide +kernel
theorem dX11_matter_35 : decode cX11_matter 35 = .ok (.aload_n 0, 1) := by decide +kernel
theorem dX11_matter_36 : decode cX11_matter 36 = .ok (.getfield 13, 3) := by decide +kernel
theorem dX11_matter_39 : decode cX11_matter 39 = .ok (.iconst 1, 1) := by decide +kernel
theorem dX11_matter_40 : decode cX11_matter 40 = .ok (.iaload, 1) := by decide +kernel
theorem dX11_matter_41 : decode cX11_matter 41 = .ok (.istore_n 3, 1) := by decide +kernel
theorem dX11_matter_42 : decode cX11_matter 42 = .ok (.iload_n 3, 1) := by decide +kernel
theorem dX11_matter_43 : decode cX11_matter 43 = .ok (.bipush 6, 2) := by decide +kernel
theorem dX11_matter_45 : decode cX11_matter 45 = .ok (.if_icmp .ne 10, 3) := by decide +kernel
theorem dX11_matter_48 : decode cX11_matter 48 = .ok (.aload_n 0, 1) := by decide +kernel
theorem dX11_matter_49 : decode cX11_matter 49 = .ok (.bipush (-5), 2) := by decide +kernel
theorem dX11_matter_51 : decode cX11_matter 51 = .ok (.invokevirtual 161, 3) := by decide +kernel
theorem dX11_matter_54 : decode cX11_matter 54 = .ok (.ireturn, 1) := by decide +kernel
theorem dX11_matter_55 : decode cX11_matter 55 = .ok (.aload_n 0, 1) := by decide +kernel
theorem dX11_matter_56 : decode cX11_matter 56 = .ok (.getfield 13, 3) := by decide +kernel
theorem dX11_matter_59 : decode cX11_matter 59 = .ok (.bipush 72, 2) := by decide +kernel
theorem dX11_matter_61 : decode cX11_matter 61 = .ok (.iload_n 3, 1) := by decide +kernel
theorem dX11_matter_62 : decode cX11_matter 62 = .ok (.iadd, 1) := by decide +kernel
theorem dX11_matter_63 : decode cX11_matter 63 = .ok (.iload_n 1, 1) := by decide +kernel
theorem dX11_matter_64 : decode cX11_matter 64 = .ok (.iastore, 1) := by decide +kernel
theorem dX11_matter_65 : decode cX11_matter 65 = .ok (.aload_n 0, 1) := by decide +kernel
theorem dX11_matter_66 : decode cX11_matter 66 = .ok (.getfield 13, 3) := by decide +kernel
theorem dX11_matter_69 : decode cX11_matter 69 = .ok (.bipush 78, 2) := by decide +kernel
theorem dX11_matter_71 : decode cX11_matter 71 = .ok (.iload_n 3, 1) := by decide +kernel
theorem dX11_matter_72 : decode cX11_matter 72 = .ok (.iadd, 1) := by decide +kernel
theorem dX11_matter_73 : decode cX11_matter 73 = .ok (.iload_n 2, 1) := by decide +kernel
theorem dX11_matter_74 : decode cX11_matter 74 = .ok (.iastore, 1) := by decide +kernel
theorem dX11_matter_75 : decode cX11_matter 75 = .ok (.aload_n 0, 1) := by decide +kernel
theorem dX11_matter_76 : decode cX11_matter 76 = .ok (.getfield 13, 3) := by decide +kernel
theorem dX11_matter_79 : decode cX11_matter 79 = .ok (.bipush 17, 2) := by decide +kernel
theorem dX11_matter_81 : decode cX11_matter 81 = .ok (.iload_n 3, 1) := by decide +kernel
theorem dX11_matter_82 : decode cX11_matter 82 = .ok (.iadd, 1) := by decide +kernel
theorem dX11_matter_83 : decode cX11_matter 83 = .ok (.iconst 0, 1) := by decide +kernel
theorem dX11_matter_84 : decode cX11_matter 84 = .ok (.iastore, 1) := by decide +kernel
theorem dX11_matter_85 : decode cX11_matter 85 = .ok (.aload_n 0, 1) := by decide +kernel
theorem dX11_matter_86 : decode cX11_matter 86 = .ok (.getfield 13, 3) := by decide +kernel
theorem dX11_matter_89 : decode cX11_matter 89 = .ok (.iconst 1, 1) := by decide +kernel
theorem dX11_matter_90 : decode cX11_matter 90 = .ok (.dup2, 1) := by decide +kernel
theorem dX11_matter_91 : decode cX11_matter 91 = .ok (.iaload, 1) := by decide +kernel
theorem dX11_matter_92 : decode cX11_matter 92 = .ok (.iconst 1, 1) := by decide +kernel
theorem dX11_matter_93 : decode cX11_matter 93 = .ok (.iadd, 1) := by decide +kernel
theorem dX11_matter_94 : decode cX11_matter 94 = .ok (.iastore, 1) := by decide +kernel
theorem dX11_matter_95 : decode cX11_matter 95 = .ok (.aload_n 0, 1) := by decide +kernel
theorem dX11_matter_96 : decode cX11_matter 96 = .ok (.iload_n 3, 1) := by decide +kernel
theorem dX11_matter_97 : decode cX11_matter 97 = .ok (.invokevirtual 176, 3) := by decide +kernel
theorem dX11_matter_100 : decode cX11_matter 100 = .ok (.ireturn, 1) := by decide +kernel
theorem dX11_at_0 : decode cX11_at 0 = .ok (.aload_n 0, 1) := by decide +kernel
theorem dX11_at_1 : decode cX11_at 1 = .ok (.iconst 0, 1) := by decide +kernel
theorem dX11_at_2 : decode cX11_at 2 = .ok (.putfield 152, 3) := by decide +kernel
theorem dX11_at_5 : decode cX11_at 5 = .ok (.aload_n 0, 1) := by decide +kernel
theorem dX11_at_6 : decode cX11_at 6 = .ok (.iload_n 1, 1) := by decide +kernel
theorem dX11_at_7 : decode cX11_at 7 = .ok (.invokevirtual 213, 3) := by decide +kernel
theorem dX11_at_10 : decode cX11_at 10 = .ok (.ifCond .ne 5, 3) := by decide +kernel
theorem dX11_at_13 : decode cX11_at 13 = .ok (.iconst (-1), 1) := by decide +kernel
theorem dX11_at_14 : decode cX11_at 14 = .ok (.ireturn, 1) := by decide +kernel
theorem dX11_at_15 : decode cX11_at 15 = .ok (.iload_n 2, 1) := by decide +kernel
theorem dX11_at_16 : decode cX11_at 16 = .ok (.tableswitch 106 0 6 #[44, 54, 64, 74, 80, 86, 92], 44) := by decide +kernel
theorem dX11_at_60 : decode cX11_at 60 = .ok (.aload_n 0, 1) := by decide +kernel
theorem dX11_at_61 : decode cX11_at 61 = .ok (.getfield 13, 3) := by decide +kernel
theorem dX11_at_64 : decode cX11_at 64 = .ok (.bipush 72, 2) := by decide +kernel
theorem dX11_at_66 : decode cX11_at 66 = .ok (.iload_n 1, 1) := by decide +kernel
theorem dX11_at_67 : decode cX11_at 67 = .ok (.iadd, 1) := by decide +kernel
theorem dX11_at_68 : decode cX11_at 68 = .ok (.iaload, 1) := by decide +kernel
theorem dX11_at_69 : decode cX11_at 69 = .ok (.ireturn, 1) := by decide +kernel
theorem dX11_at_70 : decode cX11_at 70 = .ok (.aload_n 0, 1) := by decide +kernel
theorem dX11_at_71 : decode cX11_at 71 = .ok (.getfield 13, 3) := by decide +kernel
theorem dX11_at_74 : decode cX11_at 74 = .ok (.bipush 78, 2) := by decide +kernel
theorem dX11_at_76 : decode cX11_at 76 = .ok (.iload_n 1, 1) := by decide +kernel
theorem dX11_at_77 : decode cX11_at 77 = .ok (.iadd, 1) := by decide +kernel
theorem dX11_at_78 : decode cX11_at 78 = .ok (.iaload, 1) := by decide +kernel
theorem dX11_at_79 : decode cX11_at 79 = .ok (.ireturn, 1) := by decide +kernel
theorem dX11_at_80 : decode cX11_at 80 = .ok (.aload_n 0, 1) := by decide +kernel
theorem dX11_at_81 : decode cX11_at 81 = .ok (.getfield 13, 3) := by decide +kernel
theorem dX11_at_84 : decode cX11_at 84 = .ok (.bipush 17, 2) := by decide +kernel
theorem dX11_at_86 : decode cX11_at 86 = .ok (.iload_n 1, 1) := by decide +kernel
theorem dX11_at_87 : decode cX11_at 87 = .ok (.iadd, 1) := by decide +kernel
theorem dX11_at_88 : decode cX11_at 88 = .ok (.iaload, 1) := by decide +kernel
theorem dX11_at_89 : decode cX11_at 89 = .ok (.ireturn, 1) := by decide +kernel
theorem dX11_at_90 : decode cX11_at 90 = .ok (.aload_n 0, 1) := by decide +kernel
theorem dX11_at_91 : decode cX11_at 91 = .ok (.iload_n 1, 1) := by decide +kernel
theorem dX11_at_92 : decode cX11_at 92 = .ok (.invokevirtual 225, 3) := by decide +kernel
theorem dX11_at_95 : decode cX11_at 95 = .ok (.ireturn, 1) := by decide +kernel
theorem dX11_at_96 : decode cX11_at 96 = .ok (.aload_n 0, 1) := by decide +kernel
theorem dX11_at_97 : decode cX11_at 97 = .ok (.iload_n 1, 1) := by decide +kernel
theorem dX11_at_98 : decode cX11_at 98 = .ok (.invokevirtual 228, 3) := by decide +kernel
theorem dX11_at_101 : decode cX11_at 101 = .ok (.ireturn, 1) := by decide +kernel
theorem dX11_at_102 : decode cX11_at 102 = .ok (.aload_n 0, 1) := by decide +kernel
theorem dX11_at_103 : decode cX11_at 103 = .ok (.iload_n 1, 1) := by decide +kernel
theorem dX11_at_104 : decode cX11_at 104 = .ok (.invokevirtual 231, 3) := by decide +kernel
theorem dX11_at_107 : decode cX11_at 107 = .ok (.ireturn, 1) := by decide +kernel
theorem dX11_at_108 : decode cX11_at 108 = .ok (.aload_n 0, 1) := by decide +kernel
theorem dX11_at_109 : decode cX11_at 109 = .ok (.iload_n 1, 1) := by decide +kernel
theorem dX11_at_110 : decode cX11_at 110 = .ok (.invokevirtual 234, 3) := by decide +kernel
theorem dX11_at_113 : decode cX11_at 113 = .ok (.ifCond .eq 7, 3) := by decide +kernel
theorem dX11_at_116 : decode cX11_at 116 = .ok (.iconst 1, 1) := by decide +kernel
theorem dX11_at_117 : decode cX11_at 117 = .ok (.goto 4, 3) := by decide +kernel
theorem dX11_at_120 : decode cX11_at 120 = .ok (.iconst 0, 1) := by decide +kernel
theorem dX11_at_121 : decode cX11_at 121 = .ok (.ireturn, 1) := by decide +kernel
theorem dX11_at_122 : decode cX11_at 122 = .ok (.iconst (-1), 1) := by decide +kernel
theorem dX11_at_123 : decode cX11_at 123 = .ok (.ireturn, 1) := by decide +kernel
theorem dX11_terms_0 : decode cX11_terms 0 = .ok (.aload_n 0, 1) := by decide +kernel
theorem dX11_terms_1 : decode cX11_terms 1 = .ok (.iconst 0, 1) := by decide +kernel
theorem dX11_terms_2 : decode cX11_terms 2 = .ok (.putfield 152, 3) := by decide +kernel
theorem dX11_terms_5 : decode cX11_terms 5 = .ok (.iload_n 1, 1) := by decide +kernel
theorem dX11_terms_6 : decode cX11_terms 6 = .ok (.ifCond .ne 15, 3) := by decide +kernel
theorem dX11_terms_9 : decode cX11_terms 9 = .ok (.iload_n 2, 1) := by decide +kernel
theorem dX11_terms_10 : decode cX11_terms 10 = .ok (.i2l, 1) := by decide +kernel
theorem dX11_terms_11 : decode cX11_terms 11 = .ok (.lconst 0, 1) := by decide +kernel
theorem dX11_terms_12 : decode cX11_terms 12 = .ok (.ldc2_w 237, 3) := by decide +kernel
theorem dX11_terms_15 : decode cX11_terms 15 = .ok (.invokestatic 172, 3) := by decide +kernel
theorem dX11_terms_18 : decode cX11_terms 18 = .ok (.goto 59, 3) := by decide +kernel
theorem dX11_terms_21 : decode cX11_terms 21 = .ok (.iload_n 1, 1) := by decide +kernel
theorem dX11_terms_22 : decode cX11_terms 22 = .ok (.iconst 1, 1) := by decide +kernel
theorem dX11_terms_23 : decode cX11_terms 23 = .ok (.if_icmp .ne 15, 3) := by decide +kernel
theorem dX11_terms_26 : decode cX11_terms 26 = .ok (.iload_n 2, 1) := by decide +kernel
theorem dX11_terms_27 : decode cX11_terms 27 = .ok (.i2l, 1) := by decide +kernel
theorem dX11_terms_28 : decode cX11_terms 28 = .ok (.lconst 0, 1) := by decide +kernel
theorem dX11_terms_29 : decode cX11_terms 29 = .ok (.ldc2_w 239, 3) := by decide +kernel
theorem dX11_terms_32 : decode cX11_terms 32 = .ok (.invokestatic 172, 3) := by decide +kernel
theorem dX11_terms_35 : decode cX11_terms 35 = .ok (.goto 42, 3) := by decide +kernel
theorem dX11_terms_38 : decode cX11_terms 38 = .ok (.iload_n 1, 1) := by decide +kernel
theorem dX11_terms_39 : decode cX11_terms 39 = .ok (.iconst 2, 1) := by decide +kernel
theorem dX11_terms_40 : decode cX11_terms 40 = .ok (.if_icmp .ne 15, 3) := by decide +kernel
theorem dX11_terms_43 : decode cX11_terms 43 = .ok (.iload_n 2, 1) := by decide +kernel
theorem dX11_terms_44 : decode cX11_terms 44 = .ok (.i2l, 1) := by decide +kernel
theorem dX11_terms_45 : decode cX11_terms 45 = .ok (.lconst 0, 1) := by decide +kernel
theorem dX11_terms_46 : decode cX11_terms 46 = .ok (.ldc2_w 190, 3) := by decide +kernel
theorem dX11_terms_49 : decode cX11_terms 49 = .ok (.invokestatic 172, 3) := by decide +kernel
theorem dX11_terms_52 : decode cX11_terms 52 = .ok (.goto 25, 3) := by decide +kernel
theorem dX11_terms_55 : decode cX11_terms 55 = .ok (.iload_n 1, 1) := by decide +kernel
theorem dX11_terms_56 : decode cX11_terms 56 = .ok (.iconst 3, 1) := by decide +kernel
theorem dX11_terms_57 : decode cX11_terms 57 = .ok (.if_icmp .ne 19, 3) := by decide +kernel
theorem dX11_terms_60 : decode cX11_terms 60 = .ok (.iload_n 2, 1) := by decide +kernel
theorem dX11_terms_61 : decode cX11_terms 61 = .ok (.i2l, 1) := by decide +kernel
theorem dX11_terms_62 : decode cX11_terms 62 = .ok (.lconst 0, 1) := by decide +kernel
theorem dX11_terms_63 : decode cX11_terms 63 = .ok (.ldc2_w 241, 3) := by decide +kernel
theorem dX11_terms_66 : decode cX11_terms 66 = .ok (.invokestatic 172, 3) := by decide +kernel
theorem dX11_terms_69 : decode cX11_terms 69 = .ok (.ifCond .eq 7, 3) := by decide +kernel
theorem dX11_terms_72 : decode cX11_terms 72 = .ok (.iconst 1, 1) := by decide +kernel
theorem dX11_terms_73 : decode cX11_terms 73 = .ok (.goto 4, 3) := by decide +kernel
theorem dX11_terms_76 : decode cX11_terms 76 = .ok (.iconst 0, 1) := by decide +kernel
theorem dX11_terms_77 : decode cX11_terms 77 = .ok (.istore_n 3, 1) := by decide +kernel
theorem dX11_terms_78 : decode cX11_terms 78 = .ok (.iload_n 3, 1) := by decide +kernel
theorem dX11_terms_79 : decode cX11_terms 79 = .ok (.ifCond .ne 9, 3) := by decide +kernel
theorem dX11_terms_82 : decode cX11_terms 82 = .ok (.aload_n 0, 1) := by decide +kernel
theorem dX11_terms_83 : decode cX11_terms 83 = .ok (.iconst (-1), 1) := by decide +kernel
theorem dX11_terms_84 : decode cX11_terms 84 = .ok (.invokevirtual 161, 3) := by decide +kernel
theorem dX11_terms_87 : decode cX11_terms 87 = .ok (.ireturn, 1) := by decide +kernel
theorem dX11_terms_88 : decode cX11_terms 88 = .ok (.aload_n 0, 1) := by decide +kernel
theorem dX11_terms_89 : decode cX11_terms 89 = .ok (.iconst 0, 1) := by decide +kernel
theorem dX11_terms_90 : decode cX11_terms 90 = .ok (.putfield 158, 3) := by decide +kernel
theorem dX11_terms_93 : decode cX11_terms 93 = .ok (.aload_n 0, 1) := by decide +kernel
theorem dX11_terms_94 : decode cX11_terms 94 = .ok (.iconst 5, 1) := by decide +kernel
theorem dX11_terms_95 : decode cX11_terms 95 = .ok (.iload_n 1, 1) := by decide +kernel
theorem dX11_terms_96 : decode cX11_terms 96 = .ok (.iadd, 1) := by decide +kernel
theorem dX11_terms_97 : decode cX11_terms 97 = .ok (.iload_n 2, 1) := by decide +kernel
theorem dX11_terms_98 : decode cX11_terms 98 = .ok (.invokevirtual 201, 3) := by decide +kernel
theorem dX11_terms_101 : decode cX11_terms 101 = .ok (.ireturn, 1) := by decide +kernel
theorem dX11_isRow_0 : decode cX11_isRow 0 = .ok (.iload_n 1, 1) := by decide +kernel
theorem dX11_isRow_1 : decode cX11_isRow 1 = .ok (.bipush 7, 2) := by decide +kernel
theorem dX11_isRow_3 : decode cX11_isRow 3 = .ok (.iadd, 1) := by decide +kernel
theorem dX11_isRow_4 : decode cX11_isRow 4 = .ok (.iload_n 2, 1) := by decide +kernel
theorem dX11_isRow_5 : decode cX11_isRow 5 = .ok (.if_icmp .ge 18, 3) := by decide +kernel
theorem dX11_isRow_8 : decode cX11_isRow 8 = .ok (.aload_n 0, 1) := by decide +kernel
theorem dX11_isRow_9 : decode cX11_isRow 9 = .ok (.getfield 35, 3) := by decide +kernel
theorem dX11_isRow_12 : decode cX11_isRow 12 = .ok (.iload_n 1, 1) := by decide +kernel
theorem dX11_isRow_13 : decode cX11_isRow 13 = .ok (.iaload, 1) := by decide +kernel
theorem dX11_isRow_14 : decode cX11_isRow 14 = .ok (.bipush 20, 2) := by decide +kernel
theorem dX11_isRow_16 : decode cX11_isRow 16 = .ok (.if_icmp .ge 7, 3) := by decide +kernel
theorem dX11_isRow_19 : decode cX11_isRow 19 = .ok (.iconst 1, 1) := by decide +kernel
theorem dX11_isRow_20 : decode cX11_isRow 20 = .ok (.goto 4, 3) := by decide +kernel
theorem dX11_isRow_23 : decode cX11_isRow 23 = .ok (.iconst 0, 1) := by decide +kernel
theorem dX11_isRow_24 : decode cX11_isRow 24 = .ok (.istore_n 3, 1) := by decide +kernel
theorem dX11_isRow_25 : decode cX11_isRow 25 = .ok (.iconst 1, 1) := by decide +kernel
theorem dX11_isRow_26 : decode cX11_isRow 26 = .ok (.istore 4, 2) := by decide +kernel
theorem dX11_isRow_28 : decode cX11_isRow 28 = .ok (.iload 4, 2) := by decide +kernel
theorem dX11_isRow_30 : decode cX11_isRow 30 = .ok (.bipush 8, 2) := by decide +kernel
theorem dX11_isRow_32 : decode cX11_isRow 32 = .ok (.if_icmp .ge 33, 3) := by decide +kernel
theorem dX11_isRow_35 : decode cX11_isRow 35 = .ok (.iload_n 3, 1) := by decide +kernel
theorem dX11_isRow_36 : decode cX11_isRow 36 = .ok (.ifCond .eq 29, 3) := by decide +kernel
theorem dX11_isRow_39 : decode cX11_isRow 39 = .ok (.aload_n 0, 1) := by decide +kernel
theorem dX11_isRow_40 : decode cX11_isRow 40 = .ok (.getfield 35, 3) := by decide +kernel
theorem dX11_isRow_43 : decode cX11_isRow 43 = .ok (.iload_n 1, 1) := by decide +kernel
theorem dX11_isRow_44 : decode cX11_isRow 44 = .ok (.iload 4, 2) := by decide +kernel
theorem dX11_isRow_46 : decode cX11_isRow 46 = .ok (.iadd, 1) := by decide +kernel
theorem dX11_isRow_47 : decode cX11_isRow 47 = .ok (.iaload, 1) := by decide +kernel
theorem dX11_isRow_48 : decode cX11_isRow 48 = .ok (.bipush 9, 2) := by decide +kernel
theorem dX11_isRow_50 : decode cX11_isRow 50 = .ok (.if_icmp .gt 7, 3) := by decide +kernel
theorem dX11_isRow_53 : decode cX11_isRow 53 = .ok (.iconst 1, 1) := by decide +kernel
theorem dX11_isRow_54 : decode cX11_isRow 54 = .ok (.goto 4, 3) := by decide +kernel
theorem dX11_isRow_57 : decode cX11_isRow 57 = .ok (.iconst 0, 1) := by decide +kernel
theorem dX11_isRow_58 : decode cX11_isRow 58 = .ok (.istore_n 3, 1) := by decide +kernel
theorem dX11_isRow_59 : decode cX11_isRow 59 = .ok (.iinc 4 1, 3) := by decide +kernel
theorem dX11_isRow_62 : decode cX11_isRow 62 = .ok (.goto (-34), 3) := by decide +kernel
theorem dX11_isRow_65 : decode cX11_isRow 65 = .ok (.iload_n 3, 1) := by decide +kernel
theorem dX11_isRow_66 : decode cX11_isRow 66 = .ok (.ireturn, 1) := by decide +kernel
theorem dX11_row_0 : decode cX11_row 0 = .ok (.aload_n 0, 1) := by decide +kernel
theorem dX11_row_1 : decode cX11_row 1 = .ok (.iconst 0, 1) := by decide +kernel
theorem dX11_row_2 : decode cX11_row 2 = .ok (.putfield 152, 3) := by decide +kernel
theorem dX11_row_5 : decode cX11_row 5 = .ok (.aload_n 0, 1) := by decide +kernel
theorem dX11_row_6 : decode cX11_row 6 = .ok (.getfield 243, 3) := by decide +kernel
theorem dX11_row_9 : decode cX11_row 9 = .ok (.istore_n 1, 1) := by decide +kernel
theorem dX11_row_10 : decode cX11_row 10 = .ok (.aload_n 0, 1) := by decide +kernel
theorem dX11_row_11 : decode cX11_row 11 = .ok (.iconst 0, 1) := by decide +kernel
theorem dX11_row_12 : decode cX11_row 12 = .ok (.putfield 243, 3) := by decide +kernel
theorem dX11_row_15 : decode cX11_row 15 = .ok (.iload_n 1, 1) := by decide +kernel
theorem dX11_row_16 : decode cX11_row 16 = .ok (.ifCond .ne 10, 3) := by decide +kernel
theorem dX11_row_19 : decode cX11_row 19 = .ok (.aload_n 0, 1) := by decide +kernel
theorem dX11_row_20 : decode cX11_row 20 = .ok (.bipush (-6), 2) := by decide +kernel
theorem dX11_row_22 : decode cX11_row 22 = .ok (.invokevirtual 161, 3) := by decide +kernel
theorem dX11_row_25 : decode cX11_row 25 = .ok (.ireturn, 1) := by decide +kernel
theorem dX11_row_26 : decode cX11_row 26 = .ok (.aload_n 0, 1) := by decide +kernel
theorem dX11_row_27 : decode cX11_row 27 = .ok (.iconst 0, 1) := by decide +kernel
theorem dX11_row_28 : decode cX11_row 28 = .ok (.putfield 246, 3) := by decide +kernel
theorem dX11_row_31 : decode cX11_row 31 = .ok (.iconst 0, 1) := by decide +kernel
theorem dX11_row_32 : decode cX11_row 32 = .ok (.istore_n 2, 1) := by decide +kernel
theorem dX11_row_33 : decode cX11_row 33 = .ok (.iconst 0, 1) := by decide +kernel
theorem dX11_row_34 : decode cX11_row 34 = .ok (.istore_n 3, 1) := by decide +kernel
theorem dX11_row_35 : decode cX11_row 35 = .ok (.iload_n 3, 1) := by decide +kernel
theorem dX11_row_36 : decode cX11_row 36 = .ok (.iload_n 1, 1) := by decide +kernel
theorem dX11_row_37 : decode cX11_row 37 = .ok (.if_icmp .ge 106, 3) := by decide +kernel
theorem dX11_row_40 : decode cX11_row 40 = .ok (.aload_n 0, 1) := by decide +kernel
theorem dX11_row_41 : decode cX11_row 41 = .ok (.iload_n 3, 1) := by decide +kernel
theorem dX11_row_42 : decode cX11_row 42 = .ok (.iload_n 1, 1) := by decide +kernel
theorem dX11_row_43 : decode cX11_row 43 = .ok (.invokevirtual 249, 3) := by decide +kernel
theorem dX11_row_46 : decode cX11_row 46 = .ok (.ifCond .eq 24, 3) := by decide +kernel
theorem dX11_row_49 : decode cX11_row 49 = .ok (.aload_n 0, 1) := by decide +kernel
theorem dX11_row_50 : decode cX11_row 50 = .ok (.aload_n 0, 1) := by decide +kernel
theorem dX11_row_51 : decode cX11_row 51 = .ok (.getfield 35, 3) := by decide +kernel
theorem dX11_row_54 : decode cX11_row 54 = .ok (.iload_n 3, 1) := by decide +kernel
theorem dX11_row_55 : decode cX11_row 55 = .ok (.iaload, 1) := by decide +kernel
theorem dX11_row_56 : decode cX11_row 56 = .ok (.aload_n 0, 1) := by decide +kernel
theorem dX11_row_57 : decode cX11_row 57 = .ok (.getfield 35, 3) := by decide +kernel
theorem dX11_row_60 : decode cX11_row 60 = .ok (.iload_n 3, 1) := by decide +kernel
theorem dX11_row_61 : decode cX11_row 61 = .ok (.iconst 1, 1) := by decide +kernel
theorem dX11_row_62 : decode cX11_row 62 = .ok (.iadd, 1) := by decide +kernel
theorem dX11_row_63 : decode cX11_row 63 = .ok (.iaload, 1) := by decide +kernel
theorem dX11_row_64 : decode cX11_row 64 = .ok (.invokevirtual 192, 3) := by decide +kernel
theorem dX11_row_67 : decode cX11_row 67 = .ok (.goto 4, 3) := by decide +kernel
theorem dX11_row_70 : decode cX11_row 70 = .ok (.iconst (-1), 1) := by decide +kernel
theorem dX11_row_71 : decode cX11_row 71 = .ok (.istore 4, 2) := by decide +kernel
theorem dX11_row_73 : decode cX11_row 73 = .ok (.iload 4, 2) := by decide +kernel
theorem dX11_row_75 : decode cX11_row 75 = .ok (.ifCond .lt 52, 3) := by decide +kernel
theorem dX11_row_78 : decode cX11_row 78 = .ok (.iconst 0, 1) := by decide +kernel
theorem dX11_row_79 : decode cX11_row 79 = .ok (.istore 5, 2) := by decide +kernel
theorem dX11_row_81 : decode cX11_row 81 = .ok (.iload 5, 2) := by decide +kernel
theorem dX11_row_83 : decode cX11_row 83 = .ok (.bipush 6, 2) := by decide +kernel
theorem dX11_row_85 : decode cX11_row 85 = .ok (.if_icmp .ge 36, 3) := by decide +kernel
theorem dX11_row_88 : decode cX11_row 88 = .ok (.aload_n 0, 1) := by decide +kernel
theorem dX11_row_89 : decode cX11_row 89 = .ok (.getfield 13, 3) := by decide +kernel
theorem dX11_row_92 : decode cX11_row 92 = .ok (.bipush 30, 2) := by decide +kernel
theorem dX11_row_94 : decode cX11_row 94 = .ok (.bipush 6, 2) := by decide +kernel
theorem dX11_row_96 : decode cX11_row 96 = .ok (.iload 4, 2) := by decide +kernel
theorem dX11_row_98 : decode cX11_row 98 = .ok (.imul, 1) := by decide +kernel
theorem dX11_row_99 : decode cX11_row 99 = .ok (.iadd, 1) := by decide +kernel
theorem dX11_row_100 : decode cX11_row 100 = .ok (.iload 5, 2) := by decide +kernel
theorem dX11_row_102 : decode cX11_row 102 = .ok (.iadd, 1) := by decide +kernel
theorem dX11_row_103 : decode cX11_row 103 = .ok (.aload_n 0, 1) := by decide +kernel
theorem dX11_row_104 : decode cX11_row 104 = .ok (.getfield 35, 3) := by decide +kernel
theorem dX11_row_107 : decode cX11_row 107 = .ok (.iload_n 3, 1) := by decide +kernel
theorem dX11_row_108 : decode cX11_row 108 = .ok (.iconst 2, 1) := by decide +kernel
theorem dX11_row_109 : decode cX11_row 109 = .ok (.iadd, 1) := by decide +kernel
theorem dX11_row_110 : decode cX11_row 110 = .ok (.iload 5, 2) := by decide +kernel
theorem dX11_row_112 : decode cX11_row 112 = .ok (.iadd, 1) := by decide +kernel
theorem dX11_row_113 : decode cX11_row 113 = .ok (.iaload, 1) := by decide +kernel
theorem dX11_row_114 : decode cX11_row 114 = .ok (.iastore, 1) := by decide +kernel
theorem dX11_row_115 : decode cX11_row 115 = .ok (.iinc 5 1, 3) := by decide +kernel
theorem dX11_row_118 : decode cX11_row 118 = .ok (.goto (-37), 3) := by decide +kernel
theorem dX11_row_121 : decode cX11_row 121 = .ok (.iinc 2 1, 3) := by decide +kernel
theorem dX11_row_124 : decode cX11_row 124 = .ok (.goto 13, 3) := by decide +kernel
theorem dX11_row_127 : decode cX11_row 127 = .ok (.aload_n 0, 1) := by decide +kernel
theorem dX11_row_128 : decode cX11_row 128 = .ok (.dup, 1) := by decide +kernel
theorem dX11_row_129 : decode cX11_row 129 = .ok (.getfield 246, 3) := by decide +kernel
theorem dX11_row_132 : decode cX11_row 132 = .ok (.iconst 1, 1) := by decide +kernel
theorem dX11_row_133 : decode cX11_row 133 = .ok (.iadd, 1) := by decide +kernel
theorem dX11_row_134 : decode cX11_row 134 = .ok (.putfield 246, 3) := by decide +kernel
theorem dX11_row_137 : decode cX11_row 137 = .ok (.iinc 3 8, 3) := by decide +kernel
theorem dX11_row_140 : decode cX11_row 140 = .ok (.goto (-105), 3) := by decide +kernel
theorem dX11_row_143 : decode cX11_row 143 = .ok (.aload_n 0, 1) := by decide +kernel
theorem dX11_row_144 : decode cX11_row 144 = .ok (.iload_n 2, 1) := by decide +kernel
theorem dX11_row_145 : decode cX11_row 145 = .ok (.invokevirtual 176, 3) := by decide +kernel
theorem dX11_row_148 : decode cX11_row 148 = .ok (.ireturn, 1) := by decide +kernel
theorem dX11_cats_0 : decode cX11_cats 0 = .ok (.aload_n 0, 1) := by decide +kernel
theorem dX11_cats_1 : decode cX11_cats 1 = .ok (.iconst 0, 1) := by decide +kernel
theorem dX11_cats_2 : decode cX11_cats 2 = .ok (.putfield 152, 3) := by decide +kernel
theorem dX11_cats_5 : decode cX11_cats 5 = .ok (.aload_n 0, 1) := by decide +kernel
theorem dX11_cats_6 : decode cX11_cats 6 = .ok (.getfield 246, 3) := by decide +kernel
theorem dX11_cats_9 : decode cX11_cats 9 = .ok (.ireturn, 1) := by decide +kernel
theorem dX11_four_0 : decode cX11_four 0 = .ok (.bipush 24, 2) := by decide +kernel
theorem dX11_four_2 : decode cX11_four 2 = .ok (.istore_n 2, 1) := by decide +kernel
theorem dX11_four_3 : decode cX11_four 3 = .ok (.iload_n 2, 1) := by decide +kernel
theorem dX11_four_4 : decode cX11_four 4 = .ok (.ifCond .lt 35, 3) := by decide +kernel
theorem dX11_four_7 : decode cX11_four 7 = .ok (.aload_n 0, 1) := by decide +kernel
theorem dX11_four_8 : decode cX11_four 8 = .ok (.getfield 35, 3) := by decide +kernel
theorem dX11_four_11 : decode cX11_four 11 = .ok (.aload_n 0, 1) := by decide +kernel
theorem dX11_four_12 : decode cX11_four 12 = .ok (.getfield 243, 3) := by decide +kernel
theorem dX11_four_15 : decode cX11_four 15 = .ok (.iload_n 1, 1) := by decide +kernel
theorem dX11_four_16 : decode cX11_four 16 = .ok (.iload_n 2, 1) := by decide +kernel
theorem dX11_four_17 : decode cX11_four 17 = .ok (.ishr, 1) := by decide +kernel
theorem dX11_four_18 : decode cX11_four 18 = .ok (.sipush 255, 3) := by decide +kernel
theorem dX11_four_21 : decode cX11_four 21 = .ok (.iand, 1) := by decide +kernel
theorem dX11_four_22 : decode cX11_four 22 = .ok (.iastore, 1) := by decide +kernel
theorem dX11_four_23 : decode cX11_four 23 = .ok (.aload_n 0, 1) := by decide +kernel
theorem dX11_four_24 : decode cX11_four 24 = .ok (.dup, 1) := by decide +kernel
theorem dX11_four_25 : decode cX11_four 25 = .ok (.getfield 243, 3) := by decide +kernel
theorem dX11_four_28 : decode cX11_four 28 = .ok (.iconst 1, 1) := by decide +kernel
theorem dX11_four_29 : decode cX11_four 29 = .ok (.iadd, 1) := by decide +kernel
theorem dX11_four_30 : decode cX11_four 30 = .ok (.putfield 243, 3) := by decide +kernel
theorem dX11_four_33 : decode cX11_four 33 = .ok (.iinc 2 (-8), 3) := by decide +kernel
theorem dX11_four_36 : decode cX11_four 36 = .ok (.goto (-33), 3) := by decide +kernel
theorem dX11_four_39 : decode cX11_four 39 = .ok (.return_, 1) := by decide +kernel
theorem dX11_feed_0 : decode cX11_feed 0 = .ok (.aload_n 0, 1) := by decide +kernel
theorem dX11_feed_1 : decode cX11_feed 1 = .ok (.iconst 0, 1) := by decide +kernel
theorem dX11_feed_2 : decode cX11_feed 2 = .ok (.putfield 152, 3) := by decide +kernel
theorem dX11_feed_5 : decode cX11_feed 5 = .ok (.aload_n 0, 1) := by decide +kernel
theorem dX11_feed_6 : decode cX11_feed 6 = .ok (.getfield 243, 3) := by decide +kernel
theorem dX11_feed_9 : decode cX11_feed 9 = .ok (.bipush 20, 2) := by decide +kernel
theorem dX11_feed_11 : decode cX11_feed 11 = .ok (.iadd, 1) := by decide +kernel
theorem dX11_feed_12 : decode cX11_feed 12 = .ok (.sipush 400, 3) := by decide +kernel
theorem dX11_feed_15 : decode cX11_feed 15 = .ok (.if_icmp .le 5, 3) := by decide +kernel
theorem dX11_feed_18 : decode cX11_feed 18 = .ok (.iconst (-1), 1) := by decide +kernel
theorem dX11_feed_19 : decode cX11_feed 19 = .ok (.ireturn, 1) := by decide +kernel
theorem dX11_feed_20 : decode cX11_feed 20 = .ok (.aload_n 0, 1) := by decide +kernel
theorem dX11_feed_21 : decode cX11_feed 21 = .ok (.iload_n 1, 1) := by decide +kernel
theorem dX11_feed_22 : decode cX11_feed 22 = .ok (.invokevirtual 252, 3) := by decide +kernel
theorem dX11_feed_25 : decode cX11_feed 25 = .ok (.aload_n 0, 1) := by decide +kernel
theorem dX11_feed_26 : decode cX11_feed 26 = .ok (.iload_n 2, 1) := by decide +kernel
theorem dX11_feed_27 : decode cX11_feed 27 = .ok (.invokevirtual 252, 3) := by decide +kernel
theorem dX11_feed_30 : decode cX11_feed 30 = .ok (.aload_n 0, 1) := by decide +kernel
theorem dX11_feed_31 : decode cX11_feed 31 = .ok (.iload_n 3, 1) := by decide +kernel
theorem dX11_feed_32 : decode cX11_feed 32 = .ok (.invokevirtual 252, 3) := by decide +kernel
theorem dX11_feed_35 : decode cX11_feed 35 = .ok (.aload_n 0, 1) := by decide +kernel
theorem dX11_feed_36 : decode cX11_feed 36 = .ok (.iload 4, 2) := by decide +kernel
theorem dX11_feed_38 : decode cX11_feed 38 = .ok (.invokevirtual 252, 3) := by decide +kernel
theorem dX11_feed_41 : decode cX11_feed 41 = .ok (.aload_n 0, 1) := by decide +kernel
theorem dX11_feed_42 : decode cX11_feed 42 = .ok (.iload 5, 2) := by decide +kernel
theorem dX11_feed_44 : decode cX11_feed 44 = .ok (.invokevirtual 252, 3) := by decide +kernel
theorem dX11_feed_47 : decode cX11_feed 47 = .ok (.aload_n 0, 1) := by decide +kernel
theorem dX11_feed_48 : decode cX11_feed 48 = .ok (.getfield 243, 3) := by decide +kernel
theorem dX11_feed_51 : decode cX11_feed 51 = .ok (.ireturn, 1) := by decide +kernel
theorem dX11_end_0 : decode cX11_end 0 = .ok (.aload_n 0, 1) := by decide +kernel
theorem dX11_end_1 : decode cX11_end 1 = .ok (.iconst 0, 1) := by decide +kernel
theorem dX11_end_2 : decode cX11_end 2 = .ok (.putfield 152, 3) := by decide +kernel
theorem dX11_end_5 : decode cX11_end 5 = .ok (.iload_n 1, 1) := by decide +kernel
theorem dX11_end_6 : decode cX11_end 6 = .ok (.ifCond .lt 11, 3) := by decide +kernel
theorem dX11_end_9 : decode cX11_end 9 = .ok (.iload_n 1, 1) := by decide +kernel
theorem dX11_end_10 : decode cX11_end 10 = .ok (.aload_n 0, 1) := by decide +kernel
theorem dX11_end_11 : decode cX11_end 11 = .ok (.getfield 243, 3) := by decide +kernel
theorem dX11_end_14 : decode cX11_end 14 = .ok (.if_icmp .le 5, 3) := by decide +kernel
theorem dX11_end_17 : decode cX11_end 17 = .ok (.iconst (-1), 1) := by decide +kernel
theorem dX11_end_18 : decode cX11_end 18 = .ok (.ireturn, 1) := by decide +kernel
theorem dX11_end_19 : decode cX11_end 19 = .ok (.aload_n 0, 1) := by decide +kernel
theorem dX11_end_20 : decode cX11_end 20 = .ok (.iload_n 1, 1) := by decide +kernel
theorem dX11_end_21 : decode cX11_end 21 = .ok (.putfield 243, 3) := by decide +kernel
theorem dX11_end_24 : decode cX11_end 24 = .ok (.iload_n 1, 1) := by decide +kernel
theorem dX11_end_25 : decode cX11_end 25 = .ok (.ireturn, 1) := by decide +kernel
theorem dX11_isSmall_0 : decode cX11_isSmall 0 = .ok (.iload_n 0, 1) := by decide +kernel
theorem dX11_isSmall_1 : decode cX11_isSmall 1 = .ok (.bipush 97, 2) := by decide +kernel
theorem dX11_isSmall_3 : decode cX11_isSmall 3 = .ok (.if_icmp .lt 13, 3) := by decide +kernel
theorem dX11_isSmall_6 : decode cX11_isSmall 6 = .ok (.iload_n 0, 1) := by decide +kernel
theorem dX11_isSmall_7 : decode cX11_isSmall 7 = .ok (.bipush 122, 2) := by decide +kernel
theorem dX11_isSmall_9 : decode cX11_isSmall 9 = .ok (.if_icmp .gt 7, 3) := by decide +kernel
theorem dX11_isSmall_12 : decode cX11_isSmall 12 = .ok (.iconst 1, 1) := by decide +kernel
theorem dX11_isSmall_13 : decode cX11_isSmall 13 = .ok (.goto 4, 3) := by decide +kernel
theorem dX11_isSmall_16 : decode cX11_isSmall 16 = .ok (.iconst 0, 1) := by decide +kernel
theorem dX11_isSmall_17 : decode cX11_isSmall 17 = .ok (.ireturn, 1) := by decide +kernel
theorem dX11_isDigit_0 : decode cX11_isDigit 0 = .ok (.iload_n 0, 1) := by decide +kernel
theorem dX11_isDigit_1 : decode cX11_isDigit 1 = .ok (.bipush 48, 2) := by decide +kernel
theorem dX11_isDigit_3 : decode cX11_isDigit 3 = .ok (.if_icmp .lt 13, 3) := by decide +kernel
theorem dX11_isDigit_6 : decode cX11_isDigit 6 = .ok (.iload_n 0, 1) := by decide +kernel
theorem dX11_isDigit_7 : decode cX11_isDigit 7 = .ok (.bipush 57, 2) := by decide +kernel
theorem dX11_isDigit_9 : decode cX11_isDigit 9 = .ok (.if_icmp .gt 7, 3) := by decide +kernel
theorem dX11_isDigit_12 : decode cX11_isDigit 12 = .ok (.iconst 1, 1) := by decide +kernel
theorem dX11_isDigit_13 : decode cX11_isDigit 13 = .ok (.goto 4, 3) := by decide +kernel
theorem dX11_isDigit_16 : decode cX11_isDigit 16 = .ok (.iconst 0, 1) := by decide +kernel
theorem dX11_isDigit_17 : decode cX11_isDigit 17 = .ok (.ireturn, 1) := by decide +kernel
theorem dX11_begin_0 : decode cX11_begin 0 = .ok (.aload_n 0, 1) := by decide +kernel
theorem dX11_begin_1 : decode cX11_begin 1 = .ok (.iconst 0, 1) := by decide +kernel
theorem dX11_begin_2 : decode cX11_begin 2 = .ok (.putfield 255, 3) := by decide +kernel
theorem dX11_begin_5 : decode cX11_begin 5 = .ok (.aload_n 0, 1) := by decide +kernel
theorem dX11_begin_6 : decode cX11_begin 6 = .ok (.iconst 0, 1) := by decide +kernel
theorem dX11_begin_7 : decode cX11_begin 7 = .ok (.putfield 258, 3) := by decide +kernel
theorem dX11_begin_10 : decode cX11_begin 10 = .ok (.aload_n 0, 1) := by decide +kernel
theorem dX11_begin_11 : decode cX11_begin 11 = .ok (.iconst (-1), 1) := by decide +kernel
theorem dX11_begin_12 : decode cX11_begin 12 = .ok (.putfield 38, 3) := by decide +kernel
theorem dX11_begin_15 : decode cX11_begin 15 = .ok (.aload_n 0, 1) := by decide +kernel
theorem dX11_begin_16 : decode cX11_begin 16 = .ok (.invokevirtual 262, 3) := by decide +kernel
theorem dX11_begin_19 : decode cX11_begin 19 = .ok (.return_, 1) := by decide +kernel
theorem dX11_next_0 : decode cX11_next 0 = .ok (.aload_n 0, 1) := by decide +kernel
theorem dX11_next_1 : decode cX11_next 1 = .ok (.aload_n 0, 1) := by decide +kernel
theorem dX11_next_2 : decode cX11_next 2 = .ok (.getfield 255, 3) := by decide +kernel
theorem dX11_next_5 : decode cX11_next 5 = .ok (.putfield 265, 3) := by decide +kernel
theorem dX11_next_8 : decode cX11_next 8 = .ok (.aload_n 0, 1) := by decide +kernel
theorem dX11_next_9 : decode cX11_next 9 = .ok (.getfield 265, 3) := by decide +kernel
theorem dX11_next_12 : decode cX11_next 12 = .ok (.aload_n 0, 1) := by decide +kernel
theorem dX11_next_13 : decode cX11_next 13 = .ok (.getfield 243, 3) := by decide +kernel
theorem dX11_next_16 : decode cX11_next 16 = .ok (.if_icmp .ge 30, 3) := by decide +kernel
theorem dX11_next_19 : decode cX11_next 19 = .ok (.aload_n 0, 1) := by decide +kernel
theorem dX11_next_20 : decode cX11_next 20 = .ok (.getfield 35, 3) := by decide +kernel
theorem dX11_next_23 : decode cX11_next 23 = .ok (.aload_n 0, 1) := by decide +kernel
theorem dX11_next_24 : decode cX11_next 24 = .ok (.getfield 265, 3) := by decide +kernel
theorem dX11_next_27 : decode cX11_next 27 = .ok (.iaload, 1) := by decide +kernel
theorem dX11_next_28 : decode cX11_next 28 = .ok (.bipush 32, 2) := by decide +kernel
theorem dX11_next_30 : decode cX11_next 30 = .ok (.if_icmp .ne 16, 3) := by decide +kernel
theorem dX11_next_33 : decode cX11_next 33 = .ok (.aload_n 0, 1) := by decide +kernel
theorem dX11_next_34 : decode cX11_next 34 = .ok (.dup, 1) := by decide +kernel
theorem dX11_next_35 : decode cX11_next 35 = .ok (.getfield 265, 3) := by decide +kernel
theorem dX11_next_38 : decode cX11_next 38 = .ok (.iconst 1, 1) := by decide +kernel
theorem dX11_next_39 : decode cX11_next 39 = .ok (.iadd, 1) := by decide +kernel
theorem dX11_next_40 : decode cX11_next 40 = .ok (.putfield 265, 3) := by decide +kernel
theorem dX11_next_43 : decode cX11_next 43 = .ok (.goto (-35), 3) := by decide +kernel
theorem dX11_next_46 : decode cX11_next 46 = .ok (.aload_n 0, 1) := by decide +kernel
theorem dX11_next_47 : decode cX11_next 47 = .ok (.aload_n 0, 1) := by decide +kernel
theorem dX11_next_48 : decode cX11_next 48 = .ok (.getfield 265, 3) := by decide +kernel
theorem dX11_next_51 : decode cX11_next 51 = .ok (.putfield 255, 3) := by decide +kernel
theorem dX11_next_54 : decode cX11_next 54 = .ok (.aload_n 0, 1) := by decide +kernel
theorem dX11_next_55 : decode cX11_next 55 = .ok (.lconst 0, 1) := by decide +kernel
theorem dX11_next_56 : decode cX11_next 56 = .ok (.putfield 268, 3) := by decide +kernel
theorem dX11_next_59 : decode cX11_next 59 = .ok (.aload_n 0, 1) := by decide +kernel
theorem dX11_next_60 : decode cX11_next 60 = .ok (.aload_n 0, 1) := by decide +kernel
theorem dX11_next_61 : decode cX11_next 61 = .ok (.getfield 265, 3) := by decide +kernel
theorem dX11_next_64 : decode cX11_next 64 = .ok (.aload_n 0, 1) := by decide +kernel
theorem dX11_next_65 : decode cX11_next 65 = .ok (.getfield 243, 3) := by decide +kernel
theorem dX11_next_68 : decode cX11_next 68 = .ok (.if_icmp .ne 7, 3) := by decide +kernel
theorem dX11_next_71 : decode cX11_next 71 = .ok (.iconst 0, 1) := by decide +kernel
theorem dX11_next_72 : decode cX11_next 72 = .ok (.goto 42, 3) := by decide +kernel
theorem dX11_next_75 : decode cX11_next 75 = .ok (.aload_n 0, 1) := by decide +kernel
theorem dX11_next_76 : decode cX11_next 76 = .ok (.getfield 35, 3) := by decide +kernel
theorem dX11_next_79 : decode cX11_next 79 = .ok (.aload_n 0, 1) := by decide +kernel
theorem dX11_next_80 : decode cX11_next 80 = .ok (.getfield 265, 3) := by decide +kernel
theorem dX11_next_83 : decode cX11_next 83 = .ok (.iaload, 1) := by decide +kernel
theorem dX11_next_84 : decode cX11_next 84 = .ok (.invokestatic 272, 3) := by decide +kernel
theorem dX11_next_87 : decode cX11_next 87 = .ok (.ifCond .eq 7, 3) := by decide +kernel
theorem dX11_next_90 : decode cX11_next 90 = .ok (.iconst 1, 1) := by decide +kernel
theorem dX11_next_91 : decode cX11_next 91 = .ok (.goto 23, 3) := by decide +kernel
theorem dX11_next_94 : decode cX11_next 94 = .ok (.aload_n 0, 1) := by decide +kernel
theorem dX11_next_95 : decode cX11_next 95 = .ok (.getfield 35, 3) := by decide +kernel
theorem dX11_next_98 : decode cX11_next 98 = .ok (.aload_n 0, 1) := by decide +kernel
theorem dX11_next_99 : decode cX11_next 99 = .ok (.getfield 265, 3) := by decide +kernel
theorem dX11_next_102 : decode cX11_next 102 = .ok (.iaload, 1) := by decide +kernel
theorem dX11_next_103 : decode cX11_next 103 = .ok (.invokestatic 275, 3) := by decide +kernel
theorem dX11_next_106 : decode cX11_next 106 = .ok (.ifCond .eq 7, 3) := by decide +kernel
theorem dX11_next_109 : decode cX11_next 109 = .ok (.iconst 2, 1) := by decide +kernel
theorem dX11_next_110 : decode cX11_next 110 = .ok (.goto 4, 3) := by decide +kernel
theorem dX11_next_113 : decode cX11_next 113 = .ok (.iconst 3, 1) := by decide +kernel
theorem dX11_next_114 : decode cX11_next 114 = .ok (.putfield 278, 3) := by decide +kernel
theorem dX11_next_117 : decode cX11_next 117 = .ok (.aload_n 0, 1) := by decide +kernel
theorem dX11_next_118 : decode cX11_next 118 = .ok (.getfield 278, 3) := by decide +kernel
theorem dX11_next_121 : decode cX11_next 121 = .ok (.iconst 3, 1) := by decide +kernel
theorem dX11_next_122 : decode cX11_next 122 = .ok (.if_icmp .ne 27, 3) := by decide +kernel
theorem dX11_next_125 : decode cX11_next 125 = .ok (.aload_n 0, 1) := by decide +kernel
theorem dX11_next_126 : decode cX11_next 126 = .ok (.aload_n 0, 1) := by decide +kernel
theorem dX11_next_127 : decode cX11_next 127 = .ok (.getfield 35, 3) := by decide +kernel
theorem dX11_next_130 : decode cX11_next 130 = .ok (.aload_n 0, 1) := by decide +kernel
theorem dX11_next_131 : decode cX11_next 131 = .ok (.getfield 265, 3) := by decide +kernel
theorem dX11_next_134 : decode cX11_next 134 = .ok (.iaload, 1) := by decide +kernel
theorem dX11_next_135 : decode cX11_next 135 = .ok (.i2l, 1) := by decide +kernel
theorem dX11_next_136 : decode cX11_next 136 = .ok (.putfield 268, 3) := by decide +kernel
theorem dX11_next_139 : decode cX11_next 139 = .ok (.aload_n 0, 1) := by decide +kernel
theorem dX11_next_140 : decode cX11_next 140 = .ok (.dup, 1) := by decide +kernel
theorem dX11_next_141 : decode cX11_next 141 = .ok (.getfield 255, 3) := by decide +kernel
theorem dX11_next_144 : decode cX11_next 144 = .ok (.iconst 1, 1) := by decide +kernel
theorem dX11_next_145 : decode cX11_next 145 = .ok (.iadd, 1) := by decide +kernel
theorem dX11_next_146 : decode cX11_next 146 = .ok (.putfield 255, 3) := by decide +kernel
theorem dX11_next_149 : decode cX11_next 149 = .ok (.aload_n 0, 1) := by decide +kernel
theorem dX11_next_150 : decode cX11_next 150 = .ok (.getfield 278, 3) := by decide +kernel
theorem dX11_next_153 : decode cX11_next 153 = .ok (.iconst 1, 1) := by decide +kernel
theorem dX11_next_154 : decode cX11_next 154 = .ok (.if_icmp .ne 89, 3) := by decide +kernel
theorem dX11_next_157 : decode cX11_next 157 = .ok (.aload_n 0, 1) := by decide +kernel
theorem dX11_next_158 : decode cX11_next 158 = .ok (.getfield 255, 3) := by decide +kernel
theorem dX11_next_161 : decode cX11_next 161 = .ok (.aload_n 0, 1) := by decide +kernel
theorem dX11_next_162 : decode cX11_next 162 = .ok (.getfield 243, 3) := by decide +kernel
theorem dX11_next_165 : decode cX11_next 165 = .ok (.if_icmp .ge 78, 3) := by decide +kernel
theorem dX11_next_168 : decode cX11_next 168 = .ok (.aload_n 0, 1) := by decide +kernel
theorem dX11_next_169 : decode cX11_next 169 = .ok (.getfield 35, 3) := by decide +kernel
theorem dX11_next_172 : decode cX11_next 172 = .ok (.aload_n 0, 1) := by decide +kernel
theorem dX11_next_173 : decode cX11_next 173 = .ok (.getfield 255, 3) := by decide +kernel
theorem dX11_next_176 : decode cX11_next 176 = .ok (.iaload, 1) := by decide +kernel
theorem dX11_next_177 : decode cX11_next 177 = .ok (.invokestatic 272, 3) := by decide +kernel
theorem dX11_next_180 : decode cX11_next 180 = .ok (.ifCond .eq 63, 3) := by decide +kernel
theorem dX11_next_183 : decode cX11_next 183 = .ok (.aload_n 0, 1) := by decide +kernel
theorem dX11_next_184 : decode cX11_next 184 = .ok (.aload_n 0, 1) := by decide +kernel
theorem dX11_next_185 : decode cX11_next 185 = .ok (.getfield 255, 3) := by decide +kernel
theorem dX11_next_188 : decode cX11_next 188 = .ok (.aload_n 0, 1) := by decide +kernel
theorem dX11_next_189 : decode cX11_next 189 = .ok (.getfield 265, 3) := by decide +kernel
theorem dX11_next_192 : decode cX11_next 192 = .ok (.isub, 1) := by decide +kernel
theorem dX11_next_193 : decode cX11_next 193 = .ok (.bipush 10, 2) := by decide +kernel
theorem dX11_next_195 : decode cX11_next 195 = .ok (.if_icmp .ge 29, 3) := by decide +kernel
theorem dX11_next_198 : decode cX11_next 198 = .ok (.aload_n 0, 1) := by decide +kernel
theorem dX11_next_199 : decode cX11_next 199 = .ok (.getfield 268, 3) := by decide +kernel
theorem dX11_next_202 : decode cX11_next 202 = .ok (.ldc2_w 281, 3) := by decide +kernel
theorem dX11_next_205 : decode cX11_next 205 = .ok (.lmul, 1) := by decide +kernel
theorem dX11_next_206 : decode cX11_next 206 = .ok (.aload_n 0, 1) := by decide +kernel
theorem dX11_next_207 : decode cX11_next 207 = .ok (.getfield 35, 3) := by decide +kernel
theorem dX11_next_210 : decode cX11_next 210 = .ok (.aload_n 0, 1) := by decide +kernel
theorem dX11_next_211 : decode cX11_next 211 = .ok (.getfield 255, 3) := by decide +kernel
theorem dX11_next_214 : decode cX11_next 214 = .ok (.iaload, 1) := by decide +kernel
theorem dX11_next_215 : decode cX11_next 215 = .ok (.i2l, 1) := by decide +kernel
theorem dX11_next_216 : decode cX11_next 216 = .ok (.ladd, 1) := by decide +kernel
theorem dX11_next_217 : decode cX11_next 217 = .ok (.ldc2_w 283, 3) := by decide +kernel
theorem dX11_next_220 : decode cX11_next 220 = .ok (.lsub, 1) := by decide +kernel
theorem dX11_next_221 : decode cX11_next 221 = .ok (.goto 6, 3) := by decide +kernel
theorem dX11_next_224 : decode cX11_next 224 = .ok (.ldc2_w 179, 3) := by decide +kernel
theorem dX11_next_227 : decode cX11_next 227 = .ok (.putfield 268, 3) := by decide +kernel
theorem dX11_next_230 : decode cX11_next 230 = .ok (.aload_n 0, 1) := by decide +kernel
theorem dX11_next_231 : decode cX11_next 231 = .ok (.dup, 1) := by decide +kernel
theorem dX11_next_232 : decode cX11_next 232 = .ok (.getfield 255, 3) := by decide +kernel
theorem dX11_next_235 : decode cX11_next 235 = .ok (.iconst 1, 1) := by decide +kernel
theorem dX11_next_236 : decode cX11_next 236 = .ok (.iadd, 1) := by decide +kernel
theorem dX11_next_237 : decode cX11_next 237 = .ok (.putfield 255, 3) := by decide +kernel
theorem dX11_next_240 : decode cX11_next 240 = .ok (.goto (-91), 3) := by decide +kernel
theorem dX11_next_243 : decode cX11_next 243 = .ok (.aload_n 0, 1) := by decide +kernel
theorem dX11_next_244 : decode cX11_next 244 = .ok (.getfield 278, 3) := by decide +kernel
theorem dX11_next_247 : decode cX11_next 247 = .ok (.iconst 2, 1) := by decide +kernel
theorem dX11_next_248 : decode cX11_next 248 = .ok (.if_icmp .ne 87, 3) := by decide +kernel
theorem dX11_next_251 : decode cX11_next 251 = .ok (.aload_n 0, 1) := by decide +kernel
theorem dX11_next_252 : decode cX11_next 252 = .ok (.getfield 255, 3) := by decide +kernel
theorem dX11_next_255 : decode cX11_next 255 = .ok (.aload_n 0, 1) := by decide +kernel
theorem dX11_next_256 : decode cX11_next 256 = .ok (.getfield 243, 3) := by decide +kernel
theorem dX11_next_259 : decode cX11_next 259 = .ok (.if_icmp .ge 76, 3) := by decide +kernel
theorem dX11_next_262 : decode cX11_next 262 = .ok (.aload_n 0, 1) := by decide +kernel
theorem dX11_next_263 : decode cX11_next 263 = .ok (.getfield 35, 3) := by decide +kernel
theorem dX11_next_266 : decode cX11_next 266 = .ok (.aload_n 0, 1) := by decide +kernel
theorem dX11_next_267 : decode cX11_next 267 = .ok (.getfield 255, 3) := by decide +kernel
theorem dX11_next_270 : decode cX11_next 270 = .ok (.iaload, 1) := by decide +kernel
theorem dX11_next_271 : decode cX11_next 271 = .ok (.invokestatic 275, 3) := by decide +kernel
theorem dX11_next_274 : decode cX11_next 274 = .ok (.ifCond .eq 61, 3) := by decide +kernel
theorem dX11_next_277 : decode cX11_next 277 = .ok (.aload_n 0, 1) := by decide +kernel
theorem dX11_next_278 : decode cX11_next 278 = .ok (.aload_n 0, 1) := by decide +kernel
theorem dX11_next_279 : decode cX11_next 279 = .ok (.getfield 268, 3) := by decide +kernel
theorem dX11_next_282 : decode cX11_next 282 = .ok (.ldc2_w 285, 3) := by decide +kernel
theorem dX11_next_285 : decode cX11_next 285 = .ok (.lcmp, 1) := by decide +kernel
theorem dX11_next_286 : decode cX11_next 286 = .ok (.ifCond .le 10, 3) := by decide +kernel
theorem dX11_next_289 : decode cX11_next 289 = .ok (.aload_n 0, 1) := by decide +kernel
theorem dX11_next_290 : decode cX11_next 290 = .ok (.getfield 268, 3) := by decide +kernel
theorem dX11_next_293 : decode cX11_next 293 = .ok (.goto 26, 3) := by decide +kernel
theorem dX11_next_296 : decode cX11_next 296 = .ok (.aload_n 0, 1) := by decide +kernel
theorem dX11_next_297 : decode cX11_next 297 = .ok (.getfield 268, 3) := by decide +kernel
theorem dX11_next_300 : decode cX11_next 300 = .ok (.ldc2_w 239, 3) := by decide +kernel
theorem dX11_next_303 : decode cX11_next 303 = .ok (.lmul, 1) := by decide +kernel
theorem dX11_next_304 : decode cX11_next 304 = .ok (.aload_n 0, 1) := by decide +kernel
theorem dX11_next_305 : decode cX11_next 305 = .ok (.getfield 35, 3) := by decide +kernel
theorem dX11_next_308 : decode cX11_next 308 = .ok (.aload_n 0, 1) := by decide +kernel
theorem dX11_next_309 : decode cX11_next 309 = .ok (.getfield 255, 3) := by decide +kernel
theorem dX11_next_312 : decode cX11_next 312 = .ok (.iaload, 1) := by decide +kernel
theorem dX11_next_313 : decode cX11_next 313 = .ok (.i2l, 1) := by decide +kernel
theorem dX11_next_314 : decode cX11_next 314 = .ok (.ladd, 1) := by decide +kernel
theorem dX11_next_315 : decode cX11_next 315 = .ok (.ldc2_w 287, 3) := by decide +kernel
theorem dX11_next_318 : decode cX11_next 318 = .ok (.lsub, 1) := by decide +kernel
theorem dX11_next_319 : decode cX11_next 319 = .ok (.putfield 268, 3) := by decide +kernel
theorem dX11_next_322 : decode cX11_next 322 = .ok (.aload_n 0, 1) := by decide +kernel
theorem dX11_next_323 : decode cX11_next 323 = .ok (.dup, 1) := by decide +kernel
theorem dX11_next_324 : decode cX11_next 324 = .ok (.getfield 255, 3) := by decide +kernel
theorem dX11_next_327 : decode cX11_next 327 = .ok (.iconst 1, 1) := by decide +kernel
theorem dX11_next_328 : decode cX11_next 328 = .ok (.iadd, 1) := by decide +kernel
theorem dX11_next_329 : decode cX11_next 329 = .ok (.putfield 255, 3) := by decide +kernel
theorem dX11_next_332 : decode cX11_next 332 = .ok (.goto (-89), 3) := by decide +kernel
theorem dX11_next_335 : decode cX11_next 335 = .ok (.return_, 1) := by decide +kernel
theorem dX11_isWord_0 : decode cX11_isWord 0 = .ok (.aload_n 0, 1) := by decide +kernel
theorem dX11_isWord_1 : decode cX11_isWord 1 = .ok (.getfield 278, 3) := by decide +kernel
theorem dX11_isWord_4 : decode cX11_isWord 4 = .ok (.iconst 1, 1) := by decide +kernel
theorem dX11_isWord_5 : decode cX11_isWord 5 = .ok (.if_icmp .ne 16, 3) := by decide +kernel
theorem dX11_isWord_8 : decode cX11_isWord 8 = .ok (.aload_n 0, 1) := by decide +kernel
theorem dX11_isWord_9 : decode cX11_isWord 9 = .ok (.getfield 268, 3) := by decide +kernel
theorem dX11_isWord_12 : decode cX11_isWord 12 = .ok (.lload_n 1, 1) := by decide +kernel
theorem dX11_isWord_13 : decode cX11_isWord 13 = .ok (.lcmp, 1) := by decide +kernel
theorem dX11_isWord_14 : decode cX11_isWord 14 = .ok (.ifCond .ne 7, 3) := by decide +kernel
theorem dX11_isWord_17 : decode cX11_isWord 17 = .ok (.iconst 1, 1) := by decide +kernel
theorem dX11_isWord_18 : decode cX11_isWord 18 = .ok (.goto 4, 3) := by decide +kernel
theorem dX11_isWord_21 : decode cX11_isWord 21 = .ok (.iconst 0, 1) := by decide +kernel
theorem dX11_isWord_22 : decode cX11_isWord 22 = .ok (.ireturn, 1) := by decide +kernel
theorem dX11_isSign_0 : decode cX11_isSign 0 = .ok (.aload_n 0, 1) := by decide +kernel
theorem dX11_isSign_1 : decode cX11_isSign 1 = .ok (.getfield 278, 3) := by decide +kernel
theorem dX11_isSign_4 : decode cX11_isSign 4 = .ok (.iconst 3, 1) := by decide +kernel
theorem dX11_isSign_5 : decode cX11_isSign 5 = .ok (.if_icmp .ne 17, 3) := by decide +kernel
theorem dX11_isSign_8 : decode cX11_isSign 8 = .ok (.aload_n 0, 1) := by decide +kernel
theorem dX11_isSign_9 : decode cX11_isSign 9 = .ok (.getfield 268, 3) := by decide +kernel
theorem dX11_isSign_12 : decode cX11_isSign 12 = .ok (.iload_n 1, 1) := by decide +kernel
theorem dX11_isSign_13 : decode cX11_isSign 13 = .ok (.i2l, 1) := by decide +kernel
theorem dX11_isSign_14 : decode cX11_isSign 14 = .ok (.lcmp, 1) := by decide +kernel
theorem dX11_isSign_15 : decode cX11_isSign 15 = .ok (.ifCond .ne 7, 3) := by decide +kernel
theorem dX11_isSign_18 : decode cX11_isSign 18 = .ok (.iconst 1, 1) := by decide +kernel
theorem dX11_isSign_19 : decode cX11_isSign 19 = .ok (.goto 4, 3) := by decide +kernel
theorem dX11_isSign_22 : decode cX11_isSign 22 = .ok (.iconst 0, 1) := by decide +kernel
theorem dX11_isSign_23 : decode cX11_isSign 23 = .ok (.ireturn, 1) := by decide +kernel
theorem dX11_must_0 : decode cX11_must 0 = .ok (.aload_n 0, 1) := by decide +kernel
theorem dX11_must_1 : decode cX11_must 1 = .ok (.getfield 258, 3) := by decide +kernel
theorem dX11_must_4 : decode cX11_must 4 = .ok (.ifCond .ne 20, 3) := by decide +kernel
theorem dX11_must_7 : decode cX11_must 7 = .ok (.iload_n 1, 1) := by decide +kernel
theorem dX11_must_8 : decode cX11_must 8 = .ok (.ifCond .ne 16, 3) := by decide +kernel
theorem dX11_must_11 : decode cX11_must 11 = .ok (.aload_n 0, 1) := by decide +kernel
theorem dX11_must_12 : decode cX11_must 12 = .ok (.iconst 1, 1) := by decide +kernel
theorem dX11_must_13 : decode cX11_must 13 = .ok (.putfield 258, 3) := by decide +kernel
theorem dX11_must_16 : decode cX11_must 16 = .ok (.aload_n 0, 1) := by decide +kernel
theorem dX11_must_17 : decode cX11_must 17 = .ok (.aload_n 0, 1) := by decide +kernel
theorem dX11_must_18 : decode cX11_must 18 = .ok (.getfield 265, 3) := by decide +kernel
theorem dX11_must_21 : decode cX11_must 21 = .ok (.putfield 38, 3) := by decide +kernel
theorem dX11_must_24 : decode cX11_must 24 = .ok (.aload_n 0, 1) := by decide +kernel
theorem dX11_must_25 : decode cX11_must 25 = .ok (.getfield 258, 3) := by decide +kernel
theorem dX11_must_28 : decode cX11_must 28 = .ok (.ifCond .ne 7, 3) := by decide +kernel
theorem dX11_must_31 : decode cX11_must 31 = .ok (.aload_n 0, 1) := by decide +kernel
theorem dX11_must_32 : decode cX11_must 32 = .ok (.invokevirtual 262, 3) := by decide +kernel
theorem dX11_must_35 : decode cX11_must 35 = .ok (.return_, 1) := by decide +kernel
theorem dX11_number_0 : decode cX11_number 0 = .ok (.aload_n 0, 1) := by decide +kernel
theorem dX11_number_1 : decode cX11_number 1 = .ok (.getfield 268, 3) := by decide +kernel
theorem dX11_number_4 : decode cX11_number 4 = .ok (.l2i, 1) := by decide +kernel
theorem dX11_number_5 : decode cX11_number 5 = .ok (.istore 5, 2) := by decide +kernel
theorem dX11_number_7 : decode cX11_number 7 = .ok (.aload_n 0, 1) := by decide +kernel
theorem dX11_number_8 : decode cX11_number 8 = .ok (.aload_n 0, 1) := by decide +kernel
theorem dX11_number_9 : decode cX11_number 9 = .ok (.getfield 278, 3) := by decide +kernel
theorem dX11_number_12 : decode cX11_number 12 = .ok (.iconst 2, 1) := by decide +kernel
theorem dX11_number_13 : decode cX11_number 13 = .ok (.if_icmp .ne 19, 3) := by decide +kernel
theorem dX11_number_16 : decode cX11_number 16 = .ok (.aload_n 0, 1) := by decide +kernel
theorem dX11_number_17 : decode cX11_number 17 = .ok (.getfield 268, 3) := by decide +kernel
theorem dX11_number_20 : decode cX11_number 20 = .ok (.lload_n 1, 1) := by decide +kernel
theorem dX11_number_21 : decode cX11_number 21 = .ok (.lload_n 3, 1) := by decide +kernel
theorem dX11_number_22 : decode cX11_number 22 = .ok (.invokestatic 172, 3) := by decide +kernel
theorem dX11_number_25 : decode cX11_number 25 = .ok (.ifCond .eq 7, 3) := by decide +kernel
theorem dX11_number_28 : decode cX11_number 28 = .ok (.iconst 1, 1) := by decide +kernel
theorem dX11_number_29 : decode cX11_number 29 = .ok (.goto 4, 3) := by decide +kernel
theorem dX11_number_32 : decode cX11_number 32 = .ok (.iconst 0, 1) := by decide +kernel
theorem dX11_number_33 : decode cX11_number 33 = .ok (.invokevirtual 289, 3) := by decide +kernel
theorem dX11_number_36 : decode cX11_number 36 = .ok (.iload 5, 2) := by decide +kernel
theorem dX11_number_38 : decode cX11_number 38 = .ok (.ireturn, 1) := by decide +kernel
theorem dX11_fault_0 : decode cX11_fault 0 = .ok (.aload_n 0, 1) := by decide +kernel
theorem dX11_fault_1 : decode cX11_fault 1 = .ok (.iconst 0, 1) := by decide +kernel
theorem dX11_fault_2 : decode cX11_fault 2 = .ok (.putfield 152, 3) := by decide +kernel
theorem dX11_fault_5 : decode cX11_fault 5 = .ok (.aload_n 0, 1) := by decide +kernel
theorem dX11_fault_6 : decode cX11_fault 6 = .ok (.getfield 38, 3) := by decide +kernel
theorem dX11_fault_9 : decode cX11_fault 9 = .ok (.ireturn, 1) := by decide +kernel
theorem dX11_emit_0 : decode cX11_emit 0 = .ok (.aload_n 0, 1) := by decide +kernel
theorem dX11_emit_1 : decode cX11_emit 1 = .ok (.getfield 45, 3) := by decide +kernel
theorem dX11_emit_4 : decode cX11_emit 4 = .ok (.aload_n 0, 1) := by decide +kernel
theorem dX11_emit_5 : decode cX11_emit 5 = .ok (.getfield 293, 3) := by decide +kernel
theorem dX11_emit_8 : decode cX11_emit 8 = .ok (.iload_n 1, 1) := by decide +kernel
theorem dX11_emit_9 : decode cX11_emit 9 = .ok (.iastore, 1) := by decide +kernel
theorem dX11_emit_10 : decode cX11_emit 10 = .ok (.aload_n 0, 1) := by decide +kernel
theorem dX11_emit_11 : decode cX11_emit 11 = .ok (.getfield 48, 3) := by decide +kernel
theorem dX11_emit_14 : decode cX11_emit 14 = .ok (.aload_n 0, 1) := by decide +kernel
theorem dX11_emit_15 : decode cX11_emit 15 = .ok (.getfield 293, 3) := by decide +kernel
theorem dX11_emit_18 : decode cX11_emit 18 = .ok (.iload_n 2, 1) := by decide +kernel
theorem dX11_emit_19 : decode cX11_emit 19 = .ok (.iastore, 1) := by decide +kernel
theorem dX11_emit_20 : decode cX11_emit 20 = .ok (.aload_n 0, 1) := by decide +kernel
theorem dX11_emit_21 : decode cX11_emit 21 = .ok (.dup, 1) := by decide +kernel
theorem dX11_emit_22 : decode cX11_emit 22 = .ok (.getfield 293, 3) := by decide +kernel
theorem dX11_emit_25 : decode cX11_emit 25 = .ok (.iconst 1, 1) := by decide +kernel
theorem dX11_emit_26 : decode cX11_emit 26 = .ok (.iadd, 1) := by decide +kernel
theorem dX11_emit_27 : decode cX11_emit 27 = .ok (.putfield 293, 3) := by decide +kernel
theorem dX11_emit_30 : decode cX11_emit 30 = .ok (.return_, 1) := by decide +kernel
theorem dX11_push_0 : decode cX11_push 0 = .ok (.aload_n 0, 1) := by decide +kernel
theorem dX11_push_1 : decode cX11_push 1 = .ok (.getfield 51, 3) := by decide +kernel
theorem dX11_push_4 : decode cX11_push 4 = .ok (.aload_n 0, 1) := by decide +kernel
theorem dX11_push_5 : decode cX11_push 5 = .ok (.getfield 296, 3) := by decide +kernel
theorem dX11_push_8 : decode cX11_push 8 = .ok (.iload_n 1, 1) := by decide +kernel
theorem dX11_push_9 : decode cX11_push 9 = .ok (.iastore, 1) := by decide +kernel
theorem dX11_push_10 : decode cX11_push 10 = .ok (.aload_n 0, 1) := by decide +kernel
theorem dX11_push_11 : decode cX11_push 11 = .ok (.getfield 54, 3) := by decide +kernel
theorem dX11_push_14 : decode cX11_push 14 = .ok (.aload_n 0, 1) := by decide +kernel
theorem dX11_push_15 : decode cX11_push 15 = .ok (.getfield 296, 3) := by decide +kernel
theorem dX11_push_18 : decode cX11_push 18 = .ok (.iload_n 2, 1) := by decide +kernel
theorem dX11_push_19 : decode cX11_push 19 = .ok (.iastore, 1) := by decide +kernel
theorem dX11_push_20 : decode cX11_push 20 = .ok (.aload_n 0, 1) := by decide +kernel
theorem dX11_push_21 : decode cX11_push 21 = .ok (.dup, 1) := by decide +kernel
theorem dX11_push_22 : decode cX11_push 22 = .ok (.getfield 296, 3) := by decide +kernel
theorem dX11_push_25 : decode cX11_push 25 = .ok (.iconst 1, 1) := by decide +kernel
theorem dX11_push_26 : decode cX11_push 26 = .ok (.iadd, 1) := by decide +kernel
theorem dX11_push_27 : decode cX11_push 27 = .ok (.putfield 296, 3) := by decide +kernel
theorem dX11_push_30 : decode cX11_push 30 = .ok (.return_, 1) := by decide +kernel
theorem dX11_binds_0 : decode cX11_binds 0 = .ok (.iload_n 0, 1) := by decide +kernel
theorem dX11_binds_1 : decode cX11_binds 1 = .ok (.bipush 31, 2) := by decide +kernel
theorem dX11_binds_3 : decode cX11_binds 3 = .ok (.if_icmp .lt 7, 3) := by decide +kernel
theorem dX11_binds_6 : decode cX11_binds 6 = .ok (.iconst 0, 1) := by decide +kernel
theorem dX11_binds_7 : decode cX11_binds 7 = .ok (.goto 55, 3) := by decide +kernel
theorem dX11_binds_10 : decode cX11_binds 10 = .ok (.iload_n 0, 1) := by decide +kernel
theorem dX11_binds_11 : decode cX11_binds 11 = .ok (.bipush 30, 2) := by decide +kernel
theorem dX11_binds_13 : decode cX11_binds 13 = .ok (.if_icmp .ne 7, 3) := by decide +kernel
theorem dX11_binds_16 : decode cX11_binds 16 = .ok (.iconst 1, 1) := by decide +kernel
theorem dX11_binds_17 : decode cX11_binds 17 = .ok (.goto 45, 3) := by decide +kernel
theorem dX11_binds_20 : decode cX11_binds 20 = .ok (.iload_n 0, 1) := by decide +kernel
theorem dX11_binds_21 : decode cX11_binds 21 = .ok (.bipush 29, 2) := by decide +kernel
theorem dX11_binds_23 : decode cX11_binds 23 = .ok (.if_icmp .ne 7, 3) := by decide +kernel
theorem dX11_binds_26 : decode cX11_binds 26 = .ok (.iconst 2, 1) := by decide +kernel
theorem dX11_binds_27 : decode cX11_binds 27 = .ok (.goto 35, 3) := by decide +kernel
theorem dX11_binds_30 : decode cX11_binds 30 = .ok (.iload_n 0, 1) := by decide +kernel
theorem dX11_binds_31 : decode cX11_binds 31 = .ok (.bipush 28, 2) := by decide +kernel
theorem dX11_binds_33 : decode cX11_binds 33 = .ok (.if_icmp .ne 7, 3) := by decide +kernel
theorem dX11_binds_36 : decode cX11_binds 36 = .ok (.iconst 3, 1) := by decide +kernel
theorem dX11_binds_37 : decode cX11_binds 37 = .ok (.goto 25, 3) := by decide +kernel
theorem dX11_binds_40 : decode cX11_binds 40 = .ok (.iload_n 0, 1) := by decide +kernel
theorem dX11_binds_41 : decode cX11_binds 41 = .ok (.bipush 25, 2) := by decide +kernel
theorem dX11_binds_43 : decode cX11_binds 43 = .ok (.if_icmp .lt 7, 3) := by decide +kernel
theorem dX11_binds_46 : decode cX11_binds 46 = .ok (.iconst 4, 1) := by decide +kernel
theorem dX11_binds_47 : decode cX11_binds 47 = .ok (.goto 15, 3) := by decide +kernel
theorem dX11_binds_50 : decode cX11_binds 50 = .ok (.iload_n 0, 1) := by decide +kernel
theorem dX11_binds_51 : decode cX11_binds 51 = .ok (.bipush 22, 2) := by decide +kernel
theorem dX11_binds_53 : decode cX11_binds 53 = .ok (.if_icmp .lt 8, 3) := by decide +kernel
theorem dX11_binds_56 : decode cX11_binds 56 = .ok (.bipush 6, 2) := by decide +kernel
theorem dX11_binds_58 : decode cX11_binds 58 = .ok (.goto 4, 3) := by decide +kernel
theorem dX11_binds_61 : decode cX11_binds 61 = .ok (.iconst 5, 1) := by decide +kernel
theorem dX11_binds_62 : decode cX11_binds 62 = .ok (.ireturn, 1) := by decide +kernel
theorem dX11_settle_0 : decode cX11_settle 0 = .ok (.aload_n 0, 1) := by decide +kernel
theorem dX11_settle_1 : decode cX11_settle 1 = .ok (.getfield 296, 3) := by decide +kernel
theorem dX11_settle_4 : decode cX11_settle 4 = .ok (.ifCond .le 97, 3) := by decide +kernel
theorem dX11_settle_7 : decode cX11_settle 7 = .ok (.aload_n 0, 1) := by decide +kernel
theorem dX11_settle_8 : decode cX11_settle 8 = .ok (.getfield 51, 3) := by decide +kernel
theorem dX11_settle_11 : decode cX11_settle 11 = .ok (.aload_n 0, 1) := by decide +kernel
theorem dX11_settle_12 : decode cX11_settle 12 = .ok (.getfield 296, 3) := by decide +kernel
theorem dX11_settle_15 : decode cX11_settle 15 = .ok (.iconst 1, 1) := by decide +kernel
theorem dX11_settle_16 : decode cX11_settle 16 = .ok (.isub, 1) := by decide +kernel
theorem dX11_settle_17 : decode cX11_settle 17 = .ok (.iaload, 1) := by decide +kernel
theorem dX11_settle_18 : decode cX11_settle 18 = .ok (.invokestatic 299, 3) := by decide +kernel
theorem dX11_settle_21 : decode cX11_settle 21 = .ok (.iload_n 1, 1) := by decide +kernel
theorem dX11_settle_22 : decode cX11_settle 22 = .ok (.if_icmp .lt 79, 3) := by decide +kernel
theorem dX11_settle_25 : decode cX11_settle 25 = .ok (.aload_n 0, 1) := by decide +kernel
theorem dX11_settle_26 : decode cX11_settle 26 = .ok (.dup, 1) := by decide +kernel
theorem dX11_settle_27 : decode cX11_settle 27 = .ok (.getfield 296, 3) := by decide +kernel
theorem dX11_settle_30 : decode cX11_settle 30 = .ok (.iconst 1, 1) := by decide +kernel
theorem dX11_settle_31 : decode cX11_settle 31 = .ok (.isub, 1) := by decide +kernel
theorem dX11_settle_32 : decode cX11_settle 32 = .ok (.putfield 296, 3) := by decide +kernel
theorem dX11_settle_35 : decode cX11_settle 35 = .ok (.aload_n 0, 1) := by decide +kernel
theorem dX11_settle_36 : decode cX11_settle 36 = .ok (.getfield 51, 3) := by decide +kernel
theorem dX11_settle_39 : decode cX11_settle 39 = .ok (.aload_n 0, 1) := by decide +kernel
theorem dX11_settle_40 : decode cX11_settle 40 = .ok (.getfield 296, 3) := by decide +kernel
theorem dX11_settle_43 : decode cX11_settle 43 = .ok (.iaload, 1) := by decide +kernel
theorem dX11_settle_44 : decode cX11_settle 44 = .ok (.bipush 29, 2) := by decide +kernel
theorem dX11_settle_46 : decode cX11_settle 46 = .ok (.if_icmp .eq 17, 3) := by decide +kernel
theorem dX11_settle_49 : decode cX11_settle 49 = .ok (.aload_n 0, 1) := by decide +kernel
theorem dX11_settle_50 : decode cX11_settle 50 = .ok (.getfield 51, 3) := by decide +kernel
theorem dX11_settle_53 : decode cX11_settle 53 = .ok (.aload_n 0, 1) := by decide +kernel
theorem dX11_settle_54 : decode cX11_settle 54 = .ok (.getfield 296, 3) := by decide +kernel
theorem dX11_settle_57 : decode cX11_settle 57 = .ok (.iaload, 1) := by decide +kernel
theorem dX11_settle_58 : decode cX11_settle 58 = .ok (.bipush 30, 2) := by decide +kernel
theorem dX11_settle_60 : decode cX11_settle 60 = .ok (.if_icmp .ne 24, 3) := by decide +kernel
theorem dX11_settle_63 : decode cX11_settle 63 = .ok (.aload_n 0, 1) := by decide +kernel
theorem dX11_settle_64 : decode cX11_settle 64 = .ok (.getfield 48, 3) := by decide +kernel
theorem dX11_settle_67 : decode cX11_settle 67 = .ok (.aload_n 0, 1) := by decide +kernel
theorem dX11_settle_68 : decode cX11_settle 68 = .ok (.getfield 54, 3) := by decide +kernel
theorem dX11_settle_71 : decode cX11_settle 71 = .ok (.aload_n 0, 1) := by decide +kernel
theorem dX11_settle_72 : decode cX11_settle 72 = .ok (.getfield 296, 3) := by decide +kernel
theorem dX11_settle_75 : decode cX11_settle 75 = .ok (.iaload, 1) := by decide +kernel
theorem dX11_settle_76 : decode cX11_settle 76 = .ok (.aload_n 0, 1) := by decide +kernel
theorem dX11_settle_77 : decode cX11_settle 77 = .ok (.getfield 293, 3) := by decide +kernel
theorem dX11_settle_80 : decode cX11_settle 80 = .ok (.iastore, 1) := by decide +kernel
theorem dX11_settle_81 : decode cX11_settle 81 = .ok (.goto (-81), 3) := by decide +kernel
theorem dX11_settle_84 : decode cX11_settle 84 = .ok (.aload_n 0, 1) := by decide +kernel
theorem dX11_settle_85 : decode cX11_settle 85 = .ok (.aload_n 0, 1) := by decide +kernel
theorem dX11_settle_86 : decode cX11_settle 86 = .ok (.getfield 51, 3) := by decide +kernel
theorem dX11_settle_89 : decode cX11_settle 89 = .ok (.aload_n 0, 1) := by decide +kernel
theorem dX11_settle_90 : decode cX11_settle 90 = .ok (.getfield 296, 3) := by decide +kernel
theorem dX11_settle_93 : decode cX11_settle 93 = .ok (.iaload, 1) := by decide +kernel
theorem dX11_settle_94 : decode cX11_settle 94 = .ok (.iconst 0, 1) := by decide +kernel
theorem dX11_settle_95 : decode cX11_settle 95 = .ok (.invokevirtual 302, 3) := by decide +kernel
theorem dX11_settle_98 : decode cX11_settle 98 = .ok (.goto (-98), 3) := by decide +kernel
theorem dX11_settle_101 : decode cX11_settle 101 = .ok (.return_, 1) := by decide +kernel
theorem dX11_inner_0 : decode cX11_inner 0 = .ok (.iconst (-1), 1) := by decide +kernel
theorem dX11_inner_1 : decode cX11_inner 1 = .ok (.istore_n 1, 1) := by decide +kernel
theorem dX11_inner_2 : decode cX11_inner 2 = .ok (.iconst 0, 1) := by decide +kernel
theorem dX11_inner_3 : decode cX11_inner 3 = .ok (.istore_n 2, 1) := by decide +kernel
theorem dX11_inner_4 : decode cX11_inner 4 = .ok (.iload_n 2, 1) := by decide +kernel
theorem dX11_inner_5 : decode cX11_inner 5 = .ok (.aload_n 0, 1) := by decide +kernel
theorem dX11_inner_6 : decode cX11_inner 6 = .ok (.getfield 296, 3) := by decide +kernel
theorem dX11_inner_9 : decode cX11_inner 9 = .ok (.if_icmp .ge 31, 3) := by decide +kernel
theorem dX11_inner_12 : decode cX11_inner 12 = .ok (.aload_n 0, 1) := by decide +kernel
theorem dX11_inner_13 : decode cX11_inner 13 = .ok (.getfield 51, 3) := by decide +kernel
theorem dX11_inner_16 : decode cX11_inner 16 = .ok (.iload_n 2, 1) := by decide +kernel
theorem dX11_inner_17 : decode cX11_inner 17 = .ok (.iaload, 1) := by decide +kernel
theorem dX11_inner_18 : decode cX11_inner 18 = .ok (.bipush 31, 2) := by decide +kernel
theorem dX11_inner_20 : decode cX11_inner 20 = .ok (.if_icmp .lt 12, 3) := by decide +kernel
theorem dX11_inner_23 : decode cX11_inner 23 = .ok (.aload_n 0, 1) := by decide +kernel
theorem dX11_inner_24 : decode cX11_inner 24 = .ok (.getfield 51, 3) := by decide +kernel
theorem dX11_inner_27 : decode cX11_inner 27 = .ok (.iload_n 2, 1) := by decide +kernel
theorem dX11_inner_28 : decode cX11_inner 28 = .ok (.iaload, 1) := by decide +kernel
theorem dX11_inner_29 : decode cX11_inner 29 = .ok (.goto 4, 3) := by decide +kernel
theorem dX11_inner_32 : decode cX11_inner 32 = .ok (.iload_n 1, 1) := by decide +kernel
theorem dX11_inner_33 : decode cX11_inner 33 = .ok (.istore_n 1, 1) := by decide +kernel
theorem dX11_inner_34 : decode cX11_inner 34 = .ok (.iinc 2 1, 3) := by decide +kernel
theorem dX11_inner_37 : decode cX11_inner 37 = .ok (.goto (-33), 3) := by decide +kernel
theorem dX11_inner_40 : decode cX11_inner 40 = .ok (.iload_n 1, 1) := by decide +kernel
theorem dX11_inner_41 : decode cX11_inner 41 = .ok (.ireturn, 1) := by decide +kernel
theorem dX11_isCompared_0 : decode cX11_isCompared 0 = .ok (.aload_n 0, 1) := by decide +kernel
theorem dX11_isCompared_1 : decode cX11_isCompared 1 = .ok (.getfield 296, 3) := by decide +kernel
theorem dX11_isCompared_4 : decode cX11_isCompared 4 = .ok (.iconst 1, 1) := by decide +kernel
theorem dX11_isCompared_5 : decode cX11_isCompared 5 = .ok (.isub, 1) := by decide +kernel
theorem dX11_isCompared_6 : decode cX11_isCompared 6 = .ok (.istore_n 1, 1) := by decide +kernel
theorem dX11_isCompared_7 : decode cX11_isCompared 7 = .ok (.iload_n 1, 1) := by decide +kernel
theorem dX11_isCompared_8 : decode cX11_isCompared 8 = .ok (.ifCond .lt 28, 3) := by decide +kernel
theorem dX11_isCompared_11 : decode cX11_isCompared 11 = .ok (.aload_n 0, 1) := by decide +kernel
theorem dX11_isCompared_12 : decode cX11_isCompared 12 = .ok (.getfield 51, 3) := by decide +kernel
theorem dX11_isCompared_15 : decode cX11_isCompared 15 = .ok (.iload_n 1, 1) := by decide +kernel
theorem dX11_isCompared_16 : decode cX11_isCompared 16 = .ok (.iaload, 1) := by decide +kernel
theorem dX11_isCompared_17 : decode cX11_isCompared 17 = .ok (.i2l, 1) := by decide +kernel
theorem dX11_isCompared_18 : decode cX11_isCompared 18 = .ok (.ldc2_w 208, 3) := by decide +kernel
theorem dX11_isCompared_21 : decode cX11_isCompared 21 = .ok (.ldc2_w 306, 3) := by decide +kernel
theorem dX11_isCompared_24 : decode cX11_isCompared 24 = .ok (.invokestatic 172, 3) := by decide +kernel
theorem dX11_isCompared_27 : decode cX11_isCompared 27 = .ok (.ifCond .eq 9, 3) := by decide +kernel
theorem dX11_isCompared_30 : decode cX11_isCompared 30 = .ok (.iinc 1 (-1), 3) := by decide +kernel
theorem dX11_isCompared_33 : decode cX11_isCompared 33 = .ok (.goto (-26), 3) := by decide +kernel
theorem dX11_isCompared_36 : decode cX11_isCompared 36 = .ok (.iload_n 1, 1) := by decide +kernel
theorem dX11_isCompared_37 : decode cX11_isCompared 37 = .ok (.ifCond .lt 26, 3) := by decide +kernel
theorem dX11_isCompared_40 : decode cX11_isCompared 40 = .ok (.aload_n 0, 1) := by decide +kernel
theorem dX11_isCompared_41 : decode cX11_isCompared 41 = .ok (.getfield 51, 3) := by decide +kernel
theorem dX11_isCompared_44 : decode cX11_isCompared 44 = .ok (.iload_n 1, 1) := by decide +kernel
theorem dX11_isCompared_45 : decode cX11_isCompared 45 = .ok (.iaload, 1) := by decide +kernel
theorem dX11_isCompared_46 : decode cX11_isCompared 46 = .ok (.i2l, 1) := by decide +kernel
theorem dX11_isCompared_47 : decode cX11_isCompared 47 = .ok (.ldc2_w 308, 3) := by decide +kernel
theorem dX11_isCompared_50 : decode cX11_isCompared 50 = .ok (.ldc2_w 310, 3) := by decide +kernel
theorem dX11_isCompared_53 : decode cX11_isCompared 53 = .ok (.invokestatic 172, 3) := by decide +kernel
theorem dX11_isCompared_56 : decode cX11_isCompared 56 = .ok (.ifCond .eq 7, 3) := by decide +kernel
theorem dX11_isCompared_59 : decode cX11_isCompared 59 = .ok (.iconst 1, 1) := by decide +kernel
theorem dX11_isCompared_60 : decode cX11_isCompared 60 = .ok (.goto 4, 3) := by decide +kernel
theorem dX11_isCompared_63 : decode cX11_isCompared 63 = .ok (.iconst 0, 1) := by decide +kernel
theorem dX11_isCompared_64 : decode cX11_isCompared 64 = .ok (.ireturn, 1) := by decide +kernel
theorem dX11_partAt_0 : decode cX11_partAt 0 = .ok (.iconst (-1), 1) := by decide +kernel
theorem dX11_partAt_1 : decode cX11_partAt 1 = .ok (.istore_n 1, 1) := by decide +kernel
theorem dX11_partAt_2 : decode cX11_partAt 2 = .ok (.iconst 0, 1) := by decide +kernel
theorem dX11_partAt_3 : decode cX11_partAt 3 = .ok (.istore_n 2, 1) := by decide +kernel
theorem dX11_partAt_4 : decode cX11_partAt 4 = .ok (.iload_n 2, 1) := by decide +kernel
theorem dX11_partAt_5 : decode cX11_partAt 5 = .ok (.bipush 9, 2) := by decide +kernel
theorem dX11_partAt_7 : decode cX11_partAt 7 = .ok (.if_icmp .ge 30, 3) := by decide +kernel
theorem dX11_partAt_10 : decode cX11_partAt 10 = .ok (.aload_n 0, 1) := by decide +kernel
theorem dX11_partAt_11 : decode cX11_partAt 11 = .ok (.aload_n 0, 1) := by decide +kernel
theorem dX11_partAt_12 : decode cX11_partAt 12 = .ok (.getfield 75, 3) := by decide +kernel
theorem dX11_partAt_15 : decode cX11_partAt 15 = .ok (.iload_n 2, 1) := by decide +kernel
theorem dX11_partAt_16 : decode cX11_partAt 16 = .ok (.laload, 1) := by decide +kernel
theorem dX11_partAt_17 : decode cX11_partAt 17 = .ok (.invokevirtual 312, 3) := by decide +kernel
theorem dX11_partAt_20 : decode cX11_partAt 20 = .ok (.ifCond .eq 9, 3) := by decide +kernel
theorem dX11_partAt_23 : decode cX11_partAt 23 = .ok (.iload_n 2, 1) := by decide +kernel
theorem dX11_partAt_24 : decode cX11_partAt 24 = .ok (.iconst 1, 1) := by decide +kernel
theorem dX11_partAt_25 : decode cX11_partAt 25 = .ok (.iadd, 1) := by decide +kernel
theorem dX11_partAt_26 : decode cX11_partAt 26 = .ok (.goto 4, 3) := by decide +kernel
theorem dX11_partAt_29 : decode cX11_partAt 29 = .ok (.iload_n 1, 1) := by decide +kernel
theorem dX11_partAt_30 : decode cX11_partAt 30 = .ok (.istore_n 1, 1) := by decide +kernel
theorem dX11_partAt_31 : decode cX11_partAt 31 = .ok (.iinc 2 1, 3) := by decide +kernel
theorem dX11_partAt_34 : decode cX11_partAt 34 = .ok (.goto (-30), 3) := by decide +kernel
theorem dX11_partAt_37 : decode cX11_partAt 37 = .ok (.iload_n 1, 1) := by decide +kernel
theorem dX11_partAt_38 : decode cX11_partAt 38 = .ok (.ireturn, 1) := by decide +kernel
theorem dX11_orderPartAt_0 : decode cX11_orderPartAt 0 = .ok (.iconst (-1), 1) := by decide +kernel
theorem dX11_orderPartAt_1 : decode cX11_orderPartAt 1 = .ok (.istore_n 1, 1) := by decide +kernel
theorem dX11_orderPartAt_2 : decode cX11_orderPartAt 2 = .ok (.iconst 0, 1) := by decide +kernel
theorem dX11_orderPartAt_3 : decode cX11_orderPartAt 3 = .ok (.istore_n 2, 1) := by decide +kernel
theorem dX11_orderPartAt_4 : decode cX11_orderPartAt 4 = .ok (.iload_n 2, 1) := by decide +kernel
theorem dX11_orderPartAt_5 : decode cX11_orderPartAt 5 = .ok (.bipush 7, 2) := by decide +kernel
theorem dX11_orderPartAt_7 : decode cX11_orderPartAt 7 = .ok (.if_icmp .ge 30, 3) := by decide +kernel
theorem dX11_orderPartAt_10 : decode cX11_orderPartAt 10 = .ok (.aload_n 0, 1) := by decide +kernel
theorem dX11_orderPartAt_11 : decode cX11_orderPartAt 11 = .ok (.aload_n 0, 1) := by decide +kernel
theorem dX11_orderPartAt_12 : decode cX11_orderPartAt 12 = .ok (.getfield 87, 3) := by decide +kernel
theorem dX11_orderPartAt_15 : decode cX11_orderPartAt 15 = .ok (.iload_n 2, 1) := by decide +kernel
theorem dX11_orderPartAt_16 : decode cX11_orderPartAt 16 = .ok (.laload, 1) := by decide +kernel
theorem dX11_orderPartAt_17 : decode cX11_orderPartAt 17 = .ok (.invokevirtual 312, 3) := by decide +kernel
theorem dX11_orderPartAt_20 : decode cX11_orderPartAt 20 = .ok (.ifCond .eq 9, 3) := by decide +kernel
theorem dX11_orderPartAt_23 : decode cX11_orderPartAt 23 = .ok (.iload_n 2, 1) := by decide +kernel
theorem dX11_orderPartAt_24 : decode cX11_orderPartAt 24 = .ok (.iconst 1, 1) := by decide +kernel
theorem dX11_orderPartAt_25 : decode cX11_orderPartAt 25 = .ok (.iadd, 1) := by decide +kernel
theorem dX11_orderPartAt_26 : decode cX11_orderPartAt 26 = .ok (.goto 4, 3) := by decide +kernel
theorem dX11_orderPartAt_29 : decode cX11_orderPartAt 29 = .ok (.iload_n 1, 1) := by decide +kernel
theorem dX11_orderPartAt_30 : decode cX11_orderPartAt 30 = .ok (.istore_n 1, 1) := by decide +kernel
theorem dX11_orderPartAt_31 : decode cX11_orderPartAt 31 = .ok (.iinc 2 1, 3) := by decide +kernel
theorem dX11_orderPartAt_34 : decode cX11_orderPartAt 34 = .ok (.goto (-30), 3) := by decide +kernel
theorem dX11_orderPartAt_37 : decode cX11_orderPartAt 37 = .ok (.iload_n 1, 1) := by decide +kernel
theorem dX11_orderPartAt_38 : decode cX11_orderPartAt 38 = .ok (.ireturn, 1) := by decide +kernel
theorem dX11_openBracket_0 : decode cX11_openBracket 0 = .ok (.aload_n 0, 1) := by decide +kernel
theorem dX11_openBracket_1 : decode cX11_openBracket 1 = .ok (.aload_n 0, 1) := by decide +kernel
theorem dX11_openBracket_2 : decode cX11_openBracket 2 = .ok (.getfield 316, 3) := by decide +kernel
theorem dX11_openBracket_5 : decode cX11_openBracket 5 = .ok (.bipush 8, 2) := by decide +kernel
theorem dX11_openBracket_7 : decode cX11_openBracket 7 = .ok (.if_icmp .ge 7, 3) := by decide +kernel
theorem dX11_openBracket_10 : decode cX11_openBracket 10 = .ok (.iconst 1, 1) := by decide +kernel
theorem dX11_openBracket_11 : decode cX11_openBracket 11 = .ok (.goto 4, 3) := by decide +kernel
theorem dX11_openBracket_14 : decode cX11_openBracket 14 = .ok (.iconst 0, 1) := by decide +kernel
theorem dX11_openBracket_15 : decode cX11_openBracket 15 = .ok (.invokevirtual 289, 3) := by decide +kernel
theorem dX11_openBracket_18 : decode cX11_openBracket 18 = .ok (.aload_n 0, 1) := by decide +kernel
theorem dX11_openBracket_19 : decode cX11_openBracket 19 = .ok (.getfield 258, 3) := by decide +kernel
theorem dX11_openBracket_22 : decode cX11_openBracket 22 = .ok (.ifCond .ne 19, 3) := by decide +kernel
theorem dX11_openBracket_25 : decode cX11_openBracket 25 = .ok (.aload_n 0, 1) := by decide +kernel
theorem dX11_openBracket_26 : decode cX11_openBracket 26 = .ok (.dup, 1) := by decide +kernel
theorem dX11_openBracket_27 : decode cX11_openBracket 27 = .ok (.getfield 316, 3) := by decide +kernel
theorem dX11_openBracket_30 : decode cX11_openBracket 30 = .ok (.iconst 1, 1) := by decide +kernel
theorem dX11_openBracket_31 : decode cX11_openBracket 31 = .ok (.iadd, 1) := by decide +kernel
theorem dX11_openBracket_32 : decode cX11_openBracket 32 = .ok (.putfield 316, 3) := by decide +kernel
theorem dX11_openBracket_35 : decode cX11_openBracket 35 = .ok (.aload_n 0, 1) := by decide +kernel
theorem dX11_openBracket_36 : decode cX11_openBracket 36 = .ok (.iload_n 1, 1) := by decide +kernel
theorem dX11_openBracket_37 : decode cX11_openBracket 37 = .ok (.iconst 0, 1) := by decide +kernel
theorem dX11_openBracket_38 : decode cX11_openBracket 38 = .ok (.invokevirtual 319, 3) := by decide +kernel
theorem dX11_openBracket_41 : decode cX11_openBracket 41 = .ok (.return_, 1) := by decide +kernel
theorem dX11_leaf_0 : decode cX11_leaf 0 = .ok (.aload_n 0, 1) := by decide +kernel
theorem dX11_leaf_1 : decode cX11_leaf 1 = .ok (.iload_n 1, 1) := by decide +kernel
theorem dX11_leaf_2 : decode cX11_leaf 2 = .ok (.ifCond .eq 16, 3) := by decide +kernel
theorem dX11_leaf_5 : decode cX11_leaf 5 = .ok (.aload_n 0, 1) := by decide +kernel
theorem dX11_leaf_6 : decode cX11_leaf 6 = .ok (.getfield 322, 3) := by decide +kernel
theorem dX11_leaf_9 : decode cX11_leaf 9 = .ok (.bipush 50, 2) := by decide +kernel
theorem dX11_leaf_11 : decode cX11_leaf 11 = .ok (.if_icmp .ge 7, 3) := by decide +kernel
theorem dX11_leaf_14 : decode cX11_leaf 14 = .ok (.iconst 1, 1) := by decide +kernel
theorem dX11_leaf_15 : decode cX11_leaf 15 = .ok (.goto 4, 3) := by decide +kernel
theorem dX11_leaf_18 : decode cX11_leaf 18 = .ok (.iconst 0, 1) := by decide +kernel
theorem dX11_leaf_19 : decode cX11_leaf 19 = .ok (.invokevirtual 289, 3) := by decide +kernel
theorem dX11_leaf_22 : decode cX11_leaf 22 = .ok (.aload_n 0, 1) := by decide +kernel
theorem dX11_leaf_23 : decode cX11_leaf 23 = .ok (.getfield 258, 3) := by decide +kernel
theorem dX11_leaf_26 : decode cX11_leaf 26 = .ok (.ifCond .ne 19, 3) := by decide +kernel
theorem dX11_leaf_29 : decode cX11_leaf 29 = .ok (.aload_n 0, 1) := by decide +kernel
theorem dX11_leaf_30 : decode cX11_leaf 30 = .ok (.iload_n 2, 1) := by decide +kernel
theorem dX11_leaf_31 : decode cX11_leaf 31 = .ok (.iload_n 3, 1) := by decide +kernel
theorem dX11_leaf_32 : decode cX11_leaf 32 = .ok (.invokevirtual 302, 3) := by decide +kernel
theorem dX11_leaf_35 : decode cX11_leaf 35 = .ok (.aload_n 0, 1) := by decide +kernel
theorem dX11_leaf_36 : decode cX11_leaf 36 = .ok (.dup, 1) := by decide +kernel
theorem dX11_leaf_37 : decode cX11_leaf 37 = .ok (.getfield 322, 3) := by decide +kernel
theorem dX11_leaf_40 : decode cX11_leaf 40 = .ok (.iconst 1, 1) := by decide +kernel
theorem dX11_leaf_41 : decode cX11_leaf 41 = .ok (.iadd, 1) := by decide +kernel
theorem dX11_leaf_42 : decode cX11_leaf 42 = .ok (.putfield 322, 3) := by decide +kernel
theorem dX11_leaf_45 : decode cX11_leaf 45 = .ok (.return_, 1) := by decide +kernel
theorem dX11_readPart_0 : decode cX11_readPart 0 = .ok (.aload_n 0, 1) := by decide +kernel
theorem dX11_readPart_1 : decode cX11_readPart 1 = .ok (.bipush 91, 2) := by decide +kernel
theorem dX11_readPart_3 : decode cX11_readPart 3 = .ok (.invokevirtual 325, 3) := by decide +kernel
theorem dX11_readPart_6 : decode cX11_readPart 6 = .ok (.ifCond .eq 11, 3) := by decide +kernel
theorem dX11_readPart_9 : decode cX11_readPart 9 = .ok (.aload_n 0, 1) := by decide +kernel
theorem dX11_readPart_10 : decode cX11_readPart 10 = .ok (.bipush 32, 2) := by decide +kernel
theorem dX11_readPart_12 : decode cX11_readPart 12 = .ok (.invokevirtual 328, 3) := by decide +kernel
theorem dX11_readPart_15 : decode cX11_readPart 15 = .ok (.iconst 1, 1) := by decide +kernel
theorem dX11_readPart_16 : decode cX11_readPart 16 = .ok (.ireturn, 1) := by decide +kernel
theorem dX11_readPart_17 : decode cX11_readPart 17 = .ok (.aload_n 0, 1) := by decide +kernel
theorem dX11_readPart_18 : decode cX11_readPart 18 = .ok (.getfield 331, 3) := by decide +kernel
theorem dX11_readPart_21 : decode cX11_readPart 21 = .ok (.ifCond .eq 10, 3) := by decide +kernel
theorem dX11_readPart_24 : decode cX11_readPart 24 = .ok (.aload_n 0, 1) := by decide +kernel
theorem dX11_readPart_25 : decode cX11_readPart 25 = .ok (.invokevirtual 334, 3) := by decide +kernel
theorem dX11_readPart_28 : decode cX11_readPart 28 = .ok (.goto 7, 3) := by decide +kernel
theorem dX11_readPart_31 : decode cX11_readPart 31 = .ok (.aload_n 0, 1) := by decide +kernel
theorem dX11_readPart_32 : decode cX11_readPart 32 = .ok (.invokevirtual 338, 3) := by decide +kernel
theorem dX11_readPart_35 : decode cX11_readPart 35 = .ok (.istore_n 1, 1) := by decide +kernel
theorem dX11_readPart_36 : decode cX11_readPart 36 = .ok (.aload_n 0, 1) := by decide +kernel
theorem dX11_readPart_37 : decode cX11_readPart 37 = .ok (.getfield 278, 3) := by decide +kernel
theorem dX11_readPart_40 : decode cX11_readPart 40 = .ok (.iconst 2, 1) := by decide +kernel
theorem dX11_readPart_41 : decode cX11_readPart 41 = .ok (.if_icmp .ne 18, 3) := by decide +kernel
theorem dX11_readPart_44 : decode cX11_readPart 44 = .ok (.aload_n 0, 1) := by decide +kernel
theorem dX11_readPart_45 : decode cX11_readPart 45 = .ok (.getfield 268, 3) := by decide +kernel
theorem dX11_readPart_48 : decode cX11_readPart 48 = .ok (.ldc2_w 341, 3) := by decide +kernel
theorem dX11_readPart_51 : decode cX11_readPart 51 = .ok (.lcmp, 1) := by decide +kernel
theorem dX11_readPart_52 : decode cX11_readPart 52 = .ok (.ifCond .gt 7, 3) := by decide +kernel
theorem dX11_readPart_55 : decode cX11_readPart 55 = .ok (.iconst 1, 1) := by decide +kernel
theorem dX11_readPart_56 : decode cX11_readPart 56 = .ok (.goto 4, 3) := by decide +kernel
theorem dX11_readPart_59 : decode cX11_readPart 59 = .ok (.iconst 0, 1) := by decide +kernel
theorem dX11_readPart_60 : decode cX11_readPart 60 = .ok (.istore_n 2, 1) := by decide +kernel
theorem dX11_readPart_61 : decode cX11_readPart 61 = .ok (.aload_n 0, 1) := by decide +kernel
theorem dX11_readPart_62 : decode cX11_readPart 62 = .ok (.iload_n 1, 1) := by decide +kernel
theorem dX11_readPart_63 : decode cX11_readPart 63 = .ok (.iconst (-1), 1) := by decide +kernel
theorem dX11_readPart_64 : decode cX11_readPart 64 = .ok (.if_icmp .ne 7, 3) := by decide +kernel
theorem dX11_readPart_67 : decode cX11_readPart 67 = .ok (.iload_n 2, 1) := by decide +kernel
theorem dX11_readPart_68 : decode cX11_readPart 68 = .ok (.ifCond .eq 7, 3) := by decide +kernel
theorem dX11_readPart_71 : decode cX11_readPart 71 = .ok (.iconst 1, 1) := by decide +kernel
theorem dX11_readPart_72 : decode cX11_readPart 72 = .ok (.goto 4, 3) := by decide +kernel
theorem dX11_readPart_75 : decode cX11_readPart 75 = .ok (.iconst 0, 1) := by decide +kernel
theorem dX11_readPart_76 : decode cX11_readPart 76 = .ok (.iload_n 1, 1) := by decide +kernel
theorem dX11_readPart_77 : decode cX11_readPart 77 = .ok (.iconst (-1), 1) := by decide +kernel
theorem dX11_readPart_78 : decode cX11_readPart 78 = .ok (.if_icmp .ne 7, 3) := by decide +kernel
theorem dX11_readPart_81 : decode cX11_readPart 81 = .ok (.iconst 0, 1) := by decide +kernel
theorem dX11_readPart_82 : decode cX11_readPart 82 = .ok (.goto 4, 3) := by decide +kernel
theorem dX11_readPart_85 : decode cX11_readPart 85 = .ok (.iload_n 1, 1) := by decide +kernel
theorem dX11_readPart_86 : decode cX11_readPart 86 = .ok (.iload_n 2, 1) := by decide +kernel
theorem dX11_readPart_87 : decode cX11_readPart 87 = .ok (.ifCond .eq 11, 3) := by decide +kernel
theorem dX11_readPart_90 : decode cX11_readPart 90 = .ok (.aload_n 0, 1) := by decide +kernel
theorem dX11_readPart_91 : decode cX11_readPart 91 = .ok (.getfield 268, 3) := by decide +kernel
theorem dX11_readPart_94 : decode cX11_readPart 94 = .ok (.l2i, 1) := by decide +kernel
theorem dX11_readPart_95 : decode cX11_readPart 95 = .ok (.goto 4, 3) := by decide +kernel
theorem dX11_readPart_98 : decode cX11_readPart 98 = .ok (.iconst 0, 1) := by decide +kernel
theorem dX11_readPart_99 : decode cX11_readPart 99 = .ok (.invokevirtual 343, 3) := by decide +kernel
theorem dX11_readPart_102 : decode cX11_readPart 102 = .ok (.aload_n 0, 1) := by decide +kernel
theorem dX11_readPart_103 : decode cX11_readPart 103 = .ok (.getfield 331, 3) := by decide +kernel
theorem dX11_readPart_106 : decode cX11_readPart 106 = .ok (.ifCond .eq 49, 3) := by decide +kernel
theorem dX11_readPart_109 : decode cX11_readPart 109 = .ok (.iload_n 1, 1) := by decide +kernel
theorem dX11_readPart_110 : decode cX11_readPart 110 = .ok (.bipush 6, 2) := by decide +kernel
theorem dX11_readPart_112 : decode cX11_readPart 112 = .ok (.if_icmp .lt 43, 3) := by decide +kernel
theorem dX11_readPart_115 : decode cX11_readPart 115 = .ok (.aload_n 0, 1) := by decide +kernel
theorem dX11_readPart_116 : decode cX11_readPart 116 = .ok (.getfield 258, 3) := by decide +kernel
theorem dX11_readPart_119 : decode cX11_readPart 119 = .ok (.ifCond .ne 36, 3) := by decide +kernel
theorem dX11_readPart_122 : decode cX11_readPart 122 = .ok (.aload_n 0, 1) := by decide +kernel
theorem dX11_readPart_123 : decode cX11_readPart 123 = .ok (.getfield 293, 3) := by decide +kernel
theorem dX11_readPart_126 : decode cX11_readPart 126 = .ok (.iconst 1, 1) := by decide +kernel
theorem dX11_readPart_127 : decode cX11_readPart 127 = .ok (.isub, 1) := by decide +kernel
theorem dX11_readPart_128 : decode cX11_readPart 128 = .ok (.istore_n 3, 1) := by decide +kernel
theorem dX11_readPart_129 : decode cX11_readPart 129 = .ok (.aload_n 0, 1) := by decide +kernel
theorem dX11_readPart_130 : decode cX11_readPart 130 = .ok (.getfield 48, 3) := by decide +kernel
theorem dX11_readPart_133 : decode cX11_readPart 133 = .ok (.iload_n 3, 1) := by decide +kernel
theorem dX11_readPart_134 : decode cX11_readPart 134 = .ok (.aload_n 0, 1) := by decide +kernel
theorem dX11_readPart_135 : decode cX11_readPart 135 = .ok (.lconst 0, 1) := by decide +kernel
theorem dX11_readPart_136 : decode cX11_readPart 136 = .ok (.iload_n 1, 1) := by decide +kernel
theorem dX11_readPart_137 : decode cX11_readPart 137 = .ok (.bipush 6, 2) := by decide +kernel
theorem dX11_readPart_139 : decode cX11_readPart 139 = .ok (.if_icmp .ne 9, 3) := by decide +kernel
theorem dX11_readPart_142 : decode cX11_readPart 142 = .ok (.ldc2_w 347, 3) := by decide +kernel
theorem dX11_readPart_145 : decode cX11_readPart 145 = .ok (.goto 6, 3) := by decide +kernel
theorem dX11_readPart_148 : decode cX11_readPart 148 = .ok (.ldc2_w 196, 3) := by decide +kernel
theorem dX11_readPart_151 : decode cX11_readPart 151 = .ok (.invokevirtual 349, 3) := by decide +kernel
theorem dX11_readPart_154 : decode cX11_readPart 154 = .ok (.iastore, 1) := by decide +kernel
theorem dX11_readPart_155 : decode cX11_readPart 155 = .ok (.iconst 3, 1) := by decide +kernel
theorem dX11_readPart_156 : decode cX11_readPart 156 = .ok (.ireturn, 1) := by decide +kernel
theorem dX11_readPlain_0 : decode cX11_readPlain 0 = .ok (.aload_n 0, 1) := by decide +kernel
theorem dX11_readPlain_1 : decode cX11_readPlain 1 = .ok (.ldc2_w 353, 3) := by decide +kernel
theorem dX11_readPlain_4 : decode cX11_readPlain 4 = .ok (.invokevirtual 312, 3) := by decide +kernel
theorem dX11_readPlain_7 : decode cX11_readPlain 7 = .ok (.ifCond .eq 16, 3) := by decide +kernel
theorem dX11_readPlain_10 : decode cX11_readPlain 10 = .ok (.aload_n 0, 1) := by decide +kernel
theorem dX11_readPlain_11 : decode cX11_readPlain 11 = .ok (.bipush 28, 2) := by decide +kernel
theorem dX11_readPlain_13 : decode cX11_readPlain 13 = .ok (.iconst 0, 1) := by decide +kernel
theorem dX11_readPlain_14 : decode cX11_readPlain 14 = .ok (.invokevirtual 319, 3) := by decide +kernel
theorem dX11_readPlain_17 : decode cX11_readPlain 17 = .ok (.aload_n 0, 1) := by decide +kernel
theorem dX11_readPlain_18 : decode cX11_readPlain 18 = .ok (.invokevirtual 262, 3) := by decide +kernel
theorem dX11_readPlain_21 : decode cX11_readPlain 21 = .ok (.iconst 0, 1) := by decide +kernel
theorem dX11_readPlain_22 : decode cX11_readPlain 22 = .ok (.ireturn, 1) := by decide +kernel
theorem dX11_readPlain_23 : decode cX11_readPlain 23 = .ok (.aload_n 0, 1) := by decide +kernel
theorem dX11_readPlain_24 : decode cX11_readPlain 24 = .ok (.bipush 40, 2) := by decide +kernel
theorem dX11_readPlain_26 : decode cX11_readPlain 26 = .ok (.invokevirtual 325, 3) := by decide +kernel
theorem dX11_readPlain_29 : decode cX11_readPlain 29 = .ok (.ifCond .eq 11, 3) := by decide +kernel
theorem dX11_readPlain_32 : decode cX11_readPlain 32 = .ok (.aload_n 0, 1) := by decide +kernel
theorem dX11_readPlain_33 : decode cX11_readPlain 33 = .ok (.bipush 31, 2) := by decide +kernel
theorem dX11_readPlain_35 : decode cX11_readPlain 35 = .ok (.invokevirtual 328, 3) := by decide +kernel
theorem dX11_readPlain_38 : decode cX11_readPlain 38 = .ok (.iconst 0, 1) := by decide +kernel
theorem dX11_readPlain_39 : decode cX11_readPlain 39 = .ok (.ireturn, 1) := by decide +kernel
theorem dX11_readPlain_40 : decode cX11_readPlain 40 = .ok (.aload_n 0, 1) := by decide +kernel
theorem dX11_readPlain_41 : decode cX11_readPlain 41 = .ok (.invokevirtual 355, 3) := by decide +kernel
theorem dX11_readPlain_44 : decode cX11_readPlain 44 = .ok (.ireturn, 1) := by decide +kernel
theorem dX11_behindSum_0 : decode cX11_behindSum 0 = .ok (.aload_n 0, 1) := by decide +kernel
theorem dX11_behindSum_1 : decode cX11_behindSum 1 = .ok (.bipush 43, 2) := by decide +kernel
theorem dX11_behindSum_3 : decode cX11_behindSum 3 = .ok (.invokevirtual 325, 3) := by decide +kernel
theorem dX11_behindSum_6 : decode cX11_behindSum 6 = .ok (.ifCond .eq 8, 3) := by decide +kernel
theorem dX11_behindSum_9 : decode cX11_behindSum 9 = .ok (.bipush 20, 2) := by decide +kernel
theorem dX11_behindSum_11 : decode cX11_behindSum 11 = .ok (.goto 60, 3) := by decide +kernel
theorem dX11_behindSum_14 : decode cX11_behindSum 14 = .ok (.aload_n 0, 1) := by decide +kernel
theorem dX11_behindSum_15 : decode cX11_behindSum 15 = .ok (.bipush 45, 2) := by decide +kernel
theorem dX11_behindSum_17 : decode cX11_behindSum 17 = .ok (.invokevirtual 325, 3) := by decide +kernel
theorem dX11_behindSum_20 : decode cX11_behindSum 20 = .ok (.ifCond .eq 8, 3) := by decide +kernel
theorem dX11_behindSum_23 : decode cX11_behindSum 23 = .ok (.bipush 21, 2) := by decide +kernel
theorem dX11_behindSum_25 : decode cX11_behindSum 25 = .ok (.goto 46, 3) := by decide +kernel
theorem dX11_behindSum_28 : decode cX11_behindSum 28 = .ok (.aload_n 0, 1) := by decide +kernel
theorem dX11_behindSum_29 : decode cX11_behindSum 29 = .ok (.bipush 42, 2) := by decide +kernel
theorem dX11_behindSum_31 : decode cX11_behindSum 31 = .ok (.invokevirtual 325, 3) := by decide +kernel
theorem dX11_behindSum_34 : decode cX11_behindSum 34 = .ok (.ifCond .eq 8, 3) := by decide +kernel
theorem dX11_behindSum_37 : decode cX11_behindSum 37 = .ok (.bipush 22, 2) := by decide +kernel
theorem dX11_behindSum_39 : decode cX11_behindSum 39 = .ok (.goto 32, 3) := by decide +kernel
theorem dX11_behindSum_42 : decode cX11_behindSum 42 = .ok (.aload_n 0, 1) := by decide +kernel
theorem dX11_behindSum_43 : decode cX11_behindSum 43 = .ok (.bipush 47, 2) := by decide +kernel
theorem dX11_behindSum_45 : decode cX11_behindSum 45 = .ok (.invokevirtual 325, 3) := by decide +kernel
theorem dX11_behindSum_48 : decode cX11_behindSum 48 = .ok (.ifCond .eq 8, 3) := by decide +kernel
theorem dX11_behindSum_51 : decode cX11_behindSum 51 = .ok (.bipush 23, 2) := by decide +kernel
theorem dX11_behindSum_53 : decode cX11_behindSum 53 = .ok (.goto 18, 3) := by decide +kernel
theorem dX11_behindSum_56 : decode cX11_behindSum 56 = .ok (.aload_n 0, 1) := by decide +kernel
theorem dX11_behindSum_57 : decode cX11_behindSum 57 = .ok (.bipush 37, 2) := by decide +kernel
theorem dX11_behindSum_59 : decode cX11_behindSum 59 = .ok (.invokevirtual 325, 3) := by decide +kernel
theorem dX11_behindSum_62 : decode cX11_behindSum 62 = .ok (.ifCond .eq 8, 3) := by decide +kernel
theorem dX11_behindSum_65 : decode cX11_behindSum 65 = .ok (.bipush 24, 2) := by decide +kernel
theorem dX11_behindSum_67 : decode cX11_behindSum 67 = .ok (.goto 4, 3) := by decide +kernel
theorem dX11_behindSum_70 : decode cX11_behindSum 70 = .ok (.iconst (-1), 1) := by decide +kernel
theorem dX11_behindSum_71 : decode cX11_behindSum 71 = .ok (.istore_n 2, 1) := by decide +kernel
theorem dX11_behindSum_72 : decode cX11_behindSum 72 = .ok (.iload_n 2, 1) := by decide +kernel
theorem dX11_behindSum_73 : decode cX11_behindSum 73 = .ok (.iconst (-1), 1) := by decide +kernel
theorem dX11_behindSum_74 : decode cX11_behindSum 74 = .ok (.if_icmp .eq 23, 3) := by decide +kernel
theorem dX11_behindSum_77 : decode cX11_behindSum 77 = .ok (.aload_n 0, 1) := by decide +kernel
theorem dX11_behindSum_78 : decode cX11_behindSum 78 = .ok (.iload_n 2, 1) := by decide +kernel
theorem dX11_behindSum_79 : decode cX11_behindSum 79 = .ok (.invokestatic 299, 3) := by decide +kernel
theorem dX11_behindSum_82 : decode cX11_behindSum 82 = .ok (.invokevirtual 358, 3) := by decide +kernel
theorem dX11_behindSum_85 : decode cX11_behindSum 85 = .ok (.aload_n 0, 1) := by decide +kernel
theorem dX11_behindSum_86 : decode cX11_behindSum 86 = .ok (.iload_n 2, 1) := by decide +kernel
theorem dX11_behindSum_87 : decode cX11_behindSum 87 = .ok (.iconst 0, 1) := by decide +kernel
theorem dX11_behindSum_88 : decode cX11_behindSum 88 = .ok (.invokevirtual 319, 3) := by decide +kernel
theorem dX11_behindSum_91 : decode cX11_behindSum 91 = .ok (.aload_n 0, 1) := by decide +kernel
theorem dX11_behindSum_92 : decode cX11_behindSum 92 = .ok (.invokevirtual 262, 3) := by decide +kernel
theorem dX11_behindSum_95 : decode cX11_behindSum 95 = .ok (.iconst 1, 1) := by decide +kernel
theorem dX11_behindSum_96 : decode cX11_behindSum 96 = .ok (.ireturn, 1) := by decide +kernel
theorem dX11_behindSum_97 : decode cX11_behindSum 97 = .ok (.aload_n 0, 1) := by decide +kernel
theorem dX11_behindSum_98 : decode cX11_behindSum 98 = .ok (.invokevirtual 361, 3) := by decide +kernel
theorem dX11_behindSum_101 : decode cX11_behindSum 101 = .ok (.istore_n 3, 1) := by decide +kernel
theorem dX11_behindSum_102 : decode cX11_behindSum 102 = .ok (.iload_n 3, 1) := by decide +kernel
theorem dX11_behindSum_103 : decode cX11_behindSum 103 = .ok (.bipush 32, 2) := by decide +kernel
theorem dX11_behindSum_105 : decode cX11_behindSum 105 = .ok (.if_icmp .ne 47, 3) := by decide +kernel
theorem dX11_behindSum_108 : decode cX11_behindSum 108 = .ok (.aload_n 0, 1) := by decide +kernel
theorem dX11_behindSum_109 : decode cX11_behindSum 109 = .ok (.aload_n 0, 1) := by decide +kernel
theorem dX11_behindSum_110 : decode cX11_behindSum 110 = .ok (.bipush 93, 2) := by decide +kernel
theorem dX11_behindSum_112 : decode cX11_behindSum 112 = .ok (.invokevirtual 325, 3) := by decide +kernel
theorem dX11_behindSum_115 : decode cX11_behindSum 115 = .ok (.invokevirtual 289, 3) := by decide +kernel
theorem dX11_behindSum_118 : decode cX11_behindSum 118 = .ok (.aload_n 0, 1) := by decide +kernel
theorem dX11_behindSum_119 : decode cX11_behindSum 119 = .ok (.getfield 258, 3) := by decide +kernel
theorem dX11_behindSum_122 : decode cX11_behindSum 122 = .ok (.ifCond .ne 28, 3) := by decide +kernel
theorem dX11_behindSum_125 : decode cX11_behindSum 125 = .ok (.aload_n 0, 1) := by decide +kernel
theorem dX11_behindSum_126 : decode cX11_behindSum 126 = .ok (.iconst 5, 1) := by decide +kernel
theorem dX11_behindSum_127 : decode cX11_behindSum 127 = .ok (.invokevirtual 358, 3) := by decide +kernel
theorem dX11_behindSum_130 : decode cX11_behindSum 130 = .ok (.aload_n 0, 1) := by decide +kernel
theorem dX11_behindSum_131 : decode cX11_behindSum 131 = .ok (.dup, 1) := by decide +kernel
theorem dX11_behindSum_132 : decode cX11_behindSum 132 = .ok (.getfield 296, 3) := by decide +kernel
theorem dX11_behindSum_135 : decode cX11_behindSum 135 = .ok (.iconst 1, 1) := by decide +kernel
theorem dX11_behindSum_136 : decode cX11_behindSum 136 = .ok (.isub, 1) := by decide +kernel
theorem dX11_behindSum_137 : decode cX11_behindSum 137 = .ok (.putfield 296, 3) := by decide +kernel
theorem dX11_behindSum_140 : decode cX11_behindSum 140 = .ok (.aload_n 0, 1) := by decide +kernel
theorem dX11_behindSum_141 : decode cX11_behindSum 141 = .ok (.dup, 1) := by decide +kernel
theorem dX11_behindSum_142 : decode cX11_behindSum 142 = .ok (.getfield 316, 3) := by decide +kernel
theorem dX11_behindSum_145 : decode cX11_behindSum 145 = .ok (.iconst 1, 1) := by decide +kernel
theorem dX11_behindSum_146 : decode cX11_behindSum 146 = .ok (.isub, 1) := by decide +kernel
theorem dX11_behindSum_147 : decode cX11_behindSum 147 = .ok (.putfield 316, 3) := by decide +kernel
theorem dX11_behindSum_150 : decode cX11_behindSum 150 = .ok (.iconst 3, 1) := by decide +kernel
theorem dX11_behindSum_151 : decode cX11_behindSum 151 = .ok (.ireturn, 1) := by decide +kernel
theorem dX11_behindSum_152 : decode cX11_behindSum 152 = .ok (.iload_n 3, 1) := by decide +kernel
theorem dX11_behindSum_153 : decode cX11_behindSum 153 = .ok (.iconst (-1), 1) := by decide +kernel
theorem dX11_behindSum_154 : decode cX11_behindSum 154 = .ok (.if_icmp .ne 9, 3) := by decide +kernel
theorem dX11_behindSum_157 : decode cX11_behindSum 157 = .ok (.iload_n 1, 1) := by decide +kernel
theorem dX11_behindSum_158 : decode cX11_behindSum 158 = .ok (.ifCond .ne 5, 3) := by decide +kernel
theorem dX11_behindSum_161 : decode cX11_behindSum 161 = .ok (.iconst 4, 1) := by decide +kernel
theorem dX11_behindSum_162 : decode cX11_behindSum 162 = .ok (.ireturn, 1) := by decide +kernel
theorem dX11_behindSum_163 : decode cX11_behindSum 163 = .ok (.aload_n 0, 1) := by decide +kernel
theorem dX11_behindSum_164 : decode cX11_behindSum 164 = .ok (.invokevirtual 364, 3) := by decide +kernel
theorem dX11_behindSum_167 : decode cX11_behindSum 167 = .ok (.ifCond .eq 5, 3) := by decide +kernel
theorem dX11_behindSum_170 : decode cX11_behindSum 170 = .ok (.iconst 2, 1) := by decide +kernel
theorem dX11_behindSum_171 : decode cX11_behindSum 171 = .ok (.ireturn, 1) := by decide +kernel
theorem dX11_behindSum_172 : decode cX11_behindSum 172 = .ok (.aload_n 0, 1) := by decide +kernel
theorem dX11_behindSum_173 : decode cX11_behindSum 173 = .ok (.bipush 60, 2) := by decide +kernel
theorem dX11_behindSum_175 : decode cX11_behindSum 175 = .ok (.invokevirtual 325, 3) := by decide +kernel
theorem dX11_behindSum_178 : decode cX11_behindSum 178 = .ok (.ifCond .eq 8, 3) := by decide +kernel
theorem dX11_behindSum_181 : decode cX11_behindSum 181 = .ok (.bipush 25, 2) := by decide +kernel
theorem dX11_behindSum_183 : decode cX11_behindSum 183 = .ok (.goto 19, 3) := by decide +kernel
theorem dX11_behindSum_186 : decode cX11_behindSum 186 = .ok (.aload_n 0, 1) := by decide +kernel
theorem dX11_behindSum_187 : decode cX11_behindSum 187 = .ok (.bipush 62, 2) := by decide +kernel
theorem dX11_behindSum_189 : decode cX11_behindSum 189 = .ok (.invokevirtual 325, 3) := by decide +kernel
theorem dX11_behindSum_192 : decode cX11_behindSum 192 = .ok (.ifCond .eq 8, 3) := by decide +kernel
theorem dX11_behindSum_195 : decode cX11_behindSum 195 = .ok (.bipush 26, 2) := by decide +kernel
theorem dX11_behindSum_197 : decode cX11_behindSum 197 = .ok (.goto 5, 3) := by decide +kernel
theorem dX11_behindSum_200 : decode cX11_behindSum 200 = .ok (.bipush 27, 2) := by decide +kernel
theorem dX11_behindSum_202 : decode cX11_behindSum 202 = .ok (.istore_n 2, 1) := by decide +kernel
theorem dX11_behindSum_203 : decode cX11_behindSum 203 = .ok (.aload_n 0, 1) := by decide +kernel
theorem dX11_behindSum_204 : decode cX11_behindSum 204 = .ok (.iload_n 2, 1) := by decide +kernel
theorem dX11_behindSum_205 : decode cX11_behindSum 205 = .ok (.bipush 27, 2) := by decide +kernel
theorem dX11_behindSum_207 : decode cX11_behindSum 207 = .ok (.if_icmp .ne 12, 3) := by decide +kernel
theorem dX11_behindSum_210 : decode cX11_behindSum 210 = .ok (.aload_n 0, 1) := by decide +kernel
theorem dX11_behindSum_211 : decode cX11_behindSum 211 = .ok (.bipush 61, 2) := by decide +kernel
theorem dX11_behindSum_213 : decode cX11_behindSum 213 = .ok (.invokevirtual 325, 3) := by decide +kernel
theorem dX11_behindSum_216 : decode cX11_behindSum 216 = .ok (.ifCond .eq 7, 3) := by decide +kernel
theorem dX11_behindSum_219 : decode cX11_behindSum 219 = .ok (.iconst 1, 1) := by decide +kernel
theorem dX11_behindSum_220 : decode cX11_behindSum 220 = .ok (.goto 4, 3) := by decide +kernel
theorem dX11_behindSum_223 : decode cX11_behindSum 223 = .ok (.iconst 0, 1) := by decide +kernel
theorem dX11_behindSum_224 : decode cX11_behindSum 224 = .ok (.invokevirtual 289, 3) := by decide +kernel
theorem dX11_behindSum_227 : decode cX11_behindSum 227 = .ok (.aload_n 0, 1) := by decide +kernel
theorem dX11_behindSum_228 : decode cX11_behindSum 228 = .ok (.getfield 258, 3) := by decide +kernel
theorem dX11_behindSum_231 : decode cX11_behindSum 231 = .ok (.ifCond .ne 14, 3) := by decide +kernel
theorem dX11_behindSum_234 : decode cX11_behindSum 234 = .ok (.aload_n 0, 1) := by decide +kernel
theorem dX11_behindSum_235 : decode cX11_behindSum 235 = .ok (.iconst 5, 1) := by decide +kernel
theorem dX11_behindSum_236 : decode cX11_behindSum 236 = .ok (.invokevirtual 358, 3) := by decide +kernel
theorem dX11_behindSum_239 : decode cX11_behindSum 239 = .ok (.aload_n 0, 1) := by decide +kernel
theorem dX11_behindSum_240 : decode cX11_behindSum 240 = .ok (.iload_n 2, 1) := by decide +kernel
theorem dX11_behindSum_241 : decode cX11_behindSum 241 = .ok (.iconst 0, 1) := by decide +kernel
theorem dX11_behindSum_242 : decode cX11_behindSum 242 = .ok (.invokevirtual 319, 3) := by decide +kernel
theorem dX11_behindSum_245 : decode cX11_behindSum 245 = .ok (.iconst 1, 1) := by decide +kernel
theorem dX11_behindSum_246 : decode cX11_behindSum 246 = .ok (.ireturn, 1) := by decide +kernel
theorem dX11_behindTest_0 : decode cX11_behindTest 0 = .ok (.aload_n 0, 1) := by decide +kernel
theorem dX11_behindTest_1 : decode cX11_behindTest 1 = .ok (.ldc2_w 368, 3) := by decide +kernel
theorem dX11_behindTest_4 : decode cX11_behindTest 4 = .ok (.invokevirtual 312, 3) := by decide +kernel
theorem dX11_behindTest_7 : decode cX11_behindTest 7 = .ok (.istore_n 1, 1) := by decide +kernel
theorem dX11_behindTest_8 : decode cX11_behindTest 8 = .ok (.iload_n 1, 1) := by decide +kernel
theorem dX11_behindTest_9 : decode cX11_behindTest 9 = .ok (.ifCond .ne 13, 3) := by decide +kernel
theorem dX11_behindTest_12 : decode cX11_behindTest 12 = .ok (.aload_n 0, 1) := by decide +kernel
theorem dX11_behindTest_13 : decode cX11_behindTest 13 = .ok (.ldc2_w 370, 3) := by decide +kernel
theorem dX11_behindTest_16 : decode cX11_behindTest 16 = .ok (.invokevirtual 312, 3) := by decide +kernel
theorem dX11_behindTest_19 : decode cX11_behindTest 19 = .ok (.ifCond .eq 57, 3) := by decide +kernel
theorem dX11_behindTest_22 : decode cX11_behindTest 22 = .ok (.aload_n 0, 1) := by decide +kernel
theorem dX11_behindTest_23 : decode cX11_behindTest 23 = .ok (.iload_n 1, 1) := by decide +kernel
theorem dX11_behindTest_24 : decode cX11_behindTest 24 = .ok (.ifCond .eq 7, 3) := by decide +kernel
theorem dX11_behindTest_27 : decode cX11_behindTest 27 = .ok (.iconst 2, 1) := by decide +kernel
theorem dX11_behindTest_28 : decode cX11_behindTest 28 = .ok (.goto 4, 3) := by decide +kernel
theorem dX11_behindTest_31 : decode cX11_behindTest 31 = .ok (.iconst 1, 1) := by decide +kernel
theorem dX11_behindTest_32 : decode cX11_behindTest 32 = .ok (.invokevirtual 358, 3) := by decide +kernel
theorem dX11_behindTest_35 : decode cX11_behindTest 35 = .ok (.aload_n 0, 1) := by decide +kernel
theorem dX11_behindTest_36 : decode cX11_behindTest 36 = .ok (.iload_n 1, 1) := by decide +kernel
theorem dX11_behindTest_37 : decode cX11_behindTest 37 = .ok (.ifCond .eq 8, 3) := by decide +kernel
theorem dX11_behindTest_40 : decode cX11_behindTest 40 = .ok (.bipush 29, 2) := by decide +kernel
theorem dX11_behindTest_42 : decode cX11_behindTest 42 = .ok (.goto 5, 3) := by decide +kernel
theorem dX11_behindTest_45 : decode cX11_behindTest 45 = .ok (.bipush 30, 2) := by decide +kernel
theorem dX11_behindTest_47 : decode cX11_behindTest 47 = .ok (.aload_n 0, 1) := by decide +kernel
theorem dX11_behindTest_48 : decode cX11_behindTest 48 = .ok (.getfield 293, 3) := by decide +kernel
theorem dX11_behindTest_51 : decode cX11_behindTest 51 = .ok (.invokevirtual 319, 3) := by decide +kernel
theorem dX11_behindTest_54 : decode cX11_behindTest 54 = .ok (.aload_n 0, 1) := by decide +kernel
theorem dX11_behindTest_55 : decode cX11_behindTest 55 = .ok (.iload_n 1, 1) := by decide +kernel
theorem dX11_behindTest_56 : decode cX11_behindTest 56 = .ok (.ifCond .eq 8, 3) := by decide +kernel
theorem dX11_behindTest_59 : decode cX11_behindTest 59 = .ok (.bipush 29, 2) := by decide +kernel
theorem dX11_behindTest_61 : decode cX11_behindTest 61 = .ok (.goto 5, 3) := by decide +kernel
theorem dX11_behindTest_64 : decode cX11_behindTest 64 = .ok (.bipush 30, 2) := by decide +kernel
theorem dX11_behindTest_66 : decode cX11_behindTest 66 = .ok (.iconst 0, 1) := by decide +kernel
theorem dX11_behindTest_67 : decode cX11_behindTest 67 = .ok (.invokevirtual 302, 3) := by decide +kernel
theorem dX11_behindTest_70 : decode cX11_behindTest 70 = .ok (.aload_n 0, 1) := by decide +kernel
theorem dX11_behindTest_71 : decode cX11_behindTest 71 = .ok (.invokevirtual 262, 3) := by decide +kernel
theorem dX11_behindTest_74 : decode cX11_behindTest 74 = .ok (.iconst 0, 1) := by decide +kernel
theorem dX11_behindTest_75 : decode cX11_behindTest 75 = .ok (.ireturn, 1) := by decide +kernel
theorem dX11_behindTest_76 : decode cX11_behindTest 76 = .ok (.aload_n 0, 1) := by decide +kernel
theorem dX11_behindTest_77 : decode cX11_behindTest 77 = .ok (.invokevirtual 361, 3) := by decide +kernel
theorem dX11_behindTest_80 : decode cX11_behindTest 80 = .ok (.iconst (-1), 1) := by decide +kernel
theorem dX11_behindTest_81 : decode cX11_behindTest 81 = .ok (.if_icmp .ne 5, 3) := by decide +kernel
theorem dX11_behindTest_84 : decode cX11_behindTest 84 = .ok (.iconst 4, 1) := by decide +kernel
theorem dX11_behindTest_85 : decode cX11_behindTest 85 = .ok (.ireturn, 1) := by decide +kernel
theorem dX11_behindTest_86 : decode cX11_behindTest 86 = .ok (.aload_n 0, 1) := by decide +kernel
theorem dX11_behindTest_87 : decode cX11_behindTest 87 = .ok (.aload_n 0, 1) := by decide +kernel
theorem dX11_behindTest_88 : decode cX11_behindTest 88 = .ok (.bipush 41, 2) := by decide +kernel
theorem dX11_behindTest_90 : decode cX11_behindTest 90 = .ok (.invokevirtual 325, 3) := by decide +kernel
theorem dX11_behindTest_93 : decode cX11_behindTest 93 = .ok (.invokevirtual 289, 3) := by decide +kernel
theorem dX11_behindTest_96 : decode cX11_behindTest 96 = .ok (.aload_n 0, 1) := by decide +kernel
theorem dX11_behindTest_97 : decode cX11_behindTest 97 = .ok (.getfield 258, 3) := by decide +kernel
theorem dX11_behindTest_100 : decode cX11_behindTest 100 = .ok (.ifCond .ne 28, 3) := by decide +kernel
theorem dX11_behindTest_103 : decode cX11_behindTest 103 = .ok (.aload_n 0, 1) := by decide +kernel
theorem dX11_behindTest_104 : decode cX11_behindTest 104 = .ok (.iconst 1, 1) := by decide +kernel
theorem dX11_behindTest_105 : decode cX11_behindTest 105 = .ok (.invokevirtual 358, 3) := by decide +kernel
theorem dX11_behindTest_108 : decode cX11_behindTest 108 = .ok (.aload_n 0, 1) := by decide +kernel
theorem dX11_behindTest_109 : decode cX11_behindTest 109 = .ok (.dup, 1) := by decide +kernel
theorem dX11_behindTest_110 : decode cX11_behindTest 110 = .ok (.getfield 296, 3) := by decide +kernel
theorem dX11_behindTest_113 : decode cX11_behindTest 113 = .ok (.iconst 1, 1) := by decide +kernel
theorem dX11_behindTest_114 : decode cX11_behindTest 114 = .ok (.isub, 1) := by decide +kernel
theorem dX11_behindTest_115 : decode cX11_behindTest 115 = .ok (.putfield 296, 3) := by decide +kernel
theorem dX11_behindTest_118 : decode cX11_behindTest 118 = .ok (.aload_n 0, 1) := by decide +kernel
theorem dX11_behindTest_119 : decode cX11_behindTest 119 = .ok (.dup, 1) := by decide +kernel
theorem dX11_behindTest_120 : decode cX11_behindTest 120 = .ok (.getfield 316, 3) := by decide +kernel
theorem dX11_behindTest_123 : decode cX11_behindTest 123 = .ok (.iconst 1, 1) := by decide +kernel
theorem dX11_behindTest_124 : decode cX11_behindTest 124 = .ok (.isub, 1) := by decide +kernel
theorem dX11_behindTest_125 : decode cX11_behindTest 125 = .ok (.putfield 316, 3) := by decide +kernel
theorem dX11_behindTest_128 : decode cX11_behindTest 128 = .ok (.iconst 2, 1) := by decide +kernel
theorem dX11_behindTest_129 : decode cX11_behindTest 129 = .ok (.ireturn, 1) := by decide +kernel
theorem dX11_readExpression_0 : decode cX11_readExpression 0 = .ok (.aload_n 0, 1) := by decide +kernel
theorem dX11_readExpression_1 : decode cX11_readExpression 1 = .ok (.iconst 0, 1) := by decide +kernel
theorem dX11_readExpression_2 : decode cX11_readExpression 2 = .ok (.putfield 296, 3) := by decide +kernel
theorem dX11_readExpression_5 : decode cX11_readExpression 5 = .ok (.aload_n 0, 1) := by decide +kernel
theorem dX11_readExpression_6 : decode cX11_readExpression 6 = .ok (.iconst 0, 1) := by decide +kernel
theorem dX11_readExpression_7 : decode cX11_readExpression 7 = .ok (.putfield 316, 3) := by decide +kernel
theorem dX11_readExpression_10 : decode cX11_readExpression 10 = .ok (.iload_n 1, 1) := by decide +kernel
theorem dX11_readExpression_11 : decode cX11_readExpression 11 = .ok (.ifCond .eq 7, 3) := by decide +kernel
theorem dX11_readExpression_14 : decode cX11_readExpression 14 = .ok (.iconst 0, 1) := by decide +kernel
theorem dX11_readExpression_15 : decode cX11_readExpression 15 = .ok (.goto 4, 3) := by decide +kernel
theorem dX11_readExpression_18 : decode cX11_readExpression 18 = .ok (.iconst 1, 1) := by decide +kernel
theorem dX11_readExpression_19 : decode cX11_readExpression 19 = .ok (.istore_n 2, 1) := by decide +kernel
theorem dX11_readExpression_20 : decode cX11_readExpression 20 = .ok (.aload_n 0, 1) := by decide +kernel
theorem dX11_readExpression_21 : decode cX11_readExpression 21 = .ok (.getfield 258, 3) := by decide +kernel
theorem dX11_readExpression_24 : decode cX11_readExpression 24 = .ok (.ifCond .ne 52, 3) := by decide +kernel
theorem dX11_readExpression_27 : decode cX11_readExpression 27 = .ok (.iload_n 2, 1) := by decide +kernel
theorem dX11_readExpression_28 : decode cX11_readExpression 28 = .ok (.iconst 4, 1) := by decide +kernel
theorem dX11_readExpression_29 : decode cX11_readExpression 29 = .ok (.if_icmp .eq 47, 3) := by decide +kernel
theorem dX11_readExpression_32 : decode cX11_readExpression 32 = .ok (.iload_n 2, 1) := by decide +kernel
theorem dX11_readExpression_33 : decode cX11_readExpression 33 = .ok (.ifCond .ne 10, 3) := by decide +kernel
theorem dX11_readExpression_36 : decode cX11_readExpression 36 = .ok (.aload_n 0, 1) := by decide +kernel
theorem dX11_readExpression_37 : decode cX11_readExpression 37 = .ok (.invokevirtual 372, 3) := by decide +kernel
theorem dX11_readExpression_40 : decode cX11_readExpression 40 = .ok (.goto 32, 3) := by decide +kernel
theorem dX11_readExpression_43 : decode cX11_readExpression 43 = .ok (.iload_n 2, 1) := by decide +kernel
theorem dX11_readExpression_44 : decode cX11_readExpression 44 = .ok (.iconst 1, 1) := by decide +kernel
theorem dX11_readExpression_45 : decode cX11_readExpression 45 = .ok (.if_icmp .ne 10, 3) := by decide +kernel
theorem dX11_readExpression_48 : decode cX11_readExpression 48 = .ok (.aload_n 0, 1) := by decide +kernel
theorem dX11_readExpression_49 : decode cX11_readExpression 49 = .ok (.invokevirtual 355, 3) := by decide +kernel
theorem dX11_readExpression_52 : decode cX11_readExpression 52 = .ok (.goto 20, 3) := by decide +kernel
theorem dX11_readExpression_55 : decode cX11_readExpression 55 = .ok (.iload_n 2, 1) := by decide +kernel
theorem dX11_readExpression_56 : decode cX11_readExpression 56 = .ok (.iconst 3, 1) := by decide +kernel
theorem dX11_readExpression_57 : decode cX11_readExpression 57 = .ok (.if_icmp .ne 11, 3) := by decide +kernel
theorem dX11_readExpression_60 : decode cX11_readExpression 60 = .ok (.aload_n 0, 1) := by decide +kernel
theorem dX11_readExpression_61 : decode cX11_readExpression 61 = .ok (.iload_n 1, 1) := by decide +kernel
theorem dX11_readExpression_62 : decode cX11_readExpression 62 = .ok (.invokevirtual 375, 3) := by decide +kernel
theorem dX11_readExpression_65 : decode cX11_readExpression 65 = .ok (.goto 7, 3) := by decide +kernel
theorem dX11_readExpression_68 : decode cX11_readExpression 68 = .ok (.aload_n 0, 1) := by decide +kernel
theorem dX11_readExpression_69 : decode cX11_readExpression 69 = .ok (.invokevirtual 379, 3) := by decide +kernel
theorem dX11_readExpression_72 : decode cX11_readExpression 72 = .ok (.istore_n 2, 1) := by decide +kernel
theorem dX11_readExpression_73 : decode cX11_readExpression 73 = .ok (.goto (-53), 3) := by decide +kernel
theorem dX11_readExpression_76 : decode cX11_readExpression 76 = .ok (.aload_n 0, 1) := by decide +kernel
theorem dX11_readExpression_77 : decode cX11_readExpression 77 = .ok (.iconst 1, 1) := by decide +kernel
theorem dX11_readExpression_78 : decode cX11_readExpression 78 = .ok (.invokevirtual 358, 3) := by decide +kernel
theorem dX11_readExpression_81 : decode cX11_readExpression 81 = .ok (.return_, 1) := by decide +kernel
theorem dX11_beginText_0 : decode cX11_beginText 0 = .ok (.aload_n 0, 1) := by decide +kernel
theorem dX11_beginText_1 : decode cX11_beginText 1 = .ok (.iload_n 1, 1) := by decide +kernel
theorem dX11_beginText_2 : decode cX11_beginText 2 = .ok (.putfield 331, 3) := by decide +kernel
theorem dX11_beginText_5 : decode cX11_beginText 5 = .ok (.aload_n 0, 1) := by decide +kernel
theorem dX11_beginText_6 : decode cX11_beginText 6 = .ok (.invokevirtual 382, 3) := by decide +kernel
theorem dX11_beginText_9 : decode cX11_beginText 9 = .ok (.aload_n 0, 1) := by decide +kernel
theorem dX11_beginText_10 : decode cX11_beginText 10 = .ok (.iconst 0, 1) := by decide +kernel
theorem dX11_beginText_11 : decode cX11_beginText 11 = .ok (.putfield 385, 3) := by decide +kernel
theorem dX11_beginText_14 : decode cX11_beginText 14 = .ok (.aload_n 0, 1) := by decide +kernel
theorem dX11_beginText_15 : decode cX11_beginText 15 = .ok (.iconst 0, 1) := by decide +kernel
theorem dX11_beginText_16 : decode cX11_beginText 16 = .ok (.putfield 293, 3) := by decide +kernel
theorem dX11_beginText_19 : decode cX11_beginText 19 = .ok (.aload_n 0, 1) := by decide +kernel
theorem dX11_beginText_20 : decode cX11_beginText 20 = .ok (.iconst 0, 1) := by decide +kernel
theorem dX11_beginText_21 : decode cX11_beginText 21 = .ok (.putfield 322, 3) := by decide +kernel
theorem dX11_beginText_24 : decode cX11_beginText 24 = .ok (.return_, 1) := by decide +kernel
theorem dX11_endText_0 : decode cX11_endText 0 = .ok (.aload_n 0, 1) := by decide +kernel
theorem dX11_endText_1 : decode cX11_endText 1 = .ok (.getfield 258, 3) := by decide +kernel
theorem dX11_endText_4 : decode cX11_endText 4 = .ok (.ifCond .ne 15, 3) := by decide +kernel
theorem dX11_endText_7 : decode cX11_endText 7 = .ok (.aload_n 0, 1) := by decide +kernel
theorem dX11_endText_8 : decode cX11_endText 8 = .ok (.getfield 278, 3) := by decide +kernel
theorem dX11_endText_11 : decode cX11_endText 11 = .ok (.ifCond .eq 8, 3) := by decide +kernel
theorem dX11_endText_14 : decode cX11_endText 14 = .ok (.aload_n 0, 1) := by decide +kernel
theorem dX11_endText_15 : decode cX11_endText 15 = .ok (.iconst 0, 1) := by decide +kernel
theorem dX11_endText_16 : decode cX11_endText 16 = .ok (.invokevirtual 289, 3) := by decide +kernel
theorem dX11_endText_19 : decode cX11_endText 19 = .ok (.aload_n 0, 1) := by decide +kernel
theorem dX11_endText_20 : decode cX11_endText 20 = .ok (.iconst 0, 1) := by decide +kernel
theorem dX11_endText_21 : decode cX11_endText 21 = .ok (.putfield 331, 3) := by decide +kernel
theorem dX11_endText_24 : decode cX11_endText 24 = .ok (.aload_n 0, 1) := by decide +kernel
theorem dX11_endText_25 : decode cX11_endText 25 = .ok (.iconst 0, 1) := by decide +kernel
theorem dX11_endText_26 : decode cX11_endText 26 = .ok (.putfield 243, 3) := by decide +kernel
theorem dX11_endText_29 : decode cX11_endText 29 = .ok (.return_, 1) := by decide +kernel
theorem dX11_readLaw_0 : decode cX11_readLaw 0 = .ok (.iconst (-1), 1) := by decide +kernel
theorem dX11_readLaw_1 : decode cX11_readLaw 1 = .ok (.istore_n 1, 1) := by decide +kernel
theorem dX11_readLaw_2 : decode cX11_readLaw 2 = .ok (.iconst 0, 1) := by decide +kernel
theorem dX11_readLaw_3 : decode cX11_readLaw 3 = .ok (.istore_n 2, 1) := by decide +kernel
theorem dX11_readLaw_4 : decode cX11_readLaw 4 = .ok (.iload_n 2, 1) := by decide +kernel
theorem dX11_readLaw_5 : decode cX11_readLaw 5 = .ok (.iconst 3, 1) := by decide +kernel
theorem dX11_readLaw_6 : decode cX11_readLaw 6 = .ok (.if_icmp .ge 28, 3) := by decide +kernel
theorem dX11_readLaw_9 : decode cX11_readLaw 9 = .ok (.aload_n 0, 1) := by decide +kernel
theorem dX11_readLaw_10 : decode cX11_readLaw 10 = .ok (.aload_n 0, 1) := by decide +kernel
theorem dX11_readLaw_11 : decode cX11_readLaw 11 = .ok (.getfield 96, 3) := by decide +kernel
theorem dX11_readLaw_14 : decode cX11_readLaw 14 = .ok (.iload_n 2, 1) := by decide +kernel
theorem dX11_readLaw_15 : decode cX11_readLaw 15 = .ok (.laload, 1) := by decide +kernel
theorem dX11_readLaw_16 : decode cX11_readLaw 16 = .ok (.invokevirtual 312, 3) := by decide +kernel
theorem dX11_readLaw_19 : decode cX11_readLaw 19 = .ok (.ifCond .eq 7, 3) := by decide +kernel
theorem dX11_readLaw_22 : decode cX11_readLaw 22 = .ok (.iload_n 2, 1) := by decide +kernel
theorem dX11_readLaw_23 : decode cX11_readLaw 23 = .ok (.goto 4, 3) := by decide +kernel
theorem dX11_readLaw_26 : decode cX11_readLaw 26 = .ok (.iload_n 1, 1) := by decide +kernel
theorem dX11_readLaw_27 : decode cX11_readLaw 27 = .ok (.istore_n 1, 1) := by decide +kernel
theorem dX11_readLaw_28 : decode cX11_readLaw 28 = .ok (.iinc 2 1, 3) := by decide +kernel
theorem dX11_readLaw_31 : decode cX11_readLaw 31 = .ok (.goto (-27), 3) := by decide +kernel
theorem dX11_readLaw_34 : decode cX11_readLaw 34 = .ok (.aload_n 0, 1) := by decide +kernel
theorem dX11_readLaw_35 : decode cX11_readLaw 35 = .ok (.iload_n 1, 1) := by decide +kernel
theorem dX11_readLaw_36 : decode cX11_readLaw 36 = .ok (.iconst (-1), 1) := by decide +kernel
theorem dX11_readLaw_37 : decode cX11_readLaw 37 = .ok (.if_icmp .eq 16, 3) := by decide +kernel
theorem dX11_readLaw_40 : decode cX11_readLaw 40 = .ok (.aload_n 0, 1) := by decide +kernel
theorem dX11_readLaw_41 : decode cX11_readLaw 41 = .ok (.getfield 385, 3) := by decide +kernel
theorem dX11_readLaw_44 : decode cX11_readLaw 44 = .ok (.bipush 12, 2) := by decide +kernel
theorem dX11_readLaw_46 : decode cX11_readLaw 46 = .ok (.if_icmp .ge 7, 3) := by decide +kernel
theorem dX11_readLaw_49 : decode cX11_readLaw 49 = .ok (.iconst 1, 1) := by decide +kernel
theorem dX11_readLaw_50 : decode cX11_readLaw 50 = .ok (.goto 4, 3) := by decide +kernel
theorem dX11_readLaw_53 : decode cX11_readLaw 53 = .ok (.iconst 0, 1) := by decide +kernel
theorem dX11_readLaw_54 : decode cX11_readLaw 54 = .ok (.invokevirtual 289, 3) := by decide +kernel
theorem dX11_readLaw_57 : decode cX11_readLaw 57 = .ok (.aload_n 0, 1) := by decide +kernel
theorem dX11_readLaw_58 : decode cX11_readLaw 58 = .ok (.getfield 258, 3) := by decide +kernel
theorem dX11_readLaw_61 : decode cX11_readLaw 61 = .ok (.ifCond .eq 4, 3) := by decide +kernel
theorem dX11_readLaw_64 : decode cX11_readLaw 64 = .ok (.return_, 1) := by decide +kernel
theorem dX11_readLaw_65 : decode cX11_readLaw 65 = .ok (.bipush 8, 2) := by decide +kernel
theorem dX11_readLaw_67 : decode cX11_readLaw 67 = .ok (.aload_n 0, 1) := by decide +kernel
theorem dX11_readLaw_68 : decode cX11_readLaw 68 = .ok (.getfield 385, 3) := by decide +kernel
theorem dX11_readLaw_71 : decode cX11_readLaw 71 = .ok (.imul, 1) := by decide +kernel
theorem dX11_readLaw_72 : decode cX11_readLaw 72 = .ok (.istore_n 2, 1) := by decide +kernel
theorem dX11_readLaw_73 : decode cX11_readLaw 73 = .ok (.iconst 0, 1) := by decide +kernel
theorem dX11_readLaw_74 : decode cX11_readLaw 74 = .ok (.istore_n 3, 1) := by decide +kernel
theorem dX11_readLaw_75 : decode cX11_readLaw 75 = .ok (.iload_n 3, 1) := by decide +kernel
theorem dX11_readLaw_76 : decode cX11_readLaw 76 = .ok (.bipush 8, 2) := by decide +kernel
theorem dX11_readLaw_78 : decode cX11_readLaw 78 = .ok (.if_icmp .ge 18, 3) := by decide +kernel
theorem dX11_readLaw_81 : decode cX11_readLaw 81 = .ok (.aload_n 0, 1) := by decide +kernel
theorem dX11_readLaw_82 : decode cX11_readLaw 82 = .ok (.getfield 42, 3) := by decide +kernel
theorem dX11_readLaw_85 : decode cX11_readLaw 85 = .ok (.iload_n 2, 1) := by decide +kernel
theorem dX11_readLaw_86 : decode cX11_readLaw 86 = .ok (.iload_n 3, 1) := by decide +kernel
theorem dX11_readLaw_87 : decode cX11_readLaw 87 = .ok (.iadd, 1) := by decide +kernel
theorem dX11_readLaw_88 : decode cX11_readLaw 88 = .ok (.iconst 0, 1) := by decide +kernel
theorem dX11_readLaw_89 : decode cX11_readLaw 89 = .ok (.iastore, 1) := by decide +kernel
theorem dX11_readLaw_90 : decode cX11_readLaw 90 = .ok (.iinc 3 1, 3) := by decide +kernel
theorem dX11_readLaw_93 : decode cX11_readLaw 93 = .ok (.goto (-18), 3) := by decide +kernel
theorem dX11_readLaw_96 : decode cX11_readLaw 96 = .ok (.aload_n 0, 1) := by decide +kernel
theorem dX11_readLaw_97 : decode cX11_readLaw 97 = .ok (.getfield 42, 3) := by decide +kernel
theorem dX11_readLaw_100 : decode cX11_readLaw 100 = .ok (.iload_n 2, 1) := by decide +kernel
theorem dX11_readLaw_101 : decode cX11_readLaw 101 = .ok (.iload_n 1, 1) := by decide +kernel
theorem dX11_readLaw_102 : decode cX11_readLaw 102 = .ok (.iastore, 1) := by decide +kernel
theorem dX11_readLaw_103 : decode cX11_readLaw 103 = .ok (.aload_n 0, 1) := by decide +kernel
theorem dX11_readLaw_104 : decode cX11_readLaw 104 = .ok (.dup, 1) := by decide +kernel
theorem dX11_readLaw_105 : decode cX11_readLaw 105 = .ok (.getfield 385, 3) := by decide +kernel
theorem dX11_readLaw_108 : decode cX11_readLaw 108 = .ok (.iconst 1, 1) := by decide +kernel
theorem dX11_readLaw_109 : decode cX11_readLaw 109 = .ok (.iadd, 1) := by decide +kernel
theorem dX11_readLaw_110 : decode cX11_readLaw 110 = .ok (.putfield 385, 3) := by decide +kernel
theorem dX11_readLaw_113 : decode cX11_readLaw 113 = .ok (.aload_n 0, 1) := by decide +kernel
theorem dX11_readLaw_114 : decode cX11_readLaw 114 = .ok (.getfield 42, 3) := by decide +kernel
theorem dX11_readLaw_117 : decode cX11_readLaw 117 = .ok (.iload_n 2, 1) := by decide +kernel
theorem dX11_readLaw_118 : decode cX11_readLaw 118 = .ok (.iconst 3, 1) := by decide +kernel
theorem dX11_readLaw_119 : decode cX11_readLaw 119 = .ok (.iadd, 1) := by decide +kernel
theorem dX11_readLaw_120 : decode cX11_readLaw 120 = .ok (.aload_n 0, 1) := by decide +kernel
theorem dX11_readLaw_121 : decode cX11_readLaw 121 = .ok (.getfield 293, 3) := by decide +kernel
theorem dX11_readLaw_124 : decode cX11_readLaw 124 = .ok (.iastore, 1) := by decide +kernel
theorem dX11_readLaw_125 : decode cX11_readLaw 125 = .ok (.iload_n 1, 1) := by decide +kernel
theorem dX11_readLaw_126 : decode cX11_readLaw 126 = .ok (.iconst 2, 1) := by decide +kernel
theorem dX11_readLaw_127 : decode cX11_readLaw 127 = .ok (.if_icmp .eq 8, 3) := by decide +kernel
theorem dX11_readLaw_130 : decode cX11_readLaw 130 = .ok (.aload_n 0, 1) := by decide +kernel
theorem dX11_readLaw_131 : decode cX11_readLaw 131 = .ok (.iconst 0, 1) := by decide +kernel
theorem dX11_readLaw_132 : decode cX11_readLaw 132 = .ok (.invokevirtual 388, 3) := by decide +kernel
theorem dX11_readLaw_135 : decode cX11_readLaw 135 = .ok (.aload_n 0, 1) := by decide +kernel
theorem dX11_readLaw_136 : decode cX11_readLaw 136 = .ok (.getfield 42, 3) := by decide +kernel
theorem dX11_readLaw_139 : decode cX11_readLaw 139 = .ok (.iload_n 2, 1) := by decide +kernel
theorem dX11_readLaw_140 : decode cX11_readLaw 140 = .ok (.iconst 4, 1) := by decide +kernel
theorem dX11_readLaw_141 : decode cX11_readLaw 141 = .ok (.iadd, 1) := by decide +kernel
theorem dX11_readLaw_142 : decode cX11_readLaw 142 = .ok (.aload_n 0, 1) := by decide +kernel
theorem dX11_readLaw_143 : decode cX11_readLaw 143 = .ok (.getfield 293, 3) := by decide +kernel
theorem dX11_readLaw_146 : decode cX11_readLaw 146 = .ok (.iastore, 1) := by decide +kernel
theorem dX11_readLaw_147 : decode cX11_readLaw 147 = .ok (.aload_n 0, 1) := by decide +kernel
theorem dX11_readLaw_148 : decode cX11_readLaw 148 = .ok (.getfield 42, 3) := by decide +kernel
theorem dX11_readLaw_151 : decode cX11_readLaw 151 = .ok (.iload_n 2, 1) := by decide +kernel
theorem dX11_readLaw_152 : decode cX11_readLaw 152 = .ok (.iconst 5, 1) := by decide +kernel
theorem dX11_readLaw_153 : decode cX11_readLaw 153 = .ok (.iadd, 1) := by decide +kernel
theorem dX11_readLaw_154 : decode cX11_readLaw 154 = .ok (.aload_n 0, 1) := by decide +kernel
theorem dX11_readLaw_155 : decode cX11_readLaw 155 = .ok (.getfield 293, 3) := by decide +kernel
theorem dX11_readLaw_158 : decode cX11_readLaw 158 = .ok (.iastore, 1) := by decide +kernel
theorem dX11_readLaw_159 : decode cX11_readLaw 159 = .ok (.aload_n 0, 1) := by decide +kernel
theorem dX11_readLaw_160 : decode cX11_readLaw 160 = .ok (.getfield 258, 3) := by decide +kernel
theorem dX11_readLaw_163 : decode cX11_readLaw 163 = .ok (.ifCond .ne 22, 3) := by decide +kernel
theorem dX11_readLaw_166 : decode cX11_readLaw 166 = .ok (.aload_n 0, 1) := by decide +kernel
theorem dX11_readLaw_167 : decode cX11_readLaw 167 = .ok (.ldc2_w 391, 3) := by decide +kernel
theorem dX11_readLaw_170 : decode cX11_readLaw 170 = .ok (.invokevirtual 312, 3) := by decide +kernel
theorem dX11_readLaw_173 : decode cX11_readLaw 173 = .ok (.ifCond .eq 12, 3) := by decide +kernel
theorem dX11_readLaw_176 : decode cX11_readLaw 176 = .ok (.aload_n 0, 1) := by decide +kernel
theorem dX11_readLaw_177 : decode cX11_readLaw 177 = .ok (.invokevirtual 262, 3) := by decide +kernel
theorem dX11_readLaw_180 : decode cX11_readLaw 180 = .ok (.aload_n 0, 1) := by decide +kernel
theorem dX11_readLaw_181 : decode cX11_readLaw 181 = .ok (.iconst 1, 1) := by decide +kernel
theorem dX11_readLaw_182 : decode cX11_readLaw 182 = .ok (.invokevirtual 388, 3) := by decide +kernel
theorem dX11_readLaw_185 : decode cX11_readLaw 185 = .ok (.aload_n 0, 1) := by decide +kernel
theorem dX11_readLaw_186 : decode cX11_readLaw 186 = .ok (.getfield 42, 3) := by decide +kernel
theorem dX11_readLaw_189 : decode cX11_readLaw 189 = .ok (.iload_n 2, 1) := by decide +kernel
theorem dX11_readLaw_190 : decode cX11_readLaw 190 = .ok (.bipush 6, 2) := by decide +kernel
theorem dX11_readLaw_192 : decode cX11_readLaw 192 = .ok (.iadd, 1) := by decide +kernel
theorem dX11_readLaw_193 : decode cX11_readLaw 193 = .ok (.aload_n 0, 1) := by decide +kernel
theorem dX11_readLaw_194 : decode cX11_readLaw 194 = .ok (.getfield 293, 3) := by decide +kernel
theorem dX11_readLaw_197 : decode cX11_readLaw 197 = .ok (.iastore, 1) := by decide +kernel
theorem dX11_readLaw_198 : decode cX11_readLaw 198 = .ok (.return_, 1) := by decide +kernel
theorem dX11_law_0 : decode cX11_law 0 = .ok (.aload_n 0, 1) := by decide +kernel
theorem dX11_law_1 : decode cX11_law 1 = .ok (.iconst 0, 1) := by decide +kernel
theorem dX11_law_2 : decode cX11_law 2 = .ok (.putfield 152, 3) := by decide +kernel
theorem dX11_law_5 : decode cX11_law 5 = .ok (.aload_n 0, 1) := by decide +kernel
theorem dX11_law_6 : decode cX11_law 6 = .ok (.getfield 13, 3) := by decide +kernel
theorem dX11_law_9 : decode cX11_law 9 = .ok (.iconst 3, 1) := by decide +kernel
theorem dX11_law_10 : decode cX11_law 10 = .ok (.iaload, 1) := by decide +kernel
theorem dX11_law_11 : decode cX11_law 11 = .ok (.bipush 6, 2) := by decide +kernel
theorem dX11_law_13 : decode cX11_law 13 = .ok (.if_icmp .ne 15, 3) := by decide +kernel
theorem dX11_law_16 : decode cX11_law 16 = .ok (.aload_n 0, 1) := by decide +kernel
theorem dX11_law_17 : decode cX11_law 17 = .ok (.iconst 0, 1) := by decide +kernel
theorem dX11_law_18 : decode cX11_law 18 = .ok (.putfield 243, 3) := by decide +kernel
theorem dX11_law_21 : decode cX11_law 21 = .ok (.aload_n 0, 1) := by decide +kernel
theorem dX11_law_22 : decode cX11_law 22 = .ok (.bipush (-5), 2) := by decide +kernel
theorem dX11_law_24 : decode cX11_law 24 = .ok (.invokevirtual 161, 3) := by decide +kernel
theorem dX11_law_27 : decode cX11_law 27 = .ok (.ireturn, 1) := by decide +kernel
theorem dX11_law_28 : decode cX11_law 28 = .ok (.aload_n 0, 1) := by decide +kernel
theorem dX11_law_29 : decode cX11_law 29 = .ok (.iconst 0, 1) := by decide +kernel
theorem dX11_law_30 : decode cX11_law 30 = .ok (.invokevirtual 393, 3) := by decide +kernel
theorem dX11_law_33 : decode cX11_law 33 = .ok (.aload_n 0, 1) := by decide +kernel
theorem dX11_law_34 : decode cX11_law 34 = .ok (.invokevirtual 396, 3) := by decide +kernel
theorem dX11_law_37 : decode cX11_law 37 = .ok (.aload_n 0, 1) := by decide +kernel
theorem dX11_law_38 : decode cX11_law 38 = .ok (.getfield 258, 3) := by decide +kernel
theorem dX11_law_41 : decode cX11_law 41 = .ok (.ifCond .ne 23, 3) := by decide +kernel
theorem dX11_law_44 : decode cX11_law 44 = .ok (.aload_n 0, 1) := by decide +kernel
theorem dX11_law_45 : decode cX11_law 45 = .ok (.bipush 59, 2) := by decide +kernel
theorem dX11_law_47 : decode cX11_law 47 = .ok (.invokevirtual 325, 3) := by decide +kernel
theorem dX11_law_50 : decode cX11_law 50 = .ok (.ifCond .eq 14, 3) := by decide +kernel
theorem dX11_law_53 : decode cX11_law 53 = .ok (.aload_n 0, 1) := by decide +kernel
theorem dX11_law_54 : decode cX11_law 54 = .ok (.invokevirtual 262, 3) := by decide +kernel
theorem dX11_law_57 : decode cX11_law 57 = .ok (.aload_n 0, 1) := by decide +kernel
theorem dX11_law_58 : decode cX11_law 58 = .ok (.invokevirtual 396, 3) := by decide +kernel
theorem dX11_law_61 : decode cX11_law 61 = .ok (.goto (-24), 3) := by decide +kernel
theorem dX11_law_64 : decode cX11_law 64 = .ok (.aload_n 0, 1) := by decide +kernel
theorem dX11_law_65 : decode cX11_law 65 = .ok (.invokevirtual 399, 3) := by decide +kernel
theorem dX11_law_68 : decode cX11_law 68 = .ok (.aload_n 0, 1) := by decide +kernel
theorem dX11_law_69 : decode cX11_law 69 = .ok (.getfield 258, 3) := by decide +kernel
theorem dX11_law_72 : decode cX11_law 72 = .ok (.ifCond .eq 10, 3) := by decide +kernel
theorem dX11_law_75 : decode cX11_law 75 = .ok (.aload_n 0, 1) := by decide +kernel
theorem dX11_law_76 : decode cX11_law 76 = .ok (.bipush (-6), 2) := by decide +kernel
theorem dX11_law_78 : decode cX11_law 78 = .ok (.invokevirtual 161, 3) := by decide +kernel
theorem dX11_law_81 : decode cX11_law 81 = .ok (.ireturn, 1) := by decide +kernel
theorem dX11_law_82 : decode cX11_law 82 = .ok (.bipush 90, 2) := by decide +kernel
theorem dX11_law_84 : decode cX11_law 84 = .ok (.sipush 900, 3) := by decide +kernel
theorem dX11_law_87 : decode cX11_law 87 = .ok (.aload_n 0, 1) := by decide +kernel
theorem dX11_law_88 : decode cX11_law 88 = .ok (.getfield 13, 3) := by decide +kernel
theorem dX11_law_91 : decode cX11_law 91 = .ok (.iconst 3, 1) := by decide +kernel
theorem dX11_law_92 : decode cX11_law 92 = .ok (.iaload, 1) := by decide +kernel
theorem dX11_law_93 : decode cX11_law 93 = .ok (.imul, 1) := by decide +kernel
theorem dX11_law_94 : decode cX11_law 94 = .ok (.iadd, 1) := by decide +kernel
theorem dX11_law_95 : decode cX11_law 95 = .ok (.istore_n 1, 1) := by decide +kernel
theorem dX11_law_96 : decode cX11_law 96 = .ok (.aload_n 0, 1) := by decide +kernel
theorem dX11_law_97 : decode cX11_law 97 = .ok (.getfield 13, 3) := by decide +kernel
theorem dX11_law_100 : decode cX11_law 100 = .ok (.iload_n 1, 1) := by decide +kernel
theorem dX11_law_101 : decode cX11_law 101 = .ok (.iconst 1, 1) := by decide +kernel
theorem dX11_law_102 : decode cX11_law 102 = .ok (.iadd, 1) := by decide +kernel
theorem dX11_law_103 : decode cX11_law 103 = .ok (.aload_n 0, 1) := by decide +kernel
theorem dX11_law_104 : decode cX11_law 104 = .ok (.getfield 385, 3) := by decide +kernel
theorem dX11_law_107 : decode cX11_law 107 = .ok (.iastore, 1) := by decide +kernel
theorem dX11_law_108 : decode cX11_law 108 = .ok (.iconst 0, 1) := by decide +kernel
theorem dX11_law_109 : decode cX11_law 109 = .ok (.istore_n 2, 1) := by decide +kernel
theorem dX11_law_110 : decode cX11_law 110 = .ok (.iload_n 2, 1) := by decide +kernel
theorem dX11_law_111 : decode cX11_law 111 = .ok (.bipush 8, 2) := by decide +kernel
theorem dX11_law_113 : decode cX11_law 113 = .ok (.aload_n 0, 1) := by decide +kernel
theorem dX11_law_114 : decode cX11_law 114 = .ok (.getfield 385, 3) := by decide +kernel
theorem dX11_law_117 : decode cX11_law 117 = .ok (.imul, 1) := by decide +kernel
theorem dX11_law_118 : decode cX11_law 118 = .ok (.if_icmp .ge 25, 3) := by decide +kernel
theorem dX11_law_121 : decode cX11_law 121 = .ok (.aload_n 0, 1) := by decide +kernel
theorem dX11_law_122 : decode cX11_law 122 = .ok (.getfield 13, 3) := by decide +kernel
theorem dX11_law_125 : decode cX11_law 125 = .ok (.iload_n 1, 1) := by decide +kernel
theorem dX11_law_126 : decode cX11_law 126 = .ok (.iconst 2, 1) := by decide +kernel
theorem dX11_law_127 : decode cX11_law 127 = .ok (.iadd, 1) := by decide +kernel
theorem dX11_law_128 : decode cX11_law 128 = .ok (.iload_n 2, 1) := by decide +kernel
theorem dX11_law_129 : decode cX11_law 129 = .ok (.iadd, 1) := by decide +kernel
theorem dX11_law_130 : decode cX11_law 130 = .ok (.aload_n 0, 1) := by decide +kernel
theorem dX11_law_131 : decode cX11_law 131 = .ok (.getfield 42, 3) := by decide +kernel
theorem dX11_law_134 : decode cX11_law 134 = .ok (.iload_n 2, 1) := by decide +kernel
theorem dX11_law_135 : decode cX11_law 135 = .ok (.iaload, 1) := by decide +kernel
theorem dX11_law_136 : decode cX11_law 136 = .ok (.iastore, 1) := by decide +kernel
theorem dX11_law_137 : decode cX11_law 137 = .ok (.iinc 2 1, 3) := by decide +kernel
theorem dX11_law_140 : decode cX11_law 140 = .ok (.goto (-30), 3) := by decide +kernel
theorem dX11_law_143 : decode cX11_law 143 = .ok (.iconst 0, 1) := by decide +kernel
theorem dX11_law_144 : decode cX11_law 144 = .ok (.istore_n 2, 1) := by decide +kernel
theorem dX11_law_145 : decode cX11_law 145 = .ok (.iload_n 2, 1) := by decide +kernel
theorem dX11_law_146 : decode cX11_law 146 = .ok (.aload_n 0, 1) := by decide +kernel
theorem dX11_law_147 : decode cX11_law 147 = .ok (.getfield 293, 3) := by decide +kernel
theorem dX11_law_150 : decode cX11_law 150 = .ok (.if_icmp .ge 49, 3) := by decide +kernel
theorem dX11_law_153 : decode cX11_law 153 = .ok (.aload_n 0, 1) := by decide +kernel
theorem dX11_law_154 : decode cX11_law 154 = .ok (.getfield 13, 3) := by decide +kernel
theorem dX11_law_157 : decode cX11_law 157 = .ok (.iload_n 1, 1) := by decide +kernel
theorem dX11_law_158 : decode cX11_law 158 = .ok (.bipush 98, 2) := by decide +kernel
theorem dX11_law_160 : decode cX11_law 160 = .ok (.iadd, 1) := by decide +kernel
theorem dX11_law_161 : decode cX11_law 161 = .ok (.iconst 2, 1) := by decide +kernel
theorem dX11_law_162 : decode cX11_law 162 = .ok (.iload_n 2, 1) := by decide +kernel
theorem dX11_law_163 : decode cX11_law 163 = .ok (.imul, 1) := by decide +kernel
theorem dX11_law_164 : decode cX11_law 164 = .ok (.iadd, 1) := by decide +kernel
theorem dX11_law_165 : decode cX11_law 165 = .ok (.aload_n 0, 1) := by decide +kernel
theorem dX11_law_166 : decode cX11_law 166 = .ok (.getfield 45, 3) := by decide +kernel
theorem dX11_law_169 : decode cX11_law 169 = .ok (.iload_n 2, 1) := by decide +kernel
theorem dX11_law_170 : decode cX11_law 170 = .ok (.iaload, 1) := by decide +kernel
theorem dX11_law_171 : decode cX11_law 171 = .ok (.iastore, 1) := by decide +kernel
theorem dX11_law_172 : decode cX11_law 172 = .ok (.aload_n 0, 1) := by decide +kernel
theorem dX11_law_173 : decode cX11_law 173 = .ok (.getfield 13, 3) := by decide +kernel
theorem dX11_law_176 : decode cX11_law 176 = .ok (.iload_n 1, 1) := by decide +kernel
theorem dX11_law_177 : decode cX11_law 177 = .ok (.bipush 98, 2) := by decide +kernel
theorem dX11_law_179 : decode cX11_law 179 = .ok (.iadd, 1) := by decide +kernel
theorem dX11_law_180 : decode cX11_law 180 = .ok (.iconst 2, 1) := by decide +kernel
theorem dX11_law_181 : decode cX11_law 181 = .ok (.iload_n 2, 1) := by decide +kernel
theorem dX11_law_182 : decode cX11_law 182 = .ok (.imul, 1) := by decide +kernel
theorem dX11_law_183 : decode cX11_law 183 = .ok (.iadd, 1) := by decide +kernel
theorem dX11_law_184 : decode cX11_law 184 = .ok (.iconst 1, 1) := by decide +kernel
theorem dX11_law_185 : decode cX11_law 185 = .ok (.iadd, 1) := by decide +kernel
theorem dX11_law_186 : decode cX11_law 186 = .ok (.aload_n 0, 1) := by decide +kernel
theorem dX11_law_187 : decode cX11_law 187 = .ok (.getfield 48, 3) := by decide +kernel
theorem dX11_law_190 : decode cX11_law 190 = .ok (.iload_n 2, 1) := by decide +kernel
theorem dX11_law_191 : decode cX11_law 191 = .ok (.iaload, 1) := by decide +kernel
theorem dX11_law_192 : decode cX11_law 192 = .ok (.iastore, 1) := by decide +kernel
theorem dX11_law_193 : decode cX11_law 193 = .ok (.iinc 2 1, 3) := by decide +kernel
theorem dX11_law_196 : decode cX11_law 196 = .ok (.goto (-51), 3) := by decide +kernel
theorem dX11_law_199 : decode cX11_law 199 = .ok (.aload_n 0, 1) := by decide +kernel
theorem dX11_law_200 : decode cX11_law 200 = .ok (.getfield 13, 3) := by decide +kernel
theorem dX11_law_203 : decode cX11_law 203 = .ok (.iconst 3, 1) := by decide +kernel
theorem dX11_law_204 : decode cX11_law 204 = .ok (.dup2, 1) := by decide +kernel
theorem dX11_law_205 : decode cX11_law 205 = .ok (.iaload, 1) := by decide +kernel
theorem dX11_law_206 : decode cX11_law 206 = .ok (.iconst 1, 1) := by decide +kernel
theorem dX11_law_207 : decode cX11_law 207 = .ok (.iadd, 1) := by decide +kernel
theorem dX11_law_208 : decode cX11_law 208 = .ok (.iastore, 1) := by decide +kernel
theorem dX11_law_209 : decode cX11_law 209 = .ok (.aload_n 0, 1) := by decide +kernel
theorem dX11_law_210 : decode cX11_law 210 = .ok (.aload_n 0, 1) := by decide +kernel
theorem dX11_law_211 : decode cX11_law 211 = .ok (.getfield 13, 3) := by decide +kernel
theorem dX11_law_214 : decode cX11_law 214 = .ok (.iconst 3, 1) := by decide +kernel
theorem dX11_law_215 : decode cX11_law 215 = .ok (.iaload, 1) := by decide +kernel
theorem dX11_law_216 : decode cX11_law 216 = .ok (.iconst 1, 1) := by decide +kernel
theorem dX11_law_217 : decode cX11_law 217 = .ok (.isub, 1) := by decide +kernel
theorem dX11_law_218 : decode cX11_law 218 = .ok (.invokevirtual 161, 3) := by decide +kernel
theorem dX11_law_221 : decode cX11_law 221 = .ok (.ireturn, 1) := by decide +kernel
theorem dX11_isLaw_0 : decode cX11_isLaw 0 = .ok (.iload_n 1, 1) := by decide +kernel
theorem dX11_isLaw_1 : decode cX11_isLaw 1 = .ok (.iconst (-1), 1) := by decide +kernel
theorem dX11_isLaw_2 : decode cX11_isLaw 2 = .ok (.if_icmp .eq 21, 3) := by decide +kernel
theorem dX11_isLaw_5 : decode cX11_isLaw 5 = .ok (.iload_n 1, 1) := by decide +kernel
theorem dX11_isLaw_6 : decode cX11_isLaw 6 = .ok (.i2l, 1) := by decide +kernel
theorem dX11_isLaw_7 : decode cX11_isLaw 7 = .ok (.lconst 0, 1) := by decide +kernel
theorem dX11_isLaw_8 : decode cX11_isLaw 8 = .ok (.aload_n 0, 1) := by decide +kernel
theorem dX11_isLaw_9 : decode cX11_isLaw 9 = .ok (.getfield 13, 3) := by decide +kernel
theorem dX11_isLaw_12 : decode cX11_isLaw 12 = .ok (.iconst 3, 1) := by decide +kernel
theorem dX11_isLaw_13 : decode cX11_isLaw 13 = .ok (.iaload, 1) := by decide +kernel
theorem dX11_isLaw_14 : decode cX11_isLaw 14 = .ok (.i2l, 1) := by decide +kernel
theorem dX11_isLaw_15 : decode cX11_isLaw 15 = .ok (.lconst 1, 1) := by decide +kernel
theorem dX11_isLaw_16 : decode cX11_isLaw 16 = .ok (.lsub, 1) := by decide +kernel
theorem dX11_isLaw_17 : decode cX11_isLaw 17 = .ok (.invokestatic 172, 3) := by decide +kernel
theorem dX11_isLaw_20 : decode cX11_isLaw 20 = .ok (.ifCond .eq 7, 3) := by decide +kernel
theorem dX11_isLaw_23 : decode cX11_isLaw 23 = .ok (.iconst 1, 1) := by decide +kernel
theorem dX11_isLaw_24 : decode cX11_isLaw 24 = .ok (.goto 4, 3) := by decide +kernel
theorem dX11_isLaw_27 : decode cX11_isLaw 27 = .ok (.iconst 0, 1) := by decide +kernel
theorem dX11_isLaw_28 : decode cX11_isLaw 28 = .ok (.ireturn, 1) := by decide +kernel
theorem dX11_force_0 : decode cX11_force 0 = .ok (.aload_n 0, 1) := by decide +kernel
theorem dX11_force_1 : decode cX11_force 1 = .ok (.iconst 0, 1) := by decide +kernel
theorem dX11_force_2 : decode cX11_force 2 = .ok (.putfield 152, 3) := by decide +kernel
theorem dX11_force_5 : decode cX11_force 5 = .ok (.aload_n 0, 1) := by decide +kernel
theorem dX11_force_6 : decode cX11_force 6 = .ok (.iload_n 1, 1) := by decide +kernel
theorem dX11_force_7 : decode cX11_force 7 = .ok (.invokevirtual 402, 3) := by decide +kernel
theorem dX11_force_10 : decode cX11_force 10 = .ok (.ifCond .eq 12, 3) := by decide +kernel
theorem dX11_force_13 : decode cX11_force 13 = .ok (.aload_n 0, 1) := by decide +kernel
theorem dX11_force_14 : decode cX11_force 14 = .ok (.iconst 4, 1) := by decide +kernel
theorem dX11_force_15 : decode cX11_force 15 = .ok (.iload_n 1, 1) := by decide +kernel
theorem dX11_force_16 : decode cX11_force 16 = .ok (.invokevirtual 201, 3) := by decide +kernel
theorem dX11_force_19 : decode cX11_force 19 = .ok (.goto 9, 3) := by decide +kernel
theorem dX11_force_22 : decode cX11_force 22 = .ok (.aload_n 0, 1) := by decide +kernel
theorem dX11_force_23 : decode cX11_force 23 = .ok (.bipush (-2), 2) := by decide +kernel
theorem dX11_force_25 : decode cX11_force 25 = .ok (.invokevirtual 161, 3) := by decide +kernel
theorem dX11_force_28 : decode cX11_force 28 = .ok (.ireturn, 1) := by decide +kernel
theorem dX11_reckon_0 : decode cX11_reckon 0 = .ok (.iload_n 1, 1) := by decide +kernel
theorem dX11_reckon_1 : decode cX11_reckon 1 = .ok (.tableswitch 148 20 26 #[43, 48, 53, 58, 90, 122, 135], 43) := by decide +kernel
theorem dX11_reckon_44 : decode cX11_reckon 44 = .ok (.lload_n 2, 1) := by decide +kernel
theorem dX11_reckon_45 : decode cX11_reckon 45 = .ok (.lload 4, 2) := by decide +kernel
theorem dX11_reckon_47 : decode cX11_reckon 47 = .ok (.ladd, 1) := by decide +kernel
theorem dX11_reckon_48 : decode cX11_reckon 48 = .ok (.lreturn, 1) := by decide +kernel
theorem dX11_reckon_49 : decode cX11_reckon 49 = .ok (.lload_n 2, 1) := by decide +kernel
theorem dX11_reckon_50 : decode cX11_reckon 50 = .ok (.lload 4, 2) := by decide +kernel
theorem dX11_reckon_52 : decode cX11_reckon 52 = .ok (.lsub, 1) := by decide +kernel
theorem dX11_reckon_53 : decode cX11_reckon 53 = .ok (.lreturn, 1) := by decide +kernel
theorem dX11_reckon_54 : decode cX11_reckon 54 = .ok (.lload_n 2, 1) := by decide +kernel
theorem dX11_reckon_55 : decode cX11_reckon 55 = .ok (.lload 4, 2) := by decide +kernel
theorem dX11_reckon_57 : decode cX11_reckon 57 = .ok (.lmul, 1) := by decide +kernel
theorem dX11_reckon_58 : decode cX11_reckon 58 = .ok (.lreturn, 1) := by decide +kernel
theorem dX11_reckon_59 : decode cX11_reckon 59 = .ok (.aload_n 0, 1) := by decide +kernel
theorem dX11_reckon_60 : decode cX11_reckon 60 = .ok (.lload 4, 2) := by decide +kernel
theorem dX11_reckon_62 : decode cX11_reckon 62 = .ok (.lconst 0, 1) := by decide +kernel
theorem dX11_reckon_63 : decode cX11_reckon 63 = .ok (.lcmp, 1) := by decide +kernel
theorem dX11_reckon_64 : decode cX11_reckon 64 = .ok (.ifCond .ne 7, 3) := by decide +kernel
theorem dX11_reckon_67 : decode cX11_reckon 67 = .ok (.iconst 1, 1) := by decide +kernel
theorem dX11_reckon_68 : decode cX11_reckon 68 = .ok (.goto 4, 3) := by decide +kernel
theorem dX11_reckon_71 : decode cX11_reckon 71 = .ok (.iconst 0, 1) := by decide +kernel
theorem dX11_reckon_72 : decode cX11_reckon 72 = .ok (.putfield 405, 3) := by decide +kernel
theorem dX11_reckon_75 : decode cX11_reckon 75 = .ok (.aload_n 0, 1) := by decide +kernel
theorem dX11_reckon_76 : decode cX11_reckon 76 = .ok (.getfield 405, 3) := by decide +kernel
theorem dX11_reckon_79 : decode cX11_reckon 79 = .ok (.ifCond .eq 7, 3) := by decide +kernel
theorem dX11_reckon_82 : decode cX11_reckon 82 = .ok (.lconst 0, 1) := by decide +kernel
theorem dX11_reckon_83 : decode cX11_reckon 83 = .ok (.goto 7, 3) := by decide +kernel
theorem dX11_reckon_86 : decode cX11_reckon 86 = .ok (.lload_n 2, 1) := by decide +kernel
theorem dX11_reckon_87 : decode cX11_reckon 87 = .ok (.lload 4, 2) := by decide +kernel
theorem dX11_reckon_89 : decode cX11_reckon 89 = .ok (.ldiv, 1) := by decide +kernel
theorem dX11_reckon_90 : decode cX11_reckon 90 = .ok (.lreturn, 1) := by decide +kernel
theorem dX11_reckon_91 : decode cX11_reckon 91 = .ok (.aload_n 0, 1) := by decide +kernel
theorem dX11_reckon_92 : decode cX11_reckon 92 = .ok (.lload 4, 2) := by decide +kernel
theorem dX11_reckon_94 : decode cX11_reckon 94 = .ok (.lconst 0, 1) := by decide +kernel
theorem dX11_reckon_95 : decode cX11_reckon 95 = .ok (.lcmp, 1) := by decide +kernel
theorem dX11_reckon_96 : decode cX11_reckon 96 = .ok (.ifCond .ne 7, 3) := by decide +kernel
theorem dX11_reckon_99 : decode cX11_reckon 99 = .ok (.iconst 1, 1) := by decide +kernel
theorem dX11_reckon_100 : decode cX11_reckon 100 = .ok (.goto 4, 3) := by decide +kernel
theorem dX11_reckon_103 : decode cX11_reckon 103 = .ok (.iconst 0, 1) := by decide +kernel
theorem dX11_reckon_104 : decode cX11_reckon 104 = .ok (.putfield 405, 3) := by decide +kernel
theorem dX11_reckon_107 : decode cX11_reckon 107 = .ok (.aload_n 0, 1) := by decide +kernel
theorem dX11_reckon_108 : decode cX11_reckon 108 = .ok (.getfield 405, 3) := by decide +kernel
theorem dX11_reckon_111 : decode cX11_reckon 111 = .ok (.ifCond .eq 7, 3) := by decide +kernel
theorem dX11_reckon_114 : decode cX11_reckon 114 = .ok (.lconst 0, 1) := by decide +kernel
theorem dX11_reckon_115 : decode cX11_reckon 115 = .ok (.goto 7, 3) := by decide +kernel
theorem dX11_reckon_118 : decode cX11_reckon 118 = .ok (.lload_n 2, 1) := by decide +kernel
theorem dX11_reckon_119 : decode cX11_reckon 119 = .ok (.lload 4, 2) := by decide +kernel
theorem dX11_reckon_121 : decode cX11_reckon 121 = .ok (.lrem, 1) := by decide +kernel
theorem dX11_reckon_122 : decode cX11_reckon 122 = .ok (.lreturn, 1) := by decide +kernel
theorem dX11_reckon_123 : decode cX11_reckon 123 = .ok (.lload_n 2, 1) := by decide +kernel
theorem dX11_reckon_124 : decode cX11_reckon 124 = .ok (.lload 4, 2) := by decide +kernel
theorem dX11_reckon_126 : decode cX11_reckon 126 = .ok (.lcmp, 1) := by decide +kernel
theorem dX11_reckon_127 : decode cX11_reckon 127 = .ok (.ifCond .ge 7, 3) := by decide +kernel
theorem dX11_reckon_130 : decode cX11_reckon 130 = .ok (.lconst 1, 1) := by decide +kernel
theorem dX11_reckon_131 : decode cX11_reckon 131 = .ok (.goto 4, 3) := by decide +kernel
theorem dX11_reckon_134 : decode cX11_reckon 134 = .ok (.lconst 0, 1) := by decide +kernel
theorem dX11_reckon_135 : decode cX11_reckon 135 = .ok (.lreturn, 1) := by decide +kernel
theorem dX11_reckon_136 : decode cX11_reckon 136 = .ok (.lload_n 2, 1) := by decide +kernel
theorem dX11_reckon_137 : decode cX11_reckon 137 = .ok (.lload 4, 2) := by decide +kernel
theorem dX11_reckon_139 : decode cX11_reckon 139 = .ok (.lcmp, 1) := by decide +kernel
theorem dX11_reckon_140 : decode cX11_reckon 140 = .ok (.ifCond .le 7, 3) := by decide +kernel
theorem dX11_reckon_143 : decode cX11_reckon 143 = .ok (.lconst 1, 1) := by decide +kernel
theorem dX11_reckon_144 : decode cX11_reckon 144 = .ok (.goto 4, 3) := by decide +kernel
theorem dX11_reckon_147 : decode cX11_reckon 147 = .ok (.lconst 0, 1) := by decide +kernel
theorem dX11_reckon_148 : decode cX11_reckon 148 = .ok (.lreturn, 1) := by decide +kernel
theorem dX11_reckon_149 : decode cX11_reckon 149 = .ok (.lload_n 2, 1) := by decide +kernel
