/-- the kinds of the places that the two constructors make -/
def K_0 : List (Nat × Nat) := [(0, 10), (1, 400), (0, 6), (0, 7), (1, 7), (1, 6), (1, 7), (1, 42), (1, 6), (1, 6), (1, 6), (5, 6), (0, 8), (1, 0), (1, 0), (4, 2), (0, 5), (1, 255), (1, 17), (0, 5), (1, 255), (1, 17), (0, 7), (1, 7), (1, 6), (0, 7), (1, 7), (1, 6), (0, 2), (0, 7), (1, 7), (1, 6), (0, 4), (1, 25), (2, 52), (0, 1), (1, 7), (1, 7), (0, 0), (0, 7), (1, 7), (1, 6), (1, 294), (1, 6), (1, 6), (0, 3), (0, 9), (1, 401), (1, 401), (1, 401), (0, 8), (1, 400), (1, 72), (1, 7), (0, 6), (0, 7), (1, 7), (1, 6), (1, 7), (1, 42), (1, 6), (1, 6), (1, 6), (5, 6), (0, 8), (1, 0), (1, 0), (0, 6), (0, 7), (1, 7), (1, 6), (1, 7), (1, 42), (1, 6), (1, 6), (1, 6), (5, 6), (0, 8), (1, 0), (1, 0), (0, 11), (1, 7), (1, 5490), (1, 10980), (3, 2), (1, 324), (1, 16), (1, 288), (1, 16), (1, 400), (1, 96), (1, 400), (1, 400), (1, 400), (1, 400), (2, 9), (2, 7), (2, 3), (2, 13), (2, 13), (2, 400), (1, 7), (1, 7), (1, 7), (1, 6), (1, 7), (2, 21), (2, 4), (1, 96), (1, 18)]
def R_0 : List (List (Option Nat)) := [[some 1, none, some 2, some 15, some 16, some 19, some 22, some 25, some 28, some 32, some 35, some 38, some 45, some 53], [], [some 3, none, some 6, some 7, none, some 8, some 9, none, none, none, none, some 10, none, some 11, some 12], [some 4, some 5], [], [], [], [], [], [], [], [], [some 13, some 14], [], [], [some 54, some 67], [some 17, some 18], [], [], [some 20, some 21], [], [], [some 23, some 24], [], [], [some 26, some 27], [], [], [some 29], [some 30, some 31], [], [], [some 33, some 34], [], [], [some 2, some 32, none, none, some 36, some 37], [], [], [some 35, some 39, some 42, some 43, some 44], [some 40, some 41], [], [], [], [], [], [some 46, some 50], [some 47, some 48, some 49], [], [], [], [some 51, some 52], [], [], [], [some 55, none, some 58, some 59, none, some 60, some 61, none, none, none, none, some 62, none, some 63, some 64], [some 56, some 57], [], [], [], [], [], [], [], [], [some 65, some 66], [], [], [some 68, none, some 71, some 72, none, some 73, some 74, none, none, none, none, some 75, none, some 76, some 77], [some 69, some 70], [], [], [], [], [], [], [], [], [some 78, some 79], [], [], [none, none, some 81, some 82, some 83, some 84, some 85, some 86, none, some 87, some 88, none, some 89, none, none, none, none, none, none, none, none, none, some 90, none, some 91, some 92, none, some 93, some 94, none, none, some 95, some 96, some 97, none, some 98, some 99, some 100, none, none, none, some 101, some 102, some 103, some 104, none, some 105, some 106, some 107, some 108, none, none, none, none, none, some 109], [], [], [], [], [], [], [], [], [], [], [], [], [], [], [], [], [], [], [], [], [], [], [], [], [], [], [], [], []]
def R_1 (p k : Nat) : Option Nat := (R_0.getD p []).getD k none
def S_1 : SH := (K_0, fun p => if p < 110 then (if p = 11 ∨ p = 63 ∨ p = 76 then none else some (R_1 p)) else none)
theorem KD_0 (h : AH) : KD S_1 h 0 = some (0, 10) := rfl
theorem KD_1 (h : AH) : KD S_1 h 1 = some (1, 400) := rfl
theorem KD_2 (h : AH) : KD S_1 h 2 = some (0, 6) := rfl
theorem KD_3 (h : AH) : KD S_1 h 3 = some (0, 7) := rfl
theorem KD_4 (h : AH) : KD S_1 h 4 = some (1, 7) := rfl
theorem KD_5 (h : AH) : KD S_1 h 5 = some (1, 6) := rfl
theorem KD_6 (h : AH) : KD S_1 h 6 = some (1, 7) := rfl
theorem KD_7 (h : AH) : KD S_1 h 7 = some (1, 42) := rfl
theorem KD_8 (h : AH) : KD S_1 h 8 = some (1, 6) := rfl
theorem KD_9 (h : AH) : KD S_1 h 9 = some (1, 6) := rfl
theorem KD_10 (h : AH) : KD S_1 h 10 = some (1, 6) := rfl
theorem KD_11 (h : AH) : KD S_1 h 11 = some (5, 6) := rfl
theorem KD_12 (h : AH) : KD S_1 h 12 = some (0, 8) := rfl
theorem KD_13 (h : AH) : KD S_1 h 13 = some (1, 0) := rfl
theorem KD_14 (h : AH) : KD S_1 h 14 = some (1, 0) := rfl
theorem KD_15 (h : AH) : KD S_1 h 15 = some (4, 2) := rfl
theorem KD_16 (h : AH) : KD S_1 h 16 = some (0, 5) := rfl
theorem KD_17 (h : AH) : KD S_1 h 17 = some (1, 255) := rfl
theorem KD_18 (h : AH) : KD S_1 h 18 = some (1, 17) := rfl
theorem KD_19 (h : AH) : KD S_1 h 19 = some (0, 5) := rfl
theorem KD_20 (h : AH) : KD S_1 h 20 = some (1, 255) := rfl
theorem KD_21 (h : AH) : KD S_1 h 21 = some (1, 17) := rfl
theorem KD_22 (h : AH) : KD S_1 h 22 = some (0, 7) := rfl
theorem KD_23 (h : AH) : KD S_1 h 23 = some (1, 7) := rfl
theorem KD_24 (h : AH) : KD S_1 h 24 = some (1, 6) := rfl
theorem KD_25 (h : AH) : KD S_1 h 25 = some (0, 7) := rfl
theorem KD_26 (h : AH) : KD S_1 h 26 = some (1, 7) := rfl
theorem KD_27 (h : AH) : KD S_1 h 27 = some (1, 6) := rfl
theorem KD_28 (h : AH) : KD S_1 h 28 = some (0, 2) := rfl
theorem KD_29 (h : AH) : KD S_1 h 29 = some (0, 7) := rfl
theorem KD_30 (h : AH) : KD S_1 h 30 = some (1, 7) := rfl
theorem KD_31 (h : AH) : KD S_1 h 31 = some (1, 6) := rfl
theorem KD_32 (h : AH) : KD S_1 h 32 = some (0, 4) := rfl
theorem KD_33 (h : AH) : KD S_1 h 33 = some (1, 25) := rfl
theorem KD_34 (h : AH) : KD S_1 h 34 = some (2, 52) := rfl
theorem KD_35 (h : AH) : KD S_1 h 35 = some (0, 1) := rfl
theorem KD_36 (h : AH) : KD S_1 h 36 = some (1, 7) := rfl
theorem KD_37 (h : AH) : KD S_1 h 37 = some (1, 7) := rfl
theorem KD_38 (h : AH) : KD S_1 h 38 = some (0, 0) := rfl
theorem KD_39 (h : AH) : KD S_1 h 39 = some (0, 7) := rfl
theorem KD_40 (h : AH) : KD S_1 h 40 = some (1, 7) := rfl
theorem KD_41 (h : AH) : KD S_1 h 41 = some (1, 6) := rfl
theorem KD_42 (h : AH) : KD S_1 h 42 = some (1, 294) := rfl
theorem KD_43 (h : AH) : KD S_1 h 43 = some (1, 6) := rfl
theorem KD_44 (h : AH) : KD S_1 h 44 = some (1, 6) := rfl
theorem KD_45 (h : AH) : KD S_1 h 45 = some (0, 3) := rfl
theorem KD_46 (h : AH) : KD S_1 h 46 = some (0, 9) := rfl
theorem KD_47 (h : AH) : KD S_1 h 47 = some (1, 401) := rfl
theorem KD_48 (h : AH) : KD S_1 h 48 = some (1, 401) := rfl
theorem KD_49 (h : AH) : KD S_1 h 49 = some (1, 401) := rfl
theorem KD_50 (h : AH) : KD S_1 h 50 = some (0, 8) := rfl
theorem KD_51 (h : AH) : KD S_1 h 51 = some (1, 400) := rfl
theorem KD_52 (h : AH) : KD S_1 h 52 = some (1, 72) := rfl
theorem KD_53 (h : AH) : KD S_1 h 53 = some (1, 7) := rfl
theorem KD_54 (h : AH) : KD S_1 h 54 = some (0, 6) := rfl
theorem KD_55 (h : AH) : KD S_1 h 55 = some (0, 7) := rfl
theorem KD_56 (h : AH) : KD S_1 h 56 = some (1, 7) := rfl
theorem KD_57 (h : AH) : KD S_1 h 57 = some (1, 6) := rfl
theorem KD_58 (h : AH) : KD S_1 h 58 = some (1, 7) := rfl
theorem KD_59 (h : AH) : KD S_1 h 59 = some (1, 42) := rfl
theorem KD_60 (h : AH) : KD S_1 h 60 = some (1, 6) := rfl
theorem KD_61 (h : AH) : KD S_1 h 61 = some (1, 6) := rfl
theorem KD_62 (h : AH) : KD S_1 h 62 = some (1, 6) := rfl
theorem KD_63 (h : AH) : KD S_1 h 63 = some (5, 6) := rfl
theorem KD_64 (h : AH) : KD S_1 h 64 = some (0, 8) := rfl
theorem KD_65 (h : AH) : KD S_1 h 65 = some (1, 0) := rfl
theorem KD_66 (h : AH) : KD S_1 h 66 = some (1, 0) := rfl
theorem KD_67 (h : AH) : KD S_1 h 67 = some (0, 6) := rfl
theorem KD_68 (h : AH) : KD S_1 h 68 = some (0, 7) := rfl
theorem KD_69 (h : AH) : KD S_1 h 69 = some (1, 7) := rfl
theorem KD_70 (h : AH) : KD S_1 h 70 = some (1, 6) := rfl
theorem KD_71 (h : AH) : KD S_1 h 71 = some (1, 7) := rfl
theorem KD_72 (h : AH) : KD S_1 h 72 = some (1, 42) := rfl
theorem KD_73 (h : AH) : KD S_1 h 73 = some (1, 6) := rfl
theorem KD_74 (h : AH) : KD S_1 h 74 = some (1, 6) := rfl
theorem KD_75 (h : AH) : KD S_1 h 75 = some (1, 6) := rfl
theorem KD_76 (h : AH) : KD S_1 h 76 = some (5, 6) := rfl
theorem KD_77 (h : AH) : KD S_1 h 77 = some (0, 8) := rfl
theorem KD_78 (h : AH) : KD S_1 h 78 = some (1, 0) := rfl
theorem KD_79 (h : AH) : KD S_1 h 79 = some (1, 0) := rfl
theorem KD_80 (h : AH) : KD S_1 h 80 = some (0, 11) := rfl
theorem KD_81 (h : AH) : KD S_1 h 81 = some (1, 7) := rfl
theorem KD_82 (h : AH) : KD S_1 h 82 = some (1, 5490) := rfl
theorem KD_83 (h : AH) : KD S_1 h 83 = some (1, 10980) := rfl
theorem KD_84 (h : AH) : KD S_1 h 84 = some (3, 2) := rfl
theorem KD_85 (h : AH) : KD S_1 h 85 = some (1, 324) := rfl
theorem KD_86 (h : AH) : KD S_1 h 86 = some (1, 16) := rfl
theorem KD_87 (h : AH) : KD S_1 h 87 = some (1, 288) := rfl
theorem KD_88 (h : AH) : KD S_1 h 88 = some (1, 16) := rfl
theorem KD_89 (h : AH) : KD S_1 h 89 = some (1, 400) := rfl
theorem KD_90 (h : AH) : KD S_1 h 90 = some (1, 96) := rfl
theorem KD_91 (h : AH) : KD S_1 h 91 = some (1, 400) := rfl
theorem KD_92 (h : AH) : KD S_1 h 92 = some (1, 400) := rfl
theorem KD_93 (h : AH) : KD S_1 h 93 = some (1, 400) := rfl
theorem KD_94 (h : AH) : KD S_1 h 94 = some (1, 400) := rfl
theorem KD_95 (h : AH) : KD S_1 h 95 = some (2, 9) := rfl
theorem KD_96 (h : AH) : KD S_1 h 96 = some (2, 7) := rfl
theorem KD_97 (h : AH) : KD S_1 h 97 = some (2, 3) := rfl
theorem KD_98 (h : AH) : KD S_1 h 98 = some (2, 13) := rfl
theorem KD_99 (h : AH) : KD S_1 h 99 = some (2, 13) := rfl
theorem KD_100 (h : AH) : KD S_1 h 100 = some (2, 400) := rfl
theorem KD_101 (h : AH) : KD S_1 h 101 = some (1, 7) := rfl
theorem KD_102 (h : AH) : KD S_1 h 102 = some (1, 7) := rfl
theorem KD_103 (h : AH) : KD S_1 h 103 = some (1, 7) := rfl
theorem KD_104 (h : AH) : KD S_1 h 104 = some (1, 6) := rfl
theorem KD_105 (h : AH) : KD S_1 h 105 = some (1, 7) := rfl
theorem KD_106 (h : AH) : KD S_1 h 106 = some (2, 21) := rfl
theorem KD_107 (h : AH) : KD S_1 h 107 = some (2, 4) := rfl
theorem KD_108 (h : AH) : KD S_1 h 108 = some (1, 96) := rfl
theorem KD_109 (h : AH) : KD S_1 h 109 = some (1, 18) := rfl
theorem RF_0_0 (h : AH) : RF S_1 h 0 0 = some 1 := rfl
theorem RF_0_2 (h : AH) : RF S_1 h 0 2 = some 2 := rfl
theorem RF_0_3 (h : AH) : RF S_1 h 0 3 = some 15 := rfl
theorem RF_0_4 (h : AH) : RF S_1 h 0 4 = some 16 := rfl
theorem RF_0_5 (h : AH) : RF S_1 h 0 5 = some 19 := rfl
theorem RF_0_6 (h : AH) : RF S_1 h 0 6 = some 22 := rfl
theorem RF_0_7 (h : AH) : RF S_1 h 0 7 = some 25 := rfl
theorem RF_0_8 (h : AH) : RF S_1 h 0 8 = some 28 := rfl
theorem RF_0_9 (h : AH) : RF S_1 h 0 9 = some 32 := rfl
theorem RF_0_10 (h : AH) : RF S_1 h 0 10 = some 35 := rfl
theorem RF_0_11 (h : AH) : RF S_1 h 0 11 = some 38 := rfl
theorem RF_0_12 (h : AH) : RF S_1 h 0 12 = some 45 := rfl
theorem RF_0_13 (h : AH) : RF S_1 h 0 13 = some 53 := rfl
theorem RF_2_0 (h : AH) : RF S_1 h 2 0 = some 3 := rfl
theorem RF_2_2 (h : AH) : RF S_1 h 2 2 = some 6 := rfl
theorem RF_2_3 (h : AH) : RF S_1 h 2 3 = some 7 := rfl
theorem RF_2_5 (h : AH) : RF S_1 h 2 5 = some 8 := rfl
theorem RF_2_6 (h : AH) : RF S_1 h 2 6 = some 9 := rfl
theorem RF_2_11 (h : AH) : RF S_1 h 2 11 = some 10 := rfl
theorem RF_2_13 (h : AH) : RF S_1 h 2 13 = some 11 := rfl
theorem RF_2_14 (h : AH) : RF S_1 h 2 14 = some 12 := rfl
theorem RF_3_0 (h : AH) : RF S_1 h 3 0 = some 4 := rfl
theorem RF_3_1 (h : AH) : RF S_1 h 3 1 = some 5 := rfl
theorem RF_12_0 (h : AH) : RF S_1 h 12 0 = some 13 := rfl
theorem RF_12_1 (h : AH) : RF S_1 h 12 1 = some 14 := rfl
theorem RF_15_0 (h : AH) : RF S_1 h 15 0 = some 54 := rfl
theorem RF_15_1 (h : AH) : RF S_1 h 15 1 = some 67 := rfl
theorem RF_16_0 (h : AH) : RF S_1 h 16 0 = some 17 := rfl
theorem RF_16_1 (h : AH) : RF S_1 h 16 1 = some 18 := rfl
theorem RF_19_0 (h : AH) : RF S_1 h 19 0 = some 20 := rfl
theorem RF_19_1 (h : AH) : RF S_1 h 19 1 = some 21 := rfl
theorem RF_22_0 (h : AH) : RF S_1 h 22 0 = some 23 := rfl
theorem RF_22_1 (h : AH) : RF S_1 h 22 1 = some 24 := rfl
theorem RF_25_0 (h : AH) : RF S_1 h 25 0 = some 26 := rfl
theorem RF_25_1 (h : AH) : RF S_1 h 25 1 = some 27 := rfl
theorem RF_28_0 (h : AH) : RF S_1 h 28 0 = some 29 := rfl
theorem RF_29_0 (h : AH) : RF S_1 h 29 0 = some 30 := rfl
theorem RF_29_1 (h : AH) : RF S_1 h 29 1 = some 31 := rfl
theorem RF_32_0 (h : AH) : RF S_1 h 32 0 = some 33 := rfl
theorem RF_32_1 (h : AH) : RF S_1 h 32 1 = some 34 := rfl
theorem RF_35_0 (h : AH) : RF S_1 h 35 0 = some 2 := rfl
theorem RF_35_1 (h : AH) : RF S_1 h 35 1 = some 32 := rfl
theorem RF_35_4 (h : AH) : RF S_1 h 35 4 = some 36 := rfl
theorem RF_35_5 (h : AH) : RF S_1 h 35 5 = some 37 := rfl
theorem RF_38_0 (h : AH) : RF S_1 h 38 0 = some 35 := rfl
theorem RF_38_1 (h : AH) : RF S_1 h 38 1 = some 39 := rfl
theorem RF_38_2 (h : AH) : RF S_1 h 38 2 = some 42 := rfl
theorem RF_38_3 (h : AH) : RF S_1 h 38 3 = some 43 := rfl
theorem RF_38_4 (h : AH) : RF S_1 h 38 4 = some 44 := rfl
theorem RF_39_0 (h : AH) : RF S_1 h 39 0 = some 40 := rfl
theorem RF_39_1 (h : AH) : RF S_1 h 39 1 = some 41 := rfl
theorem RF_45_0 (h : AH) : RF S_1 h 45 0 = some 46 := rfl
theorem RF_45_1 (h : AH) : RF S_1 h 45 1 = some 50 := rfl
theorem RF_46_0 (h : AH) : RF S_1 h 46 0 = some 47 := rfl
theorem RF_46_1 (h : AH) : RF S_1 h 46 1 = some 48 := rfl
theorem RF_46_2 (h : AH) : RF S_1 h 46 2 = some 49 := rfl
theorem RF_50_0 (h : AH) : RF S_1 h 50 0 = some 51 := rfl
theorem RF_50_1 (h : AH) : RF S_1 h 50 1 = some 52 := rfl
theorem RF_54_0 (h : AH) : RF S_1 h 54 0 = some 55 := rfl
theorem RF_54_2 (h : AH) : RF S_1 h 54 2 = some 58 := rfl
theorem RF_54_3 (h : AH) : RF S_1 h 54 3 = some 59 := rfl
theorem RF_54_5 (h : AH) : RF S_1 h 54 5 = some 60 := rfl
theorem RF_54_6 (h : AH) : RF S_1 h 54 6 = some 61 := rfl
theorem RF_54_11 (h : AH) : RF S_1 h 54 11 = some 62 := rfl
theorem RF_54_13 (h : AH) : RF S_1 h 54 13 = some 63 := rfl
theorem RF_54_14 (h : AH) : RF S_1 h 54 14 = some 64 := rfl
theorem RF_55_0 (h : AH) : RF S_1 h 55 0 = some 56 := rfl
theorem RF_55_1 (h : AH) : RF S_1 h 55 1 = some 57 := rfl
theorem RF_64_0 (h : AH) : RF S_1 h 64 0 = some 65 := rfl
theorem RF_64_1 (h : AH) : RF S_1 h 64 1 = some 66 := rfl
theorem RF_67_0 (h : AH) : RF S_1 h 67 0 = some 68 := rfl
theorem RF_67_2 (h : AH) : RF S_1 h 67 2 = some 71 := rfl
theorem RF_67_3 (h : AH) : RF S_1 h 67 3 = some 72 := rfl
theorem RF_67_5 (h : AH) : RF S_1 h 67 5 = some 73 := rfl
theorem RF_67_6 (h : AH) : RF S_1 h 67 6 = some 74 := rfl
theorem RF_67_11 (h : AH) : RF S_1 h 67 11 = some 75 := rfl
theorem RF_67_13 (h : AH) : RF S_1 h 67 13 = some 76 := rfl
theorem RF_67_14 (h : AH) : RF S_1 h 67 14 = some 77 := rfl
theorem RF_68_0 (h : AH) : RF S_1 h 68 0 = some 69 := rfl
theorem RF_68_1 (h : AH) : RF S_1 h 68 1 = some 70 := rfl
theorem RF_77_0 (h : AH) : RF S_1 h 77 0 = some 78 := rfl
theorem RF_77_1 (h : AH) : RF S_1 h 77 1 = some 79 := rfl
theorem RF_80_2 (h : AH) : RF S_1 h 80 2 = some 81 := rfl
theorem RF_80_3 (h : AH) : RF S_1 h 80 3 = some 82 := rfl
theorem RF_80_4 (h : AH) : RF S_1 h 80 4 = some 83 := rfl
theorem RF_80_5 (h : AH) : RF S_1 h 80 5 = some 84 := rfl
theorem RF_80_6 (h : AH) : RF S_1 h 80 6 = some 85 := rfl
theorem RF_80_7 (h : AH) : RF S_1 h 80 7 = some 86 := rfl
theorem RF_80_9 (h : AH) : RF S_1 h 80 9 = some 87 := rfl
theorem RF_80_10 (h : AH) : RF S_1 h 80 10 = some 88 := rfl
theorem RF_80_12 (h : AH) : RF S_1 h 80 12 = some 89 := rfl
theorem RF_80_22 (h : AH) : RF S_1 h 80 22 = some 90 := rfl
theorem RF_80_24 (h : AH) : RF S_1 h 80 24 = some 91 := rfl
theorem RF_80_25 (h : AH) : RF S_1 h 80 25 = some 92 := rfl
theorem RF_80_27 (h : AH) : RF S_1 h 80 27 = some 93 := rfl
theorem RF_80_28 (h : AH) : RF S_1 h 80 28 = some 94 := rfl
theorem RF_80_31 (h : AH) : RF S_1 h 80 31 = some 95 := rfl
theorem RF_80_32 (h : AH) : RF S_1 h 80 32 = some 96 := rfl
theorem RF_80_33 (h : AH) : RF S_1 h 80 33 = some 97 := rfl
theorem RF_80_35 (h : AH) : RF S_1 h 80 35 = some 98 := rfl
theorem RF_80_36 (h : AH) : RF S_1 h 80 36 = some 99 := rfl
theorem RF_80_37 (h : AH) : RF S_1 h 80 37 = some 100 := rfl
theorem RF_80_41 (h : AH) : RF S_1 h 80 41 = some 101 := rfl
theorem RF_80_42 (h : AH) : RF S_1 h 80 42 = some 102 := rfl
theorem RF_80_43 (h : AH) : RF S_1 h 80 43 = some 103 := rfl
theorem RF_80_44 (h : AH) : RF S_1 h 80 44 = some 104 := rfl
theorem RF_80_46 (h : AH) : RF S_1 h 80 46 = some 105 := rfl
theorem RF_80_47 (h : AH) : RF S_1 h 80 47 = some 106 := rfl
theorem RF_80_48 (h : AH) : RF S_1 h 80 48 = some 107 := rfl
theorem RF_80_49 (h : AH) : RF S_1 h 80 49 = some 108 := rfl
theorem RF_80_55 (h : AH) : RF S_1 h 80 55 = some 109 := rfl
theorem S_1_new (h : AH) : S_1.2 (S_1.1 ++ h.1).length = none := by
  have e : (S_1.1 ++ h.1).length = 110 + h.1.length := by rw [List.length_append]; rfl
  rw [e]
  simp only [S_1]
  rw [if_neg (by omega)]
theorem RF_11 (h : AH) (k : Nat) : RF S_1 h 11 k = h.2.2.2 11 k := rfl
theorem RF_63 (h : AH) (k : Nat) : RF S_1 h 63 k = h.2.2.2 63 k := rfl
theorem RF_76 (h : AH) (k : Nat) : RF S_1 h 76 k = h.2.2.2 76 k := rfl
theorem stI_I (h : AH) (p k : Nat) (v : Int32) (q j : Nat) : (stI h p k v).2.1 q j = if q = p ∧ j = k then v else h.2.1 q j := rfl
theorem stI_J (h : AH) (p k : Nat) (v : Int32) : (stI h p k v).2.2.1 = h.2.2.1 := rfl
theorem stI_R (h : AH) (p k : Nat) (v : Int32) : (stI h p k v).2.2.2 = h.2.2.2 := rfl
theorem stI_K (h : AH) (p k : Nat) (v : Int32) : (stI h p k v).1 = h.1 := rfl
theorem stJ_I (h : AH) (p k : Nat) (v : Int64) : (stJ h p k v).2.1 = h.2.1 := rfl
theorem stJ_J (h : AH) (p k : Nat) (v : Int64) (q j : Nat) : (stJ h p k v).2.2.1 q j = if q = p ∧ j = k then v else h.2.2.1 q j := rfl
theorem stJ_R (h : AH) (p k : Nat) (v : Int64) : (stJ h p k v).2.2.2 = h.2.2.2 := rfl
theorem stJ_K (h : AH) (p k : Nat) (v : Int64) : (stJ h p k v).1 = h.1 := rfl
theorem KD_stI (S : SH) (h : AH) (p k : Nat) (v : Int32) (q : Nat) : KD S (stI h p k v) q = KD S h q := rfl
theorem KD_stJ (S : SH) (h : AH) (p k : Nat) (v : Int64) (q : Nat) : KD S (stJ h p k v) q = KD S h q := rfl
theorem RF_stI (S : SH) (h : AH) (p k : Nat) (v : Int32) (q : Nat) : RF S (stI h p k v) q = RF S h q := rfl
theorem RF_stJ (S : SH) (h : AH) (p k : Nat) (v : Int64) (q : Nat) : RF S (stJ h p k v) q = RF S h q := rfl
/-! the heap behind the constructors -/
def H_1 : AH := nwH S_0 h_0 (0, 10)
def H_2 : AH := ((f_X10_init S_0 0 H_1).getD ((), h_0)).2
def H_3 : AH := nwH S_0 H_2 (0, 11)
def H_4 : AH := ((f_X11_init S_0 80 H_3).getD ((), h_0)).2
theorem e_H2 : (f_X10_init S_0 0 H_1).isSome = true := by decide +kernel
theorem k_H2 : H_2.1 = K_0.take 80 := by decide +kernel
theorem e_H4 : (f_X11_init S_0 80 H_3).isSome = true := by decide +kernel
theorem k_H4 : H_4.1 = K_0 := by decide +kernel
