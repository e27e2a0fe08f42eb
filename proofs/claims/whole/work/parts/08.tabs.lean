/-! the shape: 103 cells of the class, the reference from 103 on, the law's row behind them -/
def zkd : List Nat := [11, 0, 13, 14, 13, 2, 14, 14, 14, 14, 14, 14, 14, 14, 14, 14, 14, 1, 14, 14, 14, 14, 14, 14, 14, 17, 10, 14, 10, 14, 10, 14, 10, 14, 10, 14, 10, 14, 10, 14, 10, 14, 6, 14, 14, 14, 14, 14, 9, 14, 4, 14, 14, 5, 14, 14, 14, 8, 19, 14, 14, 14, 14, 14, 14, 14, 14, 14, 14, 14, 14, 14, 16, 16, 7, 14, 14, 3, 18, 13, 13, 13, 13, 13, 13, 13, 13, 13, 13, 13, 13, 13, 13, 13, 13, 13, 13, 13, 13, 0, 13, 14, 13, 12, 14, 14, 14, 14, 14, 16, 14, 14, 16, 14, 14, 14, 14, 14, 14, 14, 14, 14, 14, 14, 16, 16, 16, 14, 14, 14, 14, 14, 16, 14, 14, 14, 14, 14, 14, 14, 14, 14, 15, 15, 15]
def zle : List Nat := [0, 0, 192, 16, 192, 0, 192, 192, 192, 192, 192, 192, 192, 252, 192, 16, 252, 0, 413, 413, 413, 413, 413, 413, 413, 8, 0, 120, 0, 120, 0, 120, 0, 120, 0, 120, 0, 120, 0, 120, 0, 120, 0, 413, 413, 413, 413, 413, 0, 192, 0, 16, 16, 0, 7, 7, 896, 0, 12, 120, 120, 120, 120, 120, 120, 120, 120, 120, 120, 120, 120, 12, 12, 12, 0, 13, 0, 0, 20, 192, 192, 192, 192, 192, 192, 192, 192, 192, 192, 192, 192, 192, 192, 192, 192, 192, 192, 192, 192, 0, 192, 16, 192, 0, 192, 16, 4032, 1440, 12, 12, 192, 16, 12, 192, 192, 192, 192, 252, 900, 901, 901, 900, 900, 1800, 900, 600000, 600000, 901, 16, 192, 7, 7, 130, 130, 8, 8, 8, 8, 8, 8, 8, 8, 960, 120, 1]
def zco : List (List Nat) := [[3, 7, 19, 44, 50, 52, 55, 59, 76, 79, 27, 101, 0], [0, 0, 0, 0, 4, 5, 6, 0, 0], [], [], [], [3, 0, 0, 8, 9, 10, 11, 12, 13, 14, 15, 16, 17, 18, 0, 0, 0, 0], [], [], [], [], [], [], [], [], [], [], [], [7, 0, 20, 21, 22, 23, 0, 0, 0, 24, 25, 26], [], [], [], [], [], [], [], [28, 30, 32, 34, 36, 38, 40, 42], [0, 0, 0, 29, 0, 0, 0, 0, 0], [], [0, 0, 0, 31, 0, 0, 0, 0, 0], [], [0, 0, 0, 33, 0, 0, 0, 0, 0], [], [0, 0, 0, 35, 0, 0, 0, 0, 0], [], [0, 0, 0, 37, 0, 0, 0, 0, 0], [], [0, 0, 0, 39, 0, 0, 0, 0, 0], [], [0, 0, 0, 41, 0, 0, 0, 0, 0], [], [0, 0, 0, 43, 0, 0, 0, 0, 0], [], [19, 0, 45, 0, 0, 0, 46, 47, 48, 49, 0, 0], [], [], [], [], [], [7, 51, 0], [], [3, 0, 0, 53, 54], [], [], [7, 0, 0, 56, 57, 58], [], [], [], [0, 60, 73, 74, 0, 75], [61, 62, 63, 64, 65, 66, 67, 68, 69, 70, 71, 72], [], [], [], [], [], [], [], [], [], [], [], [], [], [], [], [77, 0, 1, 0, 0], [], [], [0, 0, 0, 80], [81, 82, 83, 84, 85, 86, 87, 88, 89, 90, 91, 92, 93, 94, 95, 96, 97, 98, 99, 100], [], [], [], [], [], [], [], [], [], [], [], [], [], [], [], [], [], [], [], [], [0, 0, 0, 0, 102, 103, 104, 0, 0], [], [], [], [0, 0, 0, 106, 107, 0, 108, 0, 0, 0, 109, 110, 111, 0, 0, 0, 112, 113, 0, 0, 114, 0, 0, 0, 0, 115, 0, 0, 116, 117, 0, 118, 0, 0, 0, 0, 119, 0, 0, 120, 121, 122, 0, 123, 124, 125, 126, 127, 128, 129, 0, 130, 0, 0, 131, 132, 133, 0, 0, 0, 0, 134, 0, 135, 0, 136, 137, 138, 139, 140, 141, 142, 143, 144, 145], [], [], [], [], [], [], [], [], [], [], [], [], [], [], [], [], [], [], [], [], [], [], [], [], [], [], [], [], [], [], [], [], [], [], [], [], [], [], [], [], []]
def zS : zSh := (fun c => zkd.getD c 99, fun c => zle.getD c 0, fun c k => (zco.getD c []).getD k 0)
theorem fi_0_0 : zfi zS 145 0 11 0 3 = true := by decide +kernel
theorem fi_0_1 : zfi zS 145 0 11 1 7 = true := by decide +kernel
theorem fi_0_2 : zfi zS 145 0 11 2 19 = true := by decide +kernel
theorem fi_0_3 : zfi zS 145 0 11 3 44 = true := by decide +kernel
theorem fi_0_4 : zfi zS 145 0 11 4 50 = true := by decide +kernel
theorem fi_0_5 : zfi zS 145 0 11 5 52 = true := by decide +kernel
theorem fi_0_6 : zfi zS 145 0 11 6 55 = true := by decide +kernel
theorem fi_0_7 : zfi zS 145 0 11 7 59 = true := by decide +kernel
theorem fi_0_8 : zfi zS 145 0 11 8 76 = true := by decide +kernel
theorem fi_0_9 : zfi zS 145 0 11 9 79 = true := by decide +kernel
theorem fi_0_10 : zfi zS 145 0 11 10 27 = true := by decide +kernel
theorem fi_0_11 : zfi zS 145 0 11 11 101 = true := by decide +kernel
theorem fi_0_12 : zfi zS 145 0 11 12 0 = true := by decide +kernel
theorem fi_1_0 : zfi zS 145 1 0 0 0 = true := by decide +kernel
theorem fi_1_1 : zfi zS 145 1 0 1 0 = true := by decide +kernel
theorem fi_1_2 : zfi zS 145 1 0 2 0 = true := by decide +kernel
theorem fi_1_3 : zfi zS 145 1 0 3 0 = true := by decide +kernel
theorem fi_1_4 : zfi zS 145 1 0 4 4 = true := by decide +kernel
theorem fi_1_5 : zfi zS 145 1 0 5 5 = true := by decide +kernel
theorem fi_1_6 : zfi zS 145 1 0 6 6 = true := by decide +kernel
theorem fi_1_7 : zfi zS 145 1 0 7 0 = true := by decide +kernel
theorem fi_1_8 : zfi zS 145 1 0 8 0 = true := by decide +kernel
theorem fi_5_0 : zfi zS 145 5 2 0 3 = true := by decide +kernel
theorem fi_5_1 : zfi zS 145 5 2 1 0 = true := by decide +kernel
theorem fi_5_2 : zfi zS 145 5 2 2 0 = true := by decide +kernel
theorem fi_5_3 : zfi zS 145 5 2 3 8 = true := by decide +kernel
theorem fi_5_4 : zfi zS 145 5 2 4 9 = true := by decide +kernel
theorem fi_5_5 : zfi zS 145 5 2 5 10 = true := by decide +kernel
theorem fi_5_6 : zfi zS 145 5 2 6 11 = true := by decide +kernel
theorem fi_5_7 : zfi zS 145 5 2 7 12 = true := by decide +kernel
theorem fi_5_8 : zfi zS 145 5 2 8 13 = true := by decide +kernel
theorem fi_5_9 : zfi zS 145 5 2 9 14 = true := by decide +kernel
theorem fi_5_10 : zfi zS 145 5 2 10 15 = true := by decide +kernel
theorem fi_5_11 : zfi zS 145 5 2 11 16 = true := by decide +kernel
theorem fi_5_12 : zfi zS 145 5 2 12 17 = true := by decide +kernel
theorem fi_5_13 : zfi zS 145 5 2 13 18 = true := by decide +kernel
theorem fi_5_14 : zfi zS 145 5 2 14 0 = true := by decide +kernel
theorem fi_5_15 : zfi zS 145 5 2 15 0 = true := by decide +kernel
theorem fi_5_16 : zfi zS 145 5 2 16 0 = true := by decide +kernel
theorem fi_5_17 : zfi zS 145 5 2 17 0 = true := by decide +kernel
theorem fi_17_0 : zfi zS 145 17 1 0 7 = true := by decide +kernel
theorem fi_17_1 : zfi zS 145 17 1 1 0 = true := by decide +kernel
theorem fi_17_2 : zfi zS 145 17 1 2 20 = true := by decide +kernel
theorem fi_17_3 : zfi zS 145 17 1 3 21 = true := by decide +kernel
theorem fi_17_4 : zfi zS 145 17 1 4 22 = true := by decide +kernel
theorem fi_17_5 : zfi zS 145 17 1 5 23 = true := by decide +kernel
theorem fi_17_6 : zfi zS 145 17 1 6 0 = true := by decide +kernel
theorem fi_17_7 : zfi zS 145 17 1 7 0 = true := by decide +kernel
theorem fi_17_8 : zfi zS 145 17 1 8 0 = true := by decide +kernel
theorem fi_17_9 : zfi zS 145 17 1 9 24 = true := by decide +kernel
theorem fi_17_10 : zfi zS 145 17 1 10 25 = true := by decide +kernel
theorem fi_17_11 : zfi zS 145 17 1 11 26 = true := by decide +kernel
theorem fi_42_0 : zfi zS 145 42 6 0 19 = true := by decide +kernel
theorem fi_42_1 : zfi zS 145 42 6 1 0 = true := by decide +kernel
theorem fi_42_2 : zfi zS 145 42 6 2 45 = true := by decide +kernel
theorem fi_42_3 : zfi zS 145 42 6 3 0 = true := by decide +kernel
theorem fi_42_4 : zfi zS 145 42 6 4 0 = true := by decide +kernel
theorem fi_42_5 : zfi zS 145 42 6 5 0 = true := by decide +kernel
theorem fi_42_6 : zfi zS 145 42 6 6 46 = true := by decide +kernel
theorem fi_42_7 : zfi zS 145 42 6 7 47 = true := by decide +kernel
theorem fi_42_8 : zfi zS 145 42 6 8 48 = true := by decide +kernel
theorem fi_42_9 : zfi zS 145 42 6 9 49 = true := by decide +kernel
theorem fi_42_10 : zfi zS 145 42 6 10 0 = true := by decide +kernel
theorem fi_42_11 : zfi zS 145 42 6 11 0 = true := by decide +kernel
theorem fi_48_0 : zfi zS 145 48 9 0 7 = true := by decide +kernel
theorem fi_48_1 : zfi zS 145 48 9 1 51 = true := by decide +kernel
theorem fi_48_2 : zfi zS 145 48 9 2 0 = true := by decide +kernel
theorem fi_50_0 : zfi zS 145 50 4 0 3 = true := by decide +kernel
theorem fi_50_1 : zfi zS 145 50 4 1 0 = true := by decide +kernel
theorem fi_50_2 : zfi zS 145 50 4 2 0 = true := by decide +kernel
theorem fi_50_3 : zfi zS 145 50 4 3 53 = true := by decide +kernel
theorem fi_50_4 : zfi zS 145 50 4 4 54 = true := by decide +kernel
theorem fi_53_0 : zfi zS 145 53 5 0 7 = true := by decide +kernel
theorem fi_53_1 : zfi zS 145 53 5 1 0 = true := by decide +kernel
theorem fi_53_2 : zfi zS 145 53 5 2 0 = true := by decide +kernel
theorem fi_53_3 : zfi zS 145 53 5 3 56 = true := by decide +kernel
theorem fi_53_4 : zfi zS 145 53 5 4 57 = true := by decide +kernel
theorem fi_53_5 : zfi zS 145 53 5 5 58 = true := by decide +kernel
theorem fi_57_0 : zfi zS 145 57 8 0 0 = true := by decide +kernel
theorem fi_57_1 : zfi zS 145 57 8 1 60 = true := by decide +kernel
theorem fi_57_2 : zfi zS 145 57 8 2 73 = true := by decide +kernel
theorem fi_57_3 : zfi zS 145 57 8 3 74 = true := by decide +kernel
theorem fi_57_4 : zfi zS 145 57 8 4 0 = true := by decide +kernel
theorem fi_57_5 : zfi zS 145 57 8 5 75 = true := by decide +kernel
theorem fi_74_0 : zfi zS 145 74 7 0 77 = true := by decide +kernel
theorem fi_74_1 : zfi zS 145 74 7 1 0 = true := by decide +kernel
theorem fi_74_2 : zfi zS 145 74 7 2 1 = true := by decide +kernel
theorem fi_74_3 : zfi zS 145 74 7 3 0 = true := by decide +kernel
theorem fi_74_4 : zfi zS 145 74 7 4 0 = true := by decide +kernel
theorem fi_77_0 : zfi zS 145 77 3 0 0 = true := by decide +kernel
theorem fi_77_1 : zfi zS 145 77 3 1 0 = true := by decide +kernel
theorem fi_77_2 : zfi zS 145 77 3 2 0 = true := by decide +kernel
theorem fi_77_3 : zfi zS 145 77 3 3 80 = true := by decide +kernel
theorem fi_99_0 : zfi zS 145 99 0 0 0 = true := by decide +kernel
theorem fi_99_1 : zfi zS 145 99 0 1 0 = true := by decide +kernel
theorem fi_99_2 : zfi zS 145 99 0 2 0 = true := by decide +kernel
theorem fi_99_3 : zfi zS 145 99 0 3 0 = true := by decide +kernel
theorem fi_99_4 : zfi zS 145 99 0 4 102 = true := by decide +kernel
theorem fi_99_5 : zfi zS 145 99 0 5 103 = true := by decide +kernel
theorem fi_103_0 : zfi zS 145 103 12 0 0 = true := by decide +kernel
theorem fi_103_1 : zfi zS 145 103 12 1 0 = true := by decide +kernel
theorem fi_103_2 : zfi zS 145 103 12 2 0 = true := by decide +kernel
theorem fi_103_3 : zfi zS 145 103 12 3 106 = true := by decide +kernel
theorem fi_103_4 : zfi zS 145 103 12 4 107 = true := by decide +kernel
theorem fi_103_5 : zfi zS 145 103 12 5 0 = true := by decide +kernel
theorem fi_103_6 : zfi zS 145 103 12 6 108 = true := by decide +kernel
theorem fi_103_7 : zfi zS 145 103 12 7 0 = true := by decide +kernel
theorem fi_103_8 : zfi zS 145 103 12 8 0 = true := by decide +kernel
theorem fi_103_9 : zfi zS 145 103 12 9 0 = true := by decide +kernel
theorem fi_103_10 : zfi zS 145 103 12 10 109 = true := by decide +kernel
theorem fi_103_11 : zfi zS 145 103 12 11 110 = true := by decide +kernel
theorem fi_103_12 : zfi zS 145 103 12 12 111 = true := by decide +kernel
theorem fi_103_13 : zfi zS 145 103 12 13 0 = true := by decide +kernel
theorem fi_103_14 : zfi zS 145 103 12 14 0 = true := by decide +kernel
theorem fi_103_15 : zfi zS 145 103 12 15 0 = true := by decide +kernel
theorem fi_103_16 : zfi zS 145 103 12 16 112 = true := by decide +kernel
theorem fi_103_17 : zfi zS 145 103 12 17 113 = true := by decide +kernel
theorem fi_103_18 : zfi zS 145 103 12 18 0 = true := by decide +kernel
theorem fi_103_19 : zfi zS 145 103 12 19 0 = true := by decide +kernel
theorem fi_103_20 : zfi zS 145 103 12 20 114 = true := by decide +kernel
theorem fi_103_21 : zfi zS 145 103 12 21 0 = true := by decide +kernel
theorem fi_103_22 : zfi zS 145 103 12 22 0 = true := by decide +kernel
theorem fi_103_23 : zfi zS 145 103 12 23 0 = true := by decide +kernel
theorem fi_103_24 : zfi zS 145 103 12 24 0 = true := by decide +kernel
theorem fi_103_25 : zfi zS 145 103 12 25 115 = true := by decide +kernel
theorem fi_103_26 : zfi zS 145 103 12 26 0 = true := by decide +kernel
theorem fi_103_27 : zfi zS 145 103 12 27 0 = true := by decide +kernel
theorem fi_103_28 : zfi zS 145 103 12 28 116 = true := by decide +kernel
theorem fi_103_29 : zfi zS 145 103 12 29 117 = true := by decide +kernel
theorem fi_103_30 : zfi zS 145 103 12 30 0 = true := by decide +kernel
theorem fi_103_31 : zfi zS 145 103 12 31 118 = true := by decide +kernel
theorem fi_103_32 : zfi zS 145 103 12 32 0 = true := by decide +kernel
theorem fi_103_33 : zfi zS 145 103 12 33 0 = true := by decide +kernel
theorem fi_103_34 : zfi zS 145 103 12 34 0 = true := by decide +kernel
theorem fi_103_35 : zfi zS 145 103 12 35 0 = true := by decide +kernel
theorem fi_103_36 : zfi zS 145 103 12 36 119 = true := by decide +kernel
theorem fi_103_37 : zfi zS 145 103 12 37 0 = true := by decide +kernel
theorem fi_103_38 : zfi zS 145 103 12 38 0 = true := by decide +kernel
theorem fi_103_39 : zfi zS 145 103 12 39 120 = true := by decide +kernel
theorem fi_103_40 : zfi zS 145 103 12 40 121 = true := by decide +kernel
theorem fi_103_41 : zfi zS 145 103 12 41 122 = true := by decide +kernel
theorem fi_103_42 : zfi zS 145 103 12 42 0 = true := by decide +kernel
theorem fi_103_43 : zfi zS 145 103 12 43 123 = true := by decide +kernel
theorem fi_103_44 : zfi zS 145 103 12 44 124 = true := by decide +kernel
theorem fi_103_45 : zfi zS 145 103 12 45 125 = true := by decide +kernel
theorem fi_103_46 : zfi zS 145 103 12 46 126 = true := by decide +kernel
theorem fi_103_47 : zfi zS 145 103 12 47 127 = true := by decide +kernel
theorem fi_103_48 : zfi zS 145 103 12 48 128 = true := by decide +kernel
theorem fi_103_49 : zfi zS 145 103 12 49 129 = true := by decide +kernel
theorem fi_103_50 : zfi zS 145 103 12 50 0 = true := by decide +kernel
theorem fi_103_51 : zfi zS 145 103 12 51 130 = true := by decide +kernel
theorem fi_103_52 : zfi zS 145 103 12 52 0 = true := by decide +kernel
theorem fi_103_53 : zfi zS 145 103 12 53 0 = true := by decide +kernel
theorem fi_103_54 : zfi zS 145 103 12 54 131 = true := by decide +kernel
theorem fi_103_55 : zfi zS 145 103 12 55 132 = true := by decide +kernel
theorem fi_103_56 : zfi zS 145 103 12 56 133 = true := by decide +kernel
theorem fi_103_57 : zfi zS 145 103 12 57 0 = true := by decide +kernel
theorem fi_103_58 : zfi zS 145 103 12 58 0 = true := by decide +kernel
theorem fi_103_59 : zfi zS 145 103 12 59 0 = true := by decide +kernel
theorem fi_103_60 : zfi zS 145 103 12 60 0 = true := by decide +kernel
theorem fi_103_61 : zfi zS 145 103 12 61 134 = true := by decide +kernel
theorem fi_103_62 : zfi zS 145 103 12 62 0 = true := by decide +kernel
theorem fi_103_63 : zfi zS 145 103 12 63 135 = true := by decide +kernel
theorem fi_103_64 : zfi zS 145 103 12 64 0 = true := by decide +kernel
theorem fi_103_65 : zfi zS 145 103 12 65 136 = true := by decide +kernel
theorem fi_103_66 : zfi zS 145 103 12 66 137 = true := by decide +kernel
theorem fi_103_67 : zfi zS 145 103 12 67 138 = true := by decide +kernel
theorem fi_103_68 : zfi zS 145 103 12 68 139 = true := by decide +kernel
theorem fi_103_69 : zfi zS 145 103 12 69 140 = true := by decide +kernel
theorem fi_103_70 : zfi zS 145 103 12 70 141 = true := by decide +kernel
theorem fi_103_71 : zfi zS 145 103 12 71 142 = true := by decide +kernel
theorem fi_103_72 : zfi zS 145 103 12 72 143 = true := by decide +kernel
theorem fi_103_73 : zfi zS 145 103 12 73 144 = true := by decide +kernel
theorem fi_103_74 : zfi zS 145 103 12 74 145 = true := by decide +kernel
theorem ai_2 : zai zS 145 2 13 192 = true := by decide +kernel
theorem ai_3 : zai zS 145 3 14 16 = true := by decide +kernel
theorem ai_4 : zai zS 145 4 13 192 = true := by decide +kernel
theorem ai_6 : zai zS 145 6 14 192 = true := by decide +kernel
theorem ai_7 : zai zS 145 7 14 192 = true := by decide +kernel
theorem ai_8 : zai zS 145 8 14 192 = true := by decide +kernel
theorem ai_9 : zai zS 145 9 14 192 = true := by decide +kernel
theorem ai_10 : zai zS 145 10 14 192 = true := by decide +kernel
theorem ai_11 : zai zS 145 11 14 192 = true := by decide +kernel
theorem ai_12 : zai zS 145 12 14 192 = true := by decide +kernel
theorem ai_13 : zai zS 145 13 14 252 = true := by decide +kernel
theorem ai_14 : zai zS 145 14 14 192 = true := by decide +kernel
theorem ai_15 : zai zS 145 15 14 16 = true := by decide +kernel
theorem ai_16 : zai zS 145 16 14 252 = true := by decide +kernel
theorem ai_18 : zai zS 145 18 14 413 = true := by decide +kernel
theorem ai_19 : zai zS 145 19 14 413 = true := by decide +kernel
theorem ai_20 : zai zS 145 20 14 413 = true := by decide +kernel
theorem ai_21 : zai zS 145 21 14 413 = true := by decide +kernel
theorem ai_22 : zai zS 145 22 14 413 = true := by decide +kernel
theorem ai_23 : zai zS 145 23 14 413 = true := by decide +kernel
theorem ai_24 : zai zS 145 24 14 413 = true := by decide +kernel
theorem ai_25 : zai zS 145 25 17 8 = true := by decide +kernel
theorem ai_43 : zai zS 145 43 14 413 = true := by decide +kernel
theorem ai_44 : zai zS 145 44 14 413 = true := by decide +kernel
theorem ai_45 : zai zS 145 45 14 413 = true := by decide +kernel
theorem ai_46 : zai zS 145 46 14 413 = true := by decide +kernel
theorem ai_47 : zai zS 145 47 14 413 = true := by decide +kernel
theorem ai_49 : zai zS 145 49 14 192 = true := by decide +kernel
theorem ai_51 : zai zS 145 51 14 16 = true := by decide +kernel
theorem ai_52 : zai zS 145 52 14 16 = true := by decide +kernel
theorem ai_54 : zai zS 145 54 14 7 = true := by decide +kernel
theorem ai_55 : zai zS 145 55 14 7 = true := by decide +kernel
theorem ai_56 : zai zS 145 56 14 896 = true := by decide +kernel
theorem ai_58 : zai zS 145 58 19 12 = true := by decide +kernel
theorem ai_71 : zai zS 145 71 14 12 = true := by decide +kernel
theorem ai_72 : zai zS 145 72 16 12 = true := by decide +kernel
theorem ai_73 : zai zS 145 73 16 12 = true := by decide +kernel
theorem ai_75 : zai zS 145 75 14 13 = true := by decide +kernel
theorem ai_78 : zai zS 145 78 18 20 = true := by decide +kernel
theorem ai_100 : zai zS 145 100 13 192 = true := by decide +kernel
theorem ai_101 : zai zS 145 101 14 16 = true := by decide +kernel
theorem ai_104 : zai zS 145 104 14 192 = true := by decide +kernel
theorem ai_105 : zai zS 145 105 14 16 = true := by decide +kernel
theorem ai_106 : zai zS 145 106 14 4032 = true := by decide +kernel
theorem ai_107 : zai zS 145 107 14 1440 = true := by decide +kernel
theorem ai_108 : zai zS 145 108 14 12 = true := by decide +kernel
theorem ai_109 : zai zS 145 109 16 12 = true := by decide +kernel
theorem ai_110 : zai zS 145 110 14 192 = true := by decide +kernel
theorem ai_111 : zai zS 145 111 14 16 = true := by decide +kernel
theorem ai_112 : zai zS 145 112 16 12 = true := by decide +kernel
theorem ai_113 : zai zS 145 113 14 192 = true := by decide +kernel
theorem ai_114 : zai zS 145 114 14 192 = true := by decide +kernel
theorem ai_115 : zai zS 145 115 14 192 = true := by decide +kernel
theorem ai_116 : zai zS 145 116 14 192 = true := by decide +kernel
theorem ai_117 : zai zS 145 117 14 252 = true := by decide +kernel
theorem ai_118 : zai zS 145 118 14 900 = true := by decide +kernel
theorem ai_119 : zai zS 145 119 14 901 = true := by decide +kernel
theorem ai_120 : zai zS 145 120 14 901 = true := by decide +kernel
theorem ai_121 : zai zS 145 121 14 900 = true := by decide +kernel
theorem ai_122 : zai zS 145 122 14 900 = true := by decide +kernel
theorem ai_123 : zai zS 145 123 14 1800 = true := by decide +kernel
theorem ai_124 : zai zS 145 124 16 900 = true := by decide +kernel
theorem ai_125 : zai zS 145 125 16 600000 = true := by decide +kernel
theorem ai_126 : zai zS 145 126 16 600000 = true := by decide +kernel
theorem ai_127 : zai zS 145 127 14 901 = true := by decide +kernel
theorem ai_128 : zai zS 145 128 14 16 = true := by decide +kernel
theorem ai_129 : zai zS 145 129 14 192 = true := by decide +kernel
theorem ai_130 : zai zS 145 130 14 7 = true := by decide +kernel
theorem ai_131 : zai zS 145 131 14 7 = true := by decide +kernel
theorem ai_132 : zai zS 145 132 16 130 = true := by decide +kernel
theorem ai_133 : zai zS 145 133 14 130 = true := by decide +kernel
theorem ai_134 : zai zS 145 134 14 8 = true := by decide +kernel
theorem ai_135 : zai zS 145 135 14 8 = true := by decide +kernel
theorem ai_136 : zai zS 145 136 14 8 = true := by decide +kernel
theorem ai_137 : zai zS 145 137 14 8 = true := by decide +kernel
theorem ai_138 : zai zS 145 138 14 8 = true := by decide +kernel
theorem ai_139 : zai zS 145 139 14 8 = true := by decide +kernel
theorem ai_140 : zai zS 145 140 14 8 = true := by decide +kernel
theorem ai_141 : zai zS 145 141 14 8 = true := by decide +kernel
theorem ai_142 : zai zS 145 142 15 960 = true := by decide +kernel
theorem ai_143 : zai zS 145 143 15 120 = true := by decide +kernel
theorem oc_0 : (0 : Int) ≤ 0 ∧ (0 : Int).toNat < 145 ∧ zS.1 (0 : Int).toNat = 11 := by decide +kernel
theorem oc_1 : (0 : Int) ≤ 1 ∧ (1 : Int).toNat < 145 ∧ zS.1 (1 : Int).toNat = 0 := by decide +kernel
theorem oc_5 : (0 : Int) ≤ 5 ∧ (5 : Int).toNat < 145 ∧ zS.1 (5 : Int).toNat = 2 := by decide +kernel
theorem oc_17 : (0 : Int) ≤ 17 ∧ (17 : Int).toNat < 145 ∧ zS.1 (17 : Int).toNat = 1 := by decide +kernel
theorem oc_42 : (0 : Int) ≤ 42 ∧ (42 : Int).toNat < 145 ∧ zS.1 (42 : Int).toNat = 6 := by decide +kernel
theorem oc_48 : (0 : Int) ≤ 48 ∧ (48 : Int).toNat < 145 ∧ zS.1 (48 : Int).toNat = 9 := by decide +kernel
theorem oc_50 : (0 : Int) ≤ 50 ∧ (50 : Int).toNat < 145 ∧ zS.1 (50 : Int).toNat = 4 := by decide +kernel
theorem oc_53 : (0 : Int) ≤ 53 ∧ (53 : Int).toNat < 145 ∧ zS.1 (53 : Int).toNat = 5 := by decide +kernel
theorem oc_57 : (0 : Int) ≤ 57 ∧ (57 : Int).toNat < 145 ∧ zS.1 (57 : Int).toNat = 8 := by decide +kernel
theorem oc_74 : (0 : Int) ≤ 74 ∧ (74 : Int).toNat < 145 ∧ zS.1 (74 : Int).toNat = 7 := by decide +kernel
theorem oc_77 : (0 : Int) ≤ 77 ∧ (77 : Int).toNat < 145 ∧ zS.1 (77 : Int).toNat = 3 := by decide +kernel
theorem oc_99 : (0 : Int) ≤ 99 ∧ (99 : Int).toNat < 145 ∧ zS.1 (99 : Int).toNat = 0 := by decide +kernel
theorem oc_103 : (0 : Int) ≤ 103 ∧ (103 : Int).toNat < 145 ∧ zS.1 (103 : Int).toNat = 12 := by decide +kernel
theorem vc_X0 : vwCl[0]? = some (RX0, TX0, 9) ∧ 0 < 13 := ⟨rfl, by decide⟩
theorem vc_X1 : vwCl[1]? = some (RX1, TX1, 12) ∧ 1 < 13 := ⟨rfl, by decide⟩
theorem vc_X2 : vwCl[2]? = some (RX2, TX2, 18) ∧ 2 < 13 := ⟨rfl, by decide⟩
theorem vc_X3 : vwCl[3]? = some (RX3, TX3, 4) ∧ 3 < 13 := ⟨rfl, by decide⟩
theorem vc_X4 : vwCl[4]? = some (RX4, TX4, 5) ∧ 4 < 13 := ⟨rfl, by decide⟩
theorem vc_X5 : vwCl[5]? = some (RX5, TX5, 6) ∧ 5 < 13 := ⟨rfl, by decide⟩
theorem vc_X6 : vwCl[6]? = some (RX6, TX6, 12) ∧ 6 < 13 := ⟨rfl, by decide⟩
theorem vc_X7 : vwCl[7]? = some (RX7, TX7, 5) ∧ 7 < 13 := ⟨rfl, by decide⟩
theorem vc_X8 : vwCl[8]? = some (RX8, TX8, 6) ∧ 8 < 13 := ⟨rfl, by decide⟩
theorem vc_X9 : vwCl[9]? = some (RX9, TX9, 3) ∧ 9 < 13 := ⟨rfl, by decide⟩
theorem vc_X10 : vwCl[10]? = some (RX10, TX10, 9) ∧ 10 < 13 := ⟨rfl, by decide⟩
theorem vc_X11 : vwCl[11]? = some (RX11, TX11, 13) ∧ 11 < 13 := ⟨rfl, by decide⟩
theorem vc_X12 : vwCl[12]? = some (RX12, TX12, 75) ∧ 12 < 13 := ⟨rfl, by decide⟩

/-- shelf objects: 26, 28 .. 40; the row of each behind it -/
def zsh (c : Int) : Prop := ∃ d : Int, 0 ≤ d ∧ d < 8 ∧ c = 26 + 2 * d
theorem zsh_8 {p : Int → Prop} (h0 : p 26) (h1 : p 28) (h2 : p 30) (h3 : p 32) (h4 : p 34) (h5 : p 36) (h6 : p 38) (h7 : p 40) {c : Int} (h : zsh c) : p c := by
  obtain ⟨d, a, b, rfl⟩ := h
  have : d = 0 ∨ d = 1 ∨ d = 2 ∨ d = 3 ∨ d = 4 ∨ d = 5 ∨ d = 6 ∨ d = 7 := by omega
  rcases this with rfl | rfl | rfl | rfl | rfl | rfl | rfl | rfl <;> assumption
theorem zsh_f {c : Int} (h : zsh c) (k : Nat) (hk : k < 9 ∧ k ≠ 3) : zfi zS 145 c 10 k 0 = true := by
  refine zsh_8 (p := fun c => zfi zS 145 c 10 k 0 = true) ?_ ?_ ?_ ?_ ?_ ?_ ?_ ?_ h
  all_goals (have : k = 0 ∨ k = 1 ∨ k = 2 ∨ k = 4 ∨ k = 5 ∨ k = 6 ∨ k = 7 ∨ k = 8 := by omega); (rcases this with rfl | rfl | rfl | rfl | rfl | rfl | rfl | rfl <;> decide +kernel)
theorem zsh_v {c : Int} (h : zsh c) : zfi zS 145 c 10 3 ((c + 1).toNat + 2) = true := by
  refine zsh_8 (p := fun c => zfi zS 145 c 10 3 ((c + 1).toNat + 2) = true) ?_ ?_ ?_ ?_ ?_ ?_ ?_ ?_ h <;> decide +kernel
theorem zsh_a {c : Int} (h : zsh c) : zai zS 145 (c + 1) 14 120 = true := by
  refine zsh_8 (p := fun c => zai zS 145 (c + 1) 14 120 = true) ?_ ?_ ?_ ?_ ?_ ?_ ?_ ?_ h <;> decide +kernel
theorem zsh_o {c : Int} (h : zsh c) : 0 ≤ c ∧ c.toNat < 145 ∧ zS.1 c.toNat = 10 := by
  refine zsh_8 (p := fun c => 0 ≤ c ∧ c.toNat < 145 ∧ zS.1 c.toNat = 10) ?_ ?_ ?_ ?_ ?_ ?_ ?_ ?_ h <;> decide +kernel
/-- some int array -/
def zln (c : Int) : Nat := zS.2.1 c.toNat
def zlni (c : Int) : Int := zln c
def zia (c : Int) : Prop := zai zS 145 c 14 (zln c) = true
theorem zln_i (c : Int) : ((zln c : Nat) : Int) = zlni c := rfl
theorem zln_z {c : Int} (h : zia c) : zin (zlni c) := by
  have := (zai_s h).2.2.2.2
  unfold zlni
  omega
theorem zia_n {c : Int} (h : zia c) : ¬ c < 0 := Int.not_lt.mpr (zai_s h).1
theorem zrow_s {i : Int} (h : 0 ≤ i ∧ i < 8) : zS.2.2 (Int.toNat 25) i.toNat = (26 + 2 * i).toNat + 2 := by
  obtain ⟨a, b⟩ := h
  have : i = 0 ∨ i = 1 ∨ i = 2 ∨ i = 3 ∨ i = 4 ∨ i = 5 ∨ i = 6 ∨ i = 7 := by omega
  rcases this with rfl | rfl | rfl | rfl | rfl | rfl | rfl | rfl <;> decide +kernel
theorem zrow_tc {i : Int} (h : 0 ≤ i ∧ i < 12) : zS.2.2 (Int.toNat 58) i.toNat = (59 + i).toNat + 2 := by
  have key : ∀ n : Nat, n < 12 → zS.2.2 58 n = 59 + n + 2 := by decide +kernel
  have := key i.toNat (by omega)
  show zS.2.2 58 i.toNat = _
  omega
theorem zrow_dc {i : Int} (h : 0 ≤ i ∧ i < 20) : zS.2.2 (Int.toNat 78) i.toNat = (79 + i).toNat + 2 := by
  have key : ∀ n : Nat, n < 20 → zS.2.2 78 n = 79 + n + 2 := by decide +kernel
  have := key i.toNat (by omega)
  show zS.2.2 78 i.toNat = _
  omega
theorem zrow_t {i : Int} (h : 0 ≤ i ∧ i < 12) : zai zS 145 (59 + i) 14 120 = true := by
  have key : ∀ n : Nat, n < 12 → zai zS 145 ((59 + n : Nat) : Int) 14 120 = true := by decide +kernel
  have := key i.toNat (by omega)
  rwa [show ((59 + i.toNat : Nat) : Int) = 59 + i by omega] at this
theorem zrow_d {i : Int} (h : 0 ≤ i ∧ i < 20) : zai zS 145 (79 + i) 13 192 = true := by
  have key : ∀ n : Nat, n < 20 → zai zS 145 ((79 + n : Nat) : Int) 13 192 = true := by decide +kernel
  have := key i.toNat (by omega)
  rwa [show ((79 + i.toNat : Nat) : Int) = 79 + i by omega] at this
theorem zrow_z25 {i : Int} (h : 0 ≤ i ∧ i < 8) : zin (26 + 2 * i) := by omega
theorem zrow_z58 {i : Int} (h : 0 ≤ i ∧ i < 12) : zin (59 + i) := by omega
theorem zrow_z78 {i : Int} (h : 0 ≤ i ∧ i < 20) : zin (79 + i) := by omega
theorem zrow_n25 {i : Int} (h : 0 ≤ i ∧ i < 8) : 0 ≤ 26 + 2 * i := by omega
theorem zrow_n58 {i : Int} (h : 0 ≤ i ∧ i < 12) : 0 ≤ 59 + i := by omega
theorem zrow_n78 {i : Int} (h : 0 ≤ i ∧ i < 20) : 0 ≤ 79 + i := by omega
theorem zac_z (j : Nat) : zin (zac j) := by
  unfold zac
  match j with
  | 0 | 1 | 2 | 3 | 4 | 5 | 6 | 7 => decide
  | _ + 8 => exact (by decide : zin 0)
theorem zdn_z (j : Nat) : zin (zdn j) := by
  unfold zdn
  match j with
  | 0 | 1 | 2 | 3 | 4 | 5 | 6 | 7 => decide
  | _ + 8 => exact (by decide : zin 0)
theorem zA_cat (ad : Nat → Nat) (x : Int) : (zA ad x).category = 1 := by unfold zA; split <;> rfl
theorem zts_0 (x lo : Int) : x < lo ∨ lo ≤ x := by omega
theorem zts_s {x lo m : Int} (m' : Int) (h : x < lo ∨ m ≤ x) (g : ¬ x = m) (e : m' = m + 1 := by rfl) : x < lo ∨ m' ≤ x := by omega
theorem zall_n : zall [] [] := trivial
theorem zall_0 {x : Int} {ts : List Nat} {xs : List Int} (h : zin x) (hs : zall ts xs) : zall (0 :: ts) (x :: xs) := ⟨fun _ => h, hs⟩
theorem zall_1 {x : Int} {ts : List Nat} {xs : List Int} (h : zin x) (hs : zall ts xs) : zall (1 :: ts) (x :: xs) := ⟨fun _ => h, hs⟩
theorem zall_2 {x : Int} {ts : List Nat} {xs : List Int} (hs : zall ts xs) : zall (2 :: ts) (x :: xs) := ⟨fun q => absurd rfl q, hs⟩
theorem zall_h {t : Nat} {x : Int} {ts : List Nat} {xs : List Int} (h : zall (t :: ts) (x :: xs)) (ht : t ≠ 2) : zin x := h.1 ht
theorem zall_t {t : Nat} {x : Int} {ts : List Nat} {xs : List Int} (h : zall (t :: ts) (x :: xs)) : zall ts xs := h.2
theorem zlen (ad : Nat → Nat) : ∀ (ats : List Nat) (xs : List Int), zall ats xs → (lg_sl (zargs ad ats xs)).length = (ats.map fun t => if t = 1 then 2 else 1).sum
  | [], [], _ => rfl
  | t :: ts, x :: xs, h => by
    have ih := zlen ad ts xs h.2
    have e : lg_sl (zargs ad (t :: ts) (x :: xs)) = lg_sl [if t = 0 then zI x else if t = 1 then zJ x else zRf ad x] ++ lg_sl (zargs ad ts xs) := by
      simp [zargs, lg_sl]
    rw [e, List.length_append, ih, List.map_cons, List.sum_cons]
    congr 1
    by_cases h0 : t = 0
    · subst h0; rfl
    · by_cases h1 : t = 1
      · subst h1; rfl
      · rw [if_neg h0, if_neg h1, if_neg h1]; rfl
  | [], _ :: _, h => h.elim
  | _ :: _, [], h => h.elim

theorem wl_X0_0 : u_lay RX0 TX0 0 ∈ zTG := zTG_1 (i := 69) rfl rfl
theorem wl_X0_1 : u_lay RX0 TX0 1 ∈ zTG := zTG_1 (i := 71) rfl rfl
theorem wl_X0_2 : u_lay RX0 TX0 2 ∈ zTG := zTG_1 (i := 73) rfl rfl
theorem wl_X0_3 : u_lay RX0 TX0 3 ∈ zTG := zTG_1 (i := 75) rfl rfl
theorem wl_X0_4 : u_lay RX0 TX0 4 ∈ zTG := zTG_1 (i := 77) rfl rfl
theorem wl_X0_5 : u_lay RX0 TX0 5 ∈ zTG := zTG_1 (i := 79) rfl rfl
theorem wl_X0_6 : u_lay RX0 TX0 6 ∈ zTG := zTG_1 (i := 81) rfl rfl
theorem wl_X0_7 : u_lay RX0 TX0 7 ∈ zTG := zTG_1 (i := 83) rfl rfl
theorem wl_X0_8 : u_lay RX0 TX0 8 ∈ zTG := zTG_1 (i := 85) rfl rfl
theorem wsin_X0 : ∀ w ∈ u_ws RX0 TX0 9, w ∈ zTG := List.forall_mem_cons.mpr ⟨wl_X0_0, List.forall_mem_cons.mpr ⟨wl_X0_1, List.forall_mem_cons.mpr ⟨wl_X0_2, List.forall_mem_cons.mpr ⟨wl_X0_3, List.forall_mem_cons.mpr ⟨wl_X0_4, List.forall_mem_cons.mpr ⟨wl_X0_5, List.forall_mem_cons.mpr ⟨wl_X0_6, List.forall_mem_cons.mpr ⟨wl_X0_7, List.forall_mem_cons.mpr ⟨wl_X0_8, List.forall_mem_nil _⟩⟩⟩⟩⟩⟩⟩⟩⟩
theorem wl_X1_0 : u_lay RX1 TX1 0 ∈ zTG := zTG_1 (i := 193) rfl rfl
theorem wl_X1_1 : u_lay RX1 TX1 1 ∈ zTG := zTG_1 (i := 195) rfl rfl
theorem wl_X1_2 : u_lay RX1 TX1 2 ∈ zTG := zTG_1 (i := 197) rfl rfl
theorem wl_X1_3 : u_lay RX1 TX1 3 ∈ zTG := zTG_1 (i := 199) rfl rfl
theorem wl_X1_4 : u_lay RX1 TX1 4 ∈ zTG := zTG_1 (i := 201) rfl rfl
theorem wl_X1_5 : u_lay RX1 TX1 5 ∈ zTG := zTG_1 (i := 203) rfl rfl
theorem wl_X1_6 : u_lay RX1 TX1 6 ∈ zTG := zTG_1 (i := 205) rfl rfl
theorem wl_X1_7 : u_lay RX1 TX1 7 ∈ zTG := zTG_1 (i := 207) rfl rfl
theorem wl_X1_8 : u_lay RX1 TX1 8 ∈ zTG := zTG_1 (i := 209) rfl rfl
theorem wl_X1_9 : u_lay RX1 TX1 9 ∈ zTG := zTG_1 (i := 211) rfl rfl
theorem wl_X1_10 : u_lay RX1 TX1 10 ∈ zTG := zTG_1 (i := 213) rfl rfl
theorem wl_X1_11 : u_lay RX1 TX1 11 ∈ zTG := zTG_1 (i := 215) rfl rfl
theorem wsin_X1 : ∀ w ∈ u_ws RX1 TX1 12, w ∈ zTG := List.forall_mem_cons.mpr ⟨wl_X1_0, List.forall_mem_cons.mpr ⟨wl_X1_1, List.forall_mem_cons.mpr ⟨wl_X1_2, List.forall_mem_cons.mpr ⟨wl_X1_3, List.forall_mem_cons.mpr ⟨wl_X1_4, List.forall_mem_cons.mpr ⟨wl_X1_5, List.forall_mem_cons.mpr ⟨wl_X1_6, List.forall_mem_cons.mpr ⟨wl_X1_7, List.forall_mem_cons.mpr ⟨wl_X1_8, List.forall_mem_cons.mpr ⟨wl_X1_9, List.forall_mem_cons.mpr ⟨wl_X1_10, List.forall_mem_cons.mpr ⟨wl_X1_11, List.forall_mem_nil _⟩⟩⟩⟩⟩⟩⟩⟩⟩⟩⟩⟩
theorem wl_X2_0 : u_lay RX2 TX2 0 ∈ zTG := zTG_1 (i := 129) rfl rfl
theorem wl_X2_1 : u_lay RX2 TX2 1 ∈ zTG := zTG_1 (i := 131) rfl rfl
theorem wl_X2_2 : u_lay RX2 TX2 2 ∈ zTG := zTG_1 (i := 133) rfl rfl
theorem wl_X2_3 : u_lay RX2 TX2 3 ∈ zTG := zTG_1 (i := 135) rfl rfl
theorem wl_X2_4 : u_lay RX2 TX2 4 ∈ zTG := zTG_1 (i := 137) rfl rfl
theorem wl_X2_5 : u_lay RX2 TX2 5 ∈ zTG := zTG_1 (i := 139) rfl rfl
theorem wl_X2_6 : u_lay RX2 TX2 6 ∈ zTG := zTG_1 (i := 141) rfl rfl
theorem wl_X2_7 : u_lay RX2 TX2 7 ∈ zTG := zTG_1 (i := 143) rfl rfl
theorem wl_X2_8 : u_lay RX2 TX2 8 ∈ zTG := zTG_1 (i := 145) rfl rfl
theorem wl_X2_9 : u_lay RX2 TX2 9 ∈ zTG := zTG_1 (i := 147) rfl rfl
theorem wl_X2_10 : u_lay RX2 TX2 10 ∈ zTG := zTG_1 (i := 149) rfl rfl
theorem wl_X2_11 : u_lay RX2 TX2 11 ∈ zTG := zTG_1 (i := 151) rfl rfl
theorem wl_X2_12 : u_lay RX2 TX2 12 ∈ zTG := zTG_1 (i := 153) rfl rfl
theorem wl_X2_13 : u_lay RX2 TX2 13 ∈ zTG := zTG_1 (i := 155) rfl rfl
theorem wl_X2_14 : u_lay RX2 TX2 14 ∈ zTG := zTG_1 (i := 157) rfl rfl
theorem wl_X2_15 : u_lay RX2 TX2 15 ∈ zTG := zTG_1 (i := 159) rfl rfl
theorem wl_X2_16 : u_lay RX2 TX2 16 ∈ zTG := zTG_1 (i := 161) rfl rfl
theorem wl_X2_17 : u_lay RX2 TX2 17 ∈ zTG := zTG_1 (i := 163) rfl rfl
theorem wsin_X2 : ∀ w ∈ u_ws RX2 TX2 18, w ∈ zTG := List.forall_mem_cons.mpr ⟨wl_X2_0, List.forall_mem_cons.mpr ⟨wl_X2_1, List.forall_mem_cons.mpr ⟨wl_X2_2, List.forall_mem_cons.mpr ⟨wl_X2_3, List.forall_mem_cons.mpr ⟨wl_X2_4, List.forall_mem_cons.mpr ⟨wl_X2_5, List.forall_mem_cons.mpr ⟨wl_X2_6, List.forall_mem_cons.mpr ⟨wl_X2_7, List.forall_mem_cons.mpr ⟨wl_X2_8, List.forall_mem_cons.mpr ⟨wl_X2_9, List.forall_mem_cons.mpr ⟨wl_X2_10, List.forall_mem_cons.mpr ⟨wl_X2_11, List.forall_mem_cons.mpr ⟨wl_X2_12, List.forall_mem_cons.mpr ⟨wl_X2_13, List.forall_mem_cons.mpr ⟨wl_X2_14, List.forall_mem_cons.mpr ⟨wl_X2_15, List.forall_mem_cons.mpr ⟨wl_X2_16, List.forall_mem_cons.mpr ⟨wl_X2_17, List.forall_mem_nil _⟩⟩⟩⟩⟩⟩⟩⟩⟩⟩⟩⟩⟩⟩⟩⟩⟩⟩
theorem wl_X3_0 : u_lay RX3 TX3 0 ∈ zTG := zTG_2 (i := 199) rfl rfl
theorem wl_X3_1 : u_lay RX3 TX3 1 ∈ zTG := zTG_2 (i := 201) rfl rfl
theorem wl_X3_2 : u_lay RX3 TX3 2 ∈ zTG := zTG_2 (i := 203) rfl rfl
theorem wl_X3_3 : u_lay RX3 TX3 3 ∈ zTG := zTG_2 (i := 205) rfl rfl
theorem wsin_X3 : ∀ w ∈ u_ws RX3 TX3 4, w ∈ zTG := List.forall_mem_cons.mpr ⟨wl_X3_0, List.forall_mem_cons.mpr ⟨wl_X3_1, List.forall_mem_cons.mpr ⟨wl_X3_2, List.forall_mem_cons.mpr ⟨wl_X3_3, List.forall_mem_nil _⟩⟩⟩⟩
theorem wl_X4_0 : u_lay RX4 TX4 0 ∈ zTG := zTG_2 (i := 91) rfl rfl
theorem wl_X4_1 : u_lay RX4 TX4 1 ∈ zTG := zTG_2 (i := 93) rfl rfl
theorem wl_X4_2 : u_lay RX4 TX4 2 ∈ zTG := zTG_2 (i := 95) rfl rfl
theorem wl_X4_3 : u_lay RX4 TX4 3 ∈ zTG := zTG_2 (i := 97) rfl rfl
theorem wl_X4_4 : u_lay RX4 TX4 4 ∈ zTG := zTG_2 (i := 99) rfl rfl
theorem wsin_X4 : ∀ w ∈ u_ws RX4 TX4 5, w ∈ zTG := List.forall_mem_cons.mpr ⟨wl_X4_0, List.forall_mem_cons.mpr ⟨wl_X4_1, List.forall_mem_cons.mpr ⟨wl_X4_2, List.forall_mem_cons.mpr ⟨wl_X4_3, List.forall_mem_cons.mpr ⟨wl_X4_4, List.forall_mem_nil _⟩⟩⟩⟩⟩
theorem wl_X5_0 : u_lay RX5 TX5 0 ∈ zTG := zTG_2 (i := 117) rfl rfl
theorem wl_X5_1 : u_lay RX5 TX5 1 ∈ zTG := zTG_2 (i := 119) rfl rfl
theorem wl_X5_2 : u_lay RX5 TX5 2 ∈ zTG := zTG_2 (i := 121) rfl rfl
theorem wl_X5_3 : u_lay RX5 TX5 3 ∈ zTG := zTG_2 (i := 123) rfl rfl
theorem wl_X5_4 : u_lay RX5 TX5 4 ∈ zTG := zTG_2 (i := 125) rfl rfl
theorem wl_X5_5 : u_lay RX5 TX5 5 ∈ zTG := zTG_2 (i := 127) rfl rfl
theorem wsin_X5 : ∀ w ∈ u_ws RX5 TX5 6, w ∈ zTG := List.forall_mem_cons.mpr ⟨wl_X5_0, List.forall_mem_cons.mpr ⟨wl_X5_1, List.forall_mem_cons.mpr ⟨wl_X5_2, List.forall_mem_cons.mpr ⟨wl_X5_3, List.forall_mem_cons.mpr ⟨wl_X5_4, List.forall_mem_cons.mpr ⟨wl_X5_5, List.forall_mem_nil _⟩⟩⟩⟩⟩⟩
theorem wl_X6_0 : u_lay RX6 TX6 0 ∈ zTG := zTG_2 (i := 37) rfl rfl
theorem wl_X6_1 : u_lay RX6 TX6 1 ∈ zTG := zTG_2 (i := 39) rfl rfl
theorem wl_X6_2 : u_lay RX6 TX6 2 ∈ zTG := zTG_2 (i := 41) rfl rfl
theorem wl_X6_3 : u_lay RX6 TX6 3 ∈ zTG := zTG_2 (i := 43) rfl rfl
theorem wl_X6_4 : u_lay RX6 TX6 4 ∈ zTG := zTG_2 (i := 45) rfl rfl
theorem wl_X6_5 : u_lay RX6 TX6 5 ∈ zTG := zTG_2 (i := 47) rfl rfl
theorem wl_X6_6 : u_lay RX6 TX6 6 ∈ zTG := zTG_2 (i := 49) rfl rfl
theorem wl_X6_7 : u_lay RX6 TX6 7 ∈ zTG := zTG_2 (i := 51) rfl rfl
theorem wl_X6_8 : u_lay RX6 TX6 8 ∈ zTG := zTG_2 (i := 53) rfl rfl
theorem wl_X6_9 : u_lay RX6 TX6 9 ∈ zTG := zTG_2 (i := 55) rfl rfl
theorem wl_X6_10 : u_lay RX6 TX6 10 ∈ zTG := zTG_2 (i := 57) rfl rfl
theorem wl_X6_11 : u_lay RX6 TX6 11 ∈ zTG := zTG_2 (i := 59) rfl rfl
theorem wsin_X6 : ∀ w ∈ u_ws RX6 TX6 12, w ∈ zTG := List.forall_mem_cons.mpr ⟨wl_X6_0, List.forall_mem_cons.mpr ⟨wl_X6_1, List.forall_mem_cons.mpr ⟨wl_X6_2, List.forall_mem_cons.mpr ⟨wl_X6_3, List.forall_mem_cons.mpr ⟨wl_X6_4, List.forall_mem_cons.mpr ⟨wl_X6_5, List.forall_mem_cons.mpr ⟨wl_X6_6, List.forall_mem_cons.mpr ⟨wl_X6_7, List.forall_mem_cons.mpr ⟨wl_X6_8, List.forall_mem_cons.mpr ⟨wl_X6_9, List.forall_mem_cons.mpr ⟨wl_X6_10, List.forall_mem_cons.mpr ⟨wl_X6_11, List.forall_mem_nil _⟩⟩⟩⟩⟩⟩⟩⟩⟩⟩⟩⟩
theorem wl_X7_0 : u_lay RX7 TX7 0 ∈ zTG := zTG_2 (i := 175) rfl rfl
theorem wl_X7_1 : u_lay RX7 TX7 1 ∈ zTG := zTG_2 (i := 177) rfl rfl
theorem wl_X7_2 : u_lay RX7 TX7 2 ∈ zTG := zTG_2 (i := 179) rfl rfl
theorem wl_X7_3 : u_lay RX7 TX7 3 ∈ zTG := zTG_2 (i := 181) rfl rfl
theorem wl_X7_4 : u_lay RX7 TX7 4 ∈ zTG := zTG_2 (i := 183) rfl rfl
theorem wsin_X7 : ∀ w ∈ u_ws RX7 TX7 5, w ∈ zTG := List.forall_mem_cons.mpr ⟨wl_X7_0, List.forall_mem_cons.mpr ⟨wl_X7_1, List.forall_mem_cons.mpr ⟨wl_X7_2, List.forall_mem_cons.mpr ⟨wl_X7_3, List.forall_mem_cons.mpr ⟨wl_X7_4, List.forall_mem_nil _⟩⟩⟩⟩⟩
theorem wl_X8_0 : u_lay RX8 TX8 0 ∈ zTG := zTG_2 (i := 148) rfl rfl
theorem wl_X8_1 : u_lay RX8 TX8 1 ∈ zTG := zTG_2 (i := 150) rfl rfl
theorem wl_X8_2 : u_lay RX8 TX8 2 ∈ zTG := zTG_2 (i := 152) rfl rfl
theorem wl_X8_3 : u_lay RX8 TX8 3 ∈ zTG := zTG_2 (i := 154) rfl rfl
theorem wl_X8_4 : u_lay RX8 TX8 4 ∈ zTG := zTG_2 (i := 156) rfl rfl
theorem wl_X8_5 : u_lay RX8 TX8 5 ∈ zTG := zTG_2 (i := 158) rfl rfl
theorem wsin_X8 : ∀ w ∈ u_ws RX8 TX8 6, w ∈ zTG := List.forall_mem_cons.mpr ⟨wl_X8_0, List.forall_mem_cons.mpr ⟨wl_X8_1, List.forall_mem_cons.mpr ⟨wl_X8_2, List.forall_mem_cons.mpr ⟨wl_X8_3, List.forall_mem_cons.mpr ⟨wl_X8_4, List.forall_mem_cons.mpr ⟨wl_X8_5, List.forall_mem_nil _⟩⟩⟩⟩⟩⟩
theorem wl_X9_0 : u_lay RX9 TX9 0 ∈ zTG := zTG_2 (i := 71) rfl rfl
theorem wl_X9_1 : u_lay RX9 TX9 1 ∈ zTG := zTG_2 (i := 73) rfl rfl
theorem wl_X9_2 : u_lay RX9 TX9 2 ∈ zTG := zTG_2 (i := 75) rfl rfl
theorem wsin_X9 : ∀ w ∈ u_ws RX9 TX9 3, w ∈ zTG := List.forall_mem_cons.mpr ⟨wl_X9_0, List.forall_mem_cons.mpr ⟨wl_X9_1, List.forall_mem_cons.mpr ⟨wl_X9_2, List.forall_mem_nil _⟩⟩⟩
theorem wl_X10_0 : u_lay RX10 TX10 0 ∈ zTG := zTG_1 (i := 238) rfl rfl
theorem wl_X10_1 : u_lay RX10 TX10 1 ∈ zTG := zTG_2 (i := 0) rfl rfl
theorem wl_X10_2 : u_lay RX10 TX10 2 ∈ zTG := zTG_2 (i := 2) rfl rfl
theorem wl_X10_3 : u_lay RX10 TX10 3 ∈ zTG := zTG_2 (i := 4) rfl rfl
theorem wl_X10_4 : u_lay RX10 TX10 4 ∈ zTG := zTG_2 (i := 6) rfl rfl
theorem wl_X10_5 : u_lay RX10 TX10 5 ∈ zTG := zTG_2 (i := 8) rfl rfl
theorem wl_X10_6 : u_lay RX10 TX10 6 ∈ zTG := zTG_2 (i := 10) rfl rfl
theorem wl_X10_7 : u_lay RX10 TX10 7 ∈ zTG := zTG_2 (i := 12) rfl rfl
theorem wl_X10_8 : u_lay RX10 TX10 8 ∈ zTG := zTG_2 (i := 14) rfl rfl
theorem wsin_X10 : ∀ w ∈ u_ws RX10 TX10 9, w ∈ zTG := List.forall_mem_cons.mpr ⟨wl_X10_0, List.forall_mem_cons.mpr ⟨wl_X10_1, List.forall_mem_cons.mpr ⟨wl_X10_2, List.forall_mem_cons.mpr ⟨wl_X10_3, List.forall_mem_cons.mpr ⟨wl_X10_4, List.forall_mem_cons.mpr ⟨wl_X10_5, List.forall_mem_cons.mpr ⟨wl_X10_6, List.forall_mem_cons.mpr ⟨wl_X10_7, List.forall_mem_cons.mpr ⟨wl_X10_8, List.forall_mem_nil _⟩⟩⟩⟩⟩⟩⟩⟩⟩
theorem wl_X11_0 : u_lay RX11 TX11 0 ∈ zTG := zTG_2 (i := 221) rfl rfl
theorem wl_X11_1 : u_lay RX11 TX11 1 ∈ zTG := zTG_2 (i := 223) rfl rfl
theorem wl_X11_2 : u_lay RX11 TX11 2 ∈ zTG := zTG_2 (i := 225) rfl rfl
theorem wl_X11_3 : u_lay RX11 TX11 3 ∈ zTG := zTG_2 (i := 227) rfl rfl
theorem wl_X11_4 : u_lay RX11 TX11 4 ∈ zTG := zTG_2 (i := 229) rfl rfl
theorem wl_X11_5 : u_lay RX11 TX11 5 ∈ zTG := zTG_2 (i := 231) rfl rfl
theorem wl_X11_6 : u_lay RX11 TX11 6 ∈ zTG := zTG_2 (i := 233) rfl rfl
theorem wl_X11_7 : u_lay RX11 TX11 7 ∈ zTG := zTG_2 (i := 235) rfl rfl
theorem wl_X11_8 : u_lay RX11 TX11 8 ∈ zTG := zTG_2 (i := 237) rfl rfl
theorem wl_X11_9 : u_lay RX11 TX11 9 ∈ zTG := zTG_2 (i := 239) rfl rfl
theorem wl_X11_10 : u_lay RX11 TX11 10 ∈ zTG := zTG_3 (i := 1) rfl rfl
theorem wl_X11_11 : u_lay RX11 TX11 11 ∈ zTG := zTG_3 (i := 3) rfl rfl
theorem wl_X11_12 : u_lay RX11 TX11 12 ∈ zTG := zTG_3 (i := 5) rfl rfl
theorem wsin_X11 : ∀ w ∈ u_ws RX11 TX11 13, w ∈ zTG := List.forall_mem_cons.mpr ⟨wl_X11_0, List.forall_mem_cons.mpr ⟨wl_X11_1, List.forall_mem_cons.mpr ⟨wl_X11_2, List.forall_mem_cons.mpr ⟨wl_X11_3, List.forall_mem_cons.mpr ⟨wl_X11_4, List.forall_mem_cons.mpr ⟨wl_X11_5, List.forall_mem_cons.mpr ⟨wl_X11_6, List.forall_mem_cons.mpr ⟨wl_X11_7, List.forall_mem_cons.mpr ⟨wl_X11_8, List.forall_mem_cons.mpr ⟨wl_X11_9, List.forall_mem_cons.mpr ⟨wl_X11_10, List.forall_mem_cons.mpr ⟨wl_X11_11, List.forall_mem_cons.mpr ⟨wl_X11_12, List.forall_mem_nil _⟩⟩⟩⟩⟩⟩⟩⟩⟩⟩⟩⟩⟩
theorem wl_X12_0 : u_lay RX12 TX12 0 ∈ zTG := zTG_6 (i := 181) rfl rfl
theorem wl_X12_1 : u_lay RX12 TX12 1 ∈ zTG := zTG_6 (i := 183) rfl rfl
theorem wl_X12_2 : u_lay RX12 TX12 2 ∈ zTG := zTG_6 (i := 185) rfl rfl
theorem wl_X12_3 : u_lay RX12 TX12 3 ∈ zTG := zTG_6 (i := 187) rfl rfl
theorem wl_X12_4 : u_lay RX12 TX12 4 ∈ zTG := zTG_6 (i := 189) rfl rfl
theorem wl_X12_5 : u_lay RX12 TX12 5 ∈ zTG := zTG_6 (i := 191) rfl rfl
theorem wl_X12_6 : u_lay RX12 TX12 6 ∈ zTG := zTG_6 (i := 193) rfl rfl
theorem wl_X12_7 : u_lay RX12 TX12 7 ∈ zTG := zTG_6 (i := 195) rfl rfl
theorem wl_X12_8 : u_lay RX12 TX12 8 ∈ zTG := zTG_6 (i := 197) rfl rfl
theorem wl_X12_9 : u_lay RX12 TX12 9 ∈ zTG := zTG_6 (i := 199) rfl rfl
theorem wl_X12_10 : u_lay RX12 TX12 10 ∈ zTG := zTG_6 (i := 201) rfl rfl
theorem wl_X12_11 : u_lay RX12 TX12 11 ∈ zTG := zTG_6 (i := 203) rfl rfl
theorem wl_X12_12 : u_lay RX12 TX12 12 ∈ zTG := zTG_6 (i := 205) rfl rfl
theorem wl_X12_13 : u_lay RX12 TX12 13 ∈ zTG := zTG_6 (i := 207) rfl rfl
theorem wl_X12_14 : u_lay RX12 TX12 14 ∈ zTG := zTG_6 (i := 209) rfl rfl
theorem wl_X12_15 : u_lay RX12 TX12 15 ∈ zTG := zTG_6 (i := 211) rfl rfl
theorem wl_X12_16 : u_lay RX12 TX12 16 ∈ zTG := zTG_6 (i := 213) rfl rfl
theorem wl_X12_17 : u_lay RX12 TX12 17 ∈ zTG := zTG_6 (i := 215) rfl rfl
theorem wl_X12_18 : u_lay RX12 TX12 18 ∈ zTG := zTG_6 (i := 217) rfl rfl
theorem wl_X12_19 : u_lay RX12 TX12 19 ∈ zTG := zTG_6 (i := 219) rfl rfl
theorem wl_X12_20 : u_lay RX12 TX12 20 ∈ zTG := zTG_6 (i := 221) rfl rfl
theorem wl_X12_21 : u_lay RX12 TX12 21 ∈ zTG := zTG_6 (i := 223) rfl rfl
theorem wl_X12_22 : u_lay RX12 TX12 22 ∈ zTG := zTG_6 (i := 225) rfl rfl
theorem wl_X12_23 : u_lay RX12 TX12 23 ∈ zTG := zTG_6 (i := 227) rfl rfl
theorem wl_X12_24 : u_lay RX12 TX12 24 ∈ zTG := zTG_6 (i := 229) rfl rfl
theorem wl_X12_25 : u_lay RX12 TX12 25 ∈ zTG := zTG_6 (i := 231) rfl rfl
theorem wl_X12_26 : u_lay RX12 TX12 26 ∈ zTG := zTG_6 (i := 233) rfl rfl
theorem wl_X12_27 : u_lay RX12 TX12 27 ∈ zTG := zTG_6 (i := 235) rfl rfl
theorem wl_X12_28 : u_lay RX12 TX12 28 ∈ zTG := zTG_6 (i := 237) rfl rfl
theorem wl_X12_29 : u_lay RX12 TX12 29 ∈ zTG := zTG_6 (i := 239) rfl rfl
theorem wl_X12_30 : u_lay RX12 TX12 30 ∈ zTG := zTG_7 (i := 1) rfl rfl
theorem wl_X12_31 : u_lay RX12 TX12 31 ∈ zTG := zTG_7 (i := 3) rfl rfl
theorem wl_X12_32 : u_lay RX12 TX12 32 ∈ zTG := zTG_7 (i := 5) rfl rfl
theorem wl_X12_33 : u_lay RX12 TX12 33 ∈ zTG := zTG_7 (i := 7) rfl rfl
theorem wl_X12_34 : u_lay RX12 TX12 34 ∈ zTG := zTG_7 (i := 9) rfl rfl
theorem wl_X12_35 : u_lay RX12 TX12 35 ∈ zTG := zTG_7 (i := 11) rfl rfl
theorem wl_X12_36 : u_lay RX12 TX12 36 ∈ zTG := zTG_7 (i := 13) rfl rfl
theorem wl_X12_37 : u_lay RX12 TX12 37 ∈ zTG := zTG_7 (i := 15) rfl rfl
theorem wl_X12_38 : u_lay RX12 TX12 38 ∈ zTG := zTG_7 (i := 17) rfl rfl
theorem wl_X12_39 : u_lay RX12 TX12 39 ∈ zTG := zTG_7 (i := 19) rfl rfl
theorem wl_X12_40 : u_lay RX12 TX12 40 ∈ zTG := zTG_7 (i := 21) rfl rfl
theorem wl_X12_41 : u_lay RX12 TX12 41 ∈ zTG := zTG_7 (i := 23) rfl rfl
theorem wl_X12_42 : u_lay RX12 TX12 42 ∈ zTG := zTG_7 (i := 25) rfl rfl
theorem wl_X12_43 : u_lay RX12 TX12 43 ∈ zTG := zTG_7 (i := 27) rfl rfl
theorem wl_X12_44 : u_lay RX12 TX12 44 ∈ zTG := zTG_7 (i := 29) rfl rfl
theorem wl_X12_45 : u_lay RX12 TX12 45 ∈ zTG := zTG_7 (i := 31) rfl rfl
theorem wl_X12_46 : u_lay RX12 TX12 46 ∈ zTG := zTG_7 (i := 33) rfl rfl
theorem wl_X12_47 : u_lay RX12 TX12 47 ∈ zTG := zTG_7 (i := 35) rfl rfl
theorem wl_X12_48 : u_lay RX12 TX12 48 ∈ zTG := zTG_7 (i := 37) rfl rfl
theorem wl_X12_49 : u_lay RX12 TX12 49 ∈ zTG := zTG_7 (i := 39) rfl rfl
theorem wl_X12_50 : u_lay RX12 TX12 50 ∈ zTG := zTG_7 (i := 41) rfl rfl
theorem wl_X12_51 : u_lay RX12 TX12 51 ∈ zTG := zTG_7 (i := 43) rfl rfl
theorem wl_X12_52 : u_lay RX12 TX12 52 ∈ zTG := zTG_7 (i := 45) rfl rfl
theorem wl_X12_53 : u_lay RX12 TX12 53 ∈ zTG := zTG_7 (i := 47) rfl rfl
theorem wl_X12_54 : u_lay RX12 TX12 54 ∈ zTG := zTG_7 (i := 49) rfl rfl
theorem wl_X12_55 : u_lay RX12 TX12 55 ∈ zTG := zTG_7 (i := 51) rfl rfl
theorem wl_X12_56 : u_lay RX12 TX12 56 ∈ zTG := zTG_7 (i := 53) rfl rfl
theorem wl_X12_57 : u_lay RX12 TX12 57 ∈ zTG := zTG_7 (i := 55) rfl rfl
theorem wl_X12_58 : u_lay RX12 TX12 58 ∈ zTG := zTG_7 (i := 57) rfl rfl
theorem wl_X12_59 : u_lay RX12 TX12 59 ∈ zTG := zTG_7 (i := 59) rfl rfl
theorem wl_X12_60 : u_lay RX12 TX12 60 ∈ zTG := zTG_7 (i := 61) rfl rfl
theorem wl_X12_61 : u_lay RX12 TX12 61 ∈ zTG := zTG_7 (i := 63) rfl rfl
theorem wl_X12_62 : u_lay RX12 TX12 62 ∈ zTG := zTG_7 (i := 65) rfl rfl
theorem wl_X12_63 : u_lay RX12 TX12 63 ∈ zTG := zTG_7 (i := 67) rfl rfl
theorem wl_X12_64 : u_lay RX12 TX12 64 ∈ zTG := zTG_7 (i := 69) rfl rfl
theorem wl_X12_65 : u_lay RX12 TX12 65 ∈ zTG := zTG_7 (i := 71) rfl rfl
theorem wl_X12_66 : u_lay RX12 TX12 66 ∈ zTG := zTG_7 (i := 73) rfl rfl
theorem wl_X12_67 : u_lay RX12 TX12 67 ∈ zTG := zTG_7 (i := 75) rfl rfl
theorem wl_X12_68 : u_lay RX12 TX12 68 ∈ zTG := zTG_7 (i := 77) rfl rfl
theorem wl_X12_69 : u_lay RX12 TX12 69 ∈ zTG := zTG_7 (i := 79) rfl rfl
theorem wl_X12_70 : u_lay RX12 TX12 70 ∈ zTG := zTG_7 (i := 81) rfl rfl
theorem wl_X12_71 : u_lay RX12 TX12 71 ∈ zTG := zTG_7 (i := 83) rfl rfl
theorem wl_X12_72 : u_lay RX12 TX12 72 ∈ zTG := zTG_7 (i := 85) rfl rfl
theorem wl_X12_73 : u_lay RX12 TX12 73 ∈ zTG := zTG_7 (i := 87) rfl rfl
theorem wl_X12_74 : u_lay RX12 TX12 74 ∈ zTG := zTG_7 (i := 89) rfl rfl
theorem wsin_X12 : ∀ w ∈ u_ws RX12 TX12 75, w ∈ zTG := List.forall_mem_cons.mpr ⟨wl_X12_0, List.forall_mem_cons.mpr ⟨wl_X12_1, List.forall_mem_cons.mpr ⟨wl_X12_2, List.forall_mem_cons.mpr ⟨wl_X12_3, List.forall_mem_cons.mpr ⟨wl_X12_4, List.forall_mem_cons.mpr ⟨wl_X12_5, List.forall_mem_cons.mpr ⟨wl_X12_6, List.forall_mem_cons.mpr ⟨wl_X12_7, List.forall_mem_cons.mpr ⟨wl_X12_8, List.forall_mem_cons.mpr ⟨wl_X12_9, List.forall_mem_cons.mpr ⟨wl_X12_10, List.forall_mem_cons.mpr ⟨wl_X12_11, List.forall_mem_cons.mpr ⟨wl_X12_12, List.forall_mem_cons.mpr ⟨wl_X12_13, List.forall_mem_cons.mpr ⟨wl_X12_14, List.forall_mem_cons.mpr ⟨wl_X12_15, List.forall_mem_cons.mpr ⟨wl_X12_16, List.forall_mem_cons.mpr ⟨wl_X12_17, List.forall_mem_cons.mpr ⟨wl_X12_18, List.forall_mem_cons.mpr ⟨wl_X12_19, List.forall_mem_cons.mpr ⟨wl_X12_20, List.forall_mem_cons.mpr ⟨wl_X12_21, List.forall_mem_cons.mpr ⟨wl_X12_22, List.forall_mem_cons.mpr ⟨wl_X12_23, List.forall_mem_cons.mpr ⟨wl_X12_24, List.forall_mem_cons.mpr ⟨wl_X12_25, List.forall_mem_cons.mpr ⟨wl_X12_26, List.forall_mem_cons.mpr ⟨wl_X12_27, List.forall_mem_cons.mpr ⟨wl_X12_28, List.forall_mem_cons.mpr ⟨wl_X12_29, List.forall_mem_cons.mpr ⟨wl_X12_30, List.forall_mem_cons.mpr ⟨wl_X12_31, List.forall_mem_cons.mpr ⟨wl_X12_32, List.forall_mem_cons.mpr ⟨wl_X12_33, List.forall_mem_cons.mpr ⟨wl_X12_34, List.forall_mem_cons.mpr ⟨wl_X12_35, List.forall_mem_cons.mpr ⟨wl_X12_36, List.forall_mem_cons.mpr ⟨wl_X12_37, List.forall_mem_cons.mpr ⟨wl_X12_38, List.forall_mem_cons.mpr ⟨wl_X12_39, List.forall_mem_cons.mpr ⟨wl_X12_40, List.forall_mem_cons.mpr ⟨wl_X12_41, List.forall_mem_cons.mpr ⟨wl_X12_42, List.forall_mem_cons.mpr ⟨wl_X12_43, List.forall_mem_cons.mpr ⟨wl_X12_44, List.forall_mem_cons.mpr ⟨wl_X12_45, List.forall_mem_cons.mpr ⟨wl_X12_46, List.forall_mem_cons.mpr ⟨wl_X12_47, List.forall_mem_cons.mpr ⟨wl_X12_48, List.forall_mem_cons.mpr ⟨wl_X12_49, List.forall_mem_cons.mpr ⟨wl_X12_50, List.forall_mem_cons.mpr ⟨wl_X12_51, List.forall_mem_cons.mpr ⟨wl_X12_52, List.forall_mem_cons.mpr ⟨wl_X12_53, List.forall_mem_cons.mpr ⟨wl_X12_54, List.forall_mem_cons.mpr ⟨wl_X12_55, List.forall_mem_cons.mpr ⟨wl_X12_56, List.forall_mem_cons.mpr ⟨wl_X12_57, List.forall_mem_cons.mpr ⟨wl_X12_58, List.forall_mem_cons.mpr ⟨wl_X12_59, List.forall_mem_cons.mpr ⟨wl_X12_60, List.forall_mem_cons.mpr ⟨wl_X12_61, List.forall_mem_cons.mpr ⟨wl_X12_62, List.forall_mem_cons.mpr ⟨wl_X12_63, List.forall_mem_cons.mpr ⟨wl_X12_64, List.forall_mem_cons.mpr ⟨wl_X12_65, List.forall_mem_cons.mpr ⟨wl_X12_66, List.forall_mem_cons.mpr ⟨wl_X12_67, List.forall_mem_cons.mpr ⟨wl_X12_68, List.forall_mem_cons.mpr ⟨wl_X12_69, List.forall_mem_cons.mpr ⟨wl_X12_70, List.forall_mem_cons.mpr ⟨wl_X12_71, List.forall_mem_cons.mpr ⟨wl_X12_72, List.forall_mem_cons.mpr ⟨wl_X12_73, List.forall_mem_cons.mpr ⟨wl_X12_74, List.forall_mem_nil _⟩⟩⟩⟩⟩⟩⟩⟩⟩⟩⟩⟩⟩⟩⟩⟩⟩⟩⟩⟩⟩⟩⟩⟩⟩⟩⟩⟩⟩⟩⟩⟩⟩⟩⟩⟩⟩⟩⟩⟩⟩⟩⟩⟩⟩⟩⟩⟩⟩⟩⟩⟩⟩⟩⟩⟩⟩⟩⟩⟩⟩⟩⟩⟩⟩⟩⟩⟩⟩⟩⟩⟩⟩⟩⟩
theorem fk_RX0_15 : zFK RX0 15 0 5 (.array .int) true := ⟨RX0, TX0, 9, tyX0, rfl, wsin_X0, by decide, rfl, by decide, rfl, by decide +kernel, rfl, tyX0_ok, nmX0, Or.inl (zTG_1 (i := 59) rfl rfl)⟩
theorem fk_RX0_19 : zFK RX0 19 0 6 (.array .byte) true := ⟨RX0, TX0, 9, tyX0, rfl, wsin_X0, by decide, rfl, by decide, rfl, by decide +kernel, rfl, tyX0_ok, nmX0, Or.inl (zTG_1 (i := 62) rfl rfl)⟩
theorem fk_RX0_22 : zFK RX0 22 0 0 .int false := ⟨RX0, TX0, 9, tyX0, rfl, wsin_X0, by decide, rfl, by decide, rfl, by decide +kernel, rfl, tyX0_ok, nmX0, Or.inl (zTG_1 (i := 37) rfl rfl)⟩
theorem fk_RX0_26 : zFK RX0 26 0 1 .int false := ⟨RX0, TX0, 9, tyX0, rfl, wsin_X0, by decide, rfl, by decide, rfl, by decide +kernel, rfl, tyX0_ok, nmX0, Or.inl (zTG_1 (i := 42) rfl rfl)⟩
theorem fk_RX0_35 : zFK RX0 35 0 3 .int false := ⟨RX0, TX0, 9, tyX0, rfl, wsin_X0, by decide, rfl, by decide, rfl, by decide +kernel, rfl, tyX0_ok, nmX0, Or.inl (zTG_1 (i := 52) rfl rfl)⟩
theorem fk_RX0_42 : zFK RX0 42 0 2 .int false := ⟨RX0, TX0, 9, tyX0, rfl, wsin_X0, by decide, rfl, by decide, rfl, by decide +kernel, rfl, tyX0_ok, nmX0, Or.inl (zTG_1 (i := 50) rfl rfl)⟩
theorem fk_RX0_64 : zFK RX0 64 0 7 .int false := ⟨RX0, TX0, 9, tyX0, rfl, wsin_X0, by decide, rfl, by decide, rfl, by decide +kernel, rfl, tyX0_ok, nmX0, Or.inl (zTG_1 (i := 67) rfl rfl)⟩
theorem fk_RX0_67 : zFK RX0 67 0 8 .int false := ⟨RX0, TX0, 9, tyX0, rfl, wsin_X0, by decide, rfl, by decide, rfl, by decide +kernel, rfl, tyX0_ok, nmX0, Or.inl (zTG_1 (i := 68) rfl rfl)⟩
theorem fk_RX0_9 : zFK RX0 9 0 4 (.array .byte) true := ⟨RX0, TX0, 9, tyX0, rfl, wsin_X0, by decide, rfl, by decide, rfl, by decide +kernel, rfl, tyX0_ok, nmX0, Or.inl (zTG_1 (i := 55) rfl rfl)⟩
theorem fk_RX10_15 : zFK RX10 15 10 0 .int false := ⟨RX10, TX10, 9, tyX10, rfl, wsin_X10, by decide, rfl, by decide, rfl, by decide +kernel, rfl, tyX10_ok, nmX10, Or.inl (zTG_1 (i := 225) rfl rfl)⟩
theorem fk_RX10_19 : zFK RX10 19 10 2 .int false := ⟨RX10, TX10, 9, tyX10, rfl, wsin_X10, by decide, rfl, by decide, rfl, by decide +kernel, rfl, tyX10_ok, nmX10, Or.inl (zTG_1 (i := 229) rfl rfl)⟩
theorem fk_RX10_22 : zFK RX10 22 10 1 .int false := ⟨RX10, TX10, 9, tyX10, rfl, wsin_X10, by decide, rfl, by decide, rfl, by decide +kernel, rfl, tyX10_ok, nmX10, Or.inl (zTG_1 (i := 227) rfl rfl)⟩
theorem fk_RX10_31 : zFK RX10 31 10 4 .int false := ⟨RX10, TX10, 9, tyX10, rfl, wsin_X10, by decide, rfl, by decide, rfl, by decide +kernel, rfl, tyX10_ok, nmX10, Or.inl (zTG_1 (i := 233) rfl rfl)⟩
theorem fk_RX10_34 : zFK RX10 34 10 5 .int false := ⟨RX10, TX10, 9, tyX10, rfl, wsin_X10, by decide, rfl, by decide, rfl, by decide +kernel, rfl, tyX10_ok, nmX10, Or.inl (zTG_1 (i := 234) rfl rfl)⟩
theorem fk_RX10_37 : zFK RX10 37 10 6 .int false := ⟨RX10, TX10, 9, tyX10, rfl, wsin_X10, by decide, rfl, by decide, rfl, by decide +kernel, rfl, tyX10_ok, nmX10, Or.inl (zTG_1 (i := 235) rfl rfl)⟩
theorem fk_RX10_40 : zFK RX10 40 10 7 .int false := ⟨RX10, TX10, 9, tyX10, rfl, wsin_X10, by decide, rfl, by decide, rfl, by decide +kernel, rfl, tyX10_ok, nmX10, Or.inl (zTG_1 (i := 236) rfl rfl)⟩
theorem fk_RX10_43 : zFK RX10 43 10 8 .int false := ⟨RX10, TX10, 9, tyX10, rfl, wsin_X10, by decide, rfl, by decide, rfl, by decide +kernel, rfl, tyX10_ok, nmX10, Or.inl (zTG_1 (i := 237) rfl rfl)⟩
theorem fk_RX10_9 : zFK RX10 9 10 3 (.array .int) true := ⟨RX10, TX10, 9, tyX10, rfl, wsin_X10, by decide, rfl, by decide, rfl, by decide +kernel, rfl, tyX10_ok, nmX10, Or.inl (zTG_1 (i := 231) rfl rfl)⟩
theorem fk_RX11_107 : zFK RX11 107 10 3 (.array .int) true := ⟨RX10, TX10, 9, tyX10, rfl, wsin_X10, by decide, rfl, by decide, rfl, by decide +kernel, rfl, tyX10_ok, nmX10, Or.inl (zTG_1 (i := 232) rfl rfl)⟩
theorem fk_RX11_111 : zFK RX11 111 10 2 .int false := ⟨RX10, TX10, 9, tyX10, rfl, wsin_X10, by decide, rfl, by decide, rfl, by decide +kernel, rfl, tyX10_ok, nmX10, Or.inl (zTG_1 (i := 230) rfl rfl)⟩
theorem fk_RX11_133 : zFK RX11 133 0 4 (.array .byte) true := ⟨RX0, TX0, 9, tyX0, rfl, wsin_X0, by decide, rfl, by decide, rfl, by decide +kernel, rfl, tyX0_ok, nmX0, Or.inl (zTG_1 (i := 56) rfl rfl)⟩
theorem fk_RX11_143 : zFK RX11 143 0 6 (.array .byte) true := ⟨RX0, TX0, 9, tyX0, rfl, wsin_X0, by decide, rfl, by decide, rfl, by decide +kernel, rfl, tyX0_ok, nmX0, Or.inl (zTG_1 (i := 63) rfl rfl)⟩
theorem fk_RX11_149 : zFK RX11 149 0 5 (.array .int) true := ⟨RX0, TX0, 9, tyX0, rfl, wsin_X0, by decide, rfl, by decide, rfl, by decide +kernel, rfl, tyX0_ok, nmX0, Or.inl (zTG_1 (i := 60) rfl rfl)⟩
theorem fk_RX11_152 : zFK RX11 152 0 2 .int false := ⟨RX0, TX0, 9, tyX0, rfl, wsin_X0, by decide, rfl, by decide, rfl, by decide +kernel, rfl, tyX0_ok, nmX0, Or.inl (zTG_1 (i := 48) rfl rfl)⟩
theorem fk_RX11_155 : zFK RX11 155 0 3 .int false := ⟨RX0, TX0, 9, tyX0, rfl, wsin_X0, by decide, rfl, by decide, rfl, by decide +kernel, rfl, tyX0_ok, nmX0, Or.inl (zTG_1 (i := 53) rfl rfl)⟩
theorem fk_RX11_161 : zFK RX11 161 2 2 .int false := ⟨RX2, TX2, 18, tyX2, rfl, wsin_X2, by decide, rfl, by decide, rfl, by decide +kernel, rfl, tyX2_ok, nmX2, Or.inl (zTG_1 (i := 103) rfl rfl)⟩
theorem fk_RX11_164 : zFK RX11 164 2 3 (.array .int) true := ⟨RX2, TX2, 18, tyX2, rfl, wsin_X2, by decide, rfl, by decide, rfl, by decide +kernel, rfl, tyX2_ok, nmX2, Or.inl (zTG_1 (i := 107) rfl rfl)⟩
theorem fk_RX11_197 : zFK RX11 197 1 2 (.array .int) true := ⟨RX1, TX1, 12, tyX1, rfl, wsin_X1, by decide, rfl, by decide, rfl, by decide +kernel, rfl, tyX1_ok, nmX1, Or.inl (zTG_1 (i := 177) rfl rfl)⟩
theorem fk_RX11_200 : zFK RX11 200 1 3 (.array .int) true := ⟨RX1, TX1, 12, tyX1, rfl, wsin_X1, by decide, rfl, by decide, rfl, by decide +kernel, rfl, tyX1_ok, nmX1, Or.inl (zTG_1 (i := 180) rfl rfl)⟩
theorem fk_RX11_203 : zFK RX11 203 1 4 (.array .int) true := ⟨RX1, TX1, 12, tyX1, rfl, wsin_X1, by decide, rfl, by decide, rfl, by decide +kernel, rfl, tyX1_ok, nmX1, Or.inl (zTG_1 (i := 183) rfl rfl)⟩
theorem fk_RX11_219 : zFK RX11 219 1 5 (.array .int) true := ⟨RX1, TX1, 12, tyX1, rfl, wsin_X1, by decide, rfl, by decide, rfl, by decide +kernel, rfl, tyX1_ok, nmX1, Or.inl (zTG_1 (i := 185) rfl rfl)⟩
theorem fk_RX11_225 : zFK RX11 225 1 1 .int false := ⟨RX1, TX1, 12, tyX1, rfl, wsin_X1, by decide, rfl, by decide, rfl, by decide +kernel, rfl, tyX1_ok, nmX1, Or.inl (zTG_1 (i := 175) rfl rfl)⟩
theorem fk_RX11_235 : zFK RX11 235 6 1 .int false := ⟨RX6, TX6, 12, tyX6, rfl, wsin_X6, by decide, rfl, by decide, rfl, by decide +kernel, rfl, tyX6_ok, nmX6, Or.inl (zTG_2 (i := 25) rfl rfl)⟩
theorem fk_RX11_236 : zFK RX11 236 6 2 (.array .int) true := ⟨RX6, TX6, 12, tyX6, rfl, wsin_X6, by decide, rfl, by decide, rfl, by decide +kernel, rfl, tyX6_ok, nmX6, Or.inl (zTG_2 (i := 27) rfl rfl)⟩
theorem fk_RX11_245 : zFK RX11 245 0 1 .int false := ⟨RX0, TX0, 9, tyX0, rfl, wsin_X0, by decide, rfl, by decide, rfl, by decide +kernel, rfl, tyX0_ok, nmX0, Or.inl (zTG_1 (i := 46) rfl rfl)⟩
theorem fk_RX11_248 : zFK RX11 248 0 0 .int false := ⟨RX0, TX0, 9, tyX0, rfl, wsin_X0, by decide, rfl, by decide, rfl, by decide +kernel, rfl, tyX0_ok, nmX0, Or.inl (zTG_1 (i := 41) rfl rfl)⟩
theorem fk_RX11_25 : zFK RX11 25 11 0 (.object "DotLines$Board") true := ⟨RX11, TX11, 13, tyX11, rfl, wsin_X11, by decide, rfl, by decide, rfl, by decide +kernel, rfl, tyX11_ok, nmX11, Or.inl (zTG_2 (i := 208) rfl rfl)⟩
theorem fk_RX11_289 : zFK RX11 289 4 1 .int false := ⟨RX4, TX4, 5, tyX4, rfl, wsin_X4, by decide, rfl, by decide, rfl, by decide +kernel, rfl, tyX4_ok, nmX4, Or.inl (zTG_2 (i := 86) rfl rfl)⟩
theorem fk_RX11_29 : zFK RX11 29 11 1 (.object "DotLines$Faces") true := ⟨RX11, TX11, 13, tyX11, rfl, wsin_X11, by decide, rfl, by decide, rfl, by decide +kernel, rfl, tyX11_ok, nmX11, Or.inl (zTG_2 (i := 209) rfl rfl)⟩
theorem fk_RX11_292 : zFK RX11 292 4 2 .int false := ⟨RX4, TX4, 5, tyX4, rfl, wsin_X4, by decide, rfl, by decide, rfl, by decide +kernel, rfl, tyX4_ok, nmX4, Or.inl (zTG_2 (i := 88) rfl rfl)⟩
theorem fk_RX11_300 : zFK RX11 300 5 1 .int false := ⟨RX5, TX5, 6, tyX5, rfl, wsin_X5, by decide, rfl, by decide, rfl, by decide +kernel, rfl, tyX5_ok, nmX5, Or.inl (zTG_2 (i := 110) rfl rfl)⟩
theorem fk_RX11_306 : zFK RX11 306 5 2 .int false := ⟨RX5, TX5, 6, tyX5, rfl, wsin_X5, by decide, rfl, by decide, rfl, by decide +kernel, rfl, tyX5_ok, nmX5, Or.inl (zTG_2 (i := 112) rfl rfl)⟩
theorem fk_RX11_307 : zFK RX11 307 5 3 (.array .int) true := ⟨RX5, TX5, 6, tyX5, rfl, wsin_X5, by decide, rfl, by decide, rfl, by decide +kernel, rfl, tyX5_ok, nmX5, Or.inl (zTG_2 (i := 114) rfl rfl)⟩
theorem fk_RX11_314 : zFK RX11 314 7 1 .int false := ⟨RX7, TX7, 5, tyX7, rfl, wsin_X7, by decide, rfl, by decide, rfl, by decide +kernel, rfl, tyX7_ok, nmX7, Or.inl (zTG_2 (i := 171) rfl rfl)⟩
theorem fk_RX11_317 : zFK RX11 317 8 0 .int false := ⟨RX8, TX8, 6, tyX8, rfl, wsin_X8, by decide, rfl, by decide, rfl, by decide +kernel, rfl, tyX8_ok, nmX8, Or.inl (zTG_2 (i := 139) rfl rfl)⟩
theorem fk_RX11_321 : zFK RX11 321 8 3 (.array .boolean) true := ⟨RX8, TX8, 6, tyX8, rfl, wsin_X8, by decide, rfl, by decide, rfl, by decide +kernel, rfl, tyX8_ok, nmX8, Or.inl (zTG_2 (i := 145) rfl rfl)⟩
theorem fk_RX11_325 : zFK RX11 325 7 0 (.array .int) true := ⟨RX7, TX7, 5, tyX7, rfl, wsin_X7, by decide, rfl, by decide, rfl, by decide +kernel, rfl, tyX7_ok, nmX7, Or.inl (zTG_2 (i := 169) rfl rfl)⟩
theorem fk_RX11_33 : zFK RX11 33 11 2 (.object "DotLines$Border") true := ⟨RX11, TX11, 13, tyX11, rfl, wsin_X11, by decide, rfl, by decide, rfl, by decide +kernel, rfl, tyX11_ok, nmX11, Or.inl (zTG_2 (i := 210) rfl rfl)⟩
theorem fk_RX11_331 : zFK RX11 331 8 1 (.array (.array .int)) true := ⟨RX8, TX8, 6, tyX8, rfl, wsin_X8, by decide, rfl, by decide, rfl, by decide +kernel, rfl, tyX8_ok, nmX8, Or.inl (zTG_2 (i := 141) rfl rfl)⟩
theorem fk_RX11_335 : zFK RX11 335 8 2 (.array .int) true := ⟨RX8, TX8, 6, tyX8, rfl, wsin_X8, by decide, rfl, by decide, rfl, by decide +kernel, rfl, tyX8_ok, nmX8, Or.inl (zTG_2 (i := 143) rfl rfl)⟩
theorem fk_RX11_370 : zFK RX11 370 3 0 .int false := ⟨RX3, TX3, 4, tyX3, rfl, wsin_X3, by decide, rfl, by decide, rfl, by decide +kernel, rfl, tyX3_ok, nmX3, Or.inl (zTG_2 (i := 195) rfl rfl)⟩
theorem fk_RX11_389 : zFK RX11 389 10 0 .int false := ⟨RX10, TX10, 9, tyX10, rfl, wsin_X10, by decide, rfl, by decide, rfl, by decide +kernel, rfl, tyX10_ok, nmX10, Or.inl (zTG_1 (i := 226) rfl rfl)⟩
theorem fk_RX11_409 : zFK RX11 409 10 1 .int false := ⟨RX10, TX10, 9, tyX10, rfl, wsin_X10, by decide, rfl, by decide, rfl, by decide +kernel, rfl, tyX10_ok, nmX10, Or.inl (zTG_1 (i := 228) rfl rfl)⟩
theorem fk_RX11_42 : zFK RX11 42 11 3 (.object "DotLines$Pieces") true := ⟨RX11, TX11, 13, tyX11, rfl, wsin_X11, by decide, rfl, by decide, rfl, by decide +kernel, rfl, tyX11_ok, nmX11, Or.inl (zTG_2 (i := 211) rfl rfl)⟩
theorem fk_RX11_436 : zFK RX11 436 2 4 (.array .int) true := ⟨RX2, TX2, 18, tyX2, rfl, wsin_X2, by decide, rfl, by decide, rfl, by decide +kernel, rfl, tyX2_ok, nmX2, Or.inl (zTG_1 (i := 111) rfl rfl)⟩
theorem fk_RX11_439 : zFK RX11 439 2 5 (.array .int) true := ⟨RX2, TX2, 18, tyX2, rfl, wsin_X2, by decide, rfl, by decide, rfl, by decide +kernel, rfl, tyX2_ok, nmX2, Or.inl (zTG_1 (i := 114) rfl rfl)⟩
theorem fk_RX11_442 : zFK RX11 442 2 6 (.array .int) true := ⟨RX2, TX2, 18, tyX2, rfl, wsin_X2, by decide, rfl, by decide, rfl, by decide +kernel, rfl, tyX2_ok, nmX2, Or.inl (zTG_1 (i := 117) rfl rfl)⟩
theorem fk_RX11_49 : zFK RX11 49 11 4 (.object "DotLines$Shapes") true := ⟨RX11, TX11, 13, tyX11, rfl, wsin_X11, by decide, rfl, by decide, rfl, by decide +kernel, rfl, tyX11_ok, nmX11, Or.inl (zTG_2 (i := 212) rfl rfl)⟩
theorem fk_RX11_56 : zFK RX11 56 11 5 (.object "DotLines$Palette") true := ⟨RX11, TX11, 13, tyX11, rfl, wsin_X11, by decide, rfl, by decide, rfl, by decide +kernel, rfl, tyX11_ok, nmX11, Or.inl (zTG_2 (i := 213) rfl rfl)⟩
theorem fk_RX11_63 : zFK RX11 63 11 6 (.object "DotLines$PenWay") true := ⟨RX11, TX11, 13, tyX11, rfl, wsin_X11, by decide, rfl, by decide, rfl, by decide +kernel, rfl, tyX11_ok, nmX11, Or.inl (zTG_2 (i := 214) rfl rfl)⟩
theorem fk_RX11_70 : zFK RX11 70 11 7 (.object "DotLines$Rules") true := ⟨RX11, TX11, 13, tyX11, rfl, wsin_X11, by decide, rfl, by decide, rfl, by decide +kernel, rfl, tyX11_ok, nmX11, Or.inl (zTG_2 (i := 215) rfl rfl)⟩
theorem fk_RX11_77 : zFK RX11 77 11 8 (.object "DotLines$RuleReader") true := ⟨RX11, TX11, 13, tyX11, rfl, wsin_X11, by decide, rfl, by decide, rfl, by decide +kernel, rfl, tyX11_ok, nmX11, Or.inl (zTG_2 (i := 216) rfl rfl)⟩
theorem fk_RX11_84 : zFK RX11 84 11 9 (.object "DotLines$History") true := ⟨RX11, TX11, 13, tyX11, rfl, wsin_X11, by decide, rfl, by decide, rfl, by decide +kernel, rfl, tyX11_ok, nmX11, Or.inl (zTG_2 (i := 217) rfl rfl)⟩
theorem fk_RX11_88 : zFK RX11 88 11 10 (.array (.object "DotLines$Shelf")) true := ⟨RX11, TX11, 13, tyX11, rfl, wsin_X11, by decide, rfl, by decide, rfl, by decide +kernel, rfl, tyX11_ok, nmX11, Or.inl (zTG_2 (i := 218) rfl rfl)⟩
theorem fk_RX11_92 : zFK RX11 92 11 11 (.object "DotLines$Board") true := ⟨RX11, TX11, 13, tyX11, rfl, wsin_X11, by decide, rfl, by decide, rfl, by decide +kernel, rfl, tyX11_ok, nmX11, Or.inl (zTG_2 (i := 219) rfl rfl)⟩
theorem fk_RX11_95 : zFK RX11 95 11 12 .boolean false := ⟨RX11, TX11, 13, tyX11, rfl, wsin_X11, by decide, rfl, by decide, rfl, by decide +kernel, rfl, tyX11_ok, nmX11, Or.inl (zTG_2 (i := 220) rfl rfl)⟩
theorem fk_RX12_100 : zFK RX12 100 12 56 (.array .int) true := ⟨RX12, TX12, 75, tyX12, rfl, wsin_X12, by decide, rfl, by decide, rfl, by decide +kernel, rfl, tyX12_ok, nmX12, Or.inl (zTG_6 (i := 162) rfl rfl)⟩
theorem fk_RX12_103 : zFK RX12 103 12 61 (.array .boolean) true := ⟨RX12, TX12, 75, tyX12, rfl, wsin_X12, by decide, rfl, by decide, rfl, by decide +kernel, rfl, tyX12_ok, nmX12, Or.inl (zTG_6 (i := 167) rfl rfl)⟩
theorem fk_RX12_106 : zFK RX12 106 12 63 (.array .int) true := ⟨RX12, TX12, 75, tyX12, rfl, wsin_X12, by decide, rfl, by decide, rfl, by decide +kernel, rfl, tyX12_ok, nmX12, Or.inl (zTG_6 (i := 169) rfl rfl)⟩
theorem fk_RX12_109 : zFK RX12 109 12 65 (.array .int) true := ⟨RX12, TX12, 75, tyX12, rfl, wsin_X12, by decide, rfl, by decide, rfl, by decide +kernel, rfl, tyX12_ok, nmX12, Or.inl (zTG_6 (i := 171) rfl rfl)⟩
theorem fk_RX12_112 : zFK RX12 112 12 66 (.array .int) true := ⟨RX12, TX12, 75, tyX12, rfl, wsin_X12, by decide, rfl, by decide, rfl, by decide +kernel, rfl, tyX12_ok, nmX12, Or.inl (zTG_6 (i := 172) rfl rfl)⟩
theorem fk_RX12_115 : zFK RX12 115 12 67 (.array .int) true := ⟨RX12, TX12, 75, tyX12, rfl, wsin_X12, by decide, rfl, by decide, rfl, by decide +kernel, rfl, tyX12_ok, nmX12, Or.inl (zTG_6 (i := 173) rfl rfl)⟩
theorem fk_RX12_118 : zFK RX12 118 12 68 (.array .int) true := ⟨RX12, TX12, 75, tyX12, rfl, wsin_X12, by decide, rfl, by decide, rfl, by decide +kernel, rfl, tyX12_ok, nmX12, Or.inl (zTG_6 (i := 174) rfl rfl)⟩
theorem fk_RX12_121 : zFK RX12 121 12 69 (.array .int) true := ⟨RX12, TX12, 75, tyX12, rfl, wsin_X12, by decide, rfl, by decide, rfl, by decide +kernel, rfl, tyX12_ok, nmX12, Or.inl (zTG_6 (i := 175) rfl rfl)⟩
theorem fk_RX12_124 : zFK RX12 124 12 70 (.array .int) true := ⟨RX12, TX12, 75, tyX12, rfl, wsin_X12, by decide, rfl, by decide, rfl, by decide +kernel, rfl, tyX12_ok, nmX12, Or.inl (zTG_6 (i := 176) rfl rfl)⟩
theorem fk_RX12_127 : zFK RX12 127 12 71 (.array .int) true := ⟨RX12, TX12, 75, tyX12, rfl, wsin_X12, by decide, rfl, by decide, rfl, by decide +kernel, rfl, tyX12_ok, nmX12, Or.inl (zTG_6 (i := 177) rfl rfl)⟩
theorem fk_RX12_13 : zFK RX12 13 12 2 .int false := ⟨RX12, TX12, 75, tyX12, rfl, wsin_X12, by decide, rfl, by decide, rfl, by decide +kernel, rfl, tyX12_ok, nmX12, Or.inl (zTG_6 (i := 108) rfl rfl)⟩
theorem fk_RX12_130 : zFK RX12 130 12 72 (.array .int) true := ⟨RX12, TX12, 75, tyX12, rfl, wsin_X12, by decide, rfl, by decide, rfl, by decide +kernel, rfl, tyX12_ok, nmX12, Or.inl (zTG_6 (i := 178) rfl rfl)⟩
theorem fk_RX12_133 : zFK RX12 133 12 73 (.array .long) true := ⟨RX12, TX12, 75, tyX12, rfl, wsin_X12, by decide, rfl, by decide, rfl, by decide +kernel, rfl, tyX12_ok, nmX12, Or.inl (zTG_6 (i := 179) rfl rfl)⟩
theorem fk_RX12_137 : zFK RX12 137 12 74 (.array .long) true := ⟨RX12, TX12, 75, tyX12, rfl, wsin_X12, by decide, rfl, by decide, rfl, by decide +kernel, rfl, tyX12_ok, nmX12, Or.inl (zTG_6 (i := 180) rfl rfl)⟩
theorem fk_RX12_140 : zFK RX12 140 12 0 .int false := ⟨RX12, TX12, 75, tyX12, rfl, wsin_X12, by decide, rfl, by decide, rfl, by decide +kernel, rfl, tyX12_ok, nmX12, Or.inl (zTG_6 (i := 106) rfl rfl)⟩
theorem fk_RX12_143 : zFK RX12 143 12 23 .int false := ⟨RX12, TX12, 75, tyX12, rfl, wsin_X12, by decide, rfl, by decide, rfl, by decide +kernel, rfl, tyX12_ok, nmX12, Or.inl (zTG_6 (i := 129) rfl rfl)⟩
theorem fk_RX12_146 : zFK RX12 146 12 22 .int false := ⟨RX12, TX12, 75, tyX12, rfl, wsin_X12, by decide, rfl, by decide, rfl, by decide +kernel, rfl, tyX12_ok, nmX12, Or.inl (zTG_6 (i := 128) rfl rfl)⟩
theorem fk_RX12_149 : zFK RX12 149 12 21 .int false := ⟨RX12, TX12, 75, tyX12, rfl, wsin_X12, by decide, rfl, by decide, rfl, by decide +kernel, rfl, tyX12_ok, nmX12, Or.inl (zTG_6 (i := 127) rfl rfl)⟩
theorem fk_RX12_16 : zFK RX12 16 12 3 (.array .int) true := ⟨RX12, TX12, 75, tyX12, rfl, wsin_X12, by decide, rfl, by decide, rfl, by decide +kernel, rfl, tyX12_ok, nmX12, Or.inl (zTG_6 (i := 109) rfl rfl)⟩
theorem fk_RX12_164 : zFK RX12 164 12 24 .boolean false := ⟨RX12, TX12, 75, tyX12, rfl, wsin_X12, by decide, rfl, by decide, rfl, by decide +kernel, rfl, tyX12_ok, nmX12, Or.inl (zTG_6 (i := 130) rfl rfl)⟩
theorem fk_RX12_168 : zFK RX12 168 12 26 .int false := ⟨RX12, TX12, 75, tyX12, rfl, wsin_X12, by decide, rfl, by decide, rfl, by decide +kernel, rfl, tyX12_ok, nmX12, Or.inl (zTG_6 (i := 132) rfl rfl)⟩
theorem fk_RX12_171 : zFK RX12 171 12 27 .int false := ⟨RX12, TX12, 75, tyX12, rfl, wsin_X12, by decide, rfl, by decide, rfl, by decide +kernel, rfl, tyX12_ok, nmX12, Or.inl (zTG_6 (i := 133) rfl rfl)⟩
theorem fk_RX12_20 : zFK RX12 20 12 4 (.array .int) true := ⟨RX12, TX12, 75, tyX12, rfl, wsin_X12, by decide, rfl, by decide, rfl, by decide +kernel, rfl, tyX12_ok, nmX12, Or.inl (zTG_6 (i := 110) rfl rfl)⟩
theorem fk_RX12_205 : zFK RX12 205 12 7 .int false := ⟨RX12, TX12, 75, tyX12, rfl, wsin_X12, by decide, rfl, by decide, rfl, by decide +kernel, rfl, tyX12_ok, nmX12, Or.inl (zTG_6 (i := 113) rfl rfl)⟩
theorem fk_RX12_208 : zFK RX12 208 12 8 .int false := ⟨RX12, TX12, 75, tyX12, rfl, wsin_X12, by decide, rfl, by decide, rfl, by decide +kernel, rfl, tyX12_ok, nmX12, Or.inl (zTG_6 (i := 114) rfl rfl)⟩
theorem fk_RX12_224 : zFK RX12 224 12 5 .int false := ⟨RX12, TX12, 75, tyX12, rfl, wsin_X12, by decide, rfl, by decide, rfl, by decide +kernel, rfl, tyX12_ok, nmX12, Or.inl (zTG_6 (i := 111) rfl rfl)⟩
theorem fk_RX12_23 : zFK RX12 23 12 6 (.array .int) true := ⟨RX12, TX12, 75, tyX12, rfl, wsin_X12, by decide, rfl, by decide, rfl, by decide +kernel, rfl, tyX12_ok, nmX12, Or.inl (zTG_6 (i := 112) rfl rfl)⟩
theorem fk_RX12_233 : zFK RX12 233 12 30 .int false := ⟨RX12, TX12, 75, tyX12, rfl, wsin_X12, by decide, rfl, by decide, rfl, by decide +kernel, rfl, tyX12_ok, nmX12, Or.inl (zTG_6 (i := 136) rfl rfl)⟩
theorem fk_RX12_243 : zFK RX12 243 12 32 .int false := ⟨RX12, TX12, 75, tyX12, rfl, wsin_X12, by decide, rfl, by decide, rfl, by decide +kernel, rfl, tyX12_ok, nmX12, Or.inl (zTG_6 (i := 138) rfl rfl)⟩
theorem fk_RX12_246 : zFK RX12 246 12 33 .int false := ⟨RX12, TX12, 75, tyX12, rfl, wsin_X12, by decide, rfl, by decide, rfl, by decide +kernel, rfl, tyX12_ok, nmX12, Or.inl (zTG_6 (i := 139) rfl rfl)⟩
theorem fk_RX12_249 : zFK RX12 249 12 34 .int false := ⟨RX12, TX12, 75, tyX12, rfl, wsin_X12, by decide, rfl, by decide, rfl, by decide +kernel, rfl, tyX12_ok, nmX12, Or.inl (zTG_6 (i := 140) rfl rfl)⟩
theorem fk_RX12_252 : zFK RX12 252 12 35 .int false := ⟨RX12, TX12, 75, tyX12, rfl, wsin_X12, by decide, rfl, by decide, rfl, by decide +kernel, rfl, tyX12_ok, nmX12, Or.inl (zTG_6 (i := 141) rfl rfl)⟩
theorem fk_RX12_259 : zFK RX12 259 12 37 .int false := ⟨RX12, TX12, 75, tyX12, rfl, wsin_X12, by decide, rfl, by decide, rfl, by decide +kernel, rfl, tyX12_ok, nmX12, Or.inl (zTG_6 (i := 143) rfl rfl)⟩
theorem fk_RX12_26 : zFK RX12 26 12 10 (.array .int) true := ⟨RX12, TX12, 75, tyX12, rfl, wsin_X12, by decide, rfl, by decide, rfl, by decide +kernel, rfl, tyX12_ok, nmX12, Or.inl (zTG_6 (i := 116) rfl rfl)⟩
theorem fk_RX12_29 : zFK RX12 29 12 11 (.array .int) true := ⟨RX12, TX12, 75, tyX12, rfl, wsin_X12, by decide, rfl, by decide, rfl, by decide +kernel, rfl, tyX12_ok, nmX12, Or.inl (zTG_6 (i := 117) rfl rfl)⟩
theorem fk_RX12_297 : zFK RX12 297 12 38 .int false := ⟨RX12, TX12, 75, tyX12, rfl, wsin_X12, by decide, rfl, by decide, rfl, by decide +kernel, rfl, tyX12_ok, nmX12, Or.inl (zTG_6 (i := 144) rfl rfl)⟩
theorem fk_RX12_32 : zFK RX12 32 12 12 (.array .boolean) true := ⟨RX12, TX12, 75, tyX12, rfl, wsin_X12, by decide, rfl, by decide, rfl, by decide +kernel, rfl, tyX12_ok, nmX12, Or.inl (zTG_6 (i := 118) rfl rfl)⟩
theorem fk_RX12_322 : zFK RX12 322 12 42 .int false := ⟨RX12, TX12, 75, tyX12, rfl, wsin_X12, by decide, rfl, by decide, rfl, by decide +kernel, rfl, tyX12_ok, nmX12, Or.inl (zTG_6 (i := 148) rfl rfl)⟩
theorem fk_RX12_356 : zFK RX12 356 12 50 .int false := ⟨RX12, TX12, 75, tyX12, rfl, wsin_X12, by decide, rfl, by decide, rfl, by decide +kernel, rfl, tyX12_ok, nmX12, Or.inl (zTG_6 (i := 156) rfl rfl)⟩
theorem fk_RX12_36 : zFK RX12 36 12 16 (.array .int) true := ⟨RX12, TX12, 75, tyX12, rfl, wsin_X12, by decide, rfl, by decide, rfl, by decide +kernel, rfl, tyX12_ok, nmX12, Or.inl (zTG_6 (i := 122) rfl rfl)⟩
theorem fk_RX12_39 : zFK RX12 39 12 17 (.array .int) true := ⟨RX12, TX12, 75, tyX12, rfl, wsin_X12, by decide, rfl, by decide, rfl, by decide +kernel, rfl, tyX12_ok, nmX12, Or.inl (zTG_6 (i := 123) rfl rfl)⟩
theorem fk_RX12_397 : zFK RX12 397 12 52 .int false := ⟨RX12, TX12, 75, tyX12, rfl, wsin_X12, by decide, rfl, by decide, rfl, by decide +kernel, rfl, tyX12_ok, nmX12, Or.inl (zTG_6 (i := 158) rfl rfl)⟩
theorem fk_RX12_404 : zFK RX12 404 12 53 .int false := ⟨RX12, TX12, 75, tyX12, rfl, wsin_X12, by decide, rfl, by decide, rfl, by decide +kernel, rfl, tyX12_ok, nmX12, Or.inl (zTG_6 (i := 159) rfl rfl)⟩
theorem fk_RX12_412 : zFK RX12 412 12 57 .int false := ⟨RX12, TX12, 75, tyX12, rfl, wsin_X12, by decide, rfl, by decide, rfl, by decide +kernel, rfl, tyX12_ok, nmX12, Or.inl (zTG_6 (i := 163) rfl rfl)⟩
theorem fk_RX12_42 : zFK RX12 42 12 20 (.array .boolean) true := ⟨RX12, TX12, 75, tyX12, rfl, wsin_X12, by decide, rfl, by decide, rfl, by decide +kernel, rfl, tyX12_ok, nmX12, Or.inl (zTG_6 (i := 126) rfl rfl)⟩
theorem fk_RX12_425 : zFK RX12 425 12 58 .boolean false := ⟨RX12, TX12, 75, tyX12, rfl, wsin_X12, by decide, rfl, by decide, rfl, by decide +kernel, rfl, tyX12_ok, nmX12, Or.inl (zTG_6 (i := 164) rfl rfl)⟩
theorem fk_RX12_428 : zFK RX12 428 12 59 .int false := ⟨RX12, TX12, 75, tyX12, rfl, wsin_X12, by decide, rfl, by decide, rfl, by decide +kernel, rfl, tyX12_ok, nmX12, Or.inl (zTG_6 (i := 165) rfl rfl)⟩
theorem fk_RX12_446 : zFK RX12 446 12 64 .int false := ⟨RX12, TX12, 75, tyX12, rfl, wsin_X12, by decide, rfl, by decide, rfl, by decide +kernel, rfl, tyX12_ok, nmX12, Or.inl (zTG_6 (i := 170) rfl rfl)⟩
theorem fk_RX12_45 : zFK RX12 45 12 25 (.array .int) true := ⟨RX12, TX12, 75, tyX12, rfl, wsin_X12, by decide, rfl, by decide, rfl, by decide +kernel, rfl, tyX12_ok, nmX12, Or.inl (zTG_6 (i := 131) rfl rfl)⟩
theorem fk_RX12_452 : zFK RX12 452 12 62 .int false := ⟨RX12, TX12, 75, tyX12, rfl, wsin_X12, by decide, rfl, by decide, rfl, by decide +kernel, rfl, tyX12_ok, nmX12, Or.inl (zTG_6 (i := 168) rfl rfl)⟩
theorem fk_RX12_455 : zFK RX12 455 12 60 .int false := ⟨RX12, TX12, 75, tyX12, rfl, wsin_X12, by decide, rfl, by decide, rfl, by decide +kernel, rfl, tyX12_ok, nmX12, Or.inl (zTG_6 (i := 166) rfl rfl)⟩
theorem fk_RX12_478 : zFK RX12 478 12 9 .int false := ⟨RX12, TX12, 75, tyX12, rfl, wsin_X12, by decide, rfl, by decide, rfl, by decide +kernel, rfl, tyX12_ok, nmX12, Or.inl (zTG_6 (i := 115) rfl rfl)⟩
theorem fk_RX12_48 : zFK RX12 48 12 28 (.array .int) true := ⟨RX12, TX12, 75, tyX12, rfl, wsin_X12, by decide, rfl, by decide, rfl, by decide +kernel, rfl, tyX12_ok, nmX12, Or.inl (zTG_6 (i := 134) rfl rfl)⟩
theorem fk_RX12_481 : zFK RX12 481 12 13 .boolean false := ⟨RX12, TX12, 75, tyX12, rfl, wsin_X12, by decide, rfl, by decide, rfl, by decide +kernel, rfl, tyX12_ok, nmX12, Or.inl (zTG_6 (i := 119) rfl rfl)⟩
theorem fk_RX12_484 : zFK RX12 484 12 14 .int false := ⟨RX12, TX12, 75, tyX12, rfl, wsin_X12, by decide, rfl, by decide, rfl, by decide +kernel, rfl, tyX12_ok, nmX12, Or.inl (zTG_6 (i := 120) rfl rfl)⟩
theorem fk_RX12_487 : zFK RX12 487 12 15 .int false := ⟨RX12, TX12, 75, tyX12, rfl, wsin_X12, by decide, rfl, by decide, rfl, by decide +kernel, rfl, tyX12_ok, nmX12, Or.inl (zTG_6 (i := 121) rfl rfl)⟩
theorem fk_RX12_490 : zFK RX12 490 12 18 .int false := ⟨RX12, TX12, 75, tyX12, rfl, wsin_X12, by decide, rfl, by decide, rfl, by decide +kernel, rfl, tyX12_ok, nmX12, Or.inl (zTG_6 (i := 124) rfl rfl)⟩
theorem fk_RX12_493 : zFK RX12 493 12 19 .int false := ⟨RX12, TX12, 75, tyX12, rfl, wsin_X12, by decide, rfl, by decide, rfl, by decide +kernel, rfl, tyX12_ok, nmX12, Or.inl (zTG_6 (i := 125) rfl rfl)⟩
theorem fk_RX12_51 : zFK RX12 51 12 29 (.array .int) true := ⟨RX12, TX12, 75, tyX12, rfl, wsin_X12, by decide, rfl, by decide, rfl, by decide +kernel, rfl, tyX12_ok, nmX12, Or.inl (zTG_6 (i := 135) rfl rfl)⟩
theorem fk_RX12_54 : zFK RX12 54 12 31 (.array .int) true := ⟨RX12, TX12, 75, tyX12, rfl, wsin_X12, by decide, rfl, by decide, rfl, by decide +kernel, rfl, tyX12_ok, nmX12, Or.inl (zTG_6 (i := 137) rfl rfl)⟩
theorem fk_RX12_57 : zFK RX12 57 12 36 (.array .int) true := ⟨RX12, TX12, 75, tyX12, rfl, wsin_X12, by decide, rfl, by decide, rfl, by decide +kernel, rfl, tyX12_ok, nmX12, Or.inl (zTG_6 (i := 142) rfl rfl)⟩
theorem fk_RX12_60 : zFK RX12 60 12 39 (.array .int) true := ⟨RX12, TX12, 75, tyX12, rfl, wsin_X12, by decide, rfl, by decide, rfl, by decide +kernel, rfl, tyX12_ok, nmX12, Or.inl (zTG_6 (i := 145) rfl rfl)⟩
theorem fk_RX12_63 : zFK RX12 63 12 40 (.array .int) true := ⟨RX12, TX12, 75, tyX12, rfl, wsin_X12, by decide, rfl, by decide, rfl, by decide +kernel, rfl, tyX12_ok, nmX12, Or.inl (zTG_6 (i := 146) rfl rfl)⟩
theorem fk_RX12_66 : zFK RX12 66 12 41 (.array .int) true := ⟨RX12, TX12, 75, tyX12, rfl, wsin_X12, by decide, rfl, by decide, rfl, by decide +kernel, rfl, tyX12_ok, nmX12, Or.inl (zTG_6 (i := 147) rfl rfl)⟩
theorem fk_RX12_69 : zFK RX12 69 12 43 (.array .int) true := ⟨RX12, TX12, 75, tyX12, rfl, wsin_X12, by decide, rfl, by decide, rfl, by decide +kernel, rfl, tyX12_ok, nmX12, Or.inl (zTG_6 (i := 149) rfl rfl)⟩
theorem fk_RX12_7 : zFK RX12 7 12 1 .int false := ⟨RX12, TX12, 75, tyX12, rfl, wsin_X12, by decide, rfl, by decide, rfl, by decide +kernel, rfl, tyX12_ok, nmX12, Or.inl (zTG_6 (i := 107) rfl rfl)⟩
theorem fk_RX12_72 : zFK RX12 72 12 44 (.array .int) true := ⟨RX12, TX12, 75, tyX12, rfl, wsin_X12, by decide, rfl, by decide, rfl, by decide +kernel, rfl, tyX12_ok, nmX12, Or.inl (zTG_6 (i := 150) rfl rfl)⟩
theorem fk_RX12_75 : zFK RX12 75 12 45 (.array .int) true := ⟨RX12, TX12, 75, tyX12, rfl, wsin_X12, by decide, rfl, by decide, rfl, by decide +kernel, rfl, tyX12_ok, nmX12, Or.inl (zTG_6 (i := 151) rfl rfl)⟩
theorem fk_RX12_78 : zFK RX12 78 12 46 (.array .boolean) true := ⟨RX12, TX12, 75, tyX12, rfl, wsin_X12, by decide, rfl, by decide, rfl, by decide +kernel, rfl, tyX12_ok, nmX12, Or.inl (zTG_6 (i := 152) rfl rfl)⟩
theorem fk_RX12_82 : zFK RX12 82 12 47 (.array .boolean) true := ⟨RX12, TX12, 75, tyX12, rfl, wsin_X12, by decide, rfl, by decide, rfl, by decide +kernel, rfl, tyX12_ok, nmX12, Or.inl (zTG_6 (i := 153) rfl rfl)⟩
theorem fk_RX12_85 : zFK RX12 85 12 48 (.array .boolean) true := ⟨RX12, TX12, 75, tyX12, rfl, wsin_X12, by decide, rfl, by decide, rfl, by decide +kernel, rfl, tyX12_ok, nmX12, Or.inl (zTG_6 (i := 154) rfl rfl)⟩
theorem fk_RX12_88 : zFK RX12 88 12 49 (.array .int) true := ⟨RX12, TX12, 75, tyX12, rfl, wsin_X12, by decide, rfl, by decide, rfl, by decide +kernel, rfl, tyX12_ok, nmX12, Or.inl (zTG_6 (i := 155) rfl rfl)⟩
theorem fk_RX12_91 : zFK RX12 91 12 51 (.array .int) true := ⟨RX12, TX12, 75, tyX12, rfl, wsin_X12, by decide, rfl, by decide, rfl, by decide +kernel, rfl, tyX12_ok, nmX12, Or.inl (zTG_6 (i := 157) rfl rfl)⟩
theorem fk_RX12_94 : zFK RX12 94 12 54 (.array .int) true := ⟨RX12, TX12, 75, tyX12, rfl, wsin_X12, by decide, rfl, by decide, rfl, by decide +kernel, rfl, tyX12_ok, nmX12, Or.inl (zTG_6 (i := 160) rfl rfl)⟩
theorem fk_RX12_97 : zFK RX12 97 12 55 (.array .int) true := ⟨RX12, TX12, 75, tyX12, rfl, wsin_X12, by decide, rfl, by decide, rfl, by decide +kernel, rfl, tyX12_ok, nmX12, Or.inl (zTG_6 (i := 161) rfl rfl)⟩
theorem fk_RX1_15 : zFK RX1 15 1 3 (.array .int) true := ⟨RX1, TX1, 12, tyX1, rfl, wsin_X1, by decide, rfl, by decide, rfl, by decide +kernel, rfl, tyX1_ok, nmX1, Or.inl (zTG_1 (i := 178) rfl rfl)⟩
theorem fk_RX1_18 : zFK RX1 18 1 4 (.array .int) true := ⟨RX1, TX1, 12, tyX1, rfl, wsin_X1, by decide, rfl, by decide, rfl, by decide +kernel, rfl, tyX1_ok, nmX1, Or.inl (zTG_1 (i := 181) rfl rfl)⟩
theorem fk_RX1_21 : zFK RX1 21 1 5 (.array .int) true := ⟨RX1, TX1, 12, tyX1, rfl, wsin_X1, by decide, rfl, by decide, rfl, by decide +kernel, rfl, tyX1_ok, nmX1, Or.inl (zTG_1 (i := 184) rfl rfl)⟩
theorem fk_RX1_24 : zFK RX1 24 1 9 (.array .int) true := ⟨RX1, TX1, 12, tyX1, rfl, wsin_X1, by decide, rfl, by decide, rfl, by decide +kernel, rfl, tyX1_ok, nmX1, Or.inl (zTG_1 (i := 190) rfl rfl)⟩
theorem fk_RX1_27 : zFK RX1 27 1 10 (.array .int) true := ⟨RX1, TX1, 12, tyX1, rfl, wsin_X1, by decide, rfl, by decide, rfl, by decide +kernel, rfl, tyX1_ok, nmX1, Or.inl (zTG_1 (i := 191) rfl rfl)⟩
theorem fk_RX1_30 : zFK RX1 30 1 11 (.array .int) true := ⟨RX1, TX1, 12, tyX1, rfl, wsin_X1, by decide, rfl, by decide, rfl, by decide +kernel, rfl, tyX1_ok, nmX1, Or.inl (zTG_1 (i := 192) rfl rfl)⟩
theorem fk_RX1_33 : zFK RX1 33 1 0 (.object "DotLines$Faces") true := ⟨RX1, TX1, 12, tyX1, rfl, wsin_X1, by decide, rfl, by decide, rfl, by decide +kernel, rfl, tyX1_ok, nmX1, Or.inl (zTG_1 (i := 172) rfl rfl)⟩
theorem fk_RX1_37 : zFK RX1 37 1 6 .int false := ⟨RX1, TX1, 12, tyX1, rfl, wsin_X1, by decide, rfl, by decide, rfl, by decide +kernel, rfl, tyX1_ok, nmX1, Or.inl (zTG_1 (i := 186) rfl rfl)⟩
theorem fk_RX1_41 : zFK RX1 41 2 1 .int false := ⟨RX2, TX2, 18, tyX2, rfl, wsin_X2, by decide, rfl, by decide, rfl, by decide +kernel, rfl, tyX2_ok, nmX2, Or.inl (zTG_1 (i := 100) rfl rfl)⟩
theorem fk_RX1_44 : zFK RX1 44 1 7 .int false := ⟨RX1, TX1, 12, tyX1, rfl, wsin_X1, by decide, rfl, by decide, rfl, by decide +kernel, rfl, tyX1_ok, nmX1, Or.inl (zTG_1 (i := 188) rfl rfl)⟩
theorem fk_RX1_47 : zFK RX1 47 2 4 (.array .int) true := ⟨RX2, TX2, 18, tyX2, rfl, wsin_X2, by decide, rfl, by decide, rfl, by decide +kernel, rfl, tyX2_ok, nmX2, Or.inl (zTG_1 (i := 109) rfl rfl)⟩
theorem fk_RX1_50 : zFK RX1 50 1 1 .int false := ⟨RX1, TX1, 12, tyX1, rfl, wsin_X1, by decide, rfl, by decide, rfl, by decide +kernel, rfl, tyX1_ok, nmX1, Or.inl (zTG_1 (i := 174) rfl rfl)⟩
theorem fk_RX1_70 : zFK RX1 70 2 0 (.object "DotLines$Board") true := ⟨RX2, TX2, 18, tyX2, rfl, wsin_X2, by decide, rfl, by decide, rfl, by decide +kernel, rfl, tyX2_ok, nmX2, Or.inl (zTG_1 (i := 98) rfl rfl)⟩
theorem fk_RX1_74 : zFK RX1 74 0 2 .int false := ⟨RX0, TX0, 9, tyX0, rfl, wsin_X0, by decide, rfl, by decide, rfl, by decide +kernel, rfl, tyX0_ok, nmX0, Or.inl (zTG_1 (i := 47) rfl rfl)⟩
theorem fk_RX1_83 : zFK RX1 83 1 8 .int false := ⟨RX1, TX1, 12, tyX1, rfl, wsin_X1, by decide, rfl, by decide, rfl, by decide +kernel, rfl, tyX1_ok, nmX1, Or.inl (zTG_1 (i := 189) rfl rfl)⟩
theorem fk_RX1_9 : zFK RX1 9 1 2 (.array .int) true := ⟨RX1, TX1, 12, tyX1, rfl, wsin_X1, by decide, rfl, by decide, rfl, by decide +kernel, rfl, tyX1_ok, nmX1, Or.inl (zTG_1 (i := 176) rfl rfl)⟩
theorem fk_RX2_11 : zFK RX2 11 2 3 (.array .int) true := ⟨RX2, TX2, 18, tyX2, rfl, wsin_X2, by decide, rfl, by decide, rfl, by decide +kernel, rfl, tyX2_ok, nmX2, Or.inl (zTG_1 (i := 105) rfl rfl)⟩
theorem fk_RX2_113 : zFK RX2 113 0 6 (.array .byte) true := ⟨RX0, TX0, 9, tyX0, rfl, wsin_X0, by decide, rfl, by decide, rfl, by decide +kernel, rfl, tyX0_ok, nmX0, Or.inl (zTG_1 (i := 66) rfl rfl)⟩
theorem fk_RX2_117 : zFK RX2 117 2 14 .int false := ⟨RX2, TX2, 18, tyX2, rfl, wsin_X2, by decide, rfl, by decide, rfl, by decide +kernel, rfl, tyX2_ok, nmX2, Or.inl (zTG_1 (i := 125) rfl rfl)⟩
theorem fk_RX2_120 : zFK RX2 120 2 15 .int false := ⟨RX2, TX2, 18, tyX2, rfl, wsin_X2, by decide, rfl, by decide, rfl, by decide +kernel, rfl, tyX2_ok, nmX2, Or.inl (zTG_1 (i := 126) rfl rfl)⟩
theorem fk_RX2_127 : zFK RX2 127 2 16 .int false := ⟨RX2, TX2, 18, tyX2, rfl, wsin_X2, by decide, rfl, by decide, rfl, by decide +kernel, rfl, tyX2_ok, nmX2, Or.inl (zTG_1 (i := 127) rfl rfl)⟩
theorem fk_RX2_133 : zFK RX2 133 2 17 .int false := ⟨RX2, TX2, 18, tyX2, rfl, wsin_X2, by decide, rfl, by decide, rfl, by decide +kernel, rfl, tyX2_ok, nmX2, Or.inl (zTG_1 (i := 128) rfl rfl)⟩
theorem fk_RX2_15 : zFK RX2 15 2 4 (.array .int) true := ⟨RX2, TX2, 18, tyX2, rfl, wsin_X2, by decide, rfl, by decide, rfl, by decide +kernel, rfl, tyX2_ok, nmX2, Or.inl (zTG_1 (i := 108) rfl rfl)⟩
theorem fk_RX2_18 : zFK RX2 18 2 5 (.array .int) true := ⟨RX2, TX2, 18, tyX2, rfl, wsin_X2, by decide, rfl, by decide, rfl, by decide +kernel, rfl, tyX2_ok, nmX2, Or.inl (zTG_1 (i := 112) rfl rfl)⟩
theorem fk_RX2_21 : zFK RX2 21 2 6 (.array .int) true := ⟨RX2, TX2, 18, tyX2, rfl, wsin_X2, by decide, rfl, by decide, rfl, by decide +kernel, rfl, tyX2_ok, nmX2, Or.inl (zTG_1 (i := 115) rfl rfl)⟩
theorem fk_RX2_24 : zFK RX2 24 2 7 (.array .int) true := ⟨RX2, TX2, 18, tyX2, rfl, wsin_X2, by decide, rfl, by decide, rfl, by decide +kernel, rfl, tyX2_ok, nmX2, Or.inl (zTG_1 (i := 118) rfl rfl)⟩
theorem fk_RX2_27 : zFK RX2 27 2 8 (.array .int) true := ⟨RX2, TX2, 18, tyX2, rfl, wsin_X2, by decide, rfl, by decide, rfl, by decide +kernel, rfl, tyX2_ok, nmX2, Or.inl (zTG_1 (i := 119) rfl rfl)⟩
theorem fk_RX2_30 : zFK RX2 30 2 9 (.array .int) true := ⟨RX2, TX2, 18, tyX2, rfl, wsin_X2, by decide, rfl, by decide, rfl, by decide +kernel, rfl, tyX2_ok, nmX2, Or.inl (zTG_1 (i := 120) rfl rfl)⟩
theorem fk_RX2_33 : zFK RX2 33 2 10 (.array .int) true := ⟨RX2, TX2, 18, tyX2, rfl, wsin_X2, by decide, rfl, by decide, rfl, by decide +kernel, rfl, tyX2_ok, nmX2, Or.inl (zTG_1 (i := 121) rfl rfl)⟩
theorem fk_RX2_36 : zFK RX2 36 2 11 (.array .int) true := ⟨RX2, TX2, 18, tyX2, rfl, wsin_X2, by decide, rfl, by decide, rfl, by decide +kernel, rfl, tyX2_ok, nmX2, Or.inl (zTG_1 (i := 122) rfl rfl)⟩
theorem fk_RX2_39 : zFK RX2 39 2 12 (.array .int) true := ⟨RX2, TX2, 18, tyX2, rfl, wsin_X2, by decide, rfl, by decide, rfl, by decide +kernel, rfl, tyX2_ok, nmX2, Or.inl (zTG_1 (i := 123) rfl rfl)⟩
theorem fk_RX2_42 : zFK RX2 42 2 13 (.array .int) true := ⟨RX2, TX2, 18, tyX2, rfl, wsin_X2, by decide, rfl, by decide, rfl, by decide +kernel, rfl, tyX2_ok, nmX2, Or.inl (zTG_1 (i := 124) rfl rfl)⟩
theorem fk_RX2_45 : zFK RX2 45 2 0 (.object "DotLines$Board") true := ⟨RX2, TX2, 18, tyX2, rfl, wsin_X2, by decide, rfl, by decide, rfl, by decide +kernel, rfl, tyX2_ok, nmX2, Or.inl (zTG_1 (i := 96) rfl rfl)⟩
theorem fk_RX2_49 : zFK RX2 49 2 1 .int false := ⟨RX2, TX2, 18, tyX2, rfl, wsin_X2, by decide, rfl, by decide, rfl, by decide +kernel, rfl, tyX2_ok, nmX2, Or.inl (zTG_1 (i := 99) rfl rfl)⟩
theorem fk_RX2_53 : zFK RX2 53 0 3 .int false := ⟨RX0, TX0, 9, tyX0, rfl, wsin_X0, by decide, rfl, by decide, rfl, by decide +kernel, rfl, tyX0_ok, nmX0, Or.inl (zTG_1 (i := 51) rfl rfl)⟩
theorem fk_RX2_56 : zFK RX2 56 2 2 .int false := ⟨RX2, TX2, 18, tyX2, rfl, wsin_X2, by decide, rfl, by decide, rfl, by decide +kernel, rfl, tyX2_ok, nmX2, Or.inl (zTG_1 (i := 102) rfl rfl)⟩
theorem fk_RX2_65 : zFK RX2 65 0 1 .int false := ⟨RX0, TX0, 9, tyX0, rfl, wsin_X0, by decide, rfl, by decide, rfl, by decide +kernel, rfl, tyX0_ok, nmX0, Or.inl (zTG_1 (i := 45) rfl rfl)⟩
theorem fk_RX2_68 : zFK RX2 68 0 0 .int false := ⟨RX0, TX0, 9, tyX0, rfl, wsin_X0, by decide, rfl, by decide, rfl, by decide +kernel, rfl, tyX0_ok, nmX0, Or.inl (zTG_1 (i := 40) rfl rfl)⟩
theorem fk_RX2_82 : zFK RX2 82 0 2 .int false := ⟨RX0, TX0, 9, tyX0, rfl, wsin_X0, by decide, rfl, by decide, rfl, by decide +kernel, rfl, tyX0_ok, nmX0, Or.inl (zTG_1 (i := 49) rfl rfl)⟩
theorem fk_RX3_13 : zFK RX3 13 3 3 (.array (.array .byte)) true := ⟨RX3, TX3, 4, tyX3, rfl, wsin_X3, by decide, rfl, by decide, rfl, by decide +kernel, rfl, tyX3_ok, nmX3, Or.inl (zTG_2 (i := 198) rfl rfl)⟩
theorem fk_RX3_16 : zFK RX3 16 3 0 .int false := ⟨RX3, TX3, 4, tyX3, rfl, wsin_X3, by decide, rfl, by decide, rfl, by decide +kernel, rfl, tyX3_ok, nmX3, Or.inl (zTG_2 (i := 194) rfl rfl)⟩
theorem fk_RX3_20 : zFK RX3 20 3 1 .int false := ⟨RX3, TX3, 4, tyX3, rfl, wsin_X3, by decide, rfl, by decide, rfl, by decide +kernel, rfl, tyX3_ok, nmX3, Or.inl (zTG_2 (i := 196) rfl rfl)⟩
theorem fk_RX3_23 : zFK RX3 23 3 2 .int false := ⟨RX3, TX3, 4, tyX3, rfl, wsin_X3, by decide, rfl, by decide, rfl, by decide +kernel, rfl, tyX3_ok, nmX3, Or.inl (zTG_2 (i := 197) rfl rfl)⟩
theorem fk_RX3_41 : zFK RX3 41 0 4 (.array .byte) true := ⟨RX0, TX0, 9, tyX0, rfl, wsin_X0, by decide, rfl, by decide, rfl, by decide +kernel, rfl, tyX0_ok, nmX0, Or.inl (zTG_1 (i := 57) rfl rfl)⟩
theorem fk_RX3_45 : zFK RX3 45 0 6 (.array .byte) true := ⟨RX0, TX0, 9, tyX0, rfl, wsin_X0, by decide, rfl, by decide, rfl, by decide +kernel, rfl, tyX0_ok, nmX0, Or.inl (zTG_1 (i := 64) rfl rfl)⟩
theorem fk_RX3_48 : zFK RX3 48 0 3 .int false := ⟨RX0, TX0, 9, tyX0, rfl, wsin_X0, by decide, rfl, by decide, rfl, by decide +kernel, rfl, tyX0_ok, nmX0, Or.inl (zTG_1 (i := 54) rfl rfl)⟩
theorem fk_RX4_15 : zFK RX4 15 4 4 (.array .int) true := ⟨RX4, TX4, 5, tyX4, rfl, wsin_X4, by decide, rfl, by decide, rfl, by decide +kernel, rfl, tyX4_ok, nmX4, Or.inl (zTG_2 (i := 90) rfl rfl)⟩
theorem fk_RX4_18 : zFK RX4 18 4 0 (.object "DotLines$Board") true := ⟨RX4, TX4, 5, tyX4, rfl, wsin_X4, by decide, rfl, by decide, rfl, by decide +kernel, rfl, tyX4_ok, nmX4, Or.inl (zTG_2 (i := 84) rfl rfl)⟩
theorem fk_RX4_28 : zFK RX4 28 0 1 .int false := ⟨RX0, TX0, 9, tyX0, rfl, wsin_X0, by decide, rfl, by decide, rfl, by decide +kernel, rfl, tyX0_ok, nmX0, Or.inl (zTG_1 (i := 44) rfl rfl)⟩
theorem fk_RX4_34 : zFK RX4 34 0 0 .int false := ⟨RX0, TX0, 9, tyX0, rfl, wsin_X0, by decide, rfl, by decide, rfl, by decide +kernel, rfl, tyX0_ok, nmX0, Or.inl (zTG_1 (i := 38) rfl rfl)⟩
theorem fk_RX4_49 : zFK RX4 49 4 1 .int false := ⟨RX4, TX4, 5, tyX4, rfl, wsin_X4, by decide, rfl, by decide, rfl, by decide +kernel, rfl, tyX4_ok, nmX4, Or.inl (zTG_2 (i := 85) rfl rfl)⟩
theorem fk_RX4_52 : zFK RX4 52 4 2 .int false := ⟨RX4, TX4, 5, tyX4, rfl, wsin_X4, by decide, rfl, by decide, rfl, by decide +kernel, rfl, tyX4_ok, nmX4, Or.inl (zTG_2 (i := 87) rfl rfl)⟩
theorem fk_RX4_74 : zFK RX4 74 0 5 (.array .int) true := ⟨RX0, TX0, 9, tyX0, rfl, wsin_X0, by decide, rfl, by decide, rfl, by decide +kernel, rfl, tyX0_ok, nmX0, Or.inl (zTG_1 (i := 61) rfl rfl)⟩
theorem fk_RX4_85 : zFK RX4 85 0 6 (.array .byte) true := ⟨RX0, TX0, 9, tyX0, rfl, wsin_X0, by decide, rfl, by decide, rfl, by decide +kernel, rfl, tyX0_ok, nmX0, Or.inl (zTG_1 (i := 65) rfl rfl)⟩
theorem fk_RX4_89 : zFK RX4 89 0 4 (.array .byte) true := ⟨RX0, TX0, 9, tyX0, rfl, wsin_X0, by decide, rfl, by decide, rfl, by decide +kernel, rfl, tyX0_ok, nmX0, Or.inl (zTG_1 (i := 58) rfl rfl)⟩
theorem fk_RX4_9 : zFK RX4 9 4 3 (.array .int) true := ⟨RX4, TX4, 5, tyX4, rfl, wsin_X4, by decide, rfl, by decide, rfl, by decide +kernel, rfl, tyX4_ok, nmX4, Or.inl (zTG_2 (i := 89) rfl rfl)⟩
theorem fk_RX5_11 : zFK RX5 11 5 3 (.array .int) true := ⟨RX5, TX5, 6, tyX5, rfl, wsin_X5, by decide, rfl, by decide, rfl, by decide +kernel, rfl, tyX5_ok, nmX5, Or.inl (zTG_2 (i := 113) rfl rfl)⟩
theorem fk_RX5_15 : zFK RX5 15 5 4 (.array .int) true := ⟨RX5, TX5, 6, tyX5, rfl, wsin_X5, by decide, rfl, by decide, rfl, by decide +kernel, rfl, tyX5_ok, nmX5, Or.inl (zTG_2 (i := 115) rfl rfl)⟩
theorem fk_RX5_18 : zFK RX5 18 5 5 (.array .int) true := ⟨RX5, TX5, 6, tyX5, rfl, wsin_X5, by decide, rfl, by decide, rfl, by decide +kernel, rfl, tyX5_ok, nmX5, Or.inl (zTG_2 (i := 116) rfl rfl)⟩
theorem fk_RX5_21 : zFK RX5 21 5 0 (.object "DotLines$Faces") true := ⟨RX5, TX5, 6, tyX5, rfl, wsin_X5, by decide, rfl, by decide, rfl, by decide +kernel, rfl, tyX5_ok, nmX5, Or.inl (zTG_2 (i := 108) rfl rfl)⟩
theorem fk_RX5_25 : zFK RX5 25 5 1 .int false := ⟨RX5, TX5, 6, tyX5, rfl, wsin_X5, by decide, rfl, by decide, rfl, by decide +kernel, rfl, tyX5_ok, nmX5, Or.inl (zTG_2 (i := 109) rfl rfl)⟩
theorem fk_RX5_29 : zFK RX5 29 2 2 .int false := ⟨RX2, TX2, 18, tyX2, rfl, wsin_X2, by decide, rfl, by decide, rfl, by decide +kernel, rfl, tyX2_ok, nmX2, Or.inl (zTG_1 (i := 101) rfl rfl)⟩
theorem fk_RX5_42 : zFK RX5 42 5 2 .int false := ⟨RX5, TX5, 6, tyX5, rfl, wsin_X5, by decide, rfl, by decide, rfl, by decide +kernel, rfl, tyX5_ok, nmX5, Or.inl (zTG_2 (i := 111) rfl rfl)⟩
theorem fk_RX5_61 : zFK RX5 61 2 4 (.array .int) true := ⟨RX2, TX2, 18, tyX2, rfl, wsin_X2, by decide, rfl, by decide, rfl, by decide +kernel, rfl, tyX2_ok, nmX2, Or.inl (zTG_1 (i := 110) rfl rfl)⟩
theorem fk_RX6_15 : zFK RX6 15 6 6 (.array .int) true := ⟨RX6, TX6, 12, tyX6, rfl, wsin_X6, by decide, rfl, by decide, rfl, by decide +kernel, rfl, tyX6_ok, nmX6, Or.inl (zTG_2 (i := 31) rfl rfl)⟩
theorem fk_RX6_18 : zFK RX6 18 6 7 (.array .int) true := ⟨RX6, TX6, 12, tyX6, rfl, wsin_X6, by decide, rfl, by decide, rfl, by decide +kernel, rfl, tyX6_ok, nmX6, Or.inl (zTG_2 (i := 32) rfl rfl)⟩
theorem fk_RX6_21 : zFK RX6 21 6 8 (.array .int) true := ⟨RX6, TX6, 12, tyX6, rfl, wsin_X6, by decide, rfl, by decide, rfl, by decide +kernel, rfl, tyX6_ok, nmX6, Or.inl (zTG_2 (i := 33) rfl rfl)⟩
theorem fk_RX6_24 : zFK RX6 24 6 9 (.array .int) true := ⟨RX6, TX6, 12, tyX6, rfl, wsin_X6, by decide, rfl, by decide, rfl, by decide +kernel, rfl, tyX6_ok, nmX6, Or.inl (zTG_2 (i := 34) rfl rfl)⟩
theorem fk_RX6_27 : zFK RX6 27 6 0 (.object "DotLines$Border") true := ⟨RX6, TX6, 12, tyX6, rfl, wsin_X6, by decide, rfl, by decide, rfl, by decide +kernel, rfl, tyX6_ok, nmX6, Or.inl (zTG_2 (i := 23) rfl rfl)⟩
theorem fk_RX6_31 : zFK RX6 31 6 3 .int false := ⟨RX6, TX6, 12, tyX6, rfl, wsin_X6, by decide, rfl, by decide, rfl, by decide +kernel, rfl, tyX6_ok, nmX6, Or.inl (zTG_2 (i := 28) rfl rfl)⟩
theorem fk_RX6_41 : zFK RX6 41 1 6 .int false := ⟨RX1, TX1, 12, tyX1, rfl, wsin_X1, by decide, rfl, by decide, rfl, by decide +kernel, rfl, tyX1_ok, nmX1, Or.inr ⟨"DotLines", by simp [zNL, TX1, RX11]⟩⟩
theorem fk_RX6_42 : zFK RX6 42 6 4 .int false := ⟨RX6, TX6, 12, tyX6, rfl, wsin_X6, by decide, rfl, by decide, rfl, by decide +kernel, rfl, tyX6_ok, nmX6, Or.inl (zTG_2 (i := 29) rfl rfl)⟩
theorem fk_RX6_45 : zFK RX6 45 6 5 .int false := ⟨RX6, TX6, 12, tyX6, rfl, wsin_X6, by decide, rfl, by decide, rfl, by decide +kernel, rfl, tyX6_ok, nmX6, Or.inl (zTG_2 (i := 30) rfl rfl)⟩
theorem fk_RX6_48 : zFK RX6 48 1 1 .int false := ⟨RX1, TX1, 12, tyX1, rfl, wsin_X1, by decide, rfl, by decide, rfl, by decide +kernel, rfl, tyX1_ok, nmX1, Or.inl (zTG_1 (i := 173) rfl rfl)⟩
theorem fk_RX6_63 : zFK RX6 63 6 10 .int false := ⟨RX6, TX6, 12, tyX6, rfl, wsin_X6, by decide, rfl, by decide, rfl, by decide +kernel, rfl, tyX6_ok, nmX6, Or.inl (zTG_2 (i := 35) rfl rfl)⟩
theorem fk_RX6_66 : zFK RX6 66 6 11 .int false := ⟨RX6, TX6, 12, tyX6, rfl, wsin_X6, by decide, rfl, by decide, rfl, by decide +kernel, rfl, tyX6_ok, nmX6, Or.inl (zTG_2 (i := 36) rfl rfl)⟩
theorem fk_RX6_73 : zFK RX6 73 6 1 .int false := ⟨RX6, TX6, 12, tyX6, rfl, wsin_X6, by decide, rfl, by decide, rfl, by decide +kernel, rfl, tyX6_ok, nmX6, Or.inl (zTG_2 (i := 24) rfl rfl)⟩
theorem fk_RX6_79 : zFK RX6 79 1 4 (.array .int) true := ⟨RX1, TX1, 12, tyX1, rfl, wsin_X1, by decide, rfl, by decide, rfl, by decide +kernel, rfl, tyX1_ok, nmX1, Or.inl (zTG_1 (i := 182) rfl rfl)⟩
theorem fk_RX6_82 : zFK RX6 82 1 3 (.array .int) true := ⟨RX1, TX1, 12, tyX1, rfl, wsin_X1, by decide, rfl, by decide, rfl, by decide +kernel, rfl, tyX1_ok, nmX1, Or.inl (zTG_1 (i := 179) rfl rfl)⟩
theorem fk_RX6_9 : zFK RX6 9 6 2 (.array .int) true := ⟨RX6, TX6, 12, tyX6, rfl, wsin_X6, by decide, rfl, by decide, rfl, by decide +kernel, rfl, tyX6_ok, nmX6, Or.inl (zTG_2 (i := 26) rfl rfl)⟩
theorem fk_RX7_15 : zFK RX7 15 7 2 (.array .int) false := ⟨RX7, TX7, 5, tyX7, rfl, wsin_X7, by decide, rfl, by decide, rfl, by decide +kernel, rfl, tyX7_ok, nmX7, Or.inl (zTG_2 (i := 172) rfl rfl)⟩
theorem fk_RX7_18 : zFK RX7 18 7 1 .int false := ⟨RX7, TX7, 5, tyX7, rfl, wsin_X7, by decide, rfl, by decide, rfl, by decide +kernel, rfl, tyX7_ok, nmX7, Or.inl (zTG_2 (i := 170) rfl rfl)⟩
theorem fk_RX7_28 : zFK RX7 28 7 3 .int false := ⟨RX7, TX7, 5, tyX7, rfl, wsin_X7, by decide, rfl, by decide, rfl, by decide +kernel, rfl, tyX7_ok, nmX7, Or.inl (zTG_2 (i := 173) rfl rfl)⟩
theorem fk_RX7_31 : zFK RX7 31 7 4 .int false := ⟨RX7, TX7, 5, tyX7, rfl, wsin_X7, by decide, rfl, by decide, rfl, by decide +kernel, rfl, tyX7_ok, nmX7, Or.inl (zTG_2 (i := 174) rfl rfl)⟩
theorem fk_RX7_9 : zFK RX7 9 7 0 (.array .int) true := ⟨RX7, TX7, 5, tyX7, rfl, wsin_X7, by decide, rfl, by decide, rfl, by decide +kernel, rfl, tyX7_ok, nmX7, Or.inl (zTG_2 (i := 168) rfl rfl)⟩
theorem fk_RX8_13 : zFK RX8 13 8 1 (.array (.array .int)) true := ⟨RX8, TX8, 6, tyX8, rfl, wsin_X8, by decide, rfl, by decide, rfl, by decide +kernel, rfl, tyX8_ok, nmX8, Or.inl (zTG_2 (i := 140) rfl rfl)⟩
theorem fk_RX8_16 : zFK RX8 16 8 2 (.array .int) true := ⟨RX8, TX8, 6, tyX8, rfl, wsin_X8, by decide, rfl, by decide, rfl, by decide +kernel, rfl, tyX8_ok, nmX8, Or.inl (zTG_2 (i := 142) rfl rfl)⟩
theorem fk_RX8_20 : zFK RX8 20 8 3 (.array .boolean) true := ⟨RX8, TX8, 6, tyX8, rfl, wsin_X8, by decide, rfl, by decide, rfl, by decide +kernel, rfl, tyX8_ok, nmX8, Or.inl (zTG_2 (i := 144) rfl rfl)⟩
theorem fk_RX8_24 : zFK RX8 24 8 5 (.array .boolean) true := ⟨RX8, TX8, 6, tyX8, rfl, wsin_X8, by decide, rfl, by decide, rfl, by decide +kernel, rfl, tyX8_ok, nmX8, Or.inl (zTG_2 (i := 147) rfl rfl)⟩
theorem fk_RX8_27 : zFK RX8 27 8 0 .int false := ⟨RX8, TX8, 6, tyX8, rfl, wsin_X8, by decide, rfl, by decide, rfl, by decide +kernel, rfl, tyX8_ok, nmX8, Or.inl (zTG_2 (i := 138) rfl rfl)⟩
theorem fk_RX8_37 : zFK RX8 37 8 4 .int false := ⟨RX8, TX8, 6, tyX8, rfl, wsin_X8, by decide, rfl, by decide, rfl, by decide +kernel, rfl, tyX8_ok, nmX8, Or.inl (zTG_2 (i := 146) rfl rfl)⟩
theorem fk_RX9_15 : zFK RX9 15 9 0 (.object "DotLines$Faces") true := ⟨RX9, TX9, 3, tyX9, rfl, wsin_X9, by decide, rfl, by decide, rfl, by decide +kernel, rfl, tyX9_ok, nmX9, Or.inl (zTG_2 (i := 68) rfl rfl)⟩
theorem fk_RX9_19 : zFK RX9 19 9 2 .int false := ⟨RX9, TX9, 3, tyX9, rfl, wsin_X9, by decide, rfl, by decide, rfl, by decide +kernel, rfl, tyX9_ok, nmX9, Or.inl (zTG_2 (i := 70) rfl rfl)⟩
theorem fk_RX9_23 : zFK RX9 23 2 0 (.object "DotLines$Board") true := ⟨RX2, TX2, 18, tyX2, rfl, wsin_X2, by decide, rfl, by decide, rfl, by decide +kernel, rfl, tyX2_ok, nmX2, Or.inl (zTG_1 (i := 97) rfl rfl)⟩
theorem fk_RX9_29 : zFK RX9 29 0 1 .int false := ⟨RX0, TX0, 9, tyX0, rfl, wsin_X0, by decide, rfl, by decide, rfl, by decide +kernel, rfl, tyX0_ok, nmX0, Or.inl (zTG_1 (i := 43) rfl rfl)⟩
theorem fk_RX9_34 : zFK RX9 34 0 0 .int false := ⟨RX0, TX0, 9, tyX0, rfl, wsin_X0, by decide, rfl, by decide, rfl, by decide +kernel, rfl, tyX0_ok, nmX0, Or.inl (zTG_1 (i := 39) rfl rfl)⟩
theorem fk_RX9_65 : zFK RX9 65 2 3 (.array .int) true := ⟨RX2, TX2, 18, tyX2, rfl, wsin_X2, by decide, rfl, by decide, rfl, by decide +kernel, rfl, tyX2_ok, nmX2, Or.inl (zTG_1 (i := 106) rfl rfl)⟩
theorem fk_RX9_82 : zFK RX9 82 2 5 (.array .int) true := ⟨RX2, TX2, 18, tyX2, rfl, wsin_X2, by decide, rfl, by decide, rfl, by decide +kernel, rfl, tyX2_ok, nmX2, Or.inl (zTG_1 (i := 113) rfl rfl)⟩
theorem fk_RX9_85 : zFK RX9 85 2 6 (.array .int) true := ⟨RX2, TX2, 18, tyX2, rfl, wsin_X2, by decide, rfl, by decide, rfl, by decide +kernel, rfl, tyX2_ok, nmX2, Or.inl (zTG_1 (i := 116) rfl rfl)⟩
theorem fk_RX9_9 : zFK RX9 9 9 1 (.array .int) true := ⟨RX9, TX9, 3, tyX9, rfl, wsin_X9, by decide, rfl, by decide, rfl, by decide +kernel, rfl, tyX9_ok, nmX9, Or.inl (zTG_2 (i := 69) rfl rfl)⟩
theorem fk_RX9_92 : zFK RX9 92 2 2 .int false := ⟨RX2, TX2, 18, tyX2, rfl, wsin_X2, by decide, rfl, by decide, rfl, by decide +kernel, rfl, tyX2_ok, nmX2, Or.inl (zTG_1 (i := 104) rfl rfl)⟩
theorem sk_RX1_53 : zSK RX1 53 "ACROSS" := Or.inr ⟨"DotLines", by simp [zNL, TX1, RX11]⟩
theorem sk_RX1_56 : zSK RX1 56 "DOWN" := Or.inr ⟨"DotLines", by simp [zNL, TX1, RX11]⟩
theorem sk_RX2_88 : zSK RX2 88 "ACROSS" := Or.inr ⟨"DotLines", by simp [zNL, TX1, RX11]⟩
theorem sk_RX2_91 : zSK RX2 91 "DOWN" := Or.inr ⟨"DotLines", by simp [zNL, TX1, RX11]⟩
theorem sk_RX9_59 : zSK RX9 59 "ACROSS" := Or.inr ⟨"DotLines", by simp [zNL, TX1, RX11]⟩
theorem sk_RX9_62 : zSK RX9 62 "DOWN" := Or.inr ⟨"DotLines", by simp [zNL, TX1, RX11]⟩
theorem kc_RJ6_265 : Cond.constant RJ6 265 (Int32.ofInt 1431655765) ∈ zTG := zTG_4 (i := 213) rfl rfl
theorem kc_RJ6_266 : Cond.constant RJ6 266 (Int32.ofInt 858993459) ∈ zTG := zTG_4 (i := 214) rfl rfl
theorem kc_RJ6_267 : Cond.constant RJ6 267 (Int32.ofInt 252645135) ∈ zTG := zTG_4 (i := 215) rfl rfl
theorem kc_RX12_152 : Cond.constantLong RX12 152 (Int64.ofInt 48) ∈ zTG := zTG_7 (i := 124) rfl rfl
theorem kc_RX12_154 : Cond.constantLong RX12 154 (Int64.ofInt 57) ∈ zTG := zTG_7 (i := 125) rfl rfl
theorem kc_RX12_160 : Cond.constantLong RX12 160 (Int64.ofInt 97) ∈ zTG := zTG_7 (i := 126) rfl rfl
theorem kc_RX12_162 : Cond.constantLong RX12 162 (Int64.ofInt 102) ∈ zTG := zTG_7 (i := 127) rfl rfl
theorem kc_RX12_188 : Cond.constantLong RX12 188 (Int64.ofInt 49) ∈ zTG := zTG_7 (i := 132) rfl rfl
theorem kc_RX12_194 : Cond.constantLong RX12 194 (Int64.ofInt 7) ∈ zTG := zTG_7 (i := 105) rfl rfl
theorem kc_RX12_214 : Cond.constantLong RX12 214 (Int64.ofInt 15) ∈ zTG := zTG_7 (i := 164) rfl rfl
theorem kc_RX12_222 : Cond.constantLong RX12 222 (Int64.ofInt 255) ∈ zTG := zTG_7 (i := 177) rfl rfl
theorem kc_RX12_303 : Cond.constantLong RX12 303 (Int64.ofInt 11) ∈ zTG := zTG_7 (i := 208) rfl rfl
theorem kc_RX12_308 : Cond.constantLong RX12 308 (Int64.ofInt 20) ∈ zTG := zTG_8 (i := 37) rfl rfl
theorem kc_RX12_317 : Cond.constantLong RX12 317 (Int64.ofInt 3) ∈ zTG := zTG_8 (i := 46) rfl rfl
theorem kc_RX12_325 : Cond.constant RX12 325 (Int32.ofInt 1000000) ∈ zTG := zTG_8 (i := 68) rfl rfl
theorem kc_RX12_337 : Cond.constantLong RX12 337 (Int64.ofInt 99) ∈ zTG := zTG_8 (i := 55) rfl rfl
theorem kc_RX12_342 : Cond.constantLong RX12 342 (Int64.ofInt 10000) ∈ zTG := zTG_8 (i := 93) rfl rfl
theorem kc_RX12_348 : Cond.constantLong RX12 348 (Int64.ofInt 400) ∈ zTG := zTG_8 (i := 85) rfl rfl
theorem kc_RX12_362 : Cond.constantLong RX12 362 (Int64.ofInt 2) ∈ zTG := zTG_8 (i := 110) rfl rfl
theorem kc_RX12_377 : Cond.constantLong RX12 377 (Int64.ofInt 16) ∈ zTG := zTG_8 (i := 131) rfl rfl
theorem kc_RX12_400 : Cond.constant RX12 400 (Int32.ofInt 65536) ∈ zTG := zTG_8 (i := 172) rfl rfl
theorem kc_RX12_407 : Cond.constantLong RX12 407 (Int64.ofInt 4) ∈ zTG := zTG_8 (i := 160) rfl rfl
theorem kc_RX12_418 : Cond.constantLong RX12 418 (Int64.ofInt (-1)) ∈ zTG := zTG_8 (i := 188) rfl rfl
theorem kc_RX12_420 : Cond.constantLong RX12 420 (Int64.ofInt 6) ∈ zTG := zTG_8 (i := 189) rfl rfl
theorem kc_RX12_458 : Cond.constantLong RX12 458 (Int64.ofInt 65) ∈ zTG := zTG_8 (i := 214) rfl rfl
theorem kc_RX12_460 : Cond.constantLong RX12 460 (Int64.ofInt 90) ∈ zTG := zTG_8 (i := 215) rfl rfl
theorem kc_RX1_115 : Cond.constantLong RX1 115 (Int64.ofInt 10000) ∈ zTG := zTG_4 (i := 92) rfl rfl
theorem kc_RX1_97 : Cond.constant RX1 97 (Int32.ofInt 1000000) ∈ zTG := zTG_4 (i := 62) rfl rfl
theorem kc_RX4_73 : Cond.constant RX4 73 (Int32.ofInt 1000000) ∈ zTG := zTG_4 (i := 228) rfl rfl
theorem kc_RX5_48 : Cond.constant RX5 48 (Int32.ofInt 1000000) ∈ zTG := zTG_5 (i := 22) rfl rfl
theorem kc_RX6_58 : Cond.constant RX6 58 (Int32.ofInt 1000000) ∈ zTG := zTG_4 (i := 106) rfl rfl
theorem kw_cnat : Cond.native arraycopyName ∈ zTG := zTG_3 (i := 57) rfl rfl
theorem kw_cstat : Cond.static arraycopyName ∈ zTG := zTG_3 (i := 56) rfl rfl
theorem kw_cini : Cond.initialized "java/lang/System" ∈ zTG := zTG_1 (i := 14) rfl rfl
theorem kw_mmax_s : Cond.static Lib.Math.max.name ∈ zTG := zTG_3 (i := 138) rfl rfl
theorem kw_mmax_c : Cond.code Lib.Math.max.name Lib.Math.max.code 2 (some .int) ∈ zTG := zTG_3 (i := 139) (by decide +kernel) rfl
theorem kw_mmin_s : Cond.static Lib.Math.min.name ∈ zTG := zTG_3 (i := 135) rfl rfl
theorem kw_mmin_c : Cond.code Lib.Math.min.name Lib.Math.min.code 2 (some .int) ∈ zTG := zTG_3 (i := 136) (by decide +kernel) rfl
theorem kw_mabs_s : Cond.static Lib.Math.abs.name ∈ zTG := zTG_4 (i := 234) rfl rfl
theorem kw_mabs_c : Cond.code Lib.Math.abs.name Lib.Math.abs.code 1 (some .int) ∈ zTG := zTG_4 (i := 235) (by decide +kernel) rfl
theorem kw_mini : Cond.initialized "java/lang/Math" ∈ zTG := zTG_1 (i := 16) rfl rfl
theorem mk_RX11_272 : Cond.methodLink RX11 272 Lib.Math.max.name ∈ zTG := zTG_4 (i := 159) rfl rfl
theorem mk_RX11_379 : Cond.methodLink RX11 379 Lib.Math.abs.name ∈ zTG := zTG_5 (i := 192) rfl rfl
theorem mk_RX1_101 : Cond.methodLink RX1 101 Lib.Math.min.name ∈ zTG := zTG_4 (i := 67) rfl rfl
theorem mk_RX2_94 : Cond.methodLink RX2 94 Lib.Math.min.name ∈ zTG := zTG_3 (i := 134) rfl rfl
theorem mk_RX2_99 : Cond.methodLink RX2 99 Lib.Math.max.name ∈ zTG := zTG_3 (i := 137) rfl rfl
theorem mk_RX4_77 : Cond.methodLink RX4 77 Lib.Math.abs.name ∈ zTG := zTG_4 (i := 233) rfl rfl
theorem mk_RX5_53 : Cond.methodLink RX5 53 Lib.Math.min.name ∈ zTG := zTG_5 (i := 32) rfl rfl
theorem mk_RX5_64 : Cond.methodLink RX5 64 Lib.Math.abs.name ∈ zTG := zTG_5 (i := 31) rfl rfl
theorem mk_RX7_22 : Cond.methodLink RX7 22 Lib.Math.min.name ∈ zTG := zTG_5 (i := 45) rfl rfl
theorem mk_RX9_41 : Cond.methodLink RX9 41 Lib.Math.min.name ∈ zTG := zTG_3 (i := 236) rfl rfl
theorem mk_RX9_53 : Cond.methodLink RX9 53 Lib.Math.max.name ∈ zTG := zTG_3 (i := 238) rfl rfl
theorem iv_X0_colourAt : Cond.instanceMethod yX0_colourAt ∈ zTG ∧ Cond.selects yX0_colourAt.cls yX0_colourAt yX0_colourAt ∈ zTG := ⟨zTG_3 (i := 127) rfl rfl, zTG_3 (i := 128) rfl rfl⟩
theorem iv_X0_countDraftChanges : Cond.instanceMethod yX0_countDraftChanges ∈ zTG ∧ Cond.selects yX0_countDraftChanges.cls yX0_countDraftChanges yX0_countDraftChanges ∈ zTG := ⟨zTG_3 (i := 90) rfl rfl, zTG_3 (i := 91) rfl rfl⟩
theorem iv_X0_countUnlikeSides : Cond.instanceMethod yX0_countUnlikeSides ∈ zTG ∧ Cond.selects yX0_countUnlikeSides.cls yX0_countUnlikeSides yX0_countUnlikeSides ∈ zTG := ⟨zTG_5 (i := 180) rfl rfl, zTG_5 (i := 181) rfl rfl⟩
theorem iv_X0_dots : Cond.instanceMethod yX0_dots ∈ zTG ∧ Cond.selects yX0_dots.cls yX0_dots yX0_dots ∈ zTG := ⟨zTG_3 (i := 63) rfl rfl, zTG_3 (i := 64) rfl rfl⟩
theorem iv_X0_drawRun : Cond.instanceMethod yX0_drawRun ∈ zTG ∧ Cond.selects yX0_drawRun.cls yX0_drawRun yX0_drawRun ∈ zTG := ⟨zTG_3 (i := 41) rfl rfl, zTG_p1 (i := 2) (q := (yX0_drawRun, 9)) rfl rfl⟩
theorem iv_X0_isDot : Cond.instanceMethod yX0_isDot ∈ zTG ∧ Cond.selects yX0_isDot.cls yX0_isDot yX0_isDot ∈ zTG := ⟨zTG_3 (i := 71) rfl rfl, zTG_3 (i := 72) rfl rfl⟩
theorem iv_X0_readText : Cond.instanceMethod yX0_readText ∈ zTG ∧ Cond.selects yX0_readText.cls yX0_readText yX0_readText ∈ zTG := ⟨zTG_3 (i := 21) rfl rfl, zTG_3 (i := 22) rfl rfl⟩
theorem iv_X0_startDraft : Cond.instanceMethod yX0_startDraft ∈ zTG ∧ Cond.selects yX0_startDraft.cls yX0_startDraft yX0_startDraft ∈ zTG := ⟨zTG_3 (i := 82) rfl rfl, zTG_3 (i := 83) rfl rfl⟩
theorem iv_X0_takeDraft : Cond.instanceMethod yX0_takeDraft ∈ zTG ∧ Cond.selects yX0_takeDraft.cls yX0_takeDraft yX0_takeDraft ∈ zTG := ⟨zTG_3 (i := 52) rfl rfl, zTG_3 (i := 53) rfl rfl⟩
theorem iv_X0_takeFrom : Cond.instanceMethod yX0_takeFrom ∈ zTG ∧ Cond.selects yX0_takeFrom.cls yX0_takeFrom yX0_takeFrom ∈ zTG := ⟨zTG_5 (i := 150) rfl rfl, zTG_5 (i := 151) rfl rfl⟩
theorem iv_X0_takeText : Cond.instanceMethod yX0_takeText ∈ zTG ∧ Cond.selects yX0_takeText.cls yX0_takeText yX0_takeText ∈ zTG := ⟨zTG_3 (i := 48) rfl rfl, zTG_3 (i := 49) rfl rfl⟩
theorem iv_X10_empty : Cond.instanceMethod yX10_empty ∈ zTG ∧ Cond.selects yX10_empty.cls yX10_empty yX10_empty ∈ zTG := ⟨zTG_5 (i := 189) rfl rfl, zTG_5 (i := 190) rfl rfl⟩
theorem iv_X10_hasPlaces : Cond.instanceMethod yX10_hasPlaces ∈ zTG ∧ Cond.selects yX10_hasPlaces.cls yX10_hasPlaces yX10_hasPlaces ∈ zTG := ⟨zTG_5 (i := 219) rfl rfl, zTG_5 (i := 220) rfl rfl⟩
theorem iv_X10_holdPiece : Cond.instanceMethod yX10_holdPiece ∈ zTG ∧ Cond.selects yX10_holdPiece.cls yX10_holdPiece yX10_holdPiece ∈ zTG := ⟨zTG_5 (i := 194) rfl rfl, zTG_5 (i := 195) rfl rfl⟩
theorem iv_X10_holdRow : Cond.instanceMethod yX10_holdRow ∈ zTG ∧ Cond.selects yX10_holdRow.cls yX10_holdRow yX10_holdRow ∈ zTG := ⟨zTG_5 (i := 202) rfl rfl, zTG_5 (i := 203) rfl rfl⟩
theorem iv_X10_pieceFailure : Cond.instanceMethod yX10_pieceFailure ∈ zTG ∧ Cond.selects yX10_pieceFailure.cls yX10_pieceFailure yX10_pieceFailure ∈ zTG := ⟨zTG_6 (i := 4) rfl rfl, zTG_6 (i := 5) rfl rfl⟩
theorem iv_X10_pieceReach : Cond.instanceMethod yX10_pieceReach ∈ zTG ∧ Cond.selects yX10_pieceReach.cls yX10_pieceReach yX10_pieceReach ∈ zTG := ⟨zTG_5 (i := 232) rfl rfl, zTG_5 (i := 233) rfl rfl⟩
theorem iv_X10_set : Cond.instanceMethod yX10_set ∈ zTG ∧ Cond.selects yX10_set.cls yX10_set yX10_set ∈ zTG := ⟨zTG_5 (i := 211) rfl rfl, zTG_5 (i := 212) rfl rfl⟩
theorem iv_X10_straightReach : Cond.instanceMethod yX10_straightReach ∈ zTG ∧ Cond.selects yX10_straightReach.cls yX10_straightReach yX10_straightReach ∈ zTG := ⟨zTG_5 (i := 237) rfl rfl, zTG_p4 (i := 2) (q := (yX10_straightReach, 9)) rfl rfl⟩
theorem iv_X11_changeToDraft : Cond.instanceMethod yX11_changeToDraft ∈ zTG ∧ Cond.selects yX11_changeToDraft.cls yX11_changeToDraft yX11_changeToDraft ∈ zTG := ⟨zTG_3 (i := 87) rfl rfl, zTG_p1 (i := 3) (q := (yX11_changeToDraft, 13)) rfl rfl⟩
theorem iv_X11_isFace : Cond.instanceMethod yX11_isFace ∈ zTG ∧ Cond.selects yX11_isFace.cls yX11_isFace yX11_isFace ∈ zTG := ⟨zTG_3 (i := 167) rfl rfl, zTG_p1 (i := 7) (q := (yX11_isFace, 13)) rfl rfl⟩
theorem iv_X11_isPoint : Cond.instanceMethod yX11_isPoint ∈ zTG ∧ Cond.selects yX11_isPoint.cls yX11_isPoint yX11_isPoint ∈ zTG := ⟨zTG_4 (i := 44) rfl rfl, zTG_p2 (i := 2) (q := (yX11_isPoint, 13)) rfl rfl⟩
theorem iv_X11_measure : Cond.instanceMethod yX11_measure ∈ zTG ∧ Cond.selects yX11_measure.cls yX11_measure yX11_measure ∈ zTG := ⟨zTG_3 (i := 175) rfl rfl, zTG_p1 (i := 8) (q := (yX11_measure, 13)) rfl rfl⟩
theorem iv_X11_refusalOfPiece : Cond.instanceMethod yX11_refusalOfPiece ∈ zTG ∧ Cond.selects yX11_refusalOfPiece.cls yX11_refusalOfPiece yX11_refusalOfPiece ∈ zTG := ⟨zTG_5 (i := 229) rfl rfl, zTG_p4 (i := 1) (q := (yX11_refusalOfPiece, 13)) rfl rfl⟩
theorem iv_X11_refusalOfText : Cond.instanceMethod yX11_refusalOfText ∈ zTG ∧ Cond.selects yX11_refusalOfText.cls yX11_refusalOfText yX11_refusalOfText ∈ zTG := ⟨zTG_3 (i := 14) rfl rfl, zTG_p1 (i := 0) (q := (yX11_refusalOfText, 13)) rfl rfl⟩
theorem iv_X11_shelfAt : Cond.instanceMethod yX11_shelfAt ∈ zTG ∧ Cond.selects yX11_shelfAt.cls yX11_shelfAt yX11_shelfAt ∈ zTG := ⟨zTG_3 (i := 18) rfl rfl, zTG_p1 (i := 1) (q := (yX11_shelfAt, 13)) rfl rfl⟩
theorem iv_X12_areLike : Cond.instanceMethod yX12_areLike ∈ zTG ∧ Cond.selects yX12_areLike.cls yX12_areLike yX12_areLike ∈ zTG := ⟨zTG_8 (i := 138) rfl rfl, zTG_p6 (i := 11) (q := (yX12_areLike, 75)) rfl rfl⟩
theorem iv_X12_areNeighbours : Cond.instanceMethod yX12_areNeighbours ∈ zTG ∧ Cond.selects yX12_areNeighbours.cls yX12_areNeighbours yX12_areNeighbours ∈ zTG := ⟨zTG_7 (i := 239) rfl rfl, zTG_p5 (i := 7) (q := (yX12_areNeighbours, 75)) rfl rfl⟩
theorem iv_X12_beside : Cond.instanceMethod yX12_beside ∈ zTG ∧ Cond.selects yX12_beside.cls yX12_beside yX12_beside ∈ zTG := ⟨zTG_7 (i := 192) rfl rfl, zTG_p4 (i := 14) (q := (yX12_beside, 75)) rfl rfl⟩
theorem iv_X12_breadthOf : Cond.instanceMethod yX12_breadthOf ∈ zTG ∧ Cond.selects yX12_breadthOf.cls yX12_breadthOf yX12_breadthOf ∈ zTG := ⟨zTG_8 (i := 121) rfl rfl, zTG_p6 (i := 9) (q := (yX12_breadthOf, 75)) rfl rfl⟩
theorem iv_X12_change : Cond.instanceMethod yX12_change ∈ zTG ∧ Cond.selects yX12_change.cls yX12_change yX12_change ∈ zTG := ⟨zTG_7 (i := 171) rfl rfl, zTG_p4 (i := 12) (q := (yX12_change, 75)) rfl rfl⟩
theorem iv_X12_copyDots : Cond.instanceMethod yX12_copyDots ∈ zTG ∧ Cond.selects yX12_copyDots.cls yX12_copyDots yX12_copyDots ∈ zTG := ⟨zTG_7 (i := 167) rfl rfl, zTG_p4 (i := 11) (q := (yX12_copyDots, 75)) rfl rfl⟩
theorem iv_X12_costOf : Cond.instanceMethod yX12_costOf ∈ zTG ∧ Cond.selects yX12_costOf.cls yX12_costOf yX12_costOf ∈ zTG := ⟨zTG_8 (i := 71) rfl rfl, zTG_p6 (i := 4) (q := (yX12_costOf, 75)) rfl rfl⟩
theorem iv_X12_depthOf : Cond.instanceMethod yX12_depthOf ∈ zTG ∧ Cond.selects yX12_depthOf.cls yX12_depthOf yX12_depthOf ∈ zTG := ⟨zTG_8 (i := 3) rfl rfl, zTG_p5 (i := 8) (q := (yX12_depthOf, 75)) rfl rfl⟩
theorem iv_X12_faultOfRule : Cond.instanceMethod yX12_faultOfRule ∈ zTG ∧ Cond.selects yX12_faultOfRule.cls yX12_faultOfRule yX12_faultOfRule ∈ zTG := ⟨zTG_8 (i := 204) rfl rfl, zTG_p7 (i := 3) (q := (yX12_faultOfRule, 75)) rfl rfl⟩
theorem iv_X12_fieldOf : Cond.instanceMethod yX12_fieldOf ∈ zTG ∧ Cond.selects yX12_fieldOf.cls yX12_fieldOf yX12_fieldOf ∈ zTG := ⟨zTG_7 (i := 211) rfl rfl, zTG_p5 (i := 0) (q := (yX12_fieldOf, 75)) rfl rfl⟩
theorem iv_X12_findBorder : Cond.instanceMethod yX12_findBorder ∈ zTG ∧ Cond.selects yX12_findBorder.cls yX12_findBorder yX12_findBorder ∈ zTG := ⟨zTG_8 (i := 23) rfl rfl, zTG_p5 (i := 13) (q := (yX12_findBorder, 75)) rfl rfl⟩
theorem iv_X12_findBox : Cond.instanceMethod yX12_findBox ∈ zTG ∧ Cond.selects yX12_findBox.cls yX12_findBox yX12_findBox ∈ zTG := ⟨zTG_7 (i := 219) rfl rfl, zTG_p5 (i := 2) (q := (yX12_findBox, 75)) rfl rfl⟩
theorem iv_X12_findColours : Cond.instanceMethod yX12_findColours ∈ zTG ∧ Cond.selects yX12_findColours.cls yX12_findColours yX12_findColours ∈ zTG := ⟨zTG_8 (i := 167) rfl rfl, zTG_p6 (i := 15) (q := (yX12_findColours, 75)) rfl rfl⟩
theorem iv_X12_findCorners : Cond.instanceMethod yX12_findCorners ∈ zTG ∧ Cond.selects yX12_findCorners.cls yX12_findCorners yX12_findCorners ∈ zTG := ⟨zTG_8 (i := 58) rfl rfl, zTG_p6 (i := 1) (q := (yX12_findCorners, 75)) rfl rfl⟩
theorem iv_X12_findFaces : Cond.instanceMethod yX12_findFaces ∈ zTG ∧ Cond.selects yX12_findFaces.cls yX12_findFaces yX12_findFaces ∈ zTG := ⟨zTG_7 (i := 188) rfl rfl, zTG_p4 (i := 13) (q := (yX12_findFaces, 75)) rfl rfl⟩
theorem iv_X12_findFew : Cond.instanceMethod yX12_findFew ∈ zTG ∧ Cond.selects yX12_findFew.cls yX12_findFew yX12_findFew ∈ zTG := ⟨zTG_8 (i := 163) rfl rfl, zTG_p6 (i := 14) (q := (yX12_findFew, 75)) rfl rfl⟩
theorem iv_X12_findHoles : Cond.instanceMethod yX12_findHoles ∈ zTG ∧ Cond.selects yX12_findHoles.cls yX12_findHoles yX12_findHoles ∈ zTG := ⟨zTG_7 (i := 223) rfl rfl, zTG_p5 (i := 3) (q := (yX12_findHoles, 75)) rfl rfl⟩
theorem iv_X12_findLeast : Cond.instanceMethod yX12_findLeast ∈ zTG ∧ Cond.selects yX12_findLeast.cls yX12_findLeast yX12_findLeast ∈ zTG := ⟨zTG_8 (i := 66) rfl rfl, zTG_p6 (i := 3) (q := (yX12_findLeast, 75)) rfl rfl⟩
theorem iv_X12_findPen : Cond.instanceMethod yX12_findPen ∈ zTG ∧ Cond.selects yX12_findPen.cls yX12_findPen yX12_findPen ∈ zTG := ⟨zTG_8 (i := 192) rfl rfl, zTG_p7 (i := 1) (q := (yX12_findPen, 75)) rfl rfl⟩
theorem iv_X12_findPieces : Cond.instanceMethod yX12_findPieces ∈ zTG ∧ Cond.selects yX12_findPieces.cls yX12_findPieces yX12_findPieces ∈ zTG := ⟨zTG_8 (i := 100) rfl rfl, zTG_p6 (i := 7) (q := (yX12_findPieces, 75)) rfl rfl⟩
theorem iv_X12_findTurns : Cond.instanceMethod yX12_findTurns ∈ zTG ∧ Cond.selects yX12_findTurns.cls yX12_findTurns yX12_findTurns ∈ zTG := ⟨zTG_8 (i := 62) rfl rfl, zTG_p6 (i := 2) (q := (yX12_findTurns, 75)) rfl rfl⟩
theorem iv_X12_greatestOf : Cond.instanceMethod yX12_greatestOf ∈ zTG ∧ Cond.selects yX12_greatestOf.cls yX12_greatestOf yX12_greatestOf ∈ zTG := ⟨zTG_8 (i := 15) rfl rfl, zTG_p5 (i := 11) (q := (yX12_greatestOf, 75)) rfl rfl⟩
theorem iv_X12_here : Cond.instanceMethod yX12_here ∈ zTG ∧ Cond.selects yX12_here.cls yX12_here yX12_here ∈ zTG := ⟨zTG_7 (i := 119) rfl rfl, zTG_p4 (i := 7) (q := (yX12_here, 75)) rfl rfl⟩
theorem iv_X12_isBorder : Cond.instanceMethod yX12_isBorder ∈ zTG ∧ Cond.selects yX12_isBorder.cls yX12_isBorder yX12_isBorder ∈ zTG := ⟨zTG_8 (i := 83) rfl rfl, zTG_p6 (i := 5) (q := (yX12_isBorder, 75)) rfl rfl⟩
theorem iv_X12_isDot : Cond.instanceMethod yX12_isDot ∈ zTG ∧ Cond.selects yX12_isDot.cls yX12_isDot yX12_isDot ∈ zTG := ⟨zTG_7 (i := 142) rfl rfl, zTG_p4 (i := 9) (q := (yX12_isDot, 75)) rfl rfl⟩
theorem iv_X12_isDrawn : Cond.instanceMethod yX12_isDrawn ∈ zTG ∧ Cond.selects yX12_isDrawn.cls yX12_isDrawn yX12_isDrawn ∈ zTG := ⟨zTG_8 (i := 108) rfl rfl, zTG_p6 (i := 8) (q := (yX12_isDrawn, 75)) rfl rfl⟩
theorem iv_X12_isEdge : Cond.instanceMethod yX12_isEdge ∈ zTG ∧ Cond.selects yX12_isEdge.cls yX12_isEdge yX12_isEdge ∈ zTG := ⟨zTG_8 (i := 27) rfl rfl, zTG_p5 (i := 14) (q := (yX12_isEdge, 75)) rfl rfl⟩
theorem iv_X12_isFace : Cond.instanceMethod yX12_isFace ∈ zTG ∧ Cond.selects yX12_isFace.cls yX12_isFace yX12_isFace ∈ zTG := ⟨zTG_7 (i := 206) rfl rfl, zTG_p4 (i := 15) (q := (yX12_isFace, 75)) rfl rfl⟩
theorem iv_X12_isOf : Cond.instanceMethod yX12_isOf ∈ zTG ∧ Cond.selects yX12_isOf.cls yX12_isOf yX12_isOf ∈ zTG := ⟨zTG_7 (i := 231) rfl rfl, zTG_p5 (i := 5) (q := (yX12_isOf, 75)) rfl rfl⟩
theorem iv_X12_isOutside : Cond.instanceMethod yX12_isOutside ∈ zTG ∧ Cond.selects yX12_isOutside.cls yX12_isOutside yX12_isOutside ∈ zTG := ⟨zTG_7 (i := 227) rfl rfl, zTG_p5 (i := 4) (q := (yX12_isOutside, 75)) rfl rfl⟩
theorem iv_X12_isSquare : Cond.instanceMethod yX12_isSquare ∈ zTG ∧ Cond.selects yX12_isSquare.cls yX12_isSquare yX12_isSquare ∈ zTG := ⟨zTG_8 (i := 19) rfl rfl, zTG_p5 (i := 12) (q := (yX12_isSquare, 75)) rfl rfl⟩
theorem iv_X12_isStraight : Cond.instanceMethod yX12_isStraight ∈ zTG ∧ Cond.selects yX12_isStraight.cls yX12_isStraight yX12_isStraight ∈ zTG := ⟨zTG_8 (i := 88) rfl rfl, zTG_p6 (i := 6) (q := (yX12_isStraight, 75)) rfl rfl⟩
theorem iv_X12_join : Cond.instanceMethod yX12_join ∈ zTG ∧ Cond.selects yX12_join.cls yX12_join yX12_join ∈ zTG := ⟨zTG_9 (i := 5) rfl rfl, zTG_p7 (i := 12) (q := (yX12_join, 75)) rfl rfl⟩
theorem iv_X12_lacks : Cond.instanceMethod yX12_lacks ∈ zTG ∧ Cond.selects yX12_lacks.cls yX12_lacks yX12_lacks ∈ zTG := ⟨zTG_7 (i := 103) rfl rfl, zTG_p4 (i := 4) (q := (yX12_lacks, 75)) rfl rfl⟩
theorem iv_X12_leaderOf : Cond.instanceMethod yX12_leaderOf ∈ zTG ∧ Cond.selects yX12_leaderOf.cls yX12_leaderOf yX12_leaderOf ∈ zTG := ⟨zTG_8 (i := 154) rfl rfl, zTG_p6 (i := 13) (q := (yX12_leaderOf, 75)) rfl rfl⟩
theorem iv_X12_liesIn : Cond.instanceMethod yX12_liesIn ∈ zTG ∧ Cond.selects yX12_liesIn.cls yX12_liesIn yX12_liesIn ∈ zTG := ⟨zTG_8 (i := 7) rfl rfl, zTG_p5 (i := 9) (q := (yX12_liesIn, 75)) rfl rfl⟩
theorem iv_X12_liesOn : Cond.instanceMethod yX12_liesOn ∈ zTG ∧ Cond.selects yX12_liesOn.cls yX12_liesOn yX12_liesOn ∈ zTG := ⟨zTG_8 (i := 142) rfl rfl, zTG_p6 (i := 12) (q := (yX12_liesOn, 75)) rfl rfl⟩
theorem iv_X12_look : Cond.instanceMethod yX12_look ∈ zTG ∧ Cond.selects yX12_look.cls yX12_look yX12_look ∈ zTG := ⟨zTG_8 (i := 212) rfl rfl, zTG_p7 (i := 5) (q := (yX12_look, 75)) rfl rfl⟩
theorem iv_X12_mostBeside : Cond.instanceMethod yX12_mostBeside ∈ zTG ∧ Cond.selects yX12_mostBeside.cls yX12_mostBeside yX12_mostBeside ∈ zTG := ⟨zTG_8 (i := 40) rfl rfl, zTG_p5 (i := 15) (q := (yX12_mostBeside, 75)) rfl rfl⟩
theorem iv_X12_moveTo : Cond.instanceMethod yX12_moveTo ∈ zTG ∧ Cond.selects yX12_moveTo.cls yX12_moveTo yX12_moveTo ∈ zTG := ⟨zTG_8 (i := 196) rfl rfl, zTG_p7 (i := 2) (q := (yX12_moveTo, 75)) rfl rfl⟩
theorem iv_X12_nearestOf : Cond.instanceMethod yX12_nearestOf ∈ zTG ∧ Cond.selects yX12_nearestOf.cls yX12_nearestOf yX12_nearestOf ∈ zTG := ⟨zTG_8 (i := 175) rfl rfl, zTG_p7 (i := 0) (q := (yX12_nearestOf, 75)) rfl rfl⟩
theorem iv_X12_neighboursOf : Cond.instanceMethod yX12_neighboursOf ∈ zTG ∧ Cond.selects yX12_neighboursOf.cls yX12_neighboursOf yX12_neighboursOf ∈ zTG := ⟨zTG_7 (i := 235) rfl rfl, zTG_p5 (i := 6) (q := (yX12_neighboursOf, 75)) rfl rfl⟩
theorem iv_X12_partOf : Cond.instanceMethod yX12_partOf ∈ zTG ∧ Cond.selects yX12_partOf.cls yX12_partOf yX12_partOf ∈ zTG := ⟨zTG_8 (i := 11) rfl rfl, zTG_p5 (i := 10) (q := (yX12_partOf, 75)) rfl rfl⟩
theorem iv_X12_pictureFault : Cond.instanceMethod yX12_pictureFault ∈ zTG ∧ Cond.selects yX12_pictureFault.cls yX12_pictureFault yX12_pictureFault ∈ zTG := ⟨zTG_7 (i := 111) rfl rfl, zTG_p4 (i := 5) (q := (yX12_pictureFault, 75)) rfl rfl⟩
theorem iv_X12_radiusOf : Cond.instanceMethod yX12_radiusOf ∈ zTG ∧ Cond.selects yX12_radiusOf.cls yX12_radiusOf yX12_radiusOf ∈ zTG := ⟨zTG_8 (i := 125) rfl rfl, zTG_p6 (i := 10) (q := (yX12_radiusOf, 75)) rfl rfl⟩
theorem iv_X12_readAtom : Cond.instanceMethod yX12_readAtom ∈ zTG ∧ Cond.selects yX12_readAtom.cls yX12_readAtom yX12_readAtom ∈ zTG := ⟨zTG_8 (i := 226) rfl rfl, zTG_p7 (i := 8) (q := (yX12_readAtom, 75)) rfl rfl⟩
theorem iv_X12_readLine : Cond.instanceMethod yX12_readLine ∈ zTG ∧ Cond.selects yX12_readLine.cls yX12_readLine yX12_readLine ∈ zTG := ⟨zTG_7 (i := 115) rfl rfl, zTG_p4 (i := 6) (q := (yX12_readLine, 75)) rfl rfl⟩
theorem iv_X12_readNumber : Cond.instanceMethod yX12_readNumber ∈ zTG ∧ Cond.selects yX12_readNumber.cls yX12_readNumber yX12_readNumber ∈ zTG := ⟨zTG_7 (i := 130) rfl rfl, zTG_p4 (i := 8) (q := (yX12_readNumber, 75)) rfl rfl⟩
theorem iv_X12_readRule : Cond.instanceMethod yX12_readRule ∈ zTG ∧ Cond.selects yX12_readRule.cls yX12_readRule yX12_readRule ∈ zTG := ⟨zTG_8 (i := 208) rfl rfl, zTG_p7 (i := 4) (q := (yX12_readRule, 75)) rfl rfl⟩
theorem iv_X12_readSum : Cond.instanceMethod yX12_readSum ∈ zTG ∧ Cond.selects yX12_readSum.cls yX12_readSum yX12_readSum ∈ zTG := ⟨zTG_8 (i := 222) rfl rfl, zTG_p7 (i := 7) (q := (yX12_readSum, 75)) rfl rfl⟩
theorem iv_X12_readTest : Cond.instanceMethod yX12_readTest ∈ zTG ∧ Cond.selects yX12_readTest.cls yX12_readTest yX12_readTest ∈ zTG := ⟨zTG_8 (i := 218) rfl rfl, zTG_p7 (i := 6) (q := (yX12_readTest, 75)) rfl rfl⟩
theorem iv_X12_sizeOf : Cond.instanceMethod yX12_sizeOf ∈ zTG ∧ Cond.selects yX12_sizeOf.cls yX12_sizeOf yX12_sizeOf ∈ zTG := ⟨zTG_7 (i := 215) rfl rfl, zTG_p5 (i := 1) (q := (yX12_sizeOf, 75)) rfl rfl⟩
theorem iv_X12_swap : Cond.instanceMethod yX12_swap ∈ zTG ∧ Cond.selects yX12_swap.cls yX12_swap yX12_swap ∈ zTG := ⟨zTG_7 (i := 154) rfl rfl, zTG_p4 (i := 10) (q := (yX12_swap, 75)) rfl rfl⟩
theorem iv_X12_testEnds : Cond.instanceMethod yX12_testEnds ∈ zTG ∧ Cond.selects yX12_testEnds.cls yX12_testEnds yX12_testEnds ∈ zTG := ⟨zTG_8 (i := 237) rfl rfl, zTG_p7 (i := 10) (q := (yX12_testEnds, 75)) rfl rfl⟩
theorem iv_X12_topSign : Cond.instanceMethod yX12_topSign ∈ zTG ∧ Cond.selects yX12_topSign.cls yX12_topSign yX12_topSign ∈ zTG := ⟨zTG_9 (i := 1) rfl rfl, zTG_p7 (i := 11) (q := (yX12_topSign, 75)) rfl rfl⟩
theorem iv_X12_turnAt : Cond.instanceMethod yX12_turnAt ∈ zTG ∧ Cond.selects yX12_turnAt.cls yX12_turnAt yX12_turnAt ∈ zTG := ⟨zTG_8 (i := 49) rfl rfl, zTG_p6 (i := 0) (q := (yX12_turnAt, 75)) rfl rfl⟩
theorem iv_X12_worth : Cond.instanceMethod yX12_worth ∈ zTG ∧ Cond.selects yX12_worth.cls yX12_worth yX12_worth ∈ zTG := ⟨zTG_8 (i := 233) rfl rfl, zTG_p7 (i := 9) (q := (yX12_worth, 75)) rfl rfl⟩
theorem iv_X12_wrongRow : Cond.instanceMethod yX12_wrongRow ∈ zTG ∧ Cond.selects yX12_wrongRow.cls yX12_wrongRow yX12_wrongRow ∈ zTG := ⟨zTG_9 (i := 45) rfl rfl, zTG_p7 (i := 13) (q := (yX12_wrongRow, 75)) rfl rfl⟩
theorem iv_X12_wrongShelf : Cond.instanceMethod yX12_wrongShelf ∈ zTG ∧ Cond.selects yX12_wrongShelf.cls yX12_wrongShelf yX12_wrongShelf ∈ zTG := ⟨zTG_9 (i := 64) rfl rfl, zTG_p7 (i := 14) (q := (yX12_wrongShelf, 75)) rfl rfl⟩
theorem iv_X1_decideCorners : Cond.instanceMethod yX1_decideCorners ∈ zTG ∧ Cond.selects yX1_decideCorners.cls yX1_decideCorners yX1_decideCorners ∈ zTG := ⟨zTG_4 (i := 55) rfl rfl, zTG_4 (i := 56) rfl rfl⟩
theorem iv_X1_followCorners : Cond.instanceMethod yX1_followCorners ∈ zTG ∧ Cond.selects yX1_followCorners.cls yX1_followCorners yX1_followCorners ∈ zTG := ⟨zTG_4 (i := 70) rfl rfl, zTG_p2 (i := 5) (q := (yX1_followCorners, 12)) rfl rfl⟩
theorem iv_X1_isInQuarter : Cond.instanceMethod yX1_isInQuarter ∈ zTG ∧ Cond.selects yX1_isInQuarter.cls yX1_isInQuarter yX1_isInQuarter ∈ zTG := ⟨zTG_4 (i := 11) rfl rfl, zTG_p1 (i := 15) (q := (yX1_isInQuarter, 12)) rfl rfl⟩
theorem iv_X1_isNear : Cond.instanceMethod yX1_isNear ∈ zTG ∧ Cond.selects yX1_isNear.cls yX1_isNear yX1_isNear ∈ zTG := ⟨zTG_4 (i := 89) rfl rfl, zTG_4 (i := 90) rfl rfl⟩
theorem iv_X1_listTurns : Cond.instanceMethod yX1_listTurns ∈ zTG ∧ Cond.selects yX1_listTurns.cls yX1_listTurns yX1_listTurns ∈ zTG := ⟨zTG_4 (i := 16) rfl rfl, zTG_p2 (i := 0) (q := (yX1_listTurns, 12)) rfl rfl⟩
theorem iv_X1_priceWithout : Cond.instanceMethod yX1_priceWithout ∈ zTG ∧ Cond.selects yX1_priceWithout.cls yX1_priceWithout yX1_priceWithout ∈ zTG := ⟨zTG_4 (i := 65) rfl rfl, zTG_p2 (i := 4) (q := (yX1_priceWithout, 12)) rfl rfl⟩
theorem iv_X1_staysInBand : Cond.instanceMethod yX1_staysInBand ∈ zTG ∧ Cond.selects yX1_staysInBand.cls yX1_staysInBand yX1_staysInBand ∈ zTG := ⟨zTG_4 (i := 85) rfl rfl, zTG_4 (i := 86) rfl rfl⟩
theorem iv_X1_sumCorners : Cond.instanceMethod yX1_sumCorners ∈ zTG ∧ Cond.selects yX1_sumCorners.cls yX1_sumCorners yX1_sumCorners ∈ zTG := ⟨zTG_4 (i := 60) rfl rfl, zTG_p2 (i := 3) (q := (yX1_sumCorners, 12)) rfl rfl⟩
theorem iv_X1_trace : Cond.instanceMethod yX1_trace ∈ zTG ∧ Cond.selects yX1_trace.cls yX1_trace yX1_trace ∈ zTG := ⟨zTG_4 (i := 0) rfl rfl, zTG_4 (i := 1) rfl rfl⟩
theorem iv_X1_turnAt : Cond.instanceMethod yX1_turnAt ∈ zTG ∧ Cond.selects yX1_turnAt.cls yX1_turnAt yX1_turnAt ∈ zTG := ⟨zTG_4 (i := 19) rfl rfl, zTG_4 (i := 20) rfl rfl⟩
theorem iv_X1_wayOn : Cond.instanceMethod yX1_wayOn ∈ zTG ∧ Cond.selects yX1_wayOn.cls yX1_wayOn yX1_wayOn ∈ zTG := ⟨zTG_4 (i := 7) rfl rfl, zTG_p1 (i := 14) (q := (yX1_wayOn, 12)) rfl rfl⟩
theorem iv_X2_areBeside : Cond.instanceMethod yX2_areBeside ∈ zTG ∧ Cond.selects yX2_areBeside.cls yX2_areBeside yX2_areBeside ∈ zTG := ⟨zTG_4 (i := 27) rfl rfl, zTG_4 (i := 28) rfl rfl⟩
theorem iv_X2_colour : Cond.instanceMethod yX2_colour ∈ zTG ∧ Cond.selects yX2_colour.cls yX2_colour yX2_colour ∈ zTG := ⟨zTG_3 (i := 178) rfl rfl, zTG_3 (i := 179) rfl rfl⟩
theorem iv_X2_colourMostBeside : Cond.instanceMethod yX2_colourMostBeside ∈ zTG ∧ Cond.selects yX2_colourMostBeside.cls yX2_colourMostBeside yX2_colourMostBeside ∈ zTG := ⟨zTG_3 (i := 145) rfl rfl, zTG_3 (i := 146) rfl rfl⟩
theorem iv_X2_countBeside : Cond.instanceMethod yX2_countBeside ∈ zTG ∧ Cond.selects yX2_countBeside.cls yX2_countBeside yX2_countBeside ∈ zTG := ⟨zTG_3 (i := 204) rfl rfl, zTG_3 (i := 205) rfl rfl⟩
theorem iv_X2_countSides : Cond.instanceMethod yX2_countSides ∈ zTG ∧ Cond.selects yX2_countSides.cls yX2_countSides yX2_countSides ∈ zTG := ⟨zTG_3 (i := 150) rfl rfl, zTG_p1 (i := 6) (q := (yX2_countSides, 18)) rfl rfl⟩
theorem iv_X2_depth : Cond.instanceMethod yX2_depth ∈ zTG ∧ Cond.selects yX2_depth.cls yX2_depth yX2_depth ∈ zTG := ⟨zTG_3 (i := 212) rfl rfl, zTG_3 (i := 213) rfl rfl⟩
theorem iv_X2_faceAt : Cond.instanceMethod yX2_faceAt ∈ zTG ∧ Cond.selects yX2_faceAt.cls yX2_faceAt yX2_faceAt ∈ zTG := ⟨zTG_3 (i := 119) rfl rfl, zTG_3 (i := 120) rfl rfl⟩
theorem iv_X2_has : Cond.instanceMethod yX2_has ∈ zTG ∧ Cond.selects yX2_has.cls yX2_has yX2_has ∈ zTG := ⟨zTG_3 (i := 170) rfl rfl, zTG_3 (i := 171) rfl rfl⟩
theorem iv_X2_hasBeside : Cond.instanceMethod yX2_hasBeside ∈ zTG ∧ Cond.selects yX2_hasBeside.cls yX2_hasBeside yX2_hasBeside ∈ zTG := ⟨zTG_4 (i := 32) rfl rfl, zTG_p2 (i := 1) (q := (yX2_hasBeside, 18)) rfl rfl⟩
theorem iv_X2_height : Cond.instanceMethod yX2_height ∈ zTG ∧ Cond.selects yX2_height.cls yX2_height yX2_height ∈ zTG := ⟨zTG_3 (i := 186) rfl rfl, zTG_3 (i := 187) rfl rfl⟩
theorem iv_X2_isFilled : Cond.instanceMethod yX2_isFilled ∈ zTG ∧ Cond.selects yX2_isFilled.cls yX2_isFilled yX2_isFilled ∈ zTG := ⟨zTG_4 (i := 133) rfl rfl, zTG_4 (i := 134) rfl rfl⟩
theorem iv_X2_isMark : Cond.instanceMethod yX2_isMark ∈ zTG ∧ Cond.selects yX2_isMark.cls yX2_isMark yX2_isMark ∈ zTG := ⟨zTG_3 (i := 201) rfl rfl, zTG_p1 (i := 10) (q := (yX2_isMark, 18)) rfl rfl⟩
theorem iv_X2_liesIn : Cond.instanceMethod yX2_liesIn ∈ zTG ∧ Cond.selects yX2_liesIn.cls yX2_liesIn yX2_liesIn ∈ zTG := ⟨zTG_3 (i := 216) rfl rfl, zTG_3 (i := 217) rfl rfl⟩
theorem iv_X2_markAt : Cond.instanceMethod yX2_markAt ∈ zTG ∧ Cond.selects yX2_markAt.cls yX2_markAt yX2_markAt ∈ zTG := ⟨zTG_3 (i := 222) rfl rfl, zTG_p1 (i := 12) (q := (yX2_markAt, 18)) rfl rfl⟩
theorem iv_X2_markHoles : Cond.instanceMethod yX2_markHoles ∈ zTG ∧ Cond.selects yX2_markHoles.cls yX2_markHoles yX2_markHoles ∈ zTG := ⟨zTG_3 (i := 190) rfl rfl, zTG_3 (i := 191) rfl rfl⟩
theorem iv_X2_paintDraft : Cond.instanceMethod yX2_paintDraft ∈ zTG ∧ Cond.selects yX2_paintDraft.cls yX2_paintDraft yX2_paintDraft ∈ zTG := ⟨zTG_3 (i := 153) rfl rfl, zTG_3 (i := 154) rfl rfl⟩
theorem iv_X2_refresh : Cond.instanceMethod yX2_refresh ∈ zTG ∧ Cond.selects yX2_refresh.cls yX2_refresh yX2_refresh ∈ zTG := ⟨zTG_3 (i := 112) rfl rfl, zTG_3 (i := 113) rfl rfl⟩
theorem iv_X2_seeBeside : Cond.instanceMethod yX2_seeBeside ∈ zTG ∧ Cond.selects yX2_seeBeside.cls yX2_seeBeside yX2_seeBeside ∈ zTG := ⟨zTG_3 (i := 209) rfl rfl, zTG_p1 (i := 11) (q := (yX2_seeBeside, 18)) rfl rfl⟩
theorem iv_X2_spread : Cond.instanceMethod yX2_spread ∈ zTG ∧ Cond.selects yX2_spread.cls yX2_spread yX2_spread ∈ zTG := ⟨zTG_3 (i := 124) rfl rfl, zTG_p1 (i := 4) (q := (yX2_spread, 18)) rfl rfl⟩
theorem iv_X2_spreadMark : Cond.instanceMethod yX2_spreadMark ∈ zTG ∧ Cond.selects yX2_spreadMark.cls yX2_spreadMark yX2_spreadMark ∈ zTG := ⟨zTG_3 (i := 197) rfl rfl, zTG_p1 (i := 9) (q := (yX2_spreadMark, 18)) rfl rfl⟩
theorem iv_X2_takeIn : Cond.instanceMethod yX2_takeIn ∈ zTG ∧ Cond.selects yX2_takeIn.cls yX2_takeIn yX2_takeIn ∈ zTG := ⟨zTG_3 (i := 132) rfl rfl, zTG_p1 (i := 5) (q := (yX2_takeIn, 18)) rfl rfl⟩
theorem iv_X2_width : Cond.instanceMethod yX2_width ∈ zTG ∧ Cond.selects yX2_width.cls yX2_width yX2_width ∈ zTG := ⟨zTG_3 (i := 182) rfl rfl, zTG_3 (i := 183) rfl rfl⟩
theorem iv_X3_canRedo : Cond.instanceMethod yX3_canRedo ∈ zTG ∧ Cond.selects yX3_canRedo.cls yX3_canRedo yX3_canRedo ∈ zTG := ⟨zTG_5 (i := 138) rfl rfl, zTG_5 (i := 139) rfl rfl⟩
theorem iv_X3_canUndo : Cond.instanceMethod yX3_canUndo ∈ zTG ∧ Cond.selects yX3_canUndo.cls yX3_canUndo yX3_canUndo ∈ zTG := ⟨zTG_5 (i := 120) rfl rfl, zTG_5 (i := 121) rfl rfl⟩
theorem iv_X3_exchange : Cond.instanceMethod yX3_exchange ∈ zTG ∧ Cond.selects yX3_exchange.cls yX3_exchange yX3_exchange ∈ zTG := ⟨zTG_5 (i := 129) rfl rfl, zTG_p4 (i := 0) (q := (yX3_exchange, 4)) rfl rfl⟩
theorem iv_X3_forget : Cond.instanceMethod yX3_forget ∈ zTG ∧ Cond.selects yX3_forget.cls yX3_forget yX3_forget ∈ zTG := ⟨zTG_3 (i := 59) rfl rfl, zTG_3 (i := 60) rfl rfl⟩
theorem iv_X3_remember : Cond.instanceMethod yX3_remember ∈ zTG ∧ Cond.selects yX3_remember.cls yX3_remember yX3_remember ∈ zTG := ⟨zTG_3 (i := 94) rfl rfl, zTG_3 (i := 95) rfl rfl⟩
theorem iv_X3_stepBack : Cond.instanceMethod yX3_stepBack ∈ zTG ∧ Cond.selects yX3_stepBack.cls yX3_stepBack yX3_stepBack ∈ zTG := ⟨zTG_5 (i := 124) rfl rfl, zTG_5 (i := 125) rfl rfl⟩
theorem iv_X3_stepForth : Cond.instanceMethod yX3_stepForth ∈ zTG ∧ Cond.selects yX3_stepForth.cls yX3_stepForth yX3_stepForth ∈ zTG := ⟨zTG_5 (i := 142) rfl rfl, zTG_5 (i := 143) rfl rfl⟩
theorem iv_X4_asSet : Cond.instanceMethod yX4_asSet ∈ zTG ∧ Cond.selects yX4_asSet.cls yX4_asSet yX4_asSet ∈ zTG := ⟨zTG_4 (i := 218) rfl rfl, zTG_p2 (i := 13) (q := (yX4_asSet, 5)) rfl rfl⟩
theorem iv_X4_choose : Cond.instanceMethod yX4_choose ∈ zTG ∧ Cond.selects yX4_choose.cls yX4_choose yX4_choose ∈ zTG := ⟨zTG_4 (i := 200) rfl rfl, zTG_4 (i := 201) rfl rfl⟩
theorem iv_X4_countColours : Cond.instanceMethod yX4_countColours ∈ zTG ∧ Cond.selects yX4_countColours.cls yX4_countColours yX4_countColours ∈ zTG := ⟨zTG_4 (i := 204) rfl rfl, zTG_4 (i := 205) rfl rfl⟩
theorem iv_X4_distance : Cond.instanceMethod yX4_distance ∈ zTG ∧ Cond.selects yX4_distance.cls yX4_distance yX4_distance ∈ zTG := ⟨zTG_4 (i := 231) rfl rfl, zTG_p3 (i := 0) (q := (yX4_distance, 5)) rfl rfl⟩
theorem iv_X4_nearest : Cond.instanceMethod yX4_nearest ∈ zTG ∧ Cond.selects yX4_nearest.cls yX4_nearest yX4_nearest ∈ zTG := ⟨zTG_4 (i := 226) rfl rfl, zTG_p2 (i := 15) (q := (yX4_nearest, 5)) rfl rfl⟩
theorem iv_X4_paintDraft : Cond.instanceMethod yX4_paintDraft ∈ zTG ∧ Cond.selects yX4_paintDraft.cls yX4_paintDraft yX4_paintDraft ∈ zTG := ⟨zTG_5 (i := 1) rfl rfl, zTG_5 (i := 2) rfl rfl⟩
theorem iv_X4_sumWith : Cond.instanceMethod yX4_sumWith ∈ zTG ∧ Cond.selects yX4_sumWith.cls yX4_sumWith yX4_sumWith ∈ zTG := ⟨zTG_4 (i := 222) rfl rfl, zTG_p2 (i := 14) (q := (yX4_sumWith, 5)) rfl rfl⟩
theorem iv_X5_collect : Cond.instanceMethod yX5_collect ∈ zTG ∧ Cond.selects yX5_collect.cls yX5_collect yX5_collect ∈ zTG := ⟨zTG_5 (i := 10) rfl rfl, zTG_5 (i := 11) rfl rfl⟩
theorem iv_X5_distance : Cond.instanceMethod yX5_distance ∈ zTG ∧ Cond.selects yX5_distance.cls yX5_distance yX5_distance ∈ zTG := ⟨zTG_5 (i := 29) rfl rfl, zTG_p3 (i := 3) (q := (yX5_distance, 6)) rfl rfl⟩
theorem iv_X5_firstBest : Cond.instanceMethod yX5_firstBest ∈ zTG ∧ Cond.selects yX5_firstBest.cls yX5_firstBest yX5_firstBest ∈ zTG := ⟨zTG_5 (i := 35) rfl rfl, zTG_p3 (i := 4) (q := (yX5_firstBest, 6)) rfl rfl⟩
theorem iv_X5_leastFrom : Cond.instanceMethod yX5_leastFrom ∈ zTG ∧ Cond.selects yX5_leastFrom.cls yX5_leastFrom yX5_leastFrom ∈ zTG := ⟨zTG_5 (i := 20) rfl rfl, zTG_p3 (i := 1) (q := (yX5_leastFrom, 6)) rfl rfl⟩
theorem iv_X5_plan : Cond.instanceMethod yX5_plan ∈ zTG ∧ Cond.selects yX5_plan.cls yX5_plan yX5_plan ∈ zTG := ⟨zTG_5 (i := 15) rfl rfl, zTG_5 (i := 16) rfl rfl⟩
theorem iv_X5_wayOver : Cond.instanceMethod yX5_wayOver ∈ zTG ∧ Cond.selects yX5_wayOver.cls yX5_wayOver yX5_wayOver ∈ zTG := ⟨zTG_5 (i := 25) rfl rfl, zTG_p3 (i := 2) (q := (yX5_wayOver, 6)) rfl rfl⟩
theorem iv_X6_find : Cond.instanceMethod yX6_find ∈ zTG ∧ Cond.selects yX6_find.cls yX6_find yX6_find ∈ zTG := ⟨zTG_4 (i := 98) rfl rfl, zTG_4 (i := 99) rfl rfl⟩
theorem iv_X6_follow : Cond.instanceMethod yX6_follow ∈ zTG ∧ Cond.selects yX6_follow.cls yX6_follow yX6_follow ∈ zTG := ⟨zTG_4 (i := 114) rfl rfl, zTG_p2 (i := 8) (q := (yX6_follow, 12)) rfl rfl⟩
theorem iv_X6_hold : Cond.instanceMethod yX6_hold ∈ zTG ∧ Cond.selects yX6_hold.cls yX6_hold yX6_hold ∈ zTG := ⟨zTG_4 (i := 121) rfl rfl, zTG_4 (i := 122) rfl rfl⟩
theorem iv_X6_isCrossed : Cond.instanceMethod yX6_isCrossed ∈ zTG ∧ Cond.selects yX6_isCrossed.cls yX6_isCrossed yX6_isCrossed ∈ zTG := ⟨zTG_4 (i := 126) rfl rfl, zTG_p2 (i := 9) (q := (yX6_isCrossed, 12)) rfl rfl⟩
theorem iv_X6_lookAhead : Cond.instanceMethod yX6_lookAhead ∈ zTG ∧ Cond.selects yX6_lookAhead.cls yX6_lookAhead yX6_lookAhead ∈ zTG := ⟨zTG_4 (i := 104) rfl rfl, zTG_p2 (i := 6) (q := (yX6_lookAhead, 12)) rfl rfl⟩
theorem iv_X6_staysNear : Cond.instanceMethod yX6_staysNear ∈ zTG ∧ Cond.selects yX6_staysNear.cls yX6_staysNear yX6_staysNear ∈ zTG := ⟨zTG_4 (i := 109) rfl rfl, zTG_p2 (i := 7) (q := (yX6_staysNear, 12)) rfl rfl⟩
theorem iv_X7_byteAhead : Cond.instanceMethod yX7_byteAhead ∈ zTG ∧ Cond.selects yX7_byteAhead.cls yX7_byteAhead yX7_byteAhead ∈ zTG := ⟨zTG_5 (i := 48) rfl rfl, zTG_p3 (i := 5) (q := (yX7_byteAhead, 5)) rfl rfl⟩
theorem iv_X7_read : Cond.instanceMethod yX7_read ∈ zTG ∧ Cond.selects yX7_read.cls yX7_read yX7_read ∈ zTG := ⟨zTG_5 (i := 42) rfl rfl, zTG_5 (i := 43) rfl rfl⟩
theorem iv_X7_readAnd : Cond.instanceMethod yX7_readAnd ∈ zTG ∧ Cond.selects yX7_readAnd.cls yX7_readAnd yX7_readAnd ∈ zTG := ⟨zTG_5 (i := 64) rfl rfl, zTG_p3 (i := 9) (q := (yX7_readAnd, 5)) rfl rfl⟩
theorem iv_X7_readAtom : Cond.instanceMethod yX7_readAtom ∈ zTG ∧ Cond.selects yX7_readAtom.cls yX7_readAtom yX7_readAtom ∈ zTG := ⟨zTG_5 (i := 84) rfl rfl, zTG_p3 (i := 14) (q := (yX7_readAtom, 5)) rfl rfl⟩
theorem iv_X7_readBracket : Cond.instanceMethod yX7_readBracket ∈ zTG ∧ Cond.selects yX7_readBracket.cls yX7_readBracket yX7_readBracket ∈ zTG := ⟨zTG_5 (i := 72) rfl rfl, zTG_p3 (i := 11) (q := (yX7_readBracket, 5)) rfl rfl⟩
theorem iv_X7_readComparison : Cond.instanceMethod yX7_readComparison ∈ zTG ∧ Cond.selects yX7_readComparison.cls yX7_readComparison yX7_readComparison ∈ zTG := ⟨zTG_5 (i := 76) rfl rfl, zTG_p3 (i := 12) (q := (yX7_readComparison, 5)) rfl rfl⟩
theorem iv_X7_readNumber : Cond.instanceMethod yX7_readNumber ∈ zTG ∧ Cond.selects yX7_readNumber.cls yX7_readNumber yX7_readNumber ∈ zTG := ⟨zTG_5 (i := 89) rfl rfl, zTG_p3 (i := 15) (q := (yX7_readNumber, 5)) rfl rfl⟩
theorem iv_X7_readOr : Cond.instanceMethod yX7_readOr ∈ zTG ∧ Cond.selects yX7_readOr.cls yX7_readOr yX7_readOr ∈ zTG := ⟨zTG_5 (i := 60) rfl rfl, zTG_p3 (i := 8) (q := (yX7_readOr, 5)) rfl rfl⟩
theorem iv_X7_readSum : Cond.instanceMethod yX7_readSum ∈ zTG ∧ Cond.selects yX7_readSum.cls yX7_readSum yX7_readSum ∈ zTG := ⟨zTG_5 (i := 80) rfl rfl, zTG_p3 (i := 13) (q := (yX7_readSum, 5)) rfl rfl⟩
theorem iv_X7_readTest : Cond.instanceMethod yX7_readTest ∈ zTG ∧ Cond.selects yX7_readTest.cls yX7_readTest yX7_readTest ∈ zTG := ⟨zTG_5 (i := 68) rfl rfl, zTG_p3 (i := 10) (q := (yX7_readTest, 5)) rfl rfl⟩
theorem iv_X7_stop : Cond.instanceMethod yX7_stop ∈ zTG ∧ Cond.selects yX7_stop.cls yX7_stop yX7_stop ∈ zTG := ⟨zTG_5 (i := 52) rfl rfl, zTG_p3 (i := 6) (q := (yX7_stop, 5)) rfl rfl⟩
theorem iv_X7_take : Cond.instanceMethod yX7_take ∈ zTG ∧ Cond.selects yX7_take.cls yX7_take yX7_take ∈ zTG := ⟨zTG_5 (i := 56) rfl rfl, zTG_p3 (i := 7) (q := (yX7_take, 5)) rfl rfl⟩
theorem iv_X8_add : Cond.instanceMethod yX8_add ∈ zTG ∧ Cond.selects yX8_add.cls yX8_add yX8_add ∈ zTG := ⟨zTG_5 (i := 99) rfl rfl, zTG_5 (i := 100) rfl rfl⟩
theorem iv_X8_bringBack : Cond.instanceMethod yX8_bringBack ∈ zTG ∧ Cond.selects yX8_bringBack.cls yX8_bringBack yX8_bringBack ∈ zTG := ⟨zTG_5 (i := 162) rfl rfl, zTG_5 (i := 163) rfl rfl⟩
theorem iv_X8_countTold : Cond.instanceMethod yX8_countTold ∈ zTG ∧ Cond.selects yX8_countTold.cls yX8_countTold yX8_countTold ∈ zTG := ⟨zTG_5 (i := 176) rfl rfl, zTG_5 (i := 177) rfl rfl⟩
theorem iv_X8_takeImage : Cond.instanceMethod yX8_takeImage ∈ zTG ∧ Cond.selects yX8_takeImage.cls yX8_takeImage yX8_takeImage ∈ zTG := ⟨zTG_5 (i := 154) rfl rfl, zTG_5 (i := 155) rfl rfl⟩
theorem iv_X9_areLike : Cond.instanceMethod yX9_areLike ∈ zTG ∧ Cond.selects yX9_areLike.cls yX9_areLike yX9_areLike ∈ zTG := ⟨zTG_4 (i := 165) rfl rfl, zTG_4 (i := 166) rfl rfl⟩
theorem iv_X9_breadthAt : Cond.instanceMethod yX9_breadthAt ∈ zTG ∧ Cond.selects yX9_breadthAt.cls yX9_breadthAt yX9_breadthAt ∈ zTG := ⟨zTG_4 (i := 142) rfl rfl, zTG_4 (i := 143) rfl rfl⟩
theorem iv_X9_countLeaders : Cond.instanceMethod yX9_countLeaders ∈ zTG ∧ Cond.selects yX9_countLeaders.cls yX9_countLeaders yX9_countLeaders ∈ zTG := ⟨zTG_5 (i := 171) rfl rfl, zTG_5 (i := 172) rfl rfl⟩
theorem iv_X9_countLike : Cond.instanceMethod yX9_countLike ∈ zTG ∧ Cond.selects yX9_countLike.cls yX9_countLike yX9_countLike ∈ zTG := ⟨zTG_5 (i := 112) rfl rfl, zTG_5 (i := 113) rfl rfl⟩
theorem iv_X9_difference : Cond.instanceMethod yX9_difference ∈ zTG ∧ Cond.selects yX9_difference.cls yX9_difference yX9_difference ∈ zTG := ⟨zTG_4 (i := 183) rfl rfl, zTG_4 (i := 184) rfl rfl⟩
theorem iv_X9_firstLike : Cond.instanceMethod yX9_firstLike ∈ zTG ∧ Cond.selects yX9_firstLike.cls yX9_firstLike yX9_firstLike ∈ zTG := ⟨zTG_4 (i := 191) rfl rfl, zTG_4 (i := 192) rfl rfl⟩
theorem iv_X9_greatestBreadth : Cond.instanceMethod yX9_greatestBreadth ∈ zTG ∧ Cond.selects yX9_greatestBreadth.cls yX9_greatestBreadth yX9_greatestBreadth ∈ zTG := ⟨zTG_3 (i := 225) rfl rfl, zTG_3 (i := 226) rfl rfl⟩
theorem iv_X9_growSquares : Cond.instanceMethod yX9_growSquares ∈ zTG ∧ Cond.selects yX9_growSquares.cls yX9_growSquares yX9_growSquares ∈ zTG := ⟨zTG_3 (i := 229) rfl rfl, zTG_3 (i := 230) rfl rfl⟩
theorem iv_X9_isIn : Cond.instanceMethod yX9_isIn ∈ zTG ∧ Cond.selects yX9_isIn.cls yX9_isIn yX9_isIn ∈ zTG := ⟨zTG_4 (i := 176) rfl rfl, zTG_p2 (i := 12) (q := (yX9_isIn, 3)) rfl rfl⟩
theorem iv_X9_isMiddle : Cond.instanceMethod yX9_isMiddle ∈ zTG ∧ Cond.selects yX9_isMiddle.cls yX9_isMiddle yX9_isMiddle ∈ zTG := ⟨zTG_4 (i := 146) rfl rfl, zTG_4 (i := 147) rfl rfl⟩
theorem iv_X9_liesOn : Cond.instanceMethod yX9_liesOn ∈ zTG ∧ Cond.selects yX9_liesOn.cls yX9_liesOn yX9_liesOn ∈ zTG := ⟨zTG_4 (i := 170) rfl rfl, zTG_p2 (i := 11) (q := (yX9_liesOn, 3)) rfl rfl⟩
theorem iv_X9_roomAround : Cond.instanceMethod yX9_roomAround ∈ zTG ∧ Cond.selects yX9_roomAround.cls yX9_roomAround yX9_roomAround ∈ zTG := ⟨zTG_4 (i := 151) rfl rfl, zTG_p2 (i := 10) (q := (yX9_roomAround, 3)) rfl rfl⟩
theorem iv_X9_squareAt : Cond.instanceMethod yX9_squareAt ∈ zTG ∧ Cond.selects yX9_squareAt.cls yX9_squareAt yX9_squareAt ∈ zTG := ⟨zTG_3 (i := 234) rfl rfl, zTG_p1 (i := 13) (q := (yX9_squareAt, 3)) rfl rfl⟩
theorem kw_copy_RX0_29 : Cond.methodLink RX0 29 arraycopyName ∈ zTG := zTG_3 (i := 55) rfl rfl
theorem kw_copy_RX11_415 : Cond.methodLink RX11 415 arraycopyName ∈ zTG := zTG_5 (i := 222) rfl rfl
theorem kw_copy_RX3_26 : Cond.methodLink RX3 26 arraycopyName ∈ zTG := zTG_3 (i := 97) rfl rfl
theorem kw_copy_RX8_31 : Cond.methodLink RX8 31 arraycopyName ∈ zTG := zTG_5 (i := 102) rfl rfl
theorem sv_J6_bitCount_0f7a4 : Cond.static yJ6_bitCount_0f7a4 ∈ zTG := zTG_4 (i := 211) rfl rfl
theorem sv_J7_fill_53178 : Cond.static yJ7_fill_53178 ∈ zTG := zTG_3 (i := 116) rfl rfl
theorem sv_X0_byteAt : Cond.static yX0_byteAt ∈ zTG := zTG_3 (i := 25) rfl rfl
theorem sv_X0_colourSign : Cond.static yX0_colourSign ∈ zTG := zTG_3 (i := 28) rfl rfl
theorem sv_X0_countDigits : Cond.static yX0_countDigits ∈ zTG := zTG_3 (i := 31) rfl rfl
theorem sv_X0_numberOf : Cond.static yX0_numberOf ∈ zTG := zTG_3 (i := 37) rfl rfl
theorem sv_X11_asNumber : Cond.static yX11_asNumber ∈ zTG := zTG_4 (i := 36) rfl rfl
theorem sv_X11_isColour : Cond.static yX11_isColour ∈ zTG := zTG_3 (i := 79) rfl rfl
theorem sv_X11_isCost : Cond.static yX11_isCost ∈ zTG := zTG_4 (i := 52) rfl rfl
theorem sv_X11_isDigit : Cond.static yX11_isDigit ∈ zTG := zTG_3 (i := 34) rfl rfl
theorem sv_X11_isMiss : Cond.static yX11_isMiss ∈ zTG := zTG_4 (i := 82) rfl rfl
theorem sv_X12_colourOf : Cond.static yX12_colourOf ∈ zTG := zTG_7 (i := 122) rfl rfl
theorem sv_X12_dx : Cond.static yX12_dx ∈ zTG := zTG_7 (i := 195) rfl rfl
theorem sv_X12_dy : Cond.static yX12_dy ∈ zTG := zTG_7 (i := 198) rfl rfl
theorem sv_X12_in : Cond.static yX12_in ∈ zTG := zTG_7 (i := 107) rfl rfl
theorem sv_X12_isDigit : Cond.static yX12_isDigit ∈ zTG := zTG_7 (i := 134) rfl rfl
theorem sv_X12_isNear : Cond.static yX12_isNear ∈ zTG := zTG_8 (i := 91) rfl rfl
theorem sv_X12_letterOf : Cond.static yX12_letterOf ∈ zTG := zTG_8 (i := 229) rfl rfl
theorem sv_X12_narrowed : Cond.static yX12_narrowed ∈ zTG := zTG_9 (i := 48) rfl rfl
theorem sv_X12_ones : Cond.static yX12_ones ∈ zTG := zTG_8 (i := 170) rfl rfl
theorem sv_X12_root : Cond.static yX12_root ∈ zTG := zTG_9 (i := 67) rfl rfl
theorem sv_X12_square : Cond.static yX12_square ∈ zTG := zTG_8 (i := 178) rfl rfl
theorem sv_X7_fieldOf : Cond.static yX7_fieldOf ∈ zTG := zTG_5 (i := 92) rfl rfl
theorem cw_X0_colourAt : Cond.initialized yX0_colourAt.cls ∈ zTG ∧ Cond.code yX0_colourAt cX0_colourAt 3 (some .int) ∈ zTG ∧ (yX0_colourAt.cls ≠ "java/lang/invoke/MethodHandle" ∧ yX0_colourAt.cls ≠ "java/lang/invoke/VarHandle" ∧ (parseMethodDescriptor yX0_colourAt.desc).map (fun d => d.parameters.length) = some 2) := ⟨zTG_1 (i := 2) rfl rfl, zTG_3 (i := 129) rfl rfl, by decide +kernel⟩
theorem ck_RX0_38 : zCK RX0 38 yX0_colourAt cX0_colourAt 3 (some .int) 2 := ⟨Or.inl (zTG_5 (i := 183) rfl rfl), cw_X0_colourAt⟩
theorem cw_X0_byteAt : Cond.initialized yX0_byteAt.cls ∈ zTG ∧ Cond.code yX0_byteAt cX0_byteAt 3 (some .int) ∈ zTG ∧ (yX0_byteAt.cls ≠ "java/lang/invoke/MethodHandle" ∧ yX0_byteAt.cls ≠ "java/lang/invoke/VarHandle" ∧ (parseMethodDescriptor yX0_byteAt.desc).map (fun d => d.parameters.length) = some 3) := ⟨zTG_1 (i := 2) rfl rfl, zTG_3 (i := 26) rfl rfl, by decide +kernel⟩
theorem ck_RX0_45 : zCK RX0 45 yX0_byteAt cX0_byteAt 3 (some .int) 3 := ⟨Or.inl (zTG_3 (i := 24) rfl rfl), cw_X0_byteAt⟩
theorem cw_X0_colourSign : Cond.initialized yX0_colourSign.cls ∈ zTG ∧ Cond.code yX0_colourSign cX0_colourSign 1 (some .int) ∈ zTG ∧ (yX0_colourSign.cls ≠ "java/lang/invoke/MethodHandle" ∧ yX0_colourSign.cls ≠ "java/lang/invoke/VarHandle" ∧ (parseMethodDescriptor yX0_colourSign.desc).map (fun d => d.parameters.length) = some 1) := ⟨zTG_1 (i := 2) rfl rfl, zTG_3 (i := 29) rfl rfl, by decide +kernel⟩
theorem ck_RX0_49 : zCK RX0 49 yX0_colourSign cX0_colourSign 1 (some .int) 1 := ⟨Or.inl (zTG_3 (i := 27) rfl rfl), cw_X0_colourSign⟩
theorem cw_X0_countDigits : Cond.initialized yX0_countDigits.cls ∈ zTG ∧ Cond.code yX0_countDigits cX0_countDigits 3 (some .int) ∈ zTG ∧ (yX0_countDigits.cls ≠ "java/lang/invoke/MethodHandle" ∧ yX0_countDigits.cls ≠ "java/lang/invoke/VarHandle" ∧ (parseMethodDescriptor yX0_countDigits.desc).map (fun d => d.parameters.length) = some 3) := ⟨zTG_1 (i := 2) rfl rfl, zTG_3 (i := 32) rfl rfl, by decide +kernel⟩
theorem ck_RX0_53 : zCK RX0 53 yX0_countDigits cX0_countDigits 3 (some .int) 3 := ⟨Or.inl (zTG_3 (i := 30) rfl rfl), cw_X0_countDigits⟩
theorem cw_X0_numberOf : Cond.initialized yX0_numberOf.cls ∈ zTG ∧ Cond.code yX0_numberOf cX0_numberOf 6 (some .int) ∈ zTG ∧ (yX0_numberOf.cls ≠ "java/lang/invoke/MethodHandle" ∧ yX0_numberOf.cls ≠ "java/lang/invoke/VarHandle" ∧ (parseMethodDescriptor yX0_numberOf.desc).map (fun d => d.parameters.length) = some 4) := ⟨zTG_1 (i := 2) rfl rfl, zTG_3 (i := 38) rfl rfl, by decide +kernel⟩
theorem ck_RX0_56 : zCK RX0 56 yX0_numberOf cX0_numberOf 6 (some .int) 4 := ⟨Or.inl (zTG_3 (i := 36) rfl rfl), cw_X0_numberOf⟩
theorem cw_X0_drawRun : Cond.initialized yX0_drawRun.cls ∈ zTG ∧ Cond.code yX0_drawRun cX0_drawRun 6 none ∈ zTG ∧ (yX0_drawRun.cls ≠ "java/lang/invoke/MethodHandle" ∧ yX0_drawRun.cls ≠ "java/lang/invoke/VarHandle" ∧ (parseMethodDescriptor yX0_drawRun.desc).map (fun d => d.parameters.length) = some 4) := ⟨zTG_1 (i := 2) rfl rfl, zTG_3 (i := 42) rfl rfl, by decide +kernel⟩
theorem ck_RX0_60 : zCK RX0 60 yX0_drawRun cX0_drawRun 6 none 4 := ⟨Or.inl (zTG_3 (i := 39) rfl rfl), cw_X0_drawRun⟩
theorem cw_X0_takeDraft : Cond.initialized yX0_takeDraft.cls ∈ zTG ∧ Cond.code yX0_takeDraft cX0_takeDraft 1 none ∈ zTG ∧ (yX0_takeDraft.cls ≠ "java/lang/invoke/MethodHandle" ∧ yX0_takeDraft.cls ≠ "java/lang/invoke/VarHandle" ∧ (parseMethodDescriptor yX0_takeDraft.desc).map (fun d => d.parameters.length) = some 0) := ⟨zTG_1 (i := 2) rfl rfl, zTG_3 (i := 54) rfl rfl, by decide +kernel⟩
theorem ck_RX0_70 : zCK RX0 70 yX0_takeDraft cX0_takeDraft 1 none 0 := ⟨Or.inl (zTG_3 (i := 51) rfl rfl), cw_X0_takeDraft⟩
theorem cw_X11_isDigit : Cond.initialized yX11_isDigit.cls ∈ zTG ∧ Cond.code yX11_isDigit cX11_isDigit 1 (some .boolean) ∈ zTG ∧ (yX11_isDigit.cls ≠ "java/lang/invoke/MethodHandle" ∧ yX11_isDigit.cls ≠ "java/lang/invoke/VarHandle" ∧ (parseMethodDescriptor yX11_isDigit.desc).map (fun d => d.parameters.length) = some 1) := ⟨zTG_1 (i := 1) rfl rfl, zTG_3 (i := 35) rfl rfl, by decide +kernel⟩
theorem ck_RX0_73 : zCK RX0 73 yX11_isDigit cX11_isDigit 1 (some .boolean) 1 := ⟨Or.inr ⟨"DotLines", by simp [zNL, TX1, RX11]⟩, cw_X11_isDigit⟩
theorem cw_J7_fill_53178 : Cond.initialized yJ7_fill_53178.cls ∈ zTG ∧ Cond.code yJ7_fill_53178 cJ7_fill_53178 4 none ∈ zTG ∧ (yJ7_fill_53178.cls ≠ "java/lang/invoke/MethodHandle" ∧ yJ7_fill_53178.cls ≠ "java/lang/invoke/VarHandle" ∧ (parseMethodDescriptor yJ7_fill_53178.desc).map (fun d => d.parameters.length) = some 2) := ⟨zTG_1 (i := 15) rfl rfl, zTG_3 (i := 117) rfl rfl, by decide +kernel⟩
theorem ck_RX10_25 : zCK RX10 25 yJ7_fill_53178 cJ7_fill_53178 4 none 2 := ⟨Or.inl (zTG_5 (i := 205) rfl rfl), cw_J7_fill_53178⟩
theorem cw_X10_straightReach : Cond.initialized yX10_straightReach.cls ∈ zTG ∧ Cond.code yX10_straightReach cX10_straightReach 4 (some .int) ∈ zTG ∧ (yX10_straightReach.cls ≠ "java/lang/invoke/MethodHandle" ∧ yX10_straightReach.cls ≠ "java/lang/invoke/VarHandle" ∧ (parseMethodDescriptor yX10_straightReach.desc).map (fun d => d.parameters.length) = some 0) := ⟨zTG_1 (i := 5) rfl rfl, zTG_5 (i := 238) rfl rfl, by decide +kernel⟩
theorem ck_RX10_46 : zCK RX10 46 yX10_straightReach cX10_straightReach 4 (some .int) 0 := ⟨Or.inl (zTG_5 (i := 235) rfl rfl), cw_X10_straightReach⟩
theorem cw_X11_shelfAt : Cond.initialized yX11_shelfAt.cls ∈ zTG ∧ Cond.code yX11_shelfAt cX11_shelfAt 2 (some (.object "DotLines$Shelf")) ∈ zTG ∧ (yX11_shelfAt.cls ≠ "java/lang/invoke/MethodHandle" ∧ yX11_shelfAt.cls ≠ "java/lang/invoke/VarHandle" ∧ (parseMethodDescriptor yX11_shelfAt.desc).map (fun d => d.parameters.length) = some 1) := ⟨zTG_1 (i := 1) rfl rfl, zTG_3 (i := 19) rfl rfl, by decide +kernel⟩
theorem ck_RX11_103 : zCK RX11 103 yX11_shelfAt cX11_shelfAt 2 (some (.object "DotLines$Shelf")) 1 := ⟨Or.inl (zTG_3 (i := 16) rfl rfl), cw_X11_shelfAt⟩
theorem cw_X0_readText : Cond.initialized yX0_readText.cls ∈ zTG ∧ Cond.code yX0_readText cX0_readText 12 (some .int) ∈ zTG ∧ (yX0_readText.cls ≠ "java/lang/invoke/MethodHandle" ∧ yX0_readText.cls ≠ "java/lang/invoke/VarHandle" ∧ (parseMethodDescriptor yX0_readText.desc).map (fun d => d.parameters.length) = some 2) := ⟨zTG_1 (i := 2) rfl rfl, zTG_3 (i := 23) rfl rfl, by decide +kernel⟩
theorem ck_RX11_115 : zCK RX11 115 yX0_readText cX0_readText 12 (some .int) 2 := ⟨Or.inl (zTG_3 (i := 20) rfl rfl), cw_X0_readText⟩
theorem cw_X0_takeText : Cond.initialized yX0_takeText.cls ∈ zTG ∧ Cond.code yX0_takeText cX0_takeText 1 none ∈ zTG ∧ (yX0_takeText.cls ≠ "java/lang/invoke/MethodHandle" ∧ yX0_takeText.cls ≠ "java/lang/invoke/VarHandle" ∧ (parseMethodDescriptor yX0_takeText.desc).map (fun d => d.parameters.length) = some 0) := ⟨zTG_1 (i := 2) rfl rfl, zTG_3 (i := 50) rfl rfl, by decide +kernel⟩
theorem ck_RX11_119 : zCK RX11 119 yX0_takeText cX0_takeText 1 none 0 := ⟨Or.inl (zTG_3 (i := 47) rfl rfl), cw_X0_takeText⟩
theorem cw_X3_forget : Cond.initialized yX3_forget.cls ∈ zTG ∧ Cond.code yX3_forget cX3_forget 1 none ∈ zTG ∧ (yX3_forget.cls ≠ "java/lang/invoke/MethodHandle" ∧ yX3_forget.cls ≠ "java/lang/invoke/VarHandle" ∧ (parseMethodDescriptor yX3_forget.desc).map (fun d => d.parameters.length) = some 0) := ⟨zTG_1 (i := 12) rfl rfl, zTG_3 (i := 61) rfl rfl, by decide +kernel⟩
theorem ck_RX11_122 : zCK RX11 122 yX3_forget cX3_forget 1 none 0 := ⟨Or.inl (zTG_3 (i := 58) rfl rfl), cw_X3_forget⟩
theorem cw_X0_dots : Cond.initialized yX0_dots.cls ∈ zTG ∧ Cond.code yX0_dots cX0_dots 1 (some .int) ∈ zTG ∧ (yX0_dots.cls ≠ "java/lang/invoke/MethodHandle" ∧ yX0_dots.cls ≠ "java/lang/invoke/VarHandle" ∧ (parseMethodDescriptor yX0_dots.desc).map (fun d => d.parameters.length) = some 0) := ⟨zTG_1 (i := 2) rfl rfl, zTG_3 (i := 65) rfl rfl, by decide +kernel⟩
theorem ck_RX11_125 : zCK RX11 125 yX0_dots cX0_dots 1 (some .int) 0 := ⟨Or.inl (zTG_3 (i := 62) rfl rfl), cw_X0_dots⟩
theorem cw_X0_isDot : Cond.initialized yX0_isDot.cls ∈ zTG ∧ Cond.code yX0_isDot cX0_isDot 2 (some .boolean) ∈ zTG ∧ (yX0_isDot.cls ≠ "java/lang/invoke/MethodHandle" ∧ yX0_isDot.cls ≠ "java/lang/invoke/VarHandle" ∧ (parseMethodDescriptor yX0_isDot.desc).map (fun d => d.parameters.length) = some 1) := ⟨zTG_1 (i := 2) rfl rfl, zTG_3 (i := 73) rfl rfl, by decide +kernel⟩
theorem ck_RX11_129 : zCK RX11 129 yX0_isDot cX0_isDot 2 (some .boolean) 1 := ⟨Or.inl (zTG_3 (i := 70) rfl rfl), cw_X0_isDot⟩
theorem cw_X11_isColour : Cond.initialized yX11_isColour.cls ∈ zTG ∧ Cond.code yX11_isColour cX11_isColour 1 (some .boolean) ∈ zTG ∧ (yX11_isColour.cls ≠ "java/lang/invoke/MethodHandle" ∧ yX11_isColour.cls ≠ "java/lang/invoke/VarHandle" ∧ (parseMethodDescriptor yX11_isColour.desc).map (fun d => d.parameters.length) = some 1) := ⟨zTG_1 (i := 1) rfl rfl, zTG_3 (i := 80) rfl rfl, by decide +kernel⟩
theorem ck_RX11_137 : zCK RX11 137 yX11_isColour cX11_isColour 1 (some .boolean) 1 := ⟨Or.inl (zTG_3 (i := 78) rfl rfl), cw_X11_isColour⟩
theorem cw_X0_startDraft : Cond.initialized yX0_startDraft.cls ∈ zTG ∧ Cond.code yX0_startDraft cX0_startDraft 1 none ∈ zTG ∧ (yX0_startDraft.cls ≠ "java/lang/invoke/MethodHandle" ∧ yX0_startDraft.cls ≠ "java/lang/invoke/VarHandle" ∧ (parseMethodDescriptor yX0_startDraft.desc).map (fun d => d.parameters.length) = some 0) := ⟨zTG_1 (i := 2) rfl rfl, zTG_3 (i := 84) rfl rfl, by decide +kernel⟩
theorem ck_RX11_140 : zCK RX11 140 yX0_startDraft cX0_startDraft 1 none 0 := ⟨Or.inl (zTG_3 (i := 81) rfl rfl), cw_X0_startDraft⟩
theorem cw_X11_changeToDraft : Cond.initialized yX11_changeToDraft.cls ∈ zTG ∧ Cond.code yX11_changeToDraft cX11_changeToDraft 2 (some .int) ∈ zTG ∧ (yX11_changeToDraft.cls ≠ "java/lang/invoke/MethodHandle" ∧ yX11_changeToDraft.cls ≠ "java/lang/invoke/VarHandle" ∧ (parseMethodDescriptor yX11_changeToDraft.desc).map (fun d => d.parameters.length) = some 0) := ⟨zTG_1 (i := 1) rfl rfl, zTG_3 (i := 88) rfl rfl, by decide +kernel⟩
theorem ck_RX11_146 : zCK RX11 146 yX11_changeToDraft cX11_changeToDraft 2 (some .int) 0 := ⟨Or.inl (zTG_3 (i := 85) rfl rfl), cw_X11_changeToDraft⟩
theorem cw_X2_refresh : Cond.initialized yX2_refresh.cls ∈ zTG ∧ Cond.code yX2_refresh cX2_refresh 3 none ∈ zTG ∧ (yX2_refresh.cls ≠ "java/lang/invoke/MethodHandle" ∧ yX2_refresh.cls ≠ "java/lang/invoke/VarHandle" ∧ (parseMethodDescriptor yX2_refresh.desc).map (fun d => d.parameters.length) = some 0) := ⟨zTG_1 (i := 3) rfl rfl, zTG_3 (i := 114) rfl rfl, by decide +kernel⟩
theorem ck_RX11_158 : zCK RX11 158 yX2_refresh cX2_refresh 3 none 0 := ⟨Or.inl (zTG_3 (i := 111) rfl rfl), cw_X2_refresh⟩
theorem cw_X2_colourMostBeside : Cond.initialized yX2_colourMostBeside.cls ∈ zTG ∧ Cond.code yX2_colourMostBeside cX2_colourMostBeside 4 (some .int) ∈ zTG ∧ (yX2_colourMostBeside.cls ≠ "java/lang/invoke/MethodHandle" ∧ yX2_colourMostBeside.cls ≠ "java/lang/invoke/VarHandle" ∧ (parseMethodDescriptor yX2_colourMostBeside.desc).map (fun d => d.parameters.length) = some 1) := ⟨zTG_1 (i := 3) rfl rfl, zTG_3 (i := 147) rfl rfl, by decide +kernel⟩
theorem ck_RX11_166 : zCK RX11 166 yX2_colourMostBeside cX2_colourMostBeside 4 (some .int) 1 := ⟨Or.inl (zTG_3 (i := 144) rfl rfl), cw_X2_colourMostBeside⟩
theorem cw_X2_paintDraft : Cond.initialized yX2_paintDraft.cls ∈ zTG ∧ Cond.code yX2_paintDraft cX2_paintDraft 5 none ∈ zTG ∧ (yX2_paintDraft.cls ≠ "java/lang/invoke/MethodHandle" ∧ yX2_paintDraft.cls ≠ "java/lang/invoke/VarHandle" ∧ (parseMethodDescriptor yX2_paintDraft.desc).map (fun d => d.parameters.length) = some 2) := ⟨zTG_1 (i := 3) rfl rfl, zTG_3 (i := 155) rfl rfl, by decide +kernel⟩
theorem ck_RX11_169 : zCK RX11 169 yX2_paintDraft cX2_paintDraft 5 none 2 := ⟨Or.inl (zTG_3 (i := 152) rfl rfl), cw_X2_paintDraft⟩
theorem cw_X2_faceAt : Cond.initialized yX2_faceAt.cls ∈ zTG ∧ Cond.code yX2_faceAt cX2_faceAt 3 (some .int) ∈ zTG ∧ (yX2_faceAt.cls ≠ "java/lang/invoke/MethodHandle" ∧ yX2_faceAt.cls ≠ "java/lang/invoke/VarHandle" ∧ (parseMethodDescriptor yX2_faceAt.desc).map (fun d => d.parameters.length) = some 2) := ⟨zTG_1 (i := 3) rfl rfl, zTG_3 (i := 121) rfl rfl, by decide +kernel⟩
theorem ck_RX11_173 : zCK RX11 173 yX2_faceAt cX2_faceAt 3 (some .int) 2 := ⟨Or.inl (zTG_3 (i := 160) rfl rfl), cw_X2_faceAt⟩
theorem cw_X11_isFace : Cond.initialized yX11_isFace.cls ∈ zTG ∧ Cond.code yX11_isFace cX11_isFace 2 (some .boolean) ∈ zTG ∧ (yX11_isFace.cls ≠ "java/lang/invoke/MethodHandle" ∧ yX11_isFace.cls ≠ "java/lang/invoke/VarHandle" ∧ (parseMethodDescriptor yX11_isFace.desc).map (fun d => d.parameters.length) = some 1) := ⟨zTG_1 (i := 1) rfl rfl, zTG_3 (i := 168) rfl rfl, by decide +kernel⟩
theorem ck_RX11_177 : zCK RX11 177 yX11_isFace cX11_isFace 2 (some .boolean) 1 := ⟨Or.inl (zTG_3 (i := 165) rfl rfl), cw_X11_isFace⟩
theorem cw_X11_measure : Cond.initialized yX11_measure.cls ∈ zTG ∧ Cond.code yX11_measure cX11_measure 3 (some .int) ∈ zTG ∧ (yX11_measure.cls ≠ "java/lang/invoke/MethodHandle" ∧ yX11_measure.cls ≠ "java/lang/invoke/VarHandle" ∧ (parseMethodDescriptor yX11_measure.desc).map (fun d => d.parameters.length) = some 2) := ⟨zTG_1 (i := 1) rfl rfl, zTG_3 (i := 176) rfl rfl, by decide +kernel⟩
theorem ck_RX11_180 : zCK RX11 180 yX11_measure cX11_measure 3 (some .int) 2 := ⟨Or.inl (zTG_3 (i := 173) rfl rfl), cw_X11_measure⟩
theorem cw_X2_areBeside : Cond.initialized yX2_areBeside.cls ∈ zTG ∧ Cond.code yX2_areBeside cX2_areBeside 5 (some .boolean) ∈ zTG ∧ (yX2_areBeside.cls ≠ "java/lang/invoke/MethodHandle" ∧ yX2_areBeside.cls ≠ "java/lang/invoke/VarHandle" ∧ (parseMethodDescriptor yX2_areBeside.desc).map (fun d => d.parameters.length) = some 2) := ⟨zTG_1 (i := 3) rfl rfl, zTG_4 (i := 29) rfl rfl, by decide +kernel⟩
theorem ck_RX11_183 : zCK RX11 183 yX2_areBeside cX2_areBeside 5 (some .boolean) 2 := ⟨Or.inl (zTG_4 (i := 26) rfl rfl), cw_X2_areBeside⟩
theorem cw_X2_liesIn : Cond.initialized yX2_liesIn.cls ∈ zTG ∧ Cond.code yX2_liesIn cX2_liesIn 6 (some .boolean) ∈ zTG ∧ (yX2_liesIn.cls ≠ "java/lang/invoke/MethodHandle" ∧ yX2_liesIn.cls ≠ "java/lang/invoke/VarHandle" ∧ (parseMethodDescriptor yX2_liesIn.desc).map (fun d => d.parameters.length) = some 2) := ⟨zTG_1 (i := 3) rfl rfl, zTG_3 (i := 218) rfl rfl, by decide +kernel⟩
theorem ck_RX11_187 : zCK RX11 187 yX2_liesIn cX2_liesIn 6 (some .boolean) 2 := ⟨Or.inl (zTG_4 (i := 34) rfl rfl), cw_X2_liesIn⟩
theorem cw_X11_asNumber : Cond.initialized yX11_asNumber.cls ∈ zTG ∧ Cond.code yX11_asNumber cX11_asNumber 1 (some .int) ∈ zTG ∧ (yX11_asNumber.cls ≠ "java/lang/invoke/MethodHandle" ∧ yX11_asNumber.cls ≠ "java/lang/invoke/VarHandle" ∧ (parseMethodDescriptor yX11_asNumber.desc).map (fun d => d.parameters.length) = some 1) := ⟨zTG_1 (i := 1) rfl rfl, zTG_4 (i := 37) rfl rfl, by decide +kernel⟩
theorem ck_RX11_190 : zCK RX11 190 yX11_asNumber cX11_asNumber 1 (some .int) 1 := ⟨Or.inl (zTG_4 (i := 35) rfl rfl), cw_X11_asNumber⟩
theorem cw_X11_isPoint : Cond.initialized yX11_isPoint.cls ∈ zTG ∧ Cond.code yX11_isPoint cX11_isPoint 3 (some .boolean) ∈ zTG ∧ (yX11_isPoint.cls ≠ "java/lang/invoke/MethodHandle" ∧ yX11_isPoint.cls ≠ "java/lang/invoke/VarHandle" ∧ (parseMethodDescriptor yX11_isPoint.desc).map (fun d => d.parameters.length) = some 2) := ⟨zTG_1 (i := 1) rfl rfl, zTG_4 (i := 45) rfl rfl, by decide +kernel⟩
theorem ck_RX11_194 : zCK RX11 194 yX11_isPoint cX11_isPoint 3 (some .boolean) 2 := ⟨Or.inl (zTG_4 (i := 42) rfl rfl), cw_X11_isPoint⟩
theorem cw_X1_turnAt : Cond.initialized yX1_turnAt.cls ∈ zTG ∧ Cond.code yX1_turnAt cX1_turnAt 4 (some .int) ∈ zTG ∧ (yX1_turnAt.cls ≠ "java/lang/invoke/MethodHandle" ∧ yX1_turnAt.cls ≠ "java/lang/invoke/VarHandle" ∧ (parseMethodDescriptor yX1_turnAt.desc).map (fun d => d.parameters.length) = some 1) := ⟨zTG_1 (i := 4) rfl rfl, zTG_4 (i := 21) rfl rfl, by decide +kernel⟩
theorem ck_RX11_206 : zCK RX11 206 yX1_turnAt cX1_turnAt 4 (some .int) 1 := ⟨Or.inl (zTG_4 (i := 46) rfl rfl), cw_X1_turnAt⟩
theorem cw_X11_isCost : Cond.initialized yX11_isCost.cls ∈ zTG ∧ Cond.code yX11_isCost cX11_isCost 1 (some .boolean) ∈ zTG ∧ (yX11_isCost.cls ≠ "java/lang/invoke/MethodHandle" ∧ yX11_isCost.cls ≠ "java/lang/invoke/VarHandle" ∧ (parseMethodDescriptor yX11_isCost.desc).map (fun d => d.parameters.length) = some 1) := ⟨zTG_1 (i := 1) rfl rfl, zTG_4 (i := 53) rfl rfl, by decide +kernel⟩
theorem ck_RX11_209 : zCK RX11 209 yX11_isCost cX11_isCost 1 (some .boolean) 1 := ⟨Or.inl (zTG_4 (i := 51) rfl rfl), cw_X11_isCost⟩
theorem cw_X1_trace : Cond.initialized yX1_trace.cls ∈ zTG ∧ Cond.code yX1_trace cX1_trace 8 none ∈ zTG ∧ (yX1_trace.cls ≠ "java/lang/invoke/MethodHandle" ∧ yX1_trace.cls ≠ "java/lang/invoke/VarHandle" ∧ (parseMethodDescriptor yX1_trace.desc).map (fun d => d.parameters.length) = some 1) := ⟨zTG_1 (i := 4) rfl rfl, zTG_4 (i := 2) rfl rfl, by decide +kernel⟩
theorem ck_RX11_212 : zCK RX11 212 yX1_trace cX1_trace 8 none 1 := ⟨Or.inl (zTG_3 (i := 239) rfl rfl), cw_X1_trace⟩
theorem cw_X1_decideCorners : Cond.initialized yX1_decideCorners.cls ∈ zTG ∧ Cond.code yX1_decideCorners cX1_decideCorners 4 (some .int) ∈ zTG ∧ (yX1_decideCorners.cls ≠ "java/lang/invoke/MethodHandle" ∧ yX1_decideCorners.cls ≠ "java/lang/invoke/VarHandle" ∧ (parseMethodDescriptor yX1_decideCorners.desc).map (fun d => d.parameters.length) = some 1) := ⟨zTG_1 (i := 4) rfl rfl, zTG_4 (i := 57) rfl rfl, by decide +kernel⟩
theorem ck_RX11_216 : zCK RX11 216 yX1_decideCorners cX1_decideCorners 4 (some .int) 1 := ⟨Or.inl (zTG_4 (i := 54) rfl rfl), cw_X1_decideCorners⟩
theorem cw_X11_isMiss : Cond.initialized yX11_isMiss.cls ∈ zTG ∧ Cond.code yX11_isMiss cX11_isMiss 1 (some .boolean) ∈ zTG ∧ (yX11_isMiss.cls ≠ "java/lang/invoke/MethodHandle" ∧ yX11_isMiss.cls ≠ "java/lang/invoke/VarHandle" ∧ (parseMethodDescriptor yX11_isMiss.desc).map (fun d => d.parameters.length) = some 1) := ⟨zTG_1 (i := 1) rfl rfl, zTG_4 (i := 83) rfl rfl, by decide +kernel⟩
theorem ck_RX11_222 : zCK RX11 222 yX11_isMiss cX11_isMiss 1 (some .boolean) 1 := ⟨Or.inl (zTG_4 (i := 81) rfl rfl), cw_X11_isMiss⟩
theorem cw_X1_staysInBand : Cond.initialized yX1_staysInBand.cls ∈ zTG ∧ Cond.code yX1_staysInBand cX1_staysInBand 5 (some .boolean) ∈ zTG ∧ (yX1_staysInBand.cls ≠ "java/lang/invoke/MethodHandle" ∧ yX1_staysInBand.cls ≠ "java/lang/invoke/VarHandle" ∧ (parseMethodDescriptor yX1_staysInBand.desc).map (fun d => d.parameters.length) = some 3) := ⟨zTG_1 (i := 4) rfl rfl, zTG_4 (i := 87) rfl rfl, by decide +kernel⟩
theorem ck_RX11_228 : zCK RX11 228 yX1_staysInBand cX1_staysInBand 5 (some .boolean) 3 := ⟨Or.inl (zTG_4 (i := 84) rfl rfl), cw_X1_staysInBand⟩
theorem cw_X6_find : Cond.initialized yX6_find.cls ∈ zTG ∧ Cond.code yX6_find cX6_find 5 none ∈ zTG ∧ (yX6_find.cls ≠ "java/lang/invoke/MethodHandle" ∧ yX6_find.cls ≠ "java/lang/invoke/VarHandle" ∧ (parseMethodDescriptor yX6_find.desc).map (fun d => d.parameters.length) = some 2) := ⟨zTG_1 (i := 6) rfl rfl, zTG_4 (i := 100) rfl rfl, by decide +kernel⟩
theorem ck_RX11_232 : zCK RX11 232 yX6_find cX6_find 5 none 2 := ⟨Or.inl (zTG_4 (i := 97) rfl rfl), cw_X6_find⟩
theorem cw_X6_hold : Cond.initialized yX6_hold.cls ∈ zTG ∧ Cond.code yX6_hold cX6_hold 5 (some .boolean) ∈ zTG ∧ (yX6_hold.cls ≠ "java/lang/invoke/MethodHandle" ∧ yX6_hold.cls ≠ "java/lang/invoke/VarHandle" ∧ (parseMethodDescriptor yX6_hold.desc).map (fun d => d.parameters.length) = some 2) := ⟨zTG_1 (i := 6) rfl rfl, zTG_4 (i := 123) rfl rfl, by decide +kernel⟩
theorem ck_RX11_239 : zCK RX11 239 yX6_hold cX6_hold 5 (some .boolean) 2 := ⟨Or.inl (zTG_4 (i := 120) rfl rfl), cw_X6_hold⟩
theorem cw_X2_markHoles : Cond.initialized yX2_markHoles.cls ∈ zTG ∧ Cond.code yX2_markHoles cX2_markHoles 5 (some .int) ∈ zTG ∧ (yX2_markHoles.cls ≠ "java/lang/invoke/MethodHandle" ∧ yX2_markHoles.cls ≠ "java/lang/invoke/VarHandle" ∧ (parseMethodDescriptor yX2_markHoles.desc).map (fun d => d.parameters.length) = some 1) := ⟨zTG_1 (i := 3) rfl rfl, zTG_3 (i := 192) rfl rfl, by decide +kernel⟩
theorem ck_RX11_242 : zCK RX11 242 yX2_markHoles cX2_markHoles 5 (some .int) 1 := ⟨Or.inl (zTG_3 (i := 189) rfl rfl), cw_X2_markHoles⟩
theorem cw_X2_isFilled : Cond.initialized yX2_isFilled.cls ∈ zTG ∧ Cond.code yX2_isFilled cX2_isFilled 4 (some .boolean) ∈ zTG ∧ (yX2_isFilled.cls ≠ "java/lang/invoke/MethodHandle" ∧ yX2_isFilled.cls ≠ "java/lang/invoke/VarHandle" ∧ (parseMethodDescriptor yX2_isFilled.desc).map (fun d => d.parameters.length) = some 3) := ⟨zTG_1 (i := 3) rfl rfl, zTG_4 (i := 135) rfl rfl, by decide +kernel⟩
theorem ck_RX11_251 : zCK RX11 251 yX2_isFilled cX2_isFilled 4 (some .boolean) 3 := ⟨Or.inl (zTG_4 (i := 132) rfl rfl), cw_X2_isFilled⟩
theorem cw_X9_growSquares : Cond.initialized yX9_growSquares.cls ∈ zTG ∧ Cond.code yX9_growSquares cX9_growSquares 5 none ∈ zTG ∧ (yX9_growSquares.cls ≠ "java/lang/invoke/MethodHandle" ∧ yX9_growSquares.cls ≠ "java/lang/invoke/VarHandle" ∧ (parseMethodDescriptor yX9_growSquares.desc).map (fun d => d.parameters.length) = some 1) := ⟨zTG_1 (i := 7) rfl rfl, zTG_3 (i := 231) rfl rfl, by decide +kernel⟩
theorem ck_RX11_254 : zCK RX11 254 yX9_growSquares cX9_growSquares 5 none 1 := ⟨Or.inl (zTG_4 (i := 140) rfl rfl), cw_X9_growSquares⟩
theorem cw_X9_breadthAt : Cond.initialized yX9_breadthAt.cls ∈ zTG ∧ Cond.code yX9_breadthAt cX9_breadthAt 7 (some .int) ∈ zTG ∧ (yX9_breadthAt.cls ≠ "java/lang/invoke/MethodHandle" ∧ yX9_breadthAt.cls ≠ "java/lang/invoke/VarHandle" ∧ (parseMethodDescriptor yX9_breadthAt.desc).map (fun d => d.parameters.length) = some 2) := ⟨zTG_1 (i := 7) rfl rfl, zTG_4 (i := 144) rfl rfl, by decide +kernel⟩
theorem ck_RX11_257 : zCK RX11 257 yX9_breadthAt cX9_breadthAt 7 (some .int) 2 := ⟨Or.inl (zTG_4 (i := 141) rfl rfl), cw_X9_breadthAt⟩
theorem cw_X9_isMiddle : Cond.initialized yX9_isMiddle.cls ∈ zTG ∧ Cond.code yX9_isMiddle cX9_isMiddle 7 (some .boolean) ∈ zTG ∧ (yX9_isMiddle.cls ≠ "java/lang/invoke/MethodHandle" ∧ yX9_isMiddle.cls ≠ "java/lang/invoke/VarHandle" ∧ (parseMethodDescriptor yX9_isMiddle.desc).map (fun d => d.parameters.length) = some 2) := ⟨zTG_1 (i := 7) rfl rfl, zTG_4 (i := 148) rfl rfl, by decide +kernel⟩
theorem ck_RX11_260 : zCK RX11 260 yX9_isMiddle cX9_isMiddle 7 (some .boolean) 2 := ⟨Or.inl (zTG_4 (i := 145) rfl rfl), cw_X9_isMiddle⟩
theorem cw_X9_greatestBreadth : Cond.initialized yX9_greatestBreadth.cls ∈ zTG ∧ Cond.code yX9_greatestBreadth cX9_greatestBreadth 5 (some .int) ∈ zTG ∧ (yX9_greatestBreadth.cls ≠ "java/lang/invoke/MethodHandle" ∧ yX9_greatestBreadth.cls ≠ "java/lang/invoke/VarHandle" ∧ (parseMethodDescriptor yX9_greatestBreadth.desc).map (fun d => d.parameters.length) = some 1) := ⟨zTG_1 (i := 7) rfl rfl, zTG_3 (i := 227) rfl rfl, by decide +kernel⟩
theorem ck_RX11_263 : zCK RX11 263 yX9_greatestBreadth cX9_greatestBreadth 5 (some .int) 1 := ⟨Or.inl (zTG_3 (i := 224) rfl rfl), cw_X9_greatestBreadth⟩
theorem cw_X2_width : Cond.initialized yX2_width.cls ∈ zTG ∧ Cond.code yX2_width cX2_width 2 (some .int) ∈ zTG ∧ (yX2_width.cls ≠ "java/lang/invoke/MethodHandle" ∧ yX2_width.cls ≠ "java/lang/invoke/VarHandle" ∧ (parseMethodDescriptor yX2_width.desc).map (fun d => d.parameters.length) = some 1) := ⟨zTG_1 (i := 3) rfl rfl, zTG_3 (i := 184) rfl rfl, by decide +kernel⟩
theorem ck_RX11_266 : zCK RX11 266 yX2_width cX2_width 2 (some .int) 1 := ⟨Or.inl (zTG_3 (i := 181) rfl rfl), cw_X2_width⟩
theorem cw_X2_height : Cond.initialized yX2_height.cls ∈ zTG ∧ Cond.code yX2_height cX2_height 2 (some .int) ∈ zTG ∧ (yX2_height.cls ≠ "java/lang/invoke/MethodHandle" ∧ yX2_height.cls ≠ "java/lang/invoke/VarHandle" ∧ (parseMethodDescriptor yX2_height.desc).map (fun d => d.parameters.length) = some 1) := ⟨zTG_1 (i := 3) rfl rfl, zTG_3 (i := 188) rfl rfl, by decide +kernel⟩
theorem ck_RX11_269 : zCK RX11 269 yX2_height cX2_height 2 (some .int) 1 := ⟨Or.inl (zTG_3 (i := 185) rfl rfl), cw_X2_height⟩
theorem cw_X9_areLike : Cond.initialized yX9_areLike.cls ∈ zTG ∧ Cond.code yX9_areLike cX9_areLike 4 (some .boolean) ∈ zTG ∧ (yX9_areLike.cls ≠ "java/lang/invoke/MethodHandle" ∧ yX9_areLike.cls ≠ "java/lang/invoke/VarHandle" ∧ (parseMethodDescriptor yX9_areLike.desc).map (fun d => d.parameters.length) = some 2) := ⟨zTG_1 (i := 7) rfl rfl, zTG_4 (i := 167) rfl rfl, by decide +kernel⟩
theorem ck_RX11_277 : zCK RX11 277 yX9_areLike cX9_areLike 4 (some .boolean) 2 := ⟨Or.inl (zTG_4 (i := 164) rfl rfl), cw_X9_areLike⟩
theorem cw_X9_difference : Cond.initialized yX9_difference.cls ∈ zTG ∧ Cond.code yX9_difference cX9_difference 6 (some .int) ∈ zTG ∧ (yX9_difference.cls ≠ "java/lang/invoke/MethodHandle" ∧ yX9_difference.cls ≠ "java/lang/invoke/VarHandle" ∧ (parseMethodDescriptor yX9_difference.desc).map (fun d => d.parameters.length) = some 2) := ⟨zTG_1 (i := 7) rfl rfl, zTG_4 (i := 185) rfl rfl, by decide +kernel⟩
theorem ck_RX11_280 : zCK RX11 280 yX9_difference cX9_difference 6 (some .int) 2 := ⟨Or.inl (zTG_4 (i := 182) rfl rfl), cw_X9_difference⟩
theorem cw_X9_firstLike : Cond.initialized yX9_firstLike.cls ∈ zTG ∧ Cond.code yX9_firstLike cX9_firstLike 3 (some .int) ∈ zTG ∧ (yX9_firstLike.cls ≠ "java/lang/invoke/MethodHandle" ∧ yX9_firstLike.cls ≠ "java/lang/invoke/VarHandle" ∧ (parseMethodDescriptor yX9_firstLike.desc).map (fun d => d.parameters.length) = some 1) := ⟨zTG_1 (i := 7) rfl rfl, zTG_4 (i := 193) rfl rfl, by decide +kernel⟩
theorem ck_RX11_283 : zCK RX11 283 yX9_firstLike cX9_firstLike 3 (some .int) 1 := ⟨Or.inl (zTG_4 (i := 190) rfl rfl), cw_X9_firstLike⟩
theorem cw_X4_choose : Cond.initialized yX4_choose.cls ∈ zTG ∧ Cond.code yX4_choose cX4_choose 6 (some .boolean) ∈ zTG ∧ (yX4_choose.cls ≠ "java/lang/invoke/MethodHandle" ∧ yX4_choose.cls ≠ "java/lang/invoke/VarHandle" ∧ (parseMethodDescriptor yX4_choose.desc).map (fun d => d.parameters.length) = some 1) := ⟨zTG_1 (i := 8) rfl rfl, zTG_4 (i := 202) rfl rfl, by decide +kernel⟩
theorem ck_RX11_286 : zCK RX11 286 yX4_choose cX4_choose 6 (some .boolean) 1 := ⟨Or.inl (zTG_4 (i := 199) rfl rfl), cw_X4_choose⟩
theorem cw_X4_paintDraft : Cond.initialized yX4_paintDraft.cls ∈ zTG ∧ Cond.code yX4_paintDraft cX4_paintDraft 2 none ∈ zTG ∧ (yX4_paintDraft.cls ≠ "java/lang/invoke/MethodHandle" ∧ yX4_paintDraft.cls ≠ "java/lang/invoke/VarHandle" ∧ (parseMethodDescriptor yX4_paintDraft.desc).map (fun d => d.parameters.length) = some 0) := ⟨zTG_1 (i := 8) rfl rfl, zTG_5 (i := 3) rfl rfl, by decide +kernel⟩
theorem ck_RX11_295 : zCK RX11 295 yX4_paintDraft cX4_paintDraft 2 none 0 := ⟨Or.inl (zTG_5 (i := 0) rfl rfl), cw_X4_paintDraft⟩
theorem cw_X5_collect : Cond.initialized yX5_collect.cls ∈ zTG ∧ Cond.code yX5_collect cX5_collect 3 (some .boolean) ∈ zTG ∧ (yX5_collect.cls ≠ "java/lang/invoke/MethodHandle" ∧ yX5_collect.cls ≠ "java/lang/invoke/VarHandle" ∧ (parseMethodDescriptor yX5_collect.desc).map (fun d => d.parameters.length) = some 1) := ⟨zTG_1 (i := 9) rfl rfl, zTG_5 (i := 12) rfl rfl, by decide +kernel⟩
theorem ck_RX11_297 : zCK RX11 297 yX5_collect cX5_collect 3 (some .boolean) 1 := ⟨Or.inl (zTG_5 (i := 9) rfl rfl), cw_X5_collect⟩
theorem cw_X5_plan : Cond.initialized yX5_plan.cls ∈ zTG ∧ Cond.code yX5_plan cX5_plan 5 none ∈ zTG ∧ (yX5_plan.cls ≠ "java/lang/invoke/MethodHandle" ∧ yX5_plan.cls ≠ "java/lang/invoke/VarHandle" ∧ (parseMethodDescriptor yX5_plan.desc).map (fun d => d.parameters.length) = some 0) := ⟨zTG_1 (i := 9) rfl rfl, zTG_5 (i := 17) rfl rfl, by decide +kernel⟩
theorem ck_RX11_303 : zCK RX11 303 yX5_plan cX5_plan 5 none 0 := ⟨Or.inl (zTG_5 (i := 14) rfl rfl), cw_X5_plan⟩
theorem cw_X7_read : Cond.initialized yX7_read.cls ∈ zTG ∧ Cond.code yX7_read cX7_read 4 (some .boolean) ∈ zTG ∧ (yX7_read.cls ≠ "java/lang/invoke/MethodHandle" ∧ yX7_read.cls ≠ "java/lang/invoke/VarHandle" ∧ (parseMethodDescriptor yX7_read.desc).map (fun d => d.parameters.length) = some 2) := ⟨zTG_1 (i := 11) rfl rfl, zTG_5 (i := 44) rfl rfl, by decide +kernel⟩
theorem ck_RX11_310 : zCK RX11 310 yX7_read cX7_read 4 (some .boolean) 2 := ⟨Or.inl (zTG_5 (i := 41) rfl rfl), cw_X7_read⟩
theorem cw_X8_add : Cond.initialized yX8_add.cls ∈ zTG ∧ Cond.code yX8_add cX8_add 3 (some .int) ∈ zTG ∧ (yX8_add.cls ≠ "java/lang/invoke/MethodHandle" ∧ yX8_add.cls ≠ "java/lang/invoke/VarHandle" ∧ (parseMethodDescriptor yX8_add.desc).map (fun d => d.parameters.length) = some 2) := ⟨zTG_1 (i := 10) rfl rfl, zTG_5 (i := 101) rfl rfl, by decide +kernel⟩
theorem ck_RX11_318 : zCK RX11 318 yX8_add cX8_add 3 (some .int) 2 := ⟨Or.inl (zTG_5 (i := 98) rfl rfl), cw_X8_add⟩
theorem cw_X9_countLike : Cond.initialized yX9_countLike.cls ∈ zTG ∧ Cond.code yX9_countLike cX9_countLike 4 (some .int) ∈ zTG ∧ (yX9_countLike.cls ≠ "java/lang/invoke/MethodHandle" ∧ yX9_countLike.cls ≠ "java/lang/invoke/VarHandle" ∧ (parseMethodDescriptor yX9_countLike.desc).map (fun d => d.parameters.length) = some 1) := ⟨zTG_1 (i := 7) rfl rfl, zTG_5 (i := 114) rfl rfl, by decide +kernel⟩
theorem ck_RX11_328 : zCK RX11 328 yX9_countLike cX9_countLike 4 (some .int) 1 := ⟨Or.inl (zTG_5 (i := 111) rfl rfl), cw_X9_countLike⟩
theorem cw_X3_canUndo : Cond.initialized yX3_canUndo.cls ∈ zTG ∧ Cond.code yX3_canUndo cX3_canUndo 1 (some .boolean) ∈ zTG ∧ (yX3_canUndo.cls ≠ "java/lang/invoke/MethodHandle" ∧ yX3_canUndo.cls ≠ "java/lang/invoke/VarHandle" ∧ (parseMethodDescriptor yX3_canUndo.desc).map (fun d => d.parameters.length) = some 0) := ⟨zTG_1 (i := 12) rfl rfl, zTG_5 (i := 122) rfl rfl, by decide +kernel⟩
theorem ck_RX11_338 : zCK RX11 338 yX3_canUndo cX3_canUndo 1 (some .boolean) 0 := ⟨Or.inl (zTG_5 (i := 119) rfl rfl), cw_X3_canUndo⟩
theorem cw_X3_stepBack : Cond.initialized yX3_stepBack.cls ∈ zTG ∧ Cond.code yX3_stepBack cX3_stepBack 2 (some .int) ∈ zTG ∧ (yX3_stepBack.cls ≠ "java/lang/invoke/MethodHandle" ∧ yX3_stepBack.cls ≠ "java/lang/invoke/VarHandle" ∧ (parseMethodDescriptor yX3_stepBack.desc).map (fun d => d.parameters.length) = some 1) := ⟨zTG_1 (i := 12) rfl rfl, zTG_5 (i := 126) rfl rfl, by decide +kernel⟩
theorem ck_RX11_342 : zCK RX11 342 yX3_stepBack cX3_stepBack 2 (some .int) 1 := ⟨Or.inl (zTG_5 (i := 123) rfl rfl), cw_X3_stepBack⟩
theorem cw_X3_canRedo : Cond.initialized yX3_canRedo.cls ∈ zTG ∧ Cond.code yX3_canRedo cX3_canRedo 1 (some .boolean) ∈ zTG ∧ (yX3_canRedo.cls ≠ "java/lang/invoke/MethodHandle" ∧ yX3_canRedo.cls ≠ "java/lang/invoke/VarHandle" ∧ (parseMethodDescriptor yX3_canRedo.desc).map (fun d => d.parameters.length) = some 0) := ⟨zTG_1 (i := 12) rfl rfl, zTG_5 (i := 140) rfl rfl, by decide +kernel⟩
theorem ck_RX11_346 : zCK RX11 346 yX3_canRedo cX3_canRedo 1 (some .boolean) 0 := ⟨Or.inl (zTG_5 (i := 137) rfl rfl), cw_X3_canRedo⟩
theorem cw_X3_stepForth : Cond.initialized yX3_stepForth.cls ∈ zTG ∧ Cond.code yX3_stepForth cX3_stepForth 3 (some .int) ∈ zTG ∧ (yX3_stepForth.cls ≠ "java/lang/invoke/MethodHandle" ∧ yX3_stepForth.cls ≠ "java/lang/invoke/VarHandle" ∧ (parseMethodDescriptor yX3_stepForth.desc).map (fun d => d.parameters.length) = some 1) := ⟨zTG_1 (i := 12) rfl rfl, zTG_5 (i := 144) rfl rfl, by decide +kernel⟩
theorem ck_RX11_349 : zCK RX11 349 yX3_stepForth cX3_stepForth 3 (some .int) 1 := ⟨Or.inl (zTG_5 (i := 141) rfl rfl), cw_X3_stepForth⟩
theorem cw_X0_takeFrom : Cond.initialized yX0_takeFrom.cls ∈ zTG ∧ Cond.code yX0_takeFrom cX0_takeFrom 2 none ∈ zTG ∧ (yX0_takeFrom.cls ≠ "java/lang/invoke/MethodHandle" ∧ yX0_takeFrom.cls ≠ "java/lang/invoke/VarHandle" ∧ (parseMethodDescriptor yX0_takeFrom.desc).map (fun d => d.parameters.length) = some 1) := ⟨zTG_1 (i := 2) rfl rfl, zTG_5 (i := 152) rfl rfl, by decide +kernel⟩
theorem ck_RX11_352 : zCK RX11 352 yX0_takeFrom cX0_takeFrom 2 none 1 := ⟨Or.inl (zTG_5 (i := 149) rfl rfl), cw_X0_takeFrom⟩
theorem cw_X8_takeImage : Cond.initialized yX8_takeImage.cls ∈ zTG ∧ Cond.code yX8_takeImage cX8_takeImage 2 none ∈ zTG ∧ (yX8_takeImage.cls ≠ "java/lang/invoke/MethodHandle" ∧ yX8_takeImage.cls ≠ "java/lang/invoke/VarHandle" ∧ (parseMethodDescriptor yX8_takeImage.desc).map (fun d => d.parameters.length) = some 0) := ⟨zTG_1 (i := 10) rfl rfl, zTG_5 (i := 156) rfl rfl, by decide +kernel⟩
theorem ck_RX11_355 : zCK RX11 355 yX8_takeImage cX8_takeImage 2 none 0 := ⟨Or.inl (zTG_5 (i := 153) rfl rfl), cw_X8_takeImage⟩
theorem cw_X8_bringBack : Cond.initialized yX8_bringBack.cls ∈ zTG ∧ Cond.code yX8_bringBack cX8_bringBack 2 none ∈ zTG ∧ (yX8_bringBack.cls ≠ "java/lang/invoke/MethodHandle" ∧ yX8_bringBack.cls ≠ "java/lang/invoke/VarHandle" ∧ (parseMethodDescriptor yX8_bringBack.desc).map (fun d => d.parameters.length) = some 0) := ⟨zTG_1 (i := 10) rfl rfl, zTG_5 (i := 164) rfl rfl, by decide +kernel⟩
theorem ck_RX11_358 : zCK RX11 358 yX8_bringBack cX8_bringBack 2 none 0 := ⟨Or.inl (zTG_5 (i := 161) rfl rfl), cw_X8_bringBack⟩
theorem cw_X4_countColours : Cond.initialized yX4_countColours.cls ∈ zTG ∧ Cond.code yX4_countColours cX4_countColours 4 (some .int) ∈ zTG ∧ (yX4_countColours.cls ≠ "java/lang/invoke/MethodHandle" ∧ yX4_countColours.cls ≠ "java/lang/invoke/VarHandle" ∧ (parseMethodDescriptor yX4_countColours.desc).map (fun d => d.parameters.length) = some 0) := ⟨zTG_1 (i := 8) rfl rfl, zTG_4 (i := 206) rfl rfl, by decide +kernel⟩
theorem ck_RX11_361 : zCK RX11 361 yX4_countColours cX4_countColours 4 (some .int) 0 := ⟨Or.inl (zTG_5 (i := 169) rfl rfl), cw_X4_countColours⟩
theorem cw_X9_countLeaders : Cond.initialized yX9_countLeaders.cls ∈ zTG ∧ Cond.code yX9_countLeaders cX9_countLeaders 3 (some .int) ∈ zTG ∧ (yX9_countLeaders.cls ≠ "java/lang/invoke/MethodHandle" ∧ yX9_countLeaders.cls ≠ "java/lang/invoke/VarHandle" ∧ (parseMethodDescriptor yX9_countLeaders.desc).map (fun d => d.parameters.length) = some 0) := ⟨zTG_1 (i := 7) rfl rfl, zTG_5 (i := 173) rfl rfl, by decide +kernel⟩
theorem ck_RX11_364 : zCK RX11 364 yX9_countLeaders cX9_countLeaders 3 (some .int) 0 := ⟨Or.inl (zTG_5 (i := 170) rfl rfl), cw_X9_countLeaders⟩
theorem cw_X8_countTold : Cond.initialized yX8_countTold.cls ∈ zTG ∧ Cond.code yX8_countTold cX8_countTold 3 (some .int) ∈ zTG ∧ (yX8_countTold.cls ≠ "java/lang/invoke/MethodHandle" ∧ yX8_countTold.cls ≠ "java/lang/invoke/VarHandle" ∧ (parseMethodDescriptor yX8_countTold.desc).map (fun d => d.parameters.length) = some 0) := ⟨zTG_1 (i := 10) rfl rfl, zTG_5 (i := 178) rfl rfl, by decide +kernel⟩
theorem ck_RX11_367 : zCK RX11 367 yX8_countTold cX8_countTold 3 (some .int) 0 := ⟨Or.inl (zTG_5 (i := 175) rfl rfl), cw_X8_countTold⟩
theorem cw_X0_countUnlikeSides : Cond.initialized yX0_countUnlikeSides.cls ∈ zTG ∧ Cond.code yX0_countUnlikeSides cX0_countUnlikeSides 4 (some .int) ∈ zTG ∧ (yX0_countUnlikeSides.cls ≠ "java/lang/invoke/MethodHandle" ∧ yX0_countUnlikeSides.cls ≠ "java/lang/invoke/VarHandle" ∧ (parseMethodDescriptor yX0_countUnlikeSides.desc).map (fun d => d.parameters.length) = some 0) := ⟨zTG_1 (i := 2) rfl rfl, zTG_5 (i := 182) rfl rfl, by decide +kernel⟩
theorem ck_RX11_373 : zCK RX11 373 yX0_countUnlikeSides cX0_countUnlikeSides 4 (some .int) 0 := ⟨Or.inl (zTG_5 (i := 179) rfl rfl), cw_X0_countUnlikeSides⟩
theorem cw_X10_empty : Cond.initialized yX10_empty.cls ∈ zTG ∧ Cond.code yX10_empty cX10_empty 1 none ∈ zTG ∧ (yX10_empty.cls ≠ "java/lang/invoke/MethodHandle" ∧ yX10_empty.cls ≠ "java/lang/invoke/VarHandle" ∧ (parseMethodDescriptor yX10_empty.desc).map (fun d => d.parameters.length) = some 0) := ⟨zTG_1 (i := 5) rfl rfl, zTG_5 (i := 191) rfl rfl, by decide +kernel⟩
theorem ck_RX11_376 : zCK RX11 376 yX10_empty cX10_empty 1 none 0 := ⟨Or.inl (zTG_5 (i := 188) rfl rfl), cw_X10_empty⟩
theorem cw_X10_holdPiece : Cond.initialized yX10_holdPiece.cls ∈ zTG ∧ Cond.code yX10_holdPiece cX10_holdPiece 6 none ∈ zTG ∧ (yX10_holdPiece.cls ≠ "java/lang/invoke/MethodHandle" ∧ yX10_holdPiece.cls ≠ "java/lang/invoke/VarHandle" ∧ (parseMethodDescriptor yX10_holdPiece.desc).map (fun d => d.parameters.length) = some 5) := ⟨zTG_1 (i := 5) rfl rfl, zTG_5 (i := 196) rfl rfl, by decide +kernel⟩
theorem ck_RX11_382 : zCK RX11 382 yX10_holdPiece cX10_holdPiece 6 none 5 := ⟨Or.inl (zTG_5 (i := 193) rfl rfl), cw_X10_holdPiece⟩
theorem cw_X10_holdRow : Cond.initialized yX10_holdRow.cls ∈ zTG ∧ Cond.code yX10_holdRow cX10_holdRow 3 none ∈ zTG ∧ (yX10_holdRow.cls ≠ "java/lang/invoke/MethodHandle" ∧ yX10_holdRow.cls ≠ "java/lang/invoke/VarHandle" ∧ (parseMethodDescriptor yX10_holdRow.desc).map (fun d => d.parameters.length) = some 2) := ⟨zTG_1 (i := 5) rfl rfl, zTG_5 (i := 204) rfl rfl, by decide +kernel⟩
theorem ck_RX11_386 : zCK RX11 386 yX10_holdRow cX10_holdRow 3 none 2 := ⟨Or.inl (zTG_5 (i := 201) rfl rfl), cw_X10_holdRow⟩
theorem cw_X10_set : Cond.initialized yX10_set.cls ∈ zTG ∧ Cond.code yX10_set cX10_set 3 none ∈ zTG ∧ (yX10_set.cls ≠ "java/lang/invoke/MethodHandle" ∧ yX10_set.cls ≠ "java/lang/invoke/VarHandle" ∧ (parseMethodDescriptor yX10_set.desc).map (fun d => d.parameters.length) = some 2) := ⟨zTG_1 (i := 5) rfl rfl, zTG_5 (i := 213) rfl rfl, by decide +kernel⟩
theorem ck_RX11_392 : zCK RX11 392 yX10_set cX10_set 3 none 2 := ⟨Or.inl (zTG_5 (i := 210) rfl rfl), cw_X10_set⟩
theorem cw_X10_hasPlaces : Cond.initialized yX10_hasPlaces.cls ∈ zTG ∧ Cond.code yX10_hasPlaces cX10_hasPlaces 3 (some .boolean) ∈ zTG ∧ (yX10_hasPlaces.cls ≠ "java/lang/invoke/MethodHandle" ∧ yX10_hasPlaces.cls ≠ "java/lang/invoke/VarHandle" ∧ (parseMethodDescriptor yX10_hasPlaces.desc).map (fun d => d.parameters.length) = some 2) := ⟨zTG_1 (i := 5) rfl rfl, zTG_5 (i := 221) rfl rfl, by decide +kernel⟩
theorem ck_RX11_412 : zCK RX11 412 yX10_hasPlaces cX10_hasPlaces 3 (some .boolean) 2 := ⟨Or.inl (zTG_5 (i := 218) rfl rfl), cw_X10_hasPlaces⟩
theorem cw_X11_refusalOfPiece : Cond.initialized yX11_refusalOfPiece.cls ∈ zTG ∧ Cond.code yX11_refusalOfPiece cX11_refusalOfPiece 3 (some .int) ∈ zTG ∧ (yX11_refusalOfPiece.cls ≠ "java/lang/invoke/MethodHandle" ∧ yX11_refusalOfPiece.cls ≠ "java/lang/invoke/VarHandle" ∧ (parseMethodDescriptor yX11_refusalOfPiece.desc).map (fun d => d.parameters.length) = some 1) := ⟨zTG_1 (i := 1) rfl rfl, zTG_5 (i := 230) rfl rfl, by decide +kernel⟩
theorem ck_RX11_421 : zCK RX11 421 yX11_refusalOfPiece cX11_refusalOfPiece 3 (some .int) 1 := ⟨Or.inl (zTG_5 (i := 227) rfl rfl), cw_X11_refusalOfPiece⟩
theorem cw_X10_pieceReach : Cond.initialized yX10_pieceReach.cls ∈ zTG ∧ Cond.code yX10_pieceReach cX10_pieceReach 2 (some .int) ∈ zTG ∧ (yX10_pieceReach.cls ≠ "java/lang/invoke/MethodHandle" ∧ yX10_pieceReach.cls ≠ "java/lang/invoke/VarHandle" ∧ (parseMethodDescriptor yX10_pieceReach.desc).map (fun d => d.parameters.length) = some 0) := ⟨zTG_1 (i := 5) rfl rfl, zTG_5 (i := 234) rfl rfl, by decide +kernel⟩
theorem ck_RX11_424 : zCK RX11 424 yX10_pieceReach cX10_pieceReach 2 (some .int) 0 := ⟨Or.inl (zTG_5 (i := 231) rfl rfl), cw_X10_pieceReach⟩
theorem cw_X10_pieceFailure : Cond.initialized yX10_pieceFailure.cls ∈ zTG ∧ Cond.code yX10_pieceFailure cX10_pieceFailure 1 (some .int) ∈ zTG ∧ (yX10_pieceFailure.cls ≠ "java/lang/invoke/MethodHandle" ∧ yX10_pieceFailure.cls ≠ "java/lang/invoke/VarHandle" ∧ (parseMethodDescriptor yX10_pieceFailure.desc).map (fun d => d.parameters.length) = some 0) := ⟨zTG_1 (i := 5) rfl rfl, zTG_6 (i := 6) rfl rfl, by decide +kernel⟩
theorem ck_RX11_427 : zCK RX11 427 yX10_pieceFailure cX10_pieceFailure 1 (some .int) 0 := ⟨Or.inl (zTG_6 (i := 3) rfl rfl), cw_X10_pieceFailure⟩
theorem cw_X2_has : Cond.initialized yX2_has.cls ∈ zTG ∧ Cond.code yX2_has cX2_has 2 (some .boolean) ∈ zTG ∧ (yX2_has.cls ≠ "java/lang/invoke/MethodHandle" ∧ yX2_has.cls ≠ "java/lang/invoke/VarHandle" ∧ (parseMethodDescriptor yX2_has.desc).map (fun d => d.parameters.length) = some 1) := ⟨zTG_1 (i := 3) rfl rfl, zTG_3 (i := 172) rfl rfl, by decide +kernel⟩
theorem ck_RX11_430 : zCK RX11 430 yX2_has cX2_has 2 (some .boolean) 1 := ⟨Or.inl (zTG_3 (i := 169) rfl rfl), cw_X2_has⟩
theorem cw_X2_colour : Cond.initialized yX2_colour.cls ∈ zTG ∧ Cond.code yX2_colour cX2_colour 2 (some .int) ∈ zTG ∧ (yX2_colour.cls ≠ "java/lang/invoke/MethodHandle" ∧ yX2_colour.cls ≠ "java/lang/invoke/VarHandle" ∧ (parseMethodDescriptor yX2_colour.desc).map (fun d => d.parameters.length) = some 1) := ⟨zTG_1 (i := 3) rfl rfl, zTG_3 (i := 180) rfl rfl, by decide +kernel⟩
theorem ck_RX11_433 : zCK RX11 433 yX2_colour cX2_colour 2 (some .int) 1 := ⟨Or.inl (zTG_3 (i := 177) rfl rfl), cw_X2_colour⟩
theorem cw_X2_countBeside : Cond.initialized yX2_countBeside.cls ∈ zTG ∧ Cond.code yX2_countBeside cX2_countBeside 5 (some .int) ∈ zTG ∧ (yX2_countBeside.cls ≠ "java/lang/invoke/MethodHandle" ∧ yX2_countBeside.cls ≠ "java/lang/invoke/VarHandle" ∧ (parseMethodDescriptor yX2_countBeside.desc).map (fun d => d.parameters.length) = some 1) := ⟨zTG_1 (i := 3) rfl rfl, zTG_3 (i := 206) rfl rfl, by decide +kernel⟩
theorem ck_RX11_445 : zCK RX11 445 yX2_countBeside cX2_countBeside 5 (some .int) 1 := ⟨Or.inl (zTG_3 (i := 203) rfl rfl), cw_X2_countBeside⟩
theorem cw_X2_depth : Cond.initialized yX2_depth.cls ∈ zTG ∧ Cond.code yX2_depth cX2_depth 4 (some .int) ∈ zTG ∧ (yX2_depth.cls ≠ "java/lang/invoke/MethodHandle" ∧ yX2_depth.cls ≠ "java/lang/invoke/VarHandle" ∧ (parseMethodDescriptor yX2_depth.desc).map (fun d => d.parameters.length) = some 1) := ⟨zTG_1 (i := 3) rfl rfl, zTG_3 (i := 214) rfl rfl, by decide +kernel⟩
theorem ck_RX11_448 : zCK RX11 448 yX2_depth cX2_depth 4 (some .int) 1 := ⟨Or.inl (zTG_3 (i := 211) rfl rfl), cw_X2_depth⟩
theorem cw_X0_countDraftChanges : Cond.initialized yX0_countDraftChanges.cls ∈ zTG ∧ Cond.code yX0_countDraftChanges cX0_countDraftChanges 3 (some .int) ∈ zTG ∧ (yX0_countDraftChanges.cls ≠ "java/lang/invoke/MethodHandle" ∧ yX0_countDraftChanges.cls ≠ "java/lang/invoke/VarHandle" ∧ (parseMethodDescriptor yX0_countDraftChanges.desc).map (fun d => d.parameters.length) = some 0) := ⟨zTG_1 (i := 2) rfl rfl, zTG_3 (i := 92) rfl rfl, by decide +kernel⟩
theorem ck_RX11_451 : zCK RX11 451 yX0_countDraftChanges cX0_countDraftChanges 3 (some .int) 0 := ⟨Or.inl (zTG_3 (i := 89) rfl rfl), cw_X0_countDraftChanges⟩
theorem cw_X3_remember : Cond.initialized yX3_remember.cls ∈ zTG ∧ Cond.code yX3_remember cX3_remember 2 none ∈ zTG ∧ (yX3_remember.cls ≠ "java/lang/invoke/MethodHandle" ∧ yX3_remember.cls ≠ "java/lang/invoke/VarHandle" ∧ (parseMethodDescriptor yX3_remember.desc).map (fun d => d.parameters.length) = some 1) := ⟨zTG_1 (i := 12) rfl rfl, zTG_3 (i := 96) rfl rfl, by decide +kernel⟩
theorem ck_RX11_454 : zCK RX11 454 yX3_remember cX3_remember 2 none 1 := ⟨Or.inl (zTG_3 (i := 93) rfl rfl), cw_X3_remember⟩
theorem ck_RX11_458 : zCK RX11 458 yX0_takeDraft cX0_takeDraft 1 none 0 := ⟨Or.inl (zTG_3 (i := 98) rfl rfl), cw_X0_takeDraft⟩
theorem cw_X11_refusalOfText : Cond.initialized yX11_refusalOfText.cls ∈ zTG ∧ Cond.code yX11_refusalOfText cX11_refusalOfText 3 (some .int) ∈ zTG ∧ (yX11_refusalOfText.cls ≠ "java/lang/invoke/MethodHandle" ∧ yX11_refusalOfText.cls ≠ "java/lang/invoke/VarHandle" ∧ (parseMethodDescriptor yX11_refusalOfText.desc).map (fun d => d.parameters.length) = some 1) := ⟨zTG_1 (i := 1) rfl rfl, zTG_3 (i := 15) rfl rfl, by decide +kernel⟩
theorem ck_RX11_99 : zCK RX11 99 yX11_refusalOfText cX11_refusalOfText 3 (some .int) 1 := ⟨Or.inl (zTG_3 (i := 12) rfl rfl), cw_X11_refusalOfText⟩
theorem cw_X12_in : Cond.initialized yX12_in.cls ∈ zTG ∧ Cond.code yX12_in cX12_in 6 (some .boolean) ∈ zTG ∧ (yX12_in.cls ≠ "java/lang/invoke/MethodHandle" ∧ yX12_in.cls ≠ "java/lang/invoke/VarHandle" ∧ (parseMethodDescriptor yX12_in.desc).map (fun d => d.parameters.length) = some 3) := ⟨zTG_1 (i := 13) rfl rfl, zTG_7 (i := 108) rfl rfl, by decide +kernel⟩
theorem ck_RX12_156 : zCK RX12 156 yX12_in cX12_in 6 (some .boolean) 3 := ⟨Or.inl (zTG_7 (i := 106) rfl rfl), cw_X12_in⟩
theorem cw_X12_readLine : Cond.initialized yX12_readLine.cls ∈ zTG ∧ Cond.code yX12_readLine cX12_readLine 7 none ∈ zTG ∧ (yX12_readLine.cls ≠ "java/lang/invoke/MethodHandle" ∧ yX12_readLine.cls ≠ "java/lang/invoke/VarHandle" ∧ (parseMethodDescriptor yX12_readLine.desc).map (fun d => d.parameters.length) = some 0) := ⟨zTG_1 (i := 13) rfl rfl, zTG_7 (i := 116) rfl rfl, by decide +kernel⟩
theorem ck_RX12_174 : zCK RX12 174 yX12_readLine cX12_readLine 7 none 0 := ⟨Or.inl (zTG_7 (i := 113) rfl rfl), cw_X12_readLine⟩
theorem cw_X12_here : Cond.initialized yX12_here.cls ∈ zTG ∧ Cond.code yX12_here cX12_here 1 (some .int) ∈ zTG ∧ (yX12_here.cls ≠ "java/lang/invoke/MethodHandle" ∧ yX12_here.cls ≠ "java/lang/invoke/VarHandle" ∧ (parseMethodDescriptor yX12_here.desc).map (fun d => d.parameters.length) = some 0) := ⟨zTG_1 (i := 13) rfl rfl, zTG_7 (i := 120) rfl rfl, by decide +kernel⟩
theorem ck_RX12_177 : zCK RX12 177 yX12_here cX12_here 1 (some .int) 0 := ⟨Or.inl (zTG_7 (i := 117) rfl rfl), cw_X12_here⟩
theorem cw_X12_colourOf : Cond.initialized yX12_colourOf.cls ∈ zTG ∧ Cond.code yX12_colourOf cX12_colourOf 1 (some .int) ∈ zTG ∧ (yX12_colourOf.cls ≠ "java/lang/invoke/MethodHandle" ∧ yX12_colourOf.cls ≠ "java/lang/invoke/VarHandle" ∧ (parseMethodDescriptor yX12_colourOf.desc).map (fun d => d.parameters.length) = some 1) := ⟨zTG_1 (i := 13) rfl rfl, zTG_7 (i := 123) rfl rfl, by decide +kernel⟩
theorem ck_RX12_181 : zCK RX12 181 yX12_colourOf cX12_colourOf 1 (some .int) 1 := ⟨Or.inl (zTG_7 (i := 121) rfl rfl), cw_X12_colourOf⟩
theorem cw_X12_readNumber : Cond.initialized yX12_readNumber.cls ∈ zTG ∧ Cond.code yX12_readNumber cX12_readNumber 5 (some .int) ∈ zTG ∧ (yX12_readNumber.cls ≠ "java/lang/invoke/MethodHandle" ∧ yX12_readNumber.cls ≠ "java/lang/invoke/VarHandle" ∧ (parseMethodDescriptor yX12_readNumber.desc).map (fun d => d.parameters.length) = some 1) := ⟨zTG_1 (i := 13) rfl rfl, zTG_7 (i := 131) rfl rfl, by decide +kernel⟩
theorem ck_RX12_185 : zCK RX12 185 yX12_readNumber cX12_readNumber 5 (some .int) 1 := ⟨Or.inl (zTG_7 (i := 128) rfl rfl), cw_X12_readNumber⟩
theorem cw_X12_isDigit : Cond.initialized yX12_isDigit.cls ∈ zTG ∧ Cond.code yX12_isDigit cX12_isDigit 1 (some .boolean) ∈ zTG ∧ (yX12_isDigit.cls ≠ "java/lang/invoke/MethodHandle" ∧ yX12_isDigit.cls ≠ "java/lang/invoke/VarHandle" ∧ (parseMethodDescriptor yX12_isDigit.desc).map (fun d => d.parameters.length) = some 1) := ⟨zTG_1 (i := 13) rfl rfl, zTG_7 (i := 135) rfl rfl, by decide +kernel⟩
theorem ck_RX12_190 : zCK RX12 190 yX12_isDigit cX12_isDigit 1 (some .boolean) 1 := ⟨Or.inl (zTG_7 (i := 133) rfl rfl), cw_X12_isDigit⟩
theorem cw_X12_lacks : Cond.initialized yX12_lacks.cls ∈ zTG ∧ Cond.code yX12_lacks cX12_lacks 2 (some .int) ∈ zTG ∧ (yX12_lacks.cls ≠ "java/lang/invoke/MethodHandle" ∧ yX12_lacks.cls ≠ "java/lang/invoke/VarHandle" ∧ (parseMethodDescriptor yX12_lacks.desc).map (fun d => d.parameters.length) = some 1) := ⟨zTG_1 (i := 13) rfl rfl, zTG_7 (i := 104) rfl rfl, by decide +kernel⟩
theorem ck_RX12_196 : zCK RX12 196 yX12_lacks cX12_lacks 2 (some .int) 1 := ⟨Or.inl (zTG_7 (i := 101) rfl rfl), cw_X12_lacks⟩
theorem cw_X12_pictureFault : Cond.initialized yX12_pictureFault.cls ∈ zTG ∧ Cond.code yX12_pictureFault cX12_pictureFault 3 (some .int) ∈ zTG ∧ (yX12_pictureFault.cls ≠ "java/lang/invoke/MethodHandle" ∧ yX12_pictureFault.cls ≠ "java/lang/invoke/VarHandle" ∧ (parseMethodDescriptor yX12_pictureFault.desc).map (fun d => d.parameters.length) = some 1) := ⟨zTG_1 (i := 13) rfl rfl, zTG_7 (i := 112) rfl rfl, by decide +kernel⟩
theorem ck_RX12_199 : zCK RX12 199 yX12_pictureFault cX12_pictureFault 3 (some .int) 1 := ⟨Or.inl (zTG_7 (i := 109) rfl rfl), cw_X12_pictureFault⟩
theorem cw_X12_isDot : Cond.initialized yX12_isDot.cls ∈ zTG ∧ Cond.code yX12_isDot cX12_isDot 2 (some .boolean) ∈ zTG ∧ (yX12_isDot.cls ≠ "java/lang/invoke/MethodHandle" ∧ yX12_isDot.cls ≠ "java/lang/invoke/VarHandle" ∧ (parseMethodDescriptor yX12_isDot.desc).map (fun d => d.parameters.length) = some 1) := ⟨zTG_1 (i := 13) rfl rfl, zTG_7 (i := 143) rfl rfl, by decide +kernel⟩
theorem ck_RX12_202 : zCK RX12 202 yX12_isDot cX12_isDot 2 (some .boolean) 1 := ⟨Or.inl (zTG_7 (i := 140) rfl rfl), cw_X12_isDot⟩
theorem cw_X12_swap : Cond.initialized yX12_swap.cls ∈ zTG ∧ Cond.code yX12_swap cX12_swap 5 (some .int) ∈ zTG ∧ (yX12_swap.cls ≠ "java/lang/invoke/MethodHandle" ∧ yX12_swap.cls ≠ "java/lang/invoke/VarHandle" ∧ (parseMethodDescriptor yX12_swap.desc).map (fun d => d.parameters.length) = some 1) := ⟨zTG_1 (i := 13) rfl rfl, zTG_7 (i := 155) rfl rfl, by decide +kernel⟩
theorem ck_RX12_211 : zCK RX12 211 yX12_swap cX12_swap 5 (some .int) 1 := ⟨Or.inl (zTG_7 (i := 152) rfl rfl), cw_X12_swap⟩
theorem cw_X12_copyDots : Cond.initialized yX12_copyDots.cls ∈ zTG ∧ Cond.code yX12_copyDots cX12_copyDots 2 none ∈ zTG ∧ (yX12_copyDots.cls ≠ "java/lang/invoke/MethodHandle" ∧ yX12_copyDots.cls ≠ "java/lang/invoke/VarHandle" ∧ (parseMethodDescriptor yX12_copyDots.desc).map (fun d => d.parameters.length) = some 0) := ⟨zTG_1 (i := 13) rfl rfl, zTG_7 (i := 168) rfl rfl, by decide +kernel⟩
theorem ck_RX12_216 : zCK RX12 216 yX12_copyDots cX12_copyDots 2 none 0 := ⟨Or.inl (zTG_7 (i := 165) rfl rfl), cw_X12_copyDots⟩
theorem cw_X12_change : Cond.initialized yX12_change.cls ∈ zTG ∧ Cond.code yX12_change cX12_change 3 (some .int) ∈ zTG ∧ (yX12_change.cls ≠ "java/lang/invoke/MethodHandle" ∧ yX12_change.cls ≠ "java/lang/invoke/VarHandle" ∧ (parseMethodDescriptor yX12_change.desc).map (fun d => d.parameters.length) = some 0) := ⟨zTG_1 (i := 13) rfl rfl, zTG_7 (i := 172) rfl rfl, by decide +kernel⟩
theorem ck_RX12_219 : zCK RX12 219 yX12_change cX12_change 3 (some .int) 0 := ⟨Or.inl (zTG_7 (i := 169) rfl rfl), cw_X12_change⟩
theorem cw_X12_dx : Cond.initialized yX12_dx.cls ∈ zTG ∧ Cond.code yX12_dx cX12_dx 1 (some .int) ∈ zTG ∧ (yX12_dx.cls ≠ "java/lang/invoke/MethodHandle" ∧ yX12_dx.cls ≠ "java/lang/invoke/VarHandle" ∧ (parseMethodDescriptor yX12_dx.desc).map (fun d => d.parameters.length) = some 1) := ⟨zTG_1 (i := 13) rfl rfl, zTG_7 (i := 196) rfl rfl, by decide +kernel⟩
theorem ck_RX12_227 : zCK RX12 227 yX12_dx cX12_dx 1 (some .int) 1 := ⟨Or.inl (zTG_7 (i := 194) rfl rfl), cw_X12_dx⟩
theorem cw_X12_dy : Cond.initialized yX12_dy.cls ∈ zTG ∧ Cond.code yX12_dy cX12_dy 1 (some .int) ∈ zTG ∧ (yX12_dy.cls ≠ "java/lang/invoke/MethodHandle" ∧ yX12_dy.cls ≠ "java/lang/invoke/VarHandle" ∧ (parseMethodDescriptor yX12_dy.desc).map (fun d => d.parameters.length) = some 1) := ⟨zTG_1 (i := 13) rfl rfl, zTG_7 (i := 199) rfl rfl, by decide +kernel⟩
theorem ck_RX12_230 : zCK RX12 230 yX12_dy cX12_dy 1 (some .int) 1 := ⟨Or.inl (zTG_7 (i := 197) rfl rfl), cw_X12_dy⟩
theorem cw_X12_beside : Cond.initialized yX12_beside.cls ∈ zTG ∧ Cond.code yX12_beside cX12_beside 5 (some .int) ∈ zTG ∧ (yX12_beside.cls ≠ "java/lang/invoke/MethodHandle" ∧ yX12_beside.cls ≠ "java/lang/invoke/VarHandle" ∧ (parseMethodDescriptor yX12_beside.desc).map (fun d => d.parameters.length) = some 2) := ⟨zTG_1 (i := 13) rfl rfl, zTG_7 (i := 193) rfl rfl, by decide +kernel⟩
theorem ck_RX12_236 : zCK RX12 236 yX12_beside cX12_beside 5 (some .int) 2 := ⟨Or.inl (zTG_7 (i := 190) rfl rfl), cw_X12_beside⟩
theorem cw_X12_findFaces : Cond.initialized yX12_findFaces.cls ∈ zTG ∧ Cond.code yX12_findFaces cX12_findFaces 6 none ∈ zTG ∧ (yX12_findFaces.cls ≠ "java/lang/invoke/MethodHandle" ∧ yX12_findFaces.cls ≠ "java/lang/invoke/VarHandle" ∧ (parseMethodDescriptor yX12_findFaces.desc).map (fun d => d.parameters.length) = some 0) := ⟨zTG_1 (i := 13) rfl rfl, zTG_7 (i := 189) rfl rfl, by decide +kernel⟩
theorem ck_RX12_240 : zCK RX12 240 yX12_findFaces cX12_findFaces 6 none 0 := ⟨Or.inl (zTG_7 (i := 186) rfl rfl), cw_X12_findFaces⟩
theorem cw_X12_isOf : Cond.initialized yX12_isOf.cls ∈ zTG ∧ Cond.code yX12_isOf cX12_isOf 4 (some .boolean) ∈ zTG ∧ (yX12_isOf.cls ≠ "java/lang/invoke/MethodHandle" ∧ yX12_isOf.cls ≠ "java/lang/invoke/VarHandle" ∧ (parseMethodDescriptor yX12_isOf.desc).map (fun d => d.parameters.length) = some 3) := ⟨zTG_1 (i := 13) rfl rfl, zTG_7 (i := 232) rfl rfl, by decide +kernel⟩
theorem ck_RX12_255 : zCK RX12 255 yX12_isOf cX12_isOf 4 (some .boolean) 3 := ⟨Or.inl (zTG_7 (i := 229) rfl rfl), cw_X12_isOf⟩
theorem cw_X12_isOutside : Cond.initialized yX12_isOutside.cls ∈ zTG ∧ Cond.code yX12_isOutside cX12_isOutside 3 (some .boolean) ∈ zTG ∧ (yX12_isOutside.cls ≠ "java/lang/invoke/MethodHandle" ∧ yX12_isOutside.cls ≠ "java/lang/invoke/VarHandle" ∧ (parseMethodDescriptor yX12_isOutside.desc).map (fun d => d.parameters.length) = some 2) := ⟨zTG_1 (i := 13) rfl rfl, zTG_7 (i := 228) rfl rfl, by decide +kernel⟩
theorem ck_RX12_262 : zCK RX12 262 yX12_isOutside cX12_isOutside 3 (some .boolean) 2 := ⟨Or.inl (zTG_7 (i := 225) rfl rfl), cw_X12_isOutside⟩
theorem cw_X12_partOf : Cond.initialized yX12_partOf.cls ∈ zTG ∧ Cond.code yX12_partOf cX12_partOf 2 (some .int) ∈ zTG ∧ (yX12_partOf.cls ≠ "java/lang/invoke/MethodHandle" ∧ yX12_partOf.cls ≠ "java/lang/invoke/VarHandle" ∧ (parseMethodDescriptor yX12_partOf.desc).map (fun d => d.parameters.length) = some 1) := ⟨zTG_1 (i := 13) rfl rfl, zTG_8 (i := 12) rfl rfl, by decide +kernel⟩
theorem ck_RX12_266 : zCK RX12 266 yX12_partOf cX12_partOf 2 (some .int) 1 := ⟨Or.inl (zTG_8 (i := 9) rfl rfl), cw_X12_partOf⟩
theorem cw_X12_findHoles : Cond.initialized yX12_findHoles.cls ∈ zTG ∧ Cond.code yX12_findHoles cX12_findHoles 11 none ∈ zTG ∧ (yX12_findHoles.cls ≠ "java/lang/invoke/MethodHandle" ∧ yX12_findHoles.cls ≠ "java/lang/invoke/VarHandle" ∧ (parseMethodDescriptor yX12_findHoles.desc).map (fun d => d.parameters.length) = some 1) := ⟨zTG_1 (i := 13) rfl rfl, zTG_7 (i := 224) rfl rfl, by decide +kernel⟩
theorem ck_RX12_269 : zCK RX12 269 yX12_findHoles cX12_findHoles 11 none 1 := ⟨Or.inl (zTG_7 (i := 221) rfl rfl), cw_X12_findHoles⟩
theorem cw_X12_liesIn : Cond.initialized yX12_liesIn.cls ∈ zTG ∧ Cond.code yX12_liesIn cX12_liesIn 5 (some .boolean) ∈ zTG ∧ (yX12_liesIn.cls ≠ "java/lang/invoke/MethodHandle" ∧ yX12_liesIn.cls ≠ "java/lang/invoke/VarHandle" ∧ (parseMethodDescriptor yX12_liesIn.desc).map (fun d => d.parameters.length) = some 1) := ⟨zTG_1 (i := 13) rfl rfl, zTG_8 (i := 8) rfl rfl, by decide +kernel⟩
theorem ck_RX12_273 : zCK RX12 273 yX12_liesIn cX12_liesIn 5 (some .boolean) 1 := ⟨Or.inl (zTG_8 (i := 5) rfl rfl), cw_X12_liesIn⟩
theorem cw_X12_areNeighbours : Cond.initialized yX12_areNeighbours.cls ∈ zTG ∧ Cond.code yX12_areNeighbours cX12_areNeighbours 7 (some .boolean) ∈ zTG ∧ (yX12_areNeighbours.cls ≠ "java/lang/invoke/MethodHandle" ∧ yX12_areNeighbours.cls ≠ "java/lang/invoke/VarHandle" ∧ (parseMethodDescriptor yX12_areNeighbours.desc).map (fun d => d.parameters.length) = some 2) := ⟨zTG_1 (i := 13) rfl rfl, zTG_8 (i := 0) rfl rfl, by decide +kernel⟩
theorem ck_RX12_276 : zCK RX12 276 yX12_areNeighbours cX12_areNeighbours 7 (some .boolean) 2 := ⟨Or.inl (zTG_7 (i := 237) rfl rfl), cw_X12_areNeighbours⟩
theorem cw_X12_sizeOf : Cond.initialized yX12_sizeOf.cls ∈ zTG ∧ Cond.code yX12_sizeOf cX12_sizeOf 4 (some .int) ∈ zTG ∧ (yX12_sizeOf.cls ≠ "java/lang/invoke/MethodHandle" ∧ yX12_sizeOf.cls ≠ "java/lang/invoke/VarHandle" ∧ (parseMethodDescriptor yX12_sizeOf.desc).map (fun d => d.parameters.length) = some 1) := ⟨zTG_1 (i := 13) rfl rfl, zTG_7 (i := 216) rfl rfl, by decide +kernel⟩
theorem ck_RX12_279 : zCK RX12 279 yX12_sizeOf cX12_sizeOf 4 (some .int) 1 := ⟨Or.inl (zTG_7 (i := 213) rfl rfl), cw_X12_sizeOf⟩
theorem cw_X12_findBox : Cond.initialized yX12_findBox.cls ∈ zTG ∧ Cond.code yX12_findBox cX12_findBox 5 none ∈ zTG ∧ (yX12_findBox.cls ≠ "java/lang/invoke/MethodHandle" ∧ yX12_findBox.cls ≠ "java/lang/invoke/VarHandle" ∧ (parseMethodDescriptor yX12_findBox.desc).map (fun d => d.parameters.length) = some 1) := ⟨zTG_1 (i := 13) rfl rfl, zTG_7 (i := 220) rfl rfl, by decide +kernel⟩
theorem ck_RX12_282 : zCK RX12 282 yX12_findBox cX12_findBox 5 none 1 := ⟨Or.inl (zTG_7 (i := 217) rfl rfl), cw_X12_findBox⟩
theorem cw_X12_neighboursOf : Cond.initialized yX12_neighboursOf.cls ∈ zTG ∧ Cond.code yX12_neighboursOf cX12_neighboursOf 4 (some .int) ∈ zTG ∧ (yX12_neighboursOf.cls ≠ "java/lang/invoke/MethodHandle" ∧ yX12_neighboursOf.cls ≠ "java/lang/invoke/VarHandle" ∧ (parseMethodDescriptor yX12_neighboursOf.desc).map (fun d => d.parameters.length) = some 1) := ⟨zTG_1 (i := 13) rfl rfl, zTG_7 (i := 236) rfl rfl, by decide +kernel⟩
theorem ck_RX12_285 : zCK RX12 285 yX12_neighboursOf cX12_neighboursOf 4 (some .int) 1 := ⟨Or.inl (zTG_7 (i := 233) rfl rfl), cw_X12_neighboursOf⟩
theorem cw_X12_depthOf : Cond.initialized yX12_depthOf.cls ∈ zTG ∧ Cond.code yX12_depthOf cX12_depthOf 4 (some .int) ∈ zTG ∧ (yX12_depthOf.cls ≠ "java/lang/invoke/MethodHandle" ∧ yX12_depthOf.cls ≠ "java/lang/invoke/VarHandle" ∧ (parseMethodDescriptor yX12_depthOf.desc).map (fun d => d.parameters.length) = some 1) := ⟨zTG_1 (i := 13) rfl rfl, zTG_8 (i := 4) rfl rfl, by decide +kernel⟩
theorem ck_RX12_288 : zCK RX12 288 yX12_depthOf cX12_depthOf 4 (some .int) 1 := ⟨Or.inl (zTG_8 (i := 1) rfl rfl), cw_X12_depthOf⟩
theorem cw_X12_greatestOf : Cond.initialized yX12_greatestOf.cls ∈ zTG ∧ Cond.code yX12_greatestOf cX12_greatestOf 6 (some .int) ∈ zTG ∧ (yX12_greatestOf.cls ≠ "java/lang/invoke/MethodHandle" ∧ yX12_greatestOf.cls ≠ "java/lang/invoke/VarHandle" ∧ (parseMethodDescriptor yX12_greatestOf.desc).map (fun d => d.parameters.length) = some 1) := ⟨zTG_1 (i := 13) rfl rfl, zTG_8 (i := 16) rfl rfl, by decide +kernel⟩
theorem ck_RX12_291 : zCK RX12 291 yX12_greatestOf cX12_greatestOf 6 (some .int) 1 := ⟨Or.inl (zTG_8 (i := 13) rfl rfl), cw_X12_greatestOf⟩
theorem cw_X12_findBorder : Cond.initialized yX12_findBorder.cls ∈ zTG ∧ Cond.code yX12_findBorder cX12_findBorder 8 none ∈ zTG ∧ (yX12_findBorder.cls ≠ "java/lang/invoke/MethodHandle" ∧ yX12_findBorder.cls ≠ "java/lang/invoke/VarHandle" ∧ (parseMethodDescriptor yX12_findBorder.desc).map (fun d => d.parameters.length) = some 1) := ⟨zTG_1 (i := 13) rfl rfl, zTG_8 (i := 24) rfl rfl, by decide +kernel⟩
theorem ck_RX12_294 : zCK RX12 294 yX12_findBorder cX12_findBorder 8 none 1 := ⟨Or.inl (zTG_8 (i := 21) rfl rfl), cw_X12_findBorder⟩
theorem cw_X12_isFace : Cond.initialized yX12_isFace.cls ∈ zTG ∧ Cond.code yX12_isFace cX12_isFace 2 (some .boolean) ∈ zTG ∧ (yX12_isFace.cls ≠ "java/lang/invoke/MethodHandle" ∧ yX12_isFace.cls ≠ "java/lang/invoke/VarHandle" ∧ (parseMethodDescriptor yX12_isFace.desc).map (fun d => d.parameters.length) = some 1) := ⟨zTG_1 (i := 13) rfl rfl, zTG_7 (i := 207) rfl rfl, by decide +kernel⟩
theorem ck_RX12_300 : zCK RX12 300 yX12_isFace cX12_isFace 2 (some .boolean) 1 := ⟨Or.inl (zTG_7 (i := 204) rfl rfl), cw_X12_isFace⟩
theorem cw_X12_fieldOf : Cond.initialized yX12_fieldOf.cls ∈ zTG ∧ Cond.code yX12_fieldOf cX12_fieldOf 3 (some .int) ∈ zTG ∧ (yX12_fieldOf.cls ≠ "java/lang/invoke/MethodHandle" ∧ yX12_fieldOf.cls ≠ "java/lang/invoke/VarHandle" ∧ (parseMethodDescriptor yX12_fieldOf.desc).map (fun d => d.parameters.length) = some 2) := ⟨zTG_1 (i := 13) rfl rfl, zTG_7 (i := 212) rfl rfl, by decide +kernel⟩
theorem ck_RX12_305 : zCK RX12 305 yX12_fieldOf cX12_fieldOf 3 (some .int) 2 := ⟨Or.inl (zTG_7 (i := 209) rfl rfl), cw_X12_fieldOf⟩
theorem cw_X12_mostBeside : Cond.initialized yX12_mostBeside.cls ∈ zTG ∧ Cond.code yX12_mostBeside cX12_mostBeside 9 (some .int) ∈ zTG ∧ (yX12_mostBeside.cls ≠ "java/lang/invoke/MethodHandle" ∧ yX12_mostBeside.cls ≠ "java/lang/invoke/VarHandle" ∧ (parseMethodDescriptor yX12_mostBeside.desc).map (fun d => d.parameters.length) = some 1) := ⟨zTG_1 (i := 13) rfl rfl, zTG_8 (i := 41) rfl rfl, by decide +kernel⟩
theorem ck_RX12_310 : zCK RX12 310 yX12_mostBeside cX12_mostBeside 9 (some .int) 1 := ⟨Or.inl (zTG_8 (i := 38) rfl rfl), cw_X12_mostBeside⟩
theorem cw_X12_isEdge : Cond.initialized yX12_isEdge.cls ∈ zTG ∧ Cond.code yX12_isEdge cX12_isEdge 9 (some .boolean) ∈ zTG ∧ (yX12_isEdge.cls ≠ "java/lang/invoke/MethodHandle" ∧ yX12_isEdge.cls ≠ "java/lang/invoke/VarHandle" ∧ (parseMethodDescriptor yX12_isEdge.desc).map (fun d => d.parameters.length) = some 4) := ⟨zTG_1 (i := 13) rfl rfl, zTG_8 (i := 28) rfl rfl, by decide +kernel⟩
theorem ck_RX12_313 : zCK RX12 313 yX12_isEdge cX12_isEdge 9 (some .boolean) 4 := ⟨Or.inl (zTG_8 (i := 25) rfl rfl), cw_X12_isEdge⟩
theorem cw_X12_turnAt : Cond.initialized yX12_turnAt.cls ∈ zTG ∧ Cond.code yX12_turnAt cX12_turnAt 3 (some .int) ∈ zTG ∧ (yX12_turnAt.cls ≠ "java/lang/invoke/MethodHandle" ∧ yX12_turnAt.cls ≠ "java/lang/invoke/VarHandle" ∧ (parseMethodDescriptor yX12_turnAt.desc).map (fun d => d.parameters.length) = some 1) := ⟨zTG_1 (i := 13) rfl rfl, zTG_8 (i := 50) rfl rfl, by decide +kernel⟩
theorem ck_RX12_319 : zCK RX12 319 yX12_turnAt cX12_turnAt 3 (some .int) 1 := ⟨Or.inl (zTG_8 (i := 47) rfl rfl), cw_X12_turnAt⟩
theorem cw_X12_costOf : Cond.initialized yX12_costOf.cls ∈ zTG ∧ Cond.code yX12_costOf cX12_costOf 5 (some .int) ∈ zTG ∧ (yX12_costOf.cls ≠ "java/lang/invoke/MethodHandle" ∧ yX12_costOf.cls ≠ "java/lang/invoke/VarHandle" ∧ (parseMethodDescriptor yX12_costOf.desc).map (fun d => d.parameters.length) = some 4) := ⟨zTG_1 (i := 13) rfl rfl, zTG_8 (i := 72) rfl rfl, by decide +kernel⟩
theorem ck_RX12_326 : zCK RX12 326 yX12_costOf cX12_costOf 5 (some .int) 4 := ⟨Or.inl (zTG_8 (i := 69) rfl rfl), cw_X12_costOf⟩
theorem cw_X12_findTurns : Cond.initialized yX12_findTurns.cls ∈ zTG ∧ Cond.code yX12_findTurns cX12_findTurns 2 none ∈ zTG ∧ (yX12_findTurns.cls ≠ "java/lang/invoke/MethodHandle" ∧ yX12_findTurns.cls ≠ "java/lang/invoke/VarHandle" ∧ (parseMethodDescriptor yX12_findTurns.desc).map (fun d => d.parameters.length) = some 0) := ⟨zTG_1 (i := 13) rfl rfl, zTG_8 (i := 63) rfl rfl, by decide +kernel⟩
theorem ck_RX12_330 : zCK RX12 330 yX12_findTurns cX12_findTurns 2 none 0 := ⟨Or.inl (zTG_8 (i := 60) rfl rfl), cw_X12_findTurns⟩
theorem cw_X12_findLeast : Cond.initialized yX12_findLeast.cls ∈ zTG ∧ Cond.code yX12_findLeast cX12_findLeast 9 none ∈ zTG ∧ (yX12_findLeast.cls ≠ "java/lang/invoke/MethodHandle" ∧ yX12_findLeast.cls ≠ "java/lang/invoke/VarHandle" ∧ (parseMethodDescriptor yX12_findLeast.desc).map (fun d => d.parameters.length) = some 2) := ⟨zTG_1 (i := 13) rfl rfl, zTG_8 (i := 67) rfl rfl, by decide +kernel⟩
theorem ck_RX12_333 : zCK RX12 333 yX12_findLeast cX12_findLeast 9 none 2 := ⟨Or.inl (zTG_8 (i := 64) rfl rfl), cw_X12_findLeast⟩
theorem cw_X12_findCorners : Cond.initialized yX12_findCorners.cls ∈ zTG ∧ Cond.code yX12_findCorners cX12_findCorners 7 (some .int) ∈ zTG ∧ (yX12_findCorners.cls ≠ "java/lang/invoke/MethodHandle" ∧ yX12_findCorners.cls ≠ "java/lang/invoke/VarHandle" ∧ (parseMethodDescriptor yX12_findCorners.desc).map (fun d => d.parameters.length) = some 1) := ⟨zTG_1 (i := 13) rfl rfl, zTG_8 (i := 59) rfl rfl, by decide +kernel⟩
theorem ck_RX12_339 : zCK RX12 339 yX12_findCorners cX12_findCorners 7 (some .int) 1 := ⟨Or.inl (zTG_8 (i := 56) rfl rfl), cw_X12_findCorners⟩
theorem cw_X12_isNear : Cond.initialized yX12_isNear.cls ∈ zTG ∧ Cond.code yX12_isNear cX12_isNear 13 (some .boolean) ∈ zTG ∧ (yX12_isNear.cls ≠ "java/lang/invoke/MethodHandle" ∧ yX12_isNear.cls ≠ "java/lang/invoke/VarHandle" ∧ (parseMethodDescriptor yX12_isNear.desc).map (fun d => d.parameters.length) = some 5) := ⟨zTG_1 (i := 13) rfl rfl, zTG_8 (i := 92) rfl rfl, by decide +kernel⟩
theorem ck_RX12_344 : zCK RX12 344 yX12_isNear cX12_isNear 13 (some .boolean) 5 := ⟨Or.inl (zTG_8 (i := 90) rfl rfl), cw_X12_isNear⟩
theorem cw_X12_isBorder : Cond.initialized yX12_isBorder.cls ∈ zTG ∧ Cond.code yX12_isBorder cX12_isBorder 3 (some .boolean) ∈ zTG ∧ (yX12_isBorder.cls ≠ "java/lang/invoke/MethodHandle" ∧ yX12_isBorder.cls ≠ "java/lang/invoke/VarHandle" ∧ (parseMethodDescriptor yX12_isBorder.desc).map (fun d => d.parameters.length) = some 2) := ⟨zTG_1 (i := 13) rfl rfl, zTG_8 (i := 84) rfl rfl, by decide +kernel⟩
theorem ck_RX12_350 : zCK RX12 350 yX12_isBorder cX12_isBorder 3 (some .boolean) 2 := ⟨Or.inl (zTG_8 (i := 81) rfl rfl), cw_X12_isBorder⟩
theorem cw_X12_isStraight : Cond.initialized yX12_isStraight.cls ∈ zTG ∧ Cond.code yX12_isStraight cX12_isStraight 6 (some .boolean) ∈ zTG ∧ (yX12_isStraight.cls ≠ "java/lang/invoke/MethodHandle" ∧ yX12_isStraight.cls ≠ "java/lang/invoke/VarHandle" ∧ (parseMethodDescriptor yX12_isStraight.desc).map (fun d => d.parameters.length) = some 3) := ⟨zTG_1 (i := 13) rfl rfl, zTG_8 (i := 89) rfl rfl, by decide +kernel⟩
theorem ck_RX12_353 : zCK RX12 353 yX12_isStraight cX12_isStraight 6 (some .boolean) 3 := ⟨Or.inl (zTG_8 (i := 86) rfl rfl), cw_X12_isStraight⟩
theorem cw_X12_findPieces : Cond.initialized yX12_findPieces.cls ∈ zTG ∧ Cond.code yX12_findPieces cX12_findPieces 8 none ∈ zTG ∧ (yX12_findPieces.cls ≠ "java/lang/invoke/MethodHandle" ∧ yX12_findPieces.cls ≠ "java/lang/invoke/VarHandle" ∧ (parseMethodDescriptor yX12_findPieces.desc).map (fun d => d.parameters.length) = some 1) := ⟨zTG_1 (i := 13) rfl rfl, zTG_8 (i := 101) rfl rfl, by decide +kernel⟩
theorem ck_RX12_359 : zCK RX12 359 yX12_findPieces cX12_findPieces 8 none 1 := ⟨Or.inl (zTG_8 (i := 98) rfl rfl), cw_X12_findPieces⟩
theorem cw_X12_isDrawn : Cond.initialized yX12_isDrawn.cls ∈ zTG ∧ Cond.code yX12_isDrawn cX12_isDrawn 16 (some .boolean) ∈ zTG ∧ (yX12_isDrawn.cls ≠ "java/lang/invoke/MethodHandle" ∧ yX12_isDrawn.cls ≠ "java/lang/invoke/VarHandle" ∧ (parseMethodDescriptor yX12_isDrawn.desc).map (fun d => d.parameters.length) = some 2) := ⟨zTG_1 (i := 13) rfl rfl, zTG_8 (i := 109) rfl rfl, by decide +kernel⟩
theorem ck_RX12_364 : zCK RX12 364 yX12_isDrawn cX12_isDrawn 16 (some .boolean) 2 := ⟨Or.inl (zTG_8 (i := 106) rfl rfl), cw_X12_isDrawn⟩
theorem cw_X12_isSquare : Cond.initialized yX12_isSquare.cls ∈ zTG ∧ Cond.code yX12_isSquare cX12_isSquare 8 (some .boolean) ∈ zTG ∧ (yX12_isSquare.cls ≠ "java/lang/invoke/MethodHandle" ∧ yX12_isSquare.cls ≠ "java/lang/invoke/VarHandle" ∧ (parseMethodDescriptor yX12_isSquare.desc).map (fun d => d.parameters.length) = some 4) := ⟨zTG_1 (i := 13) rfl rfl, zTG_8 (i := 20) rfl rfl, by decide +kernel⟩
theorem ck_RX12_367 : zCK RX12 367 yX12_isSquare cX12_isSquare 8 (some .boolean) 4 := ⟨Or.inl (zTG_8 (i := 17) rfl rfl), cw_X12_isSquare⟩
theorem cw_X12_breadthOf : Cond.initialized yX12_breadthOf.cls ∈ zTG ∧ Cond.code yX12_breadthOf cX12_breadthOf 9 (some .int) ∈ zTG ∧ (yX12_breadthOf.cls ≠ "java/lang/invoke/MethodHandle" ∧ yX12_breadthOf.cls ≠ "java/lang/invoke/VarHandle" ∧ (parseMethodDescriptor yX12_breadthOf.desc).map (fun d => d.parameters.length) = some 3) := ⟨zTG_1 (i := 13) rfl rfl, zTG_8 (i := 122) rfl rfl, by decide +kernel⟩
theorem ck_RX12_370 : zCK RX12 370 yX12_breadthOf cX12_breadthOf 9 (some .int) 3 := ⟨Or.inl (zTG_8 (i := 119) rfl rfl), cw_X12_breadthOf⟩
theorem cw_X12_radiusOf : Cond.initialized yX12_radiusOf.cls ∈ zTG ∧ Cond.code yX12_radiusOf cX12_radiusOf 5 (some .int) ∈ zTG ∧ (yX12_radiusOf.cls ≠ "java/lang/invoke/MethodHandle" ∧ yX12_radiusOf.cls ≠ "java/lang/invoke/VarHandle" ∧ (parseMethodDescriptor yX12_radiusOf.desc).map (fun d => d.parameters.length) = some 3) := ⟨zTG_1 (i := 13) rfl rfl, zTG_8 (i := 126) rfl rfl, by decide +kernel⟩
theorem ck_RX12_374 : zCK RX12 374 yX12_radiusOf cX12_radiusOf 5 (some .int) 3 := ⟨Or.inl (zTG_8 (i := 123) rfl rfl), cw_X12_radiusOf⟩
theorem cw_X12_liesOn : Cond.initialized yX12_liesOn.cls ∈ zTG ∧ Cond.code yX12_liesOn cX12_liesOn 14 (some .boolean) ∈ zTG ∧ (yX12_liesOn.cls ≠ "java/lang/invoke/MethodHandle" ∧ yX12_liesOn.cls ≠ "java/lang/invoke/VarHandle" ∧ (parseMethodDescriptor yX12_liesOn.desc).map (fun d => d.parameters.length) = some 3) := ⟨zTG_1 (i := 13) rfl rfl, zTG_8 (i := 143) rfl rfl, by decide +kernel⟩
theorem ck_RX12_379 : zCK RX12 379 yX12_liesOn cX12_liesOn 14 (some .boolean) 3 := ⟨Or.inl (zTG_8 (i := 140) rfl rfl), cw_X12_liesOn⟩
theorem cw_X12_areLike : Cond.initialized yX12_areLike.cls ∈ zTG ∧ Cond.code yX12_areLike cX12_areLike 6 (some .boolean) ∈ zTG ∧ (yX12_areLike.cls ≠ "java/lang/invoke/MethodHandle" ∧ yX12_areLike.cls ≠ "java/lang/invoke/VarHandle" ∧ (parseMethodDescriptor yX12_areLike.desc).map (fun d => d.parameters.length) = some 2) := ⟨zTG_1 (i := 13) rfl rfl, zTG_8 (i := 139) rfl rfl, by decide +kernel⟩
theorem ck_RX12_382 : zCK RX12 382 yX12_areLike cX12_areLike 6 (some .boolean) 2 := ⟨Or.inl (zTG_8 (i := 136) rfl rfl), cw_X12_areLike⟩
theorem cw_X12_leaderOf : Cond.initialized yX12_leaderOf.cls ∈ zTG ∧ Cond.code yX12_leaderOf cX12_leaderOf 3 (some .int) ∈ zTG ∧ (yX12_leaderOf.cls ≠ "java/lang/invoke/MethodHandle" ∧ yX12_leaderOf.cls ≠ "java/lang/invoke/VarHandle" ∧ (parseMethodDescriptor yX12_leaderOf.desc).map (fun d => d.parameters.length) = some 1) := ⟨zTG_1 (i := 13) rfl rfl, zTG_8 (i := 155) rfl rfl, by decide +kernel⟩
theorem ck_RX12_385 : zCK RX12 385 yX12_leaderOf cX12_leaderOf 3 (some .int) 1 := ⟨Or.inl (zTG_8 (i := 152) rfl rfl), cw_X12_leaderOf⟩
theorem cw_X12_square : Cond.initialized yX12_square.cls ∈ zTG ∧ Cond.code yX12_square cX12_square 1 (some .int) ∈ zTG ∧ (yX12_square.cls ≠ "java/lang/invoke/MethodHandle" ∧ yX12_square.cls ≠ "java/lang/invoke/VarHandle" ∧ (parseMethodDescriptor yX12_square.desc).map (fun d => d.parameters.length) = some 1) := ⟨zTG_1 (i := 13) rfl rfl, zTG_8 (i := 179) rfl rfl, by decide +kernel⟩
theorem ck_RX12_388 : zCK RX12 388 yX12_square cX12_square 1 (some .int) 1 := ⟨Or.inl (zTG_8 (i := 177) rfl rfl), cw_X12_square⟩
theorem cw_X12_findColours : Cond.initialized yX12_findColours.cls ∈ zTG ∧ Cond.code yX12_findColours cX12_findColours 3 (some .int) ∈ zTG ∧ (yX12_findColours.cls ≠ "java/lang/invoke/MethodHandle" ∧ yX12_findColours.cls ≠ "java/lang/invoke/VarHandle" ∧ (parseMethodDescriptor yX12_findColours.desc).map (fun d => d.parameters.length) = some 0) := ⟨zTG_1 (i := 13) rfl rfl, zTG_8 (i := 168) rfl rfl, by decide +kernel⟩
theorem ck_RX12_391 : zCK RX12 391 yX12_findColours cX12_findColours 3 (some .int) 0 := ⟨Or.inl (zTG_8 (i := 165) rfl rfl), cw_X12_findColours⟩
theorem cw_X12_ones : Cond.initialized yX12_ones.cls ∈ zTG ∧ Cond.code yX12_ones cX12_ones 3 (some .int) ∈ zTG ∧ (yX12_ones.cls ≠ "java/lang/invoke/MethodHandle" ∧ yX12_ones.cls ≠ "java/lang/invoke/VarHandle" ∧ (parseMethodDescriptor yX12_ones.desc).map (fun d => d.parameters.length) = some 1) := ⟨zTG_1 (i := 13) rfl rfl, zTG_8 (i := 171) rfl rfl, by decide +kernel⟩
theorem ck_RX12_394 : zCK RX12 394 yX12_ones cX12_ones 3 (some .int) 1 := ⟨Or.inl (zTG_8 (i := 169) rfl rfl), cw_X12_ones⟩
theorem cw_X12_nearestOf : Cond.initialized yX12_nearestOf.cls ∈ zTG ∧ Cond.code yX12_nearestOf cX12_nearestOf 6 (some .int) ∈ zTG ∧ (yX12_nearestOf.cls ≠ "java/lang/invoke/MethodHandle" ∧ yX12_nearestOf.cls ≠ "java/lang/invoke/VarHandle" ∧ (parseMethodDescriptor yX12_nearestOf.desc).map (fun d => d.parameters.length) = some 2) := ⟨zTG_1 (i := 13) rfl rfl, zTG_8 (i := 176) rfl rfl, by decide +kernel⟩
theorem ck_RX12_401 : zCK RX12 401 yX12_nearestOf cX12_nearestOf 6 (some .int) 2 := ⟨Or.inl (zTG_8 (i := 173) rfl rfl), cw_X12_nearestOf⟩
theorem cw_X12_findFew : Cond.initialized yX12_findFew.cls ∈ zTG ∧ Cond.code yX12_findFew cX12_findFew 6 (some .boolean) ∈ zTG ∧ (yX12_findFew.cls ≠ "java/lang/invoke/MethodHandle" ∧ yX12_findFew.cls ≠ "java/lang/invoke/VarHandle" ∧ (parseMethodDescriptor yX12_findFew.desc).map (fun d => d.parameters.length) = some 1) := ⟨zTG_1 (i := 13) rfl rfl, zTG_8 (i := 164) rfl rfl, by decide +kernel⟩
theorem ck_RX12_409 : zCK RX12 409 yX12_findFew cX12_findFew 6 (some .boolean) 1 := ⟨Or.inl (zTG_8 (i := 161) rfl rfl), cw_X12_findFew⟩
theorem cw_X12_moveTo : Cond.initialized yX12_moveTo.cls ∈ zTG ∧ Cond.code yX12_moveTo cX12_moveTo 6 (some .int) ∈ zTG ∧ (yX12_moveTo.cls ≠ "java/lang/invoke/MethodHandle" ∧ yX12_moveTo.cls ≠ "java/lang/invoke/VarHandle" ∧ (parseMethodDescriptor yX12_moveTo.desc).map (fun d => d.parameters.length) = some 3) := ⟨zTG_1 (i := 13) rfl rfl, zTG_8 (i := 197) rfl rfl, by decide +kernel⟩
theorem ck_RX12_415 : zCK RX12 415 yX12_moveTo cX12_moveTo 6 (some .int) 3 := ⟨Or.inl (zTG_8 (i := 194) rfl rfl), cw_X12_moveTo⟩
theorem cw_X12_findPen : Cond.initialized yX12_findPen.cls ∈ zTG ∧ Cond.code yX12_findPen cX12_findPen 10 (some .int) ∈ zTG ∧ (yX12_findPen.cls ≠ "java/lang/invoke/MethodHandle" ∧ yX12_findPen.cls ≠ "java/lang/invoke/VarHandle" ∧ (parseMethodDescriptor yX12_findPen.desc).map (fun d => d.parameters.length) = some 0) := ⟨zTG_1 (i := 13) rfl rfl, zTG_8 (i := 193) rfl rfl, by decide +kernel⟩
theorem ck_RX12_422 : zCK RX12 422 yX12_findPen cX12_findPen 10 (some .int) 0 := ⟨Or.inl (zTG_8 (i := 190) rfl rfl), cw_X12_findPen⟩
theorem cw_X12_look : Cond.initialized yX12_look.cls ∈ zTG ∧ Cond.code yX12_look cX12_look 1 (some .int) ∈ zTG ∧ (yX12_look.cls ≠ "java/lang/invoke/MethodHandle" ∧ yX12_look.cls ≠ "java/lang/invoke/VarHandle" ∧ (parseMethodDescriptor yX12_look.desc).map (fun d => d.parameters.length) = some 0) := ⟨zTG_1 (i := 13) rfl rfl, zTG_8 (i := 213) rfl rfl, by decide +kernel⟩
theorem ck_RX12_431 : zCK RX12 431 yX12_look cX12_look 1 (some .int) 0 := ⟨Or.inl (zTG_8 (i := 210) rfl rfl), cw_X12_look⟩
theorem cw_X12_letterOf : Cond.initialized yX12_letterOf.cls ∈ zTG ∧ Cond.code yX12_letterOf cX12_letterOf 1 (some .int) ∈ zTG ∧ (yX12_letterOf.cls ≠ "java/lang/invoke/MethodHandle" ∧ yX12_letterOf.cls ≠ "java/lang/invoke/VarHandle" ∧ (parseMethodDescriptor yX12_letterOf.desc).map (fun d => d.parameters.length) = some 1) := ⟨zTG_1 (i := 13) rfl rfl, zTG_8 (i := 230) rfl rfl, by decide +kernel⟩
theorem ck_RX12_434 : zCK RX12 434 yX12_letterOf cX12_letterOf 1 (some .int) 1 := ⟨Or.inl (zTG_8 (i := 228) rfl rfl), cw_X12_letterOf⟩
theorem cw_X12_worth : Cond.initialized yX12_worth.cls ∈ zTG ∧ Cond.code yX12_worth cX12_worth 4 (some .int) ∈ zTG ∧ (yX12_worth.cls ≠ "java/lang/invoke/MethodHandle" ∧ yX12_worth.cls ≠ "java/lang/invoke/VarHandle" ∧ (parseMethodDescriptor yX12_worth.desc).map (fun d => d.parameters.length) = some 1) := ⟨zTG_1 (i := 13) rfl rfl, zTG_8 (i := 234) rfl rfl, by decide +kernel⟩
theorem ck_RX12_437 : zCK RX12 437 yX12_worth cX12_worth 4 (some .int) 1 := ⟨Or.inl (zTG_8 (i := 231) rfl rfl), cw_X12_worth⟩
theorem cw_X12_readAtom : Cond.initialized yX12_readAtom.cls ∈ zTG ∧ Cond.code yX12_readAtom cX12_readAtom 4 (some .int) ∈ zTG ∧ (yX12_readAtom.cls ≠ "java/lang/invoke/MethodHandle" ∧ yX12_readAtom.cls ≠ "java/lang/invoke/VarHandle" ∧ (parseMethodDescriptor yX12_readAtom.desc).map (fun d => d.parameters.length) = some 0) := ⟨zTG_1 (i := 13) rfl rfl, zTG_8 (i := 227) rfl rfl, by decide +kernel⟩
theorem ck_RX12_440 : zCK RX12 440 yX12_readAtom cX12_readAtom 4 (some .int) 0 := ⟨Or.inl (zTG_8 (i := 224) rfl rfl), cw_X12_readAtom⟩
theorem cw_X12_readSum : Cond.initialized yX12_readSum.cls ∈ zTG ∧ Cond.code yX12_readSum cX12_readSum 4 (some .int) ∈ zTG ∧ (yX12_readSum.cls ≠ "java/lang/invoke/MethodHandle" ∧ yX12_readSum.cls ≠ "java/lang/invoke/VarHandle" ∧ (parseMethodDescriptor yX12_readSum.desc).map (fun d => d.parameters.length) = some 0) := ⟨zTG_1 (i := 13) rfl rfl, zTG_8 (i := 223) rfl rfl, by decide +kernel⟩
theorem ck_RX12_443 : zCK RX12 443 yX12_readSum cX12_readSum 4 (some .int) 0 := ⟨Or.inl (zTG_8 (i := 220) rfl rfl), cw_X12_readSum⟩
theorem cw_X12_topSign : Cond.initialized yX12_topSign.cls ∈ zTG ∧ Cond.code yX12_topSign cX12_topSign 1 (some .int) ∈ zTG ∧ (yX12_topSign.cls ≠ "java/lang/invoke/MethodHandle" ∧ yX12_topSign.cls ≠ "java/lang/invoke/VarHandle" ∧ (parseMethodDescriptor yX12_topSign.desc).map (fun d => d.parameters.length) = some 0) := ⟨zTG_1 (i := 13) rfl rfl, zTG_9 (i := 2) rfl rfl, by decide +kernel⟩
theorem ck_RX12_449 : zCK RX12 449 yX12_topSign cX12_topSign 1 (some .int) 0 := ⟨Or.inl (zTG_8 (i := 239) rfl rfl), cw_X12_topSign⟩
theorem cw_X12_readTest : Cond.initialized yX12_readTest.cls ∈ zTG ∧ Cond.code yX12_readTest cX12_readTest 4 (some .boolean) ∈ zTG ∧ (yX12_readTest.cls ≠ "java/lang/invoke/MethodHandle" ∧ yX12_readTest.cls ≠ "java/lang/invoke/VarHandle" ∧ (parseMethodDescriptor yX12_readTest.desc).map (fun d => d.parameters.length) = some 0) := ⟨zTG_1 (i := 13) rfl rfl, zTG_8 (i := 219) rfl rfl, by decide +kernel⟩
theorem ck_RX12_462 : zCK RX12 462 yX12_readTest cX12_readTest 4 (some .boolean) 0 := ⟨Or.inl (zTG_8 (i := 216) rfl rfl), cw_X12_readTest⟩
theorem cw_X12_testEnds : Cond.initialized yX12_testEnds.cls ∈ zTG ∧ Cond.code yX12_testEnds cX12_testEnds 1 none ∈ zTG ∧ (yX12_testEnds.cls ≠ "java/lang/invoke/MethodHandle" ∧ yX12_testEnds.cls ≠ "java/lang/invoke/VarHandle" ∧ (parseMethodDescriptor yX12_testEnds.desc).map (fun d => d.parameters.length) = some 0) := ⟨zTG_1 (i := 13) rfl rfl, zTG_8 (i := 238) rfl rfl, by decide +kernel⟩
theorem ck_RX12_466 : zCK RX12 466 yX12_testEnds cX12_testEnds 1 none 0 := ⟨Or.inl (zTG_8 (i := 235) rfl rfl), cw_X12_testEnds⟩
theorem cw_X12_join : Cond.initialized yX12_join.cls ∈ zTG ∧ Cond.code yX12_join cX12_join 2 none ∈ zTG ∧ (yX12_join.cls ≠ "java/lang/invoke/MethodHandle" ∧ yX12_join.cls ≠ "java/lang/invoke/VarHandle" ∧ (parseMethodDescriptor yX12_join.desc).map (fun d => d.parameters.length) = some 1) := ⟨zTG_1 (i := 13) rfl rfl, zTG_9 (i := 6) rfl rfl, by decide +kernel⟩
theorem ck_RX12_469 : zCK RX12 469 yX12_join cX12_join 2 none 1 := ⟨Or.inl (zTG_9 (i := 3) rfl rfl), cw_X12_join⟩
theorem cw_X12_readRule : Cond.initialized yX12_readRule.cls ∈ zTG ∧ Cond.code yX12_readRule cX12_readRule 3 (some .boolean) ∈ zTG ∧ (yX12_readRule.cls ≠ "java/lang/invoke/MethodHandle" ∧ yX12_readRule.cls ≠ "java/lang/invoke/VarHandle" ∧ (parseMethodDescriptor yX12_readRule.desc).map (fun d => d.parameters.length) = some 0) := ⟨zTG_1 (i := 13) rfl rfl, zTG_8 (i := 209) rfl rfl, by decide +kernel⟩
theorem ck_RX12_472 : zCK RX12 472 yX12_readRule cX12_readRule 3 (some .boolean) 0 := ⟨Or.inl (zTG_8 (i := 206) rfl rfl), cw_X12_readRule⟩
theorem cw_X12_faultOfRule : Cond.initialized yX12_faultOfRule.cls ∈ zTG ∧ Cond.code yX12_faultOfRule cX12_faultOfRule 2 (some .int) ∈ zTG ∧ (yX12_faultOfRule.cls ≠ "java/lang/invoke/MethodHandle" ∧ yX12_faultOfRule.cls ≠ "java/lang/invoke/VarHandle" ∧ (parseMethodDescriptor yX12_faultOfRule.desc).map (fun d => d.parameters.length) = some 1) := ⟨zTG_1 (i := 13) rfl rfl, zTG_8 (i := 205) rfl rfl, by decide +kernel⟩
theorem ck_RX12_475 : zCK RX12 475 yX12_faultOfRule cX12_faultOfRule 2 (some .int) 1 := ⟨Or.inl (zTG_8 (i := 202) rfl rfl), cw_X12_faultOfRule⟩
theorem cw_X12_wrongRow : Cond.initialized yX12_wrongRow.cls ∈ zTG ∧ Cond.code yX12_wrongRow cX12_wrongRow 2 (some .int) ∈ zTG ∧ (yX12_wrongRow.cls ≠ "java/lang/invoke/MethodHandle" ∧ yX12_wrongRow.cls ≠ "java/lang/invoke/VarHandle" ∧ (parseMethodDescriptor yX12_wrongRow.desc).map (fun d => d.parameters.length) = some 1) := ⟨zTG_1 (i := 13) rfl rfl, zTG_9 (i := 46) rfl rfl, by decide +kernel⟩
theorem ck_RX12_496 : zCK RX12 496 yX12_wrongRow cX12_wrongRow 2 (some .int) 1 := ⟨Or.inl (zTG_9 (i := 43) rfl rfl), cw_X12_wrongRow⟩
theorem cw_X12_narrowed : Cond.initialized yX12_narrowed.cls ∈ zTG ∧ Cond.code yX12_narrowed cX12_narrowed 2 (some .long) ∈ zTG ∧ (yX12_narrowed.cls ≠ "java/lang/invoke/MethodHandle" ∧ yX12_narrowed.cls ≠ "java/lang/invoke/VarHandle" ∧ (parseMethodDescriptor yX12_narrowed.desc).map (fun d => d.parameters.length) = some 2) := ⟨zTG_1 (i := 13) rfl rfl, zTG_9 (i := 49) rfl rfl, by decide +kernel⟩
theorem ck_RX12_499 : zCK RX12 499 yX12_narrowed cX12_narrowed 2 (some .long) 2 := ⟨Or.inl (zTG_9 (i := 47) rfl rfl), cw_X12_narrowed⟩
theorem cw_X12_wrongShelf : Cond.initialized yX12_wrongShelf.cls ∈ zTG ∧ Cond.code yX12_wrongShelf cX12_wrongShelf 2 (some .int) ∈ zTG ∧ (yX12_wrongShelf.cls ≠ "java/lang/invoke/MethodHandle" ∧ yX12_wrongShelf.cls ≠ "java/lang/invoke/VarHandle" ∧ (parseMethodDescriptor yX12_wrongShelf.desc).map (fun d => d.parameters.length) = some 1) := ⟨zTG_1 (i := 13) rfl rfl, zTG_9 (i := 65) rfl rfl, by decide +kernel⟩
theorem ck_RX12_503 : zCK RX12 503 yX12_wrongShelf cX12_wrongShelf 2 (some .int) 1 := ⟨Or.inl (zTG_9 (i := 62) rfl rfl), cw_X12_wrongShelf⟩
theorem cw_X12_root : Cond.initialized yX12_root.cls ∈ zTG ∧ Cond.code yX12_root cX12_root 2 (some .int) ∈ zTG ∧ (yX12_root.cls ≠ "java/lang/invoke/MethodHandle" ∧ yX12_root.cls ≠ "java/lang/invoke/VarHandle" ∧ (parseMethodDescriptor yX12_root.desc).map (fun d => d.parameters.length) = some 1) := ⟨zTG_1 (i := 13) rfl rfl, zTG_9 (i := 68) rfl rfl, by decide +kernel⟩
theorem ck_RX12_506 : zCK RX12 506 yX12_root cX12_root 2 (some .int) 1 := ⟨Or.inl (zTG_9 (i := 66) rfl rfl), cw_X12_root⟩
theorem ck_RX1_106 : zCK RX1 106 yJ7_fill_53178 cJ7_fill_53178 4 none 2 := ⟨Or.inl (zTG_4 (i := 72) rfl rfl), cw_J7_fill_53178⟩
theorem cw_X1_isNear : Cond.initialized yX1_isNear.cls ∈ zTG ∧ Cond.code yX1_isNear cX1_isNear 17 (some .boolean) ∈ zTG ∧ (yX1_isNear.cls ≠ "java/lang/invoke/MethodHandle" ∧ yX1_isNear.cls ≠ "java/lang/invoke/VarHandle" ∧ (parseMethodDescriptor yX1_isNear.desc).map (fun d => d.parameters.length) = some 4) := ⟨zTG_1 (i := 4) rfl rfl, zTG_4 (i := 91) rfl rfl, by decide +kernel⟩
theorem ck_RX1_112 : zCK RX1 112 yX1_isNear cX1_isNear 17 (some .boolean) 4 := ⟨Or.inl (zTG_4 (i := 88) rfl rfl), cw_X1_isNear⟩
theorem cw_X1_wayOn : Cond.initialized yX1_wayOn.cls ∈ zTG ∧ Cond.code yX1_wayOn cX1_wayOn 8 (some .int) ∈ zTG ∧ (yX1_wayOn.cls ≠ "java/lang/invoke/MethodHandle" ∧ yX1_wayOn.cls ≠ "java/lang/invoke/VarHandle" ∧ (parseMethodDescriptor yX1_wayOn.desc).map (fun d => d.parameters.length) = some 4) := ⟨zTG_1 (i := 4) rfl rfl, zTG_4 (i := 8) rfl rfl, by decide +kernel⟩
theorem ck_RX1_59 : zCK RX1 59 yX1_wayOn cX1_wayOn 8 (some .int) 4 := ⟨Or.inl (zTG_4 (i := 5) rfl rfl), cw_X1_wayOn⟩
theorem cw_X1_listTurns : Cond.initialized yX1_listTurns.cls ∈ zTG ∧ Cond.code yX1_listTurns cX1_listTurns 2 none ∈ zTG ∧ (yX1_listTurns.cls ≠ "java/lang/invoke/MethodHandle" ∧ yX1_listTurns.cls ≠ "java/lang/invoke/VarHandle" ∧ (parseMethodDescriptor yX1_listTurns.desc).map (fun d => d.parameters.length) = some 0) := ⟨zTG_1 (i := 4) rfl rfl, zTG_4 (i := 17) rfl rfl, by decide +kernel⟩
theorem ck_RX1_63 : zCK RX1 63 yX1_listTurns cX1_listTurns 2 none 0 := ⟨Or.inl (zTG_4 (i := 14) rfl rfl), cw_X1_listTurns⟩
theorem cw_X1_isInQuarter : Cond.initialized yX1_isInQuarter.cls ∈ zTG ∧ Cond.code yX1_isInQuarter cX1_isInQuarter 8 (some .boolean) ∈ zTG ∧ (yX1_isInQuarter.cls ≠ "java/lang/invoke/MethodHandle" ∧ yX1_isInQuarter.cls ≠ "java/lang/invoke/VarHandle" ∧ (parseMethodDescriptor yX1_isInQuarter.desc).map (fun d => d.parameters.length) = some 4) := ⟨zTG_1 (i := 4) rfl rfl, zTG_4 (i := 12) rfl rfl, by decide +kernel⟩
theorem ck_RX1_66 : zCK RX1 66 yX1_isInQuarter cX1_isInQuarter 8 (some .boolean) 4 := ⟨Or.inl (zTG_4 (i := 9) rfl rfl), cw_X1_isInQuarter⟩
theorem ck_RX1_79 : zCK RX1 79 yX2_faceAt cX2_faceAt 3 (some .int) 2 := ⟨Or.inl (zTG_4 (i := 13) rfl rfl), cw_X2_faceAt⟩
theorem ck_RX1_86 : zCK RX1 86 yX1_turnAt cX1_turnAt 4 (some .int) 1 := ⟨Or.inl (zTG_4 (i := 18) rfl rfl), cw_X1_turnAt⟩
theorem cw_X1_sumCorners : Cond.initialized yX1_sumCorners.cls ∈ zTG ∧ Cond.code yX1_sumCorners cX1_sumCorners 4 (some .int) ∈ zTG ∧ (yX1_sumCorners.cls ≠ "java/lang/invoke/MethodHandle" ∧ yX1_sumCorners.cls ≠ "java/lang/invoke/VarHandle" ∧ (parseMethodDescriptor yX1_sumCorners.desc).map (fun d => d.parameters.length) = some 2) := ⟨zTG_1 (i := 4) rfl rfl, zTG_4 (i := 61) rfl rfl, by decide +kernel⟩
theorem ck_RX1_90 : zCK RX1 90 yX1_sumCorners cX1_sumCorners 4 (some .int) 2 := ⟨Or.inl (zTG_4 (i := 58) rfl rfl), cw_X1_sumCorners⟩
theorem cw_X1_followCorners : Cond.initialized yX1_followCorners.cls ∈ zTG ∧ Cond.code yX1_followCorners cX1_followCorners 5 none ∈ zTG ∧ (yX1_followCorners.cls ≠ "java/lang/invoke/MethodHandle" ∧ yX1_followCorners.cls ≠ "java/lang/invoke/VarHandle" ∧ (parseMethodDescriptor yX1_followCorners.desc).map (fun d => d.parameters.length) = some 2) := ⟨zTG_1 (i := 4) rfl rfl, zTG_4 (i := 71) rfl rfl, by decide +kernel⟩
theorem ck_RX1_93 : zCK RX1 93 yX1_followCorners cX1_followCorners 5 none 2 := ⟨Or.inl (zTG_4 (i := 68) rfl rfl), cw_X1_followCorners⟩
theorem cw_X1_priceWithout : Cond.initialized yX1_priceWithout.cls ∈ zTG ∧ Cond.code yX1_priceWithout cX1_priceWithout 3 (some .int) ∈ zTG ∧ (yX1_priceWithout.cls ≠ "java/lang/invoke/MethodHandle" ∧ yX1_priceWithout.cls ≠ "java/lang/invoke/VarHandle" ∧ (parseMethodDescriptor yX1_priceWithout.desc).map (fun d => d.parameters.length) = some 1) := ⟨zTG_1 (i := 4) rfl rfl, zTG_4 (i := 66) rfl rfl, by decide +kernel⟩
theorem ck_RX1_98 : zCK RX1 98 yX1_priceWithout cX1_priceWithout 3 (some .int) 1 := ⟨Or.inl (zTG_4 (i := 63) rfl rfl), cw_X1_priceWithout⟩
theorem cw_X2_hasBeside : Cond.initialized yX2_hasBeside.cls ∈ zTG ∧ Cond.code yX2_hasBeside cX2_hasBeside 5 (some .boolean) ∈ zTG ∧ (yX2_hasBeside.cls ≠ "java/lang/invoke/MethodHandle" ∧ yX2_hasBeside.cls ≠ "java/lang/invoke/VarHandle" ∧ (parseMethodDescriptor yX2_hasBeside.desc).map (fun d => d.parameters.length) = some 3) := ⟨zTG_1 (i := 3) rfl rfl, zTG_4 (i := 33) rfl rfl, by decide +kernel⟩
theorem ck_RX2_102 : zCK RX2 102 yX2_hasBeside cX2_hasBeside 5 (some .boolean) 3 := ⟨Or.inl (zTG_4 (i := 30) rfl rfl), cw_X2_hasBeside⟩
theorem cw_X2_seeBeside : Cond.initialized yX2_seeBeside.cls ∈ zTG ∧ Cond.code yX2_seeBeside cX2_seeBeside 7 (some .int) ∈ zTG ∧ (yX2_seeBeside.cls ≠ "java/lang/invoke/MethodHandle" ∧ yX2_seeBeside.cls ≠ "java/lang/invoke/VarHandle" ∧ (parseMethodDescriptor yX2_seeBeside.desc).map (fun d => d.parameters.length) = some 3) := ⟨zTG_1 (i := 3) rfl rfl, zTG_3 (i := 210) rfl rfl, by decide +kernel⟩
theorem ck_RX2_106 : zCK RX2 106 yX2_seeBeside cX2_seeBeside 7 (some .int) 3 := ⟨Or.inl (zTG_3 (i := 207) rfl rfl), cw_X2_seeBeside⟩
theorem cw_X2_countSides : Cond.initialized yX2_countSides.cls ∈ zTG ∧ Cond.code yX2_countSides cX2_countSides 8 none ∈ zTG ∧ (yX2_countSides.cls ≠ "java/lang/invoke/MethodHandle" ∧ yX2_countSides.cls ≠ "java/lang/invoke/VarHandle" ∧ (parseMethodDescriptor yX2_countSides.desc).map (fun d => d.parameters.length) = some 3) := ⟨zTG_1 (i := 3) rfl rfl, zTG_3 (i := 151) rfl rfl, by decide +kernel⟩
theorem ck_RX2_110 : zCK RX2 110 yX2_countSides cX2_countSides 8 none 3 := ⟨Or.inl (zTG_3 (i := 148) rfl rfl), cw_X2_countSides⟩
theorem ck_RX2_123 : zCK RX2 123 yX2_width cX2_width 2 (some .int) 1 := ⟨Or.inl (zTG_3 (i := 193) rfl rfl), cw_X2_width⟩
theorem ck_RX2_130 : zCK RX2 130 yX2_height cX2_height 2 (some .int) 1 := ⟨Or.inl (zTG_3 (i := 194) rfl rfl), cw_X2_height⟩
theorem cw_X2_spreadMark : Cond.initialized yX2_spreadMark.cls ∈ zTG ∧ Cond.code yX2_spreadMark cX2_spreadMark 12 none ∈ zTG ∧ (yX2_spreadMark.cls ≠ "java/lang/invoke/MethodHandle" ∧ yX2_spreadMark.cls ≠ "java/lang/invoke/VarHandle" ∧ (parseMethodDescriptor yX2_spreadMark.desc).map (fun d => d.parameters.length) = some 3) := ⟨zTG_1 (i := 3) rfl rfl, zTG_3 (i := 198) rfl rfl, by decide +kernel⟩
theorem ck_RX2_136 : zCK RX2 136 yX2_spreadMark cX2_spreadMark 12 none 3 := ⟨Or.inl (zTG_3 (i := 195) rfl rfl), cw_X2_spreadMark⟩
theorem cw_X2_isMark : Cond.initialized yX2_isMark.cls ∈ zTG ∧ Cond.code yX2_isMark cX2_isMark 3 (some .boolean) ∈ zTG ∧ (yX2_isMark.cls ≠ "java/lang/invoke/MethodHandle" ∧ yX2_isMark.cls ≠ "java/lang/invoke/VarHandle" ∧ (parseMethodDescriptor yX2_isMark.desc).map (fun d => d.parameters.length) = some 2) := ⟨zTG_1 (i := 3) rfl rfl, zTG_3 (i := 202) rfl rfl, by decide +kernel⟩
theorem ck_RX2_139 : zCK RX2 139 yX2_isMark cX2_isMark 3 (some .boolean) 2 := ⟨Or.inl (zTG_3 (i := 199) rfl rfl), cw_X2_isMark⟩
theorem cw_X2_markAt : Cond.initialized yX2_markAt.cls ∈ zTG ∧ Cond.code yX2_markAt cX2_markAt 5 (some .int) ∈ zTG ∧ (yX2_markAt.cls ≠ "java/lang/invoke/MethodHandle" ∧ yX2_markAt.cls ≠ "java/lang/invoke/VarHandle" ∧ (parseMethodDescriptor yX2_markAt.desc).map (fun d => d.parameters.length) = some 2) := ⟨zTG_1 (i := 3) rfl rfl, zTG_3 (i := 223) rfl rfl, by decide +kernel⟩
theorem ck_RX2_143 : zCK RX2 143 yX2_markAt cX2_markAt 5 (some .int) 2 := ⟨Or.inl (zTG_3 (i := 220) rfl rfl), cw_X2_markAt⟩
theorem ck_RX2_146 : zCK RX2 146 yX2_markHoles cX2_markHoles 5 (some .int) 1 := ⟨Or.inl (zTG_3 (i := 219) rfl rfl), cw_X2_markHoles⟩
theorem ck_RX2_149 : zCK RX2 149 yX2_liesIn cX2_liesIn 6 (some .boolean) 2 := ⟨Or.inl (zTG_3 (i := 215) rfl rfl), cw_X2_liesIn⟩
theorem ck_RX2_59 : zCK RX2 59 yJ7_fill_53178 cJ7_fill_53178 4 none 2 := ⟨Or.inl (zTG_3 (i := 115) rfl rfl), cw_J7_fill_53178⟩
theorem ck_RX2_71 : zCK RX2 71 yX2_faceAt cX2_faceAt 3 (some .int) 2 := ⟨Or.inl (zTG_3 (i := 118) rfl rfl), cw_X2_faceAt⟩
theorem cw_X2_spread : Cond.initialized yX2_spread.cls ∈ zTG ∧ Cond.code yX2_spread cX2_spread 13 none ∈ zTG ∧ (yX2_spread.cls ≠ "java/lang/invoke/MethodHandle" ∧ yX2_spread.cls ≠ "java/lang/invoke/VarHandle" ∧ (parseMethodDescriptor yX2_spread.desc).map (fun d => d.parameters.length) = some 3) := ⟨zTG_1 (i := 3) rfl rfl, zTG_3 (i := 125) rfl rfl, by decide +kernel⟩
theorem ck_RX2_75 : zCK RX2 75 yX2_spread cX2_spread 13 none 3 := ⟨Or.inl (zTG_3 (i := 122) rfl rfl), cw_X2_spread⟩
theorem ck_RX2_79 : zCK RX2 79 yX0_colourAt cX0_colourAt 3 (some .int) 2 := ⟨Or.inl (zTG_3 (i := 126) rfl rfl), cw_X0_colourAt⟩
theorem cw_X2_takeIn : Cond.initialized yX2_takeIn.cls ∈ zTG ∧ Cond.code yX2_takeIn cX2_takeIn 4 none ∈ zTG ∧ (yX2_takeIn.cls ≠ "java/lang/invoke/MethodHandle" ∧ yX2_takeIn.cls ≠ "java/lang/invoke/VarHandle" ∧ (parseMethodDescriptor yX2_takeIn.desc).map (fun d => d.parameters.length) = some 3) := ⟨zTG_1 (i := 3) rfl rfl, zTG_3 (i := 133) rfl rfl, by decide +kernel⟩
theorem ck_RX2_85 : zCK RX2 85 yX2_takeIn cX2_takeIn 4 none 3 := ⟨Or.inl (zTG_3 (i := 130) rfl rfl), cw_X2_takeIn⟩
theorem cw_X3_exchange : Cond.initialized yX3_exchange.cls ∈ zTG ∧ Cond.code yX3_exchange cX3_exchange 3 (some .int) ∈ zTG ∧ (yX3_exchange.cls ≠ "java/lang/invoke/MethodHandle" ∧ yX3_exchange.cls ≠ "java/lang/invoke/VarHandle" ∧ (parseMethodDescriptor yX3_exchange.desc).map (fun d => d.parameters.length) = some 2) := ⟨zTG_1 (i := 12) rfl rfl, zTG_5 (i := 130) rfl rfl, by decide +kernel⟩
theorem ck_RX3_32 : zCK RX3 32 yX3_exchange cX3_exchange 3 (some .int) 2 := ⟨Or.inl (zTG_5 (i := 127) rfl rfl), cw_X3_exchange⟩
theorem ck_RX3_36 : zCK RX3 36 yX0_startDraft cX0_startDraft 1 none 0 := ⟨Or.inl (zTG_5 (i := 131) rfl rfl), cw_X0_startDraft⟩
theorem ck_RX3_51 : zCK RX3 51 yX0_countDraftChanges cX0_countDraftChanges 3 (some .int) 0 := ⟨Or.inl (zTG_5 (i := 132) rfl rfl), cw_X0_countDraftChanges⟩
theorem ck_RX4_22 : zCK RX4 22 yJ7_fill_53178 cJ7_fill_53178 4 none 2 := ⟨Or.inl (zTG_4 (i := 207) rfl rfl), cw_J7_fill_53178⟩
theorem ck_RX4_37 : zCK RX4 37 yX0_colourAt cX0_colourAt 3 (some .int) 2 := ⟨Or.inl (zTG_4 (i := 208) rfl rfl), cw_X0_colourAt⟩
theorem ck_RX4_41 : zCK RX4 41 yX11_isColour cX11_isColour 1 (some .boolean) 1 := ⟨Or.inr ⟨"DotLines", by simp [zNL, TX1, RX11]⟩, cw_X11_isColour⟩
theorem ck_RX4_45 : zCK RX4 45 yX4_countColours cX4_countColours 4 (some .int) 0 := ⟨Or.inl (zTG_4 (i := 203) rfl rfl), cw_X4_countColours⟩
theorem cw_J6_bitCount_0f7a4 : Cond.initialized yJ6_bitCount_0f7a4.cls ∈ zTG ∧ Cond.code yJ6_bitCount_0f7a4 cJ6_bitCount_0f7a4 1 (some .int) ∈ zTG ∧ (yJ6_bitCount_0f7a4.cls ≠ "java/lang/invoke/MethodHandle" ∧ yJ6_bitCount_0f7a4.cls ≠ "java/lang/invoke/VarHandle" ∧ (parseMethodDescriptor yJ6_bitCount_0f7a4.desc).map (fun d => d.parameters.length) = some 1) := ⟨zTG_1 (i := 17) rfl rfl, zTG_4 (i := 212) rfl rfl, by decide +kernel⟩
theorem ck_RX4_55 : zCK RX4 55 yJ6_bitCount_0f7a4 cJ6_bitCount_0f7a4 1 (some .int) 1 := ⟨Or.inl (zTG_4 (i := 210) rfl rfl), cw_J6_bitCount_0f7a4⟩
theorem cw_X4_asSet : Cond.initialized yX4_asSet.cls ∈ zTG ∧ Cond.code yX4_asSet cX4_asSet 5 (some .int) ∈ zTG ∧ (yX4_asSet.cls ≠ "java/lang/invoke/MethodHandle" ∧ yX4_asSet.cls ≠ "java/lang/invoke/VarHandle" ∧ (parseMethodDescriptor yX4_asSet.desc).map (fun d => d.parameters.length) = some 2) := ⟨zTG_1 (i := 8) rfl rfl, zTG_4 (i := 219) rfl rfl, by decide +kernel⟩
theorem ck_RX4_61 : zCK RX4 61 yX4_asSet cX4_asSet 5 (some .int) 2 := ⟨Or.inl (zTG_4 (i := 216) rfl rfl), cw_X4_asSet⟩
theorem cw_X4_sumWith : Cond.initialized yX4_sumWith.cls ∈ zTG ∧ Cond.code yX4_sumWith cX4_sumWith 5 (some .int) ∈ zTG ∧ (yX4_sumWith.cls ≠ "java/lang/invoke/MethodHandle" ∧ yX4_sumWith.cls ≠ "java/lang/invoke/VarHandle" ∧ (parseMethodDescriptor yX4_sumWith.desc).map (fun d => d.parameters.length) = some 1) := ⟨zTG_1 (i := 8) rfl rfl, zTG_4 (i := 223) rfl rfl, by decide +kernel⟩
theorem ck_RX4_64 : zCK RX4 64 yX4_sumWith cX4_sumWith 5 (some .int) 1 := ⟨Or.inl (zTG_4 (i := 220) rfl rfl), cw_X4_sumWith⟩
theorem cw_X4_nearest : Cond.initialized yX4_nearest.cls ∈ zTG ∧ Cond.code yX4_nearest cX4_nearest 6 (some .int) ∈ zTG ∧ (yX4_nearest.cls ≠ "java/lang/invoke/MethodHandle" ∧ yX4_nearest.cls ≠ "java/lang/invoke/VarHandle" ∧ (parseMethodDescriptor yX4_nearest.desc).map (fun d => d.parameters.length) = some 2) := ⟨zTG_1 (i := 8) rfl rfl, zTG_4 (i := 227) rfl rfl, by decide +kernel⟩
theorem ck_RX4_67 : zCK RX4 67 yX4_nearest cX4_nearest 6 (some .int) 2 := ⟨Or.inl (zTG_4 (i := 224) rfl rfl), cw_X4_nearest⟩
theorem cw_X4_distance : Cond.initialized yX4_distance.cls ∈ zTG ∧ Cond.code yX4_distance cX4_distance 3 (some .int) ∈ zTG ∧ (yX4_distance.cls ≠ "java/lang/invoke/MethodHandle" ∧ yX4_distance.cls ≠ "java/lang/invoke/VarHandle" ∧ (parseMethodDescriptor yX4_distance.desc).map (fun d => d.parameters.length) = some 2) := ⟨zTG_1 (i := 8) rfl rfl, zTG_4 (i := 232) rfl rfl, by decide +kernel⟩
theorem ck_RX4_70 : zCK RX4 70 yX4_distance cX4_distance 3 (some .int) 2 := ⟨Or.inl (zTG_4 (i := 229) rfl rfl), cw_X4_distance⟩
theorem ck_RX4_82 : zCK RX4 82 yX0_isDot cX0_isDot 2 (some .boolean) 1 := ⟨Or.inl (zTG_5 (i := 4) rfl rfl), cw_X0_isDot⟩
theorem ck_RX5_34 : zCK RX5 34 yX2_colour cX2_colour 2 (some .int) 1 := ⟨Or.inl (zTG_5 (i := 13) rfl rfl), cw_X2_colour⟩
theorem cw_X5_leastFrom : Cond.initialized yX5_leastFrom.cls ∈ zTG ∧ Cond.code yX5_leastFrom cX5_leastFrom 5 (some .int) ∈ zTG ∧ (yX5_leastFrom.cls ≠ "java/lang/invoke/MethodHandle" ∧ yX5_leastFrom.cls ≠ "java/lang/invoke/VarHandle" ∧ (parseMethodDescriptor yX5_leastFrom.desc).map (fun d => d.parameters.length) = some 2) := ⟨zTG_1 (i := 9) rfl rfl, zTG_5 (i := 21) rfl rfl, by decide +kernel⟩
theorem ck_RX5_38 : zCK RX5 38 yX5_leastFrom cX5_leastFrom 5 (some .int) 2 := ⟨Or.inl (zTG_5 (i := 18) rfl rfl), cw_X5_leastFrom⟩
theorem cw_X5_firstBest : Cond.initialized yX5_firstBest.cls ∈ zTG ∧ Cond.code yX5_firstBest cX5_firstBest 5 (some .int) ∈ zTG ∧ (yX5_firstBest.cls ≠ "java/lang/invoke/MethodHandle" ∧ yX5_firstBest.cls ≠ "java/lang/invoke/VarHandle" ∧ (parseMethodDescriptor yX5_firstBest.desc).map (fun d => d.parameters.length) = some 2) := ⟨zTG_1 (i := 9) rfl rfl, zTG_5 (i := 36) rfl rfl, by decide +kernel⟩
theorem ck_RX5_45 : zCK RX5 45 yX5_firstBest cX5_firstBest 5 (some .int) 2 := ⟨Or.inl (zTG_5 (i := 33) rfl rfl), cw_X5_firstBest⟩
theorem cw_X5_wayOver : Cond.initialized yX5_wayOver.cls ∈ zTG ∧ Cond.code yX5_wayOver cX5_wayOver 5 (some .int) ∈ zTG ∧ (yX5_wayOver.cls ≠ "java/lang/invoke/MethodHandle" ∧ yX5_wayOver.cls ≠ "java/lang/invoke/VarHandle" ∧ (parseMethodDescriptor yX5_wayOver.desc).map (fun d => d.parameters.length) = some 3) := ⟨zTG_1 (i := 9) rfl rfl, zTG_5 (i := 26) rfl rfl, by decide +kernel⟩
theorem ck_RX5_49 : zCK RX5 49 yX5_wayOver cX5_wayOver 5 (some .int) 3 := ⟨Or.inl (zTG_5 (i := 23) rfl rfl), cw_X5_wayOver⟩
theorem cw_X5_distance : Cond.initialized yX5_distance.cls ∈ zTG ∧ Cond.code yX5_distance cX5_distance 5 (some .int) ∈ zTG ∧ (yX5_distance.cls ≠ "java/lang/invoke/MethodHandle" ∧ yX5_distance.cls ≠ "java/lang/invoke/VarHandle" ∧ (parseMethodDescriptor yX5_distance.desc).map (fun d => d.parameters.length) = some 2) := ⟨zTG_1 (i := 9) rfl rfl, zTG_5 (i := 30) rfl rfl, by decide +kernel⟩
theorem ck_RX5_58 : zCK RX5 58 yX5_distance cX5_distance 5 (some .int) 2 := ⟨Or.inl (zTG_5 (i := 27) rfl rfl), cw_X5_distance⟩
theorem ck_RX6_35 : zCK RX6 35 yX1_trace cX1_trace 8 none 1 := ⟨Or.inl (zTG_4 (i := 101) rfl rfl), cw_X1_trace⟩
theorem cw_X6_lookAhead : Cond.initialized yX6_lookAhead.cls ∈ zTG ∧ Cond.code yX6_lookAhead cX6_lookAhead 9 none ∈ zTG ∧ (yX6_lookAhead.cls ≠ "java/lang/invoke/MethodHandle" ∧ yX6_lookAhead.cls ≠ "java/lang/invoke/VarHandle" ∧ (parseMethodDescriptor yX6_lookAhead.desc).map (fun d => d.parameters.length) = some 3) := ⟨zTG_1 (i := 6) rfl rfl, zTG_4 (i := 105) rfl rfl, by decide +kernel⟩
theorem ck_RX6_51 : zCK RX6 51 yX6_lookAhead cX6_lookAhead 9 none 3 := ⟨Or.inl (zTG_4 (i := 102) rfl rfl), cw_X6_lookAhead⟩
theorem cw_X6_follow : Cond.initialized yX6_follow.cls ∈ zTG ∧ Cond.code yX6_follow cX6_follow 4 none ∈ zTG ∧ (yX6_follow.cls ≠ "java/lang/invoke/MethodHandle" ∧ yX6_follow.cls ≠ "java/lang/invoke/VarHandle" ∧ (parseMethodDescriptor yX6_follow.desc).map (fun d => d.parameters.length) = some 1) := ⟨zTG_1 (i := 6) rfl rfl, zTG_4 (i := 115) rfl rfl, by decide +kernel⟩
theorem ck_RX6_55 : zCK RX6 55 yX6_follow cX6_follow 4 none 1 := ⟨Or.inl (zTG_4 (i := 112) rfl rfl), cw_X6_follow⟩
theorem cw_X6_staysNear : Cond.initialized yX6_staysNear.cls ∈ zTG ∧ Cond.code yX6_staysNear cX6_staysNear 5 (some .boolean) ∈ zTG ∧ (yX6_staysNear.cls ≠ "java/lang/invoke/MethodHandle" ∧ yX6_staysNear.cls ≠ "java/lang/invoke/VarHandle" ∧ (parseMethodDescriptor yX6_staysNear.desc).map (fun d => d.parameters.length) = some 3) := ⟨zTG_1 (i := 6) rfl rfl, zTG_4 (i := 110) rfl rfl, by decide +kernel⟩
theorem ck_RX6_59 : zCK RX6 59 yX6_staysNear cX6_staysNear 5 (some .boolean) 3 := ⟨Or.inl (zTG_4 (i := 107) rfl rfl), cw_X6_staysNear⟩
theorem ck_RX6_69 : zCK RX6 69 yX1_isNear cX1_isNear 17 (some .boolean) 4 := ⟨Or.inl (zTG_4 (i := 111) rfl rfl), cw_X1_isNear⟩
theorem cw_X6_isCrossed : Cond.initialized yX6_isCrossed.cls ∈ zTG ∧ Cond.code yX6_isCrossed cX6_isCrossed 10 (some .boolean) ∈ zTG ∧ (yX6_isCrossed.cls ≠ "java/lang/invoke/MethodHandle" ∧ yX6_isCrossed.cls ≠ "java/lang/invoke/VarHandle" ∧ (parseMethodDescriptor yX6_isCrossed.desc).map (fun d => d.parameters.length) = some 4) := ⟨zTG_1 (i := 6) rfl rfl, zTG_4 (i := 127) rfl rfl, by decide +kernel⟩
theorem ck_RX6_76 : zCK RX6 76 yX6_isCrossed cX6_isCrossed 10 (some .boolean) 4 := ⟨Or.inl (zTG_4 (i := 124) rfl rfl), cw_X6_isCrossed⟩
theorem cw_X7_byteAhead : Cond.initialized yX7_byteAhead.cls ∈ zTG ∧ Cond.code yX7_byteAhead cX7_byteAhead 1 (some .int) ∈ zTG ∧ (yX7_byteAhead.cls ≠ "java/lang/invoke/MethodHandle" ∧ yX7_byteAhead.cls ≠ "java/lang/invoke/VarHandle" ∧ (parseMethodDescriptor yX7_byteAhead.desc).map (fun d => d.parameters.length) = some 0) := ⟨zTG_1 (i := 11) rfl rfl, zTG_5 (i := 49) rfl rfl, by decide +kernel⟩
theorem ck_RX7_34 : zCK RX7 34 yX7_byteAhead cX7_byteAhead 1 (some .int) 0 := ⟨Or.inl (zTG_5 (i := 46) rfl rfl), cw_X7_byteAhead⟩
theorem cw_X7_stop : Cond.initialized yX7_stop.cls ∈ zTG ∧ Cond.code yX7_stop cX7_stop 1 none ∈ zTG ∧ (yX7_stop.cls ≠ "java/lang/invoke/MethodHandle" ∧ yX7_stop.cls ≠ "java/lang/invoke/VarHandle" ∧ (parseMethodDescriptor yX7_stop.desc).map (fun d => d.parameters.length) = some 0) := ⟨zTG_1 (i := 11) rfl rfl, zTG_5 (i := 53) rfl rfl, by decide +kernel⟩
theorem ck_RX7_38 : zCK RX7 38 yX7_stop cX7_stop 1 none 0 := ⟨Or.inl (zTG_5 (i := 50) rfl rfl), cw_X7_stop⟩
theorem cw_X7_take : Cond.initialized yX7_take.cls ∈ zTG ∧ Cond.code yX7_take cX7_take 2 none ∈ zTG ∧ (yX7_take.cls ≠ "java/lang/invoke/MethodHandle" ∧ yX7_take.cls ≠ "java/lang/invoke/VarHandle" ∧ (parseMethodDescriptor yX7_take.desc).map (fun d => d.parameters.length) = some 1) := ⟨zTG_1 (i := 11) rfl rfl, zTG_5 (i := 57) rfl rfl, by decide +kernel⟩
theorem ck_RX7_41 : zCK RX7 41 yX7_take cX7_take 2 none 1 := ⟨Or.inl (zTG_5 (i := 54) rfl rfl), cw_X7_take⟩
theorem cw_X7_readOr : Cond.initialized yX7_readOr.cls ∈ zTG ∧ Cond.code yX7_readOr cX7_readOr 5 (some .boolean) ∈ zTG ∧ (yX7_readOr.cls ≠ "java/lang/invoke/MethodHandle" ∧ yX7_readOr.cls ≠ "java/lang/invoke/VarHandle" ∧ (parseMethodDescriptor yX7_readOr.desc).map (fun d => d.parameters.length) = some 1) := ⟨zTG_1 (i := 11) rfl rfl, zTG_5 (i := 61) rfl rfl, by decide +kernel⟩
theorem ck_RX7_45 : zCK RX7 45 yX7_readOr cX7_readOr 5 (some .boolean) 1 := ⟨Or.inl (zTG_5 (i := 58) rfl rfl), cw_X7_readOr⟩
theorem cw_X7_readAnd : Cond.initialized yX7_readAnd.cls ∈ zTG ∧ Cond.code yX7_readAnd cX7_readAnd 5 (some .boolean) ∈ zTG ∧ (yX7_readAnd.cls ≠ "java/lang/invoke/MethodHandle" ∧ yX7_readAnd.cls ≠ "java/lang/invoke/VarHandle" ∧ (parseMethodDescriptor yX7_readAnd.desc).map (fun d => d.parameters.length) = some 1) := ⟨zTG_1 (i := 11) rfl rfl, zTG_5 (i := 65) rfl rfl, by decide +kernel⟩
theorem ck_RX7_49 : zCK RX7 49 yX7_readAnd cX7_readAnd 5 (some .boolean) 1 := ⟨Or.inl (zTG_5 (i := 62) rfl rfl), cw_X7_readAnd⟩
theorem cw_X7_readTest : Cond.initialized yX7_readTest.cls ∈ zTG ∧ Cond.code yX7_readTest cX7_readTest 4 (some .boolean) ∈ zTG ∧ (yX7_readTest.cls ≠ "java/lang/invoke/MethodHandle" ∧ yX7_readTest.cls ≠ "java/lang/invoke/VarHandle" ∧ (parseMethodDescriptor yX7_readTest.desc).map (fun d => d.parameters.length) = some 1) := ⟨zTG_1 (i := 11) rfl rfl, zTG_5 (i := 69) rfl rfl, by decide +kernel⟩
theorem ck_RX7_52 : zCK RX7 52 yX7_readTest cX7_readTest 4 (some .boolean) 1 := ⟨Or.inl (zTG_5 (i := 66) rfl rfl), cw_X7_readTest⟩
theorem cw_X7_readBracket : Cond.initialized yX7_readBracket.cls ∈ zTG ∧ Cond.code yX7_readBracket cX7_readBracket 3 (some .boolean) ∈ zTG ∧ (yX7_readBracket.cls ≠ "java/lang/invoke/MethodHandle" ∧ yX7_readBracket.cls ≠ "java/lang/invoke/VarHandle" ∧ (parseMethodDescriptor yX7_readBracket.desc).map (fun d => d.parameters.length) = some 1) := ⟨zTG_1 (i := 11) rfl rfl, zTG_5 (i := 73) rfl rfl, by decide +kernel⟩
theorem ck_RX7_55 : zCK RX7 55 yX7_readBracket cX7_readBracket 3 (some .boolean) 1 := ⟨Or.inl (zTG_5 (i := 70) rfl rfl), cw_X7_readBracket⟩
theorem cw_X7_readComparison : Cond.initialized yX7_readComparison.cls ∈ zTG ∧ Cond.code yX7_readComparison cX7_readComparison 4 (some .boolean) ∈ zTG ∧ (yX7_readComparison.cls ≠ "java/lang/invoke/MethodHandle" ∧ yX7_readComparison.cls ≠ "java/lang/invoke/VarHandle" ∧ (parseMethodDescriptor yX7_readComparison.desc).map (fun d => d.parameters.length) = some 0) := ⟨zTG_1 (i := 11) rfl rfl, zTG_5 (i := 77) rfl rfl, by decide +kernel⟩
theorem ck_RX7_58 : zCK RX7 58 yX7_readComparison cX7_readComparison 4 (some .boolean) 0 := ⟨Or.inl (zTG_5 (i := 74) rfl rfl), cw_X7_readComparison⟩
theorem cw_X7_readSum : Cond.initialized yX7_readSum.cls ∈ zTG ∧ Cond.code yX7_readSum cX7_readSum 5 (some .int) ∈ zTG ∧ (yX7_readSum.cls ≠ "java/lang/invoke/MethodHandle" ∧ yX7_readSum.cls ≠ "java/lang/invoke/VarHandle" ∧ (parseMethodDescriptor yX7_readSum.desc).map (fun d => d.parameters.length) = some 0) := ⟨zTG_1 (i := 11) rfl rfl, zTG_5 (i := 81) rfl rfl, by decide +kernel⟩
theorem ck_RX7_62 : zCK RX7 62 yX7_readSum cX7_readSum 5 (some .int) 0 := ⟨Or.inl (zTG_5 (i := 78) rfl rfl), cw_X7_readSum⟩
theorem cw_X7_readAtom : Cond.initialized yX7_readAtom.cls ∈ zTG ∧ Cond.code yX7_readAtom cX7_readAtom 2 (some .int) ∈ zTG ∧ (yX7_readAtom.cls ≠ "java/lang/invoke/MethodHandle" ∧ yX7_readAtom.cls ≠ "java/lang/invoke/VarHandle" ∧ (parseMethodDescriptor yX7_readAtom.desc).map (fun d => d.parameters.length) = some 0) := ⟨zTG_1 (i := 11) rfl rfl, zTG_5 (i := 85) rfl rfl, by decide +kernel⟩
theorem ck_RX7_65 : zCK RX7 65 yX7_readAtom cX7_readAtom 2 (some .int) 0 := ⟨Or.inl (zTG_5 (i := 82) rfl rfl), cw_X7_readAtom⟩
theorem ck_RX7_68 : zCK RX7 68 yX11_isDigit cX11_isDigit 1 (some .boolean) 1 := ⟨Or.inr ⟨"DotLines", by simp [zNL, TX1, RX11]⟩, cw_X11_isDigit⟩
theorem cw_X7_readNumber : Cond.initialized yX7_readNumber.cls ∈ zTG ∧ Cond.code yX7_readNumber cX7_readNumber 3 (some .int) ∈ zTG ∧ (yX7_readNumber.cls ≠ "java/lang/invoke/MethodHandle" ∧ yX7_readNumber.cls ≠ "java/lang/invoke/VarHandle" ∧ (parseMethodDescriptor yX7_readNumber.desc).map (fun d => d.parameters.length) = some 0) := ⟨zTG_1 (i := 11) rfl rfl, zTG_5 (i := 90) rfl rfl, by decide +kernel⟩
theorem ck_RX7_71 : zCK RX7 71 yX7_readNumber cX7_readNumber 3 (some .int) 0 := ⟨Or.inl (zTG_5 (i := 87) rfl rfl), cw_X7_readNumber⟩
theorem cw_X7_fieldOf : Cond.initialized yX7_fieldOf.cls ∈ zTG ∧ Cond.code yX7_fieldOf cX7_fieldOf 1 (some .int) ∈ zTG ∧ (yX7_fieldOf.cls ≠ "java/lang/invoke/MethodHandle" ∧ yX7_fieldOf.cls ≠ "java/lang/invoke/VarHandle" ∧ (parseMethodDescriptor yX7_fieldOf.desc).map (fun d => d.parameters.length) = some 1) := ⟨zTG_1 (i := 11) rfl rfl, zTG_5 (i := 93) rfl rfl, by decide +kernel⟩
theorem ck_RX7_74 : zCK RX7 74 yX7_fieldOf cX7_fieldOf 1 (some .int) 1 := ⟨Or.inl (zTG_5 (i := 91) rfl rfl), cw_X7_fieldOf⟩
theorem cw_X9_squareAt : Cond.initialized yX9_squareAt.cls ∈ zTG ∧ Cond.code yX9_squareAt cX9_squareAt 3 (some .int) ∈ zTG ∧ (yX9_squareAt.cls ≠ "java/lang/invoke/MethodHandle" ∧ yX9_squareAt.cls ≠ "java/lang/invoke/VarHandle" ∧ (parseMethodDescriptor yX9_squareAt.desc).map (fun d => d.parameters.length) = some 2) := ⟨zTG_1 (i := 7) rfl rfl, zTG_3 (i := 235) rfl rfl, by decide +kernel⟩
theorem ck_RX9_37 : zCK RX9 37 yX9_squareAt cX9_squareAt 3 (some .int) 2 := ⟨Or.inl (zTG_3 (i := 232) rfl rfl), cw_X9_squareAt⟩
theorem ck_RX9_46 : zCK RX9 46 yX2_faceAt cX2_faceAt 3 (some .int) 2 := ⟨Or.inl (zTG_3 (i := 237) rfl rfl), cw_X2_faceAt⟩
theorem ck_RX9_49 : zCK RX9 49 yX9_growSquares cX9_growSquares 5 none 1 := ⟨Or.inl (zTG_3 (i := 228) rfl rfl), cw_X9_growSquares⟩
theorem cw_X9_roomAround : Cond.initialized yX9_roomAround.cls ∈ zTG ∧ Cond.code yX9_roomAround cX9_roomAround 5 (some .int) ∈ zTG ∧ (yX9_roomAround.cls ≠ "java/lang/invoke/MethodHandle" ∧ yX9_roomAround.cls ≠ "java/lang/invoke/VarHandle" ∧ (parseMethodDescriptor yX9_roomAround.desc).map (fun d => d.parameters.length) = some 2) := ⟨zTG_1 (i := 7) rfl rfl, zTG_4 (i := 152) rfl rfl, by decide +kernel⟩
theorem ck_RX9_56 : zCK RX9 56 yX9_roomAround cX9_roomAround 5 (some .int) 2 := ⟨Or.inl (zTG_4 (i := 149) rfl rfl), cw_X9_roomAround⟩
theorem cw_X9_liesOn : Cond.initialized yX9_liesOn.cls ∈ zTG ∧ Cond.code yX9_liesOn cX9_liesOn 13 (some .boolean) ∈ zTG ∧ (yX9_liesOn.cls ≠ "java/lang/invoke/MethodHandle" ∧ yX9_liesOn.cls ≠ "java/lang/invoke/VarHandle" ∧ (parseMethodDescriptor yX9_liesOn.desc).map (fun d => d.parameters.length) = some 3) := ⟨zTG_1 (i := 7) rfl rfl, zTG_4 (i := 171) rfl rfl, by decide +kernel⟩
theorem ck_RX9_68 : zCK RX9 68 yX9_liesOn cX9_liesOn 13 (some .boolean) 3 := ⟨Or.inl (zTG_4 (i := 168) rfl rfl), cw_X9_liesOn⟩
theorem ck_RX9_72 : zCK RX9 72 yX2_width cX2_width 2 (some .int) 1 := ⟨Or.inl (zTG_4 (i := 172) rfl rfl), cw_X2_width⟩
theorem ck_RX9_76 : zCK RX9 76 yX2_height cX2_height 2 (some .int) 1 := ⟨Or.inl (zTG_4 (i := 173) rfl rfl), cw_X2_height⟩
theorem cw_X9_isIn : Cond.initialized yX9_isIn.cls ∈ zTG ∧ Cond.code yX9_isIn cX9_isIn 4 (some .boolean) ∈ zTG ∧ (yX9_isIn.cls ≠ "java/lang/invoke/MethodHandle" ∧ yX9_isIn.cls ≠ "java/lang/invoke/VarHandle" ∧ (parseMethodDescriptor yX9_isIn.desc).map (fun d => d.parameters.length) = some 3) := ⟨zTG_1 (i := 7) rfl rfl, zTG_4 (i := 177) rfl rfl, by decide +kernel⟩
theorem ck_RX9_79 : zCK RX9 79 yX9_isIn cX9_isIn 4 (some .boolean) 3 := ⟨Or.inl (zTG_4 (i := 174) rfl rfl), cw_X9_isIn⟩
theorem ck_RX9_88 : zCK RX9 88 yX9_areLike cX9_areLike 4 (some .boolean) 2 := ⟨Or.inl (zTG_4 (i := 194) rfl rfl), cw_X9_areLike⟩
theorem ck_RX9_95 : zCK RX9 95 yX9_firstLike cX9_firstLike 3 (some .int) 1 := ⟨Or.inl (zTG_5 (i := 174) rfl rfl), cw_X9_firstLike⟩
